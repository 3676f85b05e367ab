/-! What constructors make: rows of a heap that grows. -/
def fh (lo : Nat) (F : Nat → pm_E) (c s : Nat) (M : pm_M) : pm_M := (c, s, fun q => if lo ≤ q ∧ q < 8 + c then F q else M.2.2 q)
def uF (F : Nat → pm_E) (p : Nat) (e : pm_E) : Nat → pm_E := fun q => if q = p then e else F q
theorem uF_at {F : Nat → pm_E} {p : Nat} {e : pm_E} : uF F p e p = e := by unfold uF; rw [if_pos rfl]
theorem uF_ne {F : Nat → pm_E} {p q : Nat} {e : pm_E} (h : q ≠ p) : uF F p e q = F q := by unfold uF; rw [if_neg h]
section FH
variable {d i pc : Nat} {L : pm_L} {st : List Value} {M : pm_M} {Q : pm_R → pm_M → Prop} {a b : Nat} {v : Int32} {ts : List Nat} {lo c s : Nat} {F : Nat → pm_E}
theorem fh_mk {n : Nat} {e : pm_E} (h : lo ≤ 8 + c) : pm_mk (fh lo F c s M) n e = fh lo (uF F (8 + c) e) (c + 1) (s + n) M := by
  unfold pm_mk fh uF
  refine Prod.ext rfl (Prod.ext rfl ?_)
  funext q
  dsimp only
  by_cases h1 : q = 8 + c
  · rw [if_pos h1, if_pos (by omega), if_pos h1]
  · rw [if_neg h1]
    by_cases h2 : lo ≤ q ∧ q < 8 + c
    · rw [if_pos h2, if_pos (by omega), if_neg h1]
    · rw [if_neg h2, if_neg (by omega)]
theorem fh_up {p : Nat} {e : pm_E} (h : lo ≤ p ∧ p < 8 + c) : pm_up (fh lo F c s M) p e = fh lo (uF F p e) c s M := by
  unfold pm_up fh uF
  refine Prod.ext rfl (Prod.ext rfl ?_)
  funext q
  dsimp only
  by_cases h1 : q = p
  · rw [if_pos h1, if_pos (by omega), if_pos h1]
  · rw [if_neg h1, if_neg h1]
theorem fh_in {p : Nat} (h : lo ≤ p ∧ p < 8 + c) : (fh lo F c s M).2.2 p = F p := by
  show (if lo ≤ p ∧ p < 8 + c then F p else _) = _
  rw [if_pos h]
theorem fh_eq {F' : Nat → pm_E} (h : ∀ q, lo ≤ q → q < 8 + c → F q = F' q) : fh lo F c s M = fh lo F' c s M := by
  unfold fh
  refine Prod.ext rfl (Prod.ext rfl ?_)
  funext q
  dsimp only
  split
  · rename_i h1; exact h q h1.1 h1.2
  · rfl
theorem ef_put {n p : Nat} {fs fs' : List Value} {x : Value} (ht : tb_in i pc = some (.putfield n, a, b, v, ts)) (h8 : 8 ≤ lo) (hp : lo ≤ p ∧ p < 8 + c) (hF : F p = .inr (a, fs)) (hb : b < fs.length) (h1 : narrow (tb_ft a b) x = x) (h2 : fits (tb_ft a b) x = true) (he : fs.set b x = fs') (kk : Ev d i (pc + 3) L st (fh lo (uF F p (.inr (a, fs'))) c s M) Q) : Ev d i pc L (x :: .ref p :: st) (fh lo F c s M) Q :=
  ev_n (F := (pc + 3, L, st, fh lo (uF F p (.inr (a, fs'))) c s M)) ht rfl (by
    simp only [pm_nx, pm_vr, pm_obj]
    rw [fh_in hp, hF]
    dsimp only
    rw [if_pos ⟨rfl, by omega, hb, h1, h2⟩, fh_up hp, he]) kk
theorem ef_get {n p : Nat} {fs : List Value} {x : Value} (ht : tb_in i pc = some (.getfield n, a, b, v, ts)) (hp : lo ≤ p ∧ p < 8 + c) (hF : F p = .inr (a, fs)) (hv : fs[b]? = some x) (kk : Ev d i (pc + 3) L (x :: st) (fh lo F c s M) Q) : Ev d i pc L (.ref p :: st) (fh lo F c s M) Q :=
  ev_n (F := (pc + 3, L, x :: st, fh lo F c s M)) ht rfl (by simp only [pm_nx, pm_r1, pm_obj]; rw [fh_in hp, hF]; simp [hv]) kk
theorem ef_new {n q c' s' : Nat} {fs : List Value} (ht : tb_in i pc = some (.new n, a, b, v, ts)) (ha : a < 1000) (hlo : lo ≤ 8 + c) (hq : 8 + c = q) (hc : c + 1 = c') (hs : s + fs.length = s') (hf : tb_df a = fs) (kk : Ev d i (pc + 3) L (.ref q :: st) (fh lo (uF F q (.inr (a, fs))) c' s' M) Q) : Ev d i pc L st (fh lo F c s M) Q := by
  subst hq hc hs hf
  refine ev_new ht ha ?_
  rw [fh_mk hlo]
  exact kk
theorem ef_newarray {t : ArrayType} {k q c' s' : Nat} {ty : FieldType} (ht : tb_in i pc = some (.newarray t, a, b, v, ts)) (hk : k ≤ 5000) (hlo : lo ≤ 8 + c) (hq : 8 + c = q) (hc : c + 1 = c') (hs : s + k = s') (hty : newarray.typeOf t = ty) (hdv : defaultValue ty = .int 0) (kk : Ev d i (pc + 2) L (.ref q :: st) (fh lo (uF F q (.inl (ty, k, fun _ => .int 0))) c' s' M) Q) : Ev d i pc L (.int (nI k) :: st) (fh lo F c s M) Q := by
  subst hq hc hs hty
  refine ev_newarray ht hk ?_
  rw [fh_mk hlo, hdv]
  exact kk
theorem ef_anewarray {n k q c' s' : Nat} {C : String} (ht : tb_in i pc = some (.anewarray n, a, b, v, ts)) (hk : k ≤ 5000) (hlo : lo ≤ 8 + c) (hq : 8 + c = q) (hc : c + 1 = c') (hs : s + k = s') (hC : tb_cn a = C) (kk : Ev d i (pc + 3) L (.ref q :: st) (fh lo (uF F q (.inl (.object C, k, fun _ => .null))) c' s' M) Q) : Ev d i pc L (.int (nI k) :: st) (fh lo F c s M) Q := by
  subst hq hc hs hC
  refine ev_anewarray ht hk ?_
  rw [fh_mk hlo]
  exact kk
theorem ef_iast {p k n : Nat} {x : Int32} {f : Nat → Value} (ht : tb_in i pc = some (.iastore, a, b, v, ts)) (h8 : 8 ≤ lo) (hp : lo ≤ p ∧ p < 8 + c) (hF : F p = .inl (.int, n, f)) (hk : k < n) (hn : n ≤ 5000) (kk : Ev d i (pc + 1) L st (fh lo (uF F p (.inl (.int, n, pm_uv f k (.int x)))) c s M) Q) : Ev d i pc L (.int x :: .int (nI k) :: .ref p :: st) (fh lo F c s M) Q := by
  have h2 : (nI k).toNatClampNeg = k := nI_clamp (by omega)
  refine ev_n (F := (pc + 1, L, st, fh lo (uF F p (.inl (.int, n, pm_uv f k (.int x)))) c s M)) ht rfl ?_ kk
  simp only [pm_nx, pm_as, pm_vir, pm_arr]
  rw [fh_in hp, hF]
  dsimp only
  rw [if_pos ⟨rfl, rfl, by omega, by rintro (h | h); exact nI_pos (by omega) h; omega⟩, h2, fh_up hp]
  rfl
theorem ef_cast {p k n : Nat} {x y : Int32} {f : Nat → Value} (ht : tb_in i pc = some (.castore, a, b, v, ts)) (h8 : 8 ≤ lo) (hp : lo ≤ p ∧ p < 8 + c) (hF : F p = .inl (.char, n, f)) (hk : k < n) (hn : n ≤ 5000) (hx : narrow .char (.int x) = .int y) (kk : Ev d i (pc + 1) L st (fh lo (uF F p (.inl (.char, n, pm_uv f k (.int y)))) c s M) Q) : Ev d i pc L (.int x :: .int (nI k) :: .ref p :: st) (fh lo F c s M) Q := by
  have h2 : (nI k).toNatClampNeg = k := nI_clamp (by omega)
  refine ev_n (F := (pc + 1, L, st, fh lo (uF F p (.inl (.char, n, pm_uv f k (.int y)))) c s M)) ht rfl ?_ kk
  simp only [pm_nx, pm_as, pm_vir, pm_arr]
  rw [fh_in hp, hF]
  dsimp only
  rw [if_pos ⟨rfl, rfl, by omega, by rintro (h | h); exact nI_pos (by omega) h; omega⟩, h2, hx, fh_up hp]
theorem ef_aast {p w k n cc : Nat} {f : Nat → Value} {C : String} {fs : List Value} (ht : tb_in i pc = some (.aastore, a, b, v, ts)) (h8 : 8 ≤ lo) (hp : lo ≤ p ∧ p < 8 + c) (hw : lo ≤ w ∧ w < 8 + c) (hF : F p = .inl (.object C, n, f)) (hG : F w = .inr (cc, fs)) (hcc : cc < 8) (hC : tb_cn cc = C) (hk : k < n) (hn : n ≤ 5000) (kk : Ev d i (pc + 1) L st (fh lo (uF F p (.inl (.object C, n, pm_uv f k (.ref w)))) c s M) Q) : Ev d i pc L (.ref w :: .int (nI k) :: .ref p :: st) (fh lo F c s M) Q := by
  have h2 : (nI k).toNatClampNeg = k := nI_clamp (by omega)
  refine ev_n (F := (pc + 1, L, st, fh lo (uF F p (.inl (.object C, n, pm_uv f k (.ref w)))) c s M)) ht rfl ?_ kk
  simp only [pm_nx, pm_vir, pm_arr, pm_obj]
  rw [fh_in hp, hF]
  dsimp only
  rw [fh_in hw, hG]
  dsimp only
  rw [if_pos ⟨⟨hcc, by rw [hC]⟩, by omega, by rintro (h | h); exact nI_pos (by omega) h; omega⟩, h2, fh_up hp]
theorem ef_aald {p k n : Nat} {f : Nat → Value} {C : String} {x : Value} (ht : tb_in i pc = some (.aaload, a, b, v, ts)) (hp : lo ≤ p ∧ p < 8 + c) (hF : F p = .inl (.object C, n, f)) (hk : k < n) (hn : n ≤ 5000) (hx : f k = x) (kk : Ev d i (pc + 1) L (x :: st) (fh lo F c s M) Q) : Ev d i pc L (.int (nI k) :: .ref p :: st) (fh lo F c s M) Q := es_al (f := f) ht rfl (fun _ _ _ => rfl) (by rw [fh_in hp, hF]) rfl hk hn (by rw [hx]; exact kk)
theorem ef_rc {p cc j : Nat} {fs : List Value} {al : List Value} (hp : lo ≤ p ∧ p < 8 + c) (hF : F p = .inr (cc, fs)) (hc : cc = tb_rc j) (hl : cc < 8) : pm_rc (fh lo F c s M) j (.ref p :: al) = true := by
  unfold pm_rc
  simp only
  rw [fh_in hp, hF]
  exact decide_eq_true ⟨hl, hc⟩
end FH
section SC
variable {d : Nat} {M : pm_M} {lo c s p : Nat} {F : Nat → pm_E}
theorem k87 (h8 : 8 ≤ lo) (hp : lo ≤ p ∧ p < 8 + c) (hF : F p = .inr (4, [.null, .int 0])) : Ev d 87 0 [some (.ref p)] [] (fh lo F c s M) (fun q9 M' => ∃ v9, q9 = .inl v9 ∧ v9 = none ∧ M' = fh lo (uF (uF F (8 + c) (.inl (.char, 24, fun _ => .int 0))) p (.inr (4, [.ref (8 + c), .int 0]))) (c + 1) (s + 24) M) := by
  refine ev_aload_n t_87_0 rfl ?_
  refine ev_objinit t_87_1 (Nat.le_of_ble_eq_true rfl) ?_
  refine ev_aload_n t_87_4 rfl ?_
  refine ev_bipush t_87_5 ?_
  change Ev _ _ _ _ ([.int (nI 24), .ref p]) _ _
  refine ef_newarray (k := 24) (q := (8 + c)) (c' := (c + 1)) (s' := (s + 24)) (ty := .char) t_87_7 (Nat.le_of_ble_eq_true rfl) (by omega) rfl rfl rfl rfl rfl ?_
  refine ef_put (fs := [.null, .int 0]) (fs' := [.ref (8 + c), .int 0]) t_87_9 h8 (by omega) (by rw [uF_ne (by omega)]; exact hF) (Nat.le_of_ble_eq_true rfl) rfl rfl rfl ?_
  refine ev_aload_n t_87_12 rfl ?_
  refine ev_iconst t_87_13 ?_
  change Ev _ _ _ _ ([.int (nI 0), .ref p]) _ _
  refine ef_put (fs := [.ref (8 + c), .int 0]) (fs' := [.ref (8 + c), .int (nI 0)]) t_87_14 h8 (by omega) (by rw [uF_at]) (Nat.le_of_ble_eq_true rfl) rfl rfl rfl ?_
  refine ev_retv t_87_17 rfl ⟨none, rfl, rfl, ?_⟩
  refine fh_eq (fun q h1 h2 => ?_)
  unfold uF
  (repeat' split) <;> first | rfl | omega
theorem k75 (h8 : 8 ≤ lo) (hp : lo ≤ p ∧ p < 8 + c) (hF : F p = .inr (0, [.int 0, .null, .int 0, .int 0, .int 0, .int 0, .int 0])) : Ev d 75 0 [some (.ref p)] [] (fh lo F c s M) (fun q9 M' => ∃ v9, q9 = .inl v9 ∧ v9 = none ∧ M' = fh lo (uF (uF F (8 + c) (.inl (.int, 24, fun _ => .int 0))) p (.inr (0, [.int 0, .ref (8 + c), .int 0, .int 0, .int 0, .int 2, .int 0]))) (c + 1) (s + 24) M) := by
  refine ev_aload_n t_75_0 rfl ?_
  refine ev_objinit t_75_1 (Nat.le_of_ble_eq_true rfl) ?_
  refine ev_aload_n t_75_4 rfl ?_
  refine ev_iconst t_75_5 ?_
  change Ev _ _ _ _ ([.int (nI 0), .ref p]) _ _
  refine ef_put (fs := [.int 0, .null, .int 0, .int 0, .int 0, .int 0, .int 0]) (fs' := [.int (nI 0), .null, .int 0, .int 0, .int 0, .int 0, .int 0]) t_75_6 h8 (by omega) hF (Nat.le_of_ble_eq_true rfl) rfl rfl rfl ?_
  refine ev_aload_n t_75_9 rfl ?_
  refine ev_bipush t_75_10 ?_
  change Ev _ _ _ _ ([.int (nI 24), .ref p]) _ _
  refine ef_newarray (k := 24) (q := (8 + c)) (c' := (c + 1)) (s' := (s + 24)) (ty := .int) t_75_12 (Nat.le_of_ble_eq_true rfl) (by omega) rfl rfl rfl rfl rfl ?_
  refine ef_put (fs := [.int (nI 0), .null, .int 0, .int 0, .int 0, .int 0, .int 0]) (fs' := [.int (nI 0), .ref (8 + c), .int 0, .int 0, .int 0, .int 0, .int 0]) t_75_14 h8 (by omega) (by rw [uF_ne (by omega), uF_at]) (Nat.le_of_ble_eq_true rfl) rfl rfl rfl ?_
  refine ev_aload_n t_75_17 rfl ?_
  refine ev_iconst t_75_18 ?_
  change Ev _ _ _ _ ([.int (nI 0), .ref p]) _ _
  refine ef_put (fs := [.int (nI 0), .ref (8 + c), .int 0, .int 0, .int 0, .int 0, .int 0]) (fs' := [.int (nI 0), .ref (8 + c), .int (nI 0), .int 0, .int 0, .int 0, .int 0]) t_75_19 h8 (by omega) (by rw [uF_at]) (Nat.le_of_ble_eq_true rfl) rfl rfl rfl ?_
  refine ev_aload_n t_75_22 rfl ?_
  refine ev_iconst t_75_23 ?_
  change Ev _ _ _ _ ([.int (nI 0), .ref p]) _ _
  refine ef_put (fs := [.int (nI 0), .ref (8 + c), .int (nI 0), .int 0, .int 0, .int 0, .int 0]) (fs' := [.int (nI 0), .ref (8 + c), .int (nI 0), .int (nI 0), .int 0, .int 0, .int 0]) t_75_24 h8 (by omega) (by rw [uF_at]) (Nat.le_of_ble_eq_true rfl) rfl rfl rfl ?_
  refine ev_aload_n t_75_27 rfl ?_
  refine ev_iconst t_75_28 ?_
  change Ev _ _ _ _ ([.int (nI 0), .ref p]) _ _
  refine ef_put (fs := [.int (nI 0), .ref (8 + c), .int (nI 0), .int (nI 0), .int 0, .int 0, .int 0]) (fs' := [.int (nI 0), .ref (8 + c), .int (nI 0), .int (nI 0), .int (nI 0), .int 0, .int 0]) t_75_29 h8 (by omega) (by rw [uF_at]) (Nat.le_of_ble_eq_true rfl) rfl rfl rfl ?_
  refine ev_aload_n t_75_32 rfl ?_
  refine ev_iconst t_75_33 ?_
  change Ev _ _ _ _ ([.int (nI 2), .ref p]) _ _
  refine ef_put (fs := [.int (nI 0), .ref (8 + c), .int (nI 0), .int (nI 0), .int (nI 0), .int 0, .int 0]) (fs' := [.int (nI 0), .ref (8 + c), .int (nI 0), .int (nI 0), .int (nI 0), .int (nI 2), .int 0]) t_75_34 h8 (by omega) (by rw [uF_at]) (Nat.le_of_ble_eq_true rfl) rfl rfl rfl ?_
  refine ev_aload_n t_75_37 rfl ?_
  refine ev_iconst t_75_38 ?_
  change Ev _ _ _ _ ([.int (nI 0), .ref p]) _ _
  refine ef_put (fs := [.int (nI 0), .ref (8 + c), .int (nI 0), .int (nI 0), .int (nI 0), .int (nI 2), .int 0]) (fs' := [.int (nI 0), .ref (8 + c), .int (nI 0), .int (nI 0), .int (nI 0), .int (nI 2), .int (nI 0)]) t_75_39 h8 (by omega) (by rw [uF_at]) (Nat.le_of_ble_eq_true rfl) rfl rfl rfl ?_
  refine ev_retv t_75_42 rfl ⟨none, rfl, rfl, ?_⟩
  refine fh_eq (fun q h1 h2 => ?_)
  unfold uF
  (repeat' split) <;> first | rfl | omega
theorem k76 (h8 : 8 ≤ lo) (hp : lo ≤ p ∧ p < 8 + c) (hF : F p = .inr (1, [.int 0, .null])) : Ev d 76 0 [some (.ref p)] [] (fh lo F c s M) (fun q9 M' => ∃ v9, q9 = .inl v9 ∧ v9 = none ∧ M' = fh lo (uF (uF F (8 + c) (.inl (.int, 3, fun _ => .int 0))) p (.inr (1, [.int 0, .ref (8 + c)]))) (c + 1) (s + 3) M) := by
  refine ev_aload_n t_76_0 rfl ?_
  refine ev_objinit t_76_1 (Nat.le_of_ble_eq_true rfl) ?_
  refine ev_aload_n t_76_4 rfl ?_
  refine ev_iconst t_76_5 ?_
  change Ev _ _ _ _ ([.int (nI 0), .ref p]) _ _
  refine ef_put (fs := [.int 0, .null]) (fs' := [.int (nI 0), .null]) t_76_6 h8 (by omega) hF (Nat.le_of_ble_eq_true rfl) rfl rfl rfl ?_
  refine ev_aload_n t_76_9 rfl ?_
  refine ev_iconst t_76_10 ?_
  change Ev _ _ _ _ ([.int (nI 3), .ref p]) _ _
  refine ef_newarray (k := 3) (q := (8 + c)) (c' := (c + 1)) (s' := (s + 3)) (ty := .int) t_76_11 (Nat.le_of_ble_eq_true rfl) (by omega) rfl rfl rfl rfl rfl ?_
  refine ef_put (fs := [.int (nI 0), .null]) (fs' := [.int (nI 0), .ref (8 + c)]) t_76_13 h8 (by omega) (by rw [uF_ne (by omega), uF_at]) (Nat.le_of_ble_eq_true rfl) rfl rfl rfl ?_
  refine ev_retv t_76_16 rfl ⟨none, rfl, rfl, ?_⟩
  refine fh_eq (fun q h1 h2 => ?_)
  unfold uF
  (repeat' split) <;> first | rfl | omega
theorem k79 (h8 : 8 ≤ lo) (hp : lo ≤ p ∧ p < 8 + c) (hF : F p = .inr (2, [.null, .null, .null])) : Ev d 79 0 [some (.ref p)] [] (fh lo F c s M) (fun q9 M' => ∃ v9, q9 = .inl v9 ∧ v9 = none ∧ M' = fh lo (uF (uF (uF (uF F (8 + c) (.inl (.int, 48, fun _ => .int 0))) (8 + (c + 1)) (.inl (.int, 48, fun _ => .int 0))) (8 + (c + 2)) (.inl (.int, 3, fun _ => .int 0))) p (.inr (2, [.ref (8 + c), .ref (8 + (c + 1)), .ref (8 + (c + 2))]))) (c + 3) (s + 99) M) := by
  refine ev_aload_n t_79_0 rfl ?_
  refine ev_objinit t_79_1 (Nat.le_of_ble_eq_true rfl) ?_
  refine ev_aload_n t_79_4 rfl ?_
  refine ev_bipush t_79_5 ?_
  change Ev _ _ _ _ ([.int (nI 48), .ref p]) _ _
  refine ef_newarray (k := 48) (q := (8 + c)) (c' := (c + 1)) (s' := (s + 48)) (ty := .int) t_79_7 (Nat.le_of_ble_eq_true rfl) (by omega) rfl rfl rfl rfl rfl ?_
  refine ef_put (fs := [.null, .null, .null]) (fs' := [.ref (8 + c), .null, .null]) t_79_9 h8 (by omega) (by rw [uF_ne (by omega)]; exact hF) (Nat.le_of_ble_eq_true rfl) rfl rfl rfl ?_
  refine ev_aload_n t_79_12 rfl ?_
  refine ev_bipush t_79_13 ?_
  change Ev _ _ _ _ ([.int (nI 48), .ref p]) _ _
  refine ef_newarray (k := 48) (q := (8 + (c + 1))) (c' := (c + 2)) (s' := (s + 96)) (ty := .int) t_79_15 (Nat.le_of_ble_eq_true rfl) (by omega) rfl rfl rfl rfl rfl ?_
  refine ef_put (fs := [.ref (8 + c), .null, .null]) (fs' := [.ref (8 + c), .ref (8 + (c + 1)), .null]) t_79_17 h8 (by omega) (by rw [uF_ne (by omega), uF_at]) (Nat.le_of_ble_eq_true rfl) rfl rfl rfl ?_
  refine ev_aload_n t_79_20 rfl ?_
  refine ev_iconst t_79_21 ?_
  change Ev _ _ _ _ ([.int (nI 3), .ref p]) _ _
  refine ef_newarray (k := 3) (q := (8 + (c + 2))) (c' := (c + 3)) (s' := (s + 99)) (ty := .int) t_79_22 (Nat.le_of_ble_eq_true rfl) (by omega) rfl rfl rfl rfl rfl ?_
  refine ef_put (fs := [.ref (8 + c), .ref (8 + (c + 1)), .null]) (fs' := [.ref (8 + c), .ref (8 + (c + 1)), .ref (8 + (c + 2))]) t_79_24 h8 (by omega) (by rw [uF_ne (by omega), uF_at]) (Nat.le_of_ble_eq_true rfl) rfl rfl rfl ?_
  refine ev_retv t_79_27 rfl ⟨none, rfl, rfl, ?_⟩
  refine fh_eq (fun q h1 h2 => ?_)
  unfold uF
  (repeat' split) <;> first | rfl | omega
theorem k80 (h8 : 8 ≤ lo) (hp : lo ≤ p ∧ p < 8 + c) (hF : F p = .inr (3, [.int 0, .null, .null, .null])) : Ev d 80 0 [some (.ref p)] [] (fh lo F c s M) (fun q9 M' => ∃ v9, q9 = .inl v9 ∧ v9 = none ∧ M' = fh lo (uF (uF (uF (uF F (8 + c) (.inl (.boolean, 96, fun _ => .int 0))) (8 + (c + 1)) (.inl (.int, 97, pm_uv (fun _ => .int 0) 96 (.int 96)))) (8 + (c + 2)) (.inl (.int, 97, pm_uv (fun _ => .int 0) 96 (.int 96)))) p (.inr (3, [.int 0, .ref (8 + c), .ref (8 + (c + 1)), .ref (8 + (c + 2))]))) (c + 3) (s + 290) M) := by
  refine ev_aload_n t_80_0 rfl ?_
  refine ev_objinit t_80_1 (Nat.le_of_ble_eq_true rfl) ?_
  refine ev_aload_n t_80_4 rfl ?_
  refine ev_iconst t_80_5 ?_
  change Ev _ _ _ _ ([.int (nI 0), .ref p]) _ _
  refine ef_put (fs := [.int 0, .null, .null, .null]) (fs' := [.int (nI 0), .null, .null, .null]) t_80_6 h8 (by omega) hF (Nat.le_of_ble_eq_true rfl) rfl rfl rfl ?_
  refine ev_aload_n t_80_9 rfl ?_
  refine ev_bipush t_80_10 ?_
  change Ev _ _ _ _ ([.int (nI 96), .ref p]) _ _
  refine ef_newarray (k := 96) (q := (8 + c)) (c' := (c + 1)) (s' := (s + 96)) (ty := .boolean) t_80_12 (Nat.le_of_ble_eq_true rfl) (by omega) rfl rfl rfl rfl rfl ?_
  refine ef_put (fs := [.int (nI 0), .null, .null, .null]) (fs' := [.int (nI 0), .ref (8 + c), .null, .null]) t_80_14 h8 (by omega) (by rw [uF_ne (by omega), uF_at]) (Nat.le_of_ble_eq_true rfl) rfl rfl rfl ?_
  refine ev_aload_n t_80_17 rfl ?_
  refine ev_bipush t_80_18 ?_
  change Ev _ _ _ _ ([.int (nI 97), .ref p]) _ _
  refine ef_newarray (k := 97) (q := (8 + (c + 1))) (c' := (c + 2)) (s' := (s + 193)) (ty := .int) t_80_20 (Nat.le_of_ble_eq_true rfl) (by omega) rfl rfl rfl rfl rfl ?_
  refine ef_put (fs := [.int (nI 0), .ref (8 + c), .null, .null]) (fs' := [.int (nI 0), .ref (8 + c), .ref (8 + (c + 1)), .null]) t_80_22 h8 (by omega) (by rw [uF_ne (by omega), uF_at]) (Nat.le_of_ble_eq_true rfl) rfl rfl rfl ?_
  refine ev_aload_n t_80_25 rfl ?_
  refine ev_bipush t_80_26 ?_
  change Ev _ _ _ _ ([.int (nI 97), .ref p]) _ _
  refine ef_newarray (k := 97) (q := (8 + (c + 2))) (c' := (c + 3)) (s' := (s + 290)) (ty := .int) t_80_28 (Nat.le_of_ble_eq_true rfl) (by omega) rfl rfl rfl rfl rfl ?_
  refine ef_put (fs := [.int (nI 0), .ref (8 + c), .ref (8 + (c + 1)), .null]) (fs' := [.int (nI 0), .ref (8 + c), .ref (8 + (c + 1)), .ref (8 + (c + 2))]) t_80_30 h8 (by omega) (by rw [uF_ne (by omega), uF_at]) (Nat.le_of_ble_eq_true rfl) rfl rfl rfl ?_
  refine ev_aload_n t_80_33 rfl ?_
  refine ef_get (fs := [.int (nI 0), .ref (8 + c), .ref (8 + (c + 1)), .ref (8 + (c + 2))]) (x := .ref (8 + (c + 1))) t_80_34 (by omega) (by rw [uF_at]) rfl ?_
  refine ev_bipush t_80_37 ?_
  change Ev _ _ _ _ ([.int (nI 96), .ref (8 + (c + 1))]) _ _
  refine ev_bipush t_80_39 ?_
  change Ev _ _ _ _ ([.int (nI 96), .int (nI 96), .ref (8 + (c + 1))]) _ _
  refine ef_iast (k := 96) (n := 97) (f := fun _ => .int 0) t_80_41 h8 (by omega) (by rw [uF_ne (by omega), uF_ne (by omega), uF_ne (by omega), uF_at]) (by omega) (Nat.le_of_ble_eq_true rfl) ?_
  refine ev_aload_n t_80_42 rfl ?_
  refine ef_get (fs := [.int (nI 0), .ref (8 + c), .ref (8 + (c + 1)), .ref (8 + (c + 2))]) (x := .ref (8 + (c + 2))) t_80_43 (by omega) (by rw [uF_ne (by omega), uF_at]) rfl ?_
  refine ev_bipush t_80_46 ?_
  change Ev _ _ _ _ ([.int (nI 96), .ref (8 + (c + 2))]) _ _
  refine ev_bipush t_80_48 ?_
  change Ev _ _ _ _ ([.int (nI 96), .int (nI 96), .ref (8 + (c + 2))]) _ _
  refine ef_iast (k := 96) (n := 97) (f := fun _ => .int 0) t_80_50 h8 (by omega) (by rw [uF_ne (by omega), uF_ne (by omega), uF_at]) (by omega) (Nat.le_of_ble_eq_true rfl) ?_
  refine ev_retv t_80_51 rfl ⟨none, rfl, rfl, ?_⟩
  refine fh_eq (fun q h1 h2 => ?_)
  unfold uF
  (repeat' split) <;> first | rfl | omega
theorem k93 (h8 : 8 ≤ lo) (hp : lo ≤ p ∧ p < 8 + c) (hF : F p = .inr (5, [.int 0, .int 0, .null, .int 0, .null, .int 0, .int 0, .null, .null, .null, .int 0])) : Ev (d + 1) 93 0 [some (.ref p)] [] (fh lo F c s M) (fun q9 M' => ∃ v9, q9 = .inl v9 ∧ v9 = none ∧ M' = fh lo (uF (uF (uF (uF (uF (uF (uF F (8 + c) (.inl (.int, 24, fun _ => .int 0))) (8 + (c + 1)) (.inr (4, [.ref (8 + (c + 2)), .int 0]))) (8 + (c + 2)) (.inl (.char, 24, fun _ => .int 0))) (8 + (c + 3)) (.inl (.char, 24, fun _ => .int 0))) (8 + (c + 4)) (.inl (.boolean, 24, fun _ => .int 0))) (8 + (c + 5)) (.inl (.int, 24, fun _ => .int 0))) p (.inr (5, [.int (-1), .int 0, .ref (8 + c), .int 0, .ref (8 + (c + 1)), .int 0, .int 0, .ref (8 + (c + 3)), .ref (8 + (c + 4)), .ref (8 + (c + 5)), .int 0]))) (c + 6) (s + 122) M) := by
  refine ev_aload_n t_93_0 rfl ?_
  refine ev_objinit t_93_1 (Nat.le_of_ble_eq_true rfl) ?_
  refine ev_aload_n t_93_4 rfl ?_
  refine ev_iconst t_93_5 ?_
  change Ev _ _ _ _ ([.int (-1), .ref p]) _ _
  refine ef_put (fs := [.int 0, .int 0, .null, .int 0, .null, .int 0, .int 0, .null, .null, .null, .int 0]) (fs' := [.int (-1), .int 0, .null, .int 0, .null, .int 0, .int 0, .null, .null, .null, .int 0]) t_93_6 h8 (by omega) hF (Nat.le_of_ble_eq_true rfl) rfl rfl rfl ?_
  refine ev_aload_n t_93_9 rfl ?_
  refine ev_iconst t_93_10 ?_
  change Ev _ _ _ _ ([.int (nI 0), .ref p]) _ _
  refine ef_put (fs := [.int (-1), .int 0, .null, .int 0, .null, .int 0, .int 0, .null, .null, .null, .int 0]) (fs' := [.int (-1), .int (nI 0), .null, .int 0, .null, .int 0, .int 0, .null, .null, .null, .int 0]) t_93_11 h8 (by omega) (by rw [uF_at]) (Nat.le_of_ble_eq_true rfl) rfl rfl rfl ?_
  refine ev_aload_n t_93_14 rfl ?_
  refine ev_bipush t_93_15 ?_
  change Ev _ _ _ _ ([.int (nI 24), .ref p]) _ _
  refine ef_newarray (k := 24) (q := (8 + c)) (c' := (c + 1)) (s' := (s + 24)) (ty := .int) t_93_17 (Nat.le_of_ble_eq_true rfl) (by omega) rfl rfl rfl rfl rfl ?_
  refine ef_put (fs := [.int (-1), .int (nI 0), .null, .int 0, .null, .int 0, .int 0, .null, .null, .null, .int 0]) (fs' := [.int (-1), .int (nI 0), .ref (8 + c), .int 0, .null, .int 0, .int 0, .null, .null, .null, .int 0]) t_93_19 h8 (by omega) (by rw [uF_ne (by omega), uF_at]) (Nat.le_of_ble_eq_true rfl) rfl rfl rfl ?_
  refine ev_aload_n t_93_22 rfl ?_
  refine ev_iconst t_93_23 ?_
  change Ev _ _ _ _ ([.int (nI 0), .ref p]) _ _
  refine ef_put (fs := [.int (-1), .int (nI 0), .ref (8 + c), .int 0, .null, .int 0, .int 0, .null, .null, .null, .int 0]) (fs' := [.int (-1), .int (nI 0), .ref (8 + c), .int (nI 0), .null, .int 0, .int 0, .null, .null, .null, .int 0]) t_93_24 h8 (by omega) (by rw [uF_at]) (Nat.le_of_ble_eq_true rfl) rfl rfl rfl ?_
  refine ev_aload_n t_93_27 rfl ?_
  refine ef_new (q := (8 + (c + 1))) (c' := (c + 2)) (s' := (s + 26)) (fs := [.null, .int 0]) t_93_28 (Nat.le_of_ble_eq_true rfl) (by omega) rfl rfl rfl rfl ?_
  refine ev_dup t_93_31 rfl ?_
  refine ev_cl (pm_st_I t_93_32 (Nat.le_of_ble_eq_true rfl) (as := [.ref (8 + (c + 1))]) (rest := [.ref (8 + (c + 1)), .ref p]) (L0 := [some (.ref (8 + (c + 1)))]) rfl rfl (Nat.le_of_ble_eq_true rfl) (Nat.le_of_ble_eq_true rfl) rfl (ef_rc (cc := 4) (fs := [.null, .int 0]) (by omega) (by rw [uF_at]) rfl (Nat.le_of_ble_eq_true rfl))) rfl (k87 h8 (by omega) (by rw [uF_at])) ?_
  rintro _ _ ⟨rfl, rfl⟩
  change Ev _ _ _ _ ([.ref (8 + (c + 1)), .ref p]) (fh lo (uF (uF (uF (uF (uF (uF (uF (uF F p (.inr (5, [.int (-1), .int 0, .null, .int 0, .null, .int 0, .int 0, .null, .null, .null, .int 0]))) p (.inr (5, [.int (-1), .int (nI 0), .null, .int 0, .null, .int 0, .int 0, .null, .null, .null, .int 0]))) (8 + c) (.inl (.int, 24, fun _ => .int 0))) p (.inr (5, [.int (-1), .int (nI 0), .ref (8 + c), .int 0, .null, .int 0, .int 0, .null, .null, .null, .int 0]))) p (.inr (5, [.int (-1), .int (nI 0), .ref (8 + c), .int (nI 0), .null, .int 0, .int 0, .null, .null, .null, .int 0]))) (8 + (c + 1)) (.inr (4, [.null, .int 0]))) (8 + (c + 2)) (.inl (.char, 24, fun _ => .int 0))) (8 + (c + 1)) (.inr (4, [.ref (8 + (c + 2)), .int 0]))) (c + 3) (s + 50) M) _
  refine ef_put (fs := [.int (-1), .int (nI 0), .ref (8 + c), .int (nI 0), .null, .int 0, .int 0, .null, .null, .null, .int 0]) (fs' := [.int (-1), .int (nI 0), .ref (8 + c), .int (nI 0), .ref (8 + (c + 1)), .int 0, .int 0, .null, .null, .null, .int 0]) t_93_35 h8 (by omega) (by rw [uF_ne (by omega), uF_ne (by omega), uF_ne (by omega), uF_at]) (Nat.le_of_ble_eq_true rfl) rfl rfl rfl ?_
  refine ev_aload_n t_93_38 rfl ?_
  refine ev_iconst t_93_39 ?_
  change Ev _ _ _ _ ([.int (nI 0), .ref p]) _ _
  refine ef_put (fs := [.int (-1), .int (nI 0), .ref (8 + c), .int (nI 0), .ref (8 + (c + 1)), .int 0, .int 0, .null, .null, .null, .int 0]) (fs' := [.int (-1), .int (nI 0), .ref (8 + c), .int (nI 0), .ref (8 + (c + 1)), .int (nI 0), .int 0, .null, .null, .null, .int 0]) t_93_40 h8 (by omega) (by rw [uF_at]) (Nat.le_of_ble_eq_true rfl) rfl rfl rfl ?_
  refine ev_aload_n t_93_43 rfl ?_
  refine ev_iconst t_93_44 ?_
  change Ev _ _ _ _ ([.int (nI 0), .ref p]) _ _
  refine ef_put (fs := [.int (-1), .int (nI 0), .ref (8 + c), .int (nI 0), .ref (8 + (c + 1)), .int (nI 0), .int 0, .null, .null, .null, .int 0]) (fs' := [.int (-1), .int (nI 0), .ref (8 + c), .int (nI 0), .ref (8 + (c + 1)), .int (nI 0), .int (nI 0), .null, .null, .null, .int 0]) t_93_45 h8 (by omega) (by rw [uF_at]) (Nat.le_of_ble_eq_true rfl) rfl rfl rfl ?_
  refine ev_aload_n t_93_48 rfl ?_
  refine ev_bipush t_93_49 ?_
  change Ev _ _ _ _ ([.int (nI 24), .ref p]) _ _
  refine ef_newarray (k := 24) (q := (8 + (c + 3))) (c' := (c + 4)) (s' := (s + 74)) (ty := .char) t_93_51 (Nat.le_of_ble_eq_true rfl) (by omega) rfl rfl rfl rfl rfl ?_
  refine ef_put (fs := [.int (-1), .int (nI 0), .ref (8 + c), .int (nI 0), .ref (8 + (c + 1)), .int (nI 0), .int (nI 0), .null, .null, .null, .int 0]) (fs' := [.int (-1), .int (nI 0), .ref (8 + c), .int (nI 0), .ref (8 + (c + 1)), .int (nI 0), .int (nI 0), .ref (8 + (c + 3)), .null, .null, .int 0]) t_93_53 h8 (by omega) (by rw [uF_ne (by omega), uF_at]) (Nat.le_of_ble_eq_true rfl) rfl rfl rfl ?_
  refine ev_aload_n t_93_56 rfl ?_
  refine ev_bipush t_93_57 ?_
  change Ev _ _ _ _ ([.int (nI 24), .ref p]) _ _
  refine ef_newarray (k := 24) (q := (8 + (c + 4))) (c' := (c + 5)) (s' := (s + 98)) (ty := .boolean) t_93_59 (Nat.le_of_ble_eq_true rfl) (by omega) rfl rfl rfl rfl rfl ?_
  refine ef_put (fs := [.int (-1), .int (nI 0), .ref (8 + c), .int (nI 0), .ref (8 + (c + 1)), .int (nI 0), .int (nI 0), .ref (8 + (c + 3)), .null, .null, .int 0]) (fs' := [.int (-1), .int (nI 0), .ref (8 + c), .int (nI 0), .ref (8 + (c + 1)), .int (nI 0), .int (nI 0), .ref (8 + (c + 3)), .ref (8 + (c + 4)), .null, .int 0]) t_93_61 h8 (by omega) (by rw [uF_ne (by omega), uF_at]) (Nat.le_of_ble_eq_true rfl) rfl rfl rfl ?_
  refine ev_aload_n t_93_64 rfl ?_
  refine ev_bipush t_93_65 ?_
  change Ev _ _ _ _ ([.int (nI 24), .ref p]) _ _
  refine ef_newarray (k := 24) (q := (8 + (c + 5))) (c' := (c + 6)) (s' := (s + 122)) (ty := .int) t_93_67 (Nat.le_of_ble_eq_true rfl) (by omega) rfl rfl rfl rfl rfl ?_
  refine ef_put (fs := [.int (-1), .int (nI 0), .ref (8 + c), .int (nI 0), .ref (8 + (c + 1)), .int (nI 0), .int (nI 0), .ref (8 + (c + 3)), .ref (8 + (c + 4)), .null, .int 0]) (fs' := [.int (-1), .int (nI 0), .ref (8 + c), .int (nI 0), .ref (8 + (c + 1)), .int (nI 0), .int (nI 0), .ref (8 + (c + 3)), .ref (8 + (c + 4)), .ref (8 + (c + 5)), .int 0]) t_93_69 h8 (by omega) (by rw [uF_ne (by omega), uF_at]) (Nat.le_of_ble_eq_true rfl) rfl rfl rfl ?_
  refine ev_aload_n t_93_72 rfl ?_
  refine ev_iconst t_93_73 ?_
  change Ev _ _ _ _ ([.int (nI 0), .ref p]) _ _
  refine ef_put (fs := [.int (-1), .int (nI 0), .ref (8 + c), .int (nI 0), .ref (8 + (c + 1)), .int (nI 0), .int (nI 0), .ref (8 + (c + 3)), .ref (8 + (c + 4)), .ref (8 + (c + 5)), .int 0]) (fs' := [.int (-1), .int (nI 0), .ref (8 + c), .int (nI 0), .ref (8 + (c + 1)), .int (nI 0), .int (nI 0), .ref (8 + (c + 3)), .ref (8 + (c + 4)), .ref (8 + (c + 5)), .int (nI 0)]) t_93_74 h8 (by omega) (by rw [uF_at]) (Nat.le_of_ble_eq_true rfl) rfl rfl rfl ?_
  refine ev_retv t_93_77 rfl ⟨none, rfl, rfl, ?_⟩
  refine fh_eq (fun q h1 h2 => ?_)
  unfold uF
  (repeat' split) <;> first | rfl | omega
theorem k89 {p1 : Nat} (h8 : 8 ≤ lo) (hp : lo ≤ p ∧ p < 8 + c) (hp1 : lo ≤ p1 ∧ p1 < 8 + c) (hne : p ≠ p1) (hF : F p = .inr (4, [.ref p1, .int 0])) (hG : F p1 = .inl (.char, 24, fun _ => .int 0)) : Ev d 89 0 [some (.ref p), some (.int (nI 48))] [] (fh lo F c s M) (fun q9 M' => ∃ v9, q9 = .inl v9 ∧ v9 = none ∧ M' = fh lo (uF (uF F p1 (.inl (.char, 24, pm_uv (fun _ => .int 0) 0 (.int (nI 48))))) p (.inr (4, [.ref p1, .int (nI 1)]))) c s M) := by
  refine ev_aload_n t_89_0 rfl ?_
  refine ef_get (fs := [.ref p1, .int 0]) (x := .int (nI 0)) t_89_1 hp hF rfl ?_
  refine ev_bipush t_89_4 ?_
  change Ev _ _ _ _ ([.int (nI 24), .int (nI 0)]) _ _
  refine ev_icmp_geN t_89_6 (by omega) (by omega) (fun h_6 => ?_) (fun h_6 => ?_)
  · omega
  · refine ev_aload_n t_89_9 rfl ?_
    refine ef_get (fs := [.ref p1, .int 0]) (x := .ref p1) t_89_10 hp hF rfl ?_
    refine ev_aload_n t_89_13 rfl ?_
    refine ef_get (fs := [.ref p1, .int 0]) (x := .int (nI 0)) t_89_14 hp hF rfl ?_
    refine ev_iload_n t_89_17 rfl ?_
    refine ef_cast (k := 0) (n := 24) (y := nI 48) (f := fun _ => .int 0) t_89_18 h8 hp1 hG (by omega) (Nat.le_of_ble_eq_true rfl) rfl ?_
    refine ev_aload_n t_89_19 rfl ?_
    refine ev_dup t_89_20 rfl ?_
    refine ef_get (fs := [.ref p1, .int 0]) (x := .int (nI 0)) t_89_21 hp (by rw [uF_ne (by omega)]; exact hF) rfl ?_
    refine ev_iconst t_89_24 ?_
    change Ev _ _ _ _ ([.int (nI 1), .int (nI 0), .ref p]) _ _
    refine ev_iaddN t_89_25 ?_
    refine ef_put (fs := [.ref p1, .int 0]) (fs' := [.ref p1, .int (nI 1)]) t_89_26 h8 hp (by rw [uF_ne (by omega)]; exact hF) (Nat.le_of_ble_eq_true rfl) rfl rfl rfl ?_
    exact ev_retv t_89_29 rfl ⟨none, rfl, rfl, rfl⟩
end SC
