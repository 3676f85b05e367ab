/-! The class's constructor. -/
def sg0 (q k : Nat) : Int32 := if q = 8 then (if k = 7 then 96 else 0) else if q = 22 ∨ q = 23 then (if k = 96 then 96 else 0) else if 26 ≤ q ∧ q < 38 then (if q % 2 = 0 then (if k = 1 then 1 else 0) else (if k = 0 then 48 else 0)) else if 38 ≤ q ∧ q < 230 then (if q % 2 = 0 then (if k = 5 then 2 else 0) else 0) else if 230 ≤ q then (if (q - 230) % 7 = 0 then (if k = 0 then -1 else if k = 4 then nI (q + 2) else 0) else 0) else 0
def FB (a b e q : Nat) : pm_E := if q = 11 then .inl (.object "MemoRuntime$Text", 6, fun j => if j < a then .ref (26 + 2 * j) else .null) else if q = 19 then .inl (.object "MemoRuntime$Cell", 96, fun j => if j < b then .ref (38 + 2 * j) else .null) else if q = 25 then .inl (.object "MemoRuntime$Working", 20, fun j => if j < e then .ref (230 + 7 * j) else .null) else shC q (sg0 q)
theorem FB_o {a b e q : Nat} (h1 : q ≠ 11) (h2 : q ≠ 19) (h3 : q ≠ 25) : FB a b e q = shC q (sg0 q) := by unfold FB; rw [if_neg h1, if_neg h2, if_neg h3]
theorem FB_8 {a b e : Nat} : FB a b e 8 = .inr (6, [.ref 9, .ref 11, .ref 12, .ref 13, .ref 17, .ref 19, .ref 20, .int 96, .ref 24, .ref 25, .int 0, .int 0, .int 0, .int 0, .int 0]) := rfl
theorem FB_11 {a b e : Nat} : FB a b e 11 = .inl (.object "MemoRuntime$Text", 6, fun j => if j < a then .ref (26 + 2 * j) else .null) := rfl
theorem FB_19 {a b e : Nat} : FB a b e 19 = .inl (.object "MemoRuntime$Cell", 96, fun j => if j < b then .ref (38 + 2 * j) else .null) := rfl
theorem FB_25 {a b e : Nat} : FB a b e 25 = .inl (.object "MemoRuntime$Working", 20, fun j => if j < e then .ref (230 + 7 * j) else .null) := rfl
theorem FB_end {q : Nat} : FB 6 96 20 q = shC q (sg0 q) := by
  unfold FB
  split
  · rename_i h; subst h; rfl
  · split
    · rename_i h; subst h; rfl
    · split
      · rename_i h; subst h; rfl
      · rfl
theorem uv_ref {k : Nat} {g : Nat → Value} : pm_uv (fun j => if j < k then g j else .null) k (g k) = fun j => if j < k + 1 then g j else .null := by
  funext j
  unfold pm_uv
  by_cases h : j = k
  · subst h; rw [if_pos rfl, if_pos (by omega)]
  · rw [if_neg h]
    dsimp only
    by_cases h2 : j < k
    · rw [if_pos h2, if_pos (by omega)]
    · rw [if_neg h2, if_neg (by omega)]
theorem sh_T {f : Nat} (h : f < 6) : shC (26 + 2 * f) (sg0 (26 + 2 * f)) = .inr (4, [.ref (26 + 2 * f + 1), .int (nI 1)]) := by
  unfold shC fTx
  rw [if_neg (by omega), if_pos (by omega), if_pos (by omega)]
  unfold sg0
  rw [if_neg (by omega), if_neg (by omega), if_pos (by omega), if_pos (by omega), if_pos rfl]
  rfl
theorem sh_T1 {f : Nat} (h : f < 6) : shC (26 + 2 * f + 1) (sg0 (26 + 2 * f + 1)) = .inl (.char, 24, pm_uv (fun _ => .int 0) 0 (.int (nI 48))) := by
  unfold shC aC
  rw [if_neg (by omega), if_pos (by omega), if_neg (by omega)]
  congr 3
  funext j
  unfold sg0 pm_uv
  rw [if_neg (by omega), if_neg (by omega), if_pos (by omega), if_neg (by omega)]
  split <;> rfl
theorem sh_C {n : Nat} (h : n < 96) : shC (38 + 2 * n) (sg0 (38 + 2 * n)) = .inr (0, [.int 0, .ref (38 + 2 * n + 1), .int 0, .int 0, .int 0, .int 2, .int 0]) := by
  unfold shC fCe
  rw [if_neg (by omega), if_neg (by omega), if_pos (by omega), if_pos (by omega)]
  have e : ∀ k, sg0 (38 + 2 * n) k = if k = 5 then 2 else 0 := fun k => by
    unfold sg0
    rw [if_neg (by omega), if_neg (by omega), if_neg (by omega), if_pos (by omega), if_pos (by omega)]
  rw [e, e, e, e, e, e]
  rfl
theorem sh_C1 {n : Nat} (h : n < 96) : shC (38 + 2 * n + 1) (sg0 (38 + 2 * n + 1)) = .inl (.int, 24, fun _ => .int 0) := by
  unfold shC aI
  rw [if_neg (by omega), if_neg (by omega), if_pos (by omega), if_neg (by omega)]
  congr 3
  funext j
  unfold sg0
  rw [if_neg (by omega), if_neg (by omega), if_neg (by omega), if_pos (by omega), if_neg (by omega)]
theorem sh_Wk {w j : Nat} (h : w < 20) (hj : j < 7) {r : Nat → Int32} : shC (230 + 7 * w + j) r = shW (230 + 7 * w + j) r j := by
  unfold shC
  rw [if_neg (by omega), if_neg (by omega), if_neg (by omega), show (230 + 7 * w + j - 230) % 7 = j by omega]
theorem sg_W {w j k : Nat} (h : w < 20) (hj : 0 < j) (hj7 : j < 7) : sg0 (230 + 7 * w + j) k = 0 := by
  unfold sg0
  rw [if_neg (by omega), if_neg (by omega), if_neg (by omega), if_neg (by omega), if_pos (by omega), if_neg (by omega)]
theorem sh_W {w : Nat} (h : w < 20) : shC (230 + 7 * w) (sg0 (230 + 7 * w)) = .inr (5, [.int (-1), .int 0, .ref (230 + 7 * w + 1), .int 0, .ref (230 + 7 * w + 2), .int 0, .int 0, .ref (230 + 7 * w + 4), .ref (230 + 7 * w + 5), .ref (230 + 7 * w + 6), .int 0]) := by
  have e : ∀ k, sg0 (230 + 7 * w) k = if k = 0 then -1 else if k = 4 then nI (230 + 7 * w + 2) else 0 := fun k => by
    unfold sg0
    rw [if_neg (by omega), if_neg (by omega), if_neg (by omega), if_neg (by omega), if_pos (by omega), if_pos (by omega)]
  unfold shC
  rw [if_neg (by omega), if_neg (by omega), if_neg (by omega), show (230 + 7 * w - 230) % 7 = 0 by omega]
  show (Sum.inr (5, fWo (230 + 7 * w) (sg0 (230 + 7 * w))) : pm_E) = _
  unfold fWo
  simp [e, nI_clamp (show 230 + 7 * w + 2 < 2 ^ 31 by omega)]
theorem sh_Wa {w j : Nat} {ty : FieldType} (h : w < 20) (hj : 0 < j) (hj7 : j < 7) (hs : ∀ r, shW (230 + 7 * w + j) r j = .inl (ty, 24, fun k => .int (r k))) : shC (230 + 7 * w + j) (sg0 (230 + 7 * w + j)) = .inl (ty, 24, fun _ => .int 0) := by
  rw [sh_Wk h hj7, hs]
  congr 3
  funext k
  rw [sg_W h hj hj7]
theorem sh_W2 {w : Nat} (h : w < 20) : shC (230 + 7 * w + 2) (sg0 (230 + 7 * w + 2)) = .inr (4, [.ref (230 + 7 * w + 3), .int 0]) := by
  rw [sh_Wk h (by omega)]
  show (Sum.inr (4, fTx (230 + 7 * w + 2) (sg0 (230 + 7 * w + 2))) : pm_E) = _
  unfold fTx
  rw [sg_W h (by omega) (by omega)]
section K0
variable {d s : Nat} {M : pm_M} {Q : pm_R → pm_M → Prop}
theorem k0t : ∀ (j k : Nat), k + j = 6 → Ev (d + 2) 0 160 [some (.ref 8), some (.int (nI 6))] [] (fh 8 (FB 6 0 0) 30 (s + 156) M) Q → Ev (d + 2) 0 124 [some (.ref 8), some (.int (nI k))] [] (fh 8 (FB k 0 0) (18 + 2 * k) (s + 26 * k) M) Q := by
  intro j
  induction j with
  | zero =>
    intro k hk kk
    obtain rfl : k = 6 := by omega
    refine ev_iload_n t_0_124 rfl ?_
    refine ev_bipush t_0_125 ?_
    change Ev _ _ _ _ ([.int (nI 6), .int (nI 6)]) _ _
    refine ev_icmp_geN t_0_127 (by omega) (by omega) (fun h => ?_) (fun h => ?_)
    · exact kk
    · omega
  | succ j ih =>
    intro k hk kk
    have ih := ih (k + 1) (by omega) kk
    refine ev_iload_n t_0_124 rfl ?_
    refine ev_bipush t_0_125 ?_
    change Ev _ _ _ _ ([.int (nI 6), .int (nI k)]) _ _
    refine ev_icmp_geN t_0_127 (by omega) (by omega) (fun h => ?_) (fun h => ?_)
    · omega
    · refine ev_aload_n t_0_130 rfl ?_
      refine ef_get (fs := [.ref 9, .ref 11, .ref 12, .ref 13, .ref 17, .ref 19, .ref 20, .int 96, .ref 24, .ref 25, .int 0, .int 0, .int 0, .int 0, .int 0]) (x := .ref 11) t_0_131 (by omega) FB_8 rfl ?_
      refine ev_iload_n t_0_134 rfl ?_
      refine ef_new (q := (26 + 2 * k)) (c' := ((18 + 2 * k) + 1)) (s' := ((s + 26 * k) + 2)) (fs := [.null, .int 0]) t_0_135 (Nat.le_of_ble_eq_true rfl) (by omega) (by omega) rfl rfl rfl ?_
      refine ev_dup t_0_138 rfl ?_
      refine ev_cl (pm_st_I t_0_139 (Nat.le_of_ble_eq_true rfl) (as := [.ref (26 + 2 * k)]) (rest := [.ref (26 + 2 * k), .int (nI k), .ref 11]) (L0 := [some (.ref (26 + 2 * k))]) rfl rfl (Nat.le_of_ble_eq_true rfl) (Nat.le_of_ble_eq_true rfl) rfl (ef_rc (cc := 4) (fs := [.null, .int 0]) (by omega) (by rw [uF_at]) rfl (Nat.le_of_ble_eq_true rfl))) rfl (k87 (Nat.le_refl 8) (by omega) (by rw [uF_at])) ?_
      rintro _ _ ⟨rfl, rfl⟩
      rw [show 8 + ((18 + 2 * k) + 1) = (26 + 2 * k + 1) by omega]
      change Ev _ _ _ _ ([.ref (26 + 2 * k), .int (nI k), .ref 11]) (fh 8 (uF (uF (uF (FB k 0 0) (26 + 2 * k) (.inr (4, [.null, .int 0]))) (26 + 2 * k + 1) (.inl (.char, 24, fun _ => .int 0))) (26 + 2 * k) (.inr (4, [.ref (26 + 2 * k + 1), .int 0]))) ((18 + 2 * k) + 2) ((s + 26 * k) + 26) M) _
      refine ef_aast (C := "MemoRuntime$Text") (cc := 4) (k := k) (n := 6) (f := fun j => if j < k then .ref (26 + 2 * j) else .null) (fs := [.ref (26 + 2 * k + 1), .int 0]) t_0_142 (Nat.le_refl 8) (by omega) (by omega) (by rw [uF_ne (by omega), uF_ne (by omega), uF_ne (by omega)]; exact FB_11) (by rw [uF_at]) (Nat.le_of_ble_eq_true rfl) rfl (by omega) (Nat.le_of_ble_eq_true rfl) ?_
      refine ev_aload_n t_0_143 rfl ?_
      refine ef_get (fs := [.ref 9, .ref 11, .ref 12, .ref 13, .ref 17, .ref 19, .ref 20, .int 96, .ref 24, .ref 25, .int 0, .int 0, .int 0, .int 0, .int 0]) (x := .ref 11) t_0_144 (by omega) (by rw [uF_ne (by omega), uF_ne (by omega), uF_ne (by omega), uF_ne (by omega)]; exact FB_8) rfl ?_
      refine ev_iload_n t_0_147 rfl ?_
      refine ef_aald (C := "MemoRuntime$Text") (k := k) (n := 6) (f := pm_uv (fun j => if j < k then .ref (26 + 2 * j) else .null) k (.ref (26 + 2 * k))) (x := .ref (26 + 2 * k)) t_0_148 (by omega) (by rw [uF_at]) (by omega) (Nat.le_of_ble_eq_true rfl) (by unfold pm_uv; rw [if_pos rfl]) ?_
      refine ev_bipush t_0_149 ?_
      change Ev _ _ _ _ ([.int (nI 48), .ref (26 + 2 * k)]) _ _
      refine ev_cl (pm_st_V t_0_151 (as := [.ref (26 + 2 * k), .int (nI 48)]) (rest := []) (L0 := [some (.ref (26 + 2 * k)), some (.int (nI 48))]) rfl rfl (Nat.le_of_ble_eq_true rfl) (Nat.le_of_ble_eq_true rfl) rfl (ef_rc (cc := 4) (fs := [.ref (26 + 2 * k + 1), .int 0]) (by omega) (by rw [uF_ne (by omega), uF_at]) rfl (Nat.le_of_ble_eq_true rfl))) rfl (k89 (p1 := (26 + 2 * k + 1)) (Nat.le_refl 8) (by omega) (by omega) (by omega) (by rw [uF_ne (by omega), uF_at]) (by rw [uF_ne (by omega), uF_ne (by omega), uF_at])) ?_
      rintro _ _ ⟨rfl, rfl⟩
      change Ev _ _ _ _ ([]) (fh 8 (uF (uF (uF (uF (uF (uF (FB k 0 0) (26 + 2 * k) (.inr (4, [.null, .int 0]))) (26 + 2 * k + 1) (.inl (.char, 24, fun _ => .int 0))) (26 + 2 * k) (.inr (4, [.ref (26 + 2 * k + 1), .int 0]))) 11 (.inl (.object "MemoRuntime$Text", 6, pm_uv (fun j => if j < k then .ref (26 + 2 * j) else .null) k (.ref (26 + 2 * k))))) (26 + 2 * k + 1) (.inl (.char, 24, pm_uv (fun _ => .int 0) 0 (.int (nI 48))))) (26 + 2 * k) (.inr (4, [.ref (26 + 2 * k + 1), .int (nI 1)]))) ((18 + 2 * k) + 2) ((s + 26 * k) + 26) M) _
      refine ev_iincN (L' := [some (.ref 8), some (.int (nI (k + 1)))]) t_0_154 rfl (Nat.le_of_ble_eq_true rfl) rfl ?_
      refine ev_goto t_0_157 ?_
      have e : fh 8 (uF (uF (uF (uF (uF (uF (FB k 0 0) (26 + 2 * k) (.inr (4, [.null, .int 0]))) (26 + 2 * k + 1) (.inl (.char, 24, fun _ => .int 0))) (26 + 2 * k) (.inr (4, [.ref (26 + 2 * k + 1), .int 0]))) 11 (.inl (.object "MemoRuntime$Text", 6, pm_uv (fun j => if j < k then .ref (26 + 2 * j) else .null) k (.ref (26 + 2 * k))))) (26 + 2 * k + 1) (.inl (.char, 24, pm_uv (fun _ => .int 0) 0 (.int (nI 48))))) (26 + 2 * k) (.inr (4, [.ref (26 + 2 * k + 1), .int (nI 1)]))) ((18 + 2 * k) + 2) ((s + 26 * k) + 26) M = fh 8 (FB (k + 1) 0 0) (18 + 2 * (k + 1)) (s + 26 * (k + 1)) M := by
        rw [show 18 + 2 * (k + 1) = ((18 + 2 * k) + 2) by omega, show s + 26 * (k + 1) = ((s + 26 * k) + 26) by omega]
        refine fh_eq (fun q h1 h2 => ?_)
        by_cases hx : q = (26 + 2 * k)
        · subst hx
          rw [uF_at]
          rw [FB_o (by omega) (by omega) (by omega)]
          exact (sh_T (by omega)).symm
        have hx0 := hx
        by_cases hx : q = (26 + 2 * k + 1)
        · subst hx
          rw [uF_ne (by omega), uF_at]
          rw [FB_o (by omega) (by omega) (by omega)]
          exact (sh_T1 (by omega)).symm
        have hx1 := hx
        by_cases hx : q = 11
        · subst hx
          rw [uF_ne (by omega), uF_ne (by omega), uF_at]
          rw [FB_11]
          exact congrArg (fun g => (Sum.inl (.object "MemoRuntime$Text", 6, g) : pm_E)) (uv_ref (g := fun j => .ref (26 + 2 * j)))
        have hx2 := hx
        rw [uF_ne (by omega), uF_ne (by omega), uF_ne (by omega), uF_ne (by omega), uF_ne (by omega), uF_ne (by omega)]
        unfold FB
        (repeat' split) <;> first | rfl | omega
      rw [e]
      exact ih
theorem k0c : ∀ (j k : Nat), k + j = 96 → Ev (d + 2) 0 187 [some (.ref 8), some (.int (nI 96))] [] (fh 8 (FB 6 96 0) 222 (s + 2976) M) Q → Ev (d + 2) 0 162 [some (.ref 8), some (.int (nI k))] [] (fh 8 (FB 6 k 0) (30 + 2 * k) (s + 31 * k) M) Q := by
  intro j
  induction j with
  | zero =>
    intro k hk kk
    obtain rfl : k = 96 := by omega
    refine ev_iload_n t_0_162 rfl ?_
    refine ev_bipush t_0_163 ?_
    change Ev _ _ _ _ ([.int (nI 96), .int (nI 96)]) _ _
    refine ev_icmp_geN t_0_165 (by omega) (by omega) (fun h => ?_) (fun h => ?_)
    · exact kk
    · omega
  | succ j ih =>
    intro k hk kk
    have ih := ih (k + 1) (by omega) kk
    refine ev_iload_n t_0_162 rfl ?_
    refine ev_bipush t_0_163 ?_
    change Ev _ _ _ _ ([.int (nI 96), .int (nI k)]) _ _
    refine ev_icmp_geN t_0_165 (by omega) (by omega) (fun h => ?_) (fun h => ?_)
    · omega
    · refine ev_aload_n t_0_168 rfl ?_
      refine ef_get (fs := [.ref 9, .ref 11, .ref 12, .ref 13, .ref 17, .ref 19, .ref 20, .int 96, .ref 24, .ref 25, .int 0, .int 0, .int 0, .int 0, .int 0]) (x := .ref 19) t_0_169 (by omega) FB_8 rfl ?_
      refine ev_iload_n t_0_172 rfl ?_
      refine ef_new (q := (38 + 2 * k)) (c' := ((30 + 2 * k) + 1)) (s' := ((s + 31 * k) + 7)) (fs := [.int 0, .null, .int 0, .int 0, .int 0, .int 0, .int 0]) t_0_173 (Nat.le_of_ble_eq_true rfl) (by omega) (by omega) rfl rfl rfl ?_
      refine ev_dup t_0_176 rfl ?_
      refine ev_cl (pm_st_I t_0_177 (Nat.le_of_ble_eq_true rfl) (as := [.ref (38 + 2 * k)]) (rest := [.ref (38 + 2 * k), .int (nI k), .ref 19]) (L0 := [some (.ref (38 + 2 * k))]) rfl rfl (Nat.le_of_ble_eq_true rfl) (Nat.le_of_ble_eq_true rfl) rfl (ef_rc (cc := 0) (fs := [.int 0, .null, .int 0, .int 0, .int 0, .int 0, .int 0]) (by omega) (by rw [uF_at]) rfl (Nat.le_of_ble_eq_true rfl))) rfl (k75 (Nat.le_refl 8) (by omega) (by rw [uF_at])) ?_
      rintro _ _ ⟨rfl, rfl⟩
      rw [show 8 + ((30 + 2 * k) + 1) = (38 + 2 * k + 1) by omega]
      change Ev _ _ _ _ ([.ref (38 + 2 * k), .int (nI k), .ref 19]) (fh 8 (uF (uF (uF (FB 6 k 0) (38 + 2 * k) (.inr (0, [.int 0, .null, .int 0, .int 0, .int 0, .int 0, .int 0]))) (38 + 2 * k + 1) (.inl (.int, 24, fun _ => .int 0))) (38 + 2 * k) (.inr (0, [.int 0, .ref (38 + 2 * k + 1), .int 0, .int 0, .int 0, .int 2, .int 0]))) ((30 + 2 * k) + 2) ((s + 31 * k) + 31) M) _
      refine ef_aast (C := "MemoRuntime$Cell") (cc := 0) (k := k) (n := 96) (f := fun j => if j < k then .ref (38 + 2 * j) else .null) (fs := [.int 0, .ref (38 + 2 * k + 1), .int 0, .int 0, .int 0, .int 2, .int 0]) t_0_180 (Nat.le_refl 8) (by omega) (by omega) (by rw [uF_ne (by omega), uF_ne (by omega), uF_ne (by omega)]; exact FB_19) (by rw [uF_at]) (Nat.le_of_ble_eq_true rfl) rfl (by omega) (Nat.le_of_ble_eq_true rfl) ?_
      refine ev_iincN (L' := [some (.ref 8), some (.int (nI (k + 1)))]) t_0_181 rfl (Nat.le_of_ble_eq_true rfl) rfl ?_
      refine ev_goto t_0_184 ?_
      have e : fh 8 (uF (uF (uF (uF (FB 6 k 0) (38 + 2 * k) (.inr (0, [.int 0, .null, .int 0, .int 0, .int 0, .int 0, .int 0]))) (38 + 2 * k + 1) (.inl (.int, 24, fun _ => .int 0))) (38 + 2 * k) (.inr (0, [.int 0, .ref (38 + 2 * k + 1), .int 0, .int 0, .int 0, .int 2, .int 0]))) 19 (.inl (.object "MemoRuntime$Cell", 96, pm_uv (fun j => if j < k then .ref (38 + 2 * j) else .null) k (.ref (38 + 2 * k))))) ((30 + 2 * k) + 2) ((s + 31 * k) + 31) M = fh 8 (FB 6 (k + 1) 0) (30 + 2 * (k + 1)) (s + 31 * (k + 1)) M := by
        rw [show 30 + 2 * (k + 1) = ((30 + 2 * k) + 2) by omega, show s + 31 * (k + 1) = ((s + 31 * k) + 31) by omega]
        refine fh_eq (fun q h1 h2 => ?_)
        by_cases hx : q = (38 + 2 * k)
        · subst hx
          rw [uF_ne (by omega), uF_at]
          rw [FB_o (by omega) (by omega) (by omega)]
          exact (sh_C (by omega)).symm
        have hx0 := hx
        by_cases hx : q = (38 + 2 * k + 1)
        · subst hx
          rw [uF_ne (by omega), uF_ne (by omega), uF_at]
          rw [FB_o (by omega) (by omega) (by omega)]
          exact (sh_C1 (by omega)).symm
        have hx1 := hx
        by_cases hx : q = 19
        · subst hx
          rw [uF_at]
          rw [FB_19]
          exact congrArg (fun g => (Sum.inl (.object "MemoRuntime$Cell", 96, g) : pm_E)) (uv_ref (g := fun j => .ref (38 + 2 * j)))
        have hx2 := hx
        rw [uF_ne (by omega), uF_ne (by omega), uF_ne (by omega), uF_ne (by omega)]
        unfold FB
        (repeat' split) <;> first | rfl | omega
      rw [e]
      exact ih
theorem k0w : ∀ (j k : Nat), k + j = 20 → Ev (d + 2) 0 214 [some (.ref 8), some (.int (nI 20))] [] (fh 8 (FB 6 96 20) 362 (s + 2660) M) Q → Ev (d + 2) 0 189 [some (.ref 8), some (.int (nI k))] [] (fh 8 (FB 6 96 k) (222 + 7 * k) (s + 133 * k) M) Q := by
  intro j
  induction j with
  | zero =>
    intro k hk kk
    obtain rfl : k = 20 := by omega
    refine ev_iload_n t_0_189 rfl ?_
    refine ev_bipush t_0_190 ?_
    change Ev _ _ _ _ ([.int (nI 20), .int (nI 20)]) _ _
    refine ev_icmp_geN t_0_192 (by omega) (by omega) (fun h => ?_) (fun h => ?_)
    · exact kk
    · omega
  | succ j ih =>
    intro k hk kk
    have ih := ih (k + 1) (by omega) kk
    refine ev_iload_n t_0_189 rfl ?_
    refine ev_bipush t_0_190 ?_
    change Ev _ _ _ _ ([.int (nI 20), .int (nI k)]) _ _
    refine ev_icmp_geN t_0_192 (by omega) (by omega) (fun h => ?_) (fun h => ?_)
    · omega
    · refine ev_aload_n t_0_195 rfl ?_
      refine ef_get (fs := [.ref 9, .ref 11, .ref 12, .ref 13, .ref 17, .ref 19, .ref 20, .int 96, .ref 24, .ref 25, .int 0, .int 0, .int 0, .int 0, .int 0]) (x := .ref 25) t_0_196 (by omega) FB_8 rfl ?_
      refine ev_iload_n t_0_199 rfl ?_
      refine ef_new (q := (230 + 7 * k)) (c' := ((222 + 7 * k) + 1)) (s' := ((s + 133 * k) + 11)) (fs := [.int 0, .int 0, .null, .int 0, .null, .int 0, .int 0, .null, .null, .null, .int 0]) t_0_200 (Nat.le_of_ble_eq_true rfl) (by omega) (by omega) rfl rfl rfl ?_
      refine ev_dup t_0_203 rfl ?_
      refine ev_cl (pm_st_I t_0_204 (Nat.le_of_ble_eq_true rfl) (as := [.ref (230 + 7 * k)]) (rest := [.ref (230 + 7 * k), .int (nI k), .ref 25]) (L0 := [some (.ref (230 + 7 * k))]) rfl rfl (Nat.le_of_ble_eq_true rfl) (Nat.le_of_ble_eq_true rfl) rfl (ef_rc (cc := 5) (fs := [.int 0, .int 0, .null, .int 0, .null, .int 0, .int 0, .null, .null, .null, .int 0]) (by omega) (by rw [uF_at]) rfl (Nat.le_of_ble_eq_true rfl))) rfl (k93 (Nat.le_refl 8) (by omega) (by rw [uF_at])) ?_
      rintro _ _ ⟨rfl, rfl⟩
      rw [show 8 + ((222 + 7 * k) + 1) = (230 + 7 * k + 1) by omega]
      rw [show 8 + (((222 + 7 * k) + 1) + 1) = (230 + 7 * k + 2) by omega]
      rw [show 8 + (((222 + 7 * k) + 1) + 2) = (230 + 7 * k + 3) by omega]
      rw [show 8 + (((222 + 7 * k) + 1) + 3) = (230 + 7 * k + 4) by omega]
      rw [show 8 + (((222 + 7 * k) + 1) + 4) = (230 + 7 * k + 5) by omega]
      rw [show 8 + (((222 + 7 * k) + 1) + 5) = (230 + 7 * k + 6) by omega]
      change Ev _ _ _ _ ([.ref (230 + 7 * k), .int (nI k), .ref 25]) (fh 8 (uF (uF (uF (uF (uF (uF (uF (uF (FB 6 96 k) (230 + 7 * k) (.inr (5, [.int 0, .int 0, .null, .int 0, .null, .int 0, .int 0, .null, .null, .null, .int 0]))) (230 + 7 * k + 1) (.inl (.int, 24, fun _ => .int 0))) (230 + 7 * k + 2) (.inr (4, [.ref (230 + 7 * k + 3), .int 0]))) (230 + 7 * k + 3) (.inl (.char, 24, fun _ => .int 0))) (230 + 7 * k + 4) (.inl (.char, 24, fun _ => .int 0))) (230 + 7 * k + 5) (.inl (.boolean, 24, fun _ => .int 0))) (230 + 7 * k + 6) (.inl (.int, 24, fun _ => .int 0))) (230 + 7 * k) (.inr (5, [.int (-1), .int 0, .ref (230 + 7 * k + 1), .int 0, .ref (230 + 7 * k + 2), .int 0, .int 0, .ref (230 + 7 * k + 4), .ref (230 + 7 * k + 5), .ref (230 + 7 * k + 6), .int 0]))) ((222 + 7 * k) + 7) ((s + 133 * k) + 133) M) _
      refine ef_aast (C := "MemoRuntime$Working") (cc := 5) (k := k) (n := 20) (f := fun j => if j < k then .ref (230 + 7 * j) else .null) (fs := [.int (-1), .int 0, .ref (230 + 7 * k + 1), .int 0, .ref (230 + 7 * k + 2), .int 0, .int 0, .ref (230 + 7 * k + 4), .ref (230 + 7 * k + 5), .ref (230 + 7 * k + 6), .int 0]) t_0_207 (Nat.le_refl 8) (by omega) (by omega) (by rw [uF_ne (by omega), uF_ne (by omega), uF_ne (by omega), uF_ne (by omega), uF_ne (by omega), uF_ne (by omega), uF_ne (by omega), uF_ne (by omega)]; exact FB_25) (by rw [uF_at]) (Nat.le_of_ble_eq_true rfl) rfl (by omega) (Nat.le_of_ble_eq_true rfl) ?_
      refine ev_iincN (L' := [some (.ref 8), some (.int (nI (k + 1)))]) t_0_208 rfl (Nat.le_of_ble_eq_true rfl) rfl ?_
      refine ev_goto t_0_211 ?_
      have e : fh 8 (uF (uF (uF (uF (uF (uF (uF (uF (uF (FB 6 96 k) (230 + 7 * k) (.inr (5, [.int 0, .int 0, .null, .int 0, .null, .int 0, .int 0, .null, .null, .null, .int 0]))) (230 + 7 * k + 1) (.inl (.int, 24, fun _ => .int 0))) (230 + 7 * k + 2) (.inr (4, [.ref (230 + 7 * k + 3), .int 0]))) (230 + 7 * k + 3) (.inl (.char, 24, fun _ => .int 0))) (230 + 7 * k + 4) (.inl (.char, 24, fun _ => .int 0))) (230 + 7 * k + 5) (.inl (.boolean, 24, fun _ => .int 0))) (230 + 7 * k + 6) (.inl (.int, 24, fun _ => .int 0))) (230 + 7 * k) (.inr (5, [.int (-1), .int 0, .ref (230 + 7 * k + 1), .int 0, .ref (230 + 7 * k + 2), .int 0, .int 0, .ref (230 + 7 * k + 4), .ref (230 + 7 * k + 5), .ref (230 + 7 * k + 6), .int 0]))) 25 (.inl (.object "MemoRuntime$Working", 20, pm_uv (fun j => if j < k then .ref (230 + 7 * j) else .null) k (.ref (230 + 7 * k))))) ((222 + 7 * k) + 7) ((s + 133 * k) + 133) M = fh 8 (FB 6 96 (k + 1)) (222 + 7 * (k + 1)) (s + 133 * (k + 1)) M := by
        rw [show 222 + 7 * (k + 1) = ((222 + 7 * k) + 7) by omega, show s + 133 * (k + 1) = ((s + 133 * k) + 133) by omega]
        refine fh_eq (fun q h1 h2 => ?_)
        by_cases hx : q = (230 + 7 * k)
        · subst hx
          rw [uF_ne (by omega), uF_at]
          rw [FB_o (by omega) (by omega) (by omega)]
          exact (sh_W (by omega)).symm
        have hx0 := hx
        by_cases hx : q = (230 + 7 * k + 1)
        · subst hx
          rw [uF_ne (by omega), uF_ne (by omega), uF_ne (by omega), uF_ne (by omega), uF_ne (by omega), uF_ne (by omega), uF_ne (by omega), uF_at]
          rw [FB_o (by omega) (by omega) (by omega)]
          exact (sh_Wa (by omega) (by omega) (by omega) (fun _ => rfl)).symm
        have hx1 := hx
        by_cases hx : q = (230 + 7 * k + 2)
        · subst hx
          rw [uF_ne (by omega), uF_ne (by omega), uF_ne (by omega), uF_ne (by omega), uF_ne (by omega), uF_ne (by omega), uF_at]
          rw [FB_o (by omega) (by omega) (by omega)]
          exact (sh_W2 (by omega)).symm
        have hx2 := hx
        by_cases hx : q = (230 + 7 * k + 3)
        · subst hx
          rw [uF_ne (by omega), uF_ne (by omega), uF_ne (by omega), uF_ne (by omega), uF_ne (by omega), uF_at]
          rw [FB_o (by omega) (by omega) (by omega)]
          exact (sh_Wa (by omega) (by omega) (by omega) (fun _ => rfl)).symm
        have hx3 := hx
        by_cases hx : q = (230 + 7 * k + 4)
        · subst hx
          rw [uF_ne (by omega), uF_ne (by omega), uF_ne (by omega), uF_ne (by omega), uF_at]
          rw [FB_o (by omega) (by omega) (by omega)]
          exact (sh_Wa (by omega) (by omega) (by omega) (fun _ => rfl)).symm
        have hx4 := hx
        by_cases hx : q = (230 + 7 * k + 5)
        · subst hx
          rw [uF_ne (by omega), uF_ne (by omega), uF_ne (by omega), uF_at]
          rw [FB_o (by omega) (by omega) (by omega)]
          exact (sh_Wa (by omega) (by omega) (by omega) (fun _ => rfl)).symm
        have hx5 := hx
        by_cases hx : q = (230 + 7 * k + 6)
        · subst hx
          rw [uF_ne (by omega), uF_ne (by omega), uF_at]
          rw [FB_o (by omega) (by omega) (by omega)]
          exact (sh_Wa (by omega) (by omega) (by omega) (fun _ => rfl)).symm
        have hx6 := hx
        by_cases hx : q = 25
        · subst hx
          rw [uF_at]
          rw [FB_25]
          exact congrArg (fun g => (Sum.inl (.object "MemoRuntime$Working", 20, g) : pm_E)) (uv_ref (g := fun j => .ref (230 + 7 * j)))
        have hx7 := hx
        rw [uF_ne (by omega), uF_ne (by omega), uF_ne (by omega), uF_ne (by omega), uF_ne (by omega), uF_ne (by omega), uF_ne (by omega), uF_ne (by omega), uF_ne (by omega)]
        unfold FB
        (repeat' split) <;> first | rfl | omega
      rw [e]
      exact ih
theorem k0 {F : Nat → pm_E} (hF : F 8 = .inr (6, [.null, .null, .null, .null, .null, .null, .null, .int 0, .null, .null, .int 0, .int 0, .int 0, .int 0, .int 0])) : Ev (d + 2) 0 0 [some (.ref 8), none] [] (fh 8 F 1 (s + 15) M) (fun q9 M' => ∃ v9, q9 = .inl v9 ∧ v9 = none ∧ M' = fh 8 (FB 6 96 20) 362 (s + 590 + 156 + 2976 + 2660) M) := by
  refine ev_aload_n t_0_0 rfl ?_
  refine ev_objinit t_0_1 (Nat.le_of_ble_eq_true rfl) ?_
  refine ev_aload_n t_0_4 rfl ?_
  refine ef_new (q := 9) (c' := 2) (s' := (s + 17)) (fs := [.null, .int 0]) t_0_5 (Nat.le_of_ble_eq_true rfl) (by omega) rfl rfl rfl rfl ?_
  refine ev_dup t_0_8 rfl ?_
  refine ev_cl (pm_st_I t_0_9 (Nat.le_of_ble_eq_true rfl) (as := [.ref 9]) (rest := [.ref 9, .ref 8]) (L0 := [some (.ref 9)]) rfl rfl (Nat.le_of_ble_eq_true rfl) (Nat.le_of_ble_eq_true rfl) rfl (ef_rc (cc := 4) (fs := [.null, .int 0]) (by omega) (by rw [uF_at]) rfl (Nat.le_of_ble_eq_true rfl))) rfl (k87 (Nat.le_refl 8) (by omega) (by rw [uF_at])) ?_
  rintro _ _ ⟨rfl, rfl⟩
  change Ev _ _ _ _ ([.ref 9, .ref 8]) (fh 8 (uF (uF (uF F 9 (.inr (4, [.null, .int 0]))) 10 (.inl (.char, 24, fun _ => .int 0))) 9 (.inr (4, [.ref 10, .int 0]))) 3 (s + 41) M) _
  refine ef_put (fs := [.null, .null, .null, .null, .null, .null, .null, .int 0, .null, .null, .int 0, .int 0, .int 0, .int 0, .int 0]) (fs' := [.ref 9, .null, .null, .null, .null, .null, .null, .int 0, .null, .null, .int 0, .int 0, .int 0, .int 0, .int 0]) t_0_12 (Nat.le_refl 8) (by omega) (by rw [uF_ne (by omega), uF_ne (by omega), uF_ne (by omega)]; exact hF) (Nat.le_of_ble_eq_true rfl) rfl rfl rfl ?_
  refine ev_aload_n t_0_15 rfl ?_
  refine ev_bipush t_0_16 ?_
  change Ev _ _ _ _ ([.int (nI 6), .ref 8]) _ _
  refine ef_anewarray (k := 6) (q := 11) (c' := 4) (s' := (s + 47)) (C := "MemoRuntime$Text") t_0_18 (Nat.le_of_ble_eq_true rfl) (by omega) rfl rfl rfl rfl ?_
  refine ef_put (fs := [.ref 9, .null, .null, .null, .null, .null, .null, .int 0, .null, .null, .int 0, .int 0, .int 0, .int 0, .int 0]) (fs' := [.ref 9, .ref 11, .null, .null, .null, .null, .null, .int 0, .null, .null, .int 0, .int 0, .int 0, .int 0, .int 0]) t_0_21 (Nat.le_refl 8) (by omega) (by rw [uF_ne (by omega), uF_at]) (Nat.le_of_ble_eq_true rfl) rfl rfl rfl ?_
  refine ev_aload_n t_0_24 rfl ?_
  refine ev_bipush t_0_25 ?_
  change Ev _ _ _ _ ([.int (nI 6), .ref 8]) _ _
  refine ef_newarray (k := 6) (q := 12) (c' := 5) (s' := (s + 53)) (ty := .int) t_0_27 (Nat.le_of_ble_eq_true rfl) (by omega) rfl rfl rfl rfl rfl ?_
  refine ef_put (fs := [.ref 9, .ref 11, .null, .null, .null, .null, .null, .int 0, .null, .null, .int 0, .int 0, .int 0, .int 0, .int 0]) (fs' := [.ref 9, .ref 11, .ref 12, .null, .null, .null, .null, .int 0, .null, .null, .int 0, .int 0, .int 0, .int 0, .int 0]) t_0_29 (Nat.le_refl 8) (by omega) (by rw [uF_ne (by omega), uF_at]) (Nat.le_of_ble_eq_true rfl) rfl rfl rfl ?_
  refine ev_aload_n t_0_32 rfl ?_
  refine ef_new (q := 13) (c' := 6) (s' := (s + 56)) (fs := [.null, .null, .null]) t_0_33 (Nat.le_of_ble_eq_true rfl) (by omega) rfl rfl rfl rfl ?_
  refine ev_dup t_0_36 rfl ?_
  refine ev_cl (pm_st_I t_0_37 (Nat.le_of_ble_eq_true rfl) (as := [.ref 13]) (rest := [.ref 13, .ref 8]) (L0 := [some (.ref 13)]) rfl rfl (Nat.le_of_ble_eq_true rfl) (Nat.le_of_ble_eq_true rfl) rfl (ef_rc (cc := 2) (fs := [.null, .null, .null]) (by omega) (by rw [uF_at]) rfl (Nat.le_of_ble_eq_true rfl))) rfl (k79 (Nat.le_refl 8) (by omega) (by rw [uF_at])) ?_
  rintro _ _ ⟨rfl, rfl⟩
  change Ev _ _ _ _ ([.ref 13, .ref 8]) (fh 8 (uF (uF (uF (uF (uF (uF (uF (uF (uF (uF (uF (uF (uF F 9 (.inr (4, [.null, .int 0]))) 10 (.inl (.char, 24, fun _ => .int 0))) 9 (.inr (4, [.ref 10, .int 0]))) 8 (.inr (6, [.ref 9, .null, .null, .null, .null, .null, .null, .int 0, .null, .null, .int 0, .int 0, .int 0, .int 0, .int 0]))) 11 (.inl (.object "MemoRuntime$Text", 6, fun _ => .null))) 8 (.inr (6, [.ref 9, .ref 11, .null, .null, .null, .null, .null, .int 0, .null, .null, .int 0, .int 0, .int 0, .int 0, .int 0]))) 12 (.inl (.int, 6, fun _ => .int 0))) 8 (.inr (6, [.ref 9, .ref 11, .ref 12, .null, .null, .null, .null, .int 0, .null, .null, .int 0, .int 0, .int 0, .int 0, .int 0]))) 13 (.inr (2, [.null, .null, .null]))) 14 (.inl (.int, 48, fun _ => .int 0))) 15 (.inl (.int, 48, fun _ => .int 0))) 16 (.inl (.int, 3, fun _ => .int 0))) 13 (.inr (2, [.ref 14, .ref 15, .ref 16]))) 9 (s + 155) M) _
  refine ef_put (fs := [.ref 9, .ref 11, .ref 12, .null, .null, .null, .null, .int 0, .null, .null, .int 0, .int 0, .int 0, .int 0, .int 0]) (fs' := [.ref 9, .ref 11, .ref 12, .ref 13, .null, .null, .null, .int 0, .null, .null, .int 0, .int 0, .int 0, .int 0, .int 0]) t_0_40 (Nat.le_refl 8) (by omega) (by rw [uF_ne (by omega), uF_ne (by omega), uF_ne (by omega), uF_ne (by omega), uF_ne (by omega), uF_at]) (Nat.le_of_ble_eq_true rfl) rfl rfl rfl ?_
  refine ev_aload_n t_0_43 rfl ?_
  refine ef_new (q := 17) (c' := 10) (s' := (s + 157)) (fs := [.int 0, .null]) t_0_44 (Nat.le_of_ble_eq_true rfl) (by omega) rfl rfl rfl rfl ?_
  refine ev_dup t_0_47 rfl ?_
  refine ev_cl (pm_st_I t_0_48 (Nat.le_of_ble_eq_true rfl) (as := [.ref 17]) (rest := [.ref 17, .ref 8]) (L0 := [some (.ref 17)]) rfl rfl (Nat.le_of_ble_eq_true rfl) (Nat.le_of_ble_eq_true rfl) rfl (ef_rc (cc := 1) (fs := [.int 0, .null]) (by omega) (by rw [uF_at]) rfl (Nat.le_of_ble_eq_true rfl))) rfl (k76 (Nat.le_refl 8) (by omega) (by rw [uF_at])) ?_
  rintro _ _ ⟨rfl, rfl⟩
  change Ev _ _ _ _ ([.ref 17, .ref 8]) (fh 8 (uF (uF (uF (uF (uF (uF (uF (uF (uF (uF (uF (uF (uF (uF (uF (uF (uF F 9 (.inr (4, [.null, .int 0]))) 10 (.inl (.char, 24, fun _ => .int 0))) 9 (.inr (4, [.ref 10, .int 0]))) 8 (.inr (6, [.ref 9, .null, .null, .null, .null, .null, .null, .int 0, .null, .null, .int 0, .int 0, .int 0, .int 0, .int 0]))) 11 (.inl (.object "MemoRuntime$Text", 6, fun _ => .null))) 8 (.inr (6, [.ref 9, .ref 11, .null, .null, .null, .null, .null, .int 0, .null, .null, .int 0, .int 0, .int 0, .int 0, .int 0]))) 12 (.inl (.int, 6, fun _ => .int 0))) 8 (.inr (6, [.ref 9, .ref 11, .ref 12, .null, .null, .null, .null, .int 0, .null, .null, .int 0, .int 0, .int 0, .int 0, .int 0]))) 13 (.inr (2, [.null, .null, .null]))) 14 (.inl (.int, 48, fun _ => .int 0))) 15 (.inl (.int, 48, fun _ => .int 0))) 16 (.inl (.int, 3, fun _ => .int 0))) 13 (.inr (2, [.ref 14, .ref 15, .ref 16]))) 8 (.inr (6, [.ref 9, .ref 11, .ref 12, .ref 13, .null, .null, .null, .int 0, .null, .null, .int 0, .int 0, .int 0, .int 0, .int 0]))) 17 (.inr (1, [.int 0, .null]))) 18 (.inl (.int, 3, fun _ => .int 0))) 17 (.inr (1, [.int 0, .ref 18]))) 11 (s + 160) M) _
  refine ef_put (fs := [.ref 9, .ref 11, .ref 12, .ref 13, .null, .null, .null, .int 0, .null, .null, .int 0, .int 0, .int 0, .int 0, .int 0]) (fs' := [.ref 9, .ref 11, .ref 12, .ref 13, .ref 17, .null, .null, .int 0, .null, .null, .int 0, .int 0, .int 0, .int 0, .int 0]) t_0_51 (Nat.le_refl 8) (by omega) (by rw [uF_ne (by omega), uF_ne (by omega), uF_ne (by omega), uF_at]) (Nat.le_of_ble_eq_true rfl) rfl rfl rfl ?_
  refine ev_aload_n t_0_54 rfl ?_
  refine ev_bipush t_0_55 ?_
  change Ev _ _ _ _ ([.int (nI 96), .ref 8]) _ _
  refine ef_anewarray (k := 96) (q := 19) (c' := 12) (s' := (s + 256)) (C := "MemoRuntime$Cell") t_0_57 (Nat.le_of_ble_eq_true rfl) (by omega) rfl rfl rfl rfl ?_
  refine ef_put (fs := [.ref 9, .ref 11, .ref 12, .ref 13, .ref 17, .null, .null, .int 0, .null, .null, .int 0, .int 0, .int 0, .int 0, .int 0]) (fs' := [.ref 9, .ref 11, .ref 12, .ref 13, .ref 17, .ref 19, .null, .int 0, .null, .null, .int 0, .int 0, .int 0, .int 0, .int 0]) t_0_60 (Nat.le_refl 8) (by omega) (by rw [uF_ne (by omega), uF_at]) (Nat.le_of_ble_eq_true rfl) rfl rfl rfl ?_
  refine ev_aload_n t_0_63 rfl ?_
  refine ef_new (q := 20) (c' := 13) (s' := (s + 260)) (fs := [.int 0, .null, .null, .null]) t_0_64 (Nat.le_of_ble_eq_true rfl) (by omega) rfl rfl rfl rfl ?_
  refine ev_dup t_0_67 rfl ?_
  refine ev_cl (pm_st_I t_0_68 (Nat.le_of_ble_eq_true rfl) (as := [.ref 20]) (rest := [.ref 20, .ref 8]) (L0 := [some (.ref 20)]) rfl rfl (Nat.le_of_ble_eq_true rfl) (Nat.le_of_ble_eq_true rfl) rfl (ef_rc (cc := 3) (fs := [.int 0, .null, .null, .null]) (by omega) (by rw [uF_at]) rfl (Nat.le_of_ble_eq_true rfl))) rfl (k80 (Nat.le_refl 8) (by omega) (by rw [uF_at])) ?_
  rintro _ _ ⟨rfl, rfl⟩
  change Ev _ _ _ _ ([.ref 20, .ref 8]) (fh 8 (uF (uF (uF (uF (uF (uF (uF (uF (uF (uF (uF (uF (uF (uF (uF (uF (uF (uF (uF (uF (uF (uF (uF (uF (uF F 9 (.inr (4, [.null, .int 0]))) 10 (.inl (.char, 24, fun _ => .int 0))) 9 (.inr (4, [.ref 10, .int 0]))) 8 (.inr (6, [.ref 9, .null, .null, .null, .null, .null, .null, .int 0, .null, .null, .int 0, .int 0, .int 0, .int 0, .int 0]))) 11 (.inl (.object "MemoRuntime$Text", 6, fun _ => .null))) 8 (.inr (6, [.ref 9, .ref 11, .null, .null, .null, .null, .null, .int 0, .null, .null, .int 0, .int 0, .int 0, .int 0, .int 0]))) 12 (.inl (.int, 6, fun _ => .int 0))) 8 (.inr (6, [.ref 9, .ref 11, .ref 12, .null, .null, .null, .null, .int 0, .null, .null, .int 0, .int 0, .int 0, .int 0, .int 0]))) 13 (.inr (2, [.null, .null, .null]))) 14 (.inl (.int, 48, fun _ => .int 0))) 15 (.inl (.int, 48, fun _ => .int 0))) 16 (.inl (.int, 3, fun _ => .int 0))) 13 (.inr (2, [.ref 14, .ref 15, .ref 16]))) 8 (.inr (6, [.ref 9, .ref 11, .ref 12, .ref 13, .null, .null, .null, .int 0, .null, .null, .int 0, .int 0, .int 0, .int 0, .int 0]))) 17 (.inr (1, [.int 0, .null]))) 18 (.inl (.int, 3, fun _ => .int 0))) 17 (.inr (1, [.int 0, .ref 18]))) 8 (.inr (6, [.ref 9, .ref 11, .ref 12, .ref 13, .ref 17, .null, .null, .int 0, .null, .null, .int 0, .int 0, .int 0, .int 0, .int 0]))) 19 (.inl (.object "MemoRuntime$Cell", 96, fun _ => .null))) 8 (.inr (6, [.ref 9, .ref 11, .ref 12, .ref 13, .ref 17, .ref 19, .null, .int 0, .null, .null, .int 0, .int 0, .int 0, .int 0, .int 0]))) 20 (.inr (3, [.int 0, .null, .null, .null]))) 21 (.inl (.boolean, 96, fun _ => .int 0))) 22 (.inl (.int, 97, pm_uv (fun _ => .int 0) 96 (.int 96)))) 23 (.inl (.int, 97, pm_uv (fun _ => .int 0) 96 (.int 96)))) 20 (.inr (3, [.int 0, .ref 21, .ref 22, .ref 23]))) 16 (s + 550) M) _
  refine ef_put (fs := [.ref 9, .ref 11, .ref 12, .ref 13, .ref 17, .ref 19, .null, .int 0, .null, .null, .int 0, .int 0, .int 0, .int 0, .int 0]) (fs' := [.ref 9, .ref 11, .ref 12, .ref 13, .ref 17, .ref 19, .ref 20, .int 0, .null, .null, .int 0, .int 0, .int 0, .int 0, .int 0]) t_0_71 (Nat.le_refl 8) (by omega) (by rw [uF_ne (by omega), uF_ne (by omega), uF_ne (by omega), uF_ne (by omega), uF_ne (by omega), uF_at]) (Nat.le_of_ble_eq_true rfl) rfl rfl rfl ?_
  refine ev_aload_n t_0_74 rfl ?_
  refine ev_bipush t_0_75 ?_
  change Ev _ _ _ _ ([.int (nI 96), .ref 8]) _ _
  refine ef_put (fs := [.ref 9, .ref 11, .ref 12, .ref 13, .ref 17, .ref 19, .ref 20, .int 0, .null, .null, .int 0, .int 0, .int 0, .int 0, .int 0]) (fs' := [.ref 9, .ref 11, .ref 12, .ref 13, .ref 17, .ref 19, .ref 20, .int (nI 96), .null, .null, .int 0, .int 0, .int 0, .int 0, .int 0]) t_0_77 (Nat.le_refl 8) (by omega) (by rw [uF_at]) (Nat.le_of_ble_eq_true rfl) rfl rfl rfl ?_
  refine ev_aload_n t_0_80 rfl ?_
  refine ev_bipush t_0_81 ?_
  change Ev _ _ _ _ ([.int (nI 20), .ref 8]) _ _
  refine ef_newarray (k := 20) (q := 24) (c' := 17) (s' := (s + 570)) (ty := .int) t_0_83 (Nat.le_of_ble_eq_true rfl) (by omega) rfl rfl rfl rfl rfl ?_
  refine ef_put (fs := [.ref 9, .ref 11, .ref 12, .ref 13, .ref 17, .ref 19, .ref 20, .int (nI 96), .null, .null, .int 0, .int 0, .int 0, .int 0, .int 0]) (fs' := [.ref 9, .ref 11, .ref 12, .ref 13, .ref 17, .ref 19, .ref 20, .int (nI 96), .ref 24, .null, .int 0, .int 0, .int 0, .int 0, .int 0]) t_0_85 (Nat.le_refl 8) (by omega) (by rw [uF_ne (by omega), uF_at]) (Nat.le_of_ble_eq_true rfl) rfl rfl rfl ?_
  refine ev_aload_n t_0_88 rfl ?_
  refine ev_bipush t_0_89 ?_
  change Ev _ _ _ _ ([.int (nI 20), .ref 8]) _ _
  refine ef_anewarray (k := 20) (q := 25) (c' := 18) (s' := (s + 590)) (C := "MemoRuntime$Working") t_0_91 (Nat.le_of_ble_eq_true rfl) (by omega) rfl rfl rfl rfl ?_
  refine ef_put (fs := [.ref 9, .ref 11, .ref 12, .ref 13, .ref 17, .ref 19, .ref 20, .int (nI 96), .ref 24, .null, .int 0, .int 0, .int 0, .int 0, .int 0]) (fs' := [.ref 9, .ref 11, .ref 12, .ref 13, .ref 17, .ref 19, .ref 20, .int (nI 96), .ref 24, .ref 25, .int 0, .int 0, .int 0, .int 0, .int 0]) t_0_94 (Nat.le_refl 8) (by omega) (by rw [uF_ne (by omega), uF_at]) (Nat.le_of_ble_eq_true rfl) rfl rfl rfl ?_
  refine ev_aload_n t_0_97 rfl ?_
  refine ev_iconst t_0_98 ?_
  change Ev _ _ _ _ ([.int (nI 0), .ref 8]) _ _
  refine ef_put (fs := [.ref 9, .ref 11, .ref 12, .ref 13, .ref 17, .ref 19, .ref 20, .int (nI 96), .ref 24, .ref 25, .int 0, .int 0, .int 0, .int 0, .int 0]) (fs' := [.ref 9, .ref 11, .ref 12, .ref 13, .ref 17, .ref 19, .ref 20, .int (nI 96), .ref 24, .ref 25, .int (nI 0), .int 0, .int 0, .int 0, .int 0]) t_0_99 (Nat.le_refl 8) (by omega) (by rw [uF_at]) (Nat.le_of_ble_eq_true rfl) rfl rfl rfl ?_
  refine ev_aload_n t_0_102 rfl ?_
  refine ev_iconst t_0_103 ?_
  change Ev _ _ _ _ ([.int (nI 0), .ref 8]) _ _
  refine ef_put (fs := [.ref 9, .ref 11, .ref 12, .ref 13, .ref 17, .ref 19, .ref 20, .int (nI 96), .ref 24, .ref 25, .int (nI 0), .int 0, .int 0, .int 0, .int 0]) (fs' := [.ref 9, .ref 11, .ref 12, .ref 13, .ref 17, .ref 19, .ref 20, .int (nI 96), .ref 24, .ref 25, .int (nI 0), .int (nI 0), .int 0, .int 0, .int 0]) t_0_104 (Nat.le_refl 8) (by omega) (by rw [uF_at]) (Nat.le_of_ble_eq_true rfl) rfl rfl rfl ?_
  refine ev_aload_n t_0_107 rfl ?_
  refine ev_iconst t_0_108 ?_
  change Ev _ _ _ _ ([.int (nI 0), .ref 8]) _ _
  refine ef_put (fs := [.ref 9, .ref 11, .ref 12, .ref 13, .ref 17, .ref 19, .ref 20, .int (nI 96), .ref 24, .ref 25, .int (nI 0), .int (nI 0), .int 0, .int 0, .int 0]) (fs' := [.ref 9, .ref 11, .ref 12, .ref 13, .ref 17, .ref 19, .ref 20, .int (nI 96), .ref 24, .ref 25, .int (nI 0), .int (nI 0), .int (nI 0), .int 0, .int 0]) t_0_109 (Nat.le_refl 8) (by omega) (by rw [uF_at]) (Nat.le_of_ble_eq_true rfl) rfl rfl rfl ?_
  refine ev_aload_n t_0_112 rfl ?_
  refine ev_iconst t_0_113 ?_
  change Ev _ _ _ _ ([.int (nI 0), .ref 8]) _ _
  refine ef_put (fs := [.ref 9, .ref 11, .ref 12, .ref 13, .ref 17, .ref 19, .ref 20, .int (nI 96), .ref 24, .ref 25, .int (nI 0), .int (nI 0), .int (nI 0), .int 0, .int 0]) (fs' := [.ref 9, .ref 11, .ref 12, .ref 13, .ref 17, .ref 19, .ref 20, .int (nI 96), .ref 24, .ref 25, .int (nI 0), .int (nI 0), .int (nI 0), .int (nI 0), .int 0]) t_0_114 (Nat.le_refl 8) (by omega) (by rw [uF_at]) (Nat.le_of_ble_eq_true rfl) rfl rfl rfl ?_
  refine ev_aload_n t_0_117 rfl ?_
  refine ev_iconst t_0_118 ?_
  change Ev _ _ _ _ ([.int (nI 0), .ref 8]) _ _
  refine ef_put (fs := [.ref 9, .ref 11, .ref 12, .ref 13, .ref 17, .ref 19, .ref 20, .int (nI 96), .ref 24, .ref 25, .int (nI 0), .int (nI 0), .int (nI 0), .int (nI 0), .int 0]) (fs' := [.ref 9, .ref 11, .ref 12, .ref 13, .ref 17, .ref 19, .ref 20, .int (nI 96), .ref 24, .ref 25, .int (nI 0), .int (nI 0), .int (nI 0), .int (nI 0), .int (nI 0)]) t_0_119 (Nat.le_refl 8) (by omega) (by rw [uF_at]) (Nat.le_of_ble_eq_true rfl) rfl rfl rfl ?_
  refine ev_iconst t_0_122 ?_
  change Ev _ _ _ _ ([.int (nI 0)]) _ _
  refine ev_istore_n (L' := [some (.ref 8), some (.int (nI 0))]) t_0_123 (Nat.le_of_ble_eq_true rfl) rfl ?_
  have e : fh 8 (uF (uF (uF (uF (uF (uF (uF (uF (uF (uF (uF (uF (uF (uF (uF (uF (uF (uF (uF (uF (uF (uF (uF (uF (uF (uF (uF (uF (uF (uF (uF (uF (uF (uF (uF (uF F 9 (.inr (4, [.null, .int 0]))) 10 (.inl (.char, 24, fun _ => .int 0))) 9 (.inr (4, [.ref 10, .int 0]))) 8 (.inr (6, [.ref 9, .null, .null, .null, .null, .null, .null, .int 0, .null, .null, .int 0, .int 0, .int 0, .int 0, .int 0]))) 11 (.inl (.object "MemoRuntime$Text", 6, fun _ => .null))) 8 (.inr (6, [.ref 9, .ref 11, .null, .null, .null, .null, .null, .int 0, .null, .null, .int 0, .int 0, .int 0, .int 0, .int 0]))) 12 (.inl (.int, 6, fun _ => .int 0))) 8 (.inr (6, [.ref 9, .ref 11, .ref 12, .null, .null, .null, .null, .int 0, .null, .null, .int 0, .int 0, .int 0, .int 0, .int 0]))) 13 (.inr (2, [.null, .null, .null]))) 14 (.inl (.int, 48, fun _ => .int 0))) 15 (.inl (.int, 48, fun _ => .int 0))) 16 (.inl (.int, 3, fun _ => .int 0))) 13 (.inr (2, [.ref 14, .ref 15, .ref 16]))) 8 (.inr (6, [.ref 9, .ref 11, .ref 12, .ref 13, .null, .null, .null, .int 0, .null, .null, .int 0, .int 0, .int 0, .int 0, .int 0]))) 17 (.inr (1, [.int 0, .null]))) 18 (.inl (.int, 3, fun _ => .int 0))) 17 (.inr (1, [.int 0, .ref 18]))) 8 (.inr (6, [.ref 9, .ref 11, .ref 12, .ref 13, .ref 17, .null, .null, .int 0, .null, .null, .int 0, .int 0, .int 0, .int 0, .int 0]))) 19 (.inl (.object "MemoRuntime$Cell", 96, fun _ => .null))) 8 (.inr (6, [.ref 9, .ref 11, .ref 12, .ref 13, .ref 17, .ref 19, .null, .int 0, .null, .null, .int 0, .int 0, .int 0, .int 0, .int 0]))) 20 (.inr (3, [.int 0, .null, .null, .null]))) 21 (.inl (.boolean, 96, fun _ => .int 0))) 22 (.inl (.int, 97, pm_uv (fun _ => .int 0) 96 (.int 96)))) 23 (.inl (.int, 97, pm_uv (fun _ => .int 0) 96 (.int 96)))) 20 (.inr (3, [.int 0, .ref 21, .ref 22, .ref 23]))) 8 (.inr (6, [.ref 9, .ref 11, .ref 12, .ref 13, .ref 17, .ref 19, .ref 20, .int 0, .null, .null, .int 0, .int 0, .int 0, .int 0, .int 0]))) 8 (.inr (6, [.ref 9, .ref 11, .ref 12, .ref 13, .ref 17, .ref 19, .ref 20, .int (nI 96), .null, .null, .int 0, .int 0, .int 0, .int 0, .int 0]))) 24 (.inl (.int, 20, fun _ => .int 0))) 8 (.inr (6, [.ref 9, .ref 11, .ref 12, .ref 13, .ref 17, .ref 19, .ref 20, .int (nI 96), .ref 24, .null, .int 0, .int 0, .int 0, .int 0, .int 0]))) 25 (.inl (.object "MemoRuntime$Working", 20, fun _ => .null))) 8 (.inr (6, [.ref 9, .ref 11, .ref 12, .ref 13, .ref 17, .ref 19, .ref 20, .int (nI 96), .ref 24, .ref 25, .int 0, .int 0, .int 0, .int 0, .int 0]))) 8 (.inr (6, [.ref 9, .ref 11, .ref 12, .ref 13, .ref 17, .ref 19, .ref 20, .int (nI 96), .ref 24, .ref 25, .int (nI 0), .int 0, .int 0, .int 0, .int 0]))) 8 (.inr (6, [.ref 9, .ref 11, .ref 12, .ref 13, .ref 17, .ref 19, .ref 20, .int (nI 96), .ref 24, .ref 25, .int (nI 0), .int (nI 0), .int 0, .int 0, .int 0]))) 8 (.inr (6, [.ref 9, .ref 11, .ref 12, .ref 13, .ref 17, .ref 19, .ref 20, .int (nI 96), .ref 24, .ref 25, .int (nI 0), .int (nI 0), .int (nI 0), .int 0, .int 0]))) 8 (.inr (6, [.ref 9, .ref 11, .ref 12, .ref 13, .ref 17, .ref 19, .ref 20, .int (nI 96), .ref 24, .ref 25, .int (nI 0), .int (nI 0), .int (nI 0), .int (nI 0), .int 0]))) 8 (.inr (6, [.ref 9, .ref 11, .ref 12, .ref 13, .ref 17, .ref 19, .ref 20, .int (nI 96), .ref 24, .ref 25, .int (nI 0), .int (nI 0), .int (nI 0), .int (nI 0), .int (nI 0)]))) 18 (s + 590) M = fh 8 (FB 0 0 0) (18 + 2 * 0) (s + 590 + 26 * 0) M := by
    refine fh_eq (fun q h1 h2 => ?_)
    rcases (show q = 8 ∨ q = 9 ∨ q = 10 ∨ q = 11 ∨ q = 12 ∨ q = 13 ∨ q = 14 ∨ q = 15 ∨ q = 16 ∨ q = 17 ∨ q = 18 ∨ q = 19 ∨ q = 20 ∨ q = 21 ∨ q = 22 ∨ q = 23 ∨ q = 24 ∨ q = 25 by omega) with rfl | rfl | rfl | rfl | rfl | rfl | rfl | rfl | rfl | rfl | rfl | rfl | rfl | rfl | rfl | rfl | rfl | rfl
    · rw [uF_at]
      rfl
    · rw [uF_ne (by decide), uF_ne (by decide), uF_ne (by decide), uF_ne (by decide), uF_ne (by decide), uF_ne (by decide), uF_ne (by decide), uF_ne (by decide), uF_ne (by decide), uF_ne (by decide), uF_ne (by decide), uF_ne (by decide), uF_ne (by decide), uF_ne (by decide), uF_ne (by decide), uF_ne (by decide), uF_ne (by decide), uF_ne (by decide), uF_ne (by decide), uF_ne (by decide), uF_ne (by decide), uF_ne (by decide), uF_ne (by decide), uF_ne (by decide), uF_ne (by decide), uF_ne (by decide), uF_ne (by decide), uF_ne (by decide), uF_ne (by decide), uF_ne (by decide), uF_ne (by decide), uF_ne (by decide), uF_ne (by decide), uF_at]
      rfl
    · rw [uF_ne (by decide), uF_ne (by decide), uF_ne (by decide), uF_ne (by decide), uF_ne (by decide), uF_ne (by decide), uF_ne (by decide), uF_ne (by decide), uF_ne (by decide), uF_ne (by decide), uF_ne (by decide), uF_ne (by decide), uF_ne (by decide), uF_ne (by decide), uF_ne (by decide), uF_ne (by decide), uF_ne (by decide), uF_ne (by decide), uF_ne (by decide), uF_ne (by decide), uF_ne (by decide), uF_ne (by decide), uF_ne (by decide), uF_ne (by decide), uF_ne (by decide), uF_ne (by decide), uF_ne (by decide), uF_ne (by decide), uF_ne (by decide), uF_ne (by decide), uF_ne (by decide), uF_ne (by decide), uF_ne (by decide), uF_ne (by decide), uF_at]
      rfl
    · rw [uF_ne (by decide), uF_ne (by decide), uF_ne (by decide), uF_ne (by decide), uF_ne (by decide), uF_ne (by decide), uF_ne (by decide), uF_ne (by decide), uF_ne (by decide), uF_ne (by decide), uF_ne (by decide), uF_ne (by decide), uF_ne (by decide), uF_ne (by decide), uF_ne (by decide), uF_ne (by decide), uF_ne (by decide), uF_ne (by decide), uF_ne (by decide), uF_ne (by decide), uF_ne (by decide), uF_ne (by decide), uF_ne (by decide), uF_ne (by decide), uF_ne (by decide), uF_ne (by decide), uF_ne (by decide), uF_ne (by decide), uF_ne (by decide), uF_ne (by decide), uF_ne (by decide), uF_at]
      exact congrArg (fun g => (Sum.inl (_, _, g) : pm_E)) (funext fun j => (if_neg (Nat.not_lt_zero j)).symm)
    · rw [uF_ne (by decide), uF_ne (by decide), uF_ne (by decide), uF_ne (by decide), uF_ne (by decide), uF_ne (by decide), uF_ne (by decide), uF_ne (by decide), uF_ne (by decide), uF_ne (by decide), uF_ne (by decide), uF_ne (by decide), uF_ne (by decide), uF_ne (by decide), uF_ne (by decide), uF_ne (by decide), uF_ne (by decide), uF_ne (by decide), uF_ne (by decide), uF_ne (by decide), uF_ne (by decide), uF_ne (by decide), uF_ne (by decide), uF_ne (by decide), uF_ne (by decide), uF_ne (by decide), uF_ne (by decide), uF_ne (by decide), uF_ne (by decide), uF_at]
      rfl
    · rw [uF_ne (by decide), uF_ne (by decide), uF_ne (by decide), uF_ne (by decide), uF_ne (by decide), uF_ne (by decide), uF_ne (by decide), uF_ne (by decide), uF_ne (by decide), uF_ne (by decide), uF_ne (by decide), uF_ne (by decide), uF_ne (by decide), uF_ne (by decide), uF_ne (by decide), uF_ne (by decide), uF_ne (by decide), uF_ne (by decide), uF_ne (by decide), uF_ne (by decide), uF_ne (by decide), uF_ne (by decide), uF_ne (by decide), uF_at]
      rfl
    · rw [uF_ne (by decide), uF_ne (by decide), uF_ne (by decide), uF_ne (by decide), uF_ne (by decide), uF_ne (by decide), uF_ne (by decide), uF_ne (by decide), uF_ne (by decide), uF_ne (by decide), uF_ne (by decide), uF_ne (by decide), uF_ne (by decide), uF_ne (by decide), uF_ne (by decide), uF_ne (by decide), uF_ne (by decide), uF_ne (by decide), uF_ne (by decide), uF_ne (by decide), uF_ne (by decide), uF_ne (by decide), uF_ne (by decide), uF_ne (by decide), uF_ne (by decide), uF_ne (by decide), uF_at]
      rfl
    · rw [uF_ne (by decide), uF_ne (by decide), uF_ne (by decide), uF_ne (by decide), uF_ne (by decide), uF_ne (by decide), uF_ne (by decide), uF_ne (by decide), uF_ne (by decide), uF_ne (by decide), uF_ne (by decide), uF_ne (by decide), uF_ne (by decide), uF_ne (by decide), uF_ne (by decide), uF_ne (by decide), uF_ne (by decide), uF_ne (by decide), uF_ne (by decide), uF_ne (by decide), uF_ne (by decide), uF_ne (by decide), uF_ne (by decide), uF_ne (by decide), uF_ne (by decide), uF_at]
      rfl
    · rw [uF_ne (by decide), uF_ne (by decide), uF_ne (by decide), uF_ne (by decide), uF_ne (by decide), uF_ne (by decide), uF_ne (by decide), uF_ne (by decide), uF_ne (by decide), uF_ne (by decide), uF_ne (by decide), uF_ne (by decide), uF_ne (by decide), uF_ne (by decide), uF_ne (by decide), uF_ne (by decide), uF_ne (by decide), uF_ne (by decide), uF_ne (by decide), uF_ne (by decide), uF_ne (by decide), uF_ne (by decide), uF_ne (by decide), uF_ne (by decide), uF_at]
      rfl
    · rw [uF_ne (by decide), uF_ne (by decide), uF_ne (by decide), uF_ne (by decide), uF_ne (by decide), uF_ne (by decide), uF_ne (by decide), uF_ne (by decide), uF_ne (by decide), uF_ne (by decide), uF_ne (by decide), uF_ne (by decide), uF_ne (by decide), uF_ne (by decide), uF_ne (by decide), uF_ne (by decide), uF_ne (by decide), uF_ne (by decide), uF_ne (by decide), uF_at]
      rfl
    · rw [uF_ne (by decide), uF_ne (by decide), uF_ne (by decide), uF_ne (by decide), uF_ne (by decide), uF_ne (by decide), uF_ne (by decide), uF_ne (by decide), uF_ne (by decide), uF_ne (by decide), uF_ne (by decide), uF_ne (by decide), uF_ne (by decide), uF_ne (by decide), uF_ne (by decide), uF_ne (by decide), uF_ne (by decide), uF_ne (by decide), uF_ne (by decide), uF_ne (by decide), uF_at]
      rfl
    · rw [uF_ne (by decide), uF_ne (by decide), uF_ne (by decide), uF_ne (by decide), uF_ne (by decide), uF_ne (by decide), uF_ne (by decide), uF_ne (by decide), uF_ne (by decide), uF_ne (by decide), uF_ne (by decide), uF_ne (by decide), uF_ne (by decide), uF_ne (by decide), uF_ne (by decide), uF_ne (by decide), uF_ne (by decide), uF_at]
      exact congrArg (fun g => (Sum.inl (_, _, g) : pm_E)) (funext fun j => (if_neg (Nat.not_lt_zero j)).symm)
    · rw [uF_ne (by decide), uF_ne (by decide), uF_ne (by decide), uF_ne (by decide), uF_ne (by decide), uF_ne (by decide), uF_ne (by decide), uF_ne (by decide), uF_ne (by decide), uF_ne (by decide), uF_ne (by decide), uF_at]
      rfl
    · rw [uF_ne (by decide), uF_ne (by decide), uF_ne (by decide), uF_ne (by decide), uF_ne (by decide), uF_ne (by decide), uF_ne (by decide), uF_ne (by decide), uF_ne (by decide), uF_ne (by decide), uF_ne (by decide), uF_ne (by decide), uF_ne (by decide), uF_ne (by decide), uF_at]
      rfl
    · rw [uF_ne (by decide), uF_ne (by decide), uF_ne (by decide), uF_ne (by decide), uF_ne (by decide), uF_ne (by decide), uF_ne (by decide), uF_ne (by decide), uF_ne (by decide), uF_ne (by decide), uF_ne (by decide), uF_ne (by decide), uF_ne (by decide), uF_at]
      rw [FB_o (by decide) (by decide) (by decide)]
      exact congrArg (fun g => (Sum.inl (.int, 97, g) : pm_E)) (funext fun j => by unfold pm_uv sg0; split <;> rfl)
    · rw [uF_ne (by decide), uF_ne (by decide), uF_ne (by decide), uF_ne (by decide), uF_ne (by decide), uF_ne (by decide), uF_ne (by decide), uF_ne (by decide), uF_ne (by decide), uF_ne (by decide), uF_ne (by decide), uF_ne (by decide), uF_at]
      rw [FB_o (by decide) (by decide) (by decide)]
      exact congrArg (fun g => (Sum.inl (.int, 97, g) : pm_E)) (funext fun j => by unfold pm_uv sg0; split <;> rfl)
    · rw [uF_ne (by decide), uF_ne (by decide), uF_ne (by decide), uF_ne (by decide), uF_ne (by decide), uF_ne (by decide), uF_ne (by decide), uF_ne (by decide), uF_at]
      rfl
    · rw [uF_ne (by decide), uF_ne (by decide), uF_ne (by decide), uF_ne (by decide), uF_ne (by decide), uF_ne (by decide), uF_at]
      exact congrArg (fun g => (Sum.inl (_, _, g) : pm_E)) (funext fun j => (if_neg (Nat.not_lt_zero j)).symm)
  rw [e]
  refine k0t (s := s + 590) 6 0 (by omega) ?_
  refine ev_iconst t_0_160 ?_
  change Ev _ _ _ _ ([.int (nI 0)]) _ _
  refine ev_istore_n (L' := [some (.ref 8), some (.int (nI 0))]) t_0_161 (Nat.le_of_ble_eq_true rfl) rfl ?_
  refine k0c (s := s + 590 + 156) 96 0 (by omega) ?_
  refine ev_iconst t_0_187 ?_
  change Ev _ _ _ _ ([.int (nI 0)]) _ _
  refine ev_istore_n (L' := [some (.ref 8), some (.int (nI 0))]) t_0_188 (Nat.le_of_ble_eq_true rfl) rfl ?_
  refine k0w (s := s + 590 + 156 + 2976) 20 0 (by omega) ?_
  exact ev_retv t_0_214 rfl ⟨none, rfl, rfl, rfl⟩
end K0
