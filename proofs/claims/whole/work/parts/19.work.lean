/-! Workings. -/
def isWo (p : Nat) : Prop := ∃ w, w < 20 ∧ p = 230 + 7 * w
theorem o_Wop {p : Nat} (h : isWo p) : ob 8 370 shC p 5 (fWo p) := by obtain ⟨w, hw, rfl⟩ := h; exact o_Wo hw
theorem a_wrp {p : Nat} (h : isWo p) : ar 8 370 shC (p + 1) .int 24 := by obtain ⟨w, hw, rfl⟩ := h; exact a_wr hw
theorem a_wwp {p : Nat} (h : isWo p) : ar 8 370 shC (p + 4) .char 24 := by obtain ⟨w, hw, rfl⟩ := h; exact a_ww hw
theorem a_whp {p : Nat} (h : isWo p) : ar 8 370 shC (p + 5) .boolean 24 := by obtain ⟨w, hw, rfl⟩ := h; exact a_wh hw
theorem a_wlp {p : Nat} (h : isWo p) : ar 8 370 shC (p + 6) .int 24 := by obtain ⟨w, hw, rfl⟩ := h; exact a_wl hw
theorem wo_tx {r : Nat → Int32} {p tp : Nat} (h : r 4 = nI tp) (htl : tp < 370) : (fWo p r)[4]? = some (.ref tp) := by
  show some (Value.ref (r 4).toNatClampNeg) = _
  rw [h, nI_clamp (by omega)]
theorem wo_set {r : Nat → Int32} {p tp : Nat} (htl : tp < 370) : (fWo p r).set 4 (.ref tp) = fWo p (upd r 4 (nI tp)) := by
  show [_, _, _, _, Value.ref tp, _, _, _, _, _, _] = [_, _, _, _, Value.ref (upd r 4 (nI tp) 4).toNatClampNeg, _, _, _, _, _, _]
  rw [show upd r 4 (nI tp) 4 = nI tp from rfl, nI_clamp (by omega)]
  rfl
/-- an operator that waits, and its first operand -/
abbrev SE : Type := Nat × Option Int32
def SR (σ : Nat → Nat → Int32) (p : Nat) : List SE → Prop
  | [] => True
  | (c, o) :: s => σ (p + 4) s.length = nI c ∧ c < 256 ∧ (σ (p + 5) s.length = match o with
    | none => 0
    | some _ => 1) ∧ (∀ l, o = some l → σ (p + 6) s.length = l) ∧ SR σ p s
theorem SR_fr {σ σ' : Nat → Nat → Int32} {p : Nat} : ∀ (s : List SE), (∀ j, j < s.length → σ' (p + 4) j = σ (p + 4) j ∧ σ' (p + 5) j = σ (p + 5) j ∧ σ' (p + 6) j = σ (p + 6) j) → SR σ p s → SR σ' p s := by
  intro s
  induction s with
  | nil => intro _ _; trivial
  | cons e s ih =>
    obtain ⟨c, o⟩ := e
    intro h hs
    obtain ⟨h1, h2, h3, h4, h5⟩ := hs
    obtain ⟨g1, g2, g3⟩ := h s.length (by simp)
    exact ⟨g1.trans h1, h2, g2.trans h3, fun l hl => g3.trans (h4 l hl), ih (fun j hj => h j (by simp; omega)) h5⟩
def wI : Option Nat → Int32
  | none => -1
  | some r => nI r
/-- a working at its place: its text's place, the read it wants, value, reads, key, place in the text, operators that wait -/
def WK (σ : Nat → Nat → Int32) (p tp : Nat) (w : Option Nat) (v : Int32) (rd : List Nat) (key a : Nat) (s : List SE) : Prop :=
  σ p 4 = nI tp ∧ σ p 0 = wI w ∧ σ p 1 = v ∧ (σ p 3 = nI rd.length ∧ ∀ i, i < rd.length → σ (p + 1) i = nI (rd.getD i 0)) ∧ σ p 5 = nI key ∧ σ p 6 = nI a ∧ σ p 10 = nI s.length ∧ SR σ p s
def FrW (p : Nat) (σ σ' : Nat → Nat → Int32) : Prop := ∀ q, q < p ∨ p + 6 < q → σ' q = σ q
theorem FrW.trans {p : Nat} {σ σ' σ'' : Nat → Nat → Int32} (h : FrW p σ σ') (h' : FrW p σ' σ'') : FrW p σ σ'' := fun q hq => (h' q hq).trans (h q hq)
theorem FrW.txt {p tp : Nat} {σ σ' : Nat → Nat → Int32} {t : List Nat} (h : FrW p σ σ') (hlt : tp + 1 < p) (hT : Txt σ tp t) : Txt σ' tp t := by
  unfold Txt
  rw [h tp (by omega), h (tp + 1) (by omega)]
  exact hT
/-- two operands together -/
def tgt (c : Nat) (a b : Int32) : Int32 := if c = 43 then a + b else if c = 45 then a - b else a * b
def kOf (v : Int32) : Nat := (v &&& 15).toNatClampNeg
theorem kOf_lt (v : Int32) : kOf v < 16 ∧ v &&& nI 15 = nI (kOf v) := by
  have h0 : (v &&& 15).toBitVec = v.toBitVec &&& 15#32 := rfl
  have h1 : (v.toBitVec &&& 15#32).toNat = v.toBitVec.toNat % 16 := by
    rw [BitVec.toNat_and]
    exact Nat.and_two_pow_sub_one_eq_mod _ 4
  have h2 : (v &&& 15) = nI (v.toBitVec.toNat % 16) := by
    apply Int32.toBitVec_inj.mp
    rw [h0]
    apply BitVec.eq_of_toNat_eq
    rw [h1]
    unfold nI
    simp
    omega
  have h3 : kOf v = v.toBitVec.toNat % 16 := by
    unfold kOf
    rw [h2, nI_clamp (by omega)]
  refine ⟨by omega, ?_⟩
  rw [h3]
  exact h2
/-- the read that an operator wants -/
def rdb (c k : Nat) : Nat := if c < 103 then 100 + (c - 65) * 16 + k else (c - 103) * 16 + k
/-- a value is handed over: the read that is wanted then, the value, the place, the operators that wait -/
def tkf (t : List Nat) (c : Nat) (s : List SE) (a : Nat) (v : Int32) : Option Nat × Int32 × Nat × List SE :=
  if ow c = 1 then (some (rdb c (kOf v)), v, a, s) else if ¬ c = 63 then (none, v, a, (c, some v) :: s) else if ¬ v = 0 then (none, v, a, (58, none) :: s) else (none, v, bhd (t.drop a) 1 a, s)
def hnd (t : List Nat) : List SE → Nat → Int32 → Option Nat × Int32 × Nat × List SE
  | [], a, v => (none, v, a, [])
  | (c, o) :: s, a, v => if c = 58 then hnd t s (bhd (t.drop a) 1 a) v else match o with
    | some l => hnd t s a (tgt c l v)
    | none => tkf t c s a v
def nte (rd : List Nat) (r : Nat) : List Nat := if r ∈ rd then rd else rd ++ [r]
section WO
variable {d : Nat} {M : pm_M} {σ : Nat → Nat → Int32} {p : Nat}
theorem c101 {c k : Nat} (h1 : 65 ≤ c) (h2 : c < 256) (hk : k < 16) : Ev d 101 0 [some (.int (nI c)), some (.int (nI k))] [] (sC M σ) (fun q9 M' => ∃ v9, q9 = .inl v9 ∧ v9 = some (.int (nI (rdb c k))) ∧ M' = sC M σ) := by
  refine ev_iload_n t_101_0 rfl ?_
  refine ev_bipush t_101_1 ?_
  change Ev _ _ _ _ ([.int (nI (103)), .int (nI (c))]) _ _
  refine ev_icmp_ltN t_101_3 (by omega) (by omega) (fun h_3 => ?_) (fun h_3 => ?_)
  · refine ev_bipush t_101_18 ?_
    change Ev _ _ _ _ ([.int (nI (100))]) _ _
    refine ev_iload_n t_101_20 rfl ?_
    refine ev_bipush t_101_21 ?_
    change Ev _ _ _ _ ([.int (nI (65)), .int (nI (c)), .int (nI (100))]) _ _
    refine ev_isubN t_101_23 (by omega) ?_
    refine ev_bipush t_101_24 ?_
    change Ev _ _ _ _ ([.int (nI (16)), .int (nI ((c) - (65))), .int (nI (100))]) _ _
    refine ev_imulN t_101_26 ?_
    refine ev_iaddN t_101_27 ?_
    refine ev_iload_n t_101_28 rfl ?_
    refine ev_iaddN t_101_29 ?_
    exact ev_reti t_101_30 (ri rfl) ⟨_, rfl, by unfold rdb; first | (rw [if_pos (by omega)]; try rfl) | (rw [if_neg (by omega)]; try rfl), rfl⟩
  · refine ev_iload_n t_101_6 rfl ?_
    refine ev_bipush t_101_7 ?_
    change Ev _ _ _ _ ([.int (nI (103)), .int (nI (c))]) _ _
    refine ev_isubN t_101_9 (by omega) ?_
    refine ev_bipush t_101_10 ?_
    change Ev _ _ _ _ ([.int (nI (16)), .int (nI ((c) - (103)))]) _ _
    refine ev_imulN t_101_12 ?_
    refine ev_iload_n t_101_13 rfl ?_
    refine ev_iaddN t_101_14 ?_
    refine ev_goto t_101_15 ?_
    exact ev_reti t_101_30 (ri rfl) ⟨_, rfl, by unfold rdb; first | (rw [if_pos (by omega)]; try rfl) | (rw [if_neg (by omega)]; try rfl), rfl⟩
theorem c102 {c : Nat} {x y : Int32} (h2 : c < 256) : Ev d 102 0 [some (.int (nI c)), some (.int x), some (.int y)] [] (sC M σ) (fun q9 M' => ∃ v9, q9 = .inl v9 ∧ v9 = some (.int (tgt c x y)) ∧ M' = sC M σ) := by
  refine ev_iload_n t_102_0 rfl ?_
  refine ev_bipush t_102_1 ?_
  change Ev _ _ _ _ ([.int (nI (43)), .int (nI (c))]) _ _
  refine ev_icmp_neN t_102_3 (by omega) (by omega) (fun h_3 => ?_) (fun h_3 => ?_)
  · refine ev_iload_n t_102_10 rfl ?_
    refine ev_bipush t_102_11 ?_
    change Ev _ _ _ _ ([.int (nI (45)), .int (nI (c))]) _ _
    refine ev_icmp_neN t_102_13 (by omega) (by omega) (fun h_13 => ?_) (fun h_13 => ?_)
    · refine ev_iload_n t_102_22 rfl ?_
      refine ev_iload_n t_102_23 rfl ?_
      refine ev_imul t_102_24 ?_
      exact ev_reti t_102_25 (ri rfl) ⟨_, rfl, by unfold tgt; first | (rw [if_pos (by omega)]) | (rw [if_neg (by omega), if_pos (by omega)]) | (rw [if_neg (by omega), if_neg (by omega)]), rfl⟩
    · refine ev_iload_n t_102_16 rfl ?_
      refine ev_iload_n t_102_17 rfl ?_
      refine ev_isub t_102_18 ?_
      refine ev_goto t_102_19 ?_
      exact ev_reti t_102_25 (ri rfl) ⟨_, rfl, by unfold tgt; first | (rw [if_pos (by omega)]) | (rw [if_neg (by omega), if_pos (by omega)]) | (rw [if_neg (by omega), if_neg (by omega)]), rfl⟩
  · refine ev_iload_n t_102_6 rfl ?_
    refine ev_iload_n t_102_7 rfl ?_
    refine ev_iadd t_102_8 ?_
    exact ev_reti t_102_9 (ri rfl) ⟨_, rfl, by unfold tgt; first | (rw [if_pos (by omega)]) | (rw [if_neg (by omega), if_pos (by omega)]) | (rw [if_neg (by omega), if_neg (by omega)]), rfl⟩
def w_let (σ : Nat → Nat → Int32) (p n c : Nat) : Nat → Nat → Int32 := u2 (u2 (u2 σ (p + 4) n (nI c)) (p + 5) n 0) p 10 (nI (n + 1))
theorem c98 (hp : isWo p) {n c : Nat} (hn : σ p 10 = nI n) (h24 : n < 24) (hc : c < 256) : Ev d 98 0 [some (.ref p), some (.int (nI c))] [] (sC M σ) (fun q9 M' => ∃ v9, q9 = .inl v9 ∧ v9 = none ∧ M' = sC M (w_let σ p n c)) := by
  refine ev_aload_n t_98_0 rfl ?_
  refine es_get (x := .ref (p + 4)) (o_Wop hp) t_98_1 rfl ?_
  refine ev_aload_n t_98_4 rfl ?_
  refine es_get (x := .int (σ (p) 10)) (o_Wop hp) t_98_5 rfl ?_
  refine ev_top (y := (nI (n))) (by simp [u2, upd, hn]) ?_
  refine ev_iload_n t_98_8 rfl ?_
  refine es_cast (k := n) (y := (nI (c))) (a_wwp hp) t_98_9 (by omega) (narC (by omega)) ?_
  refine ev_aload_n t_98_10 rfl ?_
  refine es_get (x := .ref (p + 5)) (o_Wop hp) t_98_11 rfl ?_
  refine ev_aload_n t_98_14 rfl ?_
  refine es_get (x := .int ((u2 σ (p + 4) (n) (nI (c))) (p) 10)) (o_Wop hp) t_98_15 rfl ?_
  refine ev_top (y := (nI (n))) (by simp [u2, upd, hn]) ?_
  refine ev_iconst t_98_18 ?_
  change Ev _ _ _ _ ([.int (nI (0)), .int (nI (n)), .ref (p + 5)]) _ _
  refine es_zast (k := n) (y := 0) (a_whp hp) t_98_19 (by omega) (rfl) ?_
  refine ev_aload_n t_98_20 rfl ?_
  refine ev_dup t_98_21 rfl ?_
  refine es_get (x := .int ((u2 (u2 σ (p + 4) (n) (nI (c))) (p + 5) (n) 0) (p) 10)) (o_Wop hp) t_98_22 rfl ?_
  refine ev_top (y := (nI (n))) (by simp [u2, upd, hn]) ?_
  refine ev_iconst t_98_25 ?_
  change Ev _ _ _ _ ([.int (nI (1)), .int (nI (n)), .ref p]) _ _
  refine ev_iaddN t_98_26 ?_
  refine es_put (o_Wop hp) t_98_27 rfl (Nat.le_of_ble_eq_true rfl) rfl ?_
  exact ev_retv t_98_30 rfl ⟨none, rfl, rfl, rfl⟩
theorem w_let_fr {n c : Nat} : FrW p σ (w_let σ p n c) := fun q hq => by
  unfold w_let
  rw [u2_ne (by omega), u2_ne (by omega), u2_ne (by omega)]
theorem w_let_ok {tp : Nat} {w : Option Nat} {v : Int32} {rd : List Nat} {key a c : Nat} {s : List SE} (hc : c < 256) (h : WK σ p tp w v rd key a s) : WK (w_let σ p s.length c) p tp w v rd key a ((c, none) :: s) := by
  obtain ⟨h1, h2, h3, h4, h5, h6, h7, h8⟩ := h
  refine ⟨?_, ?_, ?_, ⟨?_, ?_⟩, ?_, ?_, ?_, ?_, hc, ?_, (fun _ h => by cases h), SR_fr s (fun j hj => ?_) h8⟩
  · simp [w_let, u2, upd, h1]
  · simp [w_let, u2, upd, h2]
  · simp [w_let, u2, upd, h3]
  · simp [w_let, u2, upd, h4.1]
  · intro i hi
    rw [← h4.2 i hi]
    simp [w_let, u2]
  · simp [w_let, u2, upd, h5]
  · simp [w_let, u2, upd, h6]
  · simp [w_let, u2, upd]
  · simp [w_let, u2, upd]
  · simp [w_let, u2, upd]
  · have : j ≠ s.length := by omega
    simp [w_let, u2, upd, this]
theorem c97l (hp : isWo p) {r : Nat} {rd : List Nat} (hr : r < 256) (hb : ∀ x ∈ rd, x < 256) (h24 : rd.length < 24) (h3 : σ p 3 = nI rd.length) (h4 : ∀ i, i < rd.length → σ (p + 1) i = nI (rd.getD i 0)) : ∀ (k i : Nat), i + k = rd.length → (∀ j, j < i → rd.getD j 0 ≠ r) → Ev d 97 2 [some (.ref p), some (.int (nI r)), some (.int (nI i))] [] (sC M σ) (fun q9 M' => ∃ v9, q9 = .inl v9 ∧ v9 = none ∧ M' = sC M (if r ∈ rd then σ else u2 (u2 σ (p + 1) rd.length (nI r)) p 3 (nI (rd.length + 1)))) := by
  intro k
  induction k with
  | zero =>
    intro i hi hj
    obtain rfl : i = rd.length := by omega
    have hm : r ∉ rd := fun h => by
      obtain ⟨j, hj1, hj2⟩ := List.getElem_of_mem h
      exact hj j hj1 (by simp [List.getD_eq_getElem?_getD, hj1, hj2])
    rw [if_neg hm]
    refine ev_iload_n t_97_2 rfl ?_
    refine ev_aload_n t_97_3 rfl ?_
    refine es_get (x := .int (σ (p) 3)) (o_Wop hp) t_97_4 rfl ?_
    refine ev_top (y := (nI (rd.length))) (by simp [u2, upd, h3]) ?_
    refine ev_icmp_geN t_97_7 (by omega) (by omega) (fun h_7 => ?_) (fun h_7 => ?_)
    · refine ev_aload_n t_97_27 rfl ?_
      refine es_get (x := .ref (p + 1)) (o_Wop hp) t_97_28 rfl ?_
      refine ev_aload_n t_97_31 rfl ?_
      refine es_get (x := .int (σ (p) 3)) (o_Wop hp) t_97_32 rfl ?_
      refine ev_top (y := (nI (rd.length))) (by simp [u2, upd, h3]) ?_
      refine ev_iload_n t_97_35 rfl ?_
      refine es_iast (k := rd.length) (a_wrp hp) t_97_36 (by omega) ?_
      refine ev_aload_n t_97_37 rfl ?_
      refine ev_dup t_97_38 rfl ?_
      refine es_get (x := .int ((u2 σ (p + 1) (rd.length) (nI (r))) (p) 3)) (o_Wop hp) t_97_39 rfl ?_
      refine ev_top (y := (nI (rd.length))) (by simp [u2, upd, h3]) ?_
      refine ev_iconst t_97_42 ?_
      change Ev _ _ _ _ ([.int (nI (1)), .int (nI (rd.length)), .ref p]) _ _
      refine ev_iaddN t_97_43 ?_
      refine es_put (o_Wop hp) t_97_44 rfl (Nat.le_of_ble_eq_true rfl) rfl ?_
      exact ev_retv t_97_47 rfl ⟨none, rfl, rfl, rfl⟩
    · omega
  | succ k ih =>
    intro i hi hj
    have hil : i < rd.length := by omega
    have hx : rd.getD i 0 = rd[i] := by simp [List.getD_eq_getElem?_getD, hil]
    have hx2 : rd.getD i 0 < 256 := by rw [hx]; exact hb _ (List.getElem_mem hil)
    refine ev_iload_n t_97_2 rfl ?_
    refine ev_aload_n t_97_3 rfl ?_
    refine es_get (x := .int (σ (p) 3)) (o_Wop hp) t_97_4 rfl ?_
    refine ev_top (y := (nI (rd.length))) (by simp [u2, upd, h3]) ?_
    refine ev_icmp_geN t_97_7 (by omega) (by omega) (fun h_7 => ?_) (fun h_7 => ?_)
    · omega
    · refine ev_aload_n t_97_10 rfl ?_
      refine es_get (x := .ref (p + 1)) (o_Wop hp) t_97_11 rfl ?_
      refine ev_iload_n t_97_14 rfl ?_
      refine es_iald (k := i) (a_wrp hp) t_97_15 (by omega) ?_
      refine ev_top (h4 i hil) ?_
      refine ev_iload_n t_97_16 rfl ?_
      refine ev_icmp_neN t_97_17 (by omega) (by omega) (fun h_17 => ?_) (fun h_17 => ?_)
      · refine ev_iincN (L' := [some (.ref p), some (.int (nI (r))), some (.int (nI (i + 1)))]) t_97_21 rfl (Nat.le_of_ble_eq_true rfl) rfl ?_
        refine ev_goto t_97_24 ?_
        exact ih (i + 1) (by omega) (fun j hj9 => by
          by_cases e : j = i
          · rw [e]; exact h_17
          · exact hj j (by omega))
      · exact ev_retv t_97_20 rfl ⟨none, rfl, rfl, by rw [if_pos (show r ∈ rd from (show rd.getD i 0 = r by omega) ▸ hx ▸ List.getElem_mem hil)]⟩
theorem c97 (hp : isWo p) {r : Nat} {rd : List Nat} (hr : r < 256) (hb : ∀ x ∈ rd, x < 256) (h24 : rd.length < 24) (h3 : σ p 3 = nI rd.length) (h4 : ∀ i, i < rd.length → σ (p + 1) i = nI (rd.getD i 0)) : Ev d 97 0 [some (.ref p), some (.int (nI r)), none] [] (sC M σ) (fun q9 M' => ∃ v9, q9 = .inl v9 ∧ v9 = none ∧ M' = sC M (if r ∈ rd then σ else u2 (u2 σ (p + 1) rd.length (nI r)) p 3 (nI (rd.length + 1)))) := by
  refine ev_iconst t_97_0 ?_
  change Ev _ _ _ _ ([.int (nI (0))]) _ _
  refine ev_istore_n (L' := [some (.ref p), some (.int (nI (r))), some (.int (nI (0)))]) t_97_1 (Nat.le_of_ble_eq_true rfl) rfl ?_
  exact c97l hp hr hb h24 h3 h4 rd.length 0 (by omega) (fun j hj => by omega)
theorem bhd_le : ∀ (l : List Nat) (due q : Nat), bhd l due q ≤ q + l.length ∧ q ≤ bhd l due q := by
  intro l
  induction l with
  | nil => intro due q; simp [bhd]
  | cons c l ih =>
    intro due q
    simp only [bhd, List.length_cons]
    split
    · omega
    · have := ih (due + ow c - 1) (q + 1); omega
theorem WK_w {tp : Nat} {w w' : Option Nat} {v : Int32} {rd : List Nat} {key a : Nat} {s : List SE} (h : WK σ p tp w v rd key a s) : WK (u2 σ p 0 (wI w')) p tp w' v rd key a s := by
  obtain ⟨h1, h2, h3, h4, h5, h6, h7, h8⟩ := h
  refine ⟨?_, ?_, ?_, ⟨?_, fun i hi => ?_⟩, ?_, ?_, ?_, SR_fr s (fun j hj => ?_) h8⟩
  · simp [u2, upd, h1]
  · simp [u2, upd]
  · simp [u2, upd, h3]
  · simp [u2, upd, h4.1]
  · rw [← h4.2 i hi]; simp [u2]
  · simp [u2, upd, h5]
  · simp [u2, upd, h6]
  · simp [u2, upd, h7]
  · simp [u2]
theorem WK_v {tp : Nat} {w : Option Nat} {v v' : Int32} {rd : List Nat} {key a : Nat} {s : List SE} (h : WK σ p tp w v rd key a s) : WK (u2 σ p 1 v') p tp w v' rd key a s := by
  obtain ⟨h1, h2, h3, h4, h5, h6, h7, h8⟩ := h
  refine ⟨?_, ?_, ?_, ⟨?_, fun i hi => ?_⟩, ?_, ?_, ?_, SR_fr s (fun j hj => ?_) h8⟩
  · simp [u2, upd, h1]
  · simp [u2, upd, h2]
  · simp [u2, upd]
  · simp [u2, upd, h4.1]
  · rw [← h4.2 i hi]; simp [u2]
  · simp [u2, upd, h5]
  · simp [u2, upd, h6]
  · simp [u2, upd, h7]
  · simp [u2]
theorem WK_a {tp : Nat} {w : Option Nat} {v : Int32} {rd : List Nat} {key a a' : Nat} {s : List SE} (h : WK σ p tp w v rd key a s) : WK (u2 σ p 6 (nI a')) p tp w v rd key a' s := by
  obtain ⟨h1, h2, h3, h4, h5, h6, h7, h8⟩ := h
  refine ⟨?_, ?_, ?_, ⟨?_, fun i hi => ?_⟩, ?_, ?_, ?_, SR_fr s (fun j hj => ?_) h8⟩
  · simp [u2, upd, h1]
  · simp [u2, upd, h2]
  · simp [u2, upd, h3]
  · simp [u2, upd, h4.1]
  · rw [← h4.2 i hi]; simp [u2]
  · simp [u2, upd, h5]
  · simp [u2, upd]
  · simp [u2, upd, h7]
  · simp [u2]
/-- the uppermost operator is taken off -/
theorem WK_p {tp : Nat} {w : Option Nat} {v : Int32} {rd : List Nat} {key a : Nat} {s : List SE} {e : SE} (h : WK σ p tp w v rd key a (e :: s)) : WK (u2 σ p 10 (nI s.length)) p tp w v rd key a s := by
  obtain ⟨h1, h2, h3, h4, h5, h6, h7, h8⟩ := h
  obtain ⟨c, o⟩ := e
  refine ⟨?_, ?_, ?_, ⟨?_, fun i hi => ?_⟩, ?_, ?_, ?_, SR_fr s (fun j hj => ?_) h8.2.2.2.2⟩
  · simp [u2, upd, h1]
  · simp [u2, upd, h2]
  · simp [u2, upd, h3]
  · simp [u2, upd, h4.1]
  · rw [← h4.2 i hi]; simp [u2]
  · simp [u2, upd, h5]
  · simp [u2, upd, h6]
  · simp [u2, upd]
  · simp [u2]
theorem WK_l {tp : Nat} {w : Option Nat} {v : Int32} {rd : List Nat} {key a c : Nat} {s : List SE} {l : Int32} (hc : σ (p + 4) s.length = nI c) (hc2 : c < 256) (h : WK σ p tp w v rd key a s) : WK (u2 (u2 (u2 σ (p + 6) s.length l) (p + 5) s.length 1) p 10 (nI (s.length + 1))) p tp w v rd key a ((c, some l) :: s) := by
  obtain ⟨h1, h2, h3, h4, h5, h6, h7, h8⟩ := h
  refine ⟨?_, ?_, ?_, ⟨?_, fun i hi => ?_⟩, ?_, ?_, ?_, ?_, hc2, ?_, (fun l' hl => ?_), SR_fr s (fun j hj => ?_) h8⟩
  · simp [u2, upd, h1]
  · simp [u2, upd, h2]
  · simp [u2, upd, h3]
  · simp [u2, upd, h4.1]
  · rw [← h4.2 i hi]; simp [u2]
  · simp [u2, upd, h5]
  · simp [u2, upd, h6]
  · simp [u2, upd]
  · simp [u2, hc]
  · simp [u2, upd]
  · cases hl; simp [u2, upd]
  · have : j ≠ s.length := by omega
    simp [u2, upd, this]
theorem c100 (hp : isWo p) {tp : Nat} (htp : isTx tp) (hlt : tp + 1 < p) {t : List Nat} (hT : Txt σ tp t) (hv9 : ∀ c ∈ t, ow c ≠ 9) {v : Int32} {rd : List Nat} {key a c : Nat} {s : List SE} (hK : WK σ p tp none v rd key a s) (hs : s.length < 24) (ha : a ≤ t.length) (hc : σ (p + 4) s.length = nI c) (hc2 : c < 256) (hc9 : ow c ≠ 9) (hc0 : ow c ≠ 0) : Ev (d + 2) 100 0 [some (.ref p), some (.int (nI c))] [] (sC M σ) (fun q9 M' => ∃ v9, q9 = .inl v9 ∧ v9 = none ∧ ∃ σ', M' = sC M σ' ∧ FrW p σ σ' ∧ WK σ' p tp (tkf t c s a v).1 (tkf t c s a v).2.1 rd key (tkf t c s a v).2.2.1 (tkf t c s a v).2.2.2) := by
  have hpw : p < 370 := by obtain ⟨w, hw, rfl⟩ := hp; omega
  have htl : tp < 370 := by omega
  have h4 := hK.1
  have hv := hK.2.2.1
  have h6 := hK.2.2.2.2.2.1
  have h10 := hK.2.2.2.2.2.2.1
  have hc3 := ow_le hc9
  have h24 := hT.2.1
  refine ev_iload_n t_100_0 rfl ?_
  refine ev_cl (pm_st_S t_100_1 (Nat.le_of_ble_eq_true rfl) (as := [.int (nI (c))]) (rest := []) (L0 := [some (.int (nI (c)))]) rfl rfl (Nat.le_of_ble_eq_true rfl) (Nat.le_of_ble_eq_true rfl) rfl) rfl (c88 (by omega)) ?_
  rintro _ _ ⟨rfl, rfl⟩
  change Ev _ _ _ _ ([.int (owI c)]) _ _
  refine ev_top (owI_k rfl hc9) ?_
  refine ev_iconst t_100_4 ?_
  change Ev _ _ _ _ ([.int (nI (1)), .int (nI (ow c))]) _ _
  refine ev_icmp_neN t_100_5 (by omega) (by omega) (fun h_5 => ?_) (fun h_5 => ?_)
  · refine ev_iload_n t_100_26 rfl ?_
    refine ev_bipush t_100_27 ?_
    change Ev _ _ _ _ ([.int (nI (63)), .int (nI (c))]) _ _
    refine ev_icmp_eqN t_100_29 (by omega) (by omega) (fun h_29 => ?_) (fun h_29 => ?_)
    · refine ev_aload_n t_100_68 rfl ?_
      refine es_get (x := .int (σ (p) 1)) (o_Wop hp) t_100_69 rfl ?_
      refine ev_top (y := v) (by simp [u2, upd, hv]) ?_
      refine ev_if_eq (y := 0) t_100_72 (fun h_72 => ?_) (fun h_72 => ?_)
      · refine ev_aload_n t_100_84 rfl ?_
        refine ev_aload_n t_100_85 rfl ?_
        refine es_get (x := .ref tp) (o_Wop hp) t_100_86 (wo_tx (by simp [u2, upd, h4]) htl) ?_
        refine ev_aload_n t_100_89 rfl ?_
        refine es_get (x := .int (σ (p) 6)) (o_Wop hp) t_100_90 rfl ?_
        refine ev_top (y := (nI (a))) (by simp [u2, upd, h6]) ?_
        refine ev_cl (pm_st_V t_100_93 (as := [.ref tp, .int (nI (a))]) (rest := [.ref p]) (L0 := [some (.ref tp), some (.int (nI (a))), none, none]) rfl rfl (Nat.le_of_ble_eq_true rfl) (Nat.le_of_ble_eq_true rfl) rfl (es_rc (o_Tx htp) rfl (Nat.le_of_ble_eq_true rfl))) rfl (c92 htp (FrW.txt (p := p) (fun q hq => by first | rfl | (repeat rw [u2_ne (by omega)])) hlt hT) hv9 ha) ?_
        rintro _ _ ⟨rfl, rfl⟩
        change Ev _ _ _ _ ([.int (nI (bhd (t.drop a) 1 a)), .ref p]) _ _
        refine es_put (o_Wop hp) t_100_96 rfl (Nat.le_of_ble_eq_true rfl) rfl ?_
        exact ev_retv t_100_99 rfl ⟨none, rfl, rfl, _, rfl, (fun q hq => by first | rfl | (repeat rw [u2_ne (by omega)])), by unfold tkf; rw [if_neg (by omega), if_neg (by omega), if_neg (fun h => h h_72)]; exact WK_a hK⟩
      · refine ev_aload_n t_100_75 rfl ?_
        refine ev_bipush t_100_76 ?_
        change Ev _ _ _ _ ([.int (nI (58)), .ref p]) _ _
        refine ev_cl (pm_st_V t_100_78 (as := [.ref p, .int (nI (58))]) (rest := []) (L0 := [some (.ref p), some (.int (nI (58)))]) rfl rfl (Nat.le_of_ble_eq_true rfl) (Nat.le_of_ble_eq_true rfl) rfl (es_rc (o_Wop hp) rfl (Nat.le_of_ble_eq_true rfl))) rfl (c98 hp h10 (by omega) (by decide)) ?_
        rintro _ _ ⟨rfl, rfl⟩
        change Ev _ _ _ _ ([]) _ _
        refine ev_goto t_100_81 ?_
        exact ev_retv t_100_99 rfl ⟨none, rfl, rfl, _, rfl, w_let_fr, by unfold tkf; rw [if_neg (by omega), if_neg (by omega), if_pos h_72]; exact w_let_ok (by decide) hK⟩
    · refine ev_aload_n t_100_32 rfl ?_
      refine es_get (x := .ref (p + 6)) (o_Wop hp) t_100_33 rfl ?_
      refine ev_aload_n t_100_36 rfl ?_
      refine es_get (x := .int (σ (p) 10)) (o_Wop hp) t_100_37 rfl ?_
      refine ev_top (y := (nI (s.length))) (by simp [u2, upd, h10]) ?_
      refine ev_aload_n t_100_40 rfl ?_
      refine es_get (x := .int (σ (p) 1)) (o_Wop hp) t_100_41 rfl ?_
      refine ev_top (y := v) (by simp [u2, upd, hv]) ?_
      refine es_iast (k := s.length) (a_wlp hp) t_100_44 (by omega) ?_
      refine ev_aload_n t_100_45 rfl ?_
      refine es_get (x := .ref (p + 5)) (o_Wop hp) t_100_46 rfl ?_
      refine ev_aload_n t_100_49 rfl ?_
      refine es_get (x := .int ((u2 σ (p + 6) (s.length) v) (p) 10)) (o_Wop hp) t_100_50 rfl ?_
      refine ev_top (y := (nI (s.length))) (by simp [u2, upd, h10]) ?_
      refine ev_iconst t_100_53 ?_
      change Ev _ _ _ _ ([.int (nI (1)), .int (nI (s.length)), .ref (p + 5)]) _ _
      refine es_zast (k := s.length) (y := 1) (a_whp hp) t_100_54 (by omega) (rfl) ?_
      refine ev_aload_n t_100_55 rfl ?_
      refine ev_dup t_100_56 rfl ?_
      refine es_get (x := .int ((u2 (u2 σ (p + 6) (s.length) v) (p + 5) (s.length) 1) (p) 10)) (o_Wop hp) t_100_57 rfl ?_
      refine ev_top (y := (nI (s.length))) (by simp [u2, upd, h10]) ?_
      refine ev_iconst t_100_60 ?_
      change Ev _ _ _ _ ([.int (nI (1)), .int (nI (s.length)), .ref p]) _ _
      refine ev_iaddN t_100_61 ?_
      refine es_put (o_Wop hp) t_100_62 rfl (Nat.le_of_ble_eq_true rfl) rfl ?_
      refine ev_goto t_100_65 ?_
      exact ev_retv t_100_99 rfl ⟨none, rfl, rfl, _, rfl, (fun q hq => by first | rfl | (repeat rw [u2_ne (by omega)])), by unfold tkf; rw [if_neg (by omega), if_pos (by omega)]; exact WK_l hc hc2 hK⟩
  · refine ev_aload_n t_100_8 rfl ?_
    refine ev_iload_n t_100_9 rfl ?_
    refine ev_aload_n t_100_10 rfl ?_
    refine es_get (x := .int (σ (p) 1)) (o_Wop hp) t_100_11 rfl ?_
    refine ev_top (y := v) (by simp [u2, upd, hv]) ?_
    refine ev_bipush t_100_14 ?_
    change Ev _ _ _ _ ([.int (nI (15)), .int v, .int (nI (c)), .ref p]) _ _
    refine ev_iand t_100_16 ?_
    refine ev_top (kOf_lt v).2 ?_
    refine ev_cl (pm_st_S t_100_17 (Nat.le_of_ble_eq_true rfl) (as := [.int (nI (c)), .int (nI (kOf v))]) (rest := [.ref p]) (L0 := [some (.int (nI (c))), some (.int (nI (kOf v)))]) rfl rfl (Nat.le_of_ble_eq_true rfl) (Nat.le_of_ble_eq_true rfl) rfl) rfl (c101 (by unfold ow at h_5; (repeat' split at h_5) <;> omega) hc2 (kOf_lt v).1) ?_
    rintro _ _ ⟨rfl, rfl⟩
    change Ev _ _ _ _ ([.int (nI (rdb c (kOf v))), .ref p]) _ _
    refine es_put (o_Wop hp) t_100_20 rfl (Nat.le_of_ble_eq_true rfl) rfl ?_
    refine ev_goto t_100_23 ?_
    exact ev_retv t_100_99 rfl ⟨none, rfl, rfl, _, rfl, (fun q hq => by first | rfl | (repeat rw [u2_ne (by omega)])), by unfold tkf; rw [if_pos (by omega)]; exact WK_w (w' := some (rdb c (kOf v))) hK⟩
theorem dec_nI (n : Nat) : nI (n + 1) + (-1) = nI n := by
  have h := pk_sub (show 1 ≤ n + 1 by omega)
  rw [Nat.add_sub_cancel] at h
  rw [← h]
  rw [Int32.sub_eq_add_neg]
  rfl
def VS (s : List SE) : Prop := ∀ e ∈ s, e.1 = 58 ∨ (ow e.1 ≠ 9 ∧ ow e.1 ≠ 0)
theorem c99l (hp : isWo p) {tp : Nat} (htp : isTx tp) (hlt : tp + 1 < p) {t : List Nat} (hv9 : ∀ c ∈ t, ow c ≠ 9) {rd : List Nat} {key : Nat} {w0 : Int32} : ∀ (s : List SE) (a : Nat) (v : Int32) (σ : Nat → Nat → Int32) (x : Int32) (o3 : Option Value), Txt σ tp t → WK σ p tp none v rd key a s → s.length ≤ 24 → a ≤ t.length → VS s → x = nI s.length + (-1) → Ev (d + 3) 99 12 [some (.ref p), some (.int w0), some (.int x), o3] [] (sC M σ) (fun q9 M' => ∃ v9, q9 = .inl v9 ∧ v9 = none ∧ ∃ σ', M' = sC M σ' ∧ FrW p σ σ' ∧ WK σ' p tp (hnd t s a v).1 (hnd t s a v).2.1 rd key (hnd t s a v).2.2.1 (hnd t s a v).2.2.2) := by
  have hpw : p < 370 := by obtain ⟨w, hw, rfl⟩ := hp; omega
  have htl : tp < 370 := by omega
  intro s
  induction s with
  | nil =>
    intro a v σ x o3 hT hK hs ha hV hx
    obtain rfl : x = -1 := hx.trans (by decide)
    refine ev_iload_n t_99_12 rfl ?_
    refine ev_if_lt (y := 0) t_99_13 (fun h_13 => ?_) (fun h_13 => ?_)
    · exact ev_retv t_99_94 rfl ⟨none, rfl, rfl, _, rfl, (fun _ _ => rfl), hK⟩
    · exact absurd (by decide) h_13
  | cons e s ih =>
    obtain ⟨c, o⟩ := e
    intro a v σ x o3 hT hK hs ha hV hx
    have hs2 : s.length < 24 := by simp at hs; omega
    obtain rfl : x = nI s.length := hx.trans (dec_nI _)
    have h4 := hK.1
    have hv := hK.2.2.1
    have h6 := hK.2.2.2.2.2.1
    obtain ⟨k1, hc2, k3, k5, -⟩ := hK.2.2.2.2.2.2.2
    have hK1 := WK_p hK
    have hF1 : FrW p σ (u2 σ p 10 (nI s.length)) := fun q hq => u2_ne (by omega)
    have hT1 := hF1.txt hlt hT
    have h24 := hT.2.1
    have hV1 : VS s := fun e he => hV e (List.mem_cons_of_mem _ he)
    have hcV := hV (c, o) (by simp)
    have hbl := bhd_le (t.drop a) 1 a
    rw [List.length_drop] at hbl
    have hb58 : c = 58 → ∀ (o9 : Option Value) (y : Int32), y = nI s.length + (-1) → Ev (d + 3) 99 12 [some (.ref p), some (.int w0), some (.int y), o9] [] (sC M (u2 (u2 σ p 10 (nI s.length)) p 6 (nI (bhd (t.drop a) 1 a)))) (fun q9 M' => ∃ v9, q9 = .inl v9 ∧ v9 = none ∧ ∃ σ', M' = sC M σ' ∧ FrW p σ σ' ∧ WK σ' p tp (hnd t ((c, o) :: s) a v).1 (hnd t ((c, o) :: s) a v).2.1 rd key (hnd t ((c, o) :: s) a v).2.2.1 (hnd t ((c, o) :: s) a v).2.2.2) := by
      intro h58 o9 y hy
      have hF2 : FrW p σ (u2 (u2 σ p 10 (nI s.length)) p 6 (nI (bhd (t.drop a) 1 a))) := fun q hq => by rw [u2_ne (by omega), u2_ne (by omega)]
      refine ev_mono (ih (bhd (t.drop a) 1 a) v _ y o9 (hF2.txt hlt hT) (WK_a hK1) (by omega) (by omega) hV1 hy) ?_
      rintro r M' ⟨v9, e1, e2, σ', e3, h1, h2⟩
      refine ⟨v9, e1, e2, σ', e3, hF2.trans h1, ?_⟩
      simp only [hnd]
      rw [if_pos h58]
      exact h2
    cases o with
    | none =>
      refine ev_iload_n t_99_12 rfl ?_
      refine ev_if_ltN t_99_13 (by omega) (fun h_13 => ?_) (fun h_13 => ?_)
      · exact h_13.elim
      · refine ev_aload_n t_99_16 rfl ?_
        refine es_get (x := .ref (p + 4)) (o_Wop hp) t_99_17 rfl ?_
        refine ev_iload_n t_99_20 rfl ?_
        refine es_cald (k := s.length) (a_wwp hp) t_99_21 (by omega) ?_
        refine ev_top k1 ?_
        refine ev_istore_n (L' := [some (.ref p), some (.int w0), some (.int (nI (s.length))), some (.int (nI (c)))]) t_99_22 (Nat.le_of_ble_eq_true rfl) rfl ?_
        refine ev_aload_n t_99_23 rfl ?_
        refine ev_iload_n t_99_24 rfl ?_
        refine es_put (o_Wop hp) t_99_25 rfl (Nat.le_of_ble_eq_true rfl) rfl ?_
        refine ev_iload_n t_99_28 rfl ?_
        refine ev_bipush t_99_29 ?_
        change Ev _ _ _ _ ([.int (nI (58)), .int (nI (c))]) _ _
        refine ev_icmp_neN t_99_31 (by omega) (by omega) (fun h_31 => ?_) (fun h_31 => ?_)
        · refine ev_aload_n t_99_52 rfl ?_
          refine es_get (x := .ref (p + 5)) (o_Wop hp) t_99_53 rfl ?_
          refine ev_iload_n t_99_56 rfl ?_
          refine es_zald (k := s.length) (a_whp hp) t_99_57 (by omega) ?_
          refine ev_top (show _ = nI 0 from (by simp [u2, k3]; rfl)) ?_
          refine ev_if_eqN t_99_58 (by omega) (fun h_58 => ?_) (fun h_58 => ?_)
          · have hcc : ow c ≠ 9 ∧ ow c ≠ 0 := by rcases hcV with h | h; exact absurd h h_31; exact h
            refine ev_aload_n t_99_82 rfl ?_
            refine ev_iload_n t_99_83 rfl ?_
            refine ev_cl (pm_st_V t_99_84 (as := [.ref p, .int (nI (c))]) (rest := []) (L0 := [some (.ref p), some (.int (nI (c)))]) rfl rfl (Nat.le_of_ble_eq_true rfl) (Nat.le_of_ble_eq_true rfl) rfl (es_rc (o_Wop hp) rfl (Nat.le_of_ble_eq_true rfl))) rfl (c100 hp htp hlt hT1 hv9 hK1 hs2 ha (by rw [u2_ne (by omega)]; exact k1) hc2 hcc.1 hcc.2) ?_
            rintro _ _ ⟨rfl, σ2, rfl, hF2, hK2⟩
            change Ev _ _ _ _ ([]) _ _
            exact ev_retv t_99_87 rfl ⟨none, rfl, rfl, _, rfl, hF1.trans hF2, by simp only [hnd]; rw [if_neg h_31]; exact hK2⟩
          · exact absurd rfl h_58
        · refine ev_aload_n t_99_34 rfl ?_
          refine ev_aload_n t_99_35 rfl ?_
          refine es_get (x := .ref tp) (o_Wop hp) t_99_36 (wo_tx (by simp [u2, upd, h4]) htl) ?_
          refine ev_aload_n t_99_39 rfl ?_
          refine es_get (x := .int ((u2 σ (p) 10 (nI (s.length))) (p) 6)) (o_Wop hp) t_99_40 rfl ?_
          refine ev_top (y := (nI (a))) (by simp [u2, upd, h6]) ?_
          refine ev_cl (pm_st_V t_99_43 (as := [.ref tp, .int (nI (a))]) (rest := [.ref p]) (L0 := [some (.ref tp), some (.int (nI (a))), none, none]) rfl rfl (Nat.le_of_ble_eq_true rfl) (Nat.le_of_ble_eq_true rfl) rfl (es_rc (o_Tx htp) rfl (Nat.le_of_ble_eq_true rfl))) rfl (c92 htp (FrW.txt (p := p) (fun q hq => by first | rfl | (repeat rw [u2_ne (by omega)])) hlt hT) hv9 ha) ?_
          rintro _ _ ⟨rfl, rfl⟩
          change Ev _ _ _ _ ([.int (nI (bhd (t.drop a) 1 a)), .ref p]) _ _
          refine es_put (o_Wop hp) t_99_46 rfl (Nat.le_of_ble_eq_true rfl) rfl ?_
          refine ev_goto t_99_49 ?_
          refine ev_iinc (L' := [some (.ref p), some (.int w0), some (.int ((nI (s.length)) + (-1))), some (.int (nI (c)))]) t_99_88 rfl (Nat.le_of_ble_eq_true rfl) rfl ?_
          refine ev_goto t_99_91 ?_
          exact hb58 (by omega) _ _ rfl
    | some l =>
      refine ev_iload_n t_99_12 rfl ?_
      refine ev_if_ltN t_99_13 (by omega) (fun h_13 => ?_) (fun h_13 => ?_)
      · exact h_13.elim
      · refine ev_aload_n t_99_16 rfl ?_
        refine es_get (x := .ref (p + 4)) (o_Wop hp) t_99_17 rfl ?_
        refine ev_iload_n t_99_20 rfl ?_
        refine es_cald (k := s.length) (a_wwp hp) t_99_21 (by omega) ?_
        refine ev_top k1 ?_
        refine ev_istore_n (L' := [some (.ref p), some (.int w0), some (.int (nI (s.length))), some (.int (nI (c)))]) t_99_22 (Nat.le_of_ble_eq_true rfl) rfl ?_
        refine ev_aload_n t_99_23 rfl ?_
        refine ev_iload_n t_99_24 rfl ?_
        refine es_put (o_Wop hp) t_99_25 rfl (Nat.le_of_ble_eq_true rfl) rfl ?_
        refine ev_iload_n t_99_28 rfl ?_
        refine ev_bipush t_99_29 ?_
        change Ev _ _ _ _ ([.int (nI (58)), .int (nI (c))]) _ _
        refine ev_icmp_neN t_99_31 (by omega) (by omega) (fun h_31 => ?_) (fun h_31 => ?_)
        · refine ev_aload_n t_99_52 rfl ?_
          refine es_get (x := .ref (p + 5)) (o_Wop hp) t_99_53 rfl ?_
          refine ev_iload_n t_99_56 rfl ?_
          refine es_zald (k := s.length) (a_whp hp) t_99_57 (by omega) ?_
          refine ev_top (show _ = nI 1 from (by simp [u2, k3]; rfl)) ?_
          refine ev_if_eqN t_99_58 (by omega) (fun h_58 => ?_) (fun h_58 => ?_)
          · omega
          · refine ev_aload_n t_99_61 rfl ?_
            refine ev_iload_n t_99_62 rfl ?_
            refine ev_aload_n t_99_63 rfl ?_
            refine es_get (x := .ref (p + 6)) (o_Wop hp) t_99_64 rfl ?_
            refine ev_iload_n t_99_67 rfl ?_
            refine es_iald (k := s.length) (a_wlp hp) t_99_68 (by omega) ?_
            refine ev_top (y := l) (by simp [u2, k5 l rfl]) ?_
            refine ev_aload_n t_99_69 rfl ?_
            refine es_get (x := .int ((u2 σ (p) 10 (nI (s.length))) (p) 1)) (o_Wop hp) t_99_70 rfl ?_
            refine ev_top (y := v) (by simp [u2, upd, hv]) ?_
            refine ev_cl (pm_st_S t_99_73 (Nat.le_of_ble_eq_true rfl) (as := [.int (nI (c)), .int l, .int v]) (rest := [.ref p]) (L0 := [some (.int (nI (c))), some (.int l), some (.int v)]) rfl rfl (Nat.le_of_ble_eq_true rfl) (Nat.le_of_ble_eq_true rfl) rfl) rfl (c102 hc2) ?_
            rintro _ _ ⟨rfl, rfl⟩
            change Ev _ _ _ _ ([.int (tgt c l v), .ref p]) _ _
            refine es_put (o_Wop hp) t_99_76 rfl (Nat.le_of_ble_eq_true rfl) rfl ?_
            refine ev_goto t_99_79 ?_
            refine ev_iinc (L' := [some (.ref p), some (.int w0), some (.int ((nI (s.length)) + (-1))), some (.int (nI (c)))]) t_99_88 rfl (Nat.le_of_ble_eq_true rfl) rfl ?_
            refine ev_goto t_99_91 ?_
            have hF2 : FrW p σ (u2 (u2 σ p 10 (nI s.length)) p 1 (tgt c l v)) := fun q hq => by rw [u2_ne (by omega), u2_ne (by omega)]
            refine ev_mono (ih a (tgt c l v) _ _ _ (hF2.txt hlt hT) (WK_v hK1) (by omega) ha hV1 rfl) ?_
            rintro r M' ⟨v9, e1, e2, σ', e3, h1, h2⟩
            refine ⟨v9, e1, e2, σ', e3, hF2.trans h1, ?_⟩
            simp only [hnd]
            rw [if_neg h_31]
            exact h2
        · refine ev_aload_n t_99_34 rfl ?_
          refine ev_aload_n t_99_35 rfl ?_
          refine es_get (x := .ref tp) (o_Wop hp) t_99_36 (wo_tx (by simp [u2, upd, h4]) htl) ?_
          refine ev_aload_n t_99_39 rfl ?_
          refine es_get (x := .int ((u2 σ (p) 10 (nI (s.length))) (p) 6)) (o_Wop hp) t_99_40 rfl ?_
          refine ev_top (y := (nI (a))) (by simp [u2, upd, h6]) ?_
          refine ev_cl (pm_st_V t_99_43 (as := [.ref tp, .int (nI (a))]) (rest := [.ref p]) (L0 := [some (.ref tp), some (.int (nI (a))), none, none]) rfl rfl (Nat.le_of_ble_eq_true rfl) (Nat.le_of_ble_eq_true rfl) rfl (es_rc (o_Tx htp) rfl (Nat.le_of_ble_eq_true rfl))) rfl (c92 htp (FrW.txt (p := p) (fun q hq => by first | rfl | (repeat rw [u2_ne (by omega)])) hlt hT) hv9 ha) ?_
          rintro _ _ ⟨rfl, rfl⟩
          change Ev _ _ _ _ ([.int (nI (bhd (t.drop a) 1 a)), .ref p]) _ _
          refine es_put (o_Wop hp) t_99_46 rfl (Nat.le_of_ble_eq_true rfl) rfl ?_
          refine ev_goto t_99_49 ?_
          refine ev_iinc (L' := [some (.ref p), some (.int w0), some (.int ((nI (s.length)) + (-1))), some (.int (nI (c)))]) t_99_88 rfl (Nat.le_of_ble_eq_true rfl) rfl ?_
          refine ev_goto t_99_91 ?_
          exact hb58 (by omega) _ _ rfl
theorem c99 (hp : isWo p) {tp : Nat} (htp : isTx tp) (hlt : tp + 1 < p) {t : List Nat} (hv9 : ∀ c ∈ t, ow c ≠ 9) {rd : List Nat} {key : Nat} {s : List SE} {a : Nat} {v0 v : Int32} (hT : Txt σ tp t) (hK : WK σ p tp none v0 rd key a s) (hs : s.length ≤ 24) (ha : a ≤ t.length) (hV : VS s) : Ev (d + 3) 99 0 [some (.ref p), some (.int v), none, none] [] (sC M σ) (fun q9 M' => ∃ v9, q9 = .inl v9 ∧ v9 = none ∧ ∃ σ', M' = sC M σ' ∧ FrW p σ σ' ∧ WK σ' p tp (hnd t s a v).1 (hnd t s a v).2.1 rd key (hnd t s a v).2.2.1 (hnd t s a v).2.2.2) := by
  have h10 := hK.2.2.2.2.2.2.1
  have hF1 : FrW p σ (u2 σ p 1 v) := fun q hq => u2_ne (by omega)
  refine ev_aload_n t_99_0 rfl ?_
  refine ev_iload_n t_99_1 rfl ?_
  refine es_put (o_Wop hp) t_99_2 rfl (Nat.le_of_ble_eq_true rfl) rfl ?_
  refine ev_aload_n t_99_5 rfl ?_
  refine es_get (x := .int ((u2 σ (p) 1 v) (p) 10)) (o_Wop hp) t_99_6 rfl ?_
  refine ev_top (y := (nI (s.length))) (by simp [u2, upd, h10]) ?_
  refine ev_iconst t_99_9 ?_
  change Ev _ _ _ _ ([.int (nI (1)), .int (nI (s.length))]) _ _
  refine ev_isub t_99_10 ?_
  refine ev_istore_n (L' := [some (.ref p), some (.int v), some (.int ((nI (s.length)) - (nI (1)))), none]) t_99_11 (Nat.le_of_ble_eq_true rfl) rfl ?_
  refine ev_mono (c99l hp htp hlt hv9 s a v _ _ none (hF1.txt hlt hT) (WK_v hK) hs ha hV (by rw [Int32.sub_eq_add_neg]; rfl)) ?_
  rintro r M' ⟨v9, e1, e2, σ', e3, h1, h2⟩
  exact ⟨v9, e1, e2, σ', e3, hF1.trans h1, h2⟩
end WO
