/-! The class: is it good, may it be spared, a circle's answers, what is kept. -/
def cpy (σ : Nat → Nat → Int32) (p q k : Nat) : Nat → Nat → Int32 := fun x => if x = q then (fun j => if j < k then σ p j else σ q j) else σ x
section CP
variable {d i pc : Nat} {L : pm_L} {st : List Value} {M : pm_M} {Q : pm_R → pm_M → Prop} {a b : Nat} {v : Int32} {ts : List Nat} {lo hi : Nat} {sh : Nat → (Nat → Int32) → pm_E} {σ : Nat → Nat → Int32}
theorem es_copy {n p q k n0 n1 : Nat} (ha : ar lo hi sh p .int n0) (hb : ar lo hi sh q .int n1) (ht : tb_in i pc = some (.invokestatic n, 1003, b, v, ts)) (h0 : k ≤ n0) (h1 : k ≤ n1) (hs : pm_cs st ≤ 7) (kk : Ev d i (pc + 3) L st (sl lo hi sh M (cpy σ p q k)) Q) : Ev d i pc L (.int (nI k) :: .int (nI 0) :: .ref q :: .int (nI 0) :: .ref p :: st) (sl lo hi sh M σ) Q := by
  have hn5 := ha.2.1
  have hk : (nI k).toNatClampNeg = k := nI_clamp (by omega)
  have hz : (nI 0).toNatClampNeg = 0 := rfl
  refine ev_st (F := (pc + 3, L, st, sl lo hi sh M (cpy σ p q k))) ?_ kk
  have h9 : pm_cs (.int (nI k) :: .int (nI 0) :: .ref q :: .int (nI 0) :: .ref p :: st) = 1 + (1 + (1 + (1 + (1 + pm_cs st)))) := rfl
  unfold pm_st
  rw [ht]
  simp only
  rw [if_pos (by omega), if_pos (by omega)]
  simp only [pm_nx, pm_cp, pm_arr]
  rw [if_neg (by omega), if_neg (by omega), sl_in ha.1.2, ha.2.2, sl_in hb.1.2, hb.2.2]
  have hm : pm_up (sl lo hi sh M σ) q (.inl (.int, n1, va_cpy (fun j => .int (σ p j)) (fun j => .int (σ q j)) 0 0 k)) = sl lo hi sh M (cpy σ p q k) := by
    unfold pm_up sl
    refine Prod.ext rfl (Prod.ext rfl ?_)
    funext x
    dsimp only
    by_cases hx : x = q
    · subst hx
      rw [if_pos rfl, if_pos hb.1.2, hb.2.2]
      congr 2
      refine Prod.ext rfl ?_
      funext j
      unfold va_cpy cpy
      rw [if_pos rfl]
      dsimp only
      by_cases hj : j < k
      · rw [if_pos (by omega), if_pos hj]
        congr 2
        omega
      · rw [if_neg (by omega), if_neg hj]
    · rw [if_neg hx]
      unfold cpy
      rw [if_neg hx]
  simp only [hk, hz]
  rw [if_pos ⟨by trivial, by trivial, by have := hb.1; omega, by decide, by decide, nI_pos (by omega), by omega, by omega, fun j _ => by trivial⟩, hm]
  rfl
end CP
theorem bI_d0 {p : Prop} [Decidable p] : bI (decide p) = 0 ↔ ¬ p := by
  by_cases h : p
  · simp [bI, h]
  · simp [bI, h]
theorem bI_0 {b : Bool} : bI b = 0 ↔ b = false := by cases b <;> simp [bI]
theorem bI_1 {b : Bool} (h : ¬ bI b = 0) : b = true := by cases b <;> simp [bI] at h ⊢
def FrA (σ σ' : Nat → Nat → Int32) : Prop := (∀ q, q = 24 ∨ 230 ≤ q → σ' q = σ q) ∧ σ' 8 10 = σ 8 10
theorem FrA.rfl {σ : Nat → Nat → Int32} : FrA σ σ := ⟨fun _ _ => Eq.refl _, Eq.refl _⟩
theorem FrA.trans {σ σ' σ'' : Nat → Nat → Int32} (h : FrA σ σ') (h' : FrA σ' σ'') : FrA σ σ'' := ⟨fun q hq => (h'.1 q hq).trans (h.1 q hq), h'.2.trans h.2⟩
theorem FrA.u {σ : Nat → Nat → Int32} {q k : Nat} {x : Int32} (h : Dk q k) : FrA σ (u2 σ q k x) := ⟨fun p hp => u2_ne (by unfold Dk at h; omega), u2_off (by unfold Dk at h; omega)⟩
theorem FrA.fr {σ σ' : Nat → Nat → Int32} (h : Fr σ σ') : FrA σ σ' := ⟨fun q hq => h q (by omega), by rw [h 8 (by omega)]⟩
theorem FrA.uw {σ σ' : Nat → Nat → Int32} {u : List Nat} (h : FrA σ σ') (hu : UW σ u) : UW σ' u := ⟨h.2.trans hu.1, fun i hi => by rw [h.1 24 (Or.inl _root_.rfl)]; exact hu.2 i hi⟩
def gdB (S : SP) (n : Nat) : Bool := decide (n ∈ S.2.1 ∧ S.1 (38 + 2 * n) 3 = S.1 17 0)
def lvO (S : SP) (n : Nat) : Nat := (S.1 (38 + 2 * n) 5).toNatClampNeg
def skB (S : SP) (n : Nat) : Bool := decide (n ∈ S.2.1) && !tch S.1 (lvO S n) (S.1 (38 + 2 * n) 3)
def doSk (S : SP) (n : Nat) : SP := (u2 (u2 S.1 (38 + 2 * n) 3 (S.1 17 0)) 8 13 (S.1 8 13 + 1), put S.2.1 n, S.2.2)
def ci1 (S : SP) (n : Nat) : SP := (u2 (u2 (u2 (u2 (u2 (u2 S.1 (38 + 2 * n) 0 (S.1 12 (n / 16))) (38 + 2 * n) 3 (S.1 17 0)) (38 + 2 * n) 4 (S.1 17 0)) (38 + 2 * n) 5 0) (38 + 2 * n) 6 1) 8 14 (S.1 8 14 + 1), put S.2.1 n, fun m => if m = n then [] else S.2.2 m)
/-- a working's worth and reads become a cell's -/
def kpG (S : SP) (n : Nat) (v : Int32) : Nat → Nat → Int32 := u2 (u2 (if n ∈ S.2.1 ∧ S.1 (38 + 2 * n) 0 = v then S.1 else u2 S.1 (38 + 2 * n) 4 (S.1 17 0)) (38 + 2 * n) 0 v) (38 + 2 * n) 3 (S.1 17 0)
def kpS (S : SP) (n : Nat) (v : Int32) (rd : List Nat) : SP := (u2 (u2 (kpG S n v) (38 + 2 * n) 5 (lcl (kpG S n v) rd 2)) (38 + 2 * n) 6 0, S.2.1, fun m => if m = n then rd else S.2.2 m)
theorem RC_rs {σ σ' : Nat → Nat → Int32} {S : SP} {n : Nat} {rd : List Nat} (hn : n < 96) (h : RC σ S) (h1 : ∀ q k, (q ≠ 38 + 2 * n + 1 ∧ (q ≠ 38 + 2 * n ∨ k ≠ 2)) → σ' q k = σ q k) (h2 : RsOk σ' n rd) : RC σ' (S.1, S.2.1, fun m => if m = n then rd else S.2.2 m) := by
  obtain ⟨g1, g2, g3⟩ := h
  refine ⟨fun q k hq => ?_, Ring_fr (funext fun k => ?_) (funext fun k => ?_) (funext fun k => ?_) (funext fun k => ?_) g2, fun m hm => ?_⟩
  · rw [h1 q k (by unfold Dk at hq; omega)]; exact g1 q k hq
  · exact h1 _ _ (by omega)
  · exact h1 _ _ (by omega)
  · exact h1 _ _ (by omega)
  · exact h1 _ _ (by omega)
  · dsimp only
    by_cases e : m = n
    · subst e; rw [if_pos rfl]; exact h2
    · rw [if_neg e]
      refine ⟨?_, fun i hi => ?_⟩
      · rw [h1 _ _ (by omega)]; exact (g3 m hm).1
      · rw [h1 _ _ (by omega)]; exact (g3 m hm).2 i hi
theorem idx_at {n : Nat} : ∀ (u : List Nat) (i : Nat), i < u.length → u.getD i 0 = n → (∀ j, j < i → u.getD j 0 ≠ n) → u.idxOf n = i := by
  intro u
  induction u with
  | nil => intro i h; simp at h
  | cons x u ih =>
    intro i hi he hj
    cases i with
    | zero =>
      have : x = n := he
      rw [this, List.idxOf_cons_self]
    | succ i =>
      have hx : x ≠ n := hj 0 (by omega)
      have h9 := ih i (by simpa using hi) he (fun j h => hj (j + 1) (by omega))
      rw [List.idxOf_cons, h9, show (x == n) = false from beq_eq_false_iff_ne.mpr hx]
      rfl
section MD
variable {d : Nat} {M : pm_M} {σ : Nat → Nat → Int32} {S : SP} {n : Nat}
theorem c81r (hn : n < 96) (hR : RC σ S) : Ev d 81 0 [some (.ref 20), some (.int (nI n))] [] (sC M σ) (fun q9 M' => ∃ v9, q9 = .inl v9 ∧ v9 = some (.int (bI (decide (n ∈ S.2.1)))) ∧ M' = sC M σ) := c81 hn (by rw [hR.2.1.held hn]; unfold bI; simp) (bI_01 _)
theorem c28 (hn : n < 96) (hR : RC σ S) : Ev (d + 1) 28 0 [some (.ref 8), some (.int (nI n))] [] (sC M σ) (fun q9 M' => ∃ v9, q9 = .inl v9 ∧ v9 = some (.int (bI (gdB S n))) ∧ M' = sC M σ) := by
  have e17 : σ 17 0 = S.1 17 0 := hR.1 17 0 (by unfold Dk; omega)
  have eg : σ (38 + 2 * n) 3 = S.1 (38 + 2 * n) 3 := hR.1 _ _ (by unfold Dk; omega)
  refine ev_aload_n t_28_0 rfl ?_
  refine es_get (x := .ref 20) o_MR t_28_1 rfl ?_
  refine ev_iload_n t_28_4 rfl ?_
  refine ev_cl (pm_st_V t_28_5 (as := [.ref 20, .int (nI (n))]) (rest := []) (L0 := [some (.ref 20), some (.int (nI (n)))]) rfl rfl (Nat.le_of_ble_eq_true rfl) (Nat.le_of_ble_eq_true rfl) rfl (es_rc o_RO rfl (Nat.le_of_ble_eq_true rfl))) rfl (c81r (by omega) hR) ?_
  rintro _ _ ⟨rfl, rfl⟩
  change Ev _ _ _ _ ([.int (bI (decide (n ∈ S.2.1)))]) _ _
  refine ev_if_eq (y := 0) t_28_8 (fun h_8 => ?_) (fun h_8 => ?_)
  · refine ev_iconst t_28_34 ?_
    change Ev _ _ _ _ ([.int (nI (0))]) _ _
    exact ev_reti t_28_35 (rz rfl (by decide)) ⟨_, rfl, by unfold gdB; rw [decide_eq_false (fun h => bI_d0.mp h_8 h.1)]; rfl, rfl⟩
  · refine ev_aload_n t_28_11 rfl ?_
    refine es_get (x := .ref 19) o_MR t_28_12 rfl ?_
    refine ev_iload_n t_28_15 rfl ?_
    refine es_rald (k := n) (x := .ref (38 + 2 * n)) r_CA t_28_16 (by omega) rfl ?_
    refine es_get (x := .int (σ (38 + 2 * n) 3)) (o_Ce (n := n) (by omega)) t_28_17 rfl ?_
    refine ev_top (y := (S.1 (38 + 2 * n) 3)) (by (repeat rw [u2_off (by omega)]); exact eg) ?_
    refine ev_aload_n t_28_20 rfl ?_
    refine es_get (x := .ref 17) o_MR t_28_21 rfl ?_
    refine es_get (x := .int (σ (17) 0)) o_Ed t_28_24 rfl ?_
    refine ev_top (y := (S.1 17 0)) (by (repeat rw [u2_off (by omega)]); exact e17) ?_
    refine ev_icmp_ne t_28_27 (fun h_27 => ?_) (fun h_27 => ?_)
    · refine ev_iconst t_28_34 ?_
      change Ev _ _ _ _ ([.int (nI (0))]) _ _
      exact ev_reti t_28_35 (rz rfl (by decide)) ⟨_, rfl, by unfold gdB; rw [decide_eq_false (fun h => h_27 h.2)]; rfl, rfl⟩
    · refine ev_iconst t_28_30 ?_
      change Ev _ _ _ _ ([.int (nI (1))]) _ _
      refine ev_goto t_28_31 ?_
      exact ev_reti t_28_35 (rz rfl (by decide)) ⟨_, rfl, by unfold gdB; rw [decide_eq_true ⟨Decidable.byContradiction fun h => h_8 (bI_d0.mpr h), Decidable.byContradiction h_27⟩]; rfl, rfl⟩
theorem c29 (hn : n < 96) (hR : RC σ S) (hl : ∃ l, l < 3 ∧ S.1 (38 + 2 * n) 5 = nI l) : Ev (d + 3) 29 0 [some (.ref 8), some (.int (nI n)), none] [] (sC M σ) (fun q9 M' => ∃ v9, q9 = .inl v9 ∧ v9 = some (.int (bI (skB S n))) ∧ ∃ σ', M' = sC M σ' ∧ RC σ' (if skB S n = true then doSk S n else S) ∧ FrA σ σ') := by
  obtain ⟨l, hl3, el⟩ := hl
  have hlv : lvO S n = l := by unfold lvO; rw [el, nI_clamp (by omega)]
  have e17 : σ 17 0 = S.1 17 0 := hR.1 17 0 (by unfold Dk; omega)
  have e13 : σ 8 13 = S.1 8 13 := hR.1 8 13 (by unfold Dk; omega)
  have eg : σ (38 + 2 * n) 3 = S.1 (38 + 2 * n) 3 := hR.1 _ _ (by unfold Dk; omega)
  have e5 : σ (38 + 2 * n) 5 = nI l := (hR.1 _ _ (by unfold Dk; omega)).trans el
  have hR2 := RC_u (q := 8) (k := 13) (x := S.1 8 13 + 1) (by unfold Dk; omega) (RC_u (q := 38 + 2 * n) (k := 3) (x := S.1 17 0) (by unfold Dk; omega) hR)
  have hF2 : FrA σ (u2 (u2 σ (38 + 2 * n) 3 (S.1 17 0)) 8 13 (S.1 8 13 + 1)) := (FrA.u (by unfold Dk; omega)).trans (FrA.u (by unfold Dk; omega))
  obtain ⟨σ3, h3, hR3, hF3⟩ := c82 (d := d) (M := M) hn hR2.2.1
  refine ev_aload_n t_29_0 rfl ?_
  refine es_get (x := .ref 19) o_MR t_29_1 rfl ?_
  refine ev_iload_n t_29_4 rfl ?_
  refine es_rald (k := n) (x := .ref (38 + 2 * n)) r_CA t_29_5 (by omega) rfl ?_
  refine ev_astore_n (L' := [some (.ref 8), some (.int (nI (n))), some (.ref (38 + 2 * n))]) t_29_6 (Nat.le_of_ble_eq_true rfl) rfl ?_
  refine ev_aload_n t_29_7 rfl ?_
  refine es_get (x := .ref 20) o_MR t_29_8 rfl ?_
  refine ev_iload_n t_29_11 rfl ?_
  refine ev_cl (pm_st_V t_29_12 (as := [.ref 20, .int (nI (n))]) (rest := []) (L0 := [some (.ref 20), some (.int (nI (n)))]) rfl rfl (Nat.le_of_ble_eq_true rfl) (Nat.le_of_ble_eq_true rfl) rfl (es_rc o_RO rfl (Nat.le_of_ble_eq_true rfl))) rfl (c81r (by omega) hR) ?_
  rintro _ _ ⟨rfl, rfl⟩
  change Ev _ _ _ _ ([.int (bI (decide (n ∈ S.2.1)))]) _ _
  refine ev_if_eq (y := 0) t_29_15 (fun h_15 => ?_) (fun h_15 => ?_)
  · refine ev_iconst t_29_36 ?_
    change Ev _ _ _ _ ([.int (nI (0))]) _ _
    exact ev_reti t_29_37 (rz rfl (by decide)) ⟨_, rfl, by rw [show skB S n = false by unfold skB; rw [decide_eq_false (bI_d0.mp h_15)]; rfl]; rfl, _, rfl, by rw [show skB S n = false by unfold skB; rw [decide_eq_false (bI_d0.mp h_15)]; rfl]; exact hR, FrA.rfl⟩
  · refine ev_aload_n t_29_18 rfl ?_
    refine es_get (x := .ref 17) o_MR t_29_19 rfl ?_
    refine ev_aload_n t_29_22 rfl ?_
    refine es_get (x := .int (σ (38 + 2 * n) 5)) (o_Ce (n := n) (by omega)) t_29_23 rfl ?_
    refine ev_top (y := (nI (l))) (by exact e5) ?_
    refine ev_aload_n t_29_26 rfl ?_
    refine es_get (x := .int (σ (38 + 2 * n) 3)) (o_Ce (n := n) (by omega)) t_29_27 rfl ?_
    refine ev_top (y := (S.1 (38 + 2 * n) 3)) (by (repeat rw [u2_off (by omega)]); exact eg) ?_
    refine ev_cl (pm_st_V t_29_30 (as := [.ref 17, .int (nI (l)), .int (S.1 (38 + 2 * n) 3)]) (rest := []) (L0 := [some (.ref 17), some (.int (nI (l))), some (.int (S.1 (38 + 2 * n) 3)), none]) rfl rfl (Nat.le_of_ble_eq_true rfl) (Nat.le_of_ble_eq_true rfl) rfl (es_rc o_Ed rfl (Nat.le_of_ble_eq_true rfl))) rfl (c78 hR hl3) ?_
    rintro _ _ ⟨rfl, rfl⟩
    change Ev _ _ _ _ ([.int (bI (tch S.1 l (S.1 (38 + 2 * n) 3)))]) _ _
    refine ev_if_eq (y := 0) t_29_33 (fun h_33 => ?_) (fun h_33 => ?_)
    · refine ev_aload_n t_29_38 rfl ?_
      refine ev_aload_n t_29_39 rfl ?_
      refine es_get (x := .ref 17) o_MR t_29_40 rfl ?_
      refine es_get (x := .int (σ (17) 0)) o_Ed t_29_43 rfl ?_
      refine ev_top (y := (S.1 17 0)) (by (repeat rw [u2_off (by omega)]); exact e17) ?_
      refine es_put (o_Ce (n := n) (by omega)) t_29_46 rfl (Nat.le_of_ble_eq_true rfl) rfl ?_
      refine ev_aload_n t_29_49 rfl ?_
      refine ev_dup t_29_50 rfl ?_
      refine es_get (x := .int ((u2 σ (38 + 2 * n) 3 (S.1 17 0)) (8) 13)) o_MR t_29_51 rfl ?_
      refine ev_top (y := (S.1 8 13)) (by (repeat rw [u2_off (by omega)]); exact e13) ?_
      refine ev_iconst t_29_54 ?_
      change Ev _ _ _ _ ([.int (nI (1)), .int (S.1 8 13), .ref 8]) _ _
      refine ev_iadd t_29_55 ?_
      refine es_put o_MR t_29_56 rfl (Nat.le_of_ble_eq_true rfl) rfl ?_
      refine ev_aload_n t_29_59 rfl ?_
      refine es_get (x := .ref 20) o_MR t_29_60 rfl ?_
      refine ev_iload_n t_29_63 rfl ?_
      refine ev_cl (pm_st_V t_29_64 (as := [.ref 20, .int (nI (n))]) (rest := []) (L0 := [some (.ref 20), some (.int (nI (n))), none]) rfl rfl (Nat.le_of_ble_eq_true rfl) (Nat.le_of_ble_eq_true rfl) rfl (es_rc o_RO rfl (Nat.le_of_ble_eq_true rfl))) rfl (h3) ?_
      rintro _ _ ⟨rfl, rfl⟩
      change Ev _ _ _ _ ([]) _ _
      refine ev_iconst t_29_67 ?_
      change Ev _ _ _ _ ([.int (nI (1))]) _ _
      exact ev_reti t_29_68 (rz rfl (by decide)) ⟨_, rfl, by unfold skB; rw [decide_eq_true (Decidable.byContradiction fun h => h_15 (bI_d0.mpr h)), hlv, bI_0.mp h_33]; rfl, _, rfl, by rw [show skB S n = true by unfold skB; rw [decide_eq_true (Decidable.byContradiction fun h => h_15 (bI_d0.mpr h)), hlv, bI_0.mp h_33]; rfl, if_pos rfl]; exact RC_o hF3 hR3 hR2, hF2.trans (FrA.fr hF3)⟩
    · refine ev_iconst t_29_36 ?_
      change Ev _ _ _ _ ([.int (nI (0))]) _ _
      exact ev_reti t_29_37 (rz rfl (by decide)) ⟨_, rfl, by rw [show skB S n = false by unfold skB; rw [hlv, bI_1 h_33]; simp]; rfl, _, rfl, by rw [show skB S n = false by unfold skB; rw [hlv, bI_1 h_33]; simp]; exact hR, FrA.rfl⟩
theorem c26l {u : List Nat} (hn : n < 96) (hu : UW σ u) (h20 : u.length ≤ 20) (hub : ∀ x ∈ u, x < 96) : ∀ (k i : Nat), i + k = u.length → (∀ j, j < i → u.getD j 0 ≠ n) → Ev d 26 2 [some (.ref 8), some (.int (nI n)), some (.int (nI i))] [] (sC M σ) (fun q9 M' => ∃ v9, q9 = .inl v9 ∧ v9 = some (.int (if n ∈ u then nI (u.idxOf n) else -1)) ∧ M' = sC M σ) := by
  intro k
  induction k with
  | zero =>
    intro i hi hj
    obtain rfl : i = u.length := by omega
    have hm : n ∉ u := fun h => by
      obtain ⟨j, hj1, hj2⟩ := List.getElem_of_mem h
      exact hj j hj1 (by simp [List.getD_eq_getElem?_getD, hj1, hj2])
    rw [if_neg hm]
    refine ev_iload_n t_26_2 rfl ?_
    refine ev_aload_n t_26_3 rfl ?_
    refine es_get (x := .int (σ (8) 10)) o_MR t_26_4 rfl ?_
    refine ev_top (y := (nI (u.length))) (by exact hu.1) ?_
    refine ev_icmp_geN t_26_7 (by omega) (by omega) (fun h_7 => ?_) (fun h_7 => ?_)
    · refine ev_iconst t_26_28 ?_
      change Ev _ _ _ _ ([.int (-1)]) _ _
      exact ev_reti t_26_29 (ri rfl) ⟨_, rfl, rfl, rfl⟩
    · omega
  | succ k ih =>
    intro i hi hj
    have hil : i < u.length := by omega
    have hx : u.getD i 0 = u[i] := by simp [List.getD_eq_getElem?_getD, hil]
    have hx2 : u.getD i 0 < 96 := by rw [hx]; exact hub _ (List.getElem_mem hil)
    refine ev_iload_n t_26_2 rfl ?_
    refine ev_aload_n t_26_3 rfl ?_
    refine es_get (x := .int (σ (8) 10)) o_MR t_26_4 rfl ?_
    refine ev_top (y := (nI (u.length))) (by exact hu.1) ?_
    refine ev_icmp_geN t_26_7 (by omega) (by omega) (fun h_7 => ?_) (fun h_7 => ?_)
    · omega
    · refine ev_aload_n t_26_10 rfl ?_
      refine es_get (x := .ref 24) o_MR t_26_11 rfl ?_
      refine ev_iload_n t_26_14 rfl ?_
      refine es_iald (k := i) a_uw t_26_15 (by omega) ?_
      refine ev_top (hu.2 i hil) ?_
      refine ev_iload_n t_26_16 rfl ?_
      refine ev_icmp_neN t_26_17 (by omega) (by omega) (fun h_17 => ?_) (fun h_17 => ?_)
      · refine ev_iincN (L' := [some (.ref 8), some (.int (nI (n))), some (.int (nI (i + 1)))]) t_26_22 rfl (Nat.le_of_ble_eq_true rfl) rfl ?_
        refine ev_goto t_26_25 ?_
        exact ih (i + 1) (by omega) (fun j hj9 => by
          by_cases e : j = i
          · rw [e]; exact h_17
          · exact hj j (by omega))
      · refine ev_iload_n t_26_20 rfl ?_
        have he : u.getD i 0 = n := by omega
        have hm : n ∈ u := by rw [← he, hx]; exact List.getElem_mem hil
        exact ev_reti t_26_21 (ri rfl) ⟨_, rfl, by rw [if_pos hm, idx_at u i hil he hj], rfl⟩
theorem c26 {u : List Nat} (hn : n < 96) (hu : UW σ u) (h20 : u.length ≤ 20) (hub : ∀ x ∈ u, x < 96) : Ev d 26 0 [some (.ref 8), some (.int (nI n)), none] [] (sC M σ) (fun q9 M' => ∃ v9, q9 = .inl v9 ∧ v9 = some (.int (if n ∈ u then nI (u.idxOf n) else -1)) ∧ M' = sC M σ) := by
  refine ev_iconst t_26_0 ?_
  change Ev _ _ _ _ ([.int (nI (0))]) _ _
  refine ev_istore_n (L' := [some (.ref 8), some (.int (nI (n))), some (.int (nI (0)))]) t_26_1 (Nat.le_of_ble_eq_true rfl) rfl ?_
  exact c26l hn hu h20 hub u.length 0 (by omega) (fun j hj => by omega)
end MD
