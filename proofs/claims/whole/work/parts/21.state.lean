/-! The class's state as it is spoken of: numbers by row and slot, the order, each cell's reads. -/
abbrev SP : Type := (Nat → Nat → Int32) × List Nat × (Nat → List Nat)
def Dk (q k : Nat) : Prop := (9 ≤ q ∧ q < 20) ∨ (26 ≤ q ∧ q < 38) ∨ (38 ≤ q ∧ q < 230 ∧ q % 2 = 0 ∧ k ≠ 2) ∨ (q = 8 ∧ k ≠ 10)
def RsOk (σ : Nat → Nat → Int32) (n : Nat) (l : List Nat) : Prop := σ (38 + 2 * n) 2 = nI l.length ∧ ∀ i, i < l.length → σ (38 + 2 * n + 1) i = nI (l.getD i 0)
def RC (σ : Nat → Nat → Int32) (S : SP) : Prop := (∀ q k, Dk q k → σ q k = S.1 q k) ∧ Ring σ S.2.1 ∧ ∀ n, n < 96 → RsOk σ n (S.2.2 n)
theorem Ring_fr {σ σ' : Nat → Nat → Int32} {l : List Nat} (h20 : σ' 20 = σ 20) (h21 : σ' 21 = σ 21) (h22 : σ' 22 = σ 22) (h23 : σ' 23 = σ 23) (h : Ring σ l) : Ring σ' l := by
  obtain ⟨h1, h2, h3, h4, h5⟩ := h
  exact ⟨h1, h2, by rw [h20]; exact h3, fun n hn => by rw [h21]; exact h4 n hn, Lk_fr 96 _ (fun x _ => by rw [h23]) (fun x _ => by rw [h22]) h5⟩
theorem RC_u {σ : Nat → Nat → Int32} {S : SP} {q k : Nat} {x : Int32} (hq : Dk q k) (h : RC σ S) : RC (u2 σ q k x) (u2 S.1 q k x, S.2.1, S.2.2) := by
  obtain ⟨h1, h2, h3⟩ := h
  refine ⟨fun q' k' hq' => ?_, Ring_fr ?_ ?_ ?_ ?_ h2, fun n hn => ⟨?_, fun i hi => ?_⟩⟩
  · dsimp only
    by_cases e : q' = q ∧ k' = k
    · obtain ⟨rfl, rfl⟩ := e
      rw [u2_at, u2_at]
    · rw [u2_off (by omega), u2_off (by omega)]
      exact h1 q' k' hq'
  · exact u2_ne (by unfold Dk at hq; omega)
  · exact u2_ne (by unfold Dk at hq; omega)
  · exact u2_ne (by unfold Dk at hq; omega)
  · exact u2_ne (by unfold Dk at hq; omega)
  · rw [u2_off (by unfold Dk at hq; omega)]
    exact (h3 n hn).1
  · rw [u2_off (by unfold Dk at hq; omega)]
    exact (h3 n hn).2 i hi
/-- the order alone changes -/
theorem RC_o {σ σ' : Nat → Nat → Int32} {S : SP} {l : List Nat} (hF : Fr σ σ') (hl : Ring σ' l) (h : RC σ S) : RC σ' (S.1, l, S.2.2) := by
  obtain ⟨h1, h2, h3⟩ := h
  refine ⟨fun q k hq => ?_, hl, fun n hn => ⟨?_, fun i hi => ?_⟩⟩
  · rw [hF q (by unfold Dk at hq; omega)]
    exact h1 q k hq
  · rw [hF _ (by omega)]
    exact (h3 n hn).1
  · rw [hF _ (by omega)]
    exact (h3 n hn).2 i hi
def UW (σ : Nat → Nat → Int32) (u : List Nat) : Prop := σ 8 10 = nI u.length ∧ ∀ i, i < u.length → σ 24 i = nI (u.getD i 0)
def put (l : List Nat) (n : Nat) : List Nat := l.erase n ++ [n]
def vaO (G : Nat → Nat → Int32) (r : Nat) : Int32 := if r < 100 then G 14 r else G (38 + 2 * (r - 100)) 0
def chO (G : Nat → Nat → Int32) (r : Nat) : Int32 := if r < 100 then G 15 r else G (38 + 2 * (r - 100)) 4
def clO (G : Nat → Nat → Int32) (r : Nat) : Int32 := if r < 100 then G 16 (r / 16) else G (38 + 2 * (r - 100)) 5
def lcl (G : Nat → Nat → Int32) (l : List Nat) (x : Int32) : Int32 := l.foldl (fun x r => if clO G r < x then clO G r else x) x
def tchF (G : Nat → Nat → Int32) (good : Int32) : Nat → Nat → Bool
  | 0, _ => false
  | k + 1, c => if G 18 c ≤ good then tchF G good k (c + 1) else true
def tch (G : Nat → Nat → Int32) (l : Nat) (good : Int32) : Bool := tchF G good (3 - l) l
def bI (b : Bool) : Int32 := if b = true then 1 else 0
theorem bI_01 (b : Bool) : bI b = 0 ∨ bI b = 1 := by cases b; exact Or.inl rfl; exact Or.inr rfl
section MC
variable {d : Nat} {M : pm_M} {σ : Nat → Nat → Int32} {S : SP}
theorem c34 {r : Nat} (hr : RdOk r) : Ev d 34 0 [some (.int (nI r))] [] (sC M σ) (fun q9 M' => ∃ v9, q9 = .inl v9 ∧ v9 = some (.int (nI (if r < 100 then 0 else 1))) ∧ M' = sC M σ) := by
  have hr2 := hr.lt
  refine ev_iload_n t_34_0 rfl ?_
  refine ev_bipush t_34_1 ?_
  change Ev _ _ _ _ ([.int (nI (100)), .int (nI (r))]) _ _
  refine ev_icmp_ltN t_34_3 (by omega) (by omega) (fun h_3 => ?_) (fun h_3 => ?_)
  · refine ev_iconst t_34_10 ?_
    change Ev _ _ _ _ ([.int (nI (0))]) _ _
    exact ev_reti t_34_11 (rz rfl (by decide)) ⟨_, rfl, by first | rw [if_pos (by omega)] | rw [if_neg (by omega)], rfl⟩
  · refine ev_iconst t_34_6 ?_
    change Ev _ _ _ _ ([.int (nI (1))]) _ _
    refine ev_goto t_34_7 ?_
    exact ev_reti t_34_11 (rz rfl (by decide)) ⟨_, rfl, by first | rw [if_pos (by omega)] | rw [if_neg (by omega)], rfl⟩
theorem c35 {r : Nat} (hr : RdOk r) (hR : RC σ S) : Ev (d + 1) 35 0 [some (.ref 8), some (.int (nI r))] [] (sC M σ) (fun q9 M' => ∃ v9, q9 = .inl v9 ∧ v9 = some (.int (vaO S.1 r)) ∧ M' = sC M σ) := by
  have hr2 := hr
  unfold RdOk at hr2
  refine ev_iload_n t_35_0 rfl ?_
  refine ev_cl (pm_st_S t_35_1 (Nat.le_of_ble_eq_true rfl) (as := [.int (nI (r))]) (rest := []) (L0 := [some (.int (nI (r)))]) rfl rfl (Nat.le_of_ble_eq_true rfl) (Nat.le_of_ble_eq_true rfl) rfl) rfl (c34 hr) ?_
  rintro _ _ ⟨rfl, rfl⟩
  change Ev _ _ _ _ ([.int (nI (if r < 100 then 0 else 1))]) _ _
  refine ev_if_eqN t_35_4 (by first | omega | (split at h_4 <;> omega) | (split <;> omega)) (fun h_4 => ?_) (fun h_4 => ?_)
  · refine ev_aload_n t_35_22 rfl ?_
    refine es_get (x := .ref 13) o_MR t_35_23 rfl ?_
    refine es_get (x := .ref 14) o_In t_35_26 rfl ?_
    refine ev_iload_n t_35_29 rfl ?_
    refine es_iald (k := r) a_iv t_35_30 (by first | omega | (split at h_4 <;> omega) | (split <;> omega)) ?_
    exact ev_reti t_35_31 (ri rfl) ⟨_, rfl, by unfold vaO; rw [if_pos (by split at h_4 <;> omega), hR.1 _ _ (by unfold Dk; omega)], rfl⟩
  · refine ev_aload_n t_35_7 rfl ?_
    refine es_get (x := .ref 19) o_MR t_35_8 rfl ?_
    refine ev_iload_n t_35_11 rfl ?_
    refine ev_bipush t_35_12 ?_
    change Ev _ _ _ _ ([.int (nI (100)), .int (nI (r)), .ref 19]) _ _
    refine ev_isubN t_35_14 (by first | omega | (split at h_4 <;> omega) | (split <;> omega)) ?_
    refine es_rald (k := (r) - (100)) (x := .ref (38 + 2 * ((r) - (100)))) r_CA t_35_15 (by first | omega | (split at h_4 <;> omega) | (split <;> omega)) rfl ?_
    refine es_get (x := .int (σ (38 + 2 * ((r) - (100))) 0)) (o_Ce (n := (r) - (100)) (by first | omega | (split at h_4 <;> omega) | (split <;> omega))) t_35_16 rfl ?_
    refine ev_goto t_35_19 ?_
    exact ev_reti t_35_31 (ri rfl) ⟨_, rfl, by unfold vaO; rw [if_neg (by split at h_4 <;> omega), hR.1 _ _ (by unfold Dk; omega)], rfl⟩
theorem c36 {r : Nat} (hr : RdOk r) (hR : RC σ S) : Ev (d + 1) 36 0 [some (.ref 8), some (.int (nI r))] [] (sC M σ) (fun q9 M' => ∃ v9, q9 = .inl v9 ∧ v9 = some (.int (chO S.1 r)) ∧ M' = sC M σ) := by
  have hr2 := hr
  unfold RdOk at hr2
  refine ev_iload_n t_36_0 rfl ?_
  refine ev_cl (pm_st_S t_36_1 (Nat.le_of_ble_eq_true rfl) (as := [.int (nI (r))]) (rest := []) (L0 := [some (.int (nI (r)))]) rfl rfl (Nat.le_of_ble_eq_true rfl) (Nat.le_of_ble_eq_true rfl) rfl) rfl (c34 hr) ?_
  rintro _ _ ⟨rfl, rfl⟩
  change Ev _ _ _ _ ([.int (nI (if r < 100 then 0 else 1))]) _ _
  refine ev_if_eqN t_36_4 (by first | omega | (split at h_4 <;> omega) | (split <;> omega)) (fun h_4 => ?_) (fun h_4 => ?_)
  · refine ev_aload_n t_36_22 rfl ?_
    refine es_get (x := .ref 13) o_MR t_36_23 rfl ?_
    refine es_get (x := .ref 15) o_In t_36_26 rfl ?_
    refine ev_iload_n t_36_29 rfl ?_
    refine es_iald (k := r) a_ic t_36_30 (by first | omega | (split at h_4 <;> omega) | (split <;> omega)) ?_
    exact ev_reti t_36_31 (ri rfl) ⟨_, rfl, by unfold chO; rw [if_pos (by split at h_4 <;> omega), hR.1 _ _ (by unfold Dk; omega)], rfl⟩
  · refine ev_aload_n t_36_7 rfl ?_
    refine es_get (x := .ref 19) o_MR t_36_8 rfl ?_
    refine ev_iload_n t_36_11 rfl ?_
    refine ev_bipush t_36_12 ?_
    change Ev _ _ _ _ ([.int (nI (100)), .int (nI (r)), .ref 19]) _ _
    refine ev_isubN t_36_14 (by first | omega | (split at h_4 <;> omega) | (split <;> omega)) ?_
    refine es_rald (k := (r) - (100)) (x := .ref (38 + 2 * ((r) - (100)))) r_CA t_36_15 (by first | omega | (split at h_4 <;> omega) | (split <;> omega)) rfl ?_
    refine es_get (x := .int (σ (38 + 2 * ((r) - (100))) 4)) (o_Ce (n := (r) - (100)) (by first | omega | (split at h_4 <;> omega) | (split <;> omega))) t_36_16 rfl ?_
    refine ev_goto t_36_19 ?_
    exact ev_reti t_36_31 (ri rfl) ⟨_, rfl, by unfold chO; rw [if_neg (by split at h_4 <;> omega), hR.1 _ _ (by unfold Dk; omega)], rfl⟩
theorem c37 {r : Nat} (hr : RdOk r) (hR : RC σ S) : Ev (d + 1) 37 0 [some (.ref 8), some (.int (nI r))] [] (sC M σ) (fun q9 M' => ∃ v9, q9 = .inl v9 ∧ v9 = some (.int (clO S.1 r)) ∧ M' = sC M σ) := by
  have hr2 := hr
  unfold RdOk at hr2
  refine ev_iload_n t_37_0 rfl ?_
  refine ev_cl (pm_st_S t_37_1 (Nat.le_of_ble_eq_true rfl) (as := [.int (nI (r))]) (rest := []) (L0 := [some (.int (nI (r)))]) rfl rfl (Nat.le_of_ble_eq_true rfl) (Nat.le_of_ble_eq_true rfl) rfl) rfl (c34 hr) ?_
  rintro _ _ ⟨rfl, rfl⟩
  change Ev _ _ _ _ ([.int (nI (if r < 100 then 0 else 1))]) _ _
  refine ev_if_eqN t_37_4 (by first | omega | (split at h_4 <;> omega) | (split <;> omega)) (fun h_4 => ?_) (fun h_4 => ?_)
  · refine ev_aload_n t_37_22 rfl ?_
    refine es_get (x := .ref 13) o_MR t_37_23 rfl ?_
    refine es_get (x := .ref 16) o_In t_37_26 rfl ?_
    refine ev_iload_n t_37_29 rfl ?_
    refine ev_bipush t_37_30 ?_
    change Ev _ _ _ _ ([.int (nI (16)), .int (nI (r)), .ref 16]) _ _
    refine ev_idivN t_37_32 (by first | omega | (split at h_4 <;> omega) | (split <;> omega)) (by first | omega | (split at h_4 <;> omega) | (split <;> omega)) (by first | omega | (split at h_4 <;> omega) | (split <;> omega)) ?_
    refine es_iald (k := (r) / (16)) a_ik t_37_33 (by first | omega | (split at h_4 <;> omega) | (split <;> omega)) ?_
    exact ev_reti t_37_34 (ri rfl) ⟨_, rfl, by unfold clO; rw [if_pos (by split at h_4 <;> omega), hR.1 _ _ (by unfold Dk; omega)], rfl⟩
  · refine ev_aload_n t_37_7 rfl ?_
    refine es_get (x := .ref 19) o_MR t_37_8 rfl ?_
    refine ev_iload_n t_37_11 rfl ?_
    refine ev_bipush t_37_12 ?_
    change Ev _ _ _ _ ([.int (nI (100)), .int (nI (r)), .ref 19]) _ _
    refine ev_isubN t_37_14 (by first | omega | (split at h_4 <;> omega) | (split <;> omega)) ?_
    refine es_rald (k := (r) - (100)) (x := .ref (38 + 2 * ((r) - (100)))) r_CA t_37_15 (by first | omega | (split at h_4 <;> omega) | (split <;> omega)) rfl ?_
    refine es_get (x := .int (σ (38 + 2 * ((r) - (100))) 5)) (o_Ce (n := (r) - (100)) (by first | omega | (split at h_4 <;> omega) | (split <;> omega))) t_37_16 rfl ?_
    refine ev_goto t_37_19 ?_
    exact ev_reti t_37_34 (ri rfl) ⟨_, rfl, by unfold clO; rw [if_neg (by split at h_4 <;> omega), hR.1 _ _ (by unfold Dk; omega)], rfl⟩
theorem c38l (hR : RC σ S) {n : Nat} (hn : n < 96) (hl : (S.2.2 n).length ≤ 24) (hr : ∀ r ∈ S.2.2 n, RdOk r) : ∀ (k i : Nat) (x : Int32), i + k = (S.2.2 n).length → Ev (d + 2) 38 4 [some (.ref 8), some (.ref (38 + 2 * n)), some (.int x), some (.int (nI i))] [] (sC M σ) (fun q9 M' => ∃ v9, q9 = .inl v9 ∧ v9 = some (.int (lcl S.1 ((S.2.2 n).drop i) x)) ∧ M' = sC M σ) := by
  obtain ⟨h2, h1⟩ := hR.2.2 n hn
  intro k
  induction k with
  | zero =>
    intro i x hi
    obtain rfl : i = (S.2.2 n).length := by omega
    rw [List.drop_length]
    refine ev_iload_n t_38_4 rfl ?_
    refine ev_aload_n t_38_5 rfl ?_
    refine es_get (x := .int (σ (38 + 2 * n) 2)) (o_Ce (n := n) (by omega)) t_38_6 rfl ?_
    refine ev_top (y := (nI ((S.2.2 n).length))) (by exact h2) ?_
    refine ev_icmp_geN t_38_9 (by omega) (by omega) (fun h_9 => ?_) (fun h_9 => ?_)
    · refine ev_iload_n t_38_33 rfl ?_
      exact ev_reti t_38_34 (ri rfl) ⟨_, rfl, rfl, rfl⟩
    · omega
  | succ k ih =>
    intro i x hi
    have hil : i < (S.2.2 n).length := by omega
    have hx : (S.2.2 n).getD i 0 = (S.2.2 n)[i] := by simp [List.getD_eq_getElem?_getD, hil]
    have hro : RdOk ((S.2.2 n).getD i 0) := by rw [hx]; exact hr _ (List.getElem_mem hil)
    rw [drop_at hil]
    refine ev_iload_n t_38_4 rfl ?_
    refine ev_aload_n t_38_5 rfl ?_
    refine es_get (x := .int (σ (38 + 2 * n) 2)) (o_Ce (n := n) (by omega)) t_38_6 rfl ?_
    refine ev_top (y := (nI ((S.2.2 n).length))) (by exact h2) ?_
    refine ev_icmp_geN t_38_9 (by omega) (by omega) (fun h_9 => ?_) (fun h_9 => ?_)
    · omega
    · refine ev_iload_n t_38_12 rfl ?_
      refine ev_aload_n t_38_13 rfl ?_
      refine ev_aload_n t_38_14 rfl ?_
      refine es_get (x := .ref (38 + 2 * n + 1)) (o_Ce (n := n) (by omega)) t_38_15 rfl ?_
      refine ev_iload_n t_38_18 rfl ?_
      refine es_iald (k := i) (a_rd (n := n) (by omega)) t_38_19 (by omega) ?_
      refine ev_top (h1 i hil) ?_
      refine ev_cl (pm_st_V t_38_20 (as := [.ref 8, .int (nI ((S.2.2 n).getD i 0))]) (rest := [.int x]) (L0 := [some (.ref 8), some (.int (nI ((S.2.2 n).getD i 0)))]) rfl rfl (Nat.le_of_ble_eq_true rfl) (Nat.le_of_ble_eq_true rfl) rfl (es_rc o_MR rfl (Nat.le_of_ble_eq_true rfl))) rfl (c37 hro hR) ?_
      rintro _ _ ⟨rfl, rfl⟩
      change Ev _ _ _ _ ([.int (clO S.1 ((S.2.2 n).getD i 0)), .int x]) _ _
      refine ev_min t_38_23 (Nat.le_of_ble_eq_true rfl) ?_
      refine ev_istore_n (L' := [some (.ref 8), some (.ref (38 + 2 * n)), some (.int (if (clO S.1 ((S.2.2 n).getD i 0)) < x then (clO S.1 ((S.2.2 n).getD i 0)) else x)), some (.int (nI (i)))]) t_38_26 (Nat.le_of_ble_eq_true rfl) rfl ?_
      refine ev_iincN (L' := [some (.ref 8), some (.ref (38 + 2 * n)), some (.int (if (clO S.1 ((S.2.2 n).getD i 0)) < x then (clO S.1 ((S.2.2 n).getD i 0)) else x)), some (.int (nI (i + 1)))]) t_38_27 rfl (Nat.le_of_ble_eq_true rfl) rfl ?_
      refine ev_goto t_38_30 ?_
      exact ih (i + 1) _ (by omega)
theorem c38 (hR : RC σ S) {n : Nat} (hn : n < 96) (hl : (S.2.2 n).length ≤ 24) (hr : ∀ r ∈ S.2.2 n, RdOk r) : Ev (d + 2) 38 0 [some (.ref 8), some (.ref (38 + 2 * n)), none, none] [] (sC M σ) (fun q9 M' => ∃ v9, q9 = .inl v9 ∧ v9 = some (.int (lcl S.1 (S.2.2 n) 2)) ∧ M' = sC M σ) := by
  refine ev_iconst t_38_0 ?_
  change Ev _ _ _ _ ([.int (nI (2))]) _ _
  refine ev_istore_n (L' := [some (.ref 8), some (.ref (38 + 2 * n)), some (.int (nI (2))), none]) t_38_1 (Nat.le_of_ble_eq_true rfl) rfl ?_
  refine ev_iconst t_38_2 ?_
  change Ev _ _ _ _ ([.int (nI (0))]) _ _
  refine ev_istore_n (L' := [some (.ref 8), some (.ref (38 + 2 * n)), some (.int (nI (2))), some (.int (nI (0)))]) t_38_3 (Nat.le_of_ble_eq_true rfl) rfl ?_
  exact c38l hR hn hl hr _ 0 2 (Nat.zero_add _)
theorem c78l (hR : RC σ S) {good w : Int32} : ∀ (k c : Nat), c + k = 3 → Ev d 78 2 [some (.ref 17), some (.int w), some (.int good), some (.int (nI c))] [] (sC M σ) (fun q9 M' => ∃ v9, q9 = .inl v9 ∧ v9 = some (.int (bI (tchF S.1 good k c))) ∧ M' = sC M σ) := by
  intro k
  induction k with
  | zero =>
    intro c hc
    obtain rfl : c = 3 := by omega
    refine ev_iload_n t_78_2 rfl ?_
    refine ev_iconst t_78_3 ?_
    change Ev _ _ _ _ ([.int (nI (2)), .int (nI (3))]) _ _
    refine ev_icmp_gtN t_78_4 (by omega) (by omega) (fun h_4 => ?_) (fun h_4 => ?_)
    · refine ev_iconst t_78_25 ?_
      change Ev _ _ _ _ ([.int (nI (0))]) _ _
      exact ev_reti t_78_26 (rz rfl (by decide)) ⟨_, rfl, rfl, rfl⟩
    · omega
  | succ k ih =>
    intro c hc
    have e18 : σ 18 c = S.1 18 c := hR.1 18 c (by unfold Dk; omega)
    refine ev_iload_n t_78_2 rfl ?_
    refine ev_iconst t_78_3 ?_
    change Ev _ _ _ _ ([.int (nI (2)), .int (nI (c))]) _ _
    refine ev_icmp_gtN t_78_4 (by omega) (by omega) (fun h_4 => ?_) (fun h_4 => ?_)
    · omega
    · refine ev_aload_n t_78_7 rfl ?_
      refine es_get (x := .ref 18) o_Ed t_78_8 rfl ?_
      refine ev_iload_n t_78_11 rfl ?_
      refine es_iald (k := c) a_el t_78_12 (by omega) ?_
      refine ev_top (y := (S.1 18 c)) e18 ?_
      refine ev_iload_n t_78_13 rfl ?_
      refine ev_icmp_le t_78_14 (fun h_14 => ?_) (fun h_14 => ?_)
      · refine ev_iincN (L' := [some (.ref 17), some (.int w), some (.int good), some (.int (nI (c + 1)))]) t_78_19 rfl (Nat.le_of_ble_eq_true rfl) rfl ?_
        refine ev_goto t_78_22 ?_
        simp only [tchF]
        rw [if_pos h_14]
        exact ih (c + 1) (by omega)
      · refine ev_iconst t_78_17 ?_
        change Ev _ _ _ _ ([.int (nI (1))]) _ _
        exact ev_reti t_78_18 (rz rfl (by decide)) ⟨_, rfl, by simp only [tchF]; rw [if_neg h_14]; rfl, rfl⟩
theorem c78 (hR : RC σ S) {good : Int32} {l : Nat} (hl : l < 3) : Ev d 78 0 [some (.ref 17), some (.int (nI l)), some (.int good), none] [] (sC M σ) (fun q9 M' => ∃ v9, q9 = .inl v9 ∧ v9 = some (.int (bI (tch S.1 l good))) ∧ M' = sC M σ) := by
  refine ev_iload_n t_78_0 rfl ?_
  refine ev_istore_n (L' := [some (.ref 17), some (.int (nI (l))), some (.int good), some (.int (nI (l)))]) t_78_1 (Nat.le_of_ble_eq_true rfl) rfl ?_
  exact c78l hR (3 - l) l (by omega)
theorem c77 {c : Nat} (hc : c < 3) (hR : RC σ S) : Ev d 77 0 [some (.ref 17), some (.int (nI c))] [] (sC M σ) (fun q9 M' => ∃ v9, q9 = .inl v9 ∧ v9 = none ∧ ∃ σ', M' = sC M σ' ∧ RC σ' (u2 (u2 S.1 17 0 (S.1 17 0 + 1)) 18 c (S.1 17 0 + 1), S.2.1, S.2.2) ∧ ∀ q, q ≠ 17 → q ≠ 18 → σ' q = σ q) := by
  have e17 : σ 17 0 = S.1 17 0 := hR.1 17 0 (by unfold Dk; omega)
  refine ev_aload_n t_77_0 rfl ?_
  refine ev_dup t_77_1 rfl ?_
  refine es_get (x := .int (σ (17) 0)) o_Ed t_77_2 rfl ?_
  refine ev_top (y := (S.1 17 0)) e17 ?_
  refine ev_iconst t_77_5 ?_
  change Ev _ _ _ _ ([.int (nI (1)), .int (S.1 17 0), .ref 17]) _ _
  refine ev_iadd t_77_6 ?_
  refine es_put o_Ed t_77_7 rfl (Nat.le_of_ble_eq_true rfl) rfl ?_
  refine ev_aload_n t_77_10 rfl ?_
  refine es_get (x := .ref 18) o_Ed t_77_11 rfl ?_
  refine ev_iload_n t_77_14 rfl ?_
  refine ev_aload_n t_77_15 rfl ?_
  refine es_get (x := .int ((u2 σ (17) 0 ((S.1 17 0) + (nI (1)))) (17) 0)) o_Ed t_77_16 rfl ?_
  refine ev_top (y := (S.1 17 0 + 1)) (show _ = S.1 17 0 + 1 from u2_at) ?_
  refine es_iast (k := c) a_el t_77_19 (by omega) ?_
  exact ev_retv t_77_20 rfl ⟨none, rfl, rfl, _, rfl, RC_u (by unfold Dk; omega) (RC_u (S := S) (by unfold Dk; omega) hR), fun q h1 h2 => by rw [u2_ne h2, u2_ne h1]⟩
end MC
