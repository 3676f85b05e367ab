/-! The smaller changes. -/
def edP (G : Nat → Nat → Int32) (i n : Nat) : Bool := !(decide (i ≤ n) && decide (¬ G (38 + 2 * n) 6 = 0))
def edS (S : SP) (c : Nat) : SP := (u2 (u2 S.1 17 0 (S.1 17 0 + 1)) 18 c (S.1 17 0 + 1), S.2.1.filter (fun n => decide (S.1 (38 + 2 * n) 6 = 0)), S.2.2)
section CH
variable {d : Nat} {M : pm_M}
theorem c23l {w : Int32} {G : Nat → Nat → Int32} {rs : Nat → List Nat} : ∀ (k i : Nat) (l : List Nat) (σ : Nat → Nat → Int32), i + k = 96 → RC σ (G, l, rs) → Ev (d + 2) 23 10 [some (.ref 8), some (.int w), some (.int (nI i))] [] (sC M σ) (fun q9 M' => ∃ v9, q9 = .inl v9 ∧ v9 = none ∧ ∃ σ', M' = sC M σ' ∧ RC σ' (G, l.filter (edP G i), rs)) := by
  intro k
  induction k with
  | zero =>
    intro i l σ hi hR
    obtain rfl : i = 96 := by omega
    have e : l.filter (edP G 96) = l := List.filter_eq_self.mpr (fun x hx => by
      have := hR.2.1.2.1 x hx
      unfold edP
      rw [decide_eq_false (by omega)]
      rfl)
    rw [e]
    refine ev_iload_n t_23_10 rfl ?_
    refine ev_bipush t_23_11 ?_
    change Ev _ _ _ _ ([.int (nI (96)), .int (nI (96))]) _ _
    refine ev_icmp_geN t_23_13 (by omega) (by omega) (fun h_13 => ?_) (fun h_13 => ?_)
    · exact ev_retv t_23_42 rfl ⟨none, rfl, rfl, _, rfl, hR⟩
    · omega
  | succ k ih =>
    intro i l σ hi hR
    have e6 : σ (38 + 2 * i) 6 = G (38 + 2 * i) 6 := hR.1 _ _ (by unfold Dk; omega)
    obtain ⟨σ1, h1, hR1, hF1⟩ := c83 (d := d) (M := M) (show i < 96 by omega) hR.2.1
    have hR2 := RC_o hF1 hR1 hR
    refine ev_iload_n t_23_10 rfl ?_
    refine ev_bipush t_23_11 ?_
    change Ev _ _ _ _ ([.int (nI (96)), .int (nI (i))]) _ _
    refine ev_icmp_geN t_23_13 (by omega) (by omega) (fun h_13 => ?_) (fun h_13 => ?_)
    · omega
    · refine ev_aload_n t_23_16 rfl ?_
      refine es_get (x := .ref 19) o_MR t_23_17 rfl ?_
      refine ev_iload_n t_23_20 rfl ?_
      refine es_rald (k := i) (x := .ref (38 + 2 * i)) r_CA t_23_21 (by omega) rfl ?_
      refine es_get (x := .int (σ (38 + 2 * i) 6)) (o_Ce (n := i) (by omega)) t_23_22 rfl ?_
      refine ev_top (y := (G (38 + 2 * i) 6)) (by exact e6) ?_
      refine ev_if_eq (y := 0) t_23_25 (fun h_25 => ?_) (fun h_25 => ?_)
      · refine ev_iincN (L' := [some (.ref 8), some (.int w), some (.int (nI (i + 1)))]) t_23_36 rfl (Nat.le_of_ble_eq_true rfl) rfl ?_
        refine ev_goto t_23_39 ?_
        have e : l.filter (edP G (i + 1)) = l.filter (edP G i) := by
          refine List.filter_congr (fun x _ => ?_)
          unfold edP
          by_cases hx : x = i
          · subst hx; simp [h_25]
          · have : (i + 1 ≤ x) ↔ (i ≤ x) := by omega
            simp [this]
        rw [← e]
        exact ih (i + 1) _ σ (by omega) hR
      · refine ev_aload_n t_23_28 rfl ?_
        refine es_get (x := .ref 20) o_MR t_23_29 rfl ?_
        refine ev_iload_n t_23_32 rfl ?_
        refine ev_cl (pm_st_V t_23_33 (as := [.ref 20, .int (nI (i))]) (rest := []) (L0 := [some (.ref 20), some (.int (nI (i)))]) rfl rfl (Nat.le_of_ble_eq_true rfl) (Nat.le_of_ble_eq_true rfl) rfl (es_rc o_RO rfl (Nat.le_of_ble_eq_true rfl))) rfl (h1) ?_
        rintro _ _ ⟨rfl, rfl⟩
        change Ev _ _ _ _ ([]) _ _
        refine ev_iincN (L' := [some (.ref 8), some (.int w), some (.int (nI (i + 1)))]) t_23_36 rfl (Nat.le_of_ble_eq_true rfl) rfl ?_
        refine ev_goto t_23_39 ?_
        have e : (l.erase i).filter (edP G (i + 1)) = l.filter (edP G i) := by
          rw [hR.2.1.1.erase_eq_filter, List.filter_filter]
          refine List.filter_congr (fun x _ => ?_)
          unfold edP
          by_cases hx : x = i
          · subst hx; simp [h_25]
          · have : (i + 1 ≤ x) ↔ (i ≤ x) := by omega
            simp [hx, this]
        rw [← e]
        exact ih (i + 1) _ σ1 (by omega) hR2
variable {σ : Nat → Nat → Int32} {S : SP}
theorem c23 {c : Nat} (hc : c < 3) (hR : RC σ S) : Ev (d + 2) 23 0 [some (.ref 8), some (.int (nI c)), none] [] (sC M σ) (fun q9 M' => ∃ v9, q9 = .inl v9 ∧ v9 = none ∧ ∃ σ', M' = sC M σ' ∧ RC σ' (edS S c)) := by
  refine ev_aload_n t_23_0 rfl ?_
  refine es_get (x := .ref 17) o_MR t_23_1 rfl ?_
  refine ev_iload_n t_23_4 rfl ?_
  refine ev_cl (pm_st_V t_23_5 (as := [.ref 17, .int (nI (c))]) (rest := []) (L0 := [some (.ref 17), some (.int (nI (c)))]) rfl rfl (Nat.le_of_ble_eq_true rfl) (Nat.le_of_ble_eq_true rfl) rfl (es_rc o_Ed rfl (Nat.le_of_ble_eq_true rfl))) rfl (c77 hc hR) ?_
  rintro _ _ ⟨rfl, σ1, rfl, h1, h2⟩
  change Ev _ _ _ _ ([]) _ _
  refine ev_iconst t_23_8 ?_
  change Ev _ _ _ _ ([.int (nI (0))]) _ _
  refine ev_istore_n (L' := [some (.ref 8), some (.int (nI (c))), some (.int (nI (0)))]) t_23_9 (Nat.le_of_ble_eq_true rfl) rfl ?_
  have h9 := c23l (d := d) (M := M) (w := nI c) 96 0 _ σ1 rfl h1
  have e : S.2.1.filter (edP (u2 (u2 S.1 17 0 (S.1 17 0 + 1)) 18 c (S.1 17 0 + 1)) 0) = S.2.1.filter (fun n => decide (S.1 (38 + 2 * n) 6 = 0)) := by
    refine List.filter_congr (fun x _ => ?_)
    unfold edP
    rw [u2_off (by omega), u2_off (by omega)]
    simp
  rw [e] at h9
  exact h9
theorem c2 {n : Nat} (hR : RC σ S) (hn : S.1 9 1 = nI n) : Ev d 2 0 [some (.ref 8), none] [] (sC M σ) (fun q9 M' => ∃ v9, q9 = .inl v9 ∧ v9 = some (.int (nI n)) ∧ ∃ σ', M' = sC M σ' ∧ RC σ' (u2 S.1 9 1 0, S.2.1, S.2.2)) := by
  have e9 : σ 9 1 = nI n := (hR.1 _ _ (by unfold Dk; omega)).trans hn
  refine ev_aload_n t_2_0 rfl ?_
  refine es_get (x := .ref 9) o_MR t_2_1 rfl ?_
  refine es_get (x := .int (σ (9) 1)) (o_Tx (Or.inl rfl)) t_2_4 rfl ?_
  refine ev_top (y := (nI (n))) (by exact e9) ?_
  refine ev_istore_n (L' := [some (.ref 8), some (.int (nI (n)))]) t_2_7 (Nat.le_of_ble_eq_true rfl) rfl ?_
  refine ev_aload_n t_2_8 rfl ?_
  refine es_get (x := .ref 9) o_MR t_2_9 rfl ?_
  refine ev_iconst t_2_12 ?_
  change Ev _ _ _ _ ([.int (nI (0)), .ref 9]) _ _
  refine es_put (o_Tx (Or.inl rfl)) t_2_13 rfl (Nat.le_of_ble_eq_true rfl) rfl ?_
  refine ev_iload_n t_2_16 rfl ?_
  exact ev_reti t_2_17 (ri rfl) ⟨_, rfl, rfl, _, rfl, RC_u (by unfold Dk; omega) hR⟩
theorem c6o {t c : Nat} (ht : t < 3) (hc : c < 3) (hR : RC σ S) : Ev (d + 3) 6 0 [some (.ref 8), some (.int (nI t)), some (.int (nI c))] [] (sC M σ) (fun q9 M' => ∃ v9, q9 = .inl v9 ∧ v9 = none ∧ ∃ σ', M' = sC M σ' ∧ RC σ' (u2 S.1 16 t (nI c), [], S.2.2)) := by
  have hR2 := RC_u (q := 16) (k := t) (x := nI c) (by unfold Dk; omega) hR
  obtain ⟨σ1, h1, hR1, hF1⟩ := c84 (d := d) (M := M) hR2.2.1
  refine ev_iload_n t_6_0 rfl ?_
  refine ev_cl (pm_st_S t_6_1 (Nat.le_of_ble_eq_true rfl) (as := [.int (nI (t))]) (rest := []) (L0 := [some (.int (nI (t)))]) rfl rfl (Nat.le_of_ble_eq_true rfl) (Nat.le_of_ble_eq_true rfl) rfl) rfl (c16o ht) ?_
  rintro _ _ ⟨rfl, rfl⟩
  change Ev _ _ _ _ ([]) _ _
  refine ev_iload_n t_6_4 rfl ?_
  refine ev_iconst t_6_5 ?_
  change Ev _ _ _ _ ([.int (nI (3)), .int (nI (c))]) _ _
  refine ev_cl (pm_st_S t_6_6 (Nat.le_of_ble_eq_true rfl) (as := [.int (nI (c)), .int (nI (3))]) (rest := []) (L0 := [some (.int (nI (c))), some (.int (nI (3)))]) rfl rfl (Nat.le_of_ble_eq_true rfl) (Nat.le_of_ble_eq_true rfl) rfl) rfl (c15o hc (by decide)) ?_
  rintro _ _ ⟨rfl, rfl⟩
  change Ev _ _ _ _ ([]) _ _
  refine ev_aload_n t_6_9 rfl ?_
  refine es_get (x := .ref 13) o_MR t_6_10 rfl ?_
  refine es_get (x := .ref 16) o_In t_6_13 rfl ?_
  refine ev_iload_n t_6_16 rfl ?_
  refine ev_iload_n t_6_17 rfl ?_
  refine es_iast (k := t) a_ik t_6_18 (by omega) ?_
  refine ev_aload_n t_6_19 rfl ?_
  refine es_get (x := .ref 20) o_MR t_6_20 rfl ?_
  refine ev_cl (pm_st_V t_6_23 (as := [.ref 20]) (rest := []) (L0 := [some (.ref 20), none]) rfl rfl (Nat.le_of_ble_eq_true rfl) (Nat.le_of_ble_eq_true rfl) rfl (es_rc o_RO rfl (Nat.le_of_ble_eq_true rfl))) rfl (h1) ?_
  rintro _ _ ⟨rfl, rfl⟩
  change Ev _ _ _ _ ([]) _ _
  exact ev_retv t_6_26 rfl ⟨none, rfl, rfl, _, rfl, RC_o hF1 hR1 hR2⟩
theorem c6t {x y : Int32} (h : BAD 3 x ∨ BAD 3 y) : Ev (d + 3) 6 0 [some (.ref 8), some (.int x), some (.int y)] [] (sC M σ) (fun q9 M' => q9 = .inr 1000 ∧ M' = pm_mk (sC M σ) 6 (.inr (1000, []))) := by
  rcases rng x (e := 3) (by decide) with ⟨f, hf, rfl⟩ | hx
  · have hy : BAD 3 y := by
      rcases h with h | h
      · exfalso
        rcases h with h | h
        · exact nI_pos (by omega) h
        · have := (nI_leI (by decide) (by omega)).mp h; omega
      · exact h
    refine ev_iload_n t_6_0 rfl ?_
    refine ev_cl (pm_st_S t_6_1 (Nat.le_of_ble_eq_true rfl) (as := [.int (nI (f))]) (rest := []) (L0 := [some (.int (nI (f)))]) rfl rfl (Nat.le_of_ble_eq_true rfl) (Nat.le_of_ble_eq_true rfl) rfl) rfl (c16o hf) ?_
    rintro _ _ ⟨rfl, rfl⟩
    change Ev _ _ _ _ ([]) _ _
    refine ev_iload_n t_6_4 rfl ?_
    refine ev_iconst t_6_5 ?_
    change Ev _ _ _ _ ([.int (nI (3)), .int y]) _ _
    exact ev_clt (pm_st_S t_6_6 (Nat.le_of_ble_eq_true rfl) (as := [.int y, .int (nI (3))]) (rest := []) (L0 := [some (.int y), some (.int (nI (3)))]) rfl rfl (Nat.le_of_ble_eq_true rfl) (Nat.le_of_ble_eq_true rfl) rfl) rfl (c15t hy) rfl (fun M' h => ⟨rfl, h⟩)
  · refine ev_iload_n t_6_0 rfl ?_
    exact ev_clt (pm_st_S t_6_1 (Nat.le_of_ble_eq_true rfl) (as := [.int x]) (rest := []) (L0 := [some (.int x)]) rfl rfl (Nat.le_of_ble_eq_true rfl) (Nat.le_of_ble_eq_true rfl) rfl) rfl (c16t hx) rfl (fun M' h => ⟨rfl, h⟩)
def crS (S : SP) (f : Nat) (v : Int32) : SP := (u2 (edS S 0).1 12 f v, (edS S 0).2.1, S.2.2)
theorem c5o {f : Nat} {v : Int32} (hf : f < 6) (hR : RC σ S) : Ev (d + 3) 5 0 [some (.ref 8), some (.int (nI f)), some (.int v)] [] (sC M σ) (fun q9 M' => ∃ v9, q9 = .inl v9 ∧ v9 = some (.int (bI (decide (¬ S.1 12 f = v)))) ∧ ∃ σ', M' = sC M σ' ∧ RC σ' (if S.1 12 f = v then S else crS S f v)) := by
  have e12 : σ 12 f = S.1 12 f := hR.1 _ _ (by unfold Dk; omega)
  have hc := c23 (d := d) (M := M) (c := 0) (by decide) hR
  refine ev_iload_n t_5_0 rfl ?_
  refine ev_cl (pm_st_S t_5_1 (Nat.le_of_ble_eq_true rfl) (as := [.int (nI (f))]) (rest := []) (L0 := [some (.int (nI (f)))]) rfl rfl (Nat.le_of_ble_eq_true rfl) (Nat.le_of_ble_eq_true rfl) rfl) rfl (c17o hf) ?_
  rintro _ _ ⟨rfl, rfl⟩
  change Ev _ _ _ _ ([]) _ _
  refine ev_aload_n t_5_4 rfl ?_
  refine es_get (x := .ref 12) o_MR t_5_5 rfl ?_
  refine ev_iload_n t_5_8 rfl ?_
  refine es_iald (k := f) a_CV t_5_9 (by omega) ?_
  refine ev_top (y := (S.1 12 f)) e12 ?_
  refine ev_iload_n t_5_10 rfl ?_
  refine ev_icmp_ne t_5_11 (fun h_11 => ?_) (fun h_11 => ?_)
  · refine ev_aload_n t_5_16 rfl ?_
    refine ev_iconst t_5_17 ?_
    change Ev _ _ _ _ ([.int (nI (0)), .ref 8]) _ _
    refine ev_cl (pm_st_V t_5_18 (as := [.ref 8, .int (nI (0))]) (rest := []) (L0 := [some (.ref 8), some (.int (nI (0))), none]) rfl rfl (Nat.le_of_ble_eq_true rfl) (Nat.le_of_ble_eq_true rfl) rfl (es_rc o_MR rfl (Nat.le_of_ble_eq_true rfl))) rfl (hc) ?_
    rintro _ _ ⟨rfl, σ1, rfl, h1⟩
    change Ev _ _ _ _ ([]) _ _
    refine ev_aload_n t_5_21 rfl ?_
    refine es_get (x := .ref 12) o_MR t_5_22 rfl ?_
    refine ev_iload_n t_5_25 rfl ?_
    refine ev_iload_n t_5_26 rfl ?_
    refine es_iast (k := f) a_CV t_5_27 (by omega) ?_
    refine ev_iconst t_5_28 ?_
    change Ev _ _ _ _ ([.int (nI (1))]) _ _
    exact ev_reti t_5_29 (rz rfl (by decide)) ⟨_, rfl, by rw [decide_eq_true h_11]; rfl, _, rfl, by rw [if_neg h_11]; exact RC_u (by unfold Dk; omega) h1⟩
  · refine ev_iconst t_5_14 ?_
    change Ev _ _ _ _ ([.int (nI (0))]) _ _
    exact ev_reti t_5_15 (rz rfl (by decide)) ⟨_, rfl, by rw [decide_eq_false h_11]; rfl, _, rfl, by rw [if_pos (Decidable.byContradiction h_11)]; exact hR⟩
theorem c5t {x v : Int32} (h : BAD 6 x) : Ev (d + 3) 5 0 [some (.ref 8), some (.int x), some (.int v)] [] (sC M σ) (fun q9 M' => q9 = .inr 1000 ∧ M' = pm_mk (sC M σ) 6 (.inr (1000, []))) := by
  refine ev_iload_n t_5_0 rfl ?_
  exact ev_clt (pm_st_S t_5_1 (Nat.le_of_ble_eq_true rfl) (as := [.int x]) (rest := []) (L0 := [some (.int x)]) rfl rfl (Nat.le_of_ble_eq_true rfl) (Nat.le_of_ble_eq_true rfl) rfl) rfl (c17t h) rfl (fun M' h => ⟨rfl, h⟩)
def inS (S : SP) (t k c : Nat) (v : Int32) : SP := (u2 (u2 (edS S c).1 14 (t * 16 + k) v) 15 (t * 16 + k) (S.1 17 0 + 1), (edS S c).2.1, S.2.2)
theorem c4o {t k c : Nat} {v : Int32} (ht : t < 3) (hk : k < 16) (hc : c < 3) (ec : S.1 16 t = nI c) (hR : RC σ S) : Ev (d + 3) 4 0 [some (.ref 8), some (.int (nI t)), some (.int (nI k)), some (.int v), none] [] (sC M σ) (fun q9 M' => ∃ v9, q9 = .inl v9 ∧ v9 = some (.int (bI (decide (¬ S.1 14 (t * 16 + k) = v)))) ∧ ∃ σ', M' = sC M σ' ∧ RC σ' (if S.1 14 (t * 16 + k) = v then S else inS S t k c v)) := by
  have e14 : σ 14 (t * 16 + k) = S.1 14 (t * 16 + k) := hR.1 _ _ (by unfold Dk; omega)
  have e16 : σ 16 t = nI c := (hR.1 _ _ (by unfold Dk; omega)).trans ec
  have hc := c23 (d := d) (M := M) hc hR
  refine ev_iload_n t_4_0 rfl ?_
  refine ev_cl (pm_st_S t_4_1 (Nat.le_of_ble_eq_true rfl) (as := [.int (nI (t))]) (rest := []) (L0 := [some (.int (nI (t)))]) rfl rfl (Nat.le_of_ble_eq_true rfl) (Nat.le_of_ble_eq_true rfl) rfl) rfl (c16o ht) ?_
  rintro _ _ ⟨rfl, rfl⟩
  change Ev _ _ _ _ ([]) _ _
  refine ev_iload_n t_4_4 rfl ?_
  refine ev_cl (pm_st_S t_4_5 (Nat.le_of_ble_eq_true rfl) (as := [.int (nI (k))]) (rest := []) (L0 := [some (.int (nI (k)))]) rfl rfl (Nat.le_of_ble_eq_true rfl) (Nat.le_of_ble_eq_true rfl) rfl) rfl (c18o hk) ?_
  rintro _ _ ⟨rfl, rfl⟩
  change Ev _ _ _ _ ([]) _ _
  refine ev_iload_n t_4_8 rfl ?_
  refine ev_bipush t_4_9 ?_
  change Ev _ _ _ _ ([.int (nI (16)), .int (nI (t))]) _ _
  refine ev_imulN t_4_11 ?_
  refine ev_iload_n t_4_12 rfl ?_
  refine ev_iaddN t_4_13 ?_
  refine ev_istore (L' := [some (.ref 8), some (.int (nI (t))), some (.int (nI (k))), some (.int v), some (.int (nI (((t) * (16)) + (k))))]) t_4_14 (Nat.le_of_ble_eq_true rfl) rfl ?_
  refine ev_aload_n t_4_16 rfl ?_
  refine es_get (x := .ref 13) o_MR t_4_17 rfl ?_
  refine es_get (x := .ref 14) o_In t_4_20 rfl ?_
  refine ev_iload t_4_23 rfl ?_
  refine es_iald (k := ((t) * (16)) + (k)) a_iv t_4_25 (by omega) ?_
  refine ev_top (y := (S.1 14 (t * 16 + k))) e14 ?_
  refine ev_iload_n t_4_26 rfl ?_
  refine ev_icmp_ne t_4_27 (fun h_27 => ?_) (fun h_27 => ?_)
  · refine ev_aload_n t_4_32 rfl ?_
    refine ev_aload_n t_4_33 rfl ?_
    refine es_get (x := .ref 13) o_MR t_4_34 rfl ?_
    refine es_get (x := .ref 16) o_In t_4_37 rfl ?_
    refine ev_iload_n t_4_40 rfl ?_
    refine es_iald (k := t) a_ik t_4_41 (by omega) ?_
    refine ev_top e16 ?_
    refine ev_cl (pm_st_V t_4_42 (as := [.ref 8, .int (nI (c))]) (rest := []) (L0 := [some (.ref 8), some (.int (nI (c))), none]) rfl rfl (Nat.le_of_ble_eq_true rfl) (Nat.le_of_ble_eq_true rfl) rfl (es_rc o_MR rfl (Nat.le_of_ble_eq_true rfl))) rfl (hc) ?_
    rintro _ _ ⟨rfl, σ1, rfl, h1⟩
    change Ev _ _ _ _ ([]) _ _
    refine ev_aload_n t_4_45 rfl ?_
    refine es_get (x := .ref 13) o_MR t_4_46 rfl ?_
    refine es_get (x := .ref 14) o_In t_4_49 rfl ?_
    refine ev_iload t_4_52 rfl ?_
    refine ev_iload_n t_4_54 rfl ?_
    refine es_iast (k := ((t) * (16)) + (k)) a_iv t_4_55 (by omega) ?_
    refine ev_aload_n t_4_56 rfl ?_
    refine es_get (x := .ref 13) o_MR t_4_57 rfl ?_
    refine es_get (x := .ref 15) o_In t_4_60 rfl ?_
    refine ev_iload t_4_63 rfl ?_
    refine ev_aload_n t_4_65 rfl ?_
    refine es_get (x := .ref 17) o_MR t_4_66 rfl ?_
    refine es_get (x := .int ((u2 σ1 (14) (((t) * (16)) + (k)) v) (17) 0)) o_Ed t_4_69 rfl ?_
    refine ev_top (y := (S.1 17 0 + 1)) (by rw [u2_off (by omega), h1.1 17 0 (by unfold Dk; omega)]; unfold edS; dsimp only; rw [u2_off (by omega), u2_at]) ?_
    refine es_iast (k := ((t) * (16)) + (k)) a_ic t_4_72 (by omega) ?_
    refine ev_iconst t_4_73 ?_
    change Ev _ _ _ _ ([.int (nI (1))]) _ _
    exact ev_reti t_4_74 (rz rfl (by decide)) ⟨_, rfl, by rw [decide_eq_true h_27]; rfl, _, rfl, by rw [if_neg h_27]; exact RC_u (by unfold Dk; omega) (RC_u (by unfold Dk; omega) h1)⟩
  · refine ev_iconst t_4_30 ?_
    change Ev _ _ _ _ ([.int (nI (0))]) _ _
    exact ev_reti t_4_31 (rz rfl (by decide)) ⟨_, rfl, by rw [decide_eq_false h_27]; rfl, _, rfl, by rw [if_pos (Decidable.byContradiction h_27)]; exact hR⟩
theorem c4t {x y v : Int32} (h : BAD 3 x ∨ BAD 16 y) : Ev (d + 3) 4 0 [some (.ref 8), some (.int x), some (.int y), some (.int v), none] [] (sC M σ) (fun q9 M' => q9 = .inr 1000 ∧ M' = pm_mk (sC M σ) 6 (.inr (1000, []))) := by
  rcases rng x (e := 3) (by decide) with ⟨f, hf, rfl⟩ | hx
  · have hy : BAD 16 y := by
      rcases h with h | h
      · exfalso
        rcases h with h | h
        · exact nI_pos (by omega) h
        · have := (nI_leI (by decide) (by omega)).mp h; omega
      · exact h
    refine ev_iload_n t_4_0 rfl ?_
    refine ev_cl (pm_st_S t_4_1 (Nat.le_of_ble_eq_true rfl) (as := [.int (nI (f))]) (rest := []) (L0 := [some (.int (nI (f)))]) rfl rfl (Nat.le_of_ble_eq_true rfl) (Nat.le_of_ble_eq_true rfl) rfl) rfl (c16o hf) ?_
    rintro _ _ ⟨rfl, rfl⟩
    change Ev _ _ _ _ ([]) _ _
    refine ev_iload_n t_4_4 rfl ?_
    exact ev_clt (pm_st_S t_4_5 (Nat.le_of_ble_eq_true rfl) (as := [.int y]) (rest := []) (L0 := [some (.int y)]) rfl rfl (Nat.le_of_ble_eq_true rfl) (Nat.le_of_ble_eq_true rfl) rfl) rfl (c18t hy) rfl (fun M' h => ⟨rfl, h⟩)
  · refine ev_iload_n t_4_0 rfl ?_
    exact ev_clt (pm_st_S t_4_1 (Nat.le_of_ble_eq_true rfl) (as := [.int x]) (rest := []) (L0 := [some (.int x)]) rfl rfl (Nat.le_of_ble_eq_true rfl) (Nat.le_of_ble_eq_true rfl) rfl) rfl (c16t hx) rfl (fun M' h => ⟨rfl, h⟩)
theorem c14o {f k : Nat} (hf : f < 6) (hk : k < 16) (hR : RC σ S) : Ev (d + 3) 14 0 [some (.ref 8), some (.int (nI f)), some (.int (nI k)), none, none] [] (sC M σ) (fun q9 M' => ∃ v9, q9 = .inl v9 ∧ v9 = some (.int (bI (decide (f * 16 + k ∈ S.2.1)))) ∧ ∃ σ', M' = sC M σ' ∧ RC σ' (S.1, S.2.1.erase (f * 16 + k), S.2.2)) := by
  obtain ⟨σ1, h1, hR1, hF1⟩ := c83 (d := d + 1) (M := M) (show f * 16 + k < 96 by omega) hR.2.1
  refine ev_iload_n t_14_0 rfl ?_
  refine ev_iload_n t_14_1 rfl ?_
  refine ev_cl (pm_st_S t_14_2 (Nat.le_of_ble_eq_true rfl) (as := [.int (nI (f)), .int (nI (k))]) (rest := []) (L0 := [some (.int (nI (f))), some (.int (nI (k)))]) rfl rfl (Nat.le_of_ble_eq_true rfl) (Nat.le_of_ble_eq_true rfl) rfl) rfl (c19o hf hk) ?_
  rintro _ _ ⟨rfl, rfl⟩
  change Ev _ _ _ _ ([]) _ _
  refine ev_iload_n t_14_5 rfl ?_
  refine ev_bipush t_14_6 ?_
  change Ev _ _ _ _ ([.int (nI (16)), .int (nI (f))]) _ _
  refine ev_imulN t_14_8 ?_
  refine ev_iload_n t_14_9 rfl ?_
  refine ev_iaddN t_14_10 ?_
  refine ev_istore_n (L' := [some (.ref 8), some (.int (nI (f))), some (.int (nI (k))), some (.int (nI (((f) * (16)) + (k)))), none]) t_14_11 (Nat.le_of_ble_eq_true rfl) rfl ?_
  refine ev_aload_n t_14_12 rfl ?_
  refine es_get (x := .ref 20) o_MR t_14_13 rfl ?_
  refine ev_iload_n t_14_16 rfl ?_
  refine ev_cl (pm_st_V t_14_17 (as := [.ref 20, .int (nI (((f) * (16)) + (k)))]) (rest := []) (L0 := [some (.ref 20), some (.int (nI (((f) * (16)) + (k))))]) rfl rfl (Nat.le_of_ble_eq_true rfl) (Nat.le_of_ble_eq_true rfl) rfl (es_rc o_RO rfl (Nat.le_of_ble_eq_true rfl))) rfl (c81r (by omega) hR) ?_
  rintro _ _ ⟨rfl, rfl⟩
  change Ev _ _ _ _ ([.int (bI (decide (((f) * (16)) + (k) ∈ S.2.1)))]) _ _
  refine ev_istore (L' := [some (.ref 8), some (.int (nI (f))), some (.int (nI (k))), some (.int (nI (((f) * (16)) + (k)))), some (.int (bI (decide (((f) * (16)) + (k) ∈ S.2.1))))]) t_14_20 (Nat.le_of_ble_eq_true rfl) rfl ?_
  refine ev_aload_n t_14_22 rfl ?_
  refine es_get (x := .ref 20) o_MR t_14_23 rfl ?_
  refine ev_iload_n t_14_26 rfl ?_
  refine ev_cl (pm_st_V t_14_27 (as := [.ref 20, .int (nI (((f) * (16)) + (k)))]) (rest := []) (L0 := [some (.ref 20), some (.int (nI (((f) * (16)) + (k))))]) rfl rfl (Nat.le_of_ble_eq_true rfl) (Nat.le_of_ble_eq_true rfl) rfl (es_rc o_RO rfl (Nat.le_of_ble_eq_true rfl))) rfl (h1) ?_
  rintro _ _ ⟨rfl, rfl⟩
  change Ev _ _ _ _ ([]) _ _
  refine ev_iload t_14_30 rfl ?_
  exact ev_reti t_14_32 (rz rfl (bI_01 _)) ⟨_, rfl, rfl, _, rfl, RC_o hF1 hR1 hR⟩
theorem c14t {x y : Int32} (h : BAD 6 x ∨ BAD 16 y) : Ev (d + 3) 14 0 [some (.ref 8), some (.int x), some (.int y), none, none] [] (sC M σ) (fun q9 M' => q9 = .inr 1000 ∧ M' = pm_mk (sC M σ) 6 (.inr (1000, []))) := by
  refine ev_iload_n t_14_0 rfl ?_
  refine ev_iload_n t_14_1 rfl ?_
  exact ev_clt (pm_st_S t_14_2 (Nat.le_of_ble_eq_true rfl) (as := [.int x, .int y]) (rest := []) (L0 := [some (.int x), some (.int y)]) rfl rfl (Nat.le_of_ble_eq_true rfl) (Nat.le_of_ble_eq_true rfl) rfl) rfl (c19t h) rfl (fun M' h => ⟨rfl, h⟩)
theorem maxE : ∀ l, l < 97 → ∀ b, b < 97 → (if nI 0 < nI l - nI b then nI l - nI b else nI 0) = nI (l - b) := by decide +kernel
theorem c24l {m : Nat} {G : Nat → Nat → Int32} {rs : Nat → List Nat} (hm : m < 97) : ∀ (k i : Nat) (l : List Nat) (σ : Nat → Nat → Int32), i + k = m → k ≤ l.length → RC σ (G, l, rs) → Ev (d + 2) 24 19 [some (.ref 8), some (.int (nI m)), some (.int (nI i))] [] (sC M σ) (fun q9 M' => ∃ v9, q9 = .inl v9 ∧ v9 = some (.int (nI m)) ∧ ∃ σ', M' = sC M σ' ∧ RC σ' (G, l.drop k, rs)) := by
  intro k
  induction k with
  | zero =>
    intro i l σ hi hl hR
    obtain rfl : i = m := by omega
    rw [List.drop_zero]
    refine ev_iload_n t_24_19 rfl ?_
    refine ev_iload_n t_24_20 rfl ?_
    refine ev_icmp_geN t_24_21 (by omega) (by omega) (fun h_21 => ?_) (fun h_21 => ?_)
    · refine ev_iload_n t_24_45 rfl ?_
      exact ev_reti t_24_46 (ri rfl) ⟨_, rfl, rfl, _, rfl, hR⟩
    · omega
  | succ k ih =>
    intro i l σ hi hl hR
    obtain ⟨a, t, rfl⟩ : ∃ a t, l = a :: t := by
      cases l with
      | nil => simp at hl
      | cons a t => exact ⟨a, t, rfl⟩
    have ha : a < 96 := hR.2.1.2.1 a (by simp)
    obtain ⟨σ1, h1, hR1, hF1⟩ := c83 (d := d) (M := M) ha hR.2.1
    have c9 := c85 (d := d + 1) (M := M) (pl := 0) hR.2.1 (by simp)
    have e : (a :: t).erase a = t := List.erase_cons_head _ _
    dsimp only at hR1
    rw [e] at hR1
    have hR2 := RC_o hF1 hR1 hR
    refine ev_iload_n t_24_19 rfl ?_
    refine ev_iload_n t_24_20 rfl ?_
    refine ev_icmp_geN t_24_21 (by omega) (by omega) (fun h_21 => ?_) (fun h_21 => ?_)
    · omega
    · refine ev_aload_n t_24_24 rfl ?_
      refine es_get (x := .ref 20) o_MR t_24_25 rfl ?_
      refine ev_aload_n t_24_28 rfl ?_
      refine es_get (x := .ref 20) o_MR t_24_29 rfl ?_
      refine ev_iconst t_24_32 ?_
      change Ev _ _ _ _ ([.int (nI (0)), .ref 20, .ref 20]) _ _
      refine ev_cl (pm_st_V t_24_33 (as := [.ref 20, .int (nI (0))]) (rest := [.ref 20]) (L0 := [some (.ref 20), some (.int (nI (0))), none, none]) rfl rfl (Nat.le_of_ble_eq_true rfl) (Nat.le_of_ble_eq_true rfl) rfl (es_rc o_RO rfl (Nat.le_of_ble_eq_true rfl))) rfl (c9) ?_
      rintro _ _ ⟨rfl, rfl⟩
      change Ev _ _ _ _ ([.int (nI (a)), .ref 20]) _ _
      refine ev_cl (pm_st_V t_24_36 (as := [.ref 20, .int (nI (a))]) (rest := []) (L0 := [some (.ref 20), some (.int (nI (a)))]) rfl rfl (Nat.le_of_ble_eq_true rfl) (Nat.le_of_ble_eq_true rfl) rfl (es_rc o_RO rfl (Nat.le_of_ble_eq_true rfl))) rfl (h1) ?_
      rintro _ _ ⟨rfl, rfl⟩
      change Ev _ _ _ _ ([]) _ _
      refine ev_iincN (L' := [some (.ref 8), some (.int (nI (m))), some (.int (nI (i + 1)))]) t_24_39 rfl (Nat.le_of_ble_eq_true rfl) rfl ?_
      refine ev_goto t_24_42 ?_
      exact ih (i + 1) t σ1 (by omega) (by simp at hl; omega) hR2
theorem c24 {b : Nat} (hb : b < 97) (eb : S.1 8 7 = nI b) (hR : RC σ S) : Ev (d + 2) 24 0 [some (.ref 8), none, none] [] (sC M σ) (fun q9 M' => ∃ v9, q9 = .inl v9 ∧ v9 = some (.int (nI (S.2.1.length - b))) ∧ ∃ σ', M' = sC M σ' ∧ RC σ' (S.1, S.2.1.drop (S.2.1.length - b), S.2.2)) := by
  have hs := hR.2.1.short
  have g2 := hR.2.1.2.2.1
  have e7 : σ 8 7 = nI b := (hR.1 _ _ (by unfold Dk; omega)).trans eb
  refine ev_iconst t_24_0 ?_
  change Ev _ _ _ _ ([.int (nI (0))]) _ _
  refine ev_aload_n t_24_1 rfl ?_
  refine es_get (x := .ref 20) o_MR t_24_2 rfl ?_
  refine es_get (x := .int (σ (20) 0)) o_RO t_24_5 rfl ?_
  refine ev_top (y := (nI S.2.1.length)) (by exact g2) ?_
  refine ev_aload_n t_24_8 rfl ?_
  refine es_get (x := .int (σ (8) 7)) o_MR t_24_9 rfl ?_
  refine ev_top (y := (nI b)) (by exact e7) ?_
  refine ev_isub t_24_12 ?_
  refine ev_max t_24_13 (Nat.le_of_ble_eq_true rfl) ?_
  refine ev_top (maxE _ (by omega) _ hb) ?_
  refine ev_istore_n (L' := [some (.ref 8), some (.int (nI (S.2.1.length - b))), none]) t_24_16 (Nat.le_of_ble_eq_true rfl) rfl ?_
  refine ev_iconst t_24_17 ?_
  change Ev _ _ _ _ ([.int (nI (0))]) _ _
  refine ev_istore_n (L' := [some (.ref 8), some (.int (nI (S.2.1.length - b))), some (.int (nI (0)))]) t_24_18 (Nat.le_of_ble_eq_true rfl) rfl ?_
  exact c24l (by omega) _ 0 S.2.1 σ (by omega) (by omega) hR
theorem c13o {n : Nat} (h1 : 1 ≤ n) (h2 : n < 97) (hR : RC σ S) : Ev (d + 3) 13 0 [some (.ref 8), some (.int (nI n))] [] (sC M σ) (fun q9 M' => ∃ v9, q9 = .inl v9 ∧ v9 = some (.int (nI (S.2.1.length - n))) ∧ ∃ σ', M' = sC M σ' ∧ RC σ' (u2 S.1 8 7 (nI n), S.2.1.drop (S.2.1.length - n), S.2.2)) := by
  have hR2 := RC_u (q := 8) (k := 7) (x := nI n) (by unfold Dk; omega) hR
  have hc := c24 (d := d) (M := M) h2 (show u2 S.1 8 7 (nI n) 8 7 = nI n from u2_at) hR2
  refine ev_iload_n t_13_0 rfl ?_
  refine ev_iconst t_13_1 ?_
  change Ev _ _ _ _ ([.int (nI (1)), .int (nI (n))]) _ _
  refine ev_icmp_ltN t_13_2 (by omega) (by omega) (fun h_2 => ?_) (fun h_2 => ?_)
  · omega
  · refine ev_iload_n t_13_5 rfl ?_
    refine ev_bipush t_13_6 ?_
    change Ev _ _ _ _ ([.int (nI (96)), .int (nI (n))]) _ _
    refine ev_icmp_leN t_13_8 (by omega) (by omega) (fun h_8 => ?_) (fun h_8 => ?_)
    · refine ev_aload_n t_13_21 rfl ?_
      refine ev_iload_n t_13_22 rfl ?_
      refine es_put o_MR t_13_23 rfl (Nat.le_of_ble_eq_true rfl) rfl ?_
      refine ev_aload_n t_13_26 rfl ?_
      refine ev_cl (pm_st_V t_13_27 (as := [.ref 8]) (rest := []) (L0 := [some (.ref 8), none, none]) rfl rfl (Nat.le_of_ble_eq_true rfl) (Nat.le_of_ble_eq_true rfl) rfl (es_rc o_MR rfl (Nat.le_of_ble_eq_true rfl))) rfl (hc) ?_
      rintro _ _ ⟨rfl, σ1, rfl, h9⟩
      change Ev _ _ _ _ ([.int (nI (S.2.1.length - n))]) _ _
      exact ev_reti t_13_30 (ri rfl) ⟨_, rfl, rfl, _, rfl, h9⟩
    · omega
theorem c13t {x : Int32} (h : x < nI 1 ∨ nI 96 < x) : Ev (d + 3) 13 0 [some (.ref 8), some (.int x)] [] (sC M σ) (fun q9 M' => q9 = .inr 1000 ∧ M' = pm_mk (sC M σ) 6 (.inr (1000, []))) := by
  refine ev_iload_n t_13_0 rfl ?_
  refine ev_iconst t_13_1 ?_
  change Ev _ _ _ _ ([.int (nI (1)), .int x]) _ _
  refine ev_icmp_lt t_13_2 (fun h_2 => ?_) (fun h_2 => ?_)
  · exact ev_throw t_13_11 (Nat.le_of_ble_eq_true rfl) (Nat.le_of_ble_eq_true rfl) ⟨rfl, rfl⟩
  · refine ev_iload_n t_13_5 rfl ?_
    refine ev_bipush t_13_6 ?_
    change Ev _ _ _ _ ([.int (nI (96)), .int x]) _ _
    refine ev_icmp_le t_13_8 (fun h_8 => ?_) (fun h_8 => ?_)
    · (rcases h with h | h; exact absurd h h_2; exact absurd h_8 (Int32.not_le.mpr h))
    · exact ev_throw t_13_11 (Nat.le_of_ble_eq_true rfl) (Nat.le_of_ble_eq_true rfl) ⟨rfl, rfl⟩
end CH
