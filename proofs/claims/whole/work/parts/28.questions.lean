/-! What is required, what is thrown; the questions that change nothing. -/
theorem ev_clt {d i pc j : Nat} {L : pm_L} {st as rest : List Value} {M : pm_M} {Q : pm_R → pm_M → Prop} {L0 : pm_L} {x : Nat} {P : pm_M → Prop} (hs : pm_st i pc L st M = some (.inr (.inl (j, as, rest)))) (hL : pm_en j as = some L0) (hc : Ev d j 0 L0 [] M (fun r M' => r = .inr x ∧ P M')) (hh : tb_hn i pc x = some none) (kk : ∀ M', P M' → Q (.inr x) M') : Ev (d + 1) i pc L st M Q :=
  ev_call hs hL hc (fun r M' h => by
    obtain ⟨rfl, h2⟩ := h
    dsimp only
    rw [hh]
    exact kk M' h2)
def BAD (e : Nat) (x : Int32) : Prop := x < 0 ∨ nI e ≤ x
theorem rng (x : Int32) {e : Nat} (he : e < 2 ^ 31) : (∃ n, n < e ∧ x = nI n) ∨ BAD e x := by
  by_cases h : x < 0
  · exact Or.inr (Or.inl h)
  · obtain ⟨k, hk, rfl⟩ := nI_of h
    by_cases h2 : k < e
    · exact Or.inl ⟨k, h2, rfl⟩
    · exact Or.inr (Or.inr ((nI_leI he hk).mpr (by omega)))
section QU
variable {d : Nat} {M : pm_M} {σ : Nat → Nat → Int32} {S : SP}
theorem c15o {n e : Nat} (h : n < e) (he : e < 2 ^ 31) : Ev d 15 0 [some (.int (nI n)), some (.int (nI e))] [] (sC M σ) (fun q9 M' => ∃ v9, q9 = .inl v9 ∧ v9 = none ∧ M' = sC M σ) := by
  refine ev_iload_n t_15_0 rfl ?_
  refine ev_if_ltN t_15_1 (by omega) (fun h_1 => ?_) (fun h_1 => ?_)
  · exact h_1.elim
  · refine ev_iload_n t_15_4 rfl ?_
    refine ev_iload_n t_15_5 rfl ?_
    refine ev_icmp_ltN t_15_6 (by omega) (by omega) (fun h_6 => ?_) (fun h_6 => ?_)
    · exact ev_retv t_15_19 rfl ⟨none, rfl, rfl, rfl⟩
    · omega
theorem c15t {x : Int32} {e : Nat} (h : BAD e x) : Ev d 15 0 [some (.int x), some (.int (nI e))] [] (sC M σ) (fun q9 M' => q9 = .inr 1000 ∧ M' = pm_mk (sC M σ) 6 (.inr (1000, []))) := by
  refine ev_iload_n t_15_0 rfl ?_
  refine ev_if_lt (y := 0) t_15_1 (fun h_1 => ?_) (fun h_1 => ?_)
  · exact ev_throw t_15_9 (Nat.le_of_ble_eq_true rfl) (Nat.le_of_ble_eq_true rfl) ⟨rfl, rfl⟩
  · refine ev_iload_n t_15_4 rfl ?_
    refine ev_iload_n t_15_5 rfl ?_
    refine ev_icmp_lt t_15_6 (fun h_6 => ?_) (fun h_6 => ?_)
    · (rcases h with h | h; exact absurd h h_1; exact absurd h_6 (Int32.not_lt.mpr h))
    · exact ev_throw t_15_9 (Nat.le_of_ble_eq_true rfl) (Nat.le_of_ble_eq_true rfl) ⟨rfl, rfl⟩
theorem c16o {n : Nat} (h : n < 3) : Ev (d + 1) 16 0 [some (.int (nI n))] [] (sC M σ) (fun q9 M' => ∃ v9, q9 = .inl v9 ∧ v9 = none ∧ M' = sC M σ) := by
  refine ev_iload_n t_16_0 rfl ?_
  refine ev_iconst t_16_1 ?_
  change Ev _ _ _ _ ([.int (nI (3)), .int (nI (n))]) _ _
  refine ev_cl (pm_st_S t_16_2 (Nat.le_of_ble_eq_true rfl) (as := [.int (nI (n)), .int (nI (3))]) (rest := []) (L0 := [some (.int (nI (n))), some (.int (nI (3)))]) rfl rfl (Nat.le_of_ble_eq_true rfl) (Nat.le_of_ble_eq_true rfl) rfl) rfl (c15o (by omega) (by decide)) ?_
  rintro _ _ ⟨rfl, rfl⟩
  change Ev _ _ _ _ ([]) _ _
  exact ev_retv t_16_5 rfl ⟨none, rfl, rfl, rfl⟩
theorem c16t {x : Int32} (h : BAD 3 x) : Ev (d + 1) 16 0 [some (.int x)] [] (sC M σ) (fun q9 M' => q9 = .inr 1000 ∧ M' = pm_mk (sC M σ) 6 (.inr (1000, []))) := by
  refine ev_iload_n t_16_0 rfl ?_
  refine ev_iconst t_16_1 ?_
  change Ev _ _ _ _ ([.int (nI (3)), .int x]) _ _
  exact ev_clt (pm_st_S t_16_2 (Nat.le_of_ble_eq_true rfl) (as := [.int x, .int (nI (3))]) (rest := []) (L0 := [some (.int x), some (.int (nI (3)))]) rfl rfl (Nat.le_of_ble_eq_true rfl) (Nat.le_of_ble_eq_true rfl) rfl) rfl (c15t h) rfl (fun M' h => ⟨rfl, h⟩)
theorem c17o {n : Nat} (h : n < 6) : Ev (d + 1) 17 0 [some (.int (nI n))] [] (sC M σ) (fun q9 M' => ∃ v9, q9 = .inl v9 ∧ v9 = none ∧ M' = sC M σ) := by
  refine ev_iload_n t_17_0 rfl ?_
  refine ev_bipush t_17_1 ?_
  change Ev _ _ _ _ ([.int (nI (6)), .int (nI (n))]) _ _
  refine ev_cl (pm_st_S t_17_3 (Nat.le_of_ble_eq_true rfl) (as := [.int (nI (n)), .int (nI (6))]) (rest := []) (L0 := [some (.int (nI (n))), some (.int (nI (6)))]) rfl rfl (Nat.le_of_ble_eq_true rfl) (Nat.le_of_ble_eq_true rfl) rfl) rfl (c15o (by omega) (by decide)) ?_
  rintro _ _ ⟨rfl, rfl⟩
  change Ev _ _ _ _ ([]) _ _
  exact ev_retv t_17_6 rfl ⟨none, rfl, rfl, rfl⟩
theorem c17t {x : Int32} (h : BAD 6 x) : Ev (d + 1) 17 0 [some (.int x)] [] (sC M σ) (fun q9 M' => q9 = .inr 1000 ∧ M' = pm_mk (sC M σ) 6 (.inr (1000, []))) := by
  refine ev_iload_n t_17_0 rfl ?_
  refine ev_bipush t_17_1 ?_
  change Ev _ _ _ _ ([.int (nI (6)), .int x]) _ _
  exact ev_clt (pm_st_S t_17_3 (Nat.le_of_ble_eq_true rfl) (as := [.int x, .int (nI (6))]) (rest := []) (L0 := [some (.int x), some (.int (nI (6)))]) rfl rfl (Nat.le_of_ble_eq_true rfl) (Nat.le_of_ble_eq_true rfl) rfl) rfl (c15t h) rfl (fun M' h => ⟨rfl, h⟩)
theorem c18o {n : Nat} (h : n < 16) : Ev (d + 1) 18 0 [some (.int (nI n))] [] (sC M σ) (fun q9 M' => ∃ v9, q9 = .inl v9 ∧ v9 = none ∧ M' = sC M σ) := by
  refine ev_iload_n t_18_0 rfl ?_
  refine ev_bipush t_18_1 ?_
  change Ev _ _ _ _ ([.int (nI (16)), .int (nI (n))]) _ _
  refine ev_cl (pm_st_S t_18_3 (Nat.le_of_ble_eq_true rfl) (as := [.int (nI (n)), .int (nI (16))]) (rest := []) (L0 := [some (.int (nI (n))), some (.int (nI (16)))]) rfl rfl (Nat.le_of_ble_eq_true rfl) (Nat.le_of_ble_eq_true rfl) rfl) rfl (c15o (by omega) (by decide)) ?_
  rintro _ _ ⟨rfl, rfl⟩
  change Ev _ _ _ _ ([]) _ _
  exact ev_retv t_18_6 rfl ⟨none, rfl, rfl, rfl⟩
theorem c18t {x : Int32} (h : BAD 16 x) : Ev (d + 1) 18 0 [some (.int x)] [] (sC M σ) (fun q9 M' => q9 = .inr 1000 ∧ M' = pm_mk (sC M σ) 6 (.inr (1000, []))) := by
  refine ev_iload_n t_18_0 rfl ?_
  refine ev_bipush t_18_1 ?_
  change Ev _ _ _ _ ([.int (nI (16)), .int x]) _ _
  exact ev_clt (pm_st_S t_18_3 (Nat.le_of_ble_eq_true rfl) (as := [.int x, .int (nI (16))]) (rest := []) (L0 := [some (.int x), some (.int (nI (16)))]) rfl rfl (Nat.le_of_ble_eq_true rfl) (Nat.le_of_ble_eq_true rfl) rfl) rfl (c15t h) rfl (fun M' h => ⟨rfl, h⟩)
theorem c19o {f k : Nat} (h : f < 6) (h2 : k < 16) : Ev (d + 2) 19 0 [some (.int (nI f)), some (.int (nI k))] [] (sC M σ) (fun q9 M' => ∃ v9, q9 = .inl v9 ∧ v9 = none ∧ M' = sC M σ) := by
  refine ev_iload_n t_19_0 rfl ?_
  refine ev_cl (pm_st_S t_19_1 (Nat.le_of_ble_eq_true rfl) (as := [.int (nI (f))]) (rest := []) (L0 := [some (.int (nI (f)))]) rfl rfl (Nat.le_of_ble_eq_true rfl) (Nat.le_of_ble_eq_true rfl) rfl) rfl (c17o h) ?_
  rintro _ _ ⟨rfl, rfl⟩
  change Ev _ _ _ _ ([]) _ _
  refine ev_iload_n t_19_4 rfl ?_
  refine ev_cl (pm_st_S t_19_5 (Nat.le_of_ble_eq_true rfl) (as := [.int (nI (k))]) (rest := []) (L0 := [some (.int (nI (k)))]) rfl rfl (Nat.le_of_ble_eq_true rfl) (Nat.le_of_ble_eq_true rfl) rfl) rfl (c18o h2) ?_
  rintro _ _ ⟨rfl, rfl⟩
  change Ev _ _ _ _ ([]) _ _
  exact ev_retv t_19_8 rfl ⟨none, rfl, rfl, rfl⟩
theorem c19t {x y : Int32} (h : BAD 6 x ∨ BAD 16 y) : Ev (d + 2) 19 0 [some (.int x), some (.int y)] [] (sC M σ) (fun q9 M' => q9 = .inr 1000 ∧ M' = pm_mk (sC M σ) 6 (.inr (1000, []))) := by
  rcases rng x (e := 6) (by decide) with ⟨f, hf, rfl⟩ | hx
  · have hy : BAD 16 y := by
      rcases h with h | h
      · exfalso
        rcases h with h | h
        · exact nI_pos (by omega) h
        · have := (nI_leI (by decide) (by omega)).mp h; omega
      · exact h
    refine ev_iload_n t_19_0 rfl ?_
    refine ev_cl (pm_st_S t_19_1 (Nat.le_of_ble_eq_true rfl) (as := [.int (nI (f))]) (rest := []) (L0 := [some (.int (nI (f)))]) rfl rfl (Nat.le_of_ble_eq_true rfl) (Nat.le_of_ble_eq_true rfl) rfl) rfl (c17o hf) ?_
    rintro _ _ ⟨rfl, rfl⟩
    change Ev _ _ _ _ ([]) _ _
    refine ev_iload_n t_19_4 rfl ?_
    exact ev_clt (pm_st_S t_19_5 (Nat.le_of_ble_eq_true rfl) (as := [.int y]) (rest := []) (L0 := [some (.int y)]) rfl rfl (Nat.le_of_ble_eq_true rfl) (Nat.le_of_ble_eq_true rfl) rfl) rfl (c18t hy) rfl (fun M' h => ⟨rfl, h⟩)
  · refine ev_iload_n t_19_0 rfl ?_
    exact ev_clt (pm_st_S t_19_1 (Nat.le_of_ble_eq_true rfl) (as := [.int x]) (rest := []) (L0 := [some (.int x)]) rfl rfl (Nat.le_of_ble_eq_true rfl) (Nat.le_of_ble_eq_true rfl) rfl) rfl (c17t hx) rfl (fun M' h => ⟨rfl, h⟩)
theorem c20o {n : Nat} (hn : n < 96) (hR : RC σ S) (hm : n ∈ S.2.1) : Ev (d + 1) 20 0 [some (.ref 8), some (.int (nI n))] [] (sC M σ) (fun q9 M' => ∃ v9, q9 = .inl v9 ∧ v9 = some (.ref (38 + 2 * n)) ∧ M' = sC M σ) := by
  refine ev_aload_n t_20_0 rfl ?_
  refine es_get (x := .ref 20) o_MR t_20_1 rfl ?_
  refine ev_iload_n t_20_4 rfl ?_
  refine ev_cl (pm_st_V t_20_5 (as := [.ref 20, .int (nI (n))]) (rest := []) (L0 := [some (.ref 20), some (.int (nI (n)))]) rfl rfl (Nat.le_of_ble_eq_true rfl) (Nat.le_of_ble_eq_true rfl) rfl (es_rc o_RO rfl (Nat.le_of_ble_eq_true rfl))) rfl (c81r (by omega) hR) ?_
  rintro _ _ ⟨rfl, rfl⟩
  change Ev _ _ _ _ ([.int (bI (decide (n ∈ S.2.1)))]) _ _
  refine ev_if_ne (y := 0) t_20_8 (fun h_8 => ?_) (fun h_8 => ?_)
  · refine ev_aload_n t_20_21 rfl ?_
    refine es_get (x := .ref 19) o_MR t_20_22 rfl ?_
    refine ev_iload_n t_20_25 rfl ?_
    refine es_rald (k := n) (x := .ref (38 + 2 * n)) r_CA t_20_26 (by omega) rfl ?_
    exact ev_reta t_20_27 rfl ⟨_, rfl, rfl, rfl⟩
  · exact absurd (bI_d0.mp (Decidable.byContradiction h_8)) (fun h => h hm)
theorem c20t {n : Nat} (hn : n < 96) (hR : RC σ S) (hm : n ∉ S.2.1) : Ev (d + 1) 20 0 [some (.ref 8), some (.int (nI n))] [] (sC M σ) (fun q9 M' => q9 = .inr 1002 ∧ M' = pm_mk (sC M σ) 6 (.inr (1000, []))) := by
  refine ev_aload_n t_20_0 rfl ?_
  refine es_get (x := .ref 20) o_MR t_20_1 rfl ?_
  refine ev_iload_n t_20_4 rfl ?_
  refine ev_cl (pm_st_V t_20_5 (as := [.ref 20, .int (nI (n))]) (rest := []) (L0 := [some (.ref 20), some (.int (nI (n)))]) rfl rfl (Nat.le_of_ble_eq_true rfl) (Nat.le_of_ble_eq_true rfl) rfl (es_rc o_RO rfl (Nat.le_of_ble_eq_true rfl))) rfl (c81r (by omega) hR) ?_
  rintro _ _ ⟨rfl, rfl⟩
  change Ev _ _ _ _ ([.int (bI (decide (n ∈ S.2.1)))]) _ _
  refine ev_if_ne (y := 0) t_20_8 (fun h_8 => ?_) (fun h_8 => ?_)
  · exact absurd (bI_d0.mpr hm) h_8
  · exact ev_throw t_20_11 (Nat.le_of_ble_eq_true rfl) (Nat.le_of_ble_eq_true rfl) ⟨rfl, rfl⟩
theorem c9o {f k : Nat} (hf : f < 6) (hk : k < 16) (hR : RC σ S) : Ev (d + 3) 9 0 [some (.ref 8), some (.int (nI f)), some (.int (nI k))] [] (sC M σ) (fun q9 M' => ∃ v9, q9 = .inl v9 ∧ v9 = some (.int (bI (decide (f * 16 + k ∈ S.2.1)))) ∧ M' = sC M σ) := by
  refine ev_iload_n t_9_0 rfl ?_
  refine ev_iload_n t_9_1 rfl ?_
  refine ev_cl (pm_st_S t_9_2 (Nat.le_of_ble_eq_true rfl) (as := [.int (nI (f)), .int (nI (k))]) (rest := []) (L0 := [some (.int (nI (f))), some (.int (nI (k)))]) rfl rfl (Nat.le_of_ble_eq_true rfl) (Nat.le_of_ble_eq_true rfl) rfl) rfl (c19o hf hk) ?_
  rintro _ _ ⟨rfl, rfl⟩
  change Ev _ _ _ _ ([]) _ _
  refine ev_aload_n t_9_5 rfl ?_
  refine es_get (x := .ref 20) o_MR t_9_6 rfl ?_
  refine ev_iload_n t_9_9 rfl ?_
  refine ev_bipush t_9_10 ?_
  change Ev _ _ _ _ ([.int (nI (16)), .int (nI (f)), .ref 20]) _ _
  refine ev_imulN t_9_12 ?_
  refine ev_iload_n t_9_13 rfl ?_
  refine ev_iaddN t_9_14 ?_
  refine ev_cl (pm_st_V t_9_15 (as := [.ref 20, .int (nI (((f) * (16)) + (k)))]) (rest := []) (L0 := [some (.ref 20), some (.int (nI (((f) * (16)) + (k))))]) rfl rfl (Nat.le_of_ble_eq_true rfl) (Nat.le_of_ble_eq_true rfl) rfl (es_rc o_RO rfl (Nat.le_of_ble_eq_true rfl))) rfl (c81r (by omega) hR) ?_
  rintro _ _ ⟨rfl, rfl⟩
  change Ev _ _ _ _ ([.int (bI (decide (((f) * (16)) + (k) ∈ S.2.1)))]) _ _
  exact ev_reti t_9_18 (rz rfl (bI_01 _)) ⟨_, rfl, rfl, rfl⟩
theorem c9t {x y : Int32} (h : BAD 6 x ∨ BAD 16 y) : Ev (d + 3) 9 0 [some (.ref 8), some (.int x), some (.int y)] [] (sC M σ) (fun q9 M' => q9 = .inr 1000 ∧ M' = pm_mk (sC M σ) 6 (.inr (1000, []))) := by
  refine ev_iload_n t_9_0 rfl ?_
  refine ev_iload_n t_9_1 rfl ?_
  exact ev_clt (pm_st_S t_9_2 (Nat.le_of_ble_eq_true rfl) (as := [.int x, .int y]) (rest := []) (L0 := [some (.int x), some (.int y)]) rfl rfl (Nat.le_of_ble_eq_true rfl) (Nat.le_of_ble_eq_true rfl) rfl) rfl (c19t h) rfl (fun M' h => ⟨rfl, h⟩)
def clV (S : SP) (n w : Nat) : Int32 := if w = 0 then S.1 (38 + 2 * n) 0 else if w = 1 then S.1 (38 + 2 * n) 3 else if w = 2 then S.1 (38 + 2 * n) 4 else if w = 3 then S.1 (38 + 2 * n) 5 else if w = 4 then (if S.1 (38 + 2 * n) 6 = 0 then 0 else 1) else nI (S.2.2 n).length
theorem c10o {f k w : Nat} (hf : f < 6) (hk : k < 16) (hw : w < 6) (hR : RC σ S) (hm : f * 16 + k ∈ S.2.1) : Ev (d + 3) 10 0 [some (.ref 8), some (.int (nI f)), some (.int (nI k)), some (.int (nI w)), none] [] (sC M σ) (fun q9 M' => ∃ v9, q9 = .inl v9 ∧ v9 = some (.int (clV S (f * 16 + k) w)) ∧ M' = sC M σ) := by
  have hn9 : f * 16 + k < 96 := by omega
  have g2 := (hR.2.2 (f * 16 + k) hn9).1
  have gr := fun j (hj : j ≠ 2) => hR.1 (38 + 2 * (f * 16 + k)) j (by unfold Dk; omega)
  refine ev_iload_n t_10_0 rfl ?_
  refine ev_iload_n t_10_1 rfl ?_
  refine ev_cl (pm_st_S t_10_2 (Nat.le_of_ble_eq_true rfl) (as := [.int (nI (f)), .int (nI (k))]) (rest := []) (L0 := [some (.int (nI (f))), some (.int (nI (k)))]) rfl rfl (Nat.le_of_ble_eq_true rfl) (Nat.le_of_ble_eq_true rfl) rfl) rfl (c19o hf hk) ?_
  rintro _ _ ⟨rfl, rfl⟩
  change Ev _ _ _ _ ([]) _ _
  refine ev_iload_n t_10_5 rfl ?_
  refine ev_bipush t_10_6 ?_
  change Ev _ _ _ _ ([.int (nI (6)), .int (nI (w))]) _ _
  refine ev_cl (pm_st_S t_10_8 (Nat.le_of_ble_eq_true rfl) (as := [.int (nI (w)), .int (nI (6))]) (rest := []) (L0 := [some (.int (nI (w))), some (.int (nI (6)))]) rfl rfl (Nat.le_of_ble_eq_true rfl) (Nat.le_of_ble_eq_true rfl) rfl) rfl (c15o hw (by decide)) ?_
  rintro _ _ ⟨rfl, rfl⟩
  change Ev _ _ _ _ ([]) _ _
  refine ev_aload_n t_10_11 rfl ?_
  refine ev_iload_n t_10_12 rfl ?_
  refine ev_bipush t_10_13 ?_
  change Ev _ _ _ _ ([.int (nI (16)), .int (nI (f)), .ref 8]) _ _
  refine ev_imulN t_10_15 ?_
  refine ev_iload_n t_10_16 rfl ?_
  refine ev_iaddN t_10_17 ?_
  refine ev_cl (pm_st_V t_10_18 (as := [.ref 8, .int (nI (((f) * (16)) + (k)))]) (rest := []) (L0 := [some (.ref 8), some (.int (nI (((f) * (16)) + (k))))]) rfl rfl (Nat.le_of_ble_eq_true rfl) (Nat.le_of_ble_eq_true rfl) rfl (es_rc o_MR rfl (Nat.le_of_ble_eq_true rfl))) rfl (c20o (n := f * 16 + k) hn9 hR hm) ?_
  rintro _ _ ⟨rfl, rfl⟩
  change Ev _ _ _ _ ([.ref (38 + 2 * (f * 16 + k))]) _ _
  refine ev_astore (L' := [some (.ref 8), some (.int (nI (f))), some (.int (nI (k))), some (.int (nI (w))), some (.ref (38 + 2 * (f * 16 + k)))]) t_10_21 (Nat.le_of_ble_eq_true rfl) rfl ?_
  refine ev_iload_n t_10_23 rfl ?_
  refine ev_switch t_10_24 (fun k9 hk9 hx9 => ?_) (fun hx9 => ?_)
  · rcases (show k9 = 0 ∨ k9 = 1 ∨ k9 = 2 ∨ k9 = 3 ∨ k9 = 4 by simp at hk9; omega) with rfl | rfl | rfl | rfl | rfl
    · refine ev_aload t_10_60 rfl ?_
      refine es_get (x := .int (σ (38 + 2 * (f * 16 + k)) 0)) (o_Ce (n := f * 16 + k) (by omega)) t_10_62 rfl ?_
      have ew : w = 0 := by first | exact (nI_eq (by omega) (by decide)).mp hx9 | (have hz := hx9; rcases hz with hz | hz; exact absurd hz (nI_pos (by omega)); rw [nI_clamp (by omega)] at hz; simp at hz; omega)
      exact ev_reti t_10_65 (ri rfl) ⟨_, rfl, by rw [ew, gr 0 (by decide)]; rfl, rfl⟩
    · refine ev_aload t_10_66 rfl ?_
      refine es_get (x := .int (σ (38 + 2 * (f * 16 + k)) 3)) (o_Ce (n := f * 16 + k) (by omega)) t_10_68 rfl ?_
      have ew : w = 1 := by first | exact (nI_eq (by omega) (by decide)).mp hx9 | (have hz := hx9; rcases hz with hz | hz; exact absurd hz (nI_pos (by omega)); rw [nI_clamp (by omega)] at hz; simp at hz; omega)
      exact ev_reti t_10_71 (ri rfl) ⟨_, rfl, by rw [ew, gr 3 (by decide)]; rfl, rfl⟩
    · refine ev_aload t_10_72 rfl ?_
      refine es_get (x := .int (σ (38 + 2 * (f * 16 + k)) 4)) (o_Ce (n := f * 16 + k) (by omega)) t_10_74 rfl ?_
      have ew : w = 2 := by first | exact (nI_eq (by omega) (by decide)).mp hx9 | (have hz := hx9; rcases hz with hz | hz; exact absurd hz (nI_pos (by omega)); rw [nI_clamp (by omega)] at hz; simp at hz; omega)
      exact ev_reti t_10_77 (ri rfl) ⟨_, rfl, by rw [ew, gr 4 (by decide)]; rfl, rfl⟩
    · refine ev_aload t_10_78 rfl ?_
      refine es_get (x := .int (σ (38 + 2 * (f * 16 + k)) 5)) (o_Ce (n := f * 16 + k) (by omega)) t_10_80 rfl ?_
      have ew : w = 3 := by first | exact (nI_eq (by omega) (by decide)).mp hx9 | (have hz := hx9; rcases hz with hz | hz; exact absurd hz (nI_pos (by omega)); rw [nI_clamp (by omega)] at hz; simp at hz; omega)
      exact ev_reti t_10_83 (ri rfl) ⟨_, rfl, by rw [ew, gr 5 (by decide)]; rfl, rfl⟩
    · refine ev_aload t_10_84 rfl ?_
      refine es_get (x := .int (σ (38 + 2 * (f * 16 + k)) 6)) (o_Ce (n := f * 16 + k) (by omega)) t_10_86 rfl ?_
      refine ev_if_eq (y := 0) t_10_89 (fun h_89 => ?_) (fun h_89 => ?_)
      · refine ev_iconst t_10_96 ?_
        change Ev _ _ _ _ ([.int (nI (0))]) _ _
        have ew : w = 4 := by first | exact (nI_eq (by omega) (by decide)).mp hx9 | (have hz := hx9; rcases hz with hz | hz; exact absurd hz (nI_pos (by omega)); rw [nI_clamp (by omega)] at hz; simp at hz; omega)
        rw [gr 6 (by decide)] at h_89
        exact ev_reti t_10_97 (ri rfl) ⟨_, rfl, by rw [ew]; unfold clV; rw [if_neg (by decide), if_neg (by decide), if_neg (by decide), if_neg (by decide), if_pos rfl, if_pos h_89]; rfl, rfl⟩
      · refine ev_iconst t_10_92 ?_
        change Ev _ _ _ _ ([.int (nI (1))]) _ _
        refine ev_goto t_10_93 ?_
        have ew : w = 4 := by first | exact (nI_eq (by omega) (by decide)).mp hx9 | (have hz := hx9; rcases hz with hz | hz; exact absurd hz (nI_pos (by omega)); rw [nI_clamp (by omega)] at hz; simp at hz; omega)
        rw [gr 6 (by decide)] at h_89
        exact ev_reti t_10_97 (ri rfl) ⟨_, rfl, by rw [ew]; unfold clV; rw [if_neg (by decide), if_neg (by decide), if_neg (by decide), if_neg (by decide), if_pos rfl, if_neg h_89]; rfl, rfl⟩
  · refine ev_aload t_10_98 rfl ?_
    refine es_get (x := .int (σ (38 + 2 * (f * 16 + k)) 2)) (o_Ce (n := f * 16 + k) (by omega)) t_10_100 rfl ?_
    have ew : w = 5 := by first | exact (nI_eq (by omega) (by decide)).mp hx9 | (have hz := hx9; rcases hz with hz | hz; exact absurd hz (nI_pos (by omega)); rw [nI_clamp (by omega)] at hz; simp at hz; omega)
    exact ev_reti t_10_103 (ri rfl) ⟨_, rfl, by rw [ew, g2]; rfl, rfl⟩
theorem c10t {x y z : Int32} (h : BAD 6 x ∨ BAD 16 y) : Ev (d + 3) 10 0 [some (.ref 8), some (.int x), some (.int y), some (.int z), none] [] (sC M σ) (fun q9 M' => q9 = .inr 1000 ∧ M' = pm_mk (sC M σ) 6 (.inr (1000, []))) := by
  refine ev_iload_n t_10_0 rfl ?_
  refine ev_iload_n t_10_1 rfl ?_
  exact ev_clt (pm_st_S t_10_2 (Nat.le_of_ble_eq_true rfl) (as := [.int x, .int y]) (rest := []) (L0 := [some (.int x), some (.int y)]) rfl rfl (Nat.le_of_ble_eq_true rfl) (Nat.le_of_ble_eq_true rfl) rfl) rfl (c19t h) rfl (fun M' h => ⟨rfl, h⟩)
theorem c10u {f k : Nat} {z : Int32} (hf : f < 6) (hk : k < 16) (h : BAD 6 z) : Ev (d + 3) 10 0 [some (.ref 8), some (.int (nI f)), some (.int (nI k)), some (.int z), none] [] (sC M σ) (fun q9 M' => q9 = .inr 1000 ∧ M' = pm_mk (sC M σ) 6 (.inr (1000, []))) := by
  refine ev_iload_n t_10_0 rfl ?_
  refine ev_iload_n t_10_1 rfl ?_
  refine ev_cl (pm_st_S t_10_2 (Nat.le_of_ble_eq_true rfl) (as := [.int (nI (f)), .int (nI (k))]) (rest := []) (L0 := [some (.int (nI (f))), some (.int (nI (k)))]) rfl rfl (Nat.le_of_ble_eq_true rfl) (Nat.le_of_ble_eq_true rfl) rfl) rfl (c19o hf hk) ?_
  rintro _ _ ⟨rfl, rfl⟩
  change Ev _ _ _ _ ([]) _ _
  refine ev_iload_n t_10_5 rfl ?_
  refine ev_bipush t_10_6 ?_
  change Ev _ _ _ _ ([.int (nI (6)), .int z]) _ _
  exact ev_clt (pm_st_S t_10_8 (Nat.le_of_ble_eq_true rfl) (as := [.int z, .int (nI (6))]) (rest := []) (L0 := [some (.int z), some (.int (nI (6)))]) rfl rfl (Nat.le_of_ble_eq_true rfl) (Nat.le_of_ble_eq_true rfl) rfl) rfl (c15t h) rfl (fun M' h => ⟨rfl, h⟩)
theorem c10v {f k w : Nat} (hf : f < 6) (hk : k < 16) (hw : w < 6) (hR : RC σ S) (hm : f * 16 + k ∉ S.2.1) : Ev (d + 3) 10 0 [some (.ref 8), some (.int (nI f)), some (.int (nI k)), some (.int (nI w)), none] [] (sC M σ) (fun q9 M' => q9 = .inr 1002 ∧ M' = pm_mk (sC M σ) 6 (.inr (1000, []))) := by
  refine ev_iload_n t_10_0 rfl ?_
  refine ev_iload_n t_10_1 rfl ?_
  refine ev_cl (pm_st_S t_10_2 (Nat.le_of_ble_eq_true rfl) (as := [.int (nI (f)), .int (nI (k))]) (rest := []) (L0 := [some (.int (nI (f))), some (.int (nI (k)))]) rfl rfl (Nat.le_of_ble_eq_true rfl) (Nat.le_of_ble_eq_true rfl) rfl) rfl (c19o hf hk) ?_
  rintro _ _ ⟨rfl, rfl⟩
  change Ev _ _ _ _ ([]) _ _
  refine ev_iload_n t_10_5 rfl ?_
  refine ev_bipush t_10_6 ?_
  change Ev _ _ _ _ ([.int (nI (6)), .int (nI (w))]) _ _
  refine ev_cl (pm_st_S t_10_8 (Nat.le_of_ble_eq_true rfl) (as := [.int (nI (w)), .int (nI (6))]) (rest := []) (L0 := [some (.int (nI (w))), some (.int (nI (6)))]) rfl rfl (Nat.le_of_ble_eq_true rfl) (Nat.le_of_ble_eq_true rfl) rfl) rfl (c15o hw (by decide)) ?_
  rintro _ _ ⟨rfl, rfl⟩
  change Ev _ _ _ _ ([]) _ _
  refine ev_aload_n t_10_11 rfl ?_
  refine ev_iload_n t_10_12 rfl ?_
  refine ev_bipush t_10_13 ?_
  change Ev _ _ _ _ ([.int (nI (16)), .int (nI (f)), .ref 8]) _ _
  refine ev_imulN t_10_15 ?_
  refine ev_iload_n t_10_16 rfl ?_
  refine ev_iaddN t_10_17 ?_
  exact ev_clt (pm_st_V t_10_18 (as := [.ref 8, .int (nI (((f) * (16)) + (k)))]) (rest := []) (L0 := [some (.ref 8), some (.int (nI (((f) * (16)) + (k))))]) rfl rfl (Nat.le_of_ble_eq_true rfl) (Nat.le_of_ble_eq_true rfl) rfl (es_rc o_MR rfl (Nat.le_of_ble_eq_true rfl))) rfl (c20t (n := f * 16 + k) (by omega) hR hm) rfl (fun M' h => ⟨rfl, h⟩)
def rdV (S : SP) (n : Nat) (x : Int32) : Int32 := if x < 0 ∨ nI (S.2.2 n).length ≤ x then -1 else nI ((S.2.2 n).getD x.toNatClampNeg 0)
theorem c11o {f k : Nat} {x : Int32} (hf : f < 6) (hk : k < 16) (hR : RC σ S) (hm : f * 16 + k ∈ S.2.1) (h24 : (S.2.2 (f * 16 + k)).length ≤ 24) : Ev (d + 3) 11 0 [some (.ref 8), some (.int (nI f)), some (.int (nI k)), some (.int x), none] [] (sC M σ) (fun q9 M' => ∃ v9, q9 = .inl v9 ∧ v9 = some (.int (rdV S (f * 16 + k) x)) ∧ M' = sC M σ) := by
  have hn9 : f * 16 + k < 96 := by omega
  have g2 := (hR.2.2 (f * 16 + k) hn9).1
  have g3 := (hR.2.2 (f * 16 + k) hn9).2
  rcases rng x (e := (S.2.2 (f * 16 + k)).length) (by omega) with ⟨j, hj, rfl⟩ | hx
  · have hj24 : j < 24 := by omega
    have ej : ¬ (nI j < 0 ∨ nI (S.2.2 (f * 16 + k)).length ≤ nI j) := by
      rintro (h | h)
      · exact nI_pos (by omega) h
      · have := (nI_leI (by omega) (by omega)).mp h; omega
    refine ev_iload_n t_11_0 rfl ?_
    refine ev_iload_n t_11_1 rfl ?_
    refine ev_cl (pm_st_S t_11_2 (Nat.le_of_ble_eq_true rfl) (as := [.int (nI (f)), .int (nI (k))]) (rest := []) (L0 := [some (.int (nI (f))), some (.int (nI (k)))]) rfl rfl (Nat.le_of_ble_eq_true rfl) (Nat.le_of_ble_eq_true rfl) rfl) rfl (c19o hf hk) ?_
    rintro _ _ ⟨rfl, rfl⟩
    change Ev _ _ _ _ ([]) _ _
    refine ev_aload_n t_11_5 rfl ?_
    refine ev_iload_n t_11_6 rfl ?_
    refine ev_bipush t_11_7 ?_
    change Ev _ _ _ _ ([.int (nI (16)), .int (nI (f)), .ref 8]) _ _
    refine ev_imulN t_11_9 ?_
    refine ev_iload_n t_11_10 rfl ?_
    refine ev_iaddN t_11_11 ?_
    refine ev_cl (pm_st_V t_11_12 (as := [.ref 8, .int (nI (((f) * (16)) + (k)))]) (rest := []) (L0 := [some (.ref 8), some (.int (nI (((f) * (16)) + (k))))]) rfl rfl (Nat.le_of_ble_eq_true rfl) (Nat.le_of_ble_eq_true rfl) rfl (es_rc o_MR rfl (Nat.le_of_ble_eq_true rfl))) rfl (c20o (n := f * 16 + k) hn9 hR hm) ?_
    rintro _ _ ⟨rfl, rfl⟩
    change Ev _ _ _ _ ([.ref (38 + 2 * (f * 16 + k))]) _ _
    refine ev_astore (L' := [some (.ref 8), some (.int (nI (f))), some (.int (nI (k))), some (.int (nI (j))), some (.ref (38 + 2 * (f * 16 + k)))]) t_11_15 (Nat.le_of_ble_eq_true rfl) rfl ?_
    refine ev_iload_n t_11_17 rfl ?_
    refine ev_if_ltN t_11_18 (by omega) (fun h_18 => ?_) (fun h_18 => ?_)
    · exact h_18.elim
    · refine ev_iload_n t_11_21 rfl ?_
      refine ev_aload t_11_22 rfl ?_
      refine es_get (x := .int (σ (38 + 2 * (f * 16 + k)) 2)) (o_Ce (n := f * 16 + k) (by omega)) t_11_24 rfl ?_
      refine ev_top (y := (nI ((S.2.2 (f * 16 + k)).length))) (by exact g2) ?_
      refine ev_icmp_geN t_11_27 (by omega) (by omega) (fun h_27 => ?_) (fun h_27 => ?_)
      · omega
      · refine ev_aload t_11_30 rfl ?_
        refine es_get (x := .ref (38 + 2 * (f * 16 + k) + 1)) (o_Ce (n := f * 16 + k) (by omega)) t_11_32 rfl ?_
        refine ev_iload_n t_11_35 rfl ?_
        refine es_iald (k := j) (a_rd (n := f * 16 + k) (by omega)) t_11_36 (by omega) ?_
        refine ev_goto t_11_37 ?_
        exact ev_reti t_11_41 (ri rfl) ⟨_, rfl, by unfold rdV; rw [if_neg ej, nI_clamp (by omega), g3 j hj], rfl⟩
  · refine ev_iload_n t_11_0 rfl ?_
    refine ev_iload_n t_11_1 rfl ?_
    refine ev_cl (pm_st_S t_11_2 (Nat.le_of_ble_eq_true rfl) (as := [.int (nI (f)), .int (nI (k))]) (rest := []) (L0 := [some (.int (nI (f))), some (.int (nI (k)))]) rfl rfl (Nat.le_of_ble_eq_true rfl) (Nat.le_of_ble_eq_true rfl) rfl) rfl (c19o hf hk) ?_
    rintro _ _ ⟨rfl, rfl⟩
    change Ev _ _ _ _ ([]) _ _
    refine ev_aload_n t_11_5 rfl ?_
    refine ev_iload_n t_11_6 rfl ?_
    refine ev_bipush t_11_7 ?_
    change Ev _ _ _ _ ([.int (nI (16)), .int (nI (f)), .ref 8]) _ _
    refine ev_imulN t_11_9 ?_
    refine ev_iload_n t_11_10 rfl ?_
    refine ev_iaddN t_11_11 ?_
    refine ev_cl (pm_st_V t_11_12 (as := [.ref 8, .int (nI (((f) * (16)) + (k)))]) (rest := []) (L0 := [some (.ref 8), some (.int (nI (((f) * (16)) + (k))))]) rfl rfl (Nat.le_of_ble_eq_true rfl) (Nat.le_of_ble_eq_true rfl) rfl (es_rc o_MR rfl (Nat.le_of_ble_eq_true rfl))) rfl (c20o (n := f * 16 + k) hn9 hR hm) ?_
    rintro _ _ ⟨rfl, rfl⟩
    change Ev _ _ _ _ ([.ref (38 + 2 * (f * 16 + k))]) _ _
    refine ev_astore (L' := [some (.ref 8), some (.int (nI (f))), some (.int (nI (k))), some (.int x), some (.ref (38 + 2 * (f * 16 + k)))]) t_11_15 (Nat.le_of_ble_eq_true rfl) rfl ?_
    refine ev_iload_n t_11_17 rfl ?_
    refine ev_if_lt (y := 0) t_11_18 (fun h_18 => ?_) (fun h_18 => ?_)
    · refine ev_iconst t_11_40 ?_
      change Ev _ _ _ _ ([.int (-1)]) _ _
      exact ev_reti t_11_41 (ri rfl) ⟨_, rfl, by unfold rdV; rw [if_pos (show _ ∨ _ from hx)], rfl⟩
    · refine ev_iload_n t_11_21 rfl ?_
      refine ev_aload t_11_22 rfl ?_
      refine es_get (x := .int (σ (38 + 2 * (f * 16 + k)) 2)) (o_Ce (n := f * 16 + k) (by omega)) t_11_24 rfl ?_
      refine ev_top (y := (nI (S.2.2 (f * 16 + k)).length)) (by exact g2) ?_
      refine ev_icmp_ge t_11_27 (fun h_27 => ?_) (fun h_27 => ?_)
      · refine ev_iconst t_11_40 ?_
        change Ev _ _ _ _ ([.int (-1)]) _ _
        exact ev_reti t_11_41 (ri rfl) ⟨_, rfl, by unfold rdV; rw [if_pos (show _ ∨ _ from hx)], rfl⟩
      · (rcases hx with h | h; exact absurd h h_18; exact absurd h h_27)
theorem c11t {x y z : Int32} (h : BAD 6 x ∨ BAD 16 y) : Ev (d + 3) 11 0 [some (.ref 8), some (.int x), some (.int y), some (.int z), none] [] (sC M σ) (fun q9 M' => q9 = .inr 1000 ∧ M' = pm_mk (sC M σ) 6 (.inr (1000, []))) := by
  refine ev_iload_n t_11_0 rfl ?_
  refine ev_iload_n t_11_1 rfl ?_
  exact ev_clt (pm_st_S t_11_2 (Nat.le_of_ble_eq_true rfl) (as := [.int x, .int y]) (rest := []) (L0 := [some (.int x), some (.int y)]) rfl rfl (Nat.le_of_ble_eq_true rfl) (Nat.le_of_ble_eq_true rfl) rfl) rfl (c19t h) rfl (fun M' h => ⟨rfl, h⟩)
theorem c11v {f k : Nat} {z : Int32} (hf : f < 6) (hk : k < 16) (hR : RC σ S) (hm : f * 16 + k ∉ S.2.1) : Ev (d + 3) 11 0 [some (.ref 8), some (.int (nI f)), some (.int (nI k)), some (.int z), none] [] (sC M σ) (fun q9 M' => q9 = .inr 1002 ∧ M' = pm_mk (sC M σ) 6 (.inr (1000, []))) := by
  refine ev_iload_n t_11_0 rfl ?_
  refine ev_iload_n t_11_1 rfl ?_
  refine ev_cl (pm_st_S t_11_2 (Nat.le_of_ble_eq_true rfl) (as := [.int (nI (f)), .int (nI (k))]) (rest := []) (L0 := [some (.int (nI (f))), some (.int (nI (k)))]) rfl rfl (Nat.le_of_ble_eq_true rfl) (Nat.le_of_ble_eq_true rfl) rfl) rfl (c19o hf hk) ?_
  rintro _ _ ⟨rfl, rfl⟩
  change Ev _ _ _ _ ([]) _ _
  refine ev_aload_n t_11_5 rfl ?_
  refine ev_iload_n t_11_6 rfl ?_
  refine ev_bipush t_11_7 ?_
  change Ev _ _ _ _ ([.int (nI (16)), .int (nI (f)), .ref 8]) _ _
  refine ev_imulN t_11_9 ?_
  refine ev_iload_n t_11_10 rfl ?_
  refine ev_iaddN t_11_11 ?_
  exact ev_clt (pm_st_V t_11_12 (as := [.ref 8, .int (nI (((f) * (16)) + (k)))]) (rest := []) (L0 := [some (.ref 8), some (.int (nI (((f) * (16)) + (k))))]) rfl rfl (Nat.le_of_ble_eq_true rfl) (Nat.le_of_ble_eq_true rfl) rfl (es_rc o_MR rfl (Nat.le_of_ble_eq_true rfl))) rfl (c20t (n := f * 16 + k) (by omega) hR hm) rfl (fun M' h => ⟨rfl, h⟩)
def rcV (S : SP) (x : Int32) : Int32 := if x < 0 ∨ nI S.2.1.length ≤ x then -1 else nI (S.2.1.getD x.toNatClampNeg 0)
theorem c12 {x : Int32} (hR : RC σ S) : Ev (d + 1) 12 0 [some (.ref 8), some (.int x)] [] (sC M σ) (fun q9 M' => ∃ v9, q9 = .inl v9 ∧ v9 = some (.int (rcV S x)) ∧ M' = sC M σ) := by
  have hs := hR.2.1.short
  have g2 := hR.2.1.2.2.1
  rcases rng x (e := S.2.1.length) (by omega) with ⟨j, hj, rfl⟩ | hx
  · have ej : ¬ (nI j < 0 ∨ nI S.2.1.length ≤ nI j) := by
      rintro (h | h)
      · exact nI_pos (by omega) h
      · have := (nI_leI (by omega) (by omega)).mp h; omega
    refine ev_iload_n t_12_0 rfl ?_
    refine ev_if_ltN t_12_1 (by omega) (fun h_1 => ?_) (fun h_1 => ?_)
    · exact h_1.elim
    · refine ev_iload_n t_12_4 rfl ?_
      refine ev_aload_n t_12_5 rfl ?_
      refine es_get (x := .ref 20) o_MR t_12_6 rfl ?_
      refine es_get (x := .int (σ (20) 0)) o_RO t_12_9 rfl ?_
      refine ev_top (y := (nI (S.2.1.length))) (by exact g2) ?_
      refine ev_icmp_geN t_12_12 (by omega) (by omega) (fun h_12 => ?_) (fun h_12 => ?_)
      · omega
      · refine ev_aload_n t_12_15 rfl ?_
        refine es_get (x := .ref 20) o_MR t_12_16 rfl ?_
        refine ev_iload_n t_12_19 rfl ?_
        refine ev_cl (pm_st_V t_12_20 (as := [.ref 20, .int (nI (j))]) (rest := []) (L0 := [some (.ref 20), some (.int (nI (j))), none, none]) rfl rfl (Nat.le_of_ble_eq_true rfl) (Nat.le_of_ble_eq_true rfl) rfl (es_rc o_RO rfl (Nat.le_of_ble_eq_true rfl))) rfl (c85 hR.2.1 hj) ?_
        rintro _ _ ⟨rfl, rfl⟩
        change Ev _ _ _ _ ([.int (nI (S.2.1.getD j 0))]) _ _
        refine ev_goto t_12_23 ?_
        exact ev_reti t_12_27 (ri rfl) ⟨_, rfl, by unfold rcV; rw [if_neg ej, nI_clamp (by omega)], rfl⟩
  · refine ev_iload_n t_12_0 rfl ?_
    refine ev_if_lt (y := 0) t_12_1 (fun h_1 => ?_) (fun h_1 => ?_)
    · refine ev_iconst t_12_26 ?_
      change Ev _ _ _ _ ([.int (-1)]) _ _
      exact ev_reti t_12_27 (ri rfl) ⟨_, rfl, by unfold rcV; rw [if_pos (show _ ∨ _ from hx)], rfl⟩
    · refine ev_iload_n t_12_4 rfl ?_
      refine ev_aload_n t_12_5 rfl ?_
      refine es_get (x := .ref 20) o_MR t_12_6 rfl ?_
      refine es_get (x := .int (σ (20) 0)) o_RO t_12_9 rfl ?_
      refine ev_top (y := (nI S.2.1.length)) (by exact g2) ?_
      refine ev_icmp_ge t_12_12 (fun h_12 => ?_) (fun h_12 => ?_)
      · refine ev_iconst t_12_26 ?_
        change Ev _ _ _ _ ([.int (-1)]) _ _
        exact ev_reti t_12_27 (ri rfl) ⟨_, rfl, by unfold rcV; rw [if_pos (show _ ∨ _ from hx)], rfl⟩
      · (rcases hx with h | h; exact absurd h h_1; exact absurd h h_12)
def coV (S : SP) (x : Int32) : Int32 := if x = 0 then S.1 17 0 else if x = 1 then S.1 8 11 else if x = 2 then S.1 8 12 else if x = 3 then S.1 8 13 else if x = 4 then S.1 8 14 else if x = 5 then nI S.2.1.length else -1
theorem c8 {x : Int32} (hR : RC σ S) : Ev d 8 0 [some (.ref 8), some (.int x)] [] (sC M σ) (fun q9 M' => ∃ v9, q9 = .inl v9 ∧ v9 = some (.int (coV S x)) ∧ M' = sC M σ) := by
  have g2 := hR.2.1.2.2.1
  have e17 : σ 17 0 = S.1 17 0 := hR.1 _ _ (by unfold Dk; omega)
  have gr := fun j (hj : j ≠ 10) => hR.1 8 j (by unfold Dk; omega)
  refine ev_iload_n t_8_0 rfl ?_
  refine ev_switch t_8_1 (fun k9 hk9 hx9 => ?_) (fun hx9 => ?_)
  · rcases (show k9 = 0 ∨ k9 = 1 ∨ k9 = 2 ∨ k9 = 3 ∨ k9 = 4 ∨ k9 = 5 by simp at hk9; omega) with rfl | rfl | rfl | rfl | rfl | rfl
    · refine ev_aload_n t_8_40 rfl ?_
      refine es_get (x := .ref 17) o_MR t_8_41 rfl ?_
      refine es_get (x := .int (σ (17) 0)) o_Ed t_8_44 rfl ?_
      exact ev_reti t_8_47 (ri rfl) ⟨_, rfl, by rw [hx9, e17]; rfl, rfl⟩
    · refine ev_aload_n t_8_48 rfl ?_
      refine es_get (x := .int (σ (8) 11)) o_MR t_8_49 rfl ?_
      exact ev_reti t_8_52 (ri rfl) ⟨_, rfl, by rw [hx9, gr 11 (by decide)]; rfl, rfl⟩
    · refine ev_aload_n t_8_53 rfl ?_
      refine es_get (x := .int (σ (8) 12)) o_MR t_8_54 rfl ?_
      exact ev_reti t_8_57 (ri rfl) ⟨_, rfl, by rw [hx9, gr 12 (by decide)]; rfl, rfl⟩
    · refine ev_aload_n t_8_58 rfl ?_
      refine es_get (x := .int (σ (8) 13)) o_MR t_8_59 rfl ?_
      exact ev_reti t_8_62 (ri rfl) ⟨_, rfl, by rw [hx9, gr 13 (by decide)]; rfl, rfl⟩
    · refine ev_aload_n t_8_63 rfl ?_
      refine es_get (x := .int (σ (8) 14)) o_MR t_8_64 rfl ?_
      exact ev_reti t_8_67 (ri rfl) ⟨_, rfl, by rw [hx9, gr 14 (by decide)]; rfl, rfl⟩
    · refine ev_aload_n t_8_68 rfl ?_
      refine es_get (x := .ref 20) o_MR t_8_69 rfl ?_
      refine es_get (x := .int (σ (20) 0)) o_RO t_8_72 rfl ?_
      exact ev_reti t_8_75 (ri rfl) ⟨_, rfl, by rw [hx9, g2]; rfl, rfl⟩
  · refine ev_iconst t_8_76 ?_
    change Ev _ _ _ _ ([.int (-1)]) _ _
    have hz : ∀ k : Nat, k < 6 → x ≠ nI k := fun k hk e => by
      rw [e] at hx9
      rcases hx9 with h | h
      · exact nI_pos (by omega) h
      · rw [nI_clamp (by omega)] at h; simp at h; omega
    exact ev_reti t_8_77 (ri rfl) ⟨_, rfl, by unfold coV; rw [if_neg (show ¬ x = 0 from hz 0 (by omega)), if_neg (show ¬ x = 1 from hz 1 (by omega)), if_neg (show ¬ x = 2 from hz 2 (by omega)), if_neg (show ¬ x = 3 from hz 3 (by omega)), if_neg (show ¬ x = 4 from hz 4 (by omega)), if_neg (show ¬ x = 5 from hz 5 (by omega))], rfl⟩
end QU
