/-! The reference: define, no fault. -/
theorem RM_df {τ τ2 : Nat → Nat → Int32} {S : SP} {ck f : Nat} {G' : Nat → Nat → Int32} {T : Nat → List Nat} {dr : List Nat} (hR : RM τ S ck) (hX : MX τ T) (hf : f < 6) (hT : ∀ g, g < 6 → (T g).length ≤ 24) (hl : dr.length ≤ 24) (hG : ∀ q k, (q = 8 ∨ (12 ≤ q ∧ q ≤ 18)) → G' q k = S.1 q k) (k0 : ∀ q k, q ≠ 372 → q ≠ 373 → q ≠ 379 → (q = 370 → k ≠ 0 ∧ k ≠ 2) → τ2 q k = τ q k) (k1 : ∀ j, j < dr.length → τ2 372 (24 * f + j) = nI (dr.getD j 0)) (k2 : ∀ j, (j < 24 * f ∨ 24 * f + dr.length ≤ j) → τ2 372 j = τ 372 j) (k3 : τ2 373 f = nI dr.length) (k4 : ∀ g, g ≠ f → τ2 373 g = τ 373 g) (k5 : τ2 370 2 = 0) (k6 : τ2 370 0 = 0) (k7 : ∀ n, n < 96 → τ2 379 n = 0) : RM τ2 (G', [], S.2.2) ck ∧ MX τ2 (fun g => if g = f then dr else T g) ∧ MD τ2 [] ∧ τ2 370 0 = 0 := by
  obtain ⟨⟨⟨a1, a2, a3, a4, a5, a6⟩, b, c, e⟩, g2, g3, ⟨st, s1, -, -⟩, -⟩ := hR
  refine ⟨⟨⟨⟨?_, ?_, ?_, ?_, ?_, ?_⟩, fun k hk => ⟨?_, ?_⟩, fun k hk => ⟨?_, ?_⟩, fun k hk => ?_⟩, fun n hn => ?_, fun n hn => (by cases hn), ⟨st, ?_, fun n hn => (by cases hn), List.Pairwise.nil⟩, List.nodup_nil, fun n hn => (by cases hn)⟩, fun g hg => ⟨?_, fun i hi => ?_⟩, ⟨k5, fun i hi => ?_⟩, k6⟩
  · dsimp only; rw [k0 _ _ (by omega) (by omega) (by omega) (by omega), hG _ _ (by omega)]; exact a1
  · dsimp only; rw [k0 _ _ (by omega) (by omega) (by omega) (by omega), hG _ _ (by omega)]; exact a2
  · dsimp only; rw [k0 _ _ (by omega) (by omega) (by omega) (by omega), hG _ _ (by omega)]; exact a3
  · dsimp only; rw [k0 _ _ (by omega) (by omega) (by omega) (by omega), hG _ _ (by omega)]; exact a4
  · dsimp only; rw [k0 _ _ (by omega) (by omega) (by omega) (by omega), hG _ _ (by omega)]; exact a5
  · dsimp only; rw [k0 _ _ (by omega) (by omega) (by omega) (by omega), hG _ _ (by omega)]; exact a6
  · dsimp only; rw [k0 _ _ (by omega) (by omega) (by omega) (by omega), hG _ _ (by omega)]; exact (b k hk).1
  · dsimp only; rw [k0 _ _ (by omega) (by omega) (by omega) (by omega), hG _ _ (by omega)]; exact (b k hk).2
  · dsimp only; rw [k0 _ _ (by omega) (by omega) (by omega) (by omega), hG _ _ (by omega)]; exact (c k hk).1
  · dsimp only; rw [k0 _ _ (by omega) (by omega) (by omega) (by omega), hG _ _ (by omega)]; exact (c k hk).2
  · dsimp only; rw [k0 _ _ (by omega) (by omega) (by omega) (by omega), hG _ _ (by omega)]; exact e k hk
  · rw [k7 n hn, decide_eq_false (by simp)]; rfl
  · rw [k0 _ _ (by omega) (by omega) (by omega) (by omega)]; exact s1
  · dsimp only
    by_cases h : g = f
    · subst h; rw [if_pos rfl]; exact k3
    · rw [if_neg h, k4 g h]; exact (hX g hg).1
  · dsimp only at hi ⊢
    by_cases h : g = f
    · subst h; rw [if_pos rfl] at hi ⊢; exact k1 i hi
    · rw [if_neg h] at hi ⊢
      have := hT g hg
      rw [k2 _ (by omega)]; exact (hX g hg).2 i hi
  · simp at hi
section MZ2
variable {d : Nat} {M : pm_M} {τ : Nat → Nat → Int32} {S : SP} {ck : Nat}
theorem m45o {f : Nat} {dr : List Nat} {T : Nat → List Nat} {G' : Nat → Nat → Int32} (hf : f < 6) (hl : dr.length ≤ 24) (h256 : ∀ c ∈ dr, c < 256) (hD : MD τ dr) (hX : MX τ T) (hT : ∀ g, g < 6 → (T g).length ≤ 24) (hR : RM τ S ck) (hG : ∀ q k, (q = 8 ∨ (12 ≤ q ∧ q ≤ 18)) → G' q k = S.1 q k) (hx : flt dr 1 0 = none) : Ev (d + 1) 45 0 [some (.ref 370), some (.int (nI f)), none, none] [] (sM M τ) (fun q9 M' => ∃ v9, q9 = .inl v9 ∧ v9 = some (.int (-1)) ∧ ∃ τ', M' = sM M τ' ∧ RM τ' (G', [], S.2.2) ck ∧ MX τ' (fun g => if g = f then dr else T g) ∧ MD τ' [] ∧ τ' 370 0 = 0) := by
  have hD1 : MD (u2 τ 370 0 0) dr := ⟨by rw [u2_off (by omega)]; exact hD.1, fun i hi => by rw [u2_off (by omega)]; exact hD.2 i hi⟩
  have c119 : ∀ τ1, (∀ q, q ≠ 372 → τ1 q = u2 τ 370 0 0 q) → (∀ j, j < dr.length → 0 ≤ j → τ1 372 (24 * f + j) = nI (dr.getD j 0)) → (∀ j, (j < 24 * f + 0 ∨ 24 * f + dr.length ≤ j) → τ1 372 j = u2 τ 370 0 0 372 j) → Ev (d + 1) 45 119 [some (.ref 370), some (.int (nI f)), some (.int (nI 0)), some (.int (nI dr.length))] [] (sM M τ1) (fun q9 M' => ∃ v9, q9 = .inl v9 ∧ v9 = some (.int (-1)) ∧ ∃ τ', M' = sM M τ' ∧ RM τ' (G', [], S.2.2) ck ∧ MX τ' (fun g => if g = f then dr else T g) ∧ MD τ' [] ∧ τ' 370 0 = 0) := by
    intro τ1 j1 j2 j3
    have e2 : τ1 370 2 = nI dr.length := by rw [j1 370 (by omega)]; exact hD1.1
    obtain ⟨τ2, hc, i1, i2⟩ := m44 (d := d) (M := M) (τ := (u2 (u2 τ1 (373) (f) (nI (dr.length))) (370) 2 (nI (0))))
    have hF := RM_df (τ := τ) (τ2 := τ2) hR hX hf hT hl hG (fun q k h1 h2 h3 h4 => by rw [i1 q h3, u2_off (by omega), u2_off (by omega), j1 q h1, u2_off (by omega)]) (fun j hj => by rw [i1 _ (by omega), u2_off (by omega), u2_off (by omega)]; exact j2 j hj (by omega)) (fun j hj => by rw [i1 _ (by omega), u2_off (by omega), u2_off (by omega), j3 j (by omega), u2_off (by omega)]) (by rw [i1 _ (by omega), u2_off (by omega), u2_at]) (fun g hg => by rw [i1 _ (by omega), u2_off (by omega), u2_off (by omega), j1 _ (by omega), u2_off (by omega)]) (by rw [i1 _ (by omega), u2_at]; rfl) (by rw [i1 _ (by omega), u2_off (by omega), u2_off (by omega), j1 _ (by omega), u2_at]) i2
    refine ev_aload_n t_45_119 rfl ?_
    refine es_get (x := .ref 373) o_MO t_45_120 rfl ?_
    refine ev_iload_n t_45_123 rfl ?_
    refine ev_aload_n t_45_124 rfl ?_
    refine es_get (x := .int (τ1 (370) 2)) o_MO t_45_125 rfl ?_
    refine ev_top (y := (nI (dr.length))) (by exact e2) ?_
    refine es_iast (k := f) a_m373 t_45_128 (by omega) ?_
    refine ev_aload_n t_45_129 rfl ?_
    refine ev_iconst t_45_130 ?_
    change Ev _ _ _ _ ([.int (nI (0)), .ref 370]) _ _
    refine es_put o_MO t_45_131 rfl (Nat.le_of_ble_eq_true rfl) rfl ?_
    refine ev_aload_n t_45_134 rfl ?_
    refine ev_cl (pm_st_V t_45_135 (as := [.ref 370]) (rest := []) (L0 := [some (.ref 370), none]) rfl rfl (Nat.le_of_ble_eq_true rfl) (Nat.le_of_ble_eq_true rfl) rfl (es_rc o_MO rfl (Nat.le_of_ble_eq_true rfl))) rfl (hc) ?_
    rintro _ _ ⟨rfl, rfl⟩
    change Ev _ _ _ _ ([]) _ _
    refine ev_iconst t_45_138 ?_
    change Ev _ _ _ _ ([.int (-1)]) _ _
    exact ev_reti t_45_139 (ri rfl) ⟨_, rfl, rfl, _, rfl, hF⟩
  have c9 := m45l (d := d) (M := M) (f := f) (Q := (fun q9 M' => ∃ v9, q9 = .inl v9 ∧ v9 = some (.int (-1)) ∧ ∃ τ', M' = sM M τ' ∧ RM τ' (G', [], S.2.2) ck ∧ MX τ' (fun g => if g = f then dr else T g) ∧ MD τ' [] ∧ τ' 370 0 = 0)) hl h256 hD1 (fun j hj _ => by
    rw [hx] at hj
    cases hj) (fun due hdue h49 => by
    obtain rfl : due = 0 := Decidable.byContradiction fun e => by (rw [hx, if_neg e] at hdue; cases hdue)
    refine ev_iload_n t_45_77 rfl ?_
    refine ev_if_leN t_45_78 (by omega) (fun h_78 => ?_) (fun h_78 => ?_)
    · refine ev_iconst t_45_86 ?_
      change Ev _ _ _ _ ([.int (nI (0))]) _ _
      refine ev_istore_n (L' := [some (.ref 370), some (.int (nI (f))), some (.int (nI (0))), some (.int (nI (0)))]) t_45_87 (Nat.le_of_ble_eq_true rfl) rfl ?_
      exact m45c hf hl dr.length 0 _ (by omega) hD1 c119
    · omega) dr.length 0 1 (by omega) (by omega) rfl
  refine ev_aload_n t_45_0 rfl ?_
  refine ev_iload_n t_45_1 rfl ?_
  refine ev_if_ltN t_45_2 (by omega) (fun h_2 => ?_) (fun h_2 => ?_)
  · exact h_2.elim
  · refine ev_iload_n t_45_5 rfl ?_
    refine ev_iconst t_45_6 ?_
    change Ev _ _ _ _ ([.int (nI (5)), .int (nI (f)), .ref 370]) _ _
    refine ev_icmp_leN t_45_7 (by omega) (by omega) (fun h_7 => ?_) (fun h_7 => ?_)
    · refine ev_iconst t_45_14 ?_
      change Ev _ _ _ _ ([.int (nI (0)), .ref 370]) _ _
      refine es_put o_MO t_45_15 rfl (Nat.le_of_ble_eq_true rfl) rfl ?_
      refine ev_aload_n t_45_18 rfl ?_
      refine es_get (x := .int ((u2 τ (370) 0 (nI (0))) (370) 0)) o_MO t_45_19 rfl ?_
      refine ev_top (y := (nI (0))) (by first | exact u2_at) ?_
      refine ev_if_leN t_45_22 (by omega) (fun h_22 => ?_) (fun h_22 => ?_)
      · refine ev_iconst t_45_27 ?_
        change Ev _ _ _ _ ([.int (nI (1))]) _ _
        refine ev_istore_n (L' := [some (.ref 370), some (.int (nI (f))), some (.int (nI (1))), none]) t_45_28 (Nat.le_of_ble_eq_true rfl) rfl ?_
        refine ev_iconst t_45_29 ?_
        change Ev _ _ _ _ ([.int (nI (0))]) _ _
        refine ev_istore_n (L' := [some (.ref 370), some (.int (nI (f))), some (.int (nI (1))), some (.int (nI (0)))]) t_45_30 (Nat.le_of_ble_eq_true rfl) rfl ?_
        exact c9
      · exact absurd rfl h_22
    · omega
end MZ2
