/-! The reference: questions and smaller changes. -/
def FrJ (τ τ' : Nat → Nat → Int32) : Prop := (∀ q, 371 ≤ q → q ≤ 373 → τ' q = τ q) ∧ τ' 370 2 = τ 370 2
theorem FrJ.rfl {τ : Nat → Nat → Int32} : FrJ τ τ := ⟨fun _ _ _ => Eq.refl _, Eq.refl _⟩
theorem FrJ.trans {τ τ' τ'' : Nat → Nat → Int32} (h : FrJ τ τ') (h' : FrJ τ' τ'') : FrJ τ τ'' := ⟨fun q a b => (h'.1 q a b).trans (h.1 q a b), h'.2.trans h.2⟩
theorem FrJ.u {τ : Nat → Nat → Int32} {q k : Nat} {x : Int32} (h1 : ¬ (371 ≤ q ∧ q ≤ 373)) (h2 : q ≠ 370 ∨ k ≠ 2) : FrJ τ (u2 τ q k x) := ⟨fun p _ _ => u2_ne (by omega), u2_off (by omega)⟩
theorem FrJ.h {τ τ' : Nat → Nat → Int32} (h : ∀ q, q ≠ 379 → τ' q = τ q) : FrJ τ τ' := ⟨fun q _ _ => h q (by omega), by rw [h 370 (by omega)]⟩
section MM
variable {d : Nat} {M : pm_M} {τ : Nat → Nat → Int32} {S : SP} {ck : Nat}
theorem RM_t {x : Int32} (h : RM τ S ck) : RM (u2 τ 370 0 x) S ck := RM_n h (by omega) (by omega)

theorem m69o {f k : Nat} (hf : f < 6) (hk : k < 16) (hR : RM τ S ck) : Ev (d + 2) 69 0 [some (.ref 370), some (.int (nI f)), some (.int (nI k))] [] (sM M τ) (fun q9 M' => ∃ v9, q9 = .inl v9 ∧ v9 = some (.int (bI (decide (16 * f + k ∈ S.2.1)))) ∧ ∃ τ', M' = sM M τ' ∧ RM τ' S ck ∧ τ' 370 0 = 0 ∧ FrJ τ τ') := by
  have eh := hR.2.1 (16 * f + k) (by omega)
  refine ev_aload_n t_69_0 rfl ?_
  refine ev_iload_n t_69_1 rfl ?_
  refine ev_iload_n t_69_2 rfl ?_
  refine ev_cl (pm_st_S t_69_3 (Nat.le_of_ble_eq_true rfl) (as := [.int (nI (f)), .int (nI (k))]) (rest := [.ref 370]) (L0 := [some (.int (nI (f))), some (.int (nI (k)))]) rfl rfl (Nat.le_of_ble_eq_true rfl) (Nat.le_of_ble_eq_true rfl) rfl) rfl (m63o hf hk) ?_
  rintro _ _ ⟨rfl, rfl⟩
  change Ev _ _ _ _ ([.int (nI (0)), .ref 370]) _ _
  refine ev_if_eqN t_69_6 (by omega) (fun h_6 => ?_) (fun h_6 => ?_)
  · refine ev_iconst t_69_13 ?_
    change Ev _ _ _ _ ([.int (nI (0)), .ref 370]) _ _
    refine es_put o_MO t_69_14 rfl (Nat.le_of_ble_eq_true rfl) rfl ?_
    refine ev_aload_n t_69_17 rfl ?_
    refine es_get (x := .int ((u2 τ (370) 0 (nI (0))) (370) 0)) o_MO t_69_18 rfl ?_
    refine ev_top (y := (nI (0))) (by first | exact u2_at) ?_
    refine ev_if_neN t_69_21 (by omega) (fun h_21 => ?_) (fun h_21 => ?_)
    · exact absurd rfl h_21
    · refine ev_aload_n t_69_24 rfl ?_
      refine es_get (x := .ref 379) o_MO t_69_25 rfl ?_
      refine ev_bipush t_69_28 ?_
      change Ev _ _ _ _ ([.int (nI (16)), .ref 379]) _ _
      refine ev_iload_n t_69_30 rfl ?_
      refine ev_imulN t_69_31 ?_
      refine ev_iload_n t_69_32 rfl ?_
      refine ev_iaddN t_69_33 ?_
      refine es_zald (k := ((16) * (f)) + (k)) a_m379 t_69_34 (by omega) ?_
      refine ev_top (y := (bI (decide (16 * f + k ∈ S.2.1)))) (by rw [u2_off (by omega)]; exact eh) ?_
      refine ev_if_eq (y := 0) t_69_35 (fun h_35 => ?_) (fun h_35 => ?_)
      · refine ev_iconst t_69_42 ?_
        change Ev _ _ _ _ ([.int (nI (0))]) _ _
        exact ev_reti t_69_43 (rz rfl (by decide)) ⟨_, rfl, by rw [decide_eq_false (bI_d0.mp h_35)]; rfl, _, rfl, RM_t hR, u2_at, FrJ.u (by omega) (by omega)⟩
      · refine ev_iconst t_69_38 ?_
        change Ev _ _ _ _ ([.int (nI (1))]) _ _
        refine ev_goto t_69_39 ?_
        exact ev_reti t_69_43 (rz rfl (by decide)) ⟨_, rfl, by rw [decide_eq_true (Decidable.byContradiction fun h => h_35 (bI_d0.mpr h))]; rfl, _, rfl, RM_t hR, u2_at, FrJ.u (by omega) (by omega)⟩
  · exact absurd rfl h_6
theorem m69t {x y : Int32} (h : BAD 6 x ∨ BAD 16 y) (hR : RM τ S ck) : Ev (d + 2) 69 0 [some (.ref 370), some (.int x), some (.int y)] [] (sM M τ) (fun q9 M' => ∃ v9, q9 = .inl v9 ∧ v9 = some (.int 0) ∧ ∃ τ', M' = sM M τ' ∧ RM τ' S ck ∧ τ' 370 0 = 1 ∧ FrJ τ τ') := by
  refine ev_aload_n t_69_0 rfl ?_
  refine ev_iload_n t_69_1 rfl ?_
  refine ev_iload_n t_69_2 rfl ?_
  refine ev_cl (pm_st_S t_69_3 (Nat.le_of_ble_eq_true rfl) (as := [.int x, .int y]) (rest := [.ref 370]) (L0 := [some (.int x), some (.int y)]) rfl rfl (Nat.le_of_ble_eq_true rfl) (Nat.le_of_ble_eq_true rfl) rfl) rfl (m63t h) ?_
  rintro _ _ ⟨rfl, rfl⟩
  change Ev _ _ _ _ ([.int (nI (1)), .ref 370]) _ _
  refine ev_if_eqN t_69_6 (by omega) (fun h_6 => ?_) (fun h_6 => ?_)
  · omega
  · refine ev_iconst t_69_9 ?_
    change Ev _ _ _ _ ([.int (nI (1)), .ref 370]) _ _
    refine ev_goto t_69_10 ?_
    refine es_put o_MO t_69_14 rfl (Nat.le_of_ble_eq_true rfl) rfl ?_
    refine ev_aload_n t_69_17 rfl ?_
    refine es_get (x := .int ((u2 τ (370) 0 (nI (1))) (370) 0)) o_MO t_69_18 rfl ?_
    refine ev_top (y := (nI (1))) (by first | exact u2_at) ?_
    refine ev_if_neN t_69_21 (by omega) (fun h_21 => ?_) (fun h_21 => ?_)
    · refine ev_iconst t_69_42 ?_
      change Ev _ _ _ _ ([.int (nI (0))]) _ _
      exact ev_reti t_69_43 (rz rfl (by decide)) ⟨_, rfl, rfl, _, rfl, RM_t hR, u2_at, FrJ.u (by omega) (by omega)⟩
    · omega
theorem m74o {f k : Nat} (hf : f < 6) (hk : k < 16) (hR : RM τ S ck) : Ev (d + 2) 74 0 [some (.ref 370), some (.int (nI f)), some (.int (nI k)), none] [] (sM M τ) (fun q9 M' => ∃ v9, q9 = .inl v9 ∧ v9 = some (.int (bI (decide (16 * f + k ∈ S.2.1)))) ∧ ∃ τ', M' = sM M τ' ∧ RM τ' (S.1, S.2.1.erase (16 * f + k), S.2.2) ck ∧ τ' 370 0 = 0 ∧ FrJ τ τ') := by
  have eh := hR.2.1 (16 * f + k) (by omega)
  refine ev_aload_n t_74_0 rfl ?_
  refine ev_iload_n t_74_1 rfl ?_
  refine ev_iload_n t_74_2 rfl ?_
  refine ev_cl (pm_st_S t_74_3 (Nat.le_of_ble_eq_true rfl) (as := [.int (nI (f)), .int (nI (k))]) (rest := [.ref 370]) (L0 := [some (.int (nI (f))), some (.int (nI (k)))]) rfl rfl (Nat.le_of_ble_eq_true rfl) (Nat.le_of_ble_eq_true rfl) rfl) rfl (m63o hf hk) ?_
  rintro _ _ ⟨rfl, rfl⟩
  change Ev _ _ _ _ ([.int (nI (0)), .ref 370]) _ _
  refine ev_if_eqN t_74_6 (by omega) (fun h_6 => ?_) (fun h_6 => ?_)
  · refine ev_iconst t_74_13 ?_
    change Ev _ _ _ _ ([.int (nI (0)), .ref 370]) _ _
    refine es_put o_MO t_74_14 rfl (Nat.le_of_ble_eq_true rfl) rfl ?_
    refine ev_aload_n t_74_17 rfl ?_
    refine es_get (x := .int ((u2 τ (370) 0 (nI (0))) (370) 0)) o_MO t_74_18 rfl ?_
    refine ev_top (y := (nI (0))) (by first | exact u2_at) ?_
    refine ev_if_leN t_74_21 (by omega) (fun h_21 => ?_) (fun h_21 => ?_)
    · refine ev_aload_n t_74_26 rfl ?_
      refine es_get (x := .ref 379) o_MO t_74_27 rfl ?_
      refine ev_bipush t_74_30 ?_
      change Ev _ _ _ _ ([.int (nI (16)), .ref 379]) _ _
      refine ev_iload_n t_74_32 rfl ?_
      refine ev_imulN t_74_33 ?_
      refine ev_iload_n t_74_34 rfl ?_
      refine ev_iaddN t_74_35 ?_
      refine es_zald (k := ((16) * (f)) + (k)) a_m379 t_74_36 (by omega) ?_
      refine ev_top (y := (bI (decide (16 * f + k ∈ S.2.1)))) (by rw [u2_off (by omega)]; exact eh) ?_
      refine ev_istore_n (L' := [some (.ref 370), some (.int (nI (f))), some (.int (nI (k))), some (.int (bI (decide (16 * f + k ∈ S.2.1))))]) t_74_37 (Nat.le_of_ble_eq_true rfl) rfl ?_
      refine ev_aload_n t_74_38 rfl ?_
      refine es_get (x := .ref 379) o_MO t_74_39 rfl ?_
      refine ev_bipush t_74_42 ?_
      change Ev _ _ _ _ ([.int (nI (16)), .ref 379]) _ _
      refine ev_iload_n t_74_44 rfl ?_
      refine ev_imulN t_74_45 ?_
      refine ev_iload_n t_74_46 rfl ?_
      refine ev_iaddN t_74_47 ?_
      refine ev_iconst t_74_48 ?_
      change Ev _ _ _ _ ([.int (nI (0)), .int (nI (((16) * (f)) + (k))), .ref 379]) _ _
      refine es_zast (k := ((16) * (f)) + (k)) (y := 0) a_m379 t_74_49 (by omega) (rfl) ?_
      refine ev_iload_n t_74_50 rfl ?_
      exact ev_reti t_74_51 (rz rfl (bI_01 _)) ⟨_, rfl, rfl, _, rfl, RM_rm (RM_t hR), (by rw [u2_off (by omega), u2_at]; rfl), (FrJ.u (by omega) (by omega)).trans (FrJ.u (by omega) (by omega))⟩
    · exact absurd rfl h_21
  · exact absurd rfl h_6
theorem m74t {x y : Int32} (h : BAD 6 x ∨ BAD 16 y) (hR : RM τ S ck) : Ev (d + 2) 74 0 [some (.ref 370), some (.int x), some (.int y), none] [] (sM M τ) (fun q9 M' => ∃ v9, q9 = .inl v9 ∧ v9 = some (.int 0) ∧ ∃ τ', M' = sM M τ' ∧ RM τ' S ck ∧ τ' 370 0 = 1 ∧ FrJ τ τ') := by
  refine ev_aload_n t_74_0 rfl ?_
  refine ev_iload_n t_74_1 rfl ?_
  refine ev_iload_n t_74_2 rfl ?_
  refine ev_cl (pm_st_S t_74_3 (Nat.le_of_ble_eq_true rfl) (as := [.int x, .int y]) (rest := [.ref 370]) (L0 := [some (.int x), some (.int y)]) rfl rfl (Nat.le_of_ble_eq_true rfl) (Nat.le_of_ble_eq_true rfl) rfl) rfl (m63t h) ?_
  rintro _ _ ⟨rfl, rfl⟩
  change Ev _ _ _ _ ([.int (nI (1)), .ref 370]) _ _
  refine ev_if_eqN t_74_6 (by omega) (fun h_6 => ?_) (fun h_6 => ?_)
  · omega
  · refine ev_iconst t_74_9 ?_
    change Ev _ _ _ _ ([.int (nI (1)), .ref 370]) _ _
    refine ev_goto t_74_10 ?_
    refine es_put o_MO t_74_14 rfl (Nat.le_of_ble_eq_true rfl) rfl ?_
    refine ev_aload_n t_74_17 rfl ?_
    refine es_get (x := .int ((u2 τ (370) 0 (nI (1))) (370) 0)) o_MO t_74_18 rfl ?_
    refine ev_top (y := (nI (1))) (by first | exact u2_at) ?_
    refine ev_if_leN t_74_21 (by omega) (fun h_21 => ?_) (fun h_21 => ?_)
    · omega
    · refine ev_iconst t_74_24 ?_
      change Ev _ _ _ _ ([.int (nI (0))]) _ _
      exact ev_reti t_74_25 (rz rfl (by decide)) ⟨_, rfl, rfl, _, rfl, RM_t hR, u2_at, FrJ.u (by omega) (by omega)⟩
theorem m72 {x : Int32} (hck : ck < 2 ^ 31) (hR : RM τ S ck) : Ev (d + 1) 72 0 [some (.ref 370), some (.int x)] [] (sM M τ) (fun q9 M' => ∃ v9, q9 = .inl v9 ∧ v9 = some (.int (rcV S x)) ∧ ∃ τ', M' = sM M τ' ∧ RM τ' S ck ∧ τ' 370 0 = 0 ∧ FrJ τ τ') := by
  have hl : S.2.1.length ≤ 96 := nd_len 96 _ hR.2.2.2.2.1 hR.2.2.2.2.2
  by_cases h0 : x < 0
  · have e : rcV S x = -1 := by unfold rcV; rw [if_pos (Or.inl h0)]
    rw [e]
    refine ev_aload_n t_72_0 rfl ?_
    refine ev_iconst t_72_1 ?_
    change Ev _ _ _ _ ([.int (nI (0)), .ref 370]) _ _
    refine es_put o_MO t_72_2 rfl (Nat.le_of_ble_eq_true rfl) rfl ?_
    refine ev_iload_n t_72_5 rfl ?_
    refine ev_if_ge (y := 0) t_72_6 (fun h_6 => ?_) (fun h_6 => ?_)
    · exact absurd h0 (Int32.not_lt.mpr h_6)
    · refine ev_iconst t_72_9 ?_
      change Ev _ _ _ _ ([.int (-1)]) _ _
      refine ev_goto t_72_10 ?_
      exact ev_reti t_72_18 (ri rfl) ⟨_, rfl, rfl, _, rfl, RM_t hR, u2_at, FrJ.u (by omega) (by omega)⟩
  · obtain ⟨i, hi, rfl⟩ := nI_of h0
    have e : rcV S (nI i) = if i < S.2.1.length then nI (S.2.1.getD i 0) else -1 := by
      unfold rcV
      by_cases h : i < S.2.1.length
      · rw [if_pos h, if_neg, nI_clamp hi]
        rintro (h2 | h2)
        · exact h0 h2
        · have := (nI_leI (by omega) hi).mp h2; omega
      · rw [if_neg h, if_pos (Or.inr ((nI_leI (by omega) hi).mpr (by omega)))]
    rw [e]
    have c65 := m65 (d := d) (M := M) (RM_t (x := 0) hR) hck hi
    refine ev_aload_n t_72_0 rfl ?_
    refine ev_iconst t_72_1 ?_
    change Ev _ _ _ _ ([.int (nI (0)), .ref 370]) _ _
    refine es_put o_MO t_72_2 rfl (Nat.le_of_ble_eq_true rfl) rfl ?_
    refine ev_iload_n t_72_5 rfl ?_
    refine ev_if_geN t_72_6 (by omega) (fun h_6 => ?_) (fun h_6 => ?_)
    · refine ev_aload_n t_72_13 rfl ?_
      refine ev_iload_n t_72_14 rfl ?_
      refine ev_cl (pm_st_V t_72_15 (as := [.ref 370, .int (nI (i))]) (rest := []) (L0 := [some (.ref 370), some (.int (nI (i))), none, none, none]) rfl rfl (Nat.le_of_ble_eq_true rfl) (Nat.le_of_ble_eq_true rfl) rfl (es_rc o_MO rfl (Nat.le_of_ble_eq_true rfl))) rfl (c65) ?_
      rintro _ _ ⟨rfl, rfl⟩
      change Ev _ _ _ _ ([.int (if i < S.2.1.length then nI (S.2.1.getD i 0) else -1)]) _ _
      exact ev_reti t_72_18 (ri rfl) ⟨_, rfl, rfl, _, rfl, RM_t hR, u2_at, FrJ.u (by omega) (by omega)⟩
    · exact h_6.elim
theorem m73o {n : Nat} (h1 : 1 ≤ n) (h2 : n < 97) (hck : ck < 2 ^ 31) (hR : RM τ S ck) : Ev (d + 2) 73 0 [some (.ref 370), some (.int (nI n))] [] (sM M τ) (fun q9 M' => ∃ v9, q9 = .inl v9 ∧ v9 = some (.int (nI (S.2.1.length - n))) ∧ ∃ τ', M' = sM M τ' ∧ RM τ' (u2 S.1 8 7 (nI n), S.2.1.drop (S.2.1.length - n), S.2.2) ck ∧ τ' 370 0 = 0 ∧ FrJ τ τ') := by
  have hR2 : RM (u2 (u2 τ 370 0 0) 370 21 (nI n)) (u2 S.1 8 7 (nI n), S.2.1, S.2.2) ck := by
    obtain ⟨⟨⟨a1, a2, a3, a4, a5, a6⟩, b, c, e⟩, g2, g3, ⟨st, g4, g5, g6⟩, g7⟩ := RM_t (x := 0) hR
    have ar : ∀ p, p ≠ 370 → u2 (u2 τ 370 0 0) 370 21 (nI n) p = u2 τ 370 0 0 p := fun p h => u2_ne h
    refine ⟨⟨⟨?_, ?_, ?_, ?_, ?_, ?_⟩, ?_, ?_, ?_⟩, ?_, ?_, ⟨st, ?_, ?_, g6⟩, g7⟩
    · rw [u2_off (by omega)]; dsimp only; rw [u2_off (q := 17) (by omega)]; exact a1
    · dsimp only; rw [u2_at, u2_at]
    · rw [u2_off (by omega)]; dsimp only; rw [u2_off (q := 8) (by omega)]; exact a3
    · rw [u2_off (by omega)]; dsimp only; rw [u2_off (q := 8) (by omega)]; exact a4
    · rw [u2_off (by omega)]; dsimp only; rw [u2_off (q := 8) (by omega)]; exact a5
    · rw [u2_off (by omega)]; dsimp only; rw [u2_off (q := 8) (by omega)]; exact a6
    · intro k hk
      dsimp only
      rw [ar 374 (by omega), ar 375 (by omega), u2_off (q := 14) (by omega), u2_off (q := 15) (by omega)]; exact b k hk
    · intro k hk
      dsimp only
      rw [ar 376 (by omega), ar 378 (by omega), u2_off (q := 16) (by omega), u2_off (q := 18) (by omega)]; exact c k hk
    · intro k hk
      dsimp only
      rw [ar 377 (by omega), u2_off (q := 12) (by omega)]; exact e k hk
    · rw [ar 379 (by omega)]; exact g2
    · intro m hm
      have := g3 m hm
      unfold MC at this ⊢
      dsimp only
      rw [ar 380 (by omega), ar 381 (by omega), ar 382 (by omega), ar 383 (by omega), ar 384 (by omega), ar 385 (by omega), ar 386 (by omega), u2_ne (q := 38 + 2 * m) (by omega)]
      exact this
    · rw [u2_off (by omega)]; exact g4
    · rw [ar 387 (by omega)]; exact g5
  have c66 := m66 (d := d) (M := M) h2 hck (show u2 S.1 8 7 (nI n) 8 7 = nI n from u2_at) hR2
  refine ev_aload_n t_73_0 rfl ?_
  refine ev_iload_n t_73_1 rfl ?_
  refine ev_iconst t_73_2 ?_
  change Ev _ _ _ _ ([.int (nI (1)), .int (nI (n)), .ref 370]) _ _
  refine ev_icmp_ltN t_73_3 (by omega) (by omega) (fun h_3 => ?_) (fun h_3 => ?_)
  · omega
  · refine ev_iload_n t_73_6 rfl ?_
    refine ev_bipush t_73_7 ?_
    change Ev _ _ _ _ ([.int (nI (96)), .int (nI (n)), .ref 370]) _ _
    refine ev_icmp_leN t_73_9 (by omega) (by omega) (fun h_9 => ?_) (fun h_9 => ?_)
    · refine ev_iconst t_73_16 ?_
      change Ev _ _ _ _ ([.int (nI (0)), .ref 370]) _ _
      refine es_put o_MO t_73_17 rfl (Nat.le_of_ble_eq_true rfl) rfl ?_
      refine ev_aload_n t_73_20 rfl ?_
      refine es_get (x := .int ((u2 τ (370) 0 (nI (0))) (370) 0)) o_MO t_73_21 rfl ?_
      refine ev_top (y := (nI (0))) (by first | exact u2_at) ?_
      refine ev_if_leN t_73_24 (by omega) (fun h_24 => ?_) (fun h_24 => ?_)
      · refine ev_aload_n t_73_29 rfl ?_
        refine ev_iload_n t_73_30 rfl ?_
        refine es_put o_MO t_73_31 rfl (Nat.le_of_ble_eq_true rfl) rfl ?_
        refine ev_aload_n t_73_34 rfl ?_
        refine ev_cl (pm_st_V t_73_35 (as := [.ref 370]) (rest := []) (L0 := [some (.ref 370), none]) rfl rfl (Nat.le_of_ble_eq_true rfl) (Nat.le_of_ble_eq_true rfl) rfl (es_rc o_MO rfl (Nat.le_of_ble_eq_true rfl))) rfl (c66) ?_
        rintro _ _ ⟨rfl, τ1, rfl, k1, k2⟩
        change Ev _ _ _ _ ([.int (nI (S.2.1.length - n))]) _ _
        exact ev_reti t_73_38 (ri rfl) ⟨_, rfl, rfl, _, rfl, k1, (by rw [k2 370 (by omega), u2_off (by omega), u2_at]), ((FrJ.u (by omega) (by omega)).trans (FrJ.u (by omega) (by omega))).trans (FrJ.h k2)⟩
      · exact absurd rfl h_24
    · omega
theorem m73t {x : Int32} (h : x < nI 1 ∨ nI 96 < x) (hR : RM τ S ck) : Ev (d + 2) 73 0 [some (.ref 370), some (.int x)] [] (sM M τ) (fun q9 M' => ∃ v9, q9 = .inl v9 ∧ v9 = some (.int 0) ∧ ∃ τ', M' = sM M τ' ∧ RM τ' S ck ∧ τ' 370 0 = 1 ∧ FrJ τ τ') := by
  refine ev_aload_n t_73_0 rfl ?_
  refine ev_iload_n t_73_1 rfl ?_
  refine ev_iconst t_73_2 ?_
  change Ev _ _ _ _ ([.int (nI (1)), .int x, .ref 370]) _ _
  refine ev_icmp_lt t_73_3 (fun h_3 => ?_) (fun h_3 => ?_)
  · refine ev_iconst t_73_12 ?_
    change Ev _ _ _ _ ([.int (nI (1)), .ref 370]) _ _
    refine ev_goto t_73_13 ?_
    refine es_put o_MO t_73_17 rfl (Nat.le_of_ble_eq_true rfl) rfl ?_
    refine ev_aload_n t_73_20 rfl ?_
    refine es_get (x := .int ((u2 τ (370) 0 (nI (1))) (370) 0)) o_MO t_73_21 rfl ?_
    refine ev_top (y := (nI (1))) (by first | exact u2_at) ?_
    refine ev_if_leN t_73_24 (by omega) (fun h_24 => ?_) (fun h_24 => ?_)
    · omega
    · refine ev_iconst t_73_27 ?_
      change Ev _ _ _ _ ([.int (nI (0))]) _ _
      exact ev_reti t_73_28 (ri rfl) ⟨_, rfl, rfl, _, rfl, RM_t hR, u2_at, FrJ.u (by omega) (by omega)⟩
  · refine ev_iload_n t_73_6 rfl ?_
    refine ev_bipush t_73_7 ?_
    change Ev _ _ _ _ ([.int (nI (96)), .int x, .ref 370]) _ _
    refine ev_icmp_le t_73_9 (fun h_9 => ?_) (fun h_9 => ?_)
    · (rcases h with h | h; exact absurd h h_3; exact absurd h_9 (Int32.not_le.mpr h))
    · refine ev_iconst t_73_12 ?_
      change Ev _ _ _ _ ([.int (nI (1)), .ref 370]) _ _
      refine ev_goto t_73_13 ?_
      refine es_put o_MO t_73_17 rfl (Nat.le_of_ble_eq_true rfl) rfl ?_
      refine ev_aload_n t_73_20 rfl ?_
      refine es_get (x := .int ((u2 τ (370) 0 (nI (1))) (370) 0)) o_MO t_73_21 rfl ?_
      refine ev_top (y := (nI (1))) (by first | exact u2_at) ?_
      refine ev_if_leN t_73_24 (by omega) (fun h_24 => ?_) (fun h_24 => ?_)
      · omega
      · refine ev_iconst t_73_27 ?_
        change Ev _ _ _ _ ([.int (nI (0))]) _ _
        exact ev_reti t_73_28 (ri rfl) ⟨_, rfl, rfl, _, rfl, RM_t hR, u2_at, FrJ.u (by omega) (by omega)⟩
theorem m68 {x : Int32} (hR : RM τ S ck) : Ev (d + 1) 68 0 [some (.ref 370), some (.int x)] [] (sM M τ) (fun q9 M' => ∃ v9, q9 = .inl v9 ∧ v9 = some (.int (coV S x)) ∧ ∃ τ', M' = sM M τ' ∧ RM τ' S ck ∧ τ' 370 0 = 0 ∧ FrJ τ τ') := by
  obtain ⟨⟨a1, a2, a3, a4, a5, a6⟩, -⟩ := id hR.1
  have c64 := m64 (d := d) (M := M) (RM_t (x := 0) hR)
  refine ev_aload_n t_68_0 rfl ?_
  refine ev_iconst t_68_1 ?_
  change Ev _ _ _ _ ([.int (nI (0)), .ref 370]) _ _
  refine es_put o_MO t_68_2 rfl (Nat.le_of_ble_eq_true rfl) rfl ?_
  refine ev_iload_n t_68_5 rfl ?_
  refine ev_switch t_68_6 (fun k9 hk9 hx9 => ?_) (fun hx9 => ?_)
  · rcases (show k9 = 0 ∨ k9 = 1 ∨ k9 = 2 ∨ k9 = 3 ∨ k9 = 4 ∨ k9 = 5 by simp at hk9; omega) with rfl | rfl | rfl | rfl | rfl | rfl
    · refine ev_aload_n t_68_44 rfl ?_
      refine es_get (x := .int ((u2 τ (370) 0 (nI (0))) (370) 5)) o_MO t_68_45 rfl ?_
      exact ev_reti t_68_48 (ri rfl) ⟨_, rfl, by rw [hx9, u2_off (by omega), a1]; rfl, _, rfl, RM_t hR, u2_at, FrJ.u (by omega) (by omega)⟩
    · refine ev_aload_n t_68_49 rfl ?_
      refine es_get (x := .int ((u2 τ (370) 0 (nI (0))) (370) 22)) o_MO t_68_50 rfl ?_
      exact ev_reti t_68_53 (ri rfl) ⟨_, rfl, by rw [hx9, u2_off (by omega), a3]; rfl, _, rfl, RM_t hR, u2_at, FrJ.u (by omega) (by omega)⟩
    · refine ev_aload_n t_68_54 rfl ?_
      refine es_get (x := .int ((u2 τ (370) 0 (nI (0))) (370) 23)) o_MO t_68_55 rfl ?_
      exact ev_reti t_68_58 (ri rfl) ⟨_, rfl, by rw [hx9, u2_off (by omega), a4]; rfl, _, rfl, RM_t hR, u2_at, FrJ.u (by omega) (by omega)⟩
    · refine ev_aload_n t_68_59 rfl ?_
      refine es_get (x := .int ((u2 τ (370) 0 (nI (0))) (370) 24)) o_MO t_68_60 rfl ?_
      exact ev_reti t_68_63 (ri rfl) ⟨_, rfl, by rw [hx9, u2_off (by omega), a5]; rfl, _, rfl, RM_t hR, u2_at, FrJ.u (by omega) (by omega)⟩
    · refine ev_aload_n t_68_64 rfl ?_
      refine es_get (x := .int ((u2 τ (370) 0 (nI (0))) (370) 25)) o_MO t_68_65 rfl ?_
      exact ev_reti t_68_68 (ri rfl) ⟨_, rfl, by rw [hx9, u2_off (by omega), a6]; rfl, _, rfl, RM_t hR, u2_at, FrJ.u (by omega) (by omega)⟩
    · refine ev_aload_n t_68_69 rfl ?_
      refine ev_cl (pm_st_V t_68_70 (as := [.ref 370]) (rest := []) (L0 := [some (.ref 370), none, none]) rfl rfl (Nat.le_of_ble_eq_true rfl) (Nat.le_of_ble_eq_true rfl) rfl (es_rc o_MO rfl (Nat.le_of_ble_eq_true rfl))) rfl (c64) ?_
      rintro _ _ ⟨rfl, rfl⟩
      change Ev _ _ _ _ ([.int (nI (S.2.1.length))]) _ _
      exact ev_reti t_68_73 (ri rfl) ⟨_, rfl, by rw [hx9]; rfl, _, rfl, RM_t hR, u2_at, FrJ.u (by omega) (by omega)⟩
  · refine ev_iconst t_68_74 ?_
    change Ev _ _ _ _ ([.int (-1)]) _ _
    have hz : ∀ k : Nat, k < 6 → x ≠ nI k := fun k hk e => by
      rw [e] at hx9
      rcases hx9 with h | h
      · exact nI_pos (by omega) h
      · rw [nI_clamp (by omega)] at h; simp at h; omega
    exact ev_reti t_68_75 (ri rfl) ⟨_, rfl, by unfold coV; rw [if_neg (show ¬ x = 0 from hz 0 (by omega)), if_neg (show ¬ x = 1 from hz 1 (by omega)), if_neg (show ¬ x = 2 from hz 2 (by omega)), if_neg (show ¬ x = 3 from hz 3 (by omega)), if_neg (show ¬ x = 4 from hz 4 (by omega)), if_neg (show ¬ x = 5 from hz 5 (by omega))], _, rfl, RM_t hR, u2_at, FrJ.u (by omega) (by omega)⟩
end MM
