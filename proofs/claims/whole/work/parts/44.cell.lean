/-! The reference: cell, read. -/
section MQ
variable {d : Nat} {M : pm_M} {τ : Nat → Nat → Int32} {S : SP} {ck : Nat}
theorem m70o {f k w : Nat} (hf : f < 6) (hk : k < 16) (hw : w < 6) (hR : RM τ S ck) (hm : f * 16 + k ∈ S.2.1) : Ev (d + 2) 70 0 [some (.ref 370), some (.int (nI f)), some (.int (nI k)), some (.int (nI w)), none] [] (sM M τ) (fun q9 M' => ∃ v9, q9 = .inl v9 ∧ v9 = some (.int (clV S (f * 16 + k) w)) ∧ ∃ τ', M' = sM M τ' ∧ RM τ' S ck ∧ τ' 370 0 = 0 ∧ FrJ τ τ') := by
  have e9 : f * 16 + k = 16 * f + k := by omega
  rw [e9] at hm ⊢
  have eh : τ 379 (16 * f + k) = nI 1 := by rw [hR.2.1 _ (by omega), decide_eq_true hm]; rfl
  obtain ⟨⟨k1, k2, k3, k4, k5⟩, k6, -⟩ := hR.2.2.1 _ hm
  refine ev_bipush t_70_0 ?_
  change Ev _ _ _ _ ([.int (nI (16))]) _ _
  refine ev_iload_n t_70_2 rfl ?_
  refine ev_imulN t_70_3 ?_
  refine ev_iload_n t_70_4 rfl ?_
  refine ev_iaddN t_70_5 ?_
  refine ev_istore (L' := [some (.ref 370), some (.int (nI (f))), some (.int (nI (k))), some (.int (nI (w))), some (.int (nI (((16) * (f)) + (k))))]) t_70_6 (Nat.le_of_ble_eq_true rfl) rfl ?_
  refine ev_aload_n t_70_8 rfl ?_
  refine ev_iload_n t_70_9 rfl ?_
  refine ev_iload_n t_70_10 rfl ?_
  refine ev_cl (pm_st_S t_70_11 (Nat.le_of_ble_eq_true rfl) (as := [.int (nI (f)), .int (nI (k))]) (rest := [.ref 370]) (L0 := [some (.int (nI (f))), some (.int (nI (k)))]) rfl rfl (Nat.le_of_ble_eq_true rfl) (Nat.le_of_ble_eq_true rfl) rfl) rfl (m63o hf hk) ?_
  rintro _ _ ⟨rfl, rfl⟩
  change Ev _ _ _ _ ([.int (nI (0)), .ref 370]) _ _
  refine ev_if_neN t_70_14 (by omega) (fun h_14 => ?_) (fun h_14 => ?_)
  · exact absurd rfl h_14
  · refine ev_iload_n t_70_17 rfl ?_
    refine ev_if_ltN t_70_18 (by omega) (fun h_18 => ?_) (fun h_18 => ?_)
    · exact h_18.elim
    · refine ev_iload_n t_70_21 rfl ?_
      refine ev_iconst t_70_22 ?_
      change Ev _ _ _ _ ([.int (nI (5)), .int (nI (w)), .ref 370]) _ _
      refine ev_icmp_leN t_70_23 (by omega) (by omega) (fun h_23 => ?_) (fun h_23 => ?_)
      · refine ev_aload_n t_70_30 rfl ?_
        refine es_get (x := .ref 379) o_MO t_70_31 rfl ?_
        refine ev_iload t_70_34 rfl ?_
        refine es_zald (k := ((16) * (f)) + (k)) a_m379 t_70_36 (by omega) ?_
        refine ev_top (y := nI (1)) eh ?_
        refine ev_if_neN t_70_37 (by omega) (fun h_37 => ?_) (fun h_37 => ?_)
        · refine ev_iconst t_70_44 ?_
          change Ev _ _ _ _ ([.int (nI (0)), .ref 370]) _ _
          refine es_put o_MO t_70_45 rfl (Nat.le_of_ble_eq_true rfl) rfl ?_
          refine ev_aload_n t_70_48 rfl ?_
          refine es_get (x := .int ((u2 τ (370) 0 (nI (0))) (370) 0)) o_MO t_70_49 rfl ?_
          refine ev_top (y := (nI (0))) (by first | exact u2_at) ?_
          refine ev_if_leN t_70_52 (by omega) (fun h_52 => ?_) (fun h_52 => ?_)
          · refine ev_iload_n t_70_57 rfl ?_
            refine ev_if_neN t_70_58 (by omega) (fun h_58 => ?_) (fun h_58 => ?_)
            · refine ev_iload_n t_70_71 rfl ?_
              refine ev_iconst t_70_72 ?_
              change Ev _ _ _ _ ([.int (nI (1)), .int (nI (w))]) _ _
              refine ev_icmp_neN t_70_73 (by omega) (by omega) (fun h_73 => ?_) (fun h_73 => ?_)
              · refine ev_iload_n t_70_86 rfl ?_
                refine ev_iconst t_70_87 ?_
                change Ev _ _ _ _ ([.int (nI (2)), .int (nI (w))]) _ _
                refine ev_icmp_neN t_70_88 (by omega) (by omega) (fun h_88 => ?_) (fun h_88 => ?_)
                · refine ev_iload_n t_70_101 rfl ?_
                  refine ev_iconst t_70_102 ?_
                  change Ev _ _ _ _ ([.int (nI (3)), .int (nI (w))]) _ _
                  refine ev_icmp_neN t_70_103 (by omega) (by omega) (fun h_103 => ?_) (fun h_103 => ?_)
                  · refine ev_iload_n t_70_116 rfl ?_
                    refine ev_iconst t_70_117 ?_
                    change Ev _ _ _ _ ([.int (nI (4)), .int (nI (w))]) _ _
                    refine ev_icmp_neN t_70_118 (by omega) (by omega) (fun h_118 => ?_) (fun h_118 => ?_)
                    · refine ev_aload_n t_70_139 rfl ?_
                      refine es_get (x := .ref 386) o_MO t_70_140 rfl ?_
                      refine ev_iload t_70_143 rfl ?_
                      refine es_iald (k := ((16) * (f)) + (k)) a_m386 t_70_145 (by omega) ?_
                      exact ev_reti t_70_146 (ri rfl) ⟨_, rfl, by unfold clV; rw [if_neg (by omega), if_neg (by omega), if_neg (by omega), if_neg (by omega), if_neg (by omega), u2_off (by omega), k6], _, rfl, RM_t hR, u2_at, FrJ.u (by omega) (by omega)⟩
                    · refine ev_aload_n t_70_121 rfl ?_
                      refine es_get (x := .ref 384) o_MO t_70_122 rfl ?_
                      refine ev_iload t_70_125 rfl ?_
                      refine es_zald (k := ((16) * (f)) + (k)) a_m384 t_70_127 (by omega) ?_
                      refine ev_top (y := (S.1 (38 + 2 * (16 * f + k)) 6)) (by rw [u2_off (by omega)]; exact k5) ?_
                      refine ev_if_eq (y := 0) t_70_128 (fun h_128 => ?_) (fun h_128 => ?_)
                      · refine ev_iconst t_70_135 ?_
                        change Ev _ _ _ _ ([.int (nI (0))]) _ _
                        refine ev_goto t_70_136 ?_
                        exact ev_reti t_70_146 (ri rfl) ⟨_, rfl, by unfold clV; rw [if_neg (by omega), if_neg (by omega), if_neg (by omega), if_neg (by omega), if_pos (by omega), if_pos h_128]; rfl, _, rfl, RM_t hR, u2_at, FrJ.u (by omega) (by omega)⟩
                      · refine ev_iconst t_70_131 ?_
                        change Ev _ _ _ _ ([.int (nI (1))]) _ _
                        refine ev_goto t_70_132 ?_
                        exact ev_reti t_70_146 (ri rfl) ⟨_, rfl, by unfold clV; rw [if_neg (by omega), if_neg (by omega), if_neg (by omega), if_neg (by omega), if_pos (by omega), if_neg h_128]; rfl, _, rfl, RM_t hR, u2_at, FrJ.u (by omega) (by omega)⟩
                  · refine ev_aload_n t_70_106 rfl ?_
                    refine es_get (x := .ref 383) o_MO t_70_107 rfl ?_
                    refine ev_iload t_70_110 rfl ?_
                    refine es_iald (k := ((16) * (f)) + (k)) a_m383 t_70_112 (by omega) ?_
                    refine ev_goto t_70_113 ?_
                    exact ev_reti t_70_146 (ri rfl) ⟨_, rfl, by unfold clV; rw [if_neg (by omega), if_neg (by omega), if_neg (by omega), if_pos (by omega), u2_off (by omega), k4], _, rfl, RM_t hR, u2_at, FrJ.u (by omega) (by omega)⟩
                · refine ev_aload_n t_70_91 rfl ?_
                  refine es_get (x := .ref 382) o_MO t_70_92 rfl ?_
                  refine ev_iload t_70_95 rfl ?_
                  refine es_iald (k := ((16) * (f)) + (k)) a_m382 t_70_97 (by omega) ?_
                  refine ev_goto t_70_98 ?_
                  exact ev_reti t_70_146 (ri rfl) ⟨_, rfl, by unfold clV; rw [if_neg (by omega), if_neg (by omega), if_pos (by omega), u2_off (by omega), k3], _, rfl, RM_t hR, u2_at, FrJ.u (by omega) (by omega)⟩
              · refine ev_aload_n t_70_76 rfl ?_
                refine es_get (x := .ref 381) o_MO t_70_77 rfl ?_
                refine ev_iload t_70_80 rfl ?_
                refine es_iald (k := ((16) * (f)) + (k)) a_m381 t_70_82 (by omega) ?_
                refine ev_goto t_70_83 ?_
                exact ev_reti t_70_146 (ri rfl) ⟨_, rfl, by unfold clV; rw [if_neg (by omega), if_pos (by omega), u2_off (by omega), k2], _, rfl, RM_t hR, u2_at, FrJ.u (by omega) (by omega)⟩
            · refine ev_aload_n t_70_61 rfl ?_
              refine es_get (x := .ref 380) o_MO t_70_62 rfl ?_
              refine ev_iload t_70_65 rfl ?_
              refine es_iald (k := ((16) * (f)) + (k)) a_m380 t_70_67 (by omega) ?_
              refine ev_goto t_70_68 ?_
              exact ev_reti t_70_146 (ri rfl) ⟨_, rfl, by unfold clV; rw [if_pos (by omega), u2_off (by omega), k1], _, rfl, RM_t hR, u2_at, FrJ.u (by omega) (by omega)⟩
          · exact absurd rfl h_52
        · omega
      · omega
theorem m70t {x y z : Int32} (h : BAD 6 x ∨ BAD 16 y) (hR : RM τ S ck) : Ev (d + 2) 70 0 [some (.ref 370), some (.int x), some (.int y), some (.int z), none] [] (sM M τ) (fun q9 M' => ∃ v9, q9 = .inl v9 ∧ v9 = some (.int 0) ∧ ∃ τ', M' = sM M τ' ∧ RM τ' S ck ∧ τ' 370 0 = 1 ∧ FrJ τ τ') := by
  refine ev_bipush t_70_0 ?_
  change Ev _ _ _ _ ([.int (nI (16))]) _ _
  refine ev_iload_n t_70_2 rfl ?_
  refine ev_imul t_70_3 ?_
  refine ev_iload_n t_70_4 rfl ?_
  refine ev_iadd t_70_5 ?_
  refine ev_istore (L' := [some (.ref 370), some (.int x), some (.int y), some (.int z), some (.int (((nI (16)) * x) + y))]) t_70_6 (Nat.le_of_ble_eq_true rfl) rfl ?_
  refine ev_aload_n t_70_8 rfl ?_
  refine ev_iload_n t_70_9 rfl ?_
  refine ev_iload_n t_70_10 rfl ?_
  refine ev_cl (pm_st_S t_70_11 (Nat.le_of_ble_eq_true rfl) (as := [.int x, .int y]) (rest := [.ref 370]) (L0 := [some (.int x), some (.int y)]) rfl rfl (Nat.le_of_ble_eq_true rfl) (Nat.le_of_ble_eq_true rfl) rfl) rfl (m63t h) ?_
  rintro _ _ ⟨rfl, rfl⟩
  change Ev _ _ _ _ ([.int (nI (1)), .ref 370]) _ _
  refine ev_if_neN t_70_14 (by omega) (fun h_14 => ?_) (fun h_14 => ?_)
  · refine ev_iconst t_70_26 ?_
    change Ev _ _ _ _ ([.int (nI (1)), .ref 370]) _ _
    refine ev_goto t_70_27 ?_
    refine es_put o_MO t_70_45 rfl (Nat.le_of_ble_eq_true rfl) rfl ?_
    refine ev_aload_n t_70_48 rfl ?_
    refine es_get (x := .int ((u2 τ (370) 0 (nI (1))) (370) 0)) o_MO t_70_49 rfl ?_
    refine ev_top (y := (nI (1))) (by first | exact u2_at) ?_
    refine ev_if_leN t_70_52 (by omega) (fun h_52 => ?_) (fun h_52 => ?_)
    · omega
    · refine ev_iconst t_70_55 ?_
      change Ev _ _ _ _ ([.int (nI (0))]) _ _
      exact ev_reti t_70_56 (ri rfl) ⟨_, rfl, rfl, _, rfl, RM_t hR, u2_at, FrJ.u (by omega) (by omega)⟩
  · omega
theorem m70u {f k : Nat} {z : Int32} (hf : f < 6) (hk : k < 16) (h : BAD 6 z) (hR : RM τ S ck) : Ev (d + 2) 70 0 [some (.ref 370), some (.int (nI f)), some (.int (nI k)), some (.int z), none] [] (sM M τ) (fun q9 M' => ∃ v9, q9 = .inl v9 ∧ v9 = some (.int 0) ∧ ∃ τ', M' = sM M τ' ∧ RM τ' S ck ∧ τ' 370 0 = 1 ∧ FrJ τ τ') := by
  refine ev_bipush t_70_0 ?_
  change Ev _ _ _ _ ([.int (nI (16))]) _ _
  refine ev_iload_n t_70_2 rfl ?_
  refine ev_imulN t_70_3 ?_
  refine ev_iload_n t_70_4 rfl ?_
  refine ev_iaddN t_70_5 ?_
  refine ev_istore (L' := [some (.ref 370), some (.int (nI (f))), some (.int (nI (k))), some (.int z), some (.int (nI (((16) * (f)) + (k))))]) t_70_6 (Nat.le_of_ble_eq_true rfl) rfl ?_
  refine ev_aload_n t_70_8 rfl ?_
  refine ev_iload_n t_70_9 rfl ?_
  refine ev_iload_n t_70_10 rfl ?_
  refine ev_cl (pm_st_S t_70_11 (Nat.le_of_ble_eq_true rfl) (as := [.int (nI (f)), .int (nI (k))]) (rest := [.ref 370]) (L0 := [some (.int (nI (f))), some (.int (nI (k)))]) rfl rfl (Nat.le_of_ble_eq_true rfl) (Nat.le_of_ble_eq_true rfl) rfl) rfl (m63o hf hk) ?_
  rintro _ _ ⟨rfl, rfl⟩
  change Ev _ _ _ _ ([.int (nI (0)), .ref 370]) _ _
  refine ev_if_neN t_70_14 (by omega) (fun h_14 => ?_) (fun h_14 => ?_)
  · exact absurd rfl h_14
  · refine ev_iload_n t_70_17 rfl ?_
    refine ev_if_lt (y := 0) t_70_18 (fun h_18 => ?_) (fun h_18 => ?_)
    · refine ev_iconst t_70_26 ?_
      change Ev _ _ _ _ ([.int (nI (1)), .ref 370]) _ _
      refine ev_goto t_70_27 ?_
      refine es_put o_MO t_70_45 rfl (Nat.le_of_ble_eq_true rfl) rfl ?_
      refine ev_aload_n t_70_48 rfl ?_
      refine es_get (x := .int ((u2 τ (370) 0 (nI (1))) (370) 0)) o_MO t_70_49 rfl ?_
      refine ev_top (y := (nI (1))) (by first | exact u2_at) ?_
      refine ev_if_leN t_70_52 (by omega) (fun h_52 => ?_) (fun h_52 => ?_)
      · omega
      · refine ev_iconst t_70_55 ?_
        change Ev _ _ _ _ ([.int (nI (0))]) _ _
        exact ev_reti t_70_56 (ri rfl) ⟨_, rfl, rfl, _, rfl, RM_t hR, u2_at, FrJ.u (by omega) (by omega)⟩
    · refine ev_iload_n t_70_21 rfl ?_
      refine ev_iconst t_70_22 ?_
      change Ev _ _ _ _ ([.int (nI (5)), .int z, .ref 370]) _ _
      refine ev_icmp_le t_70_23 (fun h_23 => ?_) (fun h_23 => ?_)
      · exact absurd h_23 (BAD.le (e := 5) h (by decide) h_18)
      · refine ev_iconst t_70_26 ?_
        change Ev _ _ _ _ ([.int (nI (1)), .ref 370]) _ _
        refine ev_goto t_70_27 ?_
        refine es_put o_MO t_70_45 rfl (Nat.le_of_ble_eq_true rfl) rfl ?_
        refine ev_aload_n t_70_48 rfl ?_
        refine es_get (x := .int ((u2 τ (370) 0 (nI (1))) (370) 0)) o_MO t_70_49 rfl ?_
        refine ev_top (y := (nI (1))) (by first | exact u2_at) ?_
        refine ev_if_leN t_70_52 (by omega) (fun h_52 => ?_) (fun h_52 => ?_)
        · omega
        · refine ev_iconst t_70_55 ?_
          change Ev _ _ _ _ ([.int (nI (0))]) _ _
          exact ev_reti t_70_56 (ri rfl) ⟨_, rfl, rfl, _, rfl, RM_t hR, u2_at, FrJ.u (by omega) (by omega)⟩
theorem m70v {f k w : Nat} (hf : f < 6) (hk : k < 16) (hw : w < 6) (hR : RM τ S ck) (hm : f * 16 + k ∉ S.2.1) : Ev (d + 2) 70 0 [some (.ref 370), some (.int (nI f)), some (.int (nI k)), some (.int (nI w)), none] [] (sM M τ) (fun q9 M' => ∃ v9, q9 = .inl v9 ∧ v9 = some (.int 0) ∧ ∃ τ', M' = sM M τ' ∧ RM τ' S ck ∧ τ' 370 0 = 2 ∧ FrJ τ τ') := by
  have e9 : f * 16 + k = 16 * f + k := by omega
  rw [e9] at hm
  have eh : τ 379 (16 * f + k) = nI 0 := by rw [hR.2.1 _ (by omega), decide_eq_false hm]; rfl
  refine ev_bipush t_70_0 ?_
  change Ev _ _ _ _ ([.int (nI (16))]) _ _
  refine ev_iload_n t_70_2 rfl ?_
  refine ev_imulN t_70_3 ?_
  refine ev_iload_n t_70_4 rfl ?_
  refine ev_iaddN t_70_5 ?_
  refine ev_istore (L' := [some (.ref 370), some (.int (nI (f))), some (.int (nI (k))), some (.int (nI (w))), some (.int (nI (((16) * (f)) + (k))))]) t_70_6 (Nat.le_of_ble_eq_true rfl) rfl ?_
  refine ev_aload_n t_70_8 rfl ?_
  refine ev_iload_n t_70_9 rfl ?_
  refine ev_iload_n t_70_10 rfl ?_
  refine ev_cl (pm_st_S t_70_11 (Nat.le_of_ble_eq_true rfl) (as := [.int (nI (f)), .int (nI (k))]) (rest := [.ref 370]) (L0 := [some (.int (nI (f))), some (.int (nI (k)))]) rfl rfl (Nat.le_of_ble_eq_true rfl) (Nat.le_of_ble_eq_true rfl) rfl) rfl (m63o hf hk) ?_
  rintro _ _ ⟨rfl, rfl⟩
  change Ev _ _ _ _ ([.int (nI (0)), .ref 370]) _ _
  refine ev_if_neN t_70_14 (by omega) (fun h_14 => ?_) (fun h_14 => ?_)
  · exact absurd rfl h_14
  · refine ev_iload_n t_70_17 rfl ?_
    refine ev_if_ltN t_70_18 (by omega) (fun h_18 => ?_) (fun h_18 => ?_)
    · exact h_18.elim
    · refine ev_iload_n t_70_21 rfl ?_
      refine ev_iconst t_70_22 ?_
      change Ev _ _ _ _ ([.int (nI (5)), .int (nI (w)), .ref 370]) _ _
      refine ev_icmp_leN t_70_23 (by omega) (by omega) (fun h_23 => ?_) (fun h_23 => ?_)
      · refine ev_aload_n t_70_30 rfl ?_
        refine es_get (x := .ref 379) o_MO t_70_31 rfl ?_
        refine ev_iload t_70_34 rfl ?_
        refine es_zald (k := ((16) * (f)) + (k)) a_m379 t_70_36 (by omega) ?_
        refine ev_top (y := nI (0)) eh ?_
        refine ev_if_neN t_70_37 (by omega) (fun h_37 => ?_) (fun h_37 => ?_)
        · exact absurd rfl h_37
        · refine ev_iconst t_70_40 ?_
          change Ev _ _ _ _ ([.int (nI (2)), .ref 370]) _ _
          refine ev_goto t_70_41 ?_
          refine es_put o_MO t_70_45 rfl (Nat.le_of_ble_eq_true rfl) rfl ?_
          refine ev_aload_n t_70_48 rfl ?_
          refine es_get (x := .int ((u2 τ (370) 0 (nI (2))) (370) 0)) o_MO t_70_49 rfl ?_
          refine ev_top (y := (nI (2))) (by first | exact u2_at) ?_
          refine ev_if_leN t_70_52 (by omega) (fun h_52 => ?_) (fun h_52 => ?_)
          · omega
          · refine ev_iconst t_70_55 ?_
            change Ev _ _ _ _ ([.int (nI (0))]) _ _
            exact ev_reti t_70_56 (ri rfl) ⟨_, rfl, rfl, _, rfl, RM_t hR, u2_at, FrJ.u (by omega) (by omega)⟩
      · omega
theorem m71o {f k : Nat} {x : Int32} (hf : f < 6) (hk : k < 16) (hR : RM τ S ck) (hm : f * 16 + k ∈ S.2.1) (h24 : (S.2.2 (f * 16 + k)).length ≤ 24) : Ev (d + 2) 71 0 [some (.ref 370), some (.int (nI f)), some (.int (nI k)), some (.int x), none] [] (sM M τ) (fun q9 M' => ∃ v9, q9 = .inl v9 ∧ v9 = some (.int (rdV S (f * 16 + k) x)) ∧ ∃ τ', M' = sM M τ' ∧ RM τ' S ck ∧ τ' 370 0 = 0 ∧ FrJ τ τ') := by
  have e9 : f * 16 + k = 16 * f + k := by omega
  rw [e9] at hm h24 ⊢
  have eh : τ 379 (16 * f + k) = nI 1 := by rw [hR.2.1 _ (by omega), decide_eq_true hm]; rfl
  obtain ⟨-, k6, k7⟩ := hR.2.2.1 _ hm
  rcases rng x (e := (S.2.2 (16 * f + k)).length) (by omega) with ⟨j, hj, rfl⟩ | hx
  · have ej : ¬ (nI j < 0 ∨ nI (S.2.2 (16 * f + k)).length ≤ nI j) := by
      rintro (h | h)
      · exact nI_pos (by omega) h
      · have := (nI_leI (by omega) (by omega)).mp h; omega
    refine ev_bipush t_71_0 ?_
    change Ev _ _ _ _ ([.int (nI (16))]) _ _
    refine ev_iload_n t_71_2 rfl ?_
    refine ev_imulN t_71_3 ?_
    refine ev_iload_n t_71_4 rfl ?_
    refine ev_iaddN t_71_5 ?_
    refine ev_istore (L' := [some (.ref 370), some (.int (nI (f))), some (.int (nI (k))), some (.int (nI (j))), some (.int (nI (((16) * (f)) + (k))))]) t_71_6 (Nat.le_of_ble_eq_true rfl) rfl ?_
    refine ev_aload_n t_71_8 rfl ?_
    refine ev_iload_n t_71_9 rfl ?_
    refine ev_iload_n t_71_10 rfl ?_
    refine ev_cl (pm_st_S t_71_11 (Nat.le_of_ble_eq_true rfl) (as := [.int (nI (f)), .int (nI (k))]) (rest := [.ref 370]) (L0 := [some (.int (nI (f))), some (.int (nI (k)))]) rfl rfl (Nat.le_of_ble_eq_true rfl) (Nat.le_of_ble_eq_true rfl) rfl) rfl (m63o hf hk) ?_
    rintro _ _ ⟨rfl, rfl⟩
    change Ev _ _ _ _ ([.int (nI (0)), .ref 370]) _ _
    refine ev_if_eqN t_71_14 (by omega) (fun h_14 => ?_) (fun h_14 => ?_)
    · refine ev_aload_n t_71_21 rfl ?_
      refine es_get (x := .ref 379) o_MO t_71_22 rfl ?_
      refine ev_iload t_71_25 rfl ?_
      refine es_zald (k := ((16) * (f)) + (k)) a_m379 t_71_27 (by omega) ?_
      refine ev_top (y := nI (1)) eh ?_
      refine ev_if_neN t_71_28 (by omega) (fun h_28 => ?_) (fun h_28 => ?_)
      · refine ev_iconst t_71_35 ?_
        change Ev _ _ _ _ ([.int (nI (0)), .ref 370]) _ _
        refine es_put o_MO t_71_36 rfl (Nat.le_of_ble_eq_true rfl) rfl ?_
        refine ev_aload_n t_71_39 rfl ?_
        refine es_get (x := .int ((u2 τ (370) 0 (nI (0))) (370) 0)) o_MO t_71_40 rfl ?_
        refine ev_top (y := (nI (0))) (by first | exact u2_at) ?_
        refine ev_if_leN t_71_43 (by omega) (fun h_43 => ?_) (fun h_43 => ?_)
        · refine ev_iload_n t_71_50 rfl ?_
          refine ev_if_ltN t_71_51 (by omega) (fun h_51 => ?_) (fun h_51 => ?_)
          · exact h_51.elim
          · refine ev_iload_n t_71_54 rfl ?_
            refine ev_aload_n t_71_55 rfl ?_
            refine es_get (x := .ref 386) o_MO t_71_56 rfl ?_
            refine ev_iload t_71_59 rfl ?_
            refine es_iald (k := ((16) * (f)) + (k)) a_m386 t_71_61 (by omega) ?_
            refine ev_top (y := nI ((S.2.2 (16 * f + k)).length)) (by rw [u2_off (by omega)]; exact k6) ?_
            refine ev_icmp_ltN t_71_62 (by omega) (by omega) (fun h_62 => ?_) (fun h_62 => ?_)
            · refine ev_aload_n t_71_69 rfl ?_
              refine es_get (x := .ref 385) o_MO t_71_70 rfl ?_
              refine ev_bipush t_71_73 ?_
              change Ev _ _ _ _ ([.int (nI (24)), .ref 385]) _ _
              refine ev_iload t_71_75 rfl ?_
              refine ev_imulN t_71_77 ?_
              refine ev_iload_n t_71_78 rfl ?_
              refine ev_iaddN t_71_79 ?_
              refine es_iald (k := ((24) * (((16) * (f)) + (k))) + (j)) a_m385 t_71_80 (by omega) ?_
              exact ev_reti t_71_81 (ri rfl) ⟨_, rfl, by unfold rdV; rw [if_neg ej, nI_clamp (by omega), u2_off (by omega), k7 j hj], _, rfl, RM_t hR, u2_at, FrJ.u (by omega) (by omega)⟩
            · omega
        · exact absurd rfl h_43
      · omega
    · exact absurd rfl h_14
  · refine ev_bipush t_71_0 ?_
    change Ev _ _ _ _ ([.int (nI (16))]) _ _
    refine ev_iload_n t_71_2 rfl ?_
    refine ev_imulN t_71_3 ?_
    refine ev_iload_n t_71_4 rfl ?_
    refine ev_iaddN t_71_5 ?_
    refine ev_istore (L' := [some (.ref 370), some (.int (nI (f))), some (.int (nI (k))), some (.int x), some (.int (nI (((16) * (f)) + (k))))]) t_71_6 (Nat.le_of_ble_eq_true rfl) rfl ?_
    refine ev_aload_n t_71_8 rfl ?_
    refine ev_iload_n t_71_9 rfl ?_
    refine ev_iload_n t_71_10 rfl ?_
    refine ev_cl (pm_st_S t_71_11 (Nat.le_of_ble_eq_true rfl) (as := [.int (nI (f)), .int (nI (k))]) (rest := [.ref 370]) (L0 := [some (.int (nI (f))), some (.int (nI (k)))]) rfl rfl (Nat.le_of_ble_eq_true rfl) (Nat.le_of_ble_eq_true rfl) rfl) rfl (m63o hf hk) ?_
    rintro _ _ ⟨rfl, rfl⟩
    change Ev _ _ _ _ ([.int (nI (0)), .ref 370]) _ _
    refine ev_if_eqN t_71_14 (by omega) (fun h_14 => ?_) (fun h_14 => ?_)
    · refine ev_aload_n t_71_21 rfl ?_
      refine es_get (x := .ref 379) o_MO t_71_22 rfl ?_
      refine ev_iload t_71_25 rfl ?_
      refine es_zald (k := ((16) * (f)) + (k)) a_m379 t_71_27 (by omega) ?_
      refine ev_top (y := nI (1)) eh ?_
      refine ev_if_neN t_71_28 (by omega) (fun h_28 => ?_) (fun h_28 => ?_)
      · refine ev_iconst t_71_35 ?_
        change Ev _ _ _ _ ([.int (nI (0)), .ref 370]) _ _
        refine es_put o_MO t_71_36 rfl (Nat.le_of_ble_eq_true rfl) rfl ?_
        refine ev_aload_n t_71_39 rfl ?_
        refine es_get (x := .int ((u2 τ (370) 0 (nI (0))) (370) 0)) o_MO t_71_40 rfl ?_
        refine ev_top (y := (nI (0))) (by first | exact u2_at) ?_
        refine ev_if_leN t_71_43 (by omega) (fun h_43 => ?_) (fun h_43 => ?_)
        · refine ev_iload_n t_71_50 rfl ?_
          refine ev_if_lt (y := 0) t_71_51 (fun h_51 => ?_) (fun h_51 => ?_)
          · refine ev_iconst t_71_65 ?_
            change Ev _ _ _ _ ([.int (-1)]) _ _
            refine ev_goto t_71_66 ?_
            exact ev_reti t_71_81 (ri rfl) ⟨_, rfl, by unfold rdV; rw [if_pos (show _ ∨ _ from hx)], _, rfl, RM_t hR, u2_at, FrJ.u (by omega) (by omega)⟩
          · refine ev_iload_n t_71_54 rfl ?_
            refine ev_aload_n t_71_55 rfl ?_
            refine es_get (x := .ref 386) o_MO t_71_56 rfl ?_
            refine ev_iload t_71_59 rfl ?_
            refine es_iald (k := ((16) * (f)) + (k)) a_m386 t_71_61 (by omega) ?_
            refine ev_top (y := (nI (S.2.2 (16 * f + k)).length)) (by rw [u2_off (by omega)]; exact k6) ?_
            refine ev_icmp_lt t_71_62 (fun h_62 => ?_) (fun h_62 => ?_)
            · (rcases hx with h | h; exact absurd h h_51; exact absurd h_62 (Int32.not_lt.mpr h))
            · refine ev_iconst t_71_65 ?_
              change Ev _ _ _ _ ([.int (-1)]) _ _
              refine ev_goto t_71_66 ?_
              exact ev_reti t_71_81 (ri rfl) ⟨_, rfl, by unfold rdV; rw [if_pos (show _ ∨ _ from hx)], _, rfl, RM_t hR, u2_at, FrJ.u (by omega) (by omega)⟩
        · exact absurd rfl h_43
      · omega
    · exact absurd rfl h_14
theorem m71t {x y z : Int32} (h : BAD 6 x ∨ BAD 16 y) (hR : RM τ S ck) : Ev (d + 2) 71 0 [some (.ref 370), some (.int x), some (.int y), some (.int z), none] [] (sM M τ) (fun q9 M' => ∃ v9, q9 = .inl v9 ∧ v9 = some (.int 0) ∧ ∃ τ', M' = sM M τ' ∧ RM τ' S ck ∧ τ' 370 0 = 1 ∧ FrJ τ τ') := by
  refine ev_bipush t_71_0 ?_
  change Ev _ _ _ _ ([.int (nI (16))]) _ _
  refine ev_iload_n t_71_2 rfl ?_
  refine ev_imul t_71_3 ?_
  refine ev_iload_n t_71_4 rfl ?_
  refine ev_iadd t_71_5 ?_
  refine ev_istore (L' := [some (.ref 370), some (.int x), some (.int y), some (.int z), some (.int (((nI (16)) * x) + y))]) t_71_6 (Nat.le_of_ble_eq_true rfl) rfl ?_
  refine ev_aload_n t_71_8 rfl ?_
  refine ev_iload_n t_71_9 rfl ?_
  refine ev_iload_n t_71_10 rfl ?_
  refine ev_cl (pm_st_S t_71_11 (Nat.le_of_ble_eq_true rfl) (as := [.int x, .int y]) (rest := [.ref 370]) (L0 := [some (.int x), some (.int y)]) rfl rfl (Nat.le_of_ble_eq_true rfl) (Nat.le_of_ble_eq_true rfl) rfl) rfl (m63t h) ?_
  rintro _ _ ⟨rfl, rfl⟩
  change Ev _ _ _ _ ([.int (nI (1)), .ref 370]) _ _
  refine ev_if_eqN t_71_14 (by omega) (fun h_14 => ?_) (fun h_14 => ?_)
  · omega
  · refine ev_iconst t_71_17 ?_
    change Ev _ _ _ _ ([.int (nI (1)), .ref 370]) _ _
    refine ev_goto t_71_18 ?_
    refine es_put o_MO t_71_36 rfl (Nat.le_of_ble_eq_true rfl) rfl ?_
    refine ev_aload_n t_71_39 rfl ?_
    refine es_get (x := .int ((u2 τ (370) 0 (nI (1))) (370) 0)) o_MO t_71_40 rfl ?_
    refine ev_top (y := (nI (1))) (by first | exact u2_at) ?_
    refine ev_if_leN t_71_43 (by omega) (fun h_43 => ?_) (fun h_43 => ?_)
    · omega
    · refine ev_iconst t_71_46 ?_
      change Ev _ _ _ _ ([.int (nI (0))]) _ _
      refine ev_goto t_71_47 ?_
      exact ev_reti t_71_81 (ri rfl) ⟨_, rfl, rfl, _, rfl, RM_t hR, u2_at, FrJ.u (by omega) (by omega)⟩
theorem m71v {f k : Nat} {z : Int32} (hf : f < 6) (hk : k < 16) (hR : RM τ S ck) (hm : f * 16 + k ∉ S.2.1) : Ev (d + 2) 71 0 [some (.ref 370), some (.int (nI f)), some (.int (nI k)), some (.int z), none] [] (sM M τ) (fun q9 M' => ∃ v9, q9 = .inl v9 ∧ v9 = some (.int 0) ∧ ∃ τ', M' = sM M τ' ∧ RM τ' S ck ∧ τ' 370 0 = 2 ∧ FrJ τ τ') := by
  have e9 : f * 16 + k = 16 * f + k := by omega
  rw [e9] at hm
  have eh : τ 379 (16 * f + k) = nI 0 := by rw [hR.2.1 _ (by omega), decide_eq_false hm]; rfl
  refine ev_bipush t_71_0 ?_
  change Ev _ _ _ _ ([.int (nI (16))]) _ _
  refine ev_iload_n t_71_2 rfl ?_
  refine ev_imulN t_71_3 ?_
  refine ev_iload_n t_71_4 rfl ?_
  refine ev_iaddN t_71_5 ?_
  refine ev_istore (L' := [some (.ref 370), some (.int (nI (f))), some (.int (nI (k))), some (.int z), some (.int (nI (((16) * (f)) + (k))))]) t_71_6 (Nat.le_of_ble_eq_true rfl) rfl ?_
  refine ev_aload_n t_71_8 rfl ?_
  refine ev_iload_n t_71_9 rfl ?_
  refine ev_iload_n t_71_10 rfl ?_
  refine ev_cl (pm_st_S t_71_11 (Nat.le_of_ble_eq_true rfl) (as := [.int (nI (f)), .int (nI (k))]) (rest := [.ref 370]) (L0 := [some (.int (nI (f))), some (.int (nI (k)))]) rfl rfl (Nat.le_of_ble_eq_true rfl) (Nat.le_of_ble_eq_true rfl) rfl) rfl (m63o hf hk) ?_
  rintro _ _ ⟨rfl, rfl⟩
  change Ev _ _ _ _ ([.int (nI (0)), .ref 370]) _ _
  refine ev_if_eqN t_71_14 (by omega) (fun h_14 => ?_) (fun h_14 => ?_)
  · refine ev_aload_n t_71_21 rfl ?_
    refine es_get (x := .ref 379) o_MO t_71_22 rfl ?_
    refine ev_iload t_71_25 rfl ?_
    refine es_zald (k := ((16) * (f)) + (k)) a_m379 t_71_27 (by omega) ?_
    refine ev_top (y := nI (0)) eh ?_
    refine ev_if_neN t_71_28 (by omega) (fun h_28 => ?_) (fun h_28 => ?_)
    · exact absurd rfl h_28
    · refine ev_iconst t_71_31 ?_
      change Ev _ _ _ _ ([.int (nI (2)), .ref 370]) _ _
      refine ev_goto t_71_32 ?_
      refine es_put o_MO t_71_36 rfl (Nat.le_of_ble_eq_true rfl) rfl ?_
      refine ev_aload_n t_71_39 rfl ?_
      refine es_get (x := .int ((u2 τ (370) 0 (nI (2))) (370) 0)) o_MO t_71_40 rfl ?_
      refine ev_top (y := (nI (2))) (by first | exact u2_at) ?_
      refine ev_if_leN t_71_43 (by omega) (fun h_43 => ?_) (fun h_43 => ?_)
      · omega
      · refine ev_iconst t_71_46 ?_
        change Ev _ _ _ _ ([.int (nI (0))]) _ _
        refine ev_goto t_71_47 ?_
        exact ev_reti t_71_81 (ri rfl) ⟨_, rfl, rfl, _, rfl, RM_t hR, u2_at, FrJ.u (by omega) (by omega)⟩
  · exact absurd rfl h_14
end MQ
