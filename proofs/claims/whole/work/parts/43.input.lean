/-! The reference: input. -/
section MP
variable {d : Nat} {M : pm_M} {τ : Nat → Nat → Int32} {S : SP} {ck : Nat}
theorem MS_in {n : Nat} {v x : Int32} (h : MS τ S.1) : MS (u2 (u2 τ 374 n v) 375 n x) (u2 (u2 S.1 14 n v) 15 n x) := by
  obtain ⟨⟨a1, a2, a3, a4, a5, a6⟩, b, c9, e⟩ := h
  refine ⟨⟨?_, ?_, ?_, ?_, ?_, ?_⟩, fun k hk => ⟨?_, ?_⟩, fun k hk => ?_, fun k hk => ?_⟩
  · rw [u2_off (by omega), u2_off (by omega), u2_off (by omega), u2_off (by omega)]; exact a1
  · rw [u2_off (by omega), u2_off (by omega), u2_off (by omega), u2_off (by omega)]; exact a2
  · rw [u2_off (by omega), u2_off (by omega), u2_off (by omega), u2_off (by omega)]; exact a3
  · rw [u2_off (by omega), u2_off (by omega), u2_off (by omega), u2_off (by omega)]; exact a4
  · rw [u2_off (by omega), u2_off (by omega), u2_off (by omega), u2_off (by omega)]; exact a5
  · rw [u2_off (by omega), u2_off (by omega), u2_off (by omega), u2_off (by omega)]; exact a6
  · by_cases e2 : k = n
    · subst e2; rw [u2_off (by omega), u2_at, u2_off (by omega), u2_at]
    · rw [u2_off (by omega), u2_off (by omega), u2_off (by omega), u2_off (by omega)]; exact (b k hk).1
  · by_cases e2 : k = n
    · subst e2; rw [u2_at, u2_at]
    · rw [u2_off (by omega), u2_off (by omega), u2_off (by omega), u2_off (by omega)]; exact (b k hk).2
  · rw [u2_ne (show 376 ≠ 375 by omega), u2_ne (show 376 ≠ 374 by omega), u2_ne (show 378 ≠ 375 by omega), u2_ne (show 378 ≠ 374 by omega), u2_ne (show 16 ≠ 15 by omega), u2_ne (show 16 ≠ 14 by omega), u2_ne (show 18 ≠ 15 by omega), u2_ne (show 18 ≠ 14 by omega)]; exact c9 k hk
  · rw [u2_off (by omega), u2_off (by omega), u2_off (by omega), u2_off (by omega)]; exact e k hk
theorem m48o {t k c : Nat} {v : Int32} (ht : t < 3) (hk : k < 16) (hc : c < 3) (ec : S.1 16 t = nI c) (hR : RM τ S ck) : Ev (d + 1) 48 0 [some (.ref 370), some (.int (nI t)), some (.int (nI k)), some (.int v)] [] (sM M τ) (fun q9 M' => ∃ v9, q9 = .inl v9 ∧ v9 = some (.int (bI (decide (¬ S.1 14 (t * 16 + k) = v)))) ∧ ∃ τ', M' = sM M τ' ∧ RM τ' (if S.1 14 (t * 16 + k) = v then S else inS S t k c v) ck ∧ τ' 370 0 = 0 ∧ FrJ τ τ') := by
  have e9 : t * 16 + k = 16 * t + k := by omega
  unfold inS
  rw [e9]
  have e74 := (hR.1.2.1 (16 * t + k) (by omega)).1
  have e76 : τ 376 t = nI c := ((hR.1.2.2.1 t ht).1).trans ec
  have c46 := m46 (d := d) (M := M) (c := c) hc (RM_t (x := 0) hR)
  refine ev_aload_n t_48_0 rfl ?_
  refine ev_iload_n t_48_1 rfl ?_
  refine ev_if_ltN t_48_2 (by omega) (fun h_2 => ?_) (fun h_2 => ?_)
  · exact h_2.elim
  · refine ev_iload_n t_48_5 rfl ?_
    refine ev_iconst t_48_6 ?_
    change Ev _ _ _ _ ([.int (nI (2)), .int (nI (t)), .ref 370]) _ _
    refine ev_icmp_gtN t_48_7 (by omega) (by omega) (fun h_7 => ?_) (fun h_7 => ?_)
    · omega
    · refine ev_iload_n t_48_10 rfl ?_
      refine ev_cl (pm_st_S t_48_11 (Nat.le_of_ble_eq_true rfl) (as := [.int (nI (k))]) (rest := [.ref 370]) (L0 := [some (.int (nI (k)))]) rfl rfl (Nat.le_of_ble_eq_true rfl) (Nat.le_of_ble_eq_true rfl) rfl) rfl (m47o hk) ?_
      rintro _ _ ⟨rfl, rfl⟩
      change Ev _ _ _ _ ([.int (nI (0)), .ref 370]) _ _
      refine ev_if_eqN t_48_14 (by omega) (fun h_14 => ?_) (fun h_14 => ?_)
      · refine ev_iconst t_48_21 ?_
        change Ev _ _ _ _ ([.int (nI (0)), .ref 370]) _ _
        refine es_put o_MO t_48_22 rfl (Nat.le_of_ble_eq_true rfl) rfl ?_
        refine ev_aload_n t_48_25 rfl ?_
        refine es_get (x := .int ((u2 τ (370) 0 (nI (0))) (370) 0)) o_MO t_48_26 rfl ?_
        refine ev_top (y := (nI (0))) (by first | exact u2_at) ?_
        refine ev_if_gtN t_48_29 (by omega) (fun h_29 => ?_) (fun h_29 => ?_)
        · exact absurd rfl h_29
        · refine ev_aload_n t_48_32 rfl ?_
          refine es_get (x := .ref 374) o_MO t_48_33 rfl ?_
          refine ev_bipush t_48_36 ?_
          change Ev _ _ _ _ ([.int (nI (16)), .ref 374]) _ _
          refine ev_iload_n t_48_38 rfl ?_
          refine ev_imulN t_48_39 ?_
          refine ev_iload_n t_48_40 rfl ?_
          refine ev_iaddN t_48_41 ?_
          refine es_iald (k := ((16) * (t)) + (k)) a_m374 t_48_42 (by omega) ?_
          refine ev_top (y := (S.1 14 (16 * t + k))) (by rw [u2_off (by omega)]; exact e74) ?_
          refine ev_iload_n t_48_43 rfl ?_
          refine ev_icmp_ne t_48_44 (fun h_44 => ?_) (fun h_44 => ?_)
          · refine ev_aload_n t_48_49 rfl ?_
            refine ev_aload_n t_48_50 rfl ?_
            refine es_get (x := .ref 376) o_MO t_48_51 rfl ?_
            refine ev_iload_n t_48_54 rfl ?_
            refine es_iald (k := t) a_m376 t_48_55 (by omega) ?_
            refine ev_top (y := nI (c)) (by rw [u2_off (by omega)]; exact e76) ?_
            refine ev_cl (pm_st_V t_48_56 (as := [.ref 370, .int (nI (c))]) (rest := []) (L0 := [some (.ref 370), some (.int (nI (c))), none]) rfl rfl (Nat.le_of_ble_eq_true rfl) (Nat.le_of_ble_eq_true rfl) rfl (es_rc o_MO rfl (Nat.le_of_ble_eq_true rfl))) rfl (c46) ?_
            rintro _ _ ⟨rfl, τ1, rfl, k1, k2, k3, k4⟩
            change Ev _ _ _ _ ([]) _ _
            refine ev_aload_n t_48_59 rfl ?_
            refine es_get (x := .ref 374) o_MO t_48_60 rfl ?_
            refine ev_bipush t_48_63 ?_
            change Ev _ _ _ _ ([.int (nI (16)), .ref 374]) _ _
            refine ev_iload_n t_48_65 rfl ?_
            refine ev_imulN t_48_66 ?_
            refine ev_iload_n t_48_67 rfl ?_
            refine ev_iaddN t_48_68 ?_
            refine ev_iload_n t_48_69 rfl ?_
            refine es_iast (k := ((16) * (t)) + (k)) a_m374 t_48_70 (by omega) ?_
            refine ev_aload_n t_48_71 rfl ?_
            refine es_get (x := .ref 375) o_MO t_48_72 rfl ?_
            refine ev_bipush t_48_75 ?_
            change Ev _ _ _ _ ([.int (nI (16)), .ref 375]) _ _
            refine ev_iload_n t_48_77 rfl ?_
            refine ev_imulN t_48_78 ?_
            refine ev_iload_n t_48_79 rfl ?_
            refine ev_iaddN t_48_80 ?_
            refine ev_aload_n t_48_81 rfl ?_
            refine es_get (x := .int ((u2 τ1 (374) (((16) * (t)) + (k)) v) (370) 5)) o_MO t_48_82 rfl ?_
            refine ev_top (y := (S.1 17 0 + 1)) (by rw [u2_off (by omega), k1.1.1.1]; unfold edS; dsimp only; rw [u2_off (by omega), u2_at]) ?_
            refine es_iast (k := ((16) * (t)) + (k)) a_m375 t_48_85 (by omega) ?_
            refine ev_iconst t_48_86 ?_
            change Ev _ _ _ _ ([.int (nI (1))]) _ _
            exact ev_reti t_48_87 (rz rfl (by decide)) ⟨_, rfl, by rw [decide_eq_true h_44]; rfl, _, rfl, (by rw [if_neg h_44]; exact RM_g k1 (MS_in k1.1) (fun q h1 h2 => by rw [u2_ne (by omega), u2_ne (by omega)]) (by rw [u2_off (by omega), u2_off (by omega)]) (fun m hm => by rw [u2_ne (by omega), u2_ne (by omega)])), (by rw [u2_off (by omega), u2_off (by omega), k2, u2_at]), (((FrJ.u (by omega) (by omega)).trans k3).trans (FrJ.u (by omega) (by omega))).trans (FrJ.u (by omega) (by omega))⟩
          · refine ev_iconst t_48_47 ?_
            change Ev _ _ _ _ ([.int (nI (0))]) _ _
            exact ev_reti t_48_48 (rz rfl (by decide)) ⟨_, rfl, by rw [decide_eq_false h_44]; rfl, _, rfl, (by rw [if_pos (Decidable.byContradiction h_44)]; exact RM_t hR), u2_at, FrJ.u (by omega) (by omega)⟩
      · exact absurd rfl h_14
theorem m48t {x y v : Int32} (h : BAD 3 x ∨ BAD 16 y) (hR : RM τ S ck) : Ev (d + 1) 48 0 [some (.ref 370), some (.int x), some (.int y), some (.int v)] [] (sM M τ) (fun q9 M' => ∃ v9, q9 = .inl v9 ∧ v9 = some (.int 0) ∧ ∃ τ', M' = sM M τ' ∧ RM τ' S ck ∧ τ' 370 0 = 1 ∧ FrJ τ τ') := by
  refine ev_aload_n t_48_0 rfl ?_
  refine ev_iload_n t_48_1 rfl ?_
  refine ev_if_lt (y := 0) t_48_2 (fun h_2 => ?_) (fun h_2 => ?_)
  · refine ev_iconst t_48_17 ?_
    change Ev _ _ _ _ ([.int (nI (1)), .ref 370]) _ _
    refine ev_goto t_48_18 ?_
    refine es_put o_MO t_48_22 rfl (Nat.le_of_ble_eq_true rfl) rfl ?_
    refine ev_aload_n t_48_25 rfl ?_
    refine es_get (x := .int ((u2 τ (370) 0 (nI (1))) (370) 0)) o_MO t_48_26 rfl ?_
    refine ev_top (y := (nI (1))) (by first | exact u2_at) ?_
    refine ev_if_gtN t_48_29 (by omega) (fun h_29 => ?_) (fun h_29 => ?_)
    · refine ev_iconst t_48_47 ?_
      change Ev _ _ _ _ ([.int (nI (0))]) _ _
      exact ev_reti t_48_48 (rz rfl (by decide)) ⟨_, rfl, rfl, _, rfl, RM_t hR, u2_at, FrJ.u (by omega) (by omega)⟩
    · omega
  · refine ev_iload_n t_48_5 rfl ?_
    refine ev_iconst t_48_6 ?_
    change Ev _ _ _ _ ([.int (nI (2)), .int x, .ref 370]) _ _
    refine ev_icmp_gt t_48_7 (fun h_7 => ?_) (fun h_7 => ?_)
    · refine ev_iconst t_48_17 ?_
      change Ev _ _ _ _ ([.int (nI (1)), .ref 370]) _ _
      refine ev_goto t_48_18 ?_
      refine es_put o_MO t_48_22 rfl (Nat.le_of_ble_eq_true rfl) rfl ?_
      refine ev_aload_n t_48_25 rfl ?_
      refine es_get (x := .int ((u2 τ (370) 0 (nI (1))) (370) 0)) o_MO t_48_26 rfl ?_
      refine ev_top (y := (nI (1))) (by first | exact u2_at) ?_
      refine ev_if_gtN t_48_29 (by omega) (fun h_29 => ?_) (fun h_29 => ?_)
      · refine ev_iconst t_48_47 ?_
        change Ev _ _ _ _ ([.int (nI (0))]) _ _
        exact ev_reti t_48_48 (rz rfl (by decide)) ⟨_, rfl, rfl, _, rfl, RM_t hR, u2_at, FrJ.u (by omega) (by omega)⟩
      · omega
    · refine ev_iload_n t_48_10 rfl ?_
      refine ev_cl (pm_st_S t_48_11 (Nat.le_of_ble_eq_true rfl) (as := [.int y]) (rest := [.ref 370]) (L0 := [some (.int y)]) rfl rfl (Nat.le_of_ble_eq_true rfl) (Nat.le_of_ble_eq_true rfl) rfl) rfl (m47t (by rcases h with h | h; exact absurd (Int32.not_lt.mp h_7) (BAD.le (e := 2) h (by decide) h_2); exact h)) ?_
      rintro _ _ ⟨rfl, rfl⟩
      change Ev _ _ _ _ ([.int (nI (1)), .ref 370]) _ _
      refine ev_if_eqN t_48_14 (by omega) (fun h_14 => ?_) (fun h_14 => ?_)
      · omega
      · refine ev_iconst t_48_17 ?_
        change Ev _ _ _ _ ([.int (nI (1)), .ref 370]) _ _
        refine ev_goto t_48_18 ?_
        refine es_put o_MO t_48_22 rfl (Nat.le_of_ble_eq_true rfl) rfl ?_
        refine ev_aload_n t_48_25 rfl ?_
        refine es_get (x := .int ((u2 τ (370) 0 (nI (1))) (370) 0)) o_MO t_48_26 rfl ?_
        refine ev_top (y := (nI (1))) (by first | exact u2_at) ?_
        refine ev_if_gtN t_48_29 (by omega) (fun h_29 => ?_) (fun h_29 => ?_)
        · refine ev_iconst t_48_47 ?_
          change Ev _ _ _ _ ([.int (nI (0))]) _ _
          exact ev_reti t_48_48 (rz rfl (by decide)) ⟨_, rfl, rfl, _, rfl, RM_t hR, u2_at, FrJ.u (by omega) (by omega)⟩
        · omega
end MP
