/-! The reference: circle, level. -/
section MO
variable {d : Nat} {M : pm_M} {τ : Nat → Nat → Int32} {S : SP} {ck : Nat}
theorem MS_cv {f : Nat} {x : Int32} (h : MS τ S.1) : MS (u2 τ 377 f x) (u2 S.1 12 f x) := by
  obtain ⟨⟨a1, a2, a3, a4, a5, a6⟩, b, c9, e⟩ := h
  refine ⟨⟨?_, ?_, ?_, ?_, ?_, ?_⟩, fun k hk => ?_, fun k hk => ?_, fun k hk => ?_⟩
  · rw [u2_off (by omega), u2_off (by omega)]; exact a1
  · rw [u2_off (by omega), u2_off (by omega)]; exact a2
  · rw [u2_off (by omega), u2_off (by omega)]; exact a3
  · rw [u2_off (by omega), u2_off (by omega)]; exact a4
  · rw [u2_off (by omega), u2_off (by omega)]; exact a5
  · rw [u2_off (by omega), u2_off (by omega)]; exact a6
  · rw [u2_ne (show 374 ≠ 377 by omega), u2_ne (show 375 ≠ 377 by omega), u2_ne (show 14 ≠ 12 by omega), u2_ne (show 15 ≠ 12 by omega)]; exact b k hk
  · rw [u2_ne (show 376 ≠ 377 by omega), u2_ne (show 378 ≠ 377 by omega), u2_ne (show 16 ≠ 12 by omega), u2_ne (show 18 ≠ 12 by omega)]; exact c9 k hk
  · by_cases e2 : k = f
    · subst e2; rw [u2_at, u2_at]
    · rw [u2_off (by omega), u2_off (by omega)]; exact e k hk
theorem MS_cl {f : Nat} {x : Int32} (h : MS τ S.1) : MS (u2 τ 376 f x) (u2 S.1 16 f x) := by
  obtain ⟨⟨a1, a2, a3, a4, a5, a6⟩, b, c9, e⟩ := h
  refine ⟨⟨?_, ?_, ?_, ?_, ?_, ?_⟩, fun k hk => ?_, fun k hk => ⟨?_, ?_⟩, fun k hk => ?_⟩
  · rw [u2_off (by omega), u2_off (by omega)]; exact a1
  · rw [u2_off (by omega), u2_off (by omega)]; exact a2
  · rw [u2_off (by omega), u2_off (by omega)]; exact a3
  · rw [u2_off (by omega), u2_off (by omega)]; exact a4
  · rw [u2_off (by omega), u2_off (by omega)]; exact a5
  · rw [u2_off (by omega), u2_off (by omega)]; exact a6
  · rw [u2_ne (show 374 ≠ 376 by omega), u2_ne (show 375 ≠ 376 by omega), u2_ne (show 14 ≠ 16 by omega), u2_ne (show 15 ≠ 16 by omega)]; exact b k hk
  · by_cases e2 : k = f
    · subst e2; rw [u2_at, u2_at]
    · rw [u2_off (by omega), u2_off (by omega)]; exact (c9 k hk).1
  · rw [u2_off (by omega), u2_off (by omega)]; exact (c9 k hk).2
  · rw [u2_off (by omega), u2_off (by omega)]; exact e k hk
theorem m49o {f : Nat} {v : Int32} (hf : f < 6) (hR : RM τ S ck) : Ev (d + 1) 49 0 [some (.ref 370), some (.int (nI f)), some (.int v)] [] (sM M τ) (fun q9 M' => ∃ v9, q9 = .inl v9 ∧ v9 = some (.int (bI (decide (¬ S.1 12 f = v)))) ∧ ∃ τ', M' = sM M τ' ∧ RM τ' (if S.1 12 f = v then S else crS S f v) ck ∧ τ' 370 0 = 0 ∧ FrJ τ τ') := by
  have e77 := hR.1.2.2.2 f hf
  have c46 := m46 (d := d) (M := M) (c := 0) (by decide) (RM_t (x := 0) hR)
  refine ev_aload_n t_49_0 rfl ?_
  refine ev_iload_n t_49_1 rfl ?_
  refine ev_if_ltN t_49_2 (by omega) (fun h_2 => ?_) (fun h_2 => ?_)
  · exact h_2.elim
  · refine ev_iload_n t_49_5 rfl ?_
    refine ev_iconst t_49_6 ?_
    change Ev _ _ _ _ ([.int (nI (5)), .int (nI (f)), .ref 370]) _ _
    refine ev_icmp_leN t_49_7 (by omega) (by omega) (fun h_7 => ?_) (fun h_7 => ?_)
    · refine ev_iconst t_49_14 ?_
      change Ev _ _ _ _ ([.int (nI (0)), .ref 370]) _ _
      refine es_put o_MO t_49_15 rfl (Nat.le_of_ble_eq_true rfl) rfl ?_
      refine ev_aload_n t_49_18 rfl ?_
      refine es_get (x := .int ((u2 τ (370) 0 (nI (0))) (370) 0)) o_MO t_49_19 rfl ?_
      refine ev_top (y := (nI (0))) (by first | exact u2_at) ?_
      refine ev_if_gtN t_49_22 (by omega) (fun h_22 => ?_) (fun h_22 => ?_)
      · exact absurd rfl h_22
      · refine ev_aload_n t_49_25 rfl ?_
        refine es_get (x := .ref 377) o_MO t_49_26 rfl ?_
        refine ev_iload_n t_49_29 rfl ?_
        refine es_iald (k := f) a_m377 t_49_30 (by omega) ?_
        refine ev_top (y := (S.1 12 f)) (by rw [u2_off (by omega)]; exact e77) ?_
        refine ev_iload_n t_49_31 rfl ?_
        refine ev_icmp_ne t_49_32 (fun h_32 => ?_) (fun h_32 => ?_)
        · refine ev_aload_n t_49_37 rfl ?_
          refine ev_iconst t_49_38 ?_
          change Ev _ _ _ _ ([.int (nI (0)), .ref 370]) _ _
          refine ev_cl (pm_st_V t_49_39 (as := [.ref 370, .int (nI (0))]) (rest := []) (L0 := [some (.ref 370), some (.int (nI (0))), none]) rfl rfl (Nat.le_of_ble_eq_true rfl) (Nat.le_of_ble_eq_true rfl) rfl (es_rc o_MO rfl (Nat.le_of_ble_eq_true rfl))) rfl (c46) ?_
          rintro _ _ ⟨rfl, τ1, rfl, k1, k2, k3, k4⟩
          change Ev _ _ _ _ ([]) _ _
          refine ev_aload_n t_49_42 rfl ?_
          refine es_get (x := .ref 377) o_MO t_49_43 rfl ?_
          refine ev_iload_n t_49_46 rfl ?_
          refine ev_iload_n t_49_47 rfl ?_
          refine es_iast (k := f) a_m377 t_49_48 (by omega) ?_
          refine ev_iconst t_49_49 ?_
          change Ev _ _ _ _ ([.int (nI (1))]) _ _
          exact ev_reti t_49_50 (rz rfl (by decide)) ⟨_, rfl, by rw [decide_eq_true h_32]; rfl, _, rfl, (by rw [if_neg h_32]; exact RM_g k1 (MS_cv k1.1) (fun q h1 h2 => u2_ne (by omega)) (u2_off (by omega)) (fun m hm => u2_ne (by omega))), (by rw [u2_off (by omega), k2, u2_at]), ((FrJ.u (by omega) (by omega)).trans k3).trans (FrJ.u (by omega) (by omega))⟩
        · refine ev_iconst t_49_35 ?_
          change Ev _ _ _ _ ([.int (nI (0))]) _ _
          exact ev_reti t_49_36 (rz rfl (by decide)) ⟨_, rfl, by rw [decide_eq_false h_32]; rfl, _, rfl, (by rw [if_pos (Decidable.byContradiction h_32)]; exact RM_t hR), u2_at, FrJ.u (by omega) (by omega)⟩
    · omega
theorem m49t {x v : Int32} (h : BAD 6 x) (hR : RM τ S ck) : Ev (d + 1) 49 0 [some (.ref 370), some (.int x), some (.int v)] [] (sM M τ) (fun q9 M' => ∃ v9, q9 = .inl v9 ∧ v9 = some (.int 0) ∧ ∃ τ', M' = sM M τ' ∧ RM τ' S ck ∧ τ' 370 0 = 1 ∧ FrJ τ τ') := by
  refine ev_aload_n t_49_0 rfl ?_
  refine ev_iload_n t_49_1 rfl ?_
  refine ev_if_lt (y := 0) t_49_2 (fun h_2 => ?_) (fun h_2 => ?_)
  · refine ev_iconst t_49_10 ?_
    change Ev _ _ _ _ ([.int (nI (1)), .ref 370]) _ _
    refine ev_goto t_49_11 ?_
    refine es_put o_MO t_49_15 rfl (Nat.le_of_ble_eq_true rfl) rfl ?_
    refine ev_aload_n t_49_18 rfl ?_
    refine es_get (x := .int ((u2 τ (370) 0 (nI (1))) (370) 0)) o_MO t_49_19 rfl ?_
    refine ev_top (y := (nI (1))) (by first | exact u2_at) ?_
    refine ev_if_gtN t_49_22 (by omega) (fun h_22 => ?_) (fun h_22 => ?_)
    · refine ev_iconst t_49_35 ?_
      change Ev _ _ _ _ ([.int (nI (0))]) _ _
      exact ev_reti t_49_36 (rz rfl (by decide)) ⟨_, rfl, rfl, _, rfl, RM_t hR, u2_at, FrJ.u (by omega) (by omega)⟩
    · omega
  · refine ev_iload_n t_49_5 rfl ?_
    refine ev_iconst t_49_6 ?_
    change Ev _ _ _ _ ([.int (nI (5)), .int x, .ref 370]) _ _
    refine ev_icmp_le t_49_7 (fun h_7 => ?_) (fun h_7 => ?_)
    · exact absurd h_7 (BAD.le (e := 5) h (by decide) h_2)
    · refine ev_iconst t_49_10 ?_
      change Ev _ _ _ _ ([.int (nI (1)), .ref 370]) _ _
      refine ev_goto t_49_11 ?_
      refine es_put o_MO t_49_15 rfl (Nat.le_of_ble_eq_true rfl) rfl ?_
      refine ev_aload_n t_49_18 rfl ?_
      refine es_get (x := .int ((u2 τ (370) 0 (nI (1))) (370) 0)) o_MO t_49_19 rfl ?_
      refine ev_top (y := (nI (1))) (by first | exact u2_at) ?_
      refine ev_if_gtN t_49_22 (by omega) (fun h_22 => ?_) (fun h_22 => ?_)
      · refine ev_iconst t_49_35 ?_
        change Ev _ _ _ _ ([.int (nI (0))]) _ _
        exact ev_reti t_49_36 (rz rfl (by decide)) ⟨_, rfl, rfl, _, rfl, RM_t hR, u2_at, FrJ.u (by omega) (by omega)⟩
      · omega
theorem m50o {t c : Nat} (ht : t < 3) (hc : c < 3) (hR : RM τ S ck) : Ev (d + 1) 50 0 [some (.ref 370), some (.int (nI t)), some (.int (nI c))] [] (sM M τ) (fun q9 M' => ∃ v9, q9 = .inl v9 ∧ v9 = none ∧ ∃ τ', M' = sM M τ' ∧ RM τ' (u2 S.1 16 t (nI c), [], S.2.2) ck ∧ τ' 370 0 = 0 ∧ FrJ τ τ') := by
  have hR2 : RM (u2 (u2 τ 370 0 0) 376 t (nI c)) (u2 S.1 16 t (nI c), S.2.1, S.2.2) ck := RM_g (RM_t (x := 0) hR) (MS_cl (RM_t (x := 0) hR).1) (fun q h1 h2 => u2_ne (by omega)) (u2_off (by omega)) (fun m hm => u2_ne (by omega))
  obtain ⟨τ1, h1, h2, h3⟩ := m44 (d := d) (M := M) (τ := u2 (u2 τ 370 0 0) 376 t (nI c))
  have hR3 := RM_od (l := []) hR2 (List.nil_sublist _) (fun n hn => by rw [h3 n hn]; rfl) h2
  refine ev_aload_n t_50_0 rfl ?_
  refine ev_iload_n t_50_1 rfl ?_
  refine ev_if_ltN t_50_2 (by omega) (fun h_2 => ?_) (fun h_2 => ?_)
  · exact h_2.elim
  · refine ev_iload_n t_50_5 rfl ?_
    refine ev_iconst t_50_6 ?_
    change Ev _ _ _ _ ([.int (nI (2)), .int (nI (t)), .ref 370]) _ _
    refine ev_icmp_gtN t_50_7 (by omega) (by omega) (fun h_7 => ?_) (fun h_7 => ?_)
    · omega
    · refine ev_iload_n t_50_10 rfl ?_
      refine ev_if_ltN t_50_11 (by omega) (fun h_11 => ?_) (fun h_11 => ?_)
      · exact h_11.elim
      · refine ev_iload_n t_50_14 rfl ?_
        refine ev_iconst t_50_15 ?_
        change Ev _ _ _ _ ([.int (nI (2)), .int (nI (c)), .ref 370]) _ _
        refine ev_icmp_leN t_50_16 (by omega) (by omega) (fun h_16 => ?_) (fun h_16 => ?_)
        · refine ev_iconst t_50_23 ?_
          change Ev _ _ _ _ ([.int (nI (0)), .ref 370]) _ _
          refine es_put o_MO t_50_24 rfl (Nat.le_of_ble_eq_true rfl) rfl ?_
          refine ev_aload_n t_50_27 rfl ?_
          refine es_get (x := .int ((u2 τ (370) 0 (nI (0))) (370) 0)) o_MO t_50_28 rfl ?_
          refine ev_top (y := (nI (0))) (by first | exact u2_at) ?_
          refine ev_if_neN t_50_31 (by omega) (fun h_31 => ?_) (fun h_31 => ?_)
          · exact absurd rfl h_31
          · refine ev_aload_n t_50_34 rfl ?_
            refine es_get (x := .ref 376) o_MO t_50_35 rfl ?_
            refine ev_iload_n t_50_38 rfl ?_
            refine ev_iload_n t_50_39 rfl ?_
            refine es_iast (k := t) a_m376 t_50_40 (by omega) ?_
            refine ev_aload_n t_50_41 rfl ?_
            refine ev_cl (pm_st_V t_50_42 (as := [.ref 370]) (rest := []) (L0 := [some (.ref 370), none]) rfl rfl (Nat.le_of_ble_eq_true rfl) (Nat.le_of_ble_eq_true rfl) rfl (es_rc o_MO rfl (Nat.le_of_ble_eq_true rfl))) rfl (h1) ?_
            rintro _ _ ⟨rfl, rfl⟩
            change Ev _ _ _ _ ([]) _ _
            exact ev_retv t_50_45 rfl ⟨none, rfl, rfl, _, rfl, hR3, (by rw [h2 370 (by omega), u2_off (by omega), u2_at]), ((FrJ.u (by omega) (by omega)).trans (FrJ.u (by omega) (by omega))).trans (FrJ.h h2)⟩
        · omega
theorem m50t {x y : Int32} (h : BAD 3 x ∨ BAD 3 y) (hR : RM τ S ck) : Ev (d + 1) 50 0 [some (.ref 370), some (.int x), some (.int y)] [] (sM M τ) (fun q9 M' => ∃ v9, q9 = .inl v9 ∧ v9 = none ∧ ∃ τ', M' = sM M τ' ∧ RM τ' S ck ∧ τ' 370 0 = 1 ∧ FrJ τ τ') := by
  refine ev_aload_n t_50_0 rfl ?_
  refine ev_iload_n t_50_1 rfl ?_
  refine ev_if_lt (y := 0) t_50_2 (fun h_2 => ?_) (fun h_2 => ?_)
  · refine ev_iconst t_50_19 ?_
    change Ev _ _ _ _ ([.int (nI (1)), .ref 370]) _ _
    refine ev_goto t_50_20 ?_
    refine es_put o_MO t_50_24 rfl (Nat.le_of_ble_eq_true rfl) rfl ?_
    refine ev_aload_n t_50_27 rfl ?_
    refine es_get (x := .int ((u2 τ (370) 0 (nI (1))) (370) 0)) o_MO t_50_28 rfl ?_
    refine ev_top (y := (nI (1))) (by first | exact u2_at) ?_
    refine ev_if_neN t_50_31 (by omega) (fun h_31 => ?_) (fun h_31 => ?_)
    · exact ev_retv t_50_45 rfl ⟨none, rfl, rfl, _, rfl, RM_t hR, u2_at, FrJ.u (by omega) (by omega)⟩
    · omega
  · refine ev_iload_n t_50_5 rfl ?_
    refine ev_iconst t_50_6 ?_
    change Ev _ _ _ _ ([.int (nI (2)), .int x, .ref 370]) _ _
    refine ev_icmp_gt t_50_7 (fun h_7 => ?_) (fun h_7 => ?_)
    · refine ev_iconst t_50_19 ?_
      change Ev _ _ _ _ ([.int (nI (1)), .ref 370]) _ _
      refine ev_goto t_50_20 ?_
      refine es_put o_MO t_50_24 rfl (Nat.le_of_ble_eq_true rfl) rfl ?_
      refine ev_aload_n t_50_27 rfl ?_
      refine es_get (x := .int ((u2 τ (370) 0 (nI (1))) (370) 0)) o_MO t_50_28 rfl ?_
      refine ev_top (y := (nI (1))) (by first | exact u2_at) ?_
      refine ev_if_neN t_50_31 (by omega) (fun h_31 => ?_) (fun h_31 => ?_)
      · exact ev_retv t_50_45 rfl ⟨none, rfl, rfl, _, rfl, RM_t hR, u2_at, FrJ.u (by omega) (by omega)⟩
      · omega
    · refine ev_iload_n t_50_10 rfl ?_
      refine ev_if_lt (y := 0) t_50_11 (fun h_11 => ?_) (fun h_11 => ?_)
      · refine ev_iconst t_50_19 ?_
        change Ev _ _ _ _ ([.int (nI (1)), .ref 370]) _ _
        refine ev_goto t_50_20 ?_
        refine es_put o_MO t_50_24 rfl (Nat.le_of_ble_eq_true rfl) rfl ?_
        refine ev_aload_n t_50_27 rfl ?_
        refine es_get (x := .int ((u2 τ (370) 0 (nI (1))) (370) 0)) o_MO t_50_28 rfl ?_
        refine ev_top (y := (nI (1))) (by first | exact u2_at) ?_
        refine ev_if_neN t_50_31 (by omega) (fun h_31 => ?_) (fun h_31 => ?_)
        · exact ev_retv t_50_45 rfl ⟨none, rfl, rfl, _, rfl, RM_t hR, u2_at, FrJ.u (by omega) (by omega)⟩
        · omega
      · refine ev_iload_n t_50_14 rfl ?_
        refine ev_iconst t_50_15 ?_
        change Ev _ _ _ _ ([.int (nI (2)), .int y, .ref 370]) _ _
        refine ev_icmp_le t_50_16 (fun h_16 => ?_) (fun h_16 => ?_)
        · (rcases h with h | h; exact absurd (Int32.not_lt.mp h_7) (BAD.le (e := 2) h (by decide) h_2); exact absurd h_16 (BAD.le (e := 2) h (by decide) h_11))
        · refine ev_iconst t_50_19 ?_
          change Ev _ _ _ _ ([.int (nI (1)), .ref 370]) _ _
          refine ev_goto t_50_20 ?_
          refine es_put o_MO t_50_24 rfl (Nat.le_of_ble_eq_true rfl) rfl ?_
          refine ev_aload_n t_50_27 rfl ?_
          refine es_get (x := .int ((u2 τ (370) 0 (nI (1))) (370) 0)) o_MO t_50_28 rfl ?_
          refine ev_top (y := (nI (1))) (by first | exact u2_at) ?_
          refine ev_if_neN t_50_31 (by omega) (fun h_31 => ?_) (fun h_31 => ?_)
          · exact ev_retv t_50_45 rfl ⟨none, rfl, rfl, _, rfl, RM_t hR, u2_at, FrJ.u (by omega) (by omega)⟩
          · omega
end MO
