/-! The reference: define. -/
section MZ
variable {d : Nat} {M : pm_M} {τ : Nat → Nat → Int32} {S : SP} {ck : Nat}
theorem m45t {x : Int32} (h : BAD 6 x) (hR : RM τ S ck) : Ev (d + 1) 45 0 [some (.ref 370), some (.int x), none, none] [] (sM M τ) (fun q9 M' => ∃ v9, q9 = .inl v9 ∧ v9 = some (.int 0) ∧ ∃ τ', M' = sM M τ' ∧ RM τ' S ck ∧ τ' 370 0 = 1 ∧ FrJ τ τ') := by
  refine ev_aload_n t_45_0 rfl ?_
  refine ev_iload_n t_45_1 rfl ?_
  refine ev_if_lt (y := 0) t_45_2 (fun h_2 => ?_) (fun h_2 => ?_)
  · refine ev_iconst t_45_10 ?_
    change Ev _ _ _ _ ([.int (nI (1)), .ref 370]) _ _
    refine ev_goto t_45_11 ?_
    refine es_put o_MO t_45_15 rfl (Nat.le_of_ble_eq_true rfl) rfl ?_
    refine ev_aload_n t_45_18 rfl ?_
    refine es_get (x := .int ((u2 τ (370) 0 (nI (1))) (370) 0)) o_MO t_45_19 rfl ?_
    refine ev_top (y := (nI (1))) (by first | exact u2_at) ?_
    refine ev_if_leN t_45_22 (by omega) (fun h_22 => ?_) (fun h_22 => ?_)
    · omega
    · refine ev_iconst t_45_25 ?_
      change Ev _ _ _ _ ([.int (nI (0))]) _ _
      exact ev_reti t_45_26 (ri rfl) ⟨_, rfl, rfl, _, rfl, RM_t hR, u2_at, FrJ.u (by omega) (by omega)⟩
  · refine ev_iload_n t_45_5 rfl ?_
    refine ev_iconst t_45_6 ?_
    change Ev _ _ _ _ ([.int (nI (5)), .int x, .ref 370]) _ _
    refine ev_icmp_le t_45_7 (fun h_7 => ?_) (fun h_7 => ?_)
    · exact absurd h_7 (BAD.le (e := 5) h (by decide) h_2)
    · refine ev_iconst t_45_10 ?_
      change Ev _ _ _ _ ([.int (nI (1)), .ref 370]) _ _
      refine ev_goto t_45_11 ?_
      refine es_put o_MO t_45_15 rfl (Nat.le_of_ble_eq_true rfl) rfl ?_
      refine ev_aload_n t_45_18 rfl ?_
      refine es_get (x := .int ((u2 τ (370) 0 (nI (1))) (370) 0)) o_MO t_45_19 rfl ?_
      refine ev_top (y := (nI (1))) (by first | exact u2_at) ?_
      refine ev_if_leN t_45_22 (by omega) (fun h_22 => ?_) (fun h_22 => ?_)
      · omega
      · refine ev_iconst t_45_25 ?_
        change Ev _ _ _ _ ([.int (nI (0))]) _ _
        exact ev_reti t_45_26 (ri rfl) ⟨_, rfl, rfl, _, rfl, RM_t hR, u2_at, FrJ.u (by omega) (by omega)⟩
theorem m45f {f i : Nat} {dr : List Nat} (hf : f < 6) (hl : dr.length ≤ 24) (h256 : ∀ c ∈ dr, c < 256) (hD : MD τ dr) (hR : RM τ S ck) (hx : flt dr 1 0 = some i) : Ev (d + 1) 45 0 [some (.ref 370), some (.int (nI f)), none, none] [] (sM M τ) (fun q9 M' => ∃ v9, q9 = .inl v9 ∧ v9 = some (.int (nI i)) ∧ ∃ τ', M' = sM M τ' ∧ RM τ' S ck ∧ τ' 370 0 = 0 ∧ FrJ τ τ') := by
  have hD1 : MD (u2 τ 370 0 0) dr := ⟨by rw [u2_off (by omega)]; exact hD.1, fun i hi => by rw [u2_off (by omega)]; exact hD.2 i hi⟩
  have e2 := hD1.1
  have c9 := m45l (d := d) (M := M) (f := f) (Q := (fun q9 M' => ∃ v9, q9 = .inl v9 ∧ v9 = some (.int (nI i)) ∧ ∃ τ', M' = sM M τ' ∧ RM τ' S ck ∧ τ' 370 0 = 0 ∧ FrJ τ τ')) hl h256 hD1 (fun j hj _ => by
    rw [hx] at hj
    cases hj
    exact ⟨_, rfl, rfl, _, rfl, RM_t hR, u2_at, FrJ.u (by omega) (by omega)⟩) (fun due hdue h49 => by
    have hd0 : ¬ due = 0 := fun e => by rw [hx, if_pos e] at hdue; cases hdue
    rw [hx, if_neg hd0] at hdue
    have hil : i = dr.length := Option.some.inj hdue
    subst hil
    refine ev_iload_n t_45_77 rfl ?_
    refine ev_if_leN t_45_78 (by omega) (fun h_78 => ?_) (fun h_78 => ?_)
    · omega
    · refine ev_aload_n t_45_81 rfl ?_
      refine es_get (x := .int ((u2 τ 370 0 0) (370) 2)) o_MO t_45_82 rfl ?_
      refine ev_top (y := (nI (dr.length))) (by exact e2) ?_
      exact ev_reti t_45_85 (ri rfl) ⟨_, rfl, rfl, _, rfl, RM_t hR, u2_at, FrJ.u (by omega) (by omega)⟩) dr.length 0 1 (by omega) (by omega) rfl
  refine ev_aload_n t_45_0 rfl ?_
  refine ev_iload_n t_45_1 rfl ?_
  refine ev_if_ltN t_45_2 (by omega) (fun h_2 => ?_) (fun h_2 => ?_)
  · exact h_2.elim
  · refine ev_iload_n t_45_5 rfl ?_
    refine ev_iconst t_45_6 ?_
    change Ev _ _ _ _ ([.int (nI (5)), .int (nI (f)), .ref 370]) _ _
    refine ev_icmp_leN t_45_7 (by omega) (by omega) (fun h_7 => ?_) (fun h_7 => ?_)
    · refine ev_iconst t_45_14 ?_
      change Ev _ _ _ _ ([.int (nI (0)), .ref 370]) _ _
      refine es_put o_MO t_45_15 rfl (Nat.le_of_ble_eq_true rfl) rfl ?_
      refine ev_aload_n t_45_18 rfl ?_
      refine es_get (x := .int ((u2 τ (370) 0 (nI (0))) (370) 0)) o_MO t_45_19 rfl ?_
      refine ev_top (y := (nI (0))) (by first | exact u2_at) ?_
      refine ev_if_leN t_45_22 (by omega) (fun h_22 => ?_) (fun h_22 => ?_)
      · refine ev_iconst t_45_27 ?_
        change Ev _ _ _ _ ([.int (nI (1))]) _ _
        refine ev_istore_n (L' := [some (.ref 370), some (.int (nI (f))), some (.int (nI (1))), none]) t_45_28 (Nat.le_of_ble_eq_true rfl) rfl ?_
        refine ev_iconst t_45_29 ?_
        change Ev _ _ _ _ ([.int (nI (0))]) _ _
        refine ev_istore_n (L' := [some (.ref 370), some (.int (nI (f))), some (.int (nI (1))), some (.int (nI (0)))]) t_45_30 (Nat.le_of_ble_eq_true rfl) rfl ?_
        exact c9
      · exact absurd rfl h_22
    · omega
end MZ
