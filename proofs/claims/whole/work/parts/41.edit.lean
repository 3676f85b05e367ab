/-! The reference: edits. -/
theorem RM_g {τ τ' : Nat → Nat → Int32} {S : SP} {ck : Nat} {G' : Nat → Nat → Int32} (h : RM τ S ck) (hMS : MS τ' G') (h1 : ∀ q, 379 ≤ q → q ≤ 387 → τ' q = τ q) (h2 : τ' 370 20 = τ 370 20) (hG : ∀ m, m < 96 → G' (38 + 2 * m) = S.1 (38 + 2 * m)) : RM τ' (G', S.2.1, S.2.2) ck := by
  obtain ⟨-, g2, g3, ⟨st, g4, g5, g6⟩, g7, g8⟩ := h
  refine ⟨hMS, ?_, fun m hm => ?_, ⟨st, h2.trans g4, ?_, g6⟩, g7, g8⟩
  · rw [h1 379 (by omega) (by omega)]; exact g2
  · have := g3 m hm
    unfold MC at this ⊢
    dsimp only
    rw [h1 380 (by omega) (by omega), h1 381 (by omega) (by omega), h1 382 (by omega) (by omega), h1 383 (by omega) (by omega), h1 384 (by omega) (by omega), h1 385 (by omega) (by omega), h1 386 (by omega) (by omega), hG m (g8 m hm)]
    exact this
  · rw [h1 387 (by omega) (by omega)]; exact g5
section MN
variable {d : Nat} {M : pm_M}
theorem m46l {w : Int32} : ∀ (k i : Nat) (τ : Nat → Nat → Int32), i + k = 96 → ∃ τ', Ev d 46 22 [some (.ref 370), some (.int w), some (.int (nI i))] [] (sM M τ) (fun q9 M' => ∃ v9, q9 = .inl v9 ∧ v9 = none ∧ M' = sM M τ') ∧ (∀ q, q ≠ 379 → τ' q = τ q) ∧ (∀ n, n < i → τ' 379 n = τ 379 n) ∧ ∀ n, i ≤ n → n < 96 → τ' 379 n = bI (decide (¬ τ 379 n = 0 ∧ τ 384 n = 0)) := by
  intro k
  induction k with
  | zero =>
    intro i τ hi
    obtain rfl : i = 96 := by omega
    refine ⟨τ, ?_, fun _ _ => rfl, fun _ _ => rfl, fun n h1 h2 => by omega⟩
    refine ev_iload_n t_46_22 rfl ?_
    refine ev_bipush t_46_23 ?_
    change Ev _ _ _ _ ([.int (nI (96)), .int (nI (96))]) _ _
    refine ev_icmp_geN t_46_25 (by omega) (by omega) (fun h_25 => ?_) (fun h_25 => ?_)
    · exact ev_retv t_46_63 rfl ⟨none, rfl, rfl, rfl⟩
    · omega
  | succ k ih =>
    intro i τ hi
    obtain ⟨τ1, h1, h2, h3, h4⟩ := ih (i + 1) (u2 τ 379 i (bI (decide (¬ τ 379 i = 0 ∧ τ 384 i = 0)))) (by omega)
    refine ⟨τ1, ?_, fun q hq => by rw [h2 q hq, u2_ne hq], fun n hn => by rw [h3 n (by omega), u2_off (by omega)], fun n ha hb => ?_⟩
    rotate_left
    · by_cases e : n = i
      · subst e; rw [h3 n (by omega), u2_at]
      · rw [h4 n (by omega) hb, u2_off (by omega), u2_off (by omega)]
    refine ev_iload_n t_46_22 rfl ?_
    refine ev_bipush t_46_23 ?_
    change Ev _ _ _ _ ([.int (nI (96)), .int (nI (i))]) _ _
    refine ev_icmp_geN t_46_25 (by omega) (by omega) (fun h_25 => ?_) (fun h_25 => ?_)
    · omega
    · refine ev_aload_n t_46_28 rfl ?_
      refine es_get (x := .ref 379) o_MO t_46_29 rfl ?_
      refine ev_iload_n t_46_32 rfl ?_
      refine ev_aload_n t_46_33 rfl ?_
      refine es_get (x := .ref 379) o_MO t_46_34 rfl ?_
      refine ev_iload_n t_46_37 rfl ?_
      refine es_zald (k := i) a_m379 t_46_38 (by omega) ?_
      refine ev_if_eq (y := 0) t_46_39 (fun h_39 => ?_) (fun h_39 => ?_)
      · refine ev_iconst t_46_55 ?_
        change Ev _ _ _ _ ([.int (nI (0)), .int (nI (i)), .ref 379]) _ _
        refine ev_top (y := (bI (decide (¬ τ 379 i = 0 ∧ τ 384 i = 0)))) (by rw [decide_eq_false (fun h => h.1 h_39)]; rfl) ?_
        refine es_zast (k := i) (y := (bI (decide (¬ τ 379 i = 0 ∧ τ 384 i = 0)))) a_m379 t_46_56 (by omega) (by rcases bI_01 (decide (¬ τ 379 i = 0 ∧ τ 384 i = 0)) with e | e <;> rw [e] <;> rfl) ?_
        refine ev_iincN (L' := [some (.ref 370), some (.int w), some (.int (nI (i + 1)))]) t_46_57 rfl (Nat.le_of_ble_eq_true rfl) rfl ?_
        refine ev_goto t_46_60 ?_
        exact h1
      · refine ev_aload_n t_46_42 rfl ?_
        refine es_get (x := .ref 384) o_MO t_46_43 rfl ?_
        refine ev_iload_n t_46_46 rfl ?_
        refine es_zald (k := i) a_m384 t_46_47 (by omega) ?_
        refine ev_if_ne (y := 0) t_46_48 (fun h_48 => ?_) (fun h_48 => ?_)
        · refine ev_iconst t_46_55 ?_
          change Ev _ _ _ _ ([.int (nI (0)), .int (nI (i)), .ref 379]) _ _
          refine ev_top (y := (bI (decide (¬ τ 379 i = 0 ∧ τ 384 i = 0)))) (by rw [decide_eq_false (fun h => h_48 h.2)]; rfl) ?_
          refine es_zast (k := i) (y := (bI (decide (¬ τ 379 i = 0 ∧ τ 384 i = 0)))) a_m379 t_46_56 (by omega) (by rcases bI_01 (decide (¬ τ 379 i = 0 ∧ τ 384 i = 0)) with e | e <;> rw [e] <;> rfl) ?_
          refine ev_iincN (L' := [some (.ref 370), some (.int w), some (.int (nI (i + 1)))]) t_46_57 rfl (Nat.le_of_ble_eq_true rfl) rfl ?_
          refine ev_goto t_46_60 ?_
          exact h1
        · refine ev_iconst t_46_51 ?_
          change Ev _ _ _ _ ([.int (nI (1)), .int (nI (i)), .ref 379]) _ _
          refine ev_goto t_46_52 ?_
          refine ev_top (y := (bI (decide (¬ τ 379 i = 0 ∧ τ 384 i = 0)))) (by rw [decide_eq_true ⟨h_39, Decidable.byContradiction h_48⟩]; rfl) ?_
          refine es_zast (k := i) (y := (bI (decide (¬ τ 379 i = 0 ∧ τ 384 i = 0)))) a_m379 t_46_56 (by omega) (by rcases bI_01 (decide (¬ τ 379 i = 0 ∧ τ 384 i = 0)) with e | e <;> rw [e] <;> rfl) ?_
          refine ev_iincN (L' := [some (.ref 370), some (.int w), some (.int (nI (i + 1)))]) t_46_57 rfl (Nat.le_of_ble_eq_true rfl) rfl ?_
          refine ev_goto t_46_60 ?_
          exact h1
variable {τ : Nat → Nat → Int32} {S : SP} {ck : Nat}
theorem MS_ed {c : Nat} {x : Int32} (hc : c < 3) (h : MS τ S.1) : MS (u2 (u2 τ 370 5 x) 378 c x) (u2 (u2 S.1 17 0 x) 18 c x) := by
  obtain ⟨⟨a1, a2, a3, a4, a5, a6⟩, b, c9, e⟩ := h
  refine ⟨⟨?_, ?_, ?_, ?_, ?_, ?_⟩, fun k hk => ?_, fun k hk => ⟨?_, ?_⟩, fun k hk => ?_⟩
  · rw [u2_off (by omega), u2_at, u2_off (by omega), u2_at]
  · rw [u2_off (by omega), u2_off (by omega), u2_off (by omega), u2_off (by omega)]; exact a2
  · rw [u2_off (by omega), u2_off (by omega), u2_off (by omega), u2_off (by omega)]; exact a3
  · rw [u2_off (by omega), u2_off (by omega), u2_off (by omega), u2_off (by omega)]; exact a4
  · rw [u2_off (by omega), u2_off (by omega), u2_off (by omega), u2_off (by omega)]; exact a5
  · rw [u2_off (by omega), u2_off (by omega), u2_off (by omega), u2_off (by omega)]; exact a6
  · have := b k hk
    rw [u2_ne (show 374 ≠ 378 by omega), u2_ne (show 374 ≠ 370 by omega), u2_ne (show 375 ≠ 378 by omega), u2_ne (show 375 ≠ 370 by omega), u2_ne (show 14 ≠ 18 by omega), u2_ne (show 14 ≠ 17 by omega), u2_ne (show 15 ≠ 18 by omega), u2_ne (show 15 ≠ 17 by omega)]
    exact this
  · rw [u2_off (by omega), u2_off (by omega), u2_off (by omega), u2_off (by omega)]; exact (c9 k hk).1
  · by_cases e : k = c
    · subst e; rw [u2_at, u2_at]
    · rw [u2_off (by omega), u2_off (by omega), u2_off (by omega), u2_off (by omega)]; exact (c9 k hk).2
  · rw [u2_off (by omega), u2_off (by omega), u2_off (by omega), u2_off (by omega)]; exact e k hk
theorem m46 {c : Nat} (hc : c < 3) (hR : RM τ S ck) : Ev d 46 0 [some (.ref 370), some (.int (nI c)), none] [] (sM M τ) (fun q9 M' => ∃ v9, q9 = .inl v9 ∧ v9 = none ∧ ∃ τ', M' = sM M τ' ∧ RM τ' (edS S c) ck ∧ τ' 370 0 = τ 370 0 ∧ FrJ τ τ' ∧ ∀ k, k < 6 → τ' 377 k = τ 377 k) := by
  have e5 := hR.1.1.1
  have hMS := MS_ed (x := S.1 17 0 + 1) hc hR.1
  have hR1 : RM (u2 (u2 τ 370 5 (S.1 17 0 + 1)) 378 c (S.1 17 0 + 1)) (u2 (u2 S.1 17 0 (S.1 17 0 + 1)) 18 c (S.1 17 0 + 1), S.2.1, S.2.2) ck := RM_g hR hMS (fun q h1 h2 => by rw [u2_ne (by omega), u2_ne (by omega)]) (by rw [u2_off (by omega), u2_off (by omega)]) (fun m hm => by rw [u2_ne (by omega), u2_ne (by omega)])
  obtain ⟨τ1, h1, h2, -, h4⟩ := m46l (d := d) (M := M) (w := nI c) 96 0 (u2 (u2 τ 370 5 (S.1 17 0 + 1)) 378 c (S.1 17 0 + 1)) rfl
  have hR2 : RM τ1 (edS S c) ck := by
    refine RM_od hR1 List.filter_sublist (fun n hn => ?_) h2
    rw [h4 n (by omega) hn, u2_ne (show 379 ≠ 378 by omega), u2_ne (show 379 ≠ 370 by omega), u2_ne (show 384 ≠ 378 by omega), u2_ne (show 384 ≠ 370 by omega), hR.2.1 n hn]
    congr 1
    rw [decide_eq_decide, List.mem_filter]
    by_cases hm : n ∈ S.2.1
    · rw [(hR.2.2.1 n hm).1.2.2.2.2]
      simp [hm, bI]
    · simp [hm, bI]
  refine ev_aload_n t_46_0 rfl ?_
  refine ev_dup t_46_1 rfl ?_
  refine es_get (x := .int (τ (370) 5)) o_MO t_46_2 rfl ?_
  refine ev_top (y := (S.1 17 0)) e5 ?_
  refine ev_iconst t_46_5 ?_
  change Ev _ _ _ _ ([.int (nI (1)), .int (S.1 17 0), .ref 370]) _ _
  refine ev_iadd t_46_6 ?_
  refine es_put o_MO t_46_7 rfl (Nat.le_of_ble_eq_true rfl) rfl ?_
  refine ev_aload_n t_46_10 rfl ?_
  refine es_get (x := .ref 378) o_MO t_46_11 rfl ?_
  refine ev_iload_n t_46_14 rfl ?_
  refine ev_aload_n t_46_15 rfl ?_
  refine es_get (x := .int ((u2 τ (370) 5 ((S.1 17 0) + (nI (1)))) (370) 5)) o_MO t_46_16 rfl ?_
  refine ev_top (y := (S.1 17 0 + 1)) (show _ = S.1 17 0 + 1 from u2_at) ?_
  refine es_iast (k := c) a_m378 t_46_19 (by omega) ?_
  refine ev_iconst t_46_20 ?_
  change Ev _ _ _ _ ([.int (nI (0))]) _ _
  refine ev_istore_n (L' := [some (.ref 370), some (.int (nI (c))), some (.int (nI (0)))]) t_46_21 (Nat.le_of_ble_eq_true rfl) rfl ?_
  refine ev_mono h1 ?_
  rintro r9 M9 ⟨v9, e1, e2, e3⟩
  exact ⟨v9, e1, e2, τ1, e3, hR2, (by rw [h2 370 (by omega), u2_off (by omega), u2_off (by omega)]), ((FrJ.u (by omega) (by omega)).trans (FrJ.u (by omega) (by omega))).trans (FrJ.h h2), fun k hk => by rw [h2 377 (by omega), u2_ne (by omega), u2_ne (by omega)]⟩
end MN
