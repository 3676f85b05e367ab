/-! The reference: note, behind; the end of a look through the reads. -/
section MJ
variable {d : Nat} {M : pm_M} {τ : Nat → Nat → Int32}
theorem m58l {r : Nat} {rd : List Nat} (hr : r < 256) (hb : ∀ x ∈ rd, x < 256) (h24 : rd.length < 24) (h3 : τ 370 34 = nI rd.length) (h4 : ∀ i, i < rd.length → τ 393 i = nI (rd.getD i 0)) : ∀ (k i : Nat), i + k = rd.length → (∀ j, j < i → rd.getD j 0 ≠ r) → Ev d 58 2 [some (.ref 370), some (.int (nI r)), some (.int (nI i))] [] (sM M τ) (fun q9 M' => ∃ v9, q9 = .inl v9 ∧ v9 = none ∧ M' = sM M (if r ∈ rd then τ else u2 (u2 τ 393 rd.length (nI r)) 370 34 (nI (rd.length + 1)))) := by
  intro k
  induction k with
  | zero =>
    intro i hi hj
    obtain rfl : i = rd.length := by omega
    have hm : r ∉ rd := fun h => by
      obtain ⟨j, hj1, hj2⟩ := List.getElem_of_mem h
      exact hj j hj1 (by simp [List.getD_eq_getElem?_getD, hj1, hj2])
    rw [if_neg hm]
    refine ev_iload_n t_58_2 rfl ?_
    refine ev_aload_n t_58_3 rfl ?_
    refine es_get (x := .int (τ (370) 34)) o_MO t_58_4 rfl ?_
    refine ev_top (y := (nI (rd.length))) (by (repeat rw [u2_off (by omega)]); exact h3) ?_
    refine ev_icmp_geN t_58_7 (by omega) (by omega) (fun h_7 => ?_) (fun h_7 => ?_)
    · refine ev_aload_n t_58_27 rfl ?_
      refine es_get (x := .ref 393) o_MO t_58_28 rfl ?_
      refine ev_aload_n t_58_31 rfl ?_
      refine es_get (x := .int (τ (370) 34)) o_MO t_58_32 rfl ?_
      refine ev_top (y := (nI (rd.length))) (by (repeat rw [u2_off (by omega)]); exact h3) ?_
      refine ev_iload_n t_58_35 rfl ?_
      refine es_iast (k := rd.length) a_m393 t_58_36 (by omega) ?_
      refine ev_aload_n t_58_37 rfl ?_
      refine ev_dup t_58_38 rfl ?_
      refine es_get (x := .int ((u2 τ (393) (rd.length) (nI (r))) (370) 34)) o_MO t_58_39 rfl ?_
      refine ev_top (y := (nI (rd.length))) (by (repeat rw [u2_off (by omega)]); exact h3) ?_
      refine ev_iconst t_58_42 ?_
      change Ev _ _ _ _ ([.int (nI (1)), .int (nI (rd.length)), .ref 370]) _ _
      refine ev_iaddN t_58_43 ?_
      refine es_put o_MO t_58_44 rfl (Nat.le_of_ble_eq_true rfl) rfl ?_
      exact ev_retv t_58_47 rfl ⟨none, rfl, rfl, rfl⟩
    · omega
  | succ k ih =>
    intro i hi hj
    have hil : i < rd.length := by omega
    have hx : rd.getD i 0 = rd[i] := by simp [List.getD_eq_getElem?_getD, hil]
    have hx2 : rd.getD i 0 < 256 := by rw [hx]; exact hb _ (List.getElem_mem hil)
    refine ev_iload_n t_58_2 rfl ?_
    refine ev_aload_n t_58_3 rfl ?_
    refine es_get (x := .int (τ (370) 34)) o_MO t_58_4 rfl ?_
    refine ev_top (y := (nI (rd.length))) (by (repeat rw [u2_off (by omega)]); exact h3) ?_
    refine ev_icmp_geN t_58_7 (by omega) (by omega) (fun h_7 => ?_) (fun h_7 => ?_)
    · omega
    · refine ev_aload_n t_58_10 rfl ?_
      refine es_get (x := .ref 393) o_MO t_58_11 rfl ?_
      refine ev_iload_n t_58_14 rfl ?_
      refine es_iald (k := i) a_m393 t_58_15 (by omega) ?_
      refine ev_top (h4 i hil) ?_
      refine ev_iload_n t_58_16 rfl ?_
      refine ev_icmp_neN t_58_17 (by omega) (by omega) (fun h_17 => ?_) (fun h_17 => ?_)
      · refine ev_iincN (L' := [some (.ref 370), some (.int (nI (r))), some (.int (nI (i + 1)))]) t_58_21 rfl (Nat.le_of_ble_eq_true rfl) rfl ?_
        refine ev_goto t_58_24 ?_
        exact ih (i + 1) (by omega) (fun j hj9 => by
          by_cases e : j = i
          · rw [e]; exact h_17
          · exact hj j (by omega))
      · exact ev_retv t_58_20 rfl ⟨none, rfl, rfl, by rw [if_pos (show r ∈ rd from (show rd.getD i 0 = r by omega) ▸ hx ▸ List.getElem_mem hil)]⟩
theorem m58 {r : Nat} {rd : List Nat} (hr : r < 256) (hb : ∀ x ∈ rd, x < 256) (h24 : rd.length < 24) (h3 : τ 370 34 = nI rd.length) (h4 : ∀ i, i < rd.length → τ 393 i = nI (rd.getD i 0)) : Ev d 58 0 [some (.ref 370), some (.int (nI r)), none] [] (sM M τ) (fun q9 M' => ∃ v9, q9 = .inl v9 ∧ v9 = none ∧ M' = sM M (if r ∈ rd then τ else u2 (u2 τ 393 rd.length (nI r)) 370 34 (nI (rd.length + 1)))) := by
  refine ev_iconst t_58_0 ?_
  change Ev _ _ _ _ ([.int (nI (0))]) _ _
  refine ev_istore_n (L' := [some (.ref 370), some (.int (nI (r))), some (.int (nI (0)))]) t_58_1 (Nat.le_of_ble_eq_true rfl) rfl ?_
  exact m58l hr hb h24 h3 h4 rd.length 0 (by omega) (fun j hj => by omega)
theorem m59l {T : Nat → List Nat} {f : Nat} (hf : f < 6) (hX : MX τ T) (h24 : (T f).length ≤ 24) (h256 : ∀ c ∈ T f, c < 256) {w : Int32} : ∀ (k i due D : Nat), i + k = (T f).length → Rst D ((T f).drop i) → due ≤ D → due ≤ 1 + 2 * i → Ev (d + 1) 59 5 [some (.ref 370), some (.int (nI f)), some (.int w), some (.int (nI due)), some (.int (nI i))] [] (sM M τ) (fun q9 M' => ∃ v9, q9 = .inl v9 ∧ v9 = some (.int (nI (bhd ((T f).drop i) due i))) ∧ M' = sM M τ) := by
  intro k
  induction k with
  | zero =>
    intro i due D hi hRs hd hb
    have e : (T f).drop i = [] := List.drop_eq_nil_of_le (by omega)
    rw [e] at hRs ⊢
    have hD : D = 0 := hRs
    obtain rfl : due = 0 := by omega
    refine ev_iload_n t_59_5 rfl ?_
    refine ev_if_leN t_59_6 (by omega) (fun h_6 => ?_) (fun h_6 => ?_)
    · refine ev_iload t_59_35 rfl ?_
      exact ev_reti t_59_37 (ri rfl) ⟨_, rfl, rfl, rfl⟩
    · exact absurd rfl h_6
  | succ k ih =>
    intro i due D hi hRs hd hb
    have hil : i < (T f).length := by omega
    have hx : (T f).getD i 0 = (T f)[i] := by simp [List.getD_eq_getElem?_getD, hil]
    have hx2 : (T f).getD i 0 < 256 := by rw [hx]; exact h256 _ (List.getElem_mem hil)
    have et := (hX f hf).2 i hil
    rw [drop_at hil] at hRs ⊢
    obtain ⟨hD, h9, hRs2⟩ := hRs
    have h8 := ow_le h9
    refine ev_iload_n t_59_5 rfl ?_
    refine ev_if_leN t_59_6 (by omega) (fun h_6 => ?_) (fun h_6 => ?_)
    · refine ev_iload t_59_35 rfl ?_
      exact ev_reti t_59_37 (ri rfl) ⟨_, rfl, by simp only [bhd]; rw [if_pos h_6], rfl⟩
    · refine ev_iload_n t_59_9 rfl ?_
      refine ev_aload_n t_59_10 rfl ?_
      refine es_get (x := .ref 372) o_MO t_59_11 rfl ?_
      refine ev_bipush t_59_14 ?_
      change Ev _ _ _ _ ([.int (nI (24)), .ref 372, .int (nI (due))]) _ _
      refine ev_iload_n t_59_16 rfl ?_
      refine ev_imulN t_59_17 ?_
      refine ev_iload t_59_18 rfl ?_
      refine ev_iaddN t_59_20 ?_
      refine es_iald (k := ((24) * (f)) + (i)) a_m372 t_59_21 (by omega) ?_
      refine ev_top et ?_
      refine ev_cl (pm_st_S t_59_22 (Nat.le_of_ble_eq_true rfl) (as := [.int (nI ((T f).getD i 0))]) (rest := [.int (nI (due))]) (L0 := [some (.int (nI ((T f).getD i 0)))]) rfl rfl (Nat.le_of_ble_eq_true rfl) (Nat.le_of_ble_eq_true rfl) rfl) rfl (m43 (by omega)) ?_
      rintro _ _ ⟨rfl, rfl⟩
      change Ev _ _ _ _ ([.int (owI ((T f).getD i 0)), .int (nI (due))]) _ _
      refine ev_top (owI_k rfl h9) ?_
      refine ev_iaddN t_59_25 ?_
      refine ev_iconst t_59_26 ?_
      change Ev _ _ _ _ ([.int (nI (1)), .int (nI ((due) + (ow ((T f).getD i 0))))]) _ _
      refine ev_isubN t_59_27 (by omega) ?_
      refine ev_istore_n (L' := [some (.ref 370), some (.int (nI (f))), some (.int w), some (.int (nI (((due) + (ow ((T f).getD i 0))) - (1)))), some (.int (nI (i)))]) t_59_28 (Nat.le_of_ble_eq_true rfl) rfl ?_
      refine ev_iincN (L' := [some (.ref 370), some (.int (nI (f))), some (.int w), some (.int (nI (((due) + (ow ((T f).getD i 0))) - (1)))), some (.int (nI (i + 1)))]) t_59_29 rfl (Nat.le_of_ble_eq_true rfl) rfl ?_
      refine ev_goto t_59_32 ?_
      have h7 : bhd ((T f).getD i 0 :: (T f).drop (i + 1)) due i = bhd ((T f).drop (i + 1)) (due + ow ((T f).getD i 0) - 1) (i + 1) := by simp only [bhd]; rw [if_neg h_6]
      rw [h7]
      exact ih (i + 1) _ _ (by omega) hRs2 (by omega) (by omega)
theorem m59 {T : Nat → List Nat} {f : Nat} (hf : f < 6) (hX : MX τ T) (h24 : (T f).length ≤ 24) (h256 : ∀ c ∈ T f, c < 256) {i D : Nat} (hi : i ≤ (T f).length) (hRs : Rst D ((T f).drop i)) (hD : 1 ≤ D) : Ev (d + 1) 59 0 [some (.ref 370), some (.int (nI f)), some (.int (nI i)), none, none] [] (sM M τ) (fun q9 M' => ∃ v9, q9 = .inl v9 ∧ v9 = some (.int (nI (bhd ((T f).drop i) 1 i))) ∧ M' = sM M τ) := by
  refine ev_iconst t_59_0 ?_
  change Ev _ _ _ _ ([.int (nI (1))]) _ _
  refine ev_istore_n (L' := [some (.ref 370), some (.int (nI (f))), some (.int (nI (i))), some (.int (nI (1))), none]) t_59_1 (Nat.le_of_ble_eq_true rfl) rfl ?_
  refine ev_iload_n t_59_2 rfl ?_
  refine ev_istore (L' := [some (.ref 370), some (.int (nI (f))), some (.int (nI (i))), some (.int (nI (1))), some (.int (nI (i)))]) t_59_3 (Nat.le_of_ble_eq_true rfl) rfl ?_
  exact m59l hf hX h24 h256 ((T f).length - i) i 1 D (by omega) hRs hD (by omega)
end MJ
theorem RM_vf {τ : Nat → Nat → Int32} {S : SP} {ck n : Nat} (h : RM τ S ck) (hn : n ∈ S.2.1) (hl : ∀ m, m < 96 → (S.2.2 m).length ≤ 24) : RM (m_end (u2 (u2 (u2 τ 381 n (S.1 17 0)) 383 n (lcl (vfyG S n) (S.2.2 n) 2)) 370 23 (S.1 8 12 + 1)) n ck) ((vfyE S n).1, put S.2.1 n, S.2.2) (ck + 1) := by
  obtain ⟨⟨⟨a1, a2, a3, a4, a5, a6⟩, b, c, e⟩, g2, g3, -, g7, g8⟩ := id h
  have hn9 := g8 n hn
  obtain ⟨⟨k1, k2, k3, k4, k5⟩, k6, k7⟩ := g3 n hn
  unfold vfyE vfyG
  unfold vfyG at *
  dsimp only
  refine RM_put h hn9 (fun q m h1 h2 h3 h4 _ => ?_) (fun m i h1 h2 h3 => ?_) (fun m k h1 h2 => ?_) (fun m _ _ => rfl) hl ⟨⟨?_, ?_, ?_, ?_, ?_, ?_⟩, fun k hk => ⟨?_, ?_⟩, fun k hk => ⟨?_, ?_⟩, fun k hk => ?_⟩ ?_ ⟨⟨?_, ?_, ?_, ?_, ?_⟩, ?_, fun i hi => ?_⟩ ?_ ?_ <;> try unfold m_end
  · rw [u2_off (by omega), u2_off (by omega), u2_off (by omega), u2_off (by omega), u2_off (by omega)]
  · rw [u2_off (by omega), u2_off (by omega), u2_off (by omega), u2_off (by omega), u2_off (by omega)]
  · rw [u2_off (by omega), u2_off (by omega), u2_off (by omega)]
  · rw [u2_off (by omega), u2_off (by omega), u2_off (by omega), u2_off (by omega), u2_off (by omega), u2_off (by omega), u2_off (by omega), u2_off (by omega)]; exact a1
  · rw [u2_off (by omega), u2_off (by omega), u2_off (by omega), u2_off (by omega), u2_off (by omega), u2_off (by omega), u2_off (by omega), u2_off (by omega)]; exact a2
  · rw [u2_off (by omega), u2_off (by omega), u2_off (by omega), u2_off (by omega), u2_off (by omega), u2_off (by omega), u2_off (by omega), u2_off (by omega)]; exact a3
  · rw [u2_off (by omega), u2_off (by omega), u2_at, u2_at]
  · rw [u2_off (by omega), u2_off (by omega), u2_off (by omega), u2_off (by omega), u2_off (by omega), u2_off (by omega), u2_off (by omega), u2_off (by omega)]; exact a5
  · rw [u2_off (by omega), u2_off (by omega), u2_off (by omega), u2_off (by omega), u2_off (by omega), u2_off (by omega), u2_off (by omega), u2_off (by omega)]; exact a6
  · rw [u2_off (by omega), u2_off (by omega), u2_off (by omega), u2_off (by omega), u2_off (by omega), u2_off (by omega), u2_off (by omega), u2_off (by omega)]; exact (b k hk).1
  · rw [u2_off (by omega), u2_off (by omega), u2_off (by omega), u2_off (by omega), u2_off (by omega), u2_off (by omega), u2_off (by omega), u2_off (by omega)]; exact (b k hk).2
  · rw [u2_off (by omega), u2_off (by omega), u2_off (by omega), u2_off (by omega), u2_off (by omega), u2_off (by omega), u2_off (by omega), u2_off (by omega)]; exact (c k hk).1
  · rw [u2_off (by omega), u2_off (by omega), u2_off (by omega), u2_off (by omega), u2_off (by omega), u2_off (by omega), u2_off (by omega), u2_off (by omega)]; exact (c k hk).2
  · rw [u2_off (by omega), u2_off (by omega), u2_off (by omega), u2_off (by omega), u2_off (by omega), u2_off (by omega), u2_off (by omega), u2_off (by omega)]; exact e k hk
  · rw [u2_off (by omega), u2_off (by omega), u2_off (by omega), u2_off (by omega), u2_off (by omega), g2 n hn9, decide_eq_true hn]; rfl
  · dsimp only; rw [u2_off (by omega), u2_off (by omega), u2_off (by omega), u2_off (by omega), u2_off (by omega), u2_off (by omega), u2_off (by omega), u2_off (by omega)]; exact k1
  · dsimp only; rw [u2_off (by omega), u2_off (by omega), u2_off (by omega), u2_off (by omega), u2_at, u2_off (by omega), u2_off (by omega), u2_at]
  · dsimp only; rw [u2_off (by omega), u2_off (by omega), u2_off (by omega), u2_off (by omega), u2_off (by omega), u2_off (by omega), u2_off (by omega), u2_off (by omega)]; exact k3
  · dsimp only; rw [u2_off (by omega), u2_off (by omega), u2_off (by omega), u2_at, u2_off (by omega), u2_at]
  · dsimp only; rw [u2_off (by omega), u2_off (by omega), u2_off (by omega), u2_off (by omega), u2_off (by omega), u2_off (by omega), u2_off (by omega), u2_off (by omega)]; exact k5
  · rw [u2_off (by omega), u2_off (by omega), u2_off (by omega), u2_off (by omega), u2_off (by omega)]; exact k6
  · rw [u2_off (by omega), u2_off (by omega), u2_off (by omega), u2_off (by omega), u2_off (by omega)]; exact k7 i hi
  · rw [u2_off (by omega), u2_at]
  · exact u2_at
