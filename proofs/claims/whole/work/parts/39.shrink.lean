/-! The reference: cells go. -/
theorem RM_od {τ τ' : Nat → Nat → Int32} {S : SP} {ck : Nat} {l : List Nat} (h : RM τ S ck) (hs : l.Sublist S.2.1) (h1 : ∀ n, n < 96 → τ' 379 n = bI (decide (n ∈ l))) (h2 : ∀ q, q ≠ 379 → τ' q = τ q) : RM τ' (S.1, l, S.2.2) ck := by
  obtain ⟨g1, g2, g3, ⟨st, g4, g5, g6⟩, g7, g8⟩ := h
  refine ⟨?_, h1, fun n hn => ?_, ⟨st, ?_, fun n hn => ?_, g6.sublist hs⟩, g7.sublist hs, fun n hn => g8 n (hs.subset hn)⟩
  · unfold MS at g1 ⊢
    rw [h2 370 (by omega), h2 374 (by omega), h2 375 (by omega), h2 376 (by omega), h2 377 (by omega), h2 378 (by omega)]
    exact g1
  · have := g3 n (hs.subset hn)
    unfold MC at this ⊢
    rw [h2 380 (by omega), h2 381 (by omega), h2 382 (by omega), h2 383 (by omega), h2 384 (by omega), h2 385 (by omega), h2 386 (by omega)]
    exact this
  · rw [h2 370 (by omega)]; exact g4
  · rw [h2 387 (by omega)]; exact g5 n (hs.subset hn)
theorem RM_rm {τ : Nat → Nat → Int32} {S : SP} {ck n : Nat} (h : RM τ S ck) : RM (u2 τ 379 n 0) (S.1, S.2.1.erase n, S.2.2) ck := by
  refine RM_od h List.erase_sublist (fun m hm => ?_) (fun q hq => u2_ne hq)
  have hd := h.2.2.2.2.1
  by_cases e : m = n
  · subst e
    rw [u2_at, decide_eq_false (fun h => ((hd.mem_erase_iff).mp h).1 rfl)]
    rfl
  · rw [u2_off (Or.inr e), h.2.1 m hm]
    congr 1
    rw [decide_eq_decide, hd.mem_erase_iff]
    simp [e]
section ML
variable {d : Nat} {M : pm_M} {ck : Nat}
theorem m66l {b : Nat} {G : Nat → Nat → Int32} {rs : Nat → List Nat} (hb : b < 97) (hck : ck < 2 ^ 31) (eb : G 8 7 = nI b) : ∀ (k n : Nat) (l : List Nat) (τ : Nat → Nat → Int32), l.length - b = k → RM τ (G, l, rs) ck → Ev (d + 1) 66 2 [some (.ref 370), some (.int (nI n))] [] (sM M τ) (fun q9 M' => ∃ v9, q9 = .inl v9 ∧ v9 = some (.int (nI (n + k))) ∧ ∃ τ', M' = sM M τ' ∧ RM τ' (G, l.drop k, rs) ck ∧ ∀ q, q ≠ 379 → τ' q = τ q) := by
  intro k
  induction k with
  | zero =>
    intro n l τ hk hR
    have hl : l.length ≤ 96 := nd_len 96 l hR.2.2.2.2.1 hR.2.2.2.2.2
    have e21 : τ 370 21 = nI b := hR.1.1.2.1.trans eb
    have c64 := m64 (d := d) (M := M) hR
    rw [List.drop_zero]
    refine ev_aload_n t_66_2 rfl ?_
    refine ev_cl (pm_st_V t_66_3 (as := [.ref 370]) (rest := []) (L0 := [some (.ref 370), none, none]) rfl rfl (Nat.le_of_ble_eq_true rfl) (Nat.le_of_ble_eq_true rfl) rfl (es_rc o_MO rfl (Nat.le_of_ble_eq_true rfl))) rfl (c64) ?_
    rintro _ _ ⟨rfl, rfl⟩
    change Ev _ _ _ _ ([.int (nI (l.length))]) _ _
    refine ev_aload_n t_66_6 rfl ?_
    refine es_get (x := .int (τ (370) 21)) o_MO t_66_7 rfl ?_
    refine ev_top (y := (nI (b))) (by exact e21) ?_
    refine ev_icmp_leN t_66_10 (by omega) (by omega) (fun h_10 => ?_) (fun h_10 => ?_)
    · refine ev_iload_n t_66_30 rfl ?_
      exact ev_reti t_66_31 (ri rfl) ⟨_, rfl, rfl, _, rfl, hR, fun _ _ => rfl⟩
    · omega
  | succ k ih =>
    intro n l τ hk hR
    have hl : l.length ≤ 96 := nd_len 96 l hR.2.2.2.2.1 hR.2.2.2.2.2
    have e21 : τ 370 21 = nI b := hR.1.1.2.1.trans eb
    have c64 := m64 (d := d) (M := M) hR
    have c65 := m65 (d := d) (M := M) hR hck (i := 0) (by decide)
    obtain ⟨a, t, rfl⟩ : ∃ a t, l = a :: t := by
      cases l with
      | nil => simp at hk
      | cons a t => exact ⟨a, t, rfl⟩
    have ha : a < 96 := hR.2.2.2.2.2 a (by simp)
    rw [if_pos (show 0 < (a :: t).length by simp)] at c65
    have hR2 := RM_rm (n := a) hR
    dsimp only at hR2
    rw [List.erase_cons_head] at hR2
    have hk2 : t.length - b = k := by simp at hk; omega
    have hl2 : (a :: t).length = t.length + 1 := rfl
    have c9 := ih (n + 1) t _ hk2 hR2
    have en : n + 1 + k = n + (k + 1) := by omega
    rw [en] at c9
    have c10 := ev_mono c9 (Q' := (fun q9 M' => ∃ v9, q9 = .inl v9 ∧ v9 = some (.int (nI (n + (k + 1)))) ∧ ∃ τ', M' = sM M τ' ∧ RM τ' (G, (a :: t).drop (k + 1), rs) ck ∧ ∀ q, q ≠ 379 → τ' q = τ q)) (by
      rintro r9 M9 ⟨v9, e1, e2, τ', e3, k1, k2⟩
      exact ⟨v9, e1, e2, τ', e3, k1, fun q hq => (k2 q hq).trans (u2_ne hq)⟩)
    refine ev_aload_n t_66_2 rfl ?_
    refine ev_cl (pm_st_V t_66_3 (as := [.ref 370]) (rest := []) (L0 := [some (.ref 370), none, none]) rfl rfl (Nat.le_of_ble_eq_true rfl) (Nat.le_of_ble_eq_true rfl) rfl (es_rc o_MO rfl (Nat.le_of_ble_eq_true rfl))) rfl (c64) ?_
    rintro _ _ ⟨rfl, rfl⟩
    change Ev _ _ _ _ ([.int (nI ((a :: t).length))]) _ _
    refine ev_aload_n t_66_6 rfl ?_
    refine es_get (x := .int (τ (370) 21)) o_MO t_66_7 rfl ?_
    refine ev_top (y := (nI (b))) (by exact e21) ?_
    refine ev_icmp_leN t_66_10 (by omega) (by omega) (fun h_10 => ?_) (fun h_10 => ?_)
    · omega
    · refine ev_aload_n t_66_13 rfl ?_
      refine es_get (x := .ref 379) o_MO t_66_14 rfl ?_
      refine ev_aload_n t_66_17 rfl ?_
      refine ev_iconst t_66_18 ?_
      change Ev _ _ _ _ ([.int (nI (0)), .ref 370, .ref 379]) _ _
      refine ev_cl (pm_st_V t_66_19 (as := [.ref 370, .int (nI (0))]) (rest := [.ref 379]) (L0 := [some (.ref 370), some (.int (nI (0))), none, none, none]) rfl rfl (Nat.le_of_ble_eq_true rfl) (Nat.le_of_ble_eq_true rfl) rfl (es_rc o_MO rfl (Nat.le_of_ble_eq_true rfl))) rfl (c65) ?_
      rintro _ _ ⟨rfl, rfl⟩
      change Ev _ _ _ _ ([.int (nI (a)), .ref 379]) _ _
      refine ev_iconst t_66_22 ?_
      change Ev _ _ _ _ ([.int (nI (0)), .int (nI (a)), .ref 379]) _ _
      refine es_zast (k := a) (y := 0) a_m379 t_66_23 (by omega) (rfl) ?_
      refine ev_iincN (L' := [some (.ref 370), some (.int (nI (n + 1)))]) t_66_24 rfl (Nat.le_of_ble_eq_true rfl) rfl ?_
      refine ev_goto t_66_27 ?_
      exact c10
theorem m66 {b : Nat} {S : SP} {τ : Nat → Nat → Int32} (hb : b < 97) (hck : ck < 2 ^ 31) (eb : S.1 8 7 = nI b) (hR : RM τ S ck) : Ev (d + 1) 66 0 [some (.ref 370), none] [] (sM M τ) (fun q9 M' => ∃ v9, q9 = .inl v9 ∧ v9 = some (.int (nI (S.2.1.length - b))) ∧ ∃ τ', M' = sM M τ' ∧ RM τ' (S.1, S.2.1.drop (S.2.1.length - b), S.2.2) ck ∧ ∀ q, q ≠ 379 → τ' q = τ q) := by
  have hc := m66l (d := d) (M := M) hb hck eb _ 0 S.2.1 τ rfl hR
  rw [Nat.zero_add] at hc
  refine ev_iconst t_66_0 ?_
  change Ev _ _ _ _ ([.int (nI (0))]) _ _
  refine ev_istore_n (L' := [some (.ref 370), some (.int (nI (0)))]) t_66_1 (Nat.le_of_ble_eq_true rfl) rfl ?_
  exact hc
end ML
