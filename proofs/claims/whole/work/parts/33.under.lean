/-! The reference: what is under way, what is untouched, classes. -/
def MU (τ : Nat → Nat → Int32) (u : List Nat) (rf : Nat → Bool) : Prop := τ 370 26 = nI u.length ∧ ∀ i, i < u.length → τ 388 i = nI (u.getD i 0) ∧ τ 389 i = bI (rf i)
section MB
variable {d : Nat} {M : pm_M} {τ : Nat → Nat → Int32} {S : SP} {ck : Nat}
theorem take_s {u : List Nat} {i : Nat} (hi : i < u.length) : u.take (i + 1) = u.take i ++ [u.getD i 0] := by
  rw [List.take_add_one]
  simp [List.getD_eq_getElem?_getD, hi]
theorem m52l {u : List Nat} {rf : Nat → Bool} {n : Nat} (hn : n < 96) (hu : MU τ u rf) (h20 : u.length ≤ 20) (hub : ∀ x ∈ u, x < 96) : ∀ (k i : Nat), i + k = u.length → Ev d 52 4 [some (.ref 370), some (.int (nI n)), some (.int (bI (decide (n ∈ u.take i)))), some (.int (nI i))] [] (sM M τ) (fun q9 M' => ∃ v9, q9 = .inl v9 ∧ v9 = some (.int (bI (decide (n ∈ u)))) ∧ M' = sM M τ) := by
  intro k
  induction k with
  | zero =>
    intro i hi
    obtain rfl : i = u.length := by omega
    rw [List.take_length]
    refine ev_iload_n t_52_4 rfl ?_
    refine ev_aload_n t_52_5 rfl ?_
    refine es_get (x := .int (τ (370) 26)) o_MO t_52_6 rfl ?_
    refine ev_top (y := (nI (u.length))) (by exact hu.1) ?_
    refine ev_icmp_geN t_52_9 (by omega) (by omega) (fun h_9 => ?_) (fun h_9 => ?_)
    · refine ev_iload_n t_52_38 rfl ?_
      exact ev_reti t_52_39 (rz rfl (bI_01 _)) ⟨_, rfl, rfl, rfl⟩
    · omega
  | succ k ih =>
    intro i hi
    have hil : i < u.length := by omega
    have hx : u.getD i 0 = u[i] := by simp [List.getD_eq_getElem?_getD, hil]
    have hx2 : u.getD i 0 < 96 := by rw [hx]; exact hub _ (List.getElem_mem hil)
    have c9 := ih (i + 1) (by omega)
    have es := take_s hil
    by_cases hm : n ∈ u.take i
    · have e1 : bI (decide (n ∈ u.take i)) = nI 1 := by rw [decide_eq_true hm]; rfl
      have e2 : bI (decide (n ∈ u.take (i + 1))) = nI 1 := by rw [decide_eq_true (by rw [es]; simp [hm])]; rfl
      rw [e2] at c9
      rw [e1]
      refine ev_iload_n t_52_4 rfl ?_
      refine ev_aload_n t_52_5 rfl ?_
      refine es_get (x := .int (τ (370) 26)) o_MO t_52_6 rfl ?_
      refine ev_top (y := (nI (u.length))) (by exact hu.1) ?_
      refine ev_icmp_geN t_52_9 (by omega) (by omega) (fun h_9 => ?_) (fun h_9 => ?_)
      · omega
      · refine ev_iload_n t_52_12 rfl ?_
        refine ev_if_neN t_52_13 (by omega) (fun h_13 => ?_) (fun h_13 => ?_)
        · refine ev_iconst t_52_26 ?_
          change Ev _ _ _ _ ([.int (nI (1))]) _ _
          refine ev_goto t_52_27 ?_
          refine ev_istore_n (L' := [some (.ref 370), some (.int (nI (n))), some (.int (nI (1))), some (.int (nI (i)))]) t_52_31 (Nat.le_of_ble_eq_true rfl) rfl ?_
          refine ev_iincN (L' := [some (.ref 370), some (.int (nI (n))), some (.int (nI (1))), some (.int (nI (i + 1)))]) t_52_32 rfl (Nat.le_of_ble_eq_true rfl) rfl ?_
          refine ev_goto t_52_35 ?_
          exact c9
        · omega
    · have e1 : bI (decide (n ∈ u.take i)) = nI 0 := by rw [decide_eq_false hm]; rfl
      rw [e1]
      refine ev_iload_n t_52_4 rfl ?_
      refine ev_aload_n t_52_5 rfl ?_
      refine es_get (x := .int (τ (370) 26)) o_MO t_52_6 rfl ?_
      refine ev_top (y := (nI (u.length))) (by exact hu.1) ?_
      refine ev_icmp_geN t_52_9 (by omega) (by omega) (fun h_9 => ?_) (fun h_9 => ?_)
      · omega
      · refine ev_iload_n t_52_12 rfl ?_
        refine ev_if_neN t_52_13 (by omega) (fun h_13 => ?_) (fun h_13 => ?_)
        · exact absurd rfl h_13
        · refine ev_aload_n t_52_16 rfl ?_
          refine es_get (x := .ref 388) o_MO t_52_17 rfl ?_
          refine ev_iload_n t_52_20 rfl ?_
          refine es_iald (k := i) a_m388 t_52_21 (by omega) ?_
          refine ev_top (hu.2 i hil).1 ?_
          refine ev_iload_n t_52_22 rfl ?_
          refine ev_icmp_neN t_52_23 (by omega) (by omega) (fun h_23 => ?_) (fun h_23 => ?_)
          · refine ev_iconst t_52_30 ?_
            change Ev _ _ _ _ ([.int (nI (0))]) _ _
            refine ev_istore_n (L' := [some (.ref 370), some (.int (nI (n))), some (.int (nI (0))), some (.int (nI (i)))]) t_52_31 (Nat.le_of_ble_eq_true rfl) rfl ?_
            refine ev_iincN (L' := [some (.ref 370), some (.int (nI (n))), some (.int (nI (0))), some (.int (nI (i + 1)))]) t_52_32 rfl (Nat.le_of_ble_eq_true rfl) rfl ?_
            refine ev_goto t_52_35 ?_
            have e2 : bI (decide (n ∈ u.take (i + 1))) = nI 0 := by rw [decide_eq_false (fun h => by rw [es] at h; rcases List.mem_append.mp h with h | h; exact hm h; rw [List.mem_singleton] at h; omega)]; rfl
            rw [e2] at c9
            exact c9
          · refine ev_iconst t_52_26 ?_
            change Ev _ _ _ _ ([.int (nI (1))]) _ _
            refine ev_goto t_52_27 ?_
            refine ev_istore_n (L' := [some (.ref 370), some (.int (nI (n))), some (.int (nI (1))), some (.int (nI (i)))]) t_52_31 (Nat.le_of_ble_eq_true rfl) rfl ?_
            refine ev_iincN (L' := [some (.ref 370), some (.int (nI (n))), some (.int (nI (1))), some (.int (nI (i + 1)))]) t_52_32 rfl (Nat.le_of_ble_eq_true rfl) rfl ?_
            refine ev_goto t_52_35 ?_
            have e2 : bI (decide (n ∈ u.take (i + 1))) = nI 1 := by rw [decide_eq_true (by rw [es]; exact List.mem_append.mpr (Or.inr (by rw [List.mem_singleton]; omega)))]; rfl
            rw [e2] at c9
            exact c9
theorem m52 {u : List Nat} {rf : Nat → Bool} {n : Nat} (hn : n < 96) (hu : MU τ u rf) (h20 : u.length ≤ 20) (hub : ∀ x ∈ u, x < 96) : Ev d 52 0 [some (.ref 370), some (.int (nI n)), none, none] [] (sM M τ) (fun q9 M' => ∃ v9, q9 = .inl v9 ∧ v9 = some (.int (bI (decide (n ∈ u)))) ∧ M' = sM M τ) := by
  have hc := m52l (d := d) (M := M) hn hu h20 hub u.length 0 (by omega)
  rw [show bI (decide (n ∈ u.take 0)) = nI 0 by simp; rfl] at hc
  refine ev_iconst t_52_0 ?_
  change Ev _ _ _ _ ([.int (nI (0))]) _ _
  refine ev_istore_n (L' := [some (.ref 370), some (.int (nI (n))), some (.int (nI (0))), none]) t_52_1 (Nat.le_of_ble_eq_true rfl) rfl ?_
  refine ev_iconst t_52_2 ?_
  change Ev _ _ _ _ ([.int (nI (0))]) _ _
  refine ev_istore_n (L' := [some (.ref 370), some (.int (nI (n))), some (.int (nI (0))), some (.int (nI (0)))]) t_52_3 (Nat.le_of_ble_eq_true rfl) rfl ?_
  exact hc
theorem m53l {n : Nat} {good : Int32} (hn : n < 96) (hS : MS τ S.1) (hg : τ 381 n = good) : ∀ (k c : Nat) (b : Bool), c + k = 3 → Ev d 53 9 [some (.ref 370), some (.int (nI n)), some (.int (bI b)), some (.int (nI c))] [] (sM M τ) (fun q9 M' => ∃ v9, q9 = .inl v9 ∧ v9 = some (.int (bI (b && !tchF S.1 good k c))) ∧ M' = sM M τ) := by
  intro k
  induction k with
  | zero =>
    intro c b hc
    obtain rfl : c = 3 := by omega
    refine ev_iload_n t_53_9 rfl ?_
    refine ev_iconst t_53_10 ?_
    change Ev _ _ _ _ ([.int (nI (3)), .int (nI (3))]) _ _
    refine ev_icmp_geN t_53_11 (by omega) (by omega) (fun h_11 => ?_) (fun h_11 => ?_)
    · refine ev_iload_n t_53_45 rfl ?_
      exact ev_reti t_53_46 (rz rfl (bI_01 _)) ⟨_, rfl, by simp [tchF], rfl⟩
    · omega
  | succ k ih =>
    intro c b hc
    have e18 := (hS.2.2.1 c (by omega)).2
    cases b with
    | true =>
      change Ev d 53 9 [_, _, some (.int (nI 1)), _] _ _ _
      refine ev_iload_n t_53_9 rfl ?_
      refine ev_iconst t_53_10 ?_
      change Ev _ _ _ _ ([.int (nI (3)), .int (nI (c))]) _ _
      refine ev_icmp_geN t_53_11 (by omega) (by omega) (fun h_11 => ?_) (fun h_11 => ?_)
      · omega
      · refine ev_iload_n t_53_14 rfl ?_
        refine ev_if_eqN t_53_15 (by omega) (fun h_15 => ?_) (fun h_15 => ?_)
        · omega
        · refine ev_aload_n t_53_18 rfl ?_
          refine es_get (x := .ref 378) o_MO t_53_19 rfl ?_
          refine ev_iload_n t_53_22 rfl ?_
          refine es_iald (k := c) a_m378 t_53_23 (by omega) ?_
          refine ev_top (y := (S.1 18 c)) e18 ?_
          refine ev_aload_n t_53_24 rfl ?_
          refine es_get (x := .ref 381) o_MO t_53_25 rfl ?_
          refine ev_iload_n t_53_28 rfl ?_
          refine es_iald (k := n) a_m381 t_53_29 (by omega) ?_
          refine ev_top (y := good) hg ?_
          refine ev_icmp_gt t_53_30 (fun h_30 => ?_) (fun h_30 => ?_)
          · refine ev_iconst t_53_37 ?_
            change Ev _ _ _ _ ([.int (nI (0))]) _ _
            refine ev_istore_n (L' := [some (.ref 370), some (.int (nI (n))), some (.int (nI (0))), some (.int (nI (c)))]) t_53_38 (Nat.le_of_ble_eq_true rfl) rfl ?_
            refine ev_iincN (L' := [some (.ref 370), some (.int (nI (n))), some (.int (nI (0))), some (.int (nI (c + 1)))]) t_53_39 rfl (Nat.le_of_ble_eq_true rfl) rfl ?_
            refine ev_goto t_53_42 ?_
            have c9 := ih (c + 1) false (by omega)
            have e : tchF S.1 good (k + 1) c = true := by simp only [tchF]; rw [if_neg (Int32.not_le.mpr h_30)]
            rw [e]
            exact c9
          · refine ev_iconst t_53_33 ?_
            change Ev _ _ _ _ ([.int (nI (1))]) _ _
            refine ev_goto t_53_34 ?_
            refine ev_istore_n (L' := [some (.ref 370), some (.int (nI (n))), some (.int (nI (1))), some (.int (nI (c)))]) t_53_38 (Nat.le_of_ble_eq_true rfl) rfl ?_
            refine ev_iincN (L' := [some (.ref 370), some (.int (nI (n))), some (.int (nI (1))), some (.int (nI (c + 1)))]) t_53_39 rfl (Nat.le_of_ble_eq_true rfl) rfl ?_
            refine ev_goto t_53_42 ?_
            have c9 := ih (c + 1) true (by omega)
            have e : tchF S.1 good (k + 1) c = tchF S.1 good k (c + 1) := by simp only [tchF]; rw [if_pos (Int32.not_lt.mp h_30)]
            rw [e]
            exact c9
    | false =>
      change Ev d 53 9 [_, _, some (.int (nI 0)), _] _ _ _
      refine ev_iload_n t_53_9 rfl ?_
      refine ev_iconst t_53_10 ?_
      change Ev _ _ _ _ ([.int (nI (3)), .int (nI (c))]) _ _
      refine ev_icmp_geN t_53_11 (by omega) (by omega) (fun h_11 => ?_) (fun h_11 => ?_)
      · omega
      · refine ev_iload_n t_53_14 rfl ?_
        refine ev_if_eqN t_53_15 (by omega) (fun h_15 => ?_) (fun h_15 => ?_)
        · refine ev_iconst t_53_37 ?_
          change Ev _ _ _ _ ([.int (nI (0))]) _ _
          refine ev_istore_n (L' := [some (.ref 370), some (.int (nI (n))), some (.int (nI (0))), some (.int (nI (c)))]) t_53_38 (Nat.le_of_ble_eq_true rfl) rfl ?_
          refine ev_iincN (L' := [some (.ref 370), some (.int (nI (n))), some (.int (nI (0))), some (.int (nI (c + 1)))]) t_53_39 rfl (Nat.le_of_ble_eq_true rfl) rfl ?_
          refine ev_goto t_53_42 ?_
          exact ih (c + 1) false (by omega)
        · exact absurd rfl h_15
theorem m53 {n l : Nat} {good : Int32} (hn : n < 96) (hl : l < 3) (hS : MS τ S.1) (hg : τ 381 n = good) (he : τ 383 n = nI l) : Ev d 53 0 [some (.ref 370), some (.int (nI n)), none, none] [] (sM M τ) (fun q9 M' => ∃ v9, q9 = .inl v9 ∧ v9 = some (.int (bI (!tch S.1 l good))) ∧ M' = sM M τ) := by
  have hc := m53l (d := d) (M := M) hn hS hg (3 - l) l true (by omega)
  refine ev_iconst t_53_0 ?_
  change Ev _ _ _ _ ([.int (nI (1))]) _ _
  refine ev_istore_n (L' := [some (.ref 370), some (.int (nI (n))), some (.int (nI (1))), none]) t_53_1 (Nat.le_of_ble_eq_true rfl) rfl ?_
  refine ev_aload_n t_53_2 rfl ?_
  refine es_get (x := .ref 383) o_MO t_53_3 rfl ?_
  refine ev_iload_n t_53_6 rfl ?_
  refine es_iald (k := n) a_m383 t_53_7 (by omega) ?_
  refine ev_top he ?_
  refine ev_istore_n (L' := [some (.ref 370), some (.int (nI (n))), some (.int (nI (1))), some (.int (nI (l)))]) t_53_8 (Nat.le_of_ble_eq_true rfl) rfl ?_
  exact hc
theorem m56 {r : Nat} (hr : RdOk r) (hS : MS τ S.1) (hc : 100 ≤ r → τ 383 (r - 100) = S.1 (38 + 2 * (r - 100)) 5) : Ev d 56 0 [some (.ref 370), some (.int (nI r))] [] (sM M τ) (fun q9 M' => ∃ v9, q9 = .inl v9 ∧ v9 = some (.int (clO S.1 r)) ∧ M' = sM M τ) := by
  have hr2 := hr
  unfold RdOk at hr2
  refine ev_iload_n t_56_0 rfl ?_
  refine ev_bipush t_56_1 ?_
  change Ev _ _ _ _ ([.int (nI (100)), .int (nI (r))]) _ _
  refine ev_icmp_geN t_56_3 (by omega) (by omega) (fun h_3 => ?_) (fun h_3 => ?_)
  · refine ev_aload_n t_56_18 rfl ?_
    refine es_get (x := .ref 383) o_MO t_56_19 rfl ?_
    refine ev_iload_n t_56_22 rfl ?_
    refine ev_bipush t_56_23 ?_
    change Ev _ _ _ _ ([.int (nI (100)), .int (nI (r)), .ref 383]) _ _
    refine ev_isubN t_56_25 (by omega) ?_
    refine es_iald (k := (r) - (100)) a_m383 t_56_26 (by omega) ?_
    exact ev_reti t_56_27 (ri rfl) ⟨_, rfl, by unfold clO; rw [if_neg (by omega), hc (by omega)], rfl⟩
  · refine ev_aload_n t_56_6 rfl ?_
    refine es_get (x := .ref 376) o_MO t_56_7 rfl ?_
    refine ev_iload_n t_56_10 rfl ?_
    refine ev_bipush t_56_11 ?_
    change Ev _ _ _ _ ([.int (nI (16)), .int (nI (r)), .ref 376]) _ _
    refine ev_idivN t_56_13 (by omega) (by omega) (by omega) ?_
    refine es_iald (k := (r) / (16)) a_m376 t_56_14 (by omega) ?_
    refine ev_goto t_56_15 ?_
    exact ev_reti t_56_27 (ri rfl) ⟨_, rfl, by unfold clO; rw [if_pos (by omega), (hS.2.2.1 (r / 16) (by omega)).1], rfl⟩
/-- a cell is written anew and stamped: the rest stays -/
theorem RM_put {τ' : Nat → Nat → Int32} {n : Nat} {G' : Nat → Nat → Int32} {rs' : Nat → List Nat} (h : RM τ S ck) (hn : n < 96) (h1 : ∀ q m, 379 ≤ q → q ≤ 387 → q ≠ 385 → m ≠ n → m < 96 → τ' q m = τ q m) (h2 : ∀ m i, m ≠ n → m < 96 → i < 24 → τ' 385 (24 * m + i) = τ 385 (24 * m + i)) (hG : ∀ m k, m ≠ n → m < 96 → G' (38 + 2 * m) k = S.1 (38 + 2 * m) k) (hrs : ∀ m, m ≠ n → m < 96 → rs' m = S.2.2 m) (hl : ∀ m, m < 96 → (S.2.2 m).length ≤ 24) (hMS : MS τ' G') (hh : τ' 379 n = 1) (hc : MC τ' (G', put S.2.1 n, rs') n) (hck : τ' 370 20 = nI (ck + 1)) (hst : τ' 387 n = nI (ck + 1)) : RM τ' (G', put S.2.1 n, rs') (ck + 1) := by
  obtain ⟨-, g2, g3, ⟨st, g4, g5, g6⟩, g7, g8⟩ := h
  have hmem : ∀ m, m ∈ put S.2.1 n ↔ m = n ∨ m ∈ S.2.1 := fun m => by
    unfold put
    rw [List.mem_append, g7.mem_erase_iff]
    by_cases e : m = n
    · simp [e]
    · simp [e]
  refine ⟨hMS, fun m hm => ?_, fun m hm => ?_, ⟨fun m => if m = n then ck + 1 else st m, hck, fun m hm => ?_, ?_⟩, ?_, fun m hm => ?_⟩
  · dsimp only
    by_cases e : m = n
    · subst e; rw [hh, decide_eq_true ((hmem m).mpr (Or.inl rfl))]; rfl
    · rw [h1 379 m (by omega) (by omega) (by omega) e hm, g2 m hm]
      congr 1
      rw [decide_eq_decide, hmem m]
      simp [e]
  · by_cases e : m = n
    · subst e; exact hc
    · have hm2 : m ∈ S.2.1 := by
        rcases (hmem m).mp hm with h | h
        · exact absurd h e
        · exact h
      have hm9 := g8 m hm2
      obtain ⟨⟨k1, k2, k3, k4, k5⟩, k6, k7⟩ := g3 m hm2
      refine ⟨⟨?_, ?_, ?_, ?_, ?_⟩, ?_, fun i hi => ?_⟩
      · rw [h1 380 m (by omega) (by omega) (by omega) e hm9]; exact k1.trans (hG m _ e hm9).symm
      · rw [h1 381 m (by omega) (by omega) (by omega) e hm9]; exact k2.trans (hG m _ e hm9).symm
      · rw [h1 382 m (by omega) (by omega) (by omega) e hm9]; exact k3.trans (hG m _ e hm9).symm
      · rw [h1 383 m (by omega) (by omega) (by omega) e hm9]; exact k4.trans (hG m _ e hm9).symm
      · rw [h1 384 m (by omega) (by omega) (by omega) e hm9]; exact k5.trans (hG m _ e hm9).symm
      · rw [h1 386 m (by omega) (by omega) (by omega) e hm9]; dsimp only; rw [hrs m e hm9]; exact k6
      · dsimp only at hi ⊢
        rw [hrs m e hm9] at hi ⊢
        have := hl m hm9
        rw [h2 m i e hm9 (by omega)]
        exact k7 i hi
  · by_cases e : m = n
    · subst e; dsimp only; rw [if_pos rfl]; exact ⟨hst, Nat.le_refl _⟩
    · have hm2 : m ∈ S.2.1 := by
        rcases (hmem m).mp hm with h | h
        · exact absurd h e
        · exact h
      have hm9 := g8 m hm2
      have := g5 m hm2
      dsimp only
      rw [if_neg e, h1 387 m (by omega) (by omega) (by omega) e hm9]
      exact ⟨this.1, by omega⟩
  · show (S.2.1.erase n ++ [n]).Pairwise _
    rw [List.pairwise_append]
    refine ⟨?_, List.pairwise_singleton _ _, fun a ha b hb => ?_⟩
    · refine List.Pairwise.imp_of_mem (fun ha hb hab => ?_) (g6.sublist List.erase_sublist)
      have ea := ((g7.mem_erase_iff).mp ha).1
      have eb := ((g7.mem_erase_iff).mp hb).1
      dsimp only
      rw [if_neg ea, if_neg eb]
      exact hab
    · simp at hb
      subst hb
      have ea := (g7.mem_erase_iff).mp ha
      dsimp only
      rw [if_neg ea.1, if_pos rfl]
      have := (g5 a ea.2).2
      omega
  · show (S.2.1.erase n ++ [n]).Nodup
    refine List.nodup_append.mpr ⟨g7.erase n, by simp, fun a ha b hb => ?_⟩
    simp at hb
    subst hb
    exact ((g7.mem_erase_iff).mp ha).1
  · rcases (hmem m).mp hm with h | h
    · omega
    · exact g8 m h
end MB
