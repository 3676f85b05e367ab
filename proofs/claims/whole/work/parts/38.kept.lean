/-! The reference: how many cells are kept. -/
def cnR (l : List Nat) (i : Nat) : Nat := ((List.range i).filter (fun x => decide (x ∈ l))).length
theorem cnR_s (l : List Nat) (i : Nat) : cnR l (i + 1) = cnR l i + (if i ∈ l then 1 else 0) := by
  unfold cnR
  rw [List.range_succ, List.filter_append, List.length_append]
  by_cases h : i ∈ l <;> simp [h]
theorem cnR_len : ∀ (N : Nat) (l : List Nat), l.Nodup → (∀ x ∈ l, x < N) → cnR l N = l.length := by
  intro N
  induction N with
  | zero =>
    intro l _ h
    cases l with
    | nil => rfl
    | cons a t => exact absurd (h a (by simp)) (by omega)
  | succ N ih =>
    intro l hd h
    rw [cnR_s]
    by_cases hm : N ∈ l
    · rw [if_pos hm]
      have h1 := ih (l.erase N) (hd.erase N) (fun x hx => by
        have h1 := (hd.mem_erase_iff).mp hx
        have := h x h1.2
        have := h1.1
        omega)
      have h2 : cnR (l.erase N) N = cnR l N := by
        unfold cnR
        congr 1
        refine List.filter_congr (fun x hx => ?_)
        rw [decide_eq_decide, hd.mem_erase_iff]
        have := List.mem_range.mp hx
        constructor
        · exact fun h => h.2
        · exact fun h => ⟨by omega, h⟩
      rw [← h2, h1, List.length_erase_of_mem hm]
      have := List.length_pos_of_mem hm
      omega
    · rw [if_neg hm, Nat.add_zero]
      exact ih l hd (fun x hx => by
        have := h x hx
        have : x ≠ N := fun e => hm (e ▸ hx)
        omega)
section MK
variable {d : Nat} {M : pm_M} {τ : Nat → Nat → Int32} {S : SP} {ck : Nat}
theorem m64l (hR : RM τ S ck) : ∀ (k i : Nat), i + k = 96 → Ev d 64 4 [some (.ref 370), some (.int (nI (cnR S.2.1 i))), some (.int (nI i))] [] (sM M τ) (fun q9 M' => ∃ v9, q9 = .inl v9 ∧ v9 = some (.int (nI S.2.1.length)) ∧ M' = sM M τ) := by
  intro k
  induction k with
  | zero =>
    intro i hi
    obtain rfl : i = 96 := by omega
    rw [cnR_len 96 S.2.1 hR.2.2.2.2.1 hR.2.2.2.2.2]
    refine ev_iload_n t_64_4 rfl ?_
    refine ev_bipush t_64_5 ?_
    change Ev _ _ _ _ ([.int (nI (96)), .int (nI (96))]) _ _
    refine ev_icmp_geN t_64_7 (by omega) (by omega) (fun h_7 => ?_) (fun h_7 => ?_)
    · refine ev_iload_n t_64_33 rfl ?_
      exact ev_reti t_64_34 (ri rfl) ⟨_, rfl, rfl, rfl⟩
    · omega
  | succ k ih =>
    intro i hi
    have eh := hR.2.1 i (by omega)
    have c9 := ih (i + 1) (by omega)
    rw [cnR_s] at c9
    refine ev_iload_n t_64_4 rfl ?_
    refine ev_bipush t_64_5 ?_
    change Ev _ _ _ _ ([.int (nI (96)), .int (nI (i))]) _ _
    refine ev_icmp_geN t_64_7 (by omega) (by omega) (fun h_7 => ?_) (fun h_7 => ?_)
    · omega
    · refine ev_aload_n t_64_10 rfl ?_
      refine es_get (x := .ref 379) o_MO t_64_11 rfl ?_
      refine ev_iload_n t_64_14 rfl ?_
      refine es_zald (k := i) a_m379 t_64_15 (by omega) ?_
      refine ev_top (y := (bI (decide (i ∈ S.2.1)))) eh ?_
      refine ev_if_eq (y := 0) t_64_16 (fun h_16 => ?_) (fun h_16 => ?_)
      · refine ev_iload_n t_64_25 rfl ?_
        refine ev_istore_n (L' := [some (.ref 370), some (.int (nI (cnR S.2.1 i))), some (.int (nI (i)))]) t_64_26 (Nat.le_of_ble_eq_true rfl) rfl ?_
        refine ev_iincN (L' := [some (.ref 370), some (.int (nI (cnR S.2.1 i))), some (.int (nI (i + 1)))]) t_64_27 rfl (Nat.le_of_ble_eq_true rfl) rfl ?_
        refine ev_goto t_64_30 ?_
        rw [if_neg (bI_d0.mp h_16), Nat.add_zero] at c9
        exact c9
      · refine ev_iload_n t_64_19 rfl ?_
        refine ev_iconst t_64_20 ?_
        change Ev _ _ _ _ ([.int (nI (1)), .int (nI (cnR S.2.1 i))]) _ _
        refine ev_iaddN t_64_21 ?_
        refine ev_goto t_64_22 ?_
        refine ev_istore_n (L' := [some (.ref 370), some (.int (nI ((cnR S.2.1 i) + (1)))), some (.int (nI (i)))]) t_64_26 (Nat.le_of_ble_eq_true rfl) rfl ?_
        refine ev_iincN (L' := [some (.ref 370), some (.int (nI ((cnR S.2.1 i) + (1)))), some (.int (nI (i + 1)))]) t_64_27 rfl (Nat.le_of_ble_eq_true rfl) rfl ?_
        refine ev_goto t_64_30 ?_
        rw [if_pos (Decidable.byContradiction fun h => h_16 (bI_d0.mpr h))] at c9
        exact c9
theorem m64 (hR : RM τ S ck) : Ev d 64 0 [some (.ref 370), none, none] [] (sM M τ) (fun q9 M' => ∃ v9, q9 = .inl v9 ∧ v9 = some (.int (nI S.2.1.length)) ∧ M' = sM M τ) := by
  refine ev_iconst t_64_0 ?_
  change Ev _ _ _ _ ([.int (nI (0))]) _ _
  refine ev_istore_n (L' := [some (.ref 370), some (.int (nI (0))), none]) t_64_1 (Nat.le_of_ble_eq_true rfl) rfl ?_
  refine ev_iconst t_64_2 ?_
  change Ev _ _ _ _ ([.int (nI (0))]) _ _
  refine ev_istore_n (L' := [some (.ref 370), some (.int (nI (0))), some (.int (nI (0)))]) t_64_3 (Nat.le_of_ble_eq_true rfl) rfl ?_
  exact m64l hR 96 0 rfl
theorem m65i {Q : pm_R → pm_M → Prop} {c : Nat} {x1 : Int32} (hc : c < 96) (hR : RM τ S ck) (kk : Ev d 65 60 [some (.ref 370), some (.int x1), some (.int (nI c)), some (.int (nI (cnR (S.2.1.filter (fun x => decide (τ 387 x < τ 387 c))) 96))), some (.int (nI 96))] [] (sM M τ) Q) : ∀ (k j : Nat), j + k = 96 → Ev d 65 13 [some (.ref 370), some (.int x1), some (.int (nI c)), some (.int (nI (cnR (S.2.1.filter (fun x => decide (τ 387 x < τ 387 c))) j))), some (.int (nI j))] [] (sM M τ) Q := by
  intro k
  induction k with
  | zero =>
    intro j hj
    obtain rfl : j = 96 := by omega
    refine ev_iload t_65_13 rfl ?_
    refine ev_bipush t_65_15 ?_
    change Ev _ _ _ _ ([.int (nI (96)), .int (nI (96))]) _ _
    refine ev_icmp_geN t_65_17 (by omega) (by omega) (fun h_17 => ?_) (fun h_17 => ?_)
    · exact kk
    · omega
  | succ k ih =>
    intro j hj
    have eh := hR.2.1 j (by omega)
    have c9 := ih (j + 1) (by omega)
    rw [cnR_s] at c9
    refine ev_iload t_65_13 rfl ?_
    refine ev_bipush t_65_15 ?_
    change Ev _ _ _ _ ([.int (nI (96)), .int (nI (j))]) _ _
    refine ev_icmp_geN t_65_17 (by omega) (by omega) (fun h_17 => ?_) (fun h_17 => ?_)
    · omega
    · refine ev_aload_n t_65_20 rfl ?_
      refine es_get (x := .ref 379) o_MO t_65_21 rfl ?_
      refine ev_iload t_65_24 rfl ?_
      refine es_zald (k := j) a_m379 t_65_26 (by omega) ?_
      refine ev_top (y := (bI (decide (j ∈ S.2.1)))) eh ?_
      refine ev_if_eq (y := 0) t_65_27 (fun h_27 => ?_) (fun h_27 => ?_)
      · refine ev_iload_n t_65_52 rfl ?_
        refine ev_istore_n (L' := [some (.ref 370), some (.int x1), some (.int (nI (c))), some (.int (nI (cnR (S.2.1.filter (fun x => decide (τ 387 x < τ 387 c))) j))), some (.int (nI (j)))]) t_65_53 (Nat.le_of_ble_eq_true rfl) rfl ?_
        refine ev_iincN (L' := [some (.ref 370), some (.int x1), some (.int (nI (c))), some (.int (nI (cnR (S.2.1.filter (fun x => decide (τ 387 x < τ 387 c))) j))), some (.int (nI (j + 1)))]) t_65_54 rfl (Nat.le_of_ble_eq_true rfl) rfl ?_
        refine ev_goto t_65_57 ?_
        rw [if_neg (fun h => bI_d0.mp h_27 (List.mem_filter.mp h).1), Nat.add_zero] at c9
        exact c9
      · refine ev_aload_n t_65_30 rfl ?_
        refine es_get (x := .ref 387) o_MO t_65_31 rfl ?_
        refine ev_iload t_65_34 rfl ?_
        refine es_iald (k := j) a_m387 t_65_36 (by omega) ?_
        refine ev_aload_n t_65_37 rfl ?_
        refine es_get (x := .ref 387) o_MO t_65_38 rfl ?_
        refine ev_iload_n t_65_41 rfl ?_
        refine es_iald (k := c) a_m387 t_65_42 (by omega) ?_
        refine ev_icmp_ge t_65_43 (fun h_43 => ?_) (fun h_43 => ?_)
        · refine ev_iload_n t_65_52 rfl ?_
          refine ev_istore_n (L' := [some (.ref 370), some (.int x1), some (.int (nI (c))), some (.int (nI (cnR (S.2.1.filter (fun x => decide (τ 387 x < τ 387 c))) j))), some (.int (nI (j)))]) t_65_53 (Nat.le_of_ble_eq_true rfl) rfl ?_
          refine ev_iincN (L' := [some (.ref 370), some (.int x1), some (.int (nI (c))), some (.int (nI (cnR (S.2.1.filter (fun x => decide (τ 387 x < τ 387 c))) j))), some (.int (nI (j + 1)))]) t_65_54 rfl (Nat.le_of_ble_eq_true rfl) rfl ?_
          refine ev_goto t_65_57 ?_
          have hnm : ¬ j ∈ (S.2.1.filter (fun x => decide (τ 387 x < τ 387 c))) := fun h => absurd (of_decide_eq_true (List.mem_filter.mp h).2) (Int32.not_lt.mpr h_43)
          rw [if_neg hnm, Nat.add_zero] at c9
          exact c9
        · refine ev_iload_n t_65_46 rfl ?_
          refine ev_iconst t_65_47 ?_
          change Ev _ _ _ _ ([.int (nI (1)), .int (nI (cnR (S.2.1.filter (fun x => decide (τ 387 x < τ 387 c))) j))]) _ _
          refine ev_iaddN t_65_48 ?_
          refine ev_goto t_65_49 ?_
          refine ev_istore_n (L' := [some (.ref 370), some (.int x1), some (.int (nI (c))), some (.int (nI ((cnR (S.2.1.filter (fun x => decide (τ 387 x < τ 387 c))) j) + (1)))), some (.int (nI (j)))]) t_65_53 (Nat.le_of_ble_eq_true rfl) rfl ?_
          refine ev_iincN (L' := [some (.ref 370), some (.int x1), some (.int (nI (c))), some (.int (nI ((cnR (S.2.1.filter (fun x => decide (τ 387 x < τ 387 c))) j) + (1)))), some (.int (nI (j + 1)))]) t_65_54 rfl (Nat.le_of_ble_eq_true rfl) rfl ?_
          refine ev_goto t_65_57 ?_
          rw [if_pos (List.mem_filter.mpr ⟨Decidable.byContradiction fun h => h_27 (bI_d0.mpr h), decide_eq_true (Int32.not_le.mp h_43)⟩)] at c9
          exact c9
theorem rank_at {od : List Nat} {st : Nat → Nat} (h : od.Pairwise (fun a b => st a < st b)) {j : Nat} (hj : j < od.length) : (od.filter (fun x => decide (st x < st od[j]))).length = j := by
  have hp := List.pairwise_iff_getElem.mp h
  have e : od = od.take j ++ od.drop j := (List.take_append_drop j od).symm
  have h1 : (od.take j).filter (fun x => decide (st x < st od[j])) = od.take j := List.filter_eq_self.mpr (fun x hx => by
    obtain ⟨i, hi, rfl⟩ := List.getElem_of_mem hx
    have hi2 : i < j := by simp at hi; omega
    rw [List.getElem_take]
    exact decide_eq_true (hp i j (by omega) hj hi2))
  have h2 : (od.drop j).filter (fun x => decide (st x < st od[j])) = [] := List.filter_eq_nil_iff.mpr (fun x hx => by
    obtain ⟨i, hi, rfl⟩ := List.getElem_of_mem hx
    rw [List.getElem_drop]
    simp only [decide_eq_true_eq]
    have hi2 : j + i < od.length := by simp at hi; omega
    by_cases e : i = 0
    · subst e; simp
    · have := hp j (j + i) hj hi2 (by omega)
      omega)
  have h3 : od.filter (fun x => decide (st x < st od[j])) = (od.take j).filter (fun x => decide (st x < st od[j])) ++ (od.drop j).filter (fun x => decide (st x < st od[j])) := by
    rw [← List.filter_append, List.take_append_drop]
  rw [h3, h1, h2, List.append_nil, List.length_take]
  omega
theorem RM_rank (hR : RM τ S ck) (hck : ck < 2 ^ 31) {j : Nat} (hj : j < S.2.1.length) : cnR (S.2.1.filter (fun x => decide (τ 387 x < τ 387 S.2.1[j]))) 96 = j := by
  obtain ⟨-, -, -, ⟨st, g4, g5, g6⟩, g7, g8⟩ := hR
  have e : S.2.1.filter (fun x => decide (τ 387 x < τ 387 S.2.1[j])) = S.2.1.filter (fun x => decide (st x < st S.2.1[j])) := by
    refine List.filter_congr (fun x hx => ?_)
    have h1 := g5 x hx
    have h2 := g5 _ (List.getElem_mem hj)
    rw [h1.1, h2.1, decide_eq_decide]
    exact nI_ltI (by omega) (by omega)
  rw [e, cnR_len 96 _ (g7.filter _) (fun x hx => g8 x (List.mem_filter.mp hx).1)]
  exact rank_at g6 hj
theorem cnR_le (l : List Nat) (i : Nat) : cnR l i ≤ i := by
  unfold cnR
  have := List.length_filter_le (fun x => decide (x ∈ l)) (List.range i)
  simpa using this
theorem m65l (hR : RM τ S ck) (hck : ck < 2 ^ 31) {i : Nat} (hi : i < 2 ^ 31) : ∀ (k c : Nat) (o3 o4 : Option Value), c + k = 96 → (∀ j, ∀ h : j < S.2.1.length, S.2.1[j] < c → j ≠ i) → Ev d 65 2 [some (.ref 370), some (.int (nI i)), some (.int (nI c)), o3, o4] [] (sM M τ) (fun q9 M' => ∃ v9, q9 = .inl v9 ∧ v9 = some (.int (if i < S.2.1.length then nI (S.2.1.getD i 0) else -1)) ∧ M' = sM M τ) := by
  intro k
  induction k with
  | zero =>
    intro c o3 o4 hc hj
    obtain rfl : c = 96 := by omega
    have hl : ¬ i < S.2.1.length := fun h => hj i h (hR.2.2.2.2.2 _ (List.getElem_mem h)) rfl
    rw [if_neg hl]
    refine ev_iload_n t_65_2 rfl ?_
    refine ev_bipush t_65_3 ?_
    change Ev _ _ _ _ ([.int (nI (96)), .int (nI (96))]) _ _
    refine ev_icmp_geN t_65_5 (by omega) (by omega) (fun h_5 => ?_) (fun h_5 => ?_)
    · refine ev_iconst t_65_82 ?_
      change Ev _ _ _ _ ([.int (-1)]) _ _
      exact ev_reti t_65_83 (ri rfl) ⟨_, rfl, rfl, rfl⟩
    · omega
  | succ k ih =>
    intro c o3 o4 hc hj
    have eh := hR.2.1 c (by omega)
    have hle := cnR_le (S.2.1.filter (fun x => decide (τ 387 x < τ 387 c))) 96
    have knext : (c ∈ S.2.1 → ¬ cnR (S.2.1.filter (fun x => decide (τ 387 x < τ 387 c))) 96 = i) → ∀ o3 o4 : Option Value, Ev d 65 2 [some (.ref 370), some (.int (nI i)), some (.int (nI (c + 1))), o3, o4] [] (sM M τ) (fun q9 M' => ∃ v9, q9 = .inl v9 ∧ v9 = some (.int (if i < S.2.1.length then nI (S.2.1.getD i 0) else -1)) ∧ M' = sM M τ) := by
      intro hne o3 o4
      refine ih (c + 1) o3 o4 (by omega) (fun j h hlt e => ?_)
      by_cases e2 : S.2.1[j] = c
      · have hrk := RM_rank hR hck h
        rw [e2] at hrk
        exact hne (e2 ▸ List.getElem_mem h) (hrk.trans e)
      · exact hj j h (by omega) e
    have hin : Ev d 65 60 [some (.ref 370), some (.int (nI i)), some (.int (nI c)), some (.int (nI (cnR (S.2.1.filter (fun x => decide (τ 387 x < τ 387 c))) 96))), some (.int (nI 96))] [] (sM M τ) (fun q9 M' => ∃ v9, q9 = .inl v9 ∧ v9 = some (.int (if i < S.2.1.length then nI (S.2.1.getD i 0) else -1)) ∧ M' = sM M τ) := by
      refine ev_aload_n t_65_60 rfl ?_
      refine es_get (x := .ref 379) o_MO t_65_61 rfl ?_
      refine ev_iload_n t_65_64 rfl ?_
      refine es_zald (k := c) a_m379 t_65_65 (by omega) ?_
      refine ev_top (y := (bI (decide (c ∈ S.2.1)))) eh ?_
      refine ev_if_eq (y := 0) t_65_66 (fun h_66 => ?_) (fun h_66 => ?_)
      · refine ev_iincN (L' := [some (.ref 370), some (.int (nI (i))), some (.int (nI (c + 1))), some (.int (nI (cnR (S.2.1.filter (fun x => decide (τ 387 x < τ 387 c))) 96))), some (.int (nI (96)))]) t_65_76 rfl (Nat.le_of_ble_eq_true rfl) rfl ?_
        refine ev_goto t_65_79 ?_
        exact knext (fun h => absurd h (bI_d0.mp h_66)) _ _
      · refine ev_iload_n t_65_69 rfl ?_
        refine ev_iload_n t_65_70 rfl ?_
        refine ev_icmp_neN t_65_71 (by omega) (by omega) (fun h_71 => ?_) (fun h_71 => ?_)
        · refine ev_iincN (L' := [some (.ref 370), some (.int (nI (i))), some (.int (nI (c + 1))), some (.int (nI (cnR (S.2.1.filter (fun x => decide (τ 387 x < τ 387 c))) 96))), some (.int (nI (96)))]) t_65_76 rfl (Nat.le_of_ble_eq_true rfl) rfl ?_
          refine ev_goto t_65_79 ?_
          exact knext (fun _ => h_71) _ _
        · refine ev_iload_n t_65_74 rfl ?_
          have hm : c ∈ S.2.1 := Decidable.byContradiction fun h => h_66 (bI_d0.mpr h)
          obtain ⟨j, hjl, hje⟩ := List.getElem_of_mem hm
          have hrk := RM_rank hR hck hjl
          rw [hje] at hrk
          have hij : i = j := by omega
          subst hij
          exact ev_reti t_65_75 (ri rfl) ⟨_, rfl, by rw [if_pos hjl]; simp [List.getD_eq_getElem?_getD, hjl, hje], rfl⟩
    refine ev_iload_n t_65_2 rfl ?_
    refine ev_bipush t_65_3 ?_
    change Ev _ _ _ _ ([.int (nI (96)), .int (nI (c))]) _ _
    refine ev_icmp_geN t_65_5 (by omega) (by omega) (fun h_5 => ?_) (fun h_5 => ?_)
    · omega
    · refine ev_iconst t_65_8 ?_
      change Ev _ _ _ _ ([.int (nI (0))]) _ _
      refine ev_istore_n (L' := [some (.ref 370), some (.int (nI (i))), some (.int (nI (c))), some (.int (nI (0))), o4]) t_65_9 (Nat.le_of_ble_eq_true rfl) rfl ?_
      refine ev_iconst t_65_10 ?_
      change Ev _ _ _ _ ([.int (nI (0))]) _ _
      refine ev_istore (L' := [some (.ref 370), some (.int (nI (i))), some (.int (nI (c))), some (.int (nI (0))), some (.int (nI (0)))]) t_65_11 (Nat.le_of_ble_eq_true rfl) rfl ?_
      exact m65i (by omega) hR hin 96 0 rfl
theorem m65 (hR : RM τ S ck) (hck : ck < 2 ^ 31) {i : Nat} (hi : i < 2 ^ 31) : Ev d 65 0 [some (.ref 370), some (.int (nI i)), none, none, none] [] (sM M τ) (fun q9 M' => ∃ v9, q9 = .inl v9 ∧ v9 = some (.int (if i < S.2.1.length then nI (S.2.1.getD i 0) else -1)) ∧ M' = sM M τ) := by
  refine ev_iconst t_65_0 ?_
  change Ev _ _ _ _ ([.int (nI (0))]) _ _
  refine ev_istore_n (L' := [some (.ref 370), some (.int (nI (i))), some (.int (nI (0))), none, none]) t_65_1 (Nat.le_of_ble_eq_true rfl) rfl ?_
  exact m65l hR hck hi 96 0 none none rfl (fun j h hlt => by omega)
end MK
