/-! The reference: what run writes. -/
theorem rw_ne {n r : Nat} (h3 : r - 100 ≠ n) : 38 + 2 * (r - 100) ≠ 38 + 2 * n := by omega
theorem clO_ne {G G' : Nat → Nat → Int32} {n r : Nat} (h : ∀ q k, q ≠ 38 + 2 * n → G' q k = G q k) (h2 : 100 ≤ r → r - 100 ≠ n) : clO G' r = clO G r := by
  unfold clO
  by_cases h9 : r < 100
  · rw [if_pos h9, if_pos h9]
    exact h 16 (r / 16) (by omega)
  · rw [if_neg h9, if_neg h9]
    exact h (38 + 2 * (r - 100)) 5 (rw_ne (h2 (Nat.le_of_not_lt h9)))
theorem lcl_nil (G : Nat → Nat → Int32) (x : Int32) : lcl G [] x = x := by unfold lcl; exact List.foldl_nil
theorem lcl_cons (G : Nat → Nat → Int32) (r : Nat) (l : List Nat) (x : Int32) : lcl G (r :: l) x = lcl G l (if clO G r < x then clO G r else x) := by unfold lcl; exact List.foldl_cons
theorem lcl_ne {G G' : Nat → Nat → Int32} {n : Nat} (h : ∀ r, (100 ≤ r → r - 100 ≠ n) → clO G' r = clO G r) : ∀ (l : List Nat) (x : Int32), (∀ r ∈ l, (100 ≤ r → r - 100 ≠ n)) → lcl G' l x = lcl G l x := by
  intro l
  induction l with
  | nil => intro x _; rw [lcl_nil, lcl_nil]
  | cons r l ih =>
    intro x hr
    rw [lcl_cons, lcl_cons, h r (hr r List.mem_cons_self), ih _ (fun r' h' => hr r' (List.mem_cons_of_mem _ h'))]
theorem lcl_take {G : Nat → Nat → Int32} {l : List Nat} {i : Nat} {x : Int32} (hi : i < l.length) : lcl G (l.take (i + 1)) x = if clO G (l.getD i 0) < lcl G (l.take i) x then clO G (l.getD i 0) else lcl G (l.take i) x := by
  rw [take_s hi]
  unfold lcl
  rw [List.foldl_append]
  rfl

theorem RM_kp1 {τ τ1 : Nat → Nat → Int32} {S : SP} {ck n : Nat} {v : Int32} {rd : List Nat} (h : RM τ S ck) (hn9 : n < 96) (hl : ∀ m, m < 96 → (S.2.2 m).length ≤ 24) (h24 : rd.length ≤ 24) (hrd : ∀ r ∈ rd, n < 96 ∧ (100 ≤ r → r - 100 ≠ n)) (t1 : ∀ q, q ≠ 385 → τ1 q = τ q) (t2 : ∀ j, j < rd.length → τ1 385 (24 * n + j) = nI (rd.getD j 0)) (t3 : ∀ m j, m ≠ n → j < 24 → τ1 385 (24 * m + j) = τ 385 (24 * m + j)) (hs : n ∈ S.2.1 ∧ S.1 (38 + 2 * n) 0 = v) : RM (m_end (u2 (u2 (u2 (u2 (u2 (u2 (u2 (u2 τ1 382 n (τ1 382 n)) 379 n 1) 380 n v) 386 n (nI rd.length)) 381 n (S.1 17 0)) 383 n (lcl S.1 rd 2)) 384 n 0) 370 22 (S.1 8 11 + 1)) n ck) ((kpE S n v rd).1, put S.2.1 n, (kpE S n v rd).2.2) (ck + 1) := by
  obtain ⟨⟨⟨a1, a2, a3, a4, a5, a6⟩, b, c, e⟩, g2, g3, -, g7, g8⟩ := id h
  have hlc : lcl (kpG S n v) rd 2 = lcl S.1 rd 2 := lcl_ne (n := n) (fun r h => clO_ne (fun q k hq => kpG_ne hq) h) rd 2 (fun r hr => (hrd r hr).2)
  have hq : ∀ q k, q ≠ 385 → τ1 q k = τ q k := fun q k h => by rw [t1 q h]
  have a1 : τ1 370 5 = S.1 17 0 := by rw [hq _ _ (by omega)]; exact a1
  have a2 : τ1 370 21 = S.1 8 7 := by rw [hq _ _ (by omega)]; exact a2
  have a3 : τ1 370 22 = S.1 8 11 := by rw [hq _ _ (by omega)]; exact a3
  have a4 : τ1 370 23 = S.1 8 12 := by rw [hq _ _ (by omega)]; exact a4
  have a5 : τ1 370 24 = S.1 8 13 := by rw [hq _ _ (by omega)]; exact a5
  have a6 : τ1 370 25 = S.1 8 14 := by rw [hq _ _ (by omega)]; exact a6
  have b : ∀ k, k < 48 → τ1 374 k = S.1 14 k ∧ τ1 375 k = S.1 15 k := fun k hk => by rw [hq _ _ (by omega), hq _ _ (by omega)]; exact b k hk
  have c : ∀ k, k < 3 → τ1 376 k = S.1 16 k ∧ τ1 378 k = S.1 18 k := fun k hk => by rw [hq _ _ (by omega), hq _ _ (by omega)]; exact c k hk
  have e : ∀ k, k < 6 → τ1 377 k = S.1 12 k := fun k hk => by rw [hq _ _ (by omega)]; exact e k hk
  obtain ⟨⟨k1, k2, k3, k4, k5⟩, k6, k7⟩ := g3 n hs.1
  unfold kpE kpS
  rw [hlc]
  unfold kpG
  rw [if_pos hs]
  dsimp only
  refine RM_put h hn9 (fun q m h1 h2 h3 h4 _ => ?_) (fun m i h1 h2 h3 => ?_) (fun m k h1 h2 => ?_) (fun m h1 _ => if_neg h1) hl ⟨⟨?_, ?_, ?_, ?_, ?_, ?_⟩, fun k hk => ⟨?_, ?_⟩, fun k hk => ⟨?_, ?_⟩, fun k hk => ?_⟩ ?_ ⟨⟨?_, ?_, ?_, ?_, ?_⟩, ?_, fun i hi => ?_⟩ ?_ ?_ <;> try unfold m_end
  · rw [u2_off (by omega), u2_off (by omega), u2_off (by omega), u2_off (by omega), u2_off (by omega), u2_off (by omega), u2_off (by omega), u2_off (by omega), u2_off (by omega), u2_off (by omega)]; exact hq _ _ (by omega)
  · rw [u2_off (by omega), u2_off (by omega), u2_off (by omega), u2_off (by omega), u2_off (by omega), u2_off (by omega), u2_off (by omega), u2_off (by omega), u2_off (by omega), u2_off (by omega)]; exact t3 m i h1 h3
  · rw [u2_off (by omega), u2_off (by omega), u2_off (by omega), u2_off (by omega), u2_off (by omega)]
  · rw [u2_off (by omega), u2_off (by omega), u2_off (by omega), u2_off (by omega), u2_off (by omega), u2_off (by omega), u2_off (by omega), u2_off (by omega), u2_off (by omega), u2_off (by omega), u2_off (by omega), u2_off (by omega), u2_off (by omega), u2_off (by omega), u2_off (by omega)]; exact a1
  · rw [u2_off (by omega), u2_off (by omega), u2_off (by omega), u2_off (by omega), u2_off (by omega), u2_off (by omega), u2_off (by omega), u2_off (by omega), u2_off (by omega), u2_off (by omega), u2_off (by omega), u2_off (by omega), u2_off (by omega), u2_off (by omega), u2_off (by omega)]; exact a2
  · rw [u2_off (by omega), u2_off (by omega), u2_at, u2_at]
  · rw [u2_off (by omega), u2_off (by omega), u2_off (by omega), u2_off (by omega), u2_off (by omega), u2_off (by omega), u2_off (by omega), u2_off (by omega), u2_off (by omega), u2_off (by omega), u2_off (by omega), u2_off (by omega), u2_off (by omega), u2_off (by omega), u2_off (by omega)]; exact a4
  · rw [u2_off (by omega), u2_off (by omega), u2_off (by omega), u2_off (by omega), u2_off (by omega), u2_off (by omega), u2_off (by omega), u2_off (by omega), u2_off (by omega), u2_off (by omega), u2_off (by omega), u2_off (by omega), u2_off (by omega), u2_off (by omega), u2_off (by omega)]; exact a5
  · rw [u2_off (by omega), u2_off (by omega), u2_off (by omega), u2_off (by omega), u2_off (by omega), u2_off (by omega), u2_off (by omega), u2_off (by omega), u2_off (by omega), u2_off (by omega), u2_off (by omega), u2_off (by omega), u2_off (by omega), u2_off (by omega), u2_off (by omega)]; exact a6
  · rw [u2_off (by omega), u2_off (by omega), u2_off (by omega), u2_off (by omega), u2_off (by omega), u2_off (by omega), u2_off (by omega), u2_off (by omega), u2_off (by omega), u2_off (by omega), u2_off (by omega), u2_off (by omega), u2_off (by omega), u2_off (by omega), u2_off (by omega)]; exact (b k hk).1
  · rw [u2_off (by omega), u2_off (by omega), u2_off (by omega), u2_off (by omega), u2_off (by omega), u2_off (by omega), u2_off (by omega), u2_off (by omega), u2_off (by omega), u2_off (by omega), u2_off (by omega), u2_off (by omega), u2_off (by omega), u2_off (by omega), u2_off (by omega)]; exact (b k hk).2
  · rw [u2_off (by omega), u2_off (by omega), u2_off (by omega), u2_off (by omega), u2_off (by omega), u2_off (by omega), u2_off (by omega), u2_off (by omega), u2_off (by omega), u2_off (by omega), u2_off (by omega), u2_off (by omega), u2_off (by omega), u2_off (by omega), u2_off (by omega)]; exact (c k hk).1
  · rw [u2_off (by omega), u2_off (by omega), u2_off (by omega), u2_off (by omega), u2_off (by omega), u2_off (by omega), u2_off (by omega), u2_off (by omega), u2_off (by omega), u2_off (by omega), u2_off (by omega), u2_off (by omega), u2_off (by omega), u2_off (by omega), u2_off (by omega)]; exact (c k hk).2
  · rw [u2_off (by omega), u2_off (by omega), u2_off (by omega), u2_off (by omega), u2_off (by omega), u2_off (by omega), u2_off (by omega), u2_off (by omega), u2_off (by omega), u2_off (by omega), u2_off (by omega), u2_off (by omega), u2_off (by omega), u2_off (by omega), u2_off (by omega)]; exact e k hk
  · rw [u2_off (by omega), u2_off (by omega), u2_off (by omega), u2_off (by omega), u2_off (by omega), u2_off (by omega), u2_off (by omega), u2_off (by omega), u2_at]
  · dsimp only; rw [u2_off (by omega), u2_off (by omega), u2_off (by omega), u2_off (by omega), u2_off (by omega), u2_off (by omega), u2_off (by omega), u2_at, u2_off (by omega), u2_off (by omega), u2_off (by omega), u2_off (by omega), u2_at]
  · dsimp only; rw [u2_off (by omega), u2_off (by omega), u2_off (by omega), u2_off (by omega), u2_off (by omega), u2_at, u2_off (by omega), u2_off (by omega), u2_off (by omega), u2_at]
  · dsimp only; rw [u2_off (by omega), u2_off (by omega), u2_off (by omega), u2_off (by omega), u2_off (by omega), u2_off (by omega), u2_off (by omega), u2_off (by omega), u2_off (by omega), u2_at, u2_off (by omega), u2_off (by omega), u2_off (by omega), u2_off (by omega), u2_off (by omega)]; rw [hq _ _ (by omega)]; exact k3
  · dsimp only; rw [u2_off (by omega), u2_off (by omega), u2_off (by omega), u2_off (by omega), u2_at, u2_off (by omega), u2_off (by omega), u2_at]
  · dsimp only; rw [u2_off (by omega), u2_off (by omega), u2_off (by omega), u2_at, u2_off (by omega), u2_at]
  · rw [u2_off (by omega), u2_off (by omega), u2_off (by omega), u2_off (by omega), u2_off (by omega), u2_off (by omega), u2_at]; dsimp only; rw [if_pos rfl]
  · dsimp only at hi ⊢; rw [if_pos rfl] at hi ⊢; rw [u2_off (by omega), u2_off (by omega), u2_off (by omega), u2_off (by omega), u2_off (by omega), u2_off (by omega), u2_off (by omega), u2_off (by omega), u2_off (by omega), u2_off (by omega)]; exact t2 i hi
  · rw [u2_off (by omega), u2_at]
  · exact u2_at
theorem RM_kp2 {τ τ1 : Nat → Nat → Int32} {S : SP} {ck n : Nat} {v : Int32} {rd : List Nat} (h : RM τ S ck) (hn9 : n < 96) (hl : ∀ m, m < 96 → (S.2.2 m).length ≤ 24) (h24 : rd.length ≤ 24) (hrd : ∀ r ∈ rd, n < 96 ∧ (100 ≤ r → r - 100 ≠ n)) (t1 : ∀ q, q ≠ 385 → τ1 q = τ q) (t2 : ∀ j, j < rd.length → τ1 385 (24 * n + j) = nI (rd.getD j 0)) (t3 : ∀ m j, m ≠ n → j < 24 → τ1 385 (24 * m + j) = τ 385 (24 * m + j)) (hs : ¬ (n ∈ S.2.1 ∧ S.1 (38 + 2 * n) 0 = v)) : RM (m_end (u2 (u2 (u2 (u2 (u2 (u2 (u2 (u2 τ1 382 n (S.1 17 0)) 379 n 1) 380 n v) 386 n (nI rd.length)) 381 n (S.1 17 0)) 383 n (lcl S.1 rd 2)) 384 n 0) 370 22 (S.1 8 11 + 1)) n ck) ((kpE S n v rd).1, put S.2.1 n, (kpE S n v rd).2.2) (ck + 1) := by
  obtain ⟨⟨⟨a1, a2, a3, a4, a5, a6⟩, b, c, e⟩, g2, g3, -, g7, g8⟩ := id h
  have hlc : lcl (kpG S n v) rd 2 = lcl S.1 rd 2 := lcl_ne (n := n) (fun r h => clO_ne (fun q k hq => kpG_ne hq) h) rd 2 (fun r hr => (hrd r hr).2)
  have hq : ∀ q k, q ≠ 385 → τ1 q k = τ q k := fun q k h => by rw [t1 q h]
  have a1 : τ1 370 5 = S.1 17 0 := by rw [hq _ _ (by omega)]; exact a1
  have a2 : τ1 370 21 = S.1 8 7 := by rw [hq _ _ (by omega)]; exact a2
  have a3 : τ1 370 22 = S.1 8 11 := by rw [hq _ _ (by omega)]; exact a3
  have a4 : τ1 370 23 = S.1 8 12 := by rw [hq _ _ (by omega)]; exact a4
  have a5 : τ1 370 24 = S.1 8 13 := by rw [hq _ _ (by omega)]; exact a5
  have a6 : τ1 370 25 = S.1 8 14 := by rw [hq _ _ (by omega)]; exact a6
  have b : ∀ k, k < 48 → τ1 374 k = S.1 14 k ∧ τ1 375 k = S.1 15 k := fun k hk => by rw [hq _ _ (by omega), hq _ _ (by omega)]; exact b k hk
  have c : ∀ k, k < 3 → τ1 376 k = S.1 16 k ∧ τ1 378 k = S.1 18 k := fun k hk => by rw [hq _ _ (by omega), hq _ _ (by omega)]; exact c k hk
  have e : ∀ k, k < 6 → τ1 377 k = S.1 12 k := fun k hk => by rw [hq _ _ (by omega)]; exact e k hk
  unfold kpE kpS
  rw [hlc]
  unfold kpG
  rw [if_neg hs]
  dsimp only
  refine RM_put h hn9 (fun q m h1 h2 h3 h4 _ => ?_) (fun m i h1 h2 h3 => ?_) (fun m k h1 h2 => ?_) (fun m h1 _ => if_neg h1) hl ⟨⟨?_, ?_, ?_, ?_, ?_, ?_⟩, fun k hk => ⟨?_, ?_⟩, fun k hk => ⟨?_, ?_⟩, fun k hk => ?_⟩ ?_ ⟨⟨?_, ?_, ?_, ?_, ?_⟩, ?_, fun i hi => ?_⟩ ?_ ?_ <;> try unfold m_end
  · rw [u2_off (by omega), u2_off (by omega), u2_off (by omega), u2_off (by omega), u2_off (by omega), u2_off (by omega), u2_off (by omega), u2_off (by omega), u2_off (by omega), u2_off (by omega)]; exact hq _ _ (by omega)
  · rw [u2_off (by omega), u2_off (by omega), u2_off (by omega), u2_off (by omega), u2_off (by omega), u2_off (by omega), u2_off (by omega), u2_off (by omega), u2_off (by omega), u2_off (by omega)]; exact t3 m i h1 h3
  · rw [u2_off (by omega), u2_off (by omega), u2_off (by omega), u2_off (by omega), u2_off (by omega), u2_off (by omega)]
  · rw [u2_off (by omega), u2_off (by omega), u2_off (by omega), u2_off (by omega), u2_off (by omega), u2_off (by omega), u2_off (by omega), u2_off (by omega), u2_off (by omega), u2_off (by omega), u2_off (by omega), u2_off (by omega), u2_off (by omega), u2_off (by omega), u2_off (by omega), u2_off (by omega)]; exact a1
  · rw [u2_off (by omega), u2_off (by omega), u2_off (by omega), u2_off (by omega), u2_off (by omega), u2_off (by omega), u2_off (by omega), u2_off (by omega), u2_off (by omega), u2_off (by omega), u2_off (by omega), u2_off (by omega), u2_off (by omega), u2_off (by omega), u2_off (by omega), u2_off (by omega)]; exact a2
  · rw [u2_off (by omega), u2_off (by omega), u2_at, u2_at]
  · rw [u2_off (by omega), u2_off (by omega), u2_off (by omega), u2_off (by omega), u2_off (by omega), u2_off (by omega), u2_off (by omega), u2_off (by omega), u2_off (by omega), u2_off (by omega), u2_off (by omega), u2_off (by omega), u2_off (by omega), u2_off (by omega), u2_off (by omega), u2_off (by omega)]; exact a4
  · rw [u2_off (by omega), u2_off (by omega), u2_off (by omega), u2_off (by omega), u2_off (by omega), u2_off (by omega), u2_off (by omega), u2_off (by omega), u2_off (by omega), u2_off (by omega), u2_off (by omega), u2_off (by omega), u2_off (by omega), u2_off (by omega), u2_off (by omega), u2_off (by omega)]; exact a5
  · rw [u2_off (by omega), u2_off (by omega), u2_off (by omega), u2_off (by omega), u2_off (by omega), u2_off (by omega), u2_off (by omega), u2_off (by omega), u2_off (by omega), u2_off (by omega), u2_off (by omega), u2_off (by omega), u2_off (by omega), u2_off (by omega), u2_off (by omega), u2_off (by omega)]; exact a6
  · rw [u2_off (by omega), u2_off (by omega), u2_off (by omega), u2_off (by omega), u2_off (by omega), u2_off (by omega), u2_off (by omega), u2_off (by omega), u2_off (by omega), u2_off (by omega), u2_off (by omega), u2_off (by omega), u2_off (by omega), u2_off (by omega), u2_off (by omega), u2_off (by omega)]; exact (b k hk).1
  · rw [u2_off (by omega), u2_off (by omega), u2_off (by omega), u2_off (by omega), u2_off (by omega), u2_off (by omega), u2_off (by omega), u2_off (by omega), u2_off (by omega), u2_off (by omega), u2_off (by omega), u2_off (by omega), u2_off (by omega), u2_off (by omega), u2_off (by omega), u2_off (by omega)]; exact (b k hk).2
  · rw [u2_off (by omega), u2_off (by omega), u2_off (by omega), u2_off (by omega), u2_off (by omega), u2_off (by omega), u2_off (by omega), u2_off (by omega), u2_off (by omega), u2_off (by omega), u2_off (by omega), u2_off (by omega), u2_off (by omega), u2_off (by omega), u2_off (by omega), u2_off (by omega)]; exact (c k hk).1
  · rw [u2_off (by omega), u2_off (by omega), u2_off (by omega), u2_off (by omega), u2_off (by omega), u2_off (by omega), u2_off (by omega), u2_off (by omega), u2_off (by omega), u2_off (by omega), u2_off (by omega), u2_off (by omega), u2_off (by omega), u2_off (by omega), u2_off (by omega), u2_off (by omega)]; exact (c k hk).2
  · rw [u2_off (by omega), u2_off (by omega), u2_off (by omega), u2_off (by omega), u2_off (by omega), u2_off (by omega), u2_off (by omega), u2_off (by omega), u2_off (by omega), u2_off (by omega), u2_off (by omega), u2_off (by omega), u2_off (by omega), u2_off (by omega), u2_off (by omega), u2_off (by omega)]; exact e k hk
  · rw [u2_off (by omega), u2_off (by omega), u2_off (by omega), u2_off (by omega), u2_off (by omega), u2_off (by omega), u2_off (by omega), u2_off (by omega), u2_at]
  · dsimp only; rw [u2_off (by omega), u2_off (by omega), u2_off (by omega), u2_off (by omega), u2_off (by omega), u2_off (by omega), u2_off (by omega), u2_at, u2_off (by omega), u2_off (by omega), u2_off (by omega), u2_off (by omega), u2_at]
  · dsimp only; rw [u2_off (by omega), u2_off (by omega), u2_off (by omega), u2_off (by omega), u2_off (by omega), u2_at, u2_off (by omega), u2_off (by omega), u2_off (by omega), u2_at]
  · dsimp only; rw [u2_off (by omega), u2_off (by omega), u2_off (by omega), u2_off (by omega), u2_off (by omega), u2_off (by omega), u2_off (by omega), u2_off (by omega), u2_off (by omega), u2_at, u2_off (by omega), u2_off (by omega), u2_off (by omega), u2_off (by omega), u2_off (by omega), u2_at]
  · dsimp only; rw [u2_off (by omega), u2_off (by omega), u2_off (by omega), u2_off (by omega), u2_at, u2_off (by omega), u2_off (by omega), u2_at]
  · dsimp only; rw [u2_off (by omega), u2_off (by omega), u2_off (by omega), u2_at, u2_off (by omega), u2_at]
  · rw [u2_off (by omega), u2_off (by omega), u2_off (by omega), u2_off (by omega), u2_off (by omega), u2_off (by omega), u2_at]; dsimp only; rw [if_pos rfl]
  · dsimp only at hi ⊢; rw [if_pos rfl] at hi ⊢; rw [u2_off (by omega), u2_off (by omega), u2_off (by omega), u2_off (by omega), u2_off (by omega), u2_off (by omega), u2_off (by omega), u2_off (by omega), u2_off (by omega), u2_off (by omega)]; exact t2 i hi
  · rw [u2_off (by omega), u2_at]
  · exact u2_at
theorem MS_q {τ τ' G : Nat → Nat → Int32} (h : ∀ q, q ≠ 385 → τ' q = τ q) (hS : MS τ G) : MS τ' G := by
  unfold MS at hS ⊢
  rw [h 370 (by omega), h 374 (by omega), h 375 (by omega), h 376 (by omega), h 377 (by omega), h 378 (by omega)]
  exact hS
theorem bI_d0n {p : Prop} [Decidable p] (h : ¬ bI (decide p) = 0) : p := Decidable.byContradiction fun e => h (bI_d0.mpr e)
