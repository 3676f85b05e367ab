/-! What an asking leaves as it is: good cells, cells under way; how many cells aren't good. -/
theorem mem_put {l : List Nat} {n m : Nat} : m ∈ put l n ↔ m ∈ l ∨ m = n := by
  unfold put
  by_cases h : m = n
  · subst h; simp
  · simp only [List.mem_append, List.mem_singleton, List.mem_erase_of_ne h]
def Kp (u : List Nat) (S S1 : SP) : Prop := (∀ q k, KR q k → S1.1 q k = S.1 q k) ∧ (∀ m, m < 96 → gdB S m = true → gdB S1 m = true ∧ ∀ k, S1.1 (38 + 2 * m) k = S.1 (38 + 2 * m) k) ∧ ∀ m ∈ u, (m ∈ S1.2.1 ↔ m ∈ S.2.1) ∧ S1.1 (38 + 2 * m) 3 = S.1 (38 + 2 * m) 3
def NB (u : List Nat) (S : SP) : Prop := u.Nodup ∧ ∀ m ∈ u, m < 96 ∧ ¬ gdB S m = true
def bad (S : SP) : Nat := (List.range 96).countP (fun m => !gdB S m)
theorem gdB_iff {S : SP} {n : Nat} : gdB S n = true ↔ n ∈ S.2.1 ∧ S.1 (38 + 2 * n) 3 = S.1 17 0 := by unfold gdB; simp
theorem Kp.rfl {u : List Nat} {S : SP} : Kp u S S := ⟨fun _ _ _ => Eq.refl _, fun _ _ h => ⟨h, fun _ => Eq.refl _⟩, fun _ _ => ⟨Iff.rfl, Eq.refl _⟩⟩
theorem Kp.trans {u : List Nat} {S S1 S2 : SP} (h : Kp u S S1) (h' : Kp u S1 S2) : Kp u S S2 :=
  ⟨fun q k hq => (h'.1 q k hq).trans (h.1 q k hq), fun m hm hg => ⟨(h'.2.1 m hm (h.2.1 m hm hg).1).1, fun k => ((h'.2.1 m hm (h.2.1 m hm hg).1).2 k).trans ((h.2.1 m hm hg).2 k)⟩, fun m hm => ⟨(h'.2.2 m hm).1.trans (h.2.2 m hm).1, (h'.2.2 m hm).2.trans (h.2.2 m hm).2⟩⟩
theorem Kp.less {u v : List Nat} {S S1 : SP} (h : Kp v S S1) (hs : ∀ m ∈ u, m ∈ v) : Kp u S S1 := ⟨h.1, h.2.1, fun m hm => h.2.2 m (hs m hm)⟩
theorem NB_kp {u : List Nat} {S S1 : SP} (h : NB u S) (hk : Kp u S S1) : NB u S1 := by
  refine ⟨h.1, fun m hm => ⟨(h.2 m hm).1, fun hg => (h.2 m hm).2 ?_⟩⟩
  rw [gdB_iff] at hg ⊢
  rw [(hk.2.2 m hm).1, (hk.2.2 m hm).2, hk.1 17 0 (by unfold KR; omega)] at hg
  exact hg
theorem cnt_mono {p q : Nat → Bool} : ∀ (l : List Nat), (∀ m ∈ l, q m = true → p m = true) → l.countP q ≤ l.countP p := by
  intro l
  induction l with
  | nil => intro _; simp
  | cons a l ih =>
    intro h
    have h1 := ih (fun m hm => h m (List.mem_cons_of_mem _ hm))
    have h2 := h a (by simp)
    rw [List.countP_cons, List.countP_cons]
    by_cases e : q a = true
    · rw [if_pos e, if_pos (h2 e)]; omega
    · rw [if_neg e]; omega
theorem cnt_lt {p q : Nat → Bool} {n : Nat} : ∀ (l : List Nat), (∀ m ∈ l, q m = true → p m = true) → n ∈ l → p n = true → ¬ q n = true → l.countP q + 1 ≤ l.countP p := by
  intro l
  induction l with
  | nil => intro _ h; cases h
  | cons a l ih =>
    intro h hn hp hq
    have h2 := h a (by simp)
    rw [List.countP_cons, List.countP_cons]
    rcases List.mem_cons.mp hn with e | e
    · subst e
      have h1 := cnt_mono (p := p) (q := q) l (fun m hm => h m (List.mem_cons_of_mem _ hm))
      rw [if_neg hq, if_pos hp]; omega
    · have h1 := ih (fun m hm => h m (List.mem_cons_of_mem _ hm)) e hp hq
      by_cases e : q a = true
      · rw [if_pos e, if_pos (h2 e)]; omega
      · rw [if_neg e]; omega
theorem bad_le {S S1 : SP} (h : ∀ m, m < 96 → gdB S m = true → gdB S1 m = true) : bad S1 ≤ bad S := by
  unfold bad
  refine cnt_mono _ (fun m hm hq => ?_)
  have := h m (List.mem_range.mp hm)
  revert this hq
  cases gdB S m <;> cases gdB S1 m <;> simp
theorem bad_lt {S S1 : SP} {n : Nat} (hn : n < 96) (h : ∀ m, m < 96 → gdB S m = true → gdB S1 m = true) (h1 : ¬ gdB S n = true) (h2 : gdB S1 n = true) : bad S1 + 1 ≤ bad S := by
  unfold bad
  refine cnt_lt (n := n) _ (fun m hm hq => ?_) (List.mem_range.mpr hn) (by simpa using h1) (by simp [h2])
  have := h m (List.mem_range.mp hm)
  revert this hq
  cases gdB S m <;> cases gdB S1 m <;> simp
theorem bad_96 {S : SP} : bad S ≤ 96 := by
  unfold bad
  exact Nat.le_trans List.countP_le_length (by simp)
theorem bad_kp {u : List Nat} {S S1 : SP} (h : Kp u S S1) : bad S1 ≤ bad S := bad_le fun m hm hg => (h.2.1 m hm hg).1
/-- one cell alone is written: what stays -/
theorem Kp_one {u : List Nat} {n : Nat} {S : SP} {G' : Nat → Nat → Int32} {rs' : Nat → List Nat} (hn : ¬ gdB S n = true) (hu : n ∉ u) (h1 : ∀ q k, q ≠ 38 + 2 * n → q ≠ 8 → G' q k = S.1 q k) (h2 : G' 8 7 = S.1 8 7) (h3 : n < 96) : Kp u S (G', put S.2.1 n, rs') := by
  refine ⟨fun q k hq => ?_, fun m hm hg => ?_, fun m hm => ?_⟩
  · unfold KR at hq
    dsimp only
    by_cases e : q = 8
    · obtain ⟨rfl, rfl⟩ : q = 8 ∧ k = 7 := by omega
      exact h2
    · exact h1 q k (by omega) e
  · have hne : m ≠ n := fun e => hn (e ▸ hg)
    refine ⟨?_, fun k => h1 _ k (by omega) (by omega)⟩
    rw [gdB_iff] at hg ⊢
    dsimp only
    rw [h1 _ 3 (by omega) (by omega), h1 17 0 (by omega) (by omega)]
    exact ⟨mem_put.mpr (Or.inl hg.1), hg.2⟩
  · have hne : m ≠ n := fun e => hu (e ▸ hm)
    dsimp only
    rw [mem_put, h1 _ 3 (by omega) (by omega)]
    exact ⟨⟨fun h => h.resolve_right hne, Or.inl⟩, rfl⟩
theorem Kp_sk {u : List Nat} {n : Nat} {S : SP} (hn : ¬ gdB S n = true) (hu : n ∉ u) (h3 : n < 96) : Kp u S (doSk S n) ∧ gdB (doSk S n) n = true := by
  refine ⟨Kp_one hn hu (fun q k h1 h2 => ?_) ?_ h3, ?_⟩
  · rw [u2_ne h2, u2_ne h1]
  · rw [u2_off (by omega), u2_off (by omega)]
  · rw [gdB_iff]
    unfold doSk
    dsimp only
    rw [u2_off (by omega), u2_at, u2_off (by omega), u2_off (by omega)]
    exact ⟨mem_put.mpr (Or.inr rfl), rfl⟩
theorem Kp_vf {u : List Nat} {n : Nat} {S : SP} (hn : ¬ gdB S n = true) (hu : n ∉ u) (h3 : n < 96) : Kp u S ((vfyE S n).1, put S.2.1 n, S.2.2) ∧ gdB ((vfyE S n).1, put S.2.1 n, S.2.2) n = true := by
  refine ⟨Kp_one hn hu (fun q k h1 h2 => ?_) ?_ h3, ?_⟩
  · unfold vfyE vfyG; dsimp only; rw [u2_ne h2, u2_ne h1, u2_ne h1]
  · unfold vfyE vfyG; dsimp only; rw [u2_off (by omega), u2_off (by omega), u2_off (by omega)]
  · rw [gdB_iff]
    unfold vfyE vfyG
    dsimp only
    rw [u2_off (by omega), u2_off (by omega), u2_at, u2_off (by omega), u2_off (by omega), u2_off (by omega)]
    exact ⟨mem_put.mpr (Or.inr rfl), rfl⟩
theorem kpG_ne {S : SP} {n q k : Nat} {v : Int32} (h : q ≠ 38 + 2 * n) : kpG S n v q k = S.1 q k := by
  unfold kpG
  rw [u2_ne h, u2_ne h]
  split
  · rfl
  · rw [u2_ne h]
theorem Kp_kp {u : List Nat} {n : Nat} {S : SP} {v : Int32} {rd : List Nat} (hn : ¬ gdB S n = true) (hu : n ∉ u) (h3 : n < 96) : Kp u S ((kpE S n v rd).1, put S.2.1 n, (kpE S n v rd).2.2) ∧ gdB ((kpE S n v rd).1, put S.2.1 n, (kpE S n v rd).2.2) n = true := by
  refine ⟨Kp_one hn hu (fun q k h1 h2 => ?_) ?_ h3, ?_⟩
  · unfold kpE kpS; dsimp only; rw [u2_ne h2, u2_ne h1, u2_ne h1, kpG_ne h1]
  · unfold kpE kpS; dsimp only; rw [u2_off (by omega), u2_off (by omega), u2_off (by omega), kpG_ne (by omega)]
  · rw [gdB_iff]
    unfold kpE kpS
    dsimp only
    rw [u2_off (by omega), u2_off (by omega), u2_off (by omega), u2_off (by omega), u2_off (by omega), u2_off (by omega), kpG_ne (q := 17) (by omega)]
    unfold kpG
    rw [u2_at]
    exact ⟨mem_put.mpr (Or.inr rfl), rfl⟩
theorem ci_one {S : SP} {n : Nat} (h3 : n < 96) : (∀ m, m < 96 → gdB S m = true → gdB (ci1 S n) m = true) ∧ gdB (ci1 S n) n = true ∧ ∀ m, m ≠ n → gdB (ci1 S n) m = gdB S m := by
  have hn : gdB (ci1 S n) n = true := by
    rw [gdB_iff]
    unfold ci1
    dsimp only
    rw [u2_off (by omega), u2_off (by omega), u2_off (by omega), u2_off (by omega), u2_at, u2_off (by omega), u2_off (by omega), u2_off (by omega), u2_off (by omega), u2_off (by omega), u2_off (by omega)]
    exact ⟨mem_put.mpr (Or.inr rfl), rfl⟩
  have ho : ∀ m, m ≠ n → gdB (ci1 S n) m = gdB S m := by
    intro m hm
    rw [Bool.eq_iff_iff, gdB_iff, gdB_iff]
    unfold ci1
    dsimp only
    rw [u2_off (by omega), u2_off (by omega), u2_off (by omega), u2_off (by omega), u2_off (by omega), u2_off (by omega), u2_off (by omega), u2_off (by omega), u2_off (by omega), u2_off (by omega), u2_off (by omega), u2_off (by omega), mem_put]
    exact ⟨fun h => ⟨h.1.resolve_right hm, h.2⟩, fun h => ⟨Or.inl h.1, h.2⟩⟩
  refine ⟨fun m _ hg => ?_, hn, ho⟩
  by_cases e : m = n
  · subst e; exact hn
  · rw [ho m e]; exact hg
theorem bad_cis : ∀ (l : List Nat) (S : SP), l.Nodup → (∀ m ∈ l, m < 96 ∧ ¬ gdB S m = true) → bad (l.foldl ci1 S) + l.length ≤ bad S := by
  intro l
  induction l with
  | nil => intro S _ _; exact Nat.le_refl _
  | cons n l ih =>
    intro S hd hl
    obtain ⟨h1, h2⟩ := List.nodup_cons.mp hd
    obtain ⟨g1, g2, g3⟩ := ci_one (S := S) (hl n (by simp)).1
    have h5 := bad_lt (hl n (by simp)).1 g1 (hl n (by simp)).2 g2
    have h6 := ih (ci1 S n) h2 (fun m hm => ⟨(hl m (List.mem_cons_of_mem _ hm)).1, by rw [g3 m (fun e => h1 (e ▸ hm))]; exact (hl m (List.mem_cons_of_mem _ hm)).2⟩)
    simp only [List.foldl_cons, List.length_cons]
    omega
theorem bad_circle {u : List Nat} {S : SP} {n : Nat} (h : NB u S) : bad ((u.drop (u.idxOf n)).foldl ci1 S) + (u.drop (u.idxOf n)).length ≤ bad S :=
  bad_cis _ S (h.1.sublist (List.drop_sublist _ _)) (fun m hm => h.2 m (List.mem_of_mem_drop hm))
theorem idx_lt {u : List Nat} {n : Nat} (h : n ∈ u) : 1 ≤ (u.drop (u.idxOf n)).length := by
  have := List.idxOf_lt_length_of_mem h
  rw [List.length_drop]; omega
/-- asking, from cells under way -/
def AP (T : Nat → List Nat) (u : List Nat) (A : Nat → SP → Nat × SP) : Prop := ∀ n S, n < 96 → GW T S → NB u S → ((A n S).1 = 1 → Kp u S (A n S).2 ∧ gdB (A n S).2 n = true ∧ n ∉ u) ∧ ((A n S).1 = 3 → bad (A n S).2 < bad S)
def GR (u : List Nat) (S : SP) (r : Nat) : Prop := RdOk r ∧ (100 ≤ r → gdB S (r - 100) = true ∧ r - 100 ∉ u)
theorem AP_r {T : Nat → List Nat} {u : List Nat} {A : Nat → SP → Nat × SP} (h : AP T u A) {r : Nat} {S : SP} (hr : RdOk r) (hS : GW T S) (hu : NB u S) : ((askR A r S).1 = 1 → Kp u S (askR A r S).2 ∧ GR u (askR A r S).2 r) ∧ ((askR A r S).1 = 3 → bad (askR A r S).2 < bad S) := by
  have hr2 := hr
  unfold RdOk at hr2
  unfold askR
  split
  · exact ⟨fun _ => ⟨Kp.rfl, hr, fun h => by omega⟩, fun h => (by cases h)⟩
  · obtain ⟨h1, h2⟩ := h (r - 100) S (by omega) hS hu
    exact ⟨fun e => ⟨(h1 e).1, hr, fun _ => (h1 e).2⟩, h2⟩
theorem vfy_ap {T : Nat → List Nat} {u : List Nat} {A : Nat → SP → Nat × SP} (hK : AK T u A) (h : AP T u A) {n : Nat} : ∀ (l : List Nat) (S : SP), (∀ r ∈ l, RdOk r) → GW T S → NB u S → ((vfy A n l S).1 = 1 → ∃ S0, Kp u S S0 ∧ (vfy A n l S).2 = vfyE S0 n) ∧ ((vfy A n l S).1 = 2 → Kp u S (vfy A n l S).2) ∧ ((vfy A n l S).1 = 3 → bad (vfy A n l S).2 < bad S) := by
  intro l
  induction l with
  | nil => intro S _ hS hu; exact ⟨fun _ => ⟨S, Kp.rfl, rfl⟩, fun h => (by cases h), fun h => (by cases h)⟩
  | cons r l ih =>
    intro S hr hS hu
    obtain ⟨⟨g1, g2⟩, g3⟩ := AK_r hK (hr r (by simp)) hS
    obtain ⟨g4, g5⟩ := AP_r h (hr r (by simp)) hS hu
    simp only [vfy]
    split
    · rename_i h1
      exact ⟨fun e => absurd e h1, fun e => (by omega), g5⟩
    · rename_i h1
      have h1 : (askR A r S).1 = 1 := Decidable.byContradiction h1
      have hk := (g4 h1).1
      split
      · obtain ⟨k1, k2, k3⟩ := ih _ (fun r' h' => hr r' (List.mem_cons_of_mem _ h')) g1 (NB_kp hu hk)
        have hb := bad_kp hk
        refine ⟨fun e => ?_, fun e => hk.trans (k2 e), fun e => ?_⟩
        · obtain ⟨S0, e1, e2⟩ := k1 e
          exact ⟨S0, hk.trans e1, e2⟩
        · have := k3 e; omega
      · exact ⟨fun e => (by cases e), fun _ => hk, fun e => (by cases e)⟩
theorem rnW_ap {T : Nat → List Nat} {u : List Nat} {A : Nat → SP → Nat × SP} (hK : AK T u A) (h : AP T u A) {t : List Nat} (hv9 : ∀ c ∈ t, ow c ≠ 9) {key n : Nat} : ∀ (k i : Nat) (w : WS) (rd : List Nat) (S : SP), WI t i w → GW T S → NB u S → ((rnW A t key n k w rd S).1 = 1 → ∃ S0 v rd', Kp u S S0 ∧ (rnW A t key n k w rd S).2 = kpE S0 n v rd') ∧ ((rnW A t key n k w rd S).1 = 3 → bad (rnW A t key n k w rd S).2 < bad S) := by
  intro k
  induction k with
  | zero => intro i w rd S _ _ _; exact ⟨fun _ => ⟨S, _, _, Kp.rfl, rfl⟩, fun e => (by cases e)⟩
  | succ k ih =>
    intro i w rd S hI hS hu
    obtain ⟨w1, v, a, s⟩ := w
    cases w1 with
    | none => exact ⟨fun _ => ⟨S, _, _, Kp.rfl, rfl⟩, fun e => (by cases e)⟩
    | some r =>
      have hr := hI.2.2.2 r rfl
      obtain ⟨⟨g1, g2⟩, g3⟩ := AK_r hK hr hS
      obtain ⟨g4, g5⟩ := AP_r h hr hS hu
      simp only [rnW]
      split
      · rename_i h1
        exact ⟨fun e => absurd e h1, g5⟩
      · rename_i h1
        have h1 : (askR A r S).1 = 1 := Decidable.byContradiction h1
        have hk := (g4 h1).1
        have hb := bad_kp hk
        obtain ⟨k1, k3⟩ := ih (i + 1) _ (nte rd r) _ (wgo_inv hv9 24 _ (wtk_inv hI rfl)) g1 (NB_kp hu hk)
        refine ⟨fun e => ?_, fun e => ?_⟩
        · obtain ⟨S0, v0, rd0, e1, e2⟩ := k1 e
          exact ⟨S0, v0, rd0, hk.trans e1, e2⟩
        · have := k3 e; omega
theorem NB_push {u : List Nat} {S : SP} {n : Nat} (h : NB u S) (hn : n < 96) (h1 : n ∉ u) (h2 : ¬ gdB S n = true) : NB (u ++ [n]) S := by
  refine ⟨?_, fun m hm => ?_⟩
  · rw [List.nodup_append]
    exact ⟨h.1, by simp, fun a ha b hb e => h1 (by rw [List.mem_singleton] at hb; subst hb; subst e; exact ha)⟩
  · rcases List.mem_append.mp hm with h3 | h3
    · exact h.2 m h3
    · rw [List.mem_singleton] at h3; subst h3; exact ⟨hn, h2⟩
theorem ask_ap {T : Nat → List Nat} (hT : ∀ f, f < 6 → Rst 1 (T f)) : ∀ (k : Nat) (u : List Nat), AP T u (ask T k u) := by
  intro k
  induction k with
  | zero =>
    intro u n S hn hS hu
    unfold ask
    split
    · rename_i h
      exact ⟨fun e => (by cases e), fun _ => by have := bad_circle (n := n) hu; have := idx_lt h; dsimp only; omega⟩
    · rename_i hnu
      split
      · rename_i hg; exact ⟨fun _ => ⟨Kp.rfl, hg, hnu⟩, fun e => (by cases e)⟩
      · rename_i hg
        split
        · exact ⟨fun _ => ⟨(Kp_sk hg hnu hn).1, (Kp_sk hg hnu hn).2, hnu⟩, fun e => (by cases e)⟩
        · exact ⟨fun e => (by cases e), fun e => (by cases e)⟩
  | succ k ih =>
    intro u n S hn hS hu
    unfold ask
    split
    · rename_i h
      exact ⟨fun e => (by cases e), fun _ => by have := bad_circle (n := n) hu; have := idx_lt h; dsimp only; omega⟩
    · rename_i hnu
      split
      · rename_i hg; exact ⟨fun _ => ⟨Kp.rfl, hg, hnu⟩, fun e => (by cases e)⟩
      · rename_i hg
        split
        · exact ⟨fun _ => ⟨(Kp_sk hg hnu hn).1, (Kp_sk hg hnu hn).2, hnu⟩, fun e => (by cases e)⟩
        · have hv9 := Rst.val _ _ (hT (n / 16) (by omega))
          have hu' := NB_push hu hn hnu hg
          have hK := ask_ok hT k (u ++ [n])
          have hP := ih (u ++ [n])
          have o1 := ask1_ok hK hn hS (T (n / 16))
          have hsub : ∀ m ∈ u, m ∈ u ++ [n] := fun m hm => List.mem_append_left _ hm
          have q1 : ((ask1 (ask T k (u ++ [n])) (T (n / 16)) n S).1 = 1 → ∃ S0, Kp (u ++ [n]) S S0 ∧ (ask1 (ask T k (u ++ [n])) (T (n / 16)) n S).2 = vfyE S0 n) ∧ ((ask1 (ask T k (u ++ [n])) (T (n / 16)) n S).1 = 2 → Kp (u ++ [n]) S (ask1 (ask T k (u ++ [n])) (T (n / 16)) n S).2) ∧ ((ask1 (ask T k (u ++ [n])) (T (n / 16)) n S).1 = 3 → bad (ask1 (ask T k (u ++ [n])) (T (n / 16)) n S).2 < bad S) := by
            unfold ask1
            split
            · exact vfy_ap hK hP _ S (hS.1 n hn).2.2 hS hu'
            · exact ⟨fun e => (by cases e), fun _ => Kp.rfl, fun e => (by cases e)⟩
          generalize ask1 (ask T k (u ++ [n])) (T (n / 16)) n S = x at o1 q1 ⊢
          have q2 : ((ask2 (ask T k (u ++ [n])) (T (n / 16)) n x).1 = 1 → (∃ S0, Kp (u ++ [n]) S S0 ∧ (ask2 (ask T k (u ++ [n])) (T (n / 16)) n x).2 = vfyE S0 n) ∨ ∃ S0 v rd, Kp (u ++ [n]) S S0 ∧ (ask2 (ask T k (u ++ [n])) (T (n / 16)) n x).2 = kpE S0 n v rd) ∧ ((ask2 (ask T k (u ++ [n])) (T (n / 16)) n x).1 = 3 → bad (ask2 (ask T k (u ++ [n])) (T (n / 16)) n x).2 < bad S) := by
            unfold ask2
            split
            · rename_i h2
              have hk := q1.2.1 h2
              have hb := bad_kp hk
              obtain ⟨k1, k3⟩ := rnW_ap hK hP hv9 (key := n % 16) (n := n) 24 0 (wgo (T (n / 16)) (n % 16) 24 (none, 0, 0, [])) [] x.2 (wgo_inv hv9 24 _ (WI0 (T (n / 16)) 0)) o1.1.1 (NB_kp hu' hk)
              refine ⟨fun e => Or.inr ?_, fun e => ?_⟩
              · obtain ⟨S0, v0, rd0, e1, e2⟩ := k1 e
                exact ⟨S0, v0, rd0, hk.trans e1, e2⟩
              · have := k3 e; omega
            · exact ⟨fun e => Or.inl (q1.1 e), q1.2.2⟩
          generalize ask2 (ask T k (u ++ [n])) (T (n / 16)) n x = y at q2 ⊢
          unfold ask3
          split
          · rename_i h1
            refine ⟨fun _ => ?_, fun e => (by cases e)⟩
            rcases q2.1 h1 with ⟨S0, e1, e2⟩ | ⟨S0, v, rd, e1, e2⟩
            · have hng := (NB_kp hu' e1).2 n (by simp)
              obtain ⟨p1, p2⟩ := Kp_vf hng.2 hnu hn
              rw [e2]
              exact ⟨(e1.less hsub).trans p1, p2, hnu⟩
            · have hng := (NB_kp hu' e1).2 n (by simp)
              obtain ⟨p1, p2⟩ := Kp_kp (v := v) (rd := rd) hng.2 hnu hn
              rw [e2]
              exact ⟨(e1.less hsub).trans p1, p2, hnu⟩
          · rename_i h1
            exact ⟨fun e => absurd e h1, q2.2⟩
theorem NB_nil {S : SP} : NB [] S := ⟨List.nodup_nil, fun _ h => (by cases h)⟩
/-- so many rounds are enough -/
theorem dmd_end {T : Nat → List Nat} (hT : ∀ f, f < 6 → Rst 1 (T f)) {n : Nat} (hn : n < 96) : ∀ (k : Nat) (S : SP), GW T S → bad S < k → ¬ (dmd T k n S).1 = 3 := by
  intro k
  induction k with
  | zero => intro S _ h; omega
  | succ k ih =>
    intro S hS h
    have g1 := (ask_ok hT 20 [] n S hn hS).1.1
    have g2 := (ask_ap hT 20 [] n S hn hS NB_nil).2
    simp only [dmd]
    split
    · rename_i e
      have := g2 e
      exact ih _ g1 (by omega)
    · rename_i e; exact e
