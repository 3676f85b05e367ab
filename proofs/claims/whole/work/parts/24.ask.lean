/-! Asking, as it is spoken of: outcomes 1 answered, 2 stale, 3 circle, 4 given up. -/
def askR (A : Nat → SP → Nat × SP) (r : Nat) (S : SP) : Nat × SP := if r < 100 then (1, S) else A (r - 100) S
def vfyG (S : SP) (n : Nat) : Nat → Nat → Int32 := u2 S.1 (38 + 2 * n) 3 (S.1 17 0)
def vfyE (S : SP) (n : Nat) : SP := (u2 (u2 (vfyG S n) (38 + 2 * n) 5 (lcl (vfyG S n) (S.2.2 n) 2)) 8 12 (S.1 8 12 + 1), S.2.1, S.2.2)
def vfy (A : Nat → SP → Nat × SP) (n : Nat) : List Nat → SP → Nat × SP
  | [], S => (1, vfyE S n)
  | r :: l, S => if ¬ (askR A r S).1 = 1 then askR A r S else if chO (askR A r S).2.1 r ≤ (askR A r S).2.1 (38 + 2 * n) 3 then vfy A n l (askR A r S).2 else (2, (askR A r S).2)
def kpE (S : SP) (n : Nat) (v : Int32) (rd : List Nat) : SP := (u2 (kpS S n v rd).1 8 11 (S.1 8 11 + 1), S.2.1, (kpS S n v rd).2.2)
def rnW (A : Nat → SP → Nat × SP) (t : List Nat) (key n : Nat) : Nat → WS → List Nat → SP → Nat × SP
  | 0, w, rd, S => (1, kpE S n w.2.1 rd)
  | k + 1, w, rd, S => match w.1 with
    | none => (1, kpE S n w.2.1 rd)
    | some r => if ¬ (askR A r S).1 = 1 then askR A r S else rnW A t key n k (wgo t key 24 (wtk t w (vaO (askR A r S).2.1 r))) (nte rd r) (askR A r S).2
def ask1 (A : Nat → SP → Nat × SP) (t : List Nat) (n : Nat) (S : SP) : Nat × SP := if n ∈ S.2.1 then vfy A n (S.2.2 n) S else (2, S)
def ask2 (A : Nat → SP → Nat × SP) (t : List Nat) (n : Nat) (x : Nat × SP) : Nat × SP := if x.1 = 2 then rnW A t (n % 16) n 24 (wgo t (n % 16) 24 (none, 0, 0, [])) [] x.2 else x
def ask3 (n : Nat) (x : Nat × SP) : Nat × SP := if x.1 = 1 then (1, x.2.1, put x.2.2.1 n, x.2.2.2) else x
def ask (T : Nat → List Nat) : Nat → List Nat → Nat → SP → Nat × SP
  | 0, u, n, S => if n ∈ u then (3, (u.drop (u.idxOf n)).foldl ci1 S) else if gdB S n = true then (1, S) else if skB S n = true then (1, doSk S n) else (4, S)
  | k + 1, u, n, S => if n ∈ u then (3, (u.drop (u.idxOf n)).foldl ci1 S) else if gdB S n = true then (1, S) else if skB S n = true then (1, doSk S n) else ask3 n (ask2 (ask T k (u ++ [n])) (T (n / 16)) n (ask1 (ask T k (u ++ [n])) (T (n / 16)) n S))
/-- what holds of the numbers -/
def GW (T : Nat → List Nat) (S : SP) : Prop := (∀ n, n < 96 → (∃ l, l < 3 ∧ S.1 (38 + 2 * n) 5 = nI l) ∧ (S.2.2 n).length ≤ 24 ∧ ∀ r ∈ S.2.2 n, RdOk r) ∧ (∀ k, k < 3 → ∃ c, c < 3 ∧ S.1 16 k = nI c) ∧ ∀ f, f < 6 → Txt S.1 (26 + 2 * f) (T f)
theorem cl_ok {T : Nat → List Nat} {S : SP} (h : GW T S) {r : Nat} (hr : RdOk r) : ∃ l, l < 3 ∧ clO S.1 r = nI l := by
  unfold clO
  unfold RdOk at hr
  split
  · exact h.2.1 (r / 16) (by omega)
  · exact (h.1 (r - 100) (by omega)).1
theorem lcl_ok {T : Nat → List Nat} {S : SP} (h : GW T S) : ∀ (l : List Nat) (x : Nat), x < 3 → (∀ r ∈ l, RdOk r) → ∃ y, y < 3 ∧ lcl S.1 l (nI x) = nI y := by
  intro l
  induction l with
  | nil => intro x hx _; exact ⟨x, hx, rfl⟩
  | cons r l ih =>
    intro x hx hr
    obtain ⟨c, hc, ec⟩ := cl_ok h (hr r (by simp))
    show ∃ y, y < 3 ∧ lcl S.1 l (if clO S.1 r < nI x then clO S.1 r else nI x) = nI y
    split
    · rw [ec]; exact ih c hc (fun r' h' => hr r' (List.mem_cons_of_mem _ h'))
    · exact ih x hx (fun r' h' => hr r' (List.mem_cons_of_mem _ h'))
/-- a number is put where nothing is said of it -/
theorem GW_u {T : Nat → List Nat} {S : SP} {q k : Nat} {x : Int32} {l : List Nat} (h : GW T S) (h1 : ¬ (26 ≤ q ∧ q < 38)) (h2 : q ≠ 16) (h3 : q < 38 ∨ k ≠ 5 ∨ ∃ l, l < 3 ∧ x = nI l) : GW T (u2 S.1 q k x, l, S.2.2) := by
  refine ⟨fun n hn => ⟨?_, (h.1 n hn).2⟩, fun j hj => ?_, fun f hf => ?_⟩
  · dsimp only
    by_cases e : 38 + 2 * n = q ∧ 5 = k
    · obtain ⟨e1, e2⟩ := e
      subst e1 e2
      rw [u2_at]
      rcases h3 with h | h | h
      · omega
      · exact absurd rfl h
      · exact h
    · rw [u2_off (by omega)]; exact (h.1 n hn).1
  · dsimp only
    rw [u2_off (by omega)]; exact h.2.1 j hj
  · dsimp only
    unfold Txt
    rw [u2_ne (by omega), u2_ne (by omega)]; exact h.2.2 f hf
theorem GW_r {T : Nat → List Nat} {S : SP} {n : Nat} {rd : List Nat} (h : GW T S) (h1 : rd.length ≤ 24) (h2 : ∀ r ∈ rd, RdOk r) : GW T (S.1, S.2.1, fun m => if m = n then rd else S.2.2 m) := by
  refine ⟨fun m hm => ⟨(h.1 m hm).1, ?_⟩, h.2⟩
  dsimp only
  split
  · exact ⟨h1, h2⟩
  · exact (h.1 m hm).2
theorem GW_o {T : Nat → List Nat} {S : SP} {l : List Nat} (h : GW T S) : GW T (S.1, l, S.2.2) := h
theorem GW_sk {T : Nat → List Nat} {S : SP} {n : Nat} (h : GW T S) : GW T (doSk S n) := by
  have h1 : GW T (u2 S.1 (38 + 2 * n) 3 (S.1 17 0), S.2.1, S.2.2) := GW_u h (by omega) (by omega) (by omega)
  exact GW_u h1 (by omega) (by omega) (by omega)
theorem GW_ci {T : Nat → List Nat} {S : SP} {n : Nat} (h : GW T S) : GW T (ci1 S n) := by
  have h0 := GW_r (n := n) (rd := []) h (by simp) (by simp)
  have h1 := GW_u (q := 38 + 2 * n) (k := 0) (x := S.1 12 (n / 16)) (l := S.2.1) h0 (by omega) (by omega) (by omega)
  have h2 := GW_u (q := 38 + 2 * n) (k := 3) (x := S.1 17 0) (l := S.2.1) h1 (by omega) (by omega) (by omega)
  have h3 := GW_u (q := 38 + 2 * n) (k := 4) (x := S.1 17 0) (l := S.2.1) h2 (by omega) (by omega) (by omega)
  have h4 := GW_u (q := 38 + 2 * n) (k := 5) (x := 0) (l := S.2.1) h3 (by omega) (by omega) (Or.inr (Or.inr ⟨0, by omega, rfl⟩))
  have h5 := GW_u (q := 38 + 2 * n) (k := 6) (x := 1) (l := S.2.1) h4 (by omega) (by omega) (by omega)
  exact GW_u (q := 8) (k := 14) (l := put S.2.1 n) h5 (by omega) (by omega) (by omega)
theorem GW_cis {T : Nat → List Nat} : ∀ (l : List Nat) (S : SP), GW T S → GW T (l.foldl ci1 S) := by
  intro l
  induction l with
  | nil => intro S h; exact h
  | cons n l ih => intro S h; exact ih _ (GW_ci h)
theorem GW_kpG {T : Nat → List Nat} {S : SP} {n : Nat} {v : Int32} {rd : List Nat} (h : GW T S) (h1 : rd.length ≤ 24) (h2 : ∀ r ∈ rd, RdOk r) : GW T (kpG S n v, S.2.1, fun m => if m = n then rd else S.2.2 m) := by
  have h0 := GW_r (n := n) h h1 h2
  unfold kpG
  split
  · have h1 := GW_u (q := 38 + 2 * n) (k := 0) (x := v) (l := S.2.1) h0 (by omega) (by omega) (by omega)
    exact GW_u (q := 38 + 2 * n) (k := 3) (x := S.1 17 0) (l := S.2.1) h1 (by omega) (by omega) (by omega)
  · have h9 := GW_u (q := 38 + 2 * n) (k := 4) (x := S.1 17 0) (l := S.2.1) h0 (by omega) (by omega) (by omega)
    have h1 := GW_u (q := 38 + 2 * n) (k := 0) (x := v) (l := S.2.1) h9 (by omega) (by omega) (by omega)
    exact GW_u (q := 38 + 2 * n) (k := 3) (x := S.1 17 0) (l := S.2.1) h1 (by omega) (by omega) (by omega)
theorem GW_kp {T : Nat → List Nat} {S : SP} {n : Nat} {v : Int32} {rd : List Nat} (h : GW T S) (h1 : rd.length ≤ 24) (h2 : ∀ r ∈ rd, RdOk r) : GW T (kpE S n v rd) := by
  have h3 := GW_kpG (n := n) (v := v) h h1 h2
  obtain ⟨y, hy, ey⟩ := lcl_ok h3 rd 2 (by omega) h2
  have h4 := GW_u (q := 38 + 2 * n) (k := 5) (x := lcl (kpG S n v) rd 2) (l := S.2.1) h3 (by omega) (by omega) (Or.inr (Or.inr ⟨y, hy, ey⟩))
  have h5 := GW_u (q := 38 + 2 * n) (k := 6) (x := 0) (l := S.2.1) h4 (by omega) (by omega) (by omega)
  exact GW_u (q := 8) (k := 11) (l := S.2.1) h5 (by omega) (by omega) (by omega)
theorem GW_vf {T : Nat → List Nat} {S : SP} {n : Nat} (hn : n < 96) (h : GW T S) : GW T (vfyE S n) := by
  have h3 : GW T (vfyG S n, S.2.1, S.2.2) := GW_u h (by omega) (by omega) (by omega)
  obtain ⟨y, hy, ey⟩ := lcl_ok h3 (S.2.2 n) 2 (by omega) (h.1 n hn).2.2
  have h4 := GW_u (q := 38 + 2 * n) (k := 5) (x := lcl (vfyG S n) (S.2.2 n) 2) (l := S.2.1) h3 (by omega) (by omega) (Or.inr (Or.inr ⟨y, hy, ey⟩))
  exact GW_u (q := 8) (k := 12) (l := S.2.1) h4 (by omega) (by omega) (by omega)
/-- what an asking keeps: the numbers' form; the cells under way, where it answers -/
def AK (T : Nat → List Nat) (u : List Nat) (A : Nat → SP → Nat × SP) : Prop := ∀ n S, n < 96 → GW T S → (GW T (A n S).2 ∧ ((A n S).1 = 1 ∨ (A n S).1 = 3 ∨ (A n S).1 = 4)) ∧ ((A n S).1 = 1 → ∀ m ∈ u, (A n S).2.2.2 m = S.2.2 m)
theorem AK_r {T : Nat → List Nat} {u : List Nat} {A : Nat → SP → Nat × SP} (h : AK T u A) {r : Nat} {S : SP} (hr : RdOk r) (hS : GW T S) : (GW T (askR A r S).2 ∧ ((askR A r S).1 = 1 ∨ (askR A r S).1 = 3 ∨ (askR A r S).1 = 4)) ∧ ((askR A r S).1 = 1 → ∀ m ∈ u, (askR A r S).2.2.2 m = S.2.2 m) := by
  unfold askR
  unfold RdOk at hr
  split
  · exact ⟨⟨hS, Or.inl rfl⟩, fun _ _ _ => rfl⟩
  · exact h (r - 100) S (by omega) hS
theorem vfy_ok {T : Nat → List Nat} {u : List Nat} {A : Nat → SP → Nat × SP} (h : AK T u A) {n : Nat} (hn : n < 96) : ∀ (l : List Nat) (S : SP), (∀ r ∈ l, RdOk r) → GW T S → (GW T (vfy A n l S).2 ∧ ((vfy A n l S).1 = 1 ∨ (vfy A n l S).1 = 2 ∨ (vfy A n l S).1 = 3 ∨ (vfy A n l S).1 = 4)) ∧ ((vfy A n l S).1 = 1 ∨ (vfy A n l S).1 = 2 → ∀ m ∈ u, (vfy A n l S).2.2.2 m = S.2.2 m) := by
  intro l
  induction l with
  | nil => intro S _ hS; exact ⟨⟨GW_vf hn hS, Or.inl rfl⟩, fun _ _ _ => rfl⟩
  | cons r l ih =>
    intro S hr hS
    obtain ⟨⟨g1, g2⟩, g3⟩ := AK_r h (hr r (by simp)) hS
    simp only [vfy]
    split
    · exact ⟨⟨g1, by omega⟩, fun h9 => by omega⟩
    · rename_i h1
      have h1 : (askR A r S).1 = 1 := Decidable.byContradiction h1
      split
      · obtain ⟨k1, k2⟩ := ih _ (fun r' h' => hr r' (List.mem_cons_of_mem _ h')) g1
        exact ⟨k1, fun h9 m hm => (k2 h9 m hm).trans (g3 h1 m hm)⟩
      · exact ⟨⟨g1, Or.inr (Or.inl rfl)⟩, fun _ m hm => g3 h1 m hm⟩
