/-! The law's cases keep what holds. -/
abbrev L9 (n : Nat) (o5 o6 : Option Value) : pm_L := [some (.ref 0), some (.ref 8), some (.ref 370), some (.ref 394), some (.int (nI (4 * n))), o5, o6]
theorem up_394 {M : pm_M} {e : pm_E} : (pm_up M 394 e).2.2 394 = e := up_at
theorem uv_0 {f : Nat → Value} {v : Value} : pm_uv f 0 v 0 = v := by unfold pm_uv; rw [if_pos rfl]
theorem bnd1 (x : Int32) : (∃ n, (1 ≤ n ∧ n < 97) ∧ x = nI n) ∨ (x < nI 1 ∨ nI 96 < x) := by
  rcases rng x (e := 97) (by decide) with ⟨n, hn, rfl⟩ | h
  · by_cases h0 : n = 0
    · subst h0; exact Or.inr (Or.inl (by decide))
    · exact Or.inl ⟨n, ⟨by omega, hn⟩, rfl⟩
  · refine Or.inr ?_
    rcases h with h | h
    · exact Or.inl (Int32.lt_trans h (by decide))
    · exact Or.inr (Int32.lt_of_lt_of_le (by decide) h)
theorem ED_q {S : SP} {c q : Nat} (h : q ≠ 17) (h2 : q ≠ 18) : (edS S c).1 q = S.1 q := by unfold edS; dsimp only; rw [u2_ne h2, u2_ne h]
theorem nd_sw (f k : Nat) : 16 * f + k = f * 16 + k := by omega
theorem flt_le : ∀ {l : List Nat} {due i j : Nat}, flt l due i = some j → j ≤ i + l.length := by
  intro l
  induction l with
  | nil =>
    intro due i j h
    simp only [flt] at h
    split at h
    · cases h
    · cases h; simp
  | cons c l ih =>
    intro due i j h
    simp only [flt] at h
    split at h
    · cases h; omega
    · have := ih h
      simp; omega
theorem in_CI {T : Nat → List Nat} {S : SP} {ck b t k c : Nat} {dr : List Nat} {v : Int32} {σ σ' τ τ' : Nat → Nat → Int32} (h : CI T S ck dr b σ τ) (hC : RC σ' (if S.1 14 (t * 16 + k) = v then S else inS S t k c v)) (hM : RM τ' (if S.1 14 (t * 16 + k) = v then S else inS S t k c v) ck) (hF : FrJ τ τ') : CI T (if S.1 14 (t * 16 + k) = v then S else inS S t k c v) ck dr b σ' τ' := by
  split at hC
  · rename_i e
    rw [if_pos e] at hM ⊢
    exact CI_s h hC hM h.2.1 hF rfl rfl h.2.2.2.2.2.2.1 h.2.2.2.2.2.2.2
  · rename_i e
    rw [if_neg e] at hM ⊢
    have hq : ∀ q, q ≠ 17 → q ≠ 18 → q ≠ 14 → q ≠ 15 → (inS S t k c v).1 q = S.1 q := fun q h1 h2 h3 h4 => by unfold inS; dsimp only; rw [u2_ne h4, u2_ne h3, ED_q h1 h2]
    exact CI_s h hC hM (GW_q h.2.1 (fun q hq9 => hq q (by omega) (by omega) (by omega) (by omega))) hF (hq 9 (by omega) (by omega) (by omega) (by omega)) (hq 10 (by omega) (by omega) (by omega) (by omega)) (by rw [hq 8 (by omega) (by omega) (by omega) (by omega)]; exact h.2.2.2.2.2.2.1) h.2.2.2.2.2.2.2
theorem cr_CI {T : Nat → List Nat} {S : SP} {ck b f : Nat} {dr : List Nat} {v : Int32} {σ σ' τ τ' : Nat → Nat → Int32} (h : CI T S ck dr b σ τ) (hC : RC σ' (if S.1 12 f = v then S else crS S f v)) (hM : RM τ' (if S.1 12 f = v then S else crS S f v) ck) (hF : FrJ τ τ') : CI T (if S.1 12 f = v then S else crS S f v) ck dr b σ' τ' := by
  split at hC
  · rename_i e
    rw [if_pos e] at hM ⊢
    exact CI_s h hC hM h.2.1 hF rfl rfl h.2.2.2.2.2.2.1 h.2.2.2.2.2.2.2
  · rename_i e
    rw [if_neg e] at hM ⊢
    have hq : ∀ q, q ≠ 17 → q ≠ 18 → q ≠ 12 → (crS S f v).1 q = S.1 q := fun q h1 h2 h3 => by unfold crS; dsimp only; rw [u2_ne h3, ED_q h1 h2]
    exact CI_s h hC hM (GW_q h.2.1 (fun q hq9 => hq q (by omega) (by omega) (by omega))) hF (hq 9 (by omega) (by omega) (by omega)) (hq 10 (by omega) (by omega) (by omega)) (by rw [hq 8 (by omega) (by omega) (by omega)]; exact h.2.2.2.2.2.2.1) h.2.2.2.2.2.2.2
theorem lv_CI {T : Nat → List Nat} {S : SP} {ck b t c : Nat} {dr : List Nat} {σ σ' τ τ' : Nat → Nat → Int32} (ht : t < 3) (hc : c < 3) (h : CI T S ck dr b σ τ) (hC : RC σ' (u2 S.1 16 t (nI c), [], S.2.2)) (hM : RM τ' (u2 S.1 16 t (nI c), [], S.2.2) ck) (hF : FrJ τ τ') : CI T (u2 S.1 16 t (nI c), [], S.2.2) ck dr b σ' τ' := by
  refine CI_s h hC hM ⟨fun n hn => ⟨?_, (h.2.1.1 n hn).2⟩, fun k hk => ?_, fun f hf => ?_⟩ hF (by show u2 S.1 16 t (nI c) 9 = S.1 9; exact u2_ne (by omega)) (by show u2 S.1 16 t (nI c) 10 = S.1 10; exact u2_ne (by omega)) (by show u2 S.1 16 t (nI c) 8 7 = _; rw [u2_off (by omega)]; exact h.2.2.2.2.2.2.1) h.2.2.2.2.2.2.2
  · dsimp only; rw [u2_off (by omega)]; exact (h.2.1.1 n hn).1
  · dsimp only
    by_cases e : k = t
    · subst e; exact ⟨c, hc, u2_at⟩
    · rw [u2_off (by omega)]; exact h.2.1.2.1 k hk
  · exact Txt_q (u2_ne (by omega)) (u2_ne (by omega)) (h.2.1.2.2 f hf)
section LC
variable {n Ls : Nat} {xs : Nat → Int32} {M : pm_M} {σ τ : Nat → Nat → Int32} {Q : pm_R → pm_M → Prop} {o5 o6 : Option Value}
theorem s0 (hn : 4 * n + 4 ≤ Ls) (hL : Ls ≤ 2048) (h : LI Ls xs n M σ τ) (kk : ∀ M1 σ1 τ1 p5 p6, LI Ls xs (n + 1) M1 σ1 τ1 → Ev 127 113 928 (L9 n p5 p6) [] (LBB M1 σ1 τ1) Q) : Ev 127 113 108 (L9 n o5 o6) [] (LBB M σ τ) Q := by
  obtain ⟨hH, T, S, ck, dr, b, hC, hck⟩ := h
  obtain ⟨⟨hR, hM⟩, hG, hT, hX, hD, hE, h7, hb1, hb2⟩ := id hC
  obtain ⟨f0, y0, ho0, hf0⟩ := hH.2.2.2
  have h387 := hH.1.1
  obtain ⟨σ1, ⟨G', g1, g2, g3⟩, e1⟩ := ev_pull (g := fun σ' => LBB M σ' τ) (c1 (d := 124) (M := sM M τ) (x := ((xs (4 * n + 1)).toInt64 <<< ((nI 32).toInt64 &&& 63) ||| (xs (4 * n + 2)).toInt64 &&& Int64.ofNat 4294967295)) hE hR)
  obtain ⟨τ1, ⟨r1, r2, r3, r4, r5⟩, e2⟩ := ev_model (M := M) (σ := σ1) (m41 (d := 126) (M := sC M σ1) (x := ((xs (4 * n + 1)).toInt64 <<< ((nI 32).toInt64 &&& 63) ||| (xs (4 * n + 2)).toInt64 &&& Int64.ofNat 4294967295)) hE.2.1 hD hM)
  exact l0 hn hL hH.2.2.1 hH.2.2.1 e1 e2 (fun p5 p6 => kk M σ1 τ1 p5 p6 ⟨HI_s hH, T, (G', S.2.1, S.2.2), ck, _, b, ⟨⟨g3, RM_q r1 g1⟩, GW_q hG (fun q hq => g1 q (by omega) (by omega)), hT, MX_q r4 r5 hX, r3, g2, by show G' 8 7 = _; rw [g1 8 (by omega) (by omega)]; exact h7, hb1, hb2⟩, by omega⟩)
theorem s1 (hn : 4 * n + 4 ≤ Ls) (hL : Ls ≤ 2048) (h : LI Ls xs n M σ τ) (kk : ∀ M1 σ1 τ1 p5 p6, LI Ls xs (n + 1) M1 σ1 τ1 → Ev 127 113 928 (L9 n p5 p6) [] (LBB M1 σ1 τ1) Q) : Ev 127 113 165 (L9 n o5 o6) [] (LBB M σ τ) Q := by
  obtain ⟨hH, T, S, ck, dr, b, hC, hck⟩ := h
  obtain ⟨⟨hR, hM⟩, hG, hT, hX, hD, hE, h7, hb1, hb2⟩ := id hC
  obtain ⟨f0, y0, ho0, hf0⟩ := hH.2.2.2
  have h387 := hH.1.1
  obtain ⟨σ1, g3, e1⟩ := ev_pull (g := fun σ' => LBB M σ' τ) (c2 (d := 126) (M := sM M τ) hR hE.1)
  have e2 : Ev 126 42 0 [some (.ref 370), none] [] (LBB M σ1 τ) (fun q9 M' => ∃ v9, q9 = .inl v9 ∧ v9 = some (.int (nI dr.length)) ∧ M' = LBB M σ1 (u2 (u2 τ 370 0 0) 370 2 0)) := by
    rw [ls_sw, ls_sw]; exact m42 hD.1
  exact l1 hn hL hH.2.2.1 hH.2.2.1 e1 e2 (fun p5 p6 => kk M σ1 _ p5 p6 ⟨HI_s hH, T, (u2 S.1 9 1 0, S.2.1, S.2.2), ck, [], b, ⟨⟨g3, RM_q (RM_n (RM_t hM) (by omega) (by omega)) (fun q h1 _ => u2_ne h1)⟩, GW_q hG (fun q hq => u2_ne (by omega)), hT, MX_u (by omega) (MX_u (by omega) hX), ⟨u2_at, fun i hi => absurd hi (Nat.not_lt_zero i)⟩, Txt_0 (by show u2 S.1 9 1 0 9 1 = 0; exact u2_at), by show u2 S.1 9 1 0 8 7 = _; rw [u2_off (by omega)]; exact h7, hb1, hb2⟩, by omega⟩)
theorem s2 (hn : 4 * n + 4 ≤ Ls) (hL : Ls ≤ 2048) (h : LI Ls xs n M σ τ) (kk : ∀ M1 σ1 τ1 p5 p6, LI Ls xs (n + 1) M1 σ1 τ1 → Ev 127 113 928 (L9 n p5 p6) [] (LBB M1 σ1 τ1) Q) : Ev 127 113 178 (L9 n o5 o6) [] (LBB M σ τ) Q := by
  obtain ⟨hH, T, S, ck, dr, b, hC, hck⟩ := h
  obtain ⟨⟨hR, hM⟩, hG, hT, hX, hD, hE, h7, hb1, hb2⟩ := id hC
  obtain ⟨f0, y0, ho0, hf0⟩ := hH.2.2.2
  have h387 := hH.1.1
  rcases rng (xs (4 * n + 1)) (e := 6) (by decide) with ⟨f, hf, ex⟩ | hbad
  · cases hx : flt dr 1 0 with
    | none =>
      obtain ⟨σ1, ⟨G', g1, g2, g3⟩, e1⟩ := ev_pull (g := fun σ' => LBB M σ' τ) (c3o (d := 122) (M := sM M τ) hf hE hR hx)
      have gq : ∀ q, q ≠ 9 → q ≠ 26 + 2 * f → q ≠ 26 + 2 * f + 1 → G' q = S.1 q := fun q h1 h2 h3 => by rw [g1 q h2 h3, u2_ne h1]
      obtain ⟨τ1, ⟨r1, r4, r5, r2⟩, e2⟩ := ev_model (M := (pm_up M 394 (.inl (.long, 1, pm_uv f0 0 (.long ((-1 : Int32).toInt64)))))) (σ := σ1) (m45o (d := 125) (T := T) (G' := G') hf hE.2.1 hE.2.2.1 hD hX (fun g hg => (hT g hg).2.1) hM (fun q k hq => by rw [gq q (by omega) (by omega) (by omega)]) hx)
      refine l2 (k := 0) (b := -1) (f := pm_uv f0 0 (.long ((-1 : Int32).toInt64))) (y := (-1 : Int32).toInt64) (M1 := (pm_up M 394 (.inl (.long, 1, pm_uv f0 0 (.long ((-1 : Int32).toInt64)))))) (σ1 := σ1) (τ1 := τ1) hn hL hH.2.2.1 (HI_up hH).2.2.1 up_394 uv_0 (fun _ => rfl) (by rw [ex]; exact h103o ho0 e1) (by rw [ex]; exact e2) (ev_thrown r2) (fun p5 p6 => kk _ σ1 τ1 p5 p6 ⟨(HI_up hH), (fun g => if g = f then dr else T g), (G', [], S.2.2), ck, [], b, ⟨⟨g3, r1⟩, ⟨fun m hm => ⟨?_, (hG.1 m hm).2⟩, fun k hk => ?_, fun g hg => ?_⟩, fun g hg => ?_, r4, r5, Txt_0 (by show G' 9 1 = 0; rw [g1 9 (by omega) (by omega)]; exact u2_at), by show G' 8 7 = _; rw [gq 8 (by omega) (by omega) (by omega)]; exact h7, hb1, hb2⟩, by omega⟩)
      · dsimp only; rw [gq _ (by omega) (by omega) (by omega)]; exact (hG.1 m hm).1
      · dsimp only; rw [gq _ (by omega) (by omega) (by omega)]; exact hG.2.1 k hk
      · dsimp only
        by_cases e : g = f
        · subst e; rw [if_pos rfl]; exact g2
        · rw [if_neg e]; exact Txt_q (gq _ (by omega) (by omega) (by omega)) (gq _ (by omega) (by omega) (by omega)) (hG.2.2 g hg)
      · dsimp only
        by_cases e : g = f
        · rw [if_pos e]; exact ⟨flt_rst dr 1 0 hx, hE.2.1, hE.2.2.1⟩
        · rw [if_neg e]; exact hT g hg
    | some i =>
      have hi : i < 2 ^ 31 := by have := flt_le hx; have := hE.2.1; omega
      have e1 := c3f (d := 122) (M := sM M τ) hf hE hR hx hi
      obtain ⟨τ1, ⟨r1, r2, r3⟩, e2⟩ := ev_model (M := (pm_up M 394 (.inl (.long, 1, pm_uv f0 0 (.long ((nI i).toInt64)))))) (σ := σ) (m45f (d := 125) hf hE.2.1 hE.2.2.1 hD hM hx)
      exact l2 (k := 0) (b := nI i) (f := pm_uv f0 0 (.long ((nI i).toInt64))) (y := (nI i).toInt64) (M1 := (pm_up M 394 (.inl (.long, 1, pm_uv f0 0 (.long ((nI i).toInt64)))))) (σ1 := σ) (τ1 := τ1) hn hL hH.2.2.1 (HI_up hH).2.2.1 up_394 uv_0 (fun _ => rfl) (by rw [ex]; exact h103o ho0 e1) (by rw [ex]; exact e2) (ev_thrown r2) (fun p5 p6 => kk _ σ τ1 p5 p6 ⟨(HI_up hH), T, S, ck, dr, b, CI_m hC r1 r3, by omega⟩)
  · -- out of range
    have hH1 := HI_mk (e := .inr (1000, [])) hH
    obtain ⟨f1, y1, ho1, hf1⟩ := hH1.2.2.2
    obtain ⟨τ1, ⟨r1, r2, r3⟩, e2⟩ := ev_model (M := (pm_mk M 6 (.inr (1000, [])))) (σ := σ) (m45t (d := 125) hbad hM)
    exact l2 (k := 1) (b := 0) (f := f1) (y := y1) (M1 := (pm_mk M 6 (.inr (1000, [])))) (σ1 := σ) (τ1 := τ1) hn hL hH.2.2.1 hH1.2.2.1 ho1 hf1 (fun h => absurd h (by decide)) (by exact h103_1000 h387 (c3t (d := 122) (M := sM M τ) hbad)) (by exact e2) (ev_thrown r2) (fun p5 p6 => kk _ σ τ1 p5 p6 ⟨hH1, T, S, ck, dr, b, CI_m hC r1 r3, by omega⟩)
theorem s3 (hn : 4 * n + 4 ≤ Ls) (hL : Ls ≤ 2048) (h : LI Ls xs n M σ τ) (kk : ∀ M1 σ1 τ1 p5 p6, LI Ls xs (n + 1) M1 σ1 τ1 → Ev 127 113 928 (L9 n p5 p6) [] (LBB M1 σ1 τ1) Q) : Ev 127 113 234 (L9 n o5 o6) [] (LBB M σ τ) Q := by
  obtain ⟨hH, T, S, ck, dr, b, hC, hck⟩ := h
  obtain ⟨⟨hR, hM⟩, hG, hT, hX, hD, hE, h7, hb1, hb2⟩ := id hC
  obtain ⟨f0, y0, ho0, hf0⟩ := hH.2.2.2
  have h387 := hH.1.1
  rcases rng (xs (4 * n + 1)) (e := 3) (by decide) with ⟨t, ht, ex⟩ | hbad
  · rcases rng (xs (4 * n + 2)) (e := 16) (by decide) with ⟨k, hk, ey⟩ | hbad
    · obtain ⟨c, hc, ec⟩ := hG.2.1 t ht
      obtain ⟨σ1, g3, e1⟩ := ev_pull (g := fun σ' => LBB M σ' τ) (c4o (d := 122) (M := sM M τ) (v := xs (4 * n + 3)) ht hk hc ec hR)
      obtain ⟨τ1, ⟨r1, r2, r3⟩, e2⟩ := ev_model (M := (pm_up M 394 (.inl (.long, 1, pm_uv f0 0 (.long (blI (bI (decide (¬ S.1 14 (t * 16 + k) = xs (4 * n + 3)))))))))) (σ := σ1) (m48o (d := 125) (v := xs (4 * n + 3)) ht hk hc ec hM)
      exact l3 (k := 0) (b := bI (decide (¬ S.1 14 (t * 16 + k) = xs (4 * n + 3)))) (f := pm_uv f0 0 (.long (blI (bI (decide (¬ S.1 14 (t * 16 + k) = xs (4 * n + 3))))))) (y := blI (bI (decide (¬ S.1 14 (t * 16 + k) = xs (4 * n + 3))))) (M1 := (pm_up M 394 (.inl (.long, 1, pm_uv f0 0 (.long (blI (bI (decide (¬ S.1 14 (t * 16 + k) = xs (4 * n + 3)))))))))) (σ1 := σ1) (τ1 := τ1) hn hL hH.2.2.1 (HI_up hH).2.2.1 up_394 uv_0 (fun _ => rfl) (by rw [ex, ey]; exact h104o ho0 e1) (by rw [ex, ey]; exact e2) (ev_thrown r2) (fun p5 p6 => kk _ σ1 τ1 p5 p6 ⟨(HI_up hH), T, (if S.1 14 (t * 16 + k) = xs (4 * n + 3) then S else inS S t k c (xs (4 * n + 3))), ck, dr, b, in_CI hC g3 r1 r3, by omega⟩)
    · -- out of range
      have hH1 := HI_mk (e := .inr (1000, [])) hH
      obtain ⟨f1, y1, ho1, hf1⟩ := hH1.2.2.2
      obtain ⟨τ1, ⟨r1, r2, r3⟩, e2⟩ := ev_model (M := (pm_mk M 6 (.inr (1000, [])))) (σ := σ) (m48t (d := 125) (Or.inr hbad) hM)
      exact l3 (k := 1) (b := 0) (f := f1) (y := y1) (M1 := (pm_mk M 6 (.inr (1000, [])))) (σ1 := σ) (τ1 := τ1) hn hL hH.2.2.1 hH1.2.2.1 ho1 hf1 (fun h => absurd h (by decide)) (by exact h104_1000 h387 (c4t (d := 122) (M := sM M τ) (Or.inr hbad))) (by exact e2) (ev_thrown r2) (fun p5 p6 => kk _ σ τ1 p5 p6 ⟨hH1, T, S, ck, dr, b, CI_m hC r1 r3, by omega⟩)
  · -- out of range
    have hH1 := HI_mk (e := .inr (1000, [])) hH
    obtain ⟨f1, y1, ho1, hf1⟩ := hH1.2.2.2
    obtain ⟨τ1, ⟨r1, r2, r3⟩, e2⟩ := ev_model (M := (pm_mk M 6 (.inr (1000, [])))) (σ := σ) (m48t (d := 125) (Or.inl hbad) hM)
    exact l3 (k := 1) (b := 0) (f := f1) (y := y1) (M1 := (pm_mk M 6 (.inr (1000, [])))) (σ1 := σ) (τ1 := τ1) hn hL hH.2.2.1 hH1.2.2.1 ho1 hf1 (fun h => absurd h (by decide)) (by exact h104_1000 h387 (c4t (d := 122) (M := sM M τ) (Or.inl hbad))) (by exact e2) (ev_thrown r2) (fun p5 p6 => kk _ σ τ1 p5 p6 ⟨hH1, T, S, ck, dr, b, CI_m hC r1 r3, by omega⟩)
theorem s4 (hn : 4 * n + 4 ≤ Ls) (hL : Ls ≤ 2048) (h : LI Ls xs n M σ τ) (kk : ∀ M1 σ1 τ1 p5 p6, LI Ls xs (n + 1) M1 σ1 τ1 → Ev 127 113 928 (L9 n p5 p6) [] (LBB M1 σ1 τ1) Q) : Ev 127 113 321 (L9 n o5 o6) [] (LBB M σ τ) Q := by
  obtain ⟨hH, T, S, ck, dr, b, hC, hck⟩ := h
  obtain ⟨⟨hR, hM⟩, hG, hT, hX, hD, hE, h7, hb1, hb2⟩ := id hC
  obtain ⟨f0, y0, ho0, hf0⟩ := hH.2.2.2
  have h387 := hH.1.1
  rcases rng (xs (4 * n + 1)) (e := 6) (by decide) with ⟨f, hf, ex⟩ | hbad
  · skip
    obtain ⟨σ1, g3, e1⟩ := ev_pull (g := fun σ' => LBB M σ' τ) (c5o (d := 122) (M := sM M τ) (v := xs (4 * n + 2)) hf hR)
    obtain ⟨τ1, ⟨r1, r2, r3⟩, e2⟩ := ev_model (M := (pm_up M 394 (.inl (.long, 1, pm_uv f0 0 (.long (blI (bI (decide (¬ S.1 12 f = xs (4 * n + 2)))))))))) (σ := σ1) (m49o (d := 125) (v := xs (4 * n + 2)) hf hM)
    exact l4 (k := 0) (b := bI (decide (¬ S.1 12 f = xs (4 * n + 2)))) (f := pm_uv f0 0 (.long (blI (bI (decide (¬ S.1 12 f = xs (4 * n + 2))))))) (y := blI (bI (decide (¬ S.1 12 f = xs (4 * n + 2))))) (M1 := (pm_up M 394 (.inl (.long, 1, pm_uv f0 0 (.long (blI (bI (decide (¬ S.1 12 f = xs (4 * n + 2)))))))))) (σ1 := σ1) (τ1 := τ1) hn hL hH.2.2.1 (HI_up hH).2.2.1 up_394 uv_0 (fun _ => rfl) (by rw [ex]; exact h105o ho0 e1) (by rw [ex]; exact e2) (ev_thrown r2) (fun p5 p6 => kk _ σ1 τ1 p5 p6 ⟨(HI_up hH), T, (if S.1 12 f = xs (4 * n + 2) then S else crS S f (xs (4 * n + 2))), ck, dr, b, cr_CI hC g3 r1 r3, by omega⟩)
  · -- out of range
    have hH1 := HI_mk (e := .inr (1000, [])) hH
    obtain ⟨f1, y1, ho1, hf1⟩ := hH1.2.2.2
    obtain ⟨τ1, ⟨r1, r2, r3⟩, e2⟩ := ev_model (M := (pm_mk M 6 (.inr (1000, [])))) (σ := σ) (m49t (d := 125) hbad hM)
    exact l4 (k := 1) (b := 0) (f := f1) (y := y1) (M1 := (pm_mk M 6 (.inr (1000, [])))) (σ1 := σ) (τ1 := τ1) hn hL hH.2.2.1 hH1.2.2.1 ho1 hf1 (fun h => absurd h (by decide)) (by exact h105_1000 h387 (c5t (d := 122) (M := sM M τ) hbad)) (by exact e2) (ev_thrown r2) (fun p5 p6 => kk _ σ τ1 p5 p6 ⟨hH1, T, S, ck, dr, b, CI_m hC r1 r3, by omega⟩)
theorem s5 (hn : 4 * n + 4 ≤ Ls) (hL : Ls ≤ 2048) (h : LI Ls xs n M σ τ) (kk : ∀ M1 σ1 τ1 p5 p6, LI Ls xs (n + 1) M1 σ1 τ1 → Ev 127 113 928 (L9 n p5 p6) [] (LBB M1 σ1 τ1) Q) : Ev 127 113 396 (L9 n o5 o6) [] (LBB M σ τ) Q := by
  obtain ⟨hH, T, S, ck, dr, b, hC, hck⟩ := h
  obtain ⟨⟨hR, hM⟩, hG, hT, hX, hD, hE, h7, hb1, hb2⟩ := id hC
  obtain ⟨f0, y0, ho0, hf0⟩ := hH.2.2.2
  have h387 := hH.1.1
  rcases rng (xs (4 * n + 1)) (e := 3) (by decide) with ⟨t, ht, ex⟩ | hbad
  · rcases rng (xs (4 * n + 2)) (e := 3) (by decide) with ⟨c, hc, ey⟩ | hbad
    · skip
      obtain ⟨σ1, g3, e1⟩ := ev_pull (g := fun σ' => LBB M σ' τ) (c6o (d := 122) (M := sM M τ) ht hc hR)
      obtain ⟨τ1, ⟨r1, r2, r3⟩, e2⟩ := ev_model (M := M) (σ := σ1) (m50o (d := 125) ht hc hM)
      exact l5 (k := 0) (M1 := M) (σ1 := σ1) (τ1 := τ1) hn hL hH.2.2.1 (HI_s hH).2.2.1 (by rw [ex, ey]; exact h106o ho0 e1) (by rw [ex, ey]; exact e2) (ev_thrown r2) (fun p5 p6 => kk _ σ1 τ1 p5 p6 ⟨(HI_s hH), T, (u2 S.1 16 t (nI c), [], S.2.2), ck, dr, b, lv_CI ht hc hC g3 r1 r3, by omega⟩)
    · -- out of range
      have hH1 := HI_mk (e := .inr (1000, [])) hH
      obtain ⟨f1, y1, ho1, hf1⟩ := hH1.2.2.2
      obtain ⟨τ1, ⟨r1, r2, r3⟩, e2⟩ := ev_model (M := (pm_mk M 6 (.inr (1000, [])))) (σ := σ) (m50t (d := 125) (Or.inr hbad) hM)
      exact l5 (k := 1) (M1 := (pm_mk M 6 (.inr (1000, [])))) (σ1 := σ) (τ1 := τ1) hn hL hH.2.2.1 hH1.2.2.1 (by exact h106_1000 h387 (c6t (d := 122) (M := sM M τ) (Or.inr hbad))) (by exact e2) (ev_thrown r2) (fun p5 p6 => kk _ σ τ1 p5 p6 ⟨hH1, T, S, ck, dr, b, CI_m hC r1 r3, by omega⟩)
  · -- out of range
    have hH1 := HI_mk (e := .inr (1000, [])) hH
    obtain ⟨f1, y1, ho1, hf1⟩ := hH1.2.2.2
    obtain ⟨τ1, ⟨r1, r2, r3⟩, e2⟩ := ev_model (M := (pm_mk M 6 (.inr (1000, [])))) (σ := σ) (m50t (d := 125) (Or.inl hbad) hM)
    exact l5 (k := 1) (M1 := (pm_mk M 6 (.inr (1000, [])))) (σ1 := σ) (τ1 := τ1) hn hL hH.2.2.1 hH1.2.2.1 (by exact h106_1000 h387 (c6t (d := 122) (M := sM M τ) (Or.inl hbad))) (by exact e2) (ev_thrown r2) (fun p5 p6 => kk _ σ τ1 p5 p6 ⟨hH1, T, S, ck, dr, b, CI_m hC r1 r3, by omega⟩)
theorem s6 (hn : 4 * n + 4 ≤ Ls) (hL : Ls ≤ 2048) (h : LI Ls xs n M σ τ) (kk : ∀ M1 σ1 τ1 p5 p6, LI Ls xs (n + 1) M1 σ1 τ1 → Ev 127 113 928 (L9 n p5 p6) [] (LBB M1 σ1 τ1) Q) : Ev 127 113 444 (L9 n o5 o6) [] (LBB M σ τ) Q := by
  obtain ⟨hH, T, S, ck, dr, b, hC, hck⟩ := h
  obtain ⟨⟨hR, hM⟩, hG, hT, hX, hD, hE, h7, hb1, hb2⟩ := id hC
  obtain ⟨f0, y0, ho0, hf0⟩ := hH.2.2.2
  have h387 := hH.1.1
  rcases rng (xs (4 * n + 1)) (e := 6) (by decide) with ⟨f, hf, ex⟩ | hbad
  · rcases rng (xs (4 * n + 2)) (e := 16) (by decide) with ⟨k, hk, ey⟩ | hbad
    · have hTr : ∀ f, f < 6 → Rst 1 (T f) := fun f hf => (hT f hf).1
      have hc96 : f * 16 + k < 96 := by omega
      have hdm := fun (I : SP → Prop) (hI : KI I) (hS : I S) => dmd_ok hTr hI hc96 97 S hG hS
      have hgw := (hdm (fun _ => True) ⟨fun _ _ _ _ => trivial, fun _ _ _ _ => trivial, fun _ _ _ _ => trivial, fun _ _ _ _ _ _ => trivial, fun _ _ _ _ => trivial⟩ trivial).1
      have hrow : ∀ q k9, KR q k9 → (dmd T 97 (f * 16 + k) S).2.1 q k9 = S.1 q k9 := fun q k9 hq => (hdm _ (KI_r hq (S.1 q k9)) rfl).2
      have h79 : (dmd T 97 (f * 16 + k) S).2.1 8 7 = nI b := (hrow 8 7 (by unfold KR; omega)).trans h7
      have h99 : (dmd T 97 (f * 16 + k) S).2.1 9 = S.1 9 := funext fun k9 => hrow 9 k9 (by unfold KR; omega)
      have h910 : (dmd T 97 (f * 16 + k) S).2.1 10 = S.1 10 := funext fun k9 => hrow 10 k9 (by unfold KR; omega)
      obtain ⟨σ1, c7⟩ := ev_ex (c7o (M := sM M τ) hTr hf hk hb2 hG h7 hR)
      have m67 := fun (N : pm_M) => m67o (d := 120) (M := N) hT hf hk hb2 hG h7 (by omega) hM hX
      rw [nd_sw] at m67
      by_cases h1 : (dmd T 97 (f * 16 + k) S).1 = 1
      · have c71 : RC σ1 (dmS (dmd T 97 (f * 16 + k) S) (f * 16 + k) b) ∧ Ev 125 7 0 [some (.ref 8), some (.int (nI f)), some (.int (nI k)), none, none, none] [] (LBB M σ τ) (fun q9 M' => ∃ v9, q9 = .inl v9 ∧ v9 = some (.int ((dmd T 97 (f * 16 + k) S).2.1 (38 + 2 * (f * 16 + k)) 0)) ∧ M' = LBB M σ1 τ) := by
          obtain ⟨n9, r9, M9, a1, a2⟩ := c7
          rcases a2 with ⟨-, b2, b3, b4⟩ | ⟨b1, -⟩
          · exact ⟨b4, n9, r9, M9, a1, _, b2, rfl, b3⟩
          · exact absurd h1 b1
        obtain ⟨g3, e1⟩ := c71
        have m671 : ∃ τ1 ck1, ck1 ≤ ck + 97 ∧ FrJ τ τ1 ∧ τ1 370 0 = 0 ∧ RM τ1 (dmS (dmd T 97 (f * 16 + k) S) (f * 16 + k) b) ck1 ∧ Ev 126 67 0 [some (.ref 370), some (.int (nI f)), some (.int (nI k)), none, none] [] (LBB (pm_up M 394 (.inl (.long, 1, pm_uv f0 0 (.long ((dmd T 97 (f * 16 + k) S).2.1 (38 + 2 * (f * 16 + k)) 0).toInt64)))) σ1 τ) (fun q9 M' => ∃ v9, q9 = .inl v9 ∧ v9 = some (.int ((dmd T 97 (f * 16 + k) S).2.1 (38 + 2 * (f * 16 + k)) 0)) ∧ M' = LBB (pm_up M 394 (.inl (.long, 1, pm_uv f0 0 (.long ((dmd T 97 (f * 16 + k) S).2.1 (38 + 2 * (f * 16 + k)) 0).toInt64)))) σ1 τ1) := by
          rw [ls_sw]
          obtain ⟨n9, r9, M9, a1, τ1, ck1, b1, b2, b3, b4⟩ := m67 (sC (pm_up M 394 (.inl (.long, 1, pm_uv f0 0 (.long ((dmd T 97 (f * 16 + k) S).2.1 (38 + 2 * (f * 16 + k)) 0).toInt64)))) σ1)
          rcases b4 with ⟨-, d2, d3, d4⟩ | ⟨d1, -⟩
          · exact ⟨τ1, ck1, b2, b3, d3, d4, n9, r9, M9, a1, _, d2, rfl, by rw [ls_sw]; exact b1⟩
          · exact absurd h1 d1
        obtain ⟨τ1, ck1, q1, q2, q3, q4, e2⟩ := m671
        exact l6 (k := 0) (b := (dmd T 97 (f * 16 + k) S).2.1 (38 + 2 * (f * 16 + k)) 0) (f := pm_uv f0 0 (.long ((dmd T 97 (f * 16 + k) S).2.1 (38 + 2 * (f * 16 + k)) 0).toInt64)) (y := ((dmd T 97 (f * 16 + k) S).2.1 (38 + 2 * (f * 16 + k)) 0).toInt64) (σ1 := σ1) (τ1 := τ1) hn hL hH.2.2.1 (HI_up hH).2.2.1 up_394 uv_0 (fun _ => rfl) (by rw [ex, ey]; exact h107o ho0 e1) (by rw [ex, ey]; exact e2) (ev_thrown q3) (fun p5 p6 => kk _ σ1 τ1 p5 p6 ⟨HI_up hH, T, _, ck1, dr, b, CI_s hC g3 q4 hgw q2 h99 h910 h79 ⟨hb1, hb2⟩, by omega⟩)
      · have c71 : RC σ1 (dmd T 97 (f * 16 + k) S).2 ∧ Ev 125 7 0 [some (.ref 8), some (.int (nI f)), some (.int (nI k)), none, none, none] [] (LBB M σ τ) (fun q9 M' => q9 = .inr 1001 ∧ M' = pm_mk (LBB M σ1 τ) 6 (.inr (1000, []))) := by
          obtain ⟨n9, r9, M9, a1, a2⟩ := c7
          rcases a2 with ⟨b1, -⟩ | ⟨-, b2, b3, b4⟩
          · exact absurd b1 h1
          · exact ⟨b4, n9, r9, M9, a1, b2, b3⟩
        obtain ⟨g3, e1⟩ := c71
        have hH1 := HI_mk (e := .inr (1000, [])) hH
        obtain ⟨f1, y1, ho1, hf1⟩ := hH1.2.2.2
        have m671 : ∃ τ1 ck1, ck1 ≤ ck + 97 ∧ FrJ τ τ1 ∧ τ1 370 0 = 2 ∧ RM τ1 (dmd T 97 (f * 16 + k) S).2 ck1 ∧ Ev 126 67 0 [some (.ref 370), some (.int (nI f)), some (.int (nI k)), none, none] [] (LBB (pm_mk M 6 (.inr (1000, []))) σ1 τ) (fun q9 M' => ∃ v9, q9 = .inl v9 ∧ v9 = some (.int 0) ∧ M' = LBB (pm_mk M 6 (.inr (1000, []))) σ1 τ1) := by
          rw [ls_sw]
          obtain ⟨n9, r9, M9, a1, τ1, ck1, b1, b2, b3, b4⟩ := m67 (sC (pm_mk M 6 (.inr (1000, []))) σ1)
          rcases b4 with ⟨d1, -⟩ | ⟨-, d2, d3, d4⟩
          · exact absurd d1 h1
          · exact ⟨τ1, ck1, b2, b3, d3, d4, n9, r9, M9, a1, _, d2, rfl, by rw [ls_sw]; exact b1⟩
        obtain ⟨τ1, ck1, q1, q2, q3, q4, e2⟩ := m671
        exact l6 (k := 2) (b := 0) (f := f1) (y := y1) (σ1 := σ1) (τ1 := τ1) hn hL hH.2.2.1 hH1.2.2.1 ho1 hf1 (fun h => absurd h (by decide)) (by rw [ex, ey]; exact h107_1001 h387 e1) (by rw [ex, ey]; exact e2) (ev_thrown q3) (fun p5 p6 => kk _ σ1 τ1 p5 p6 ⟨hH1, T, _, ck1, dr, b, CI_s hC g3 q4 hgw q2 h99 h910 h79 ⟨hb1, hb2⟩, by omega⟩)
    · -- out of range
      have hH1 := HI_mk (e := .inr (1000, [])) hH
      obtain ⟨f1, y1, ho1, hf1⟩ := hH1.2.2.2
      obtain ⟨τ1, ⟨r1, r2, r3⟩, e2⟩ := ev_model (M := (pm_mk M 6 (.inr (1000, [])))) (σ := σ) (m67t (d := 124) (Or.inr hbad) hM)
      exact l6 (k := 1) (b := 0) (f := f1) (y := y1) (M1 := (pm_mk M 6 (.inr (1000, [])))) (σ1 := σ) (τ1 := τ1) hn hL hH.2.2.1 hH1.2.2.1 ho1 hf1 (fun h => absurd h (by decide)) (by exact h107_1000 h387 (c7t (d := 122) (M := sM M τ) (Or.inr hbad))) (by exact e2) (ev_thrown r2) (fun p5 p6 => kk _ σ τ1 p5 p6 ⟨hH1, T, S, ck, dr, b, CI_m hC r1 r3, by omega⟩)
  · -- out of range
    have hH1 := HI_mk (e := .inr (1000, [])) hH
    obtain ⟨f1, y1, ho1, hf1⟩ := hH1.2.2.2
    obtain ⟨τ1, ⟨r1, r2, r3⟩, e2⟩ := ev_model (M := (pm_mk M 6 (.inr (1000, [])))) (σ := σ) (m67t (d := 124) (Or.inl hbad) hM)
    exact l6 (k := 1) (b := 0) (f := f1) (y := y1) (M1 := (pm_mk M 6 (.inr (1000, [])))) (σ1 := σ) (τ1 := τ1) hn hL hH.2.2.1 hH1.2.2.1 ho1 hf1 (fun h => absurd h (by decide)) (by exact h107_1000 h387 (c7t (d := 122) (M := sM M τ) (Or.inl hbad))) (by exact e2) (ev_thrown r2) (fun p5 p6 => kk _ σ τ1 p5 p6 ⟨hH1, T, S, ck, dr, b, CI_m hC r1 r3, by omega⟩)
theorem s7 (hn : 4 * n + 4 ≤ Ls) (hL : Ls ≤ 2048) (h : LI Ls xs n M σ τ) (kk : ∀ M1 σ1 τ1 p5 p6, LI Ls xs (n + 1) M1 σ1 τ1 → Ev 127 113 928 (L9 n p5 p6) [] (LBB M1 σ1 τ1) Q) : Ev 127 113 512 (L9 n o5 o6) [] (LBB M σ τ) Q := by
  obtain ⟨hH, T, S, ck, dr, b, hC, hck⟩ := h
  obtain ⟨⟨hR, hM⟩, hG, hT, hX, hD, hE, h7, hb1, hb2⟩ := id hC
  obtain ⟨f0, y0, ho0, hf0⟩ := hH.2.2.2
  have h387 := hH.1.1
  have e1 := c8 (d := 126) (M := sM M τ) (x := xs (4 * n + 1)) hR
  obtain ⟨τ1, ⟨r1, r2, r3⟩, e2⟩ := ev_model (M := M) (σ := σ) (m68 (d := 125) (x := xs (4 * n + 1)) hM)
  exact l7 hn hL hH.2.2.1 hH.2.2.1 e1 e2 (fun p5 p6 => kk M σ τ1 p5 p6 ⟨HI_s hH, T, S, ck, dr, b, CI_m hC r1 r3, by omega⟩)
theorem s8 (hn : 4 * n + 4 ≤ Ls) (hL : Ls ≤ 2048) (h : LI Ls xs n M σ τ) (kk : ∀ M1 σ1 τ1 p5 p6, LI Ls xs (n + 1) M1 σ1 τ1 → Ev 127 113 928 (L9 n p5 p6) [] (LBB M1 σ1 τ1) Q) : Ev 127 113 537 (L9 n o5 o6) [] (LBB M σ τ) Q := by
  obtain ⟨hH, T, S, ck, dr, b, hC, hck⟩ := h
  obtain ⟨⟨hR, hM⟩, hG, hT, hX, hD, hE, h7, hb1, hb2⟩ := id hC
  obtain ⟨f0, y0, ho0, hf0⟩ := hH.2.2.2
  have h387 := hH.1.1
  rcases rng (xs (4 * n + 1)) (e := 6) (by decide) with ⟨f, hf, ex⟩ | hbad
  · rcases rng (xs (4 * n + 2)) (e := 16) (by decide) with ⟨k, hk, ey⟩ | hbad
    · have m69 := fun (N : pm_M) => m69o (d := 124) (M := N) hf hk hM
      rw [nd_sw] at m69
      have e1 := c9o (d := 122) (M := sM M τ) hf hk hR
      obtain ⟨τ1, ⟨r1, r2, r3⟩, e2⟩ := ev_model (M := (pm_up M 394 (.inl (.long, 1, pm_uv f0 0 (.long (blI (bI (decide (f * 16 + k ∈ S.2.1))))))))) (σ := σ) (m69 _)
      exact l8 (k := 0) (b := bI (decide (f * 16 + k ∈ S.2.1))) (f := pm_uv f0 0 (.long (blI (bI (decide (f * 16 + k ∈ S.2.1)))))) (y := blI (bI (decide (f * 16 + k ∈ S.2.1)))) (M1 := (pm_up M 394 (.inl (.long, 1, pm_uv f0 0 (.long (blI (bI (decide (f * 16 + k ∈ S.2.1))))))))) (σ1 := σ) (τ1 := τ1) hn hL hH.2.2.1 (HI_up hH).2.2.1 up_394 uv_0 (fun _ => rfl) (by rw [ex, ey]; exact h108o ho0 e1) (by rw [ex, ey]; exact e2) (ev_thrown r2) (fun p5 p6 => kk _ σ τ1 p5 p6 ⟨(HI_up hH), T, S, ck, dr, b, CI_m hC r1 r3, by omega⟩)
    · -- out of range
      have hH1 := HI_mk (e := .inr (1000, [])) hH
      obtain ⟨f1, y1, ho1, hf1⟩ := hH1.2.2.2
      obtain ⟨τ1, ⟨r1, r2, r3⟩, e2⟩ := ev_model (M := (pm_mk M 6 (.inr (1000, [])))) (σ := σ) (m69t (d := 124) (Or.inr hbad) hM)
      exact l8 (k := 1) (b := 0) (f := f1) (y := y1) (M1 := (pm_mk M 6 (.inr (1000, [])))) (σ1 := σ) (τ1 := τ1) hn hL hH.2.2.1 hH1.2.2.1 ho1 hf1 (fun h => absurd h (by decide)) (by exact h108_1000 h387 (c9t (d := 122) (M := sM M τ) (Or.inr hbad))) (by exact e2) (ev_thrown r2) (fun p5 p6 => kk _ σ τ1 p5 p6 ⟨hH1, T, S, ck, dr, b, CI_m hC r1 r3, by omega⟩)
  · -- out of range
    have hH1 := HI_mk (e := .inr (1000, [])) hH
    obtain ⟨f1, y1, ho1, hf1⟩ := hH1.2.2.2
    obtain ⟨τ1, ⟨r1, r2, r3⟩, e2⟩ := ev_model (M := (pm_mk M 6 (.inr (1000, [])))) (σ := σ) (m69t (d := 124) (Or.inl hbad) hM)
    exact l8 (k := 1) (b := 0) (f := f1) (y := y1) (M1 := (pm_mk M 6 (.inr (1000, [])))) (σ1 := σ) (τ1 := τ1) hn hL hH.2.2.1 hH1.2.2.1 ho1 hf1 (fun h => absurd h (by decide)) (by exact h108_1000 h387 (c9t (d := 122) (M := sM M τ) (Or.inl hbad))) (by exact e2) (ev_thrown r2) (fun p5 p6 => kk _ σ τ1 p5 p6 ⟨hH1, T, S, ck, dr, b, CI_m hC r1 r3, by omega⟩)
theorem s9 (hn : 4 * n + 4 ≤ Ls) (hL : Ls ≤ 2048) (h : LI Ls xs n M σ τ) (kk : ∀ M1 σ1 τ1 p5 p6, LI Ls xs (n + 1) M1 σ1 τ1 → Ev 127 113 928 (L9 n p5 p6) [] (LBB M1 σ1 τ1) Q) : Ev 127 113 612 (L9 n o5 o6) [] (LBB M σ τ) Q := by
  obtain ⟨hH, T, S, ck, dr, b, hC, hck⟩ := h
  obtain ⟨⟨hR, hM⟩, hG, hT, hX, hD, hE, h7, hb1, hb2⟩ := id hC
  obtain ⟨f0, y0, ho0, hf0⟩ := hH.2.2.2
  have h387 := hH.1.1
  rcases rng (xs (4 * n + 1)) (e := 6) (by decide) with ⟨f, hf, ex⟩ | hbad
  · rcases rng (xs (4 * n + 2)) (e := 16) (by decide) with ⟨k, hk, ey⟩ | hbad
    · rcases rng (xs (4 * n + 3)) (e := 6) (by decide) with ⟨w, hw, ez⟩ | hbad
      · by_cases hm : f * 16 + k ∈ S.2.1
        · skip
          have e1 := c10o (d := 122) (M := sM M τ) hf hk hw hR hm
          obtain ⟨τ1, ⟨r1, r2, r3⟩, e2⟩ := ev_model (M := (pm_up M 394 (.inl (.long, 1, pm_uv f0 0 (.long ((clV S (f * 16 + k) w).toInt64)))))) (σ := σ) (m70o (d := 124) hf hk hw hM hm)
          exact l9 (k := 0) (b := clV S (f * 16 + k) w) (f := pm_uv f0 0 (.long ((clV S (f * 16 + k) w).toInt64))) (y := (clV S (f * 16 + k) w).toInt64) (M1 := (pm_up M 394 (.inl (.long, 1, pm_uv f0 0 (.long ((clV S (f * 16 + k) w).toInt64)))))) (σ1 := σ) (τ1 := τ1) hn hL hH.2.2.1 (HI_up hH).2.2.1 up_394 uv_0 (fun _ => rfl) (by rw [ex, ey, ez]; exact h109o ho0 e1) (by rw [ex, ey, ez]; exact e2) (ev_thrown r2) (fun p5 p6 => kk _ σ τ1 p5 p6 ⟨(HI_up hH), T, S, ck, dr, b, CI_m hC r1 r3, by omega⟩)
        · skip
          have hH1 := HI_mk (e := .inr (1000, [])) hH
          obtain ⟨f1, y1, ho1, hf1⟩ := hH1.2.2.2
          obtain ⟨τ1, ⟨r1, r2, r3⟩, e2⟩ := ev_model (M := (pm_mk M 6 (.inr (1000, [])))) (σ := σ) (m70v (d := 124) hf hk hw hM hm)
          exact l9 (k := 2) (b := 0) (f := f1) (y := y1) (M1 := (pm_mk M 6 (.inr (1000, [])))) (σ1 := σ) (τ1 := τ1) hn hL hH.2.2.1 hH1.2.2.1 ho1 hf1 (fun h => absurd h (by decide)) (by rw [ex, ey, ez]; exact h109_1002 h387 (c10v (d := 122) (M := sM M τ) hf hk hw hR hm)) (by rw [ex, ey, ez]; exact e2) (ev_thrown r2) (fun p5 p6 => kk _ σ τ1 p5 p6 ⟨hH1, T, S, ck, dr, b, CI_m hC r1 r3, by omega⟩)
      · skip
        have hH1 := HI_mk (e := .inr (1000, [])) hH
        obtain ⟨f1, y1, ho1, hf1⟩ := hH1.2.2.2
        obtain ⟨τ1, ⟨r1, r2, r3⟩, e2⟩ := ev_model (M := (pm_mk M 6 (.inr (1000, [])))) (σ := σ) (m70u (d := 124) hf hk hbad hM)
        exact l9 (k := 1) (b := 0) (f := f1) (y := y1) (M1 := (pm_mk M 6 (.inr (1000, [])))) (σ1 := σ) (τ1 := τ1) hn hL hH.2.2.1 hH1.2.2.1 ho1 hf1 (fun h => absurd h (by decide)) (by rw [ex, ey]; exact h109_1000 h387 (c10u (d := 122) (M := sM M τ) hf hk hbad)) (by rw [ex, ey]; exact e2) (ev_thrown r2) (fun p5 p6 => kk _ σ τ1 p5 p6 ⟨hH1, T, S, ck, dr, b, CI_m hC r1 r3, by omega⟩)
    · -- out of range
      have hH1 := HI_mk (e := .inr (1000, [])) hH
      obtain ⟨f1, y1, ho1, hf1⟩ := hH1.2.2.2
      obtain ⟨τ1, ⟨r1, r2, r3⟩, e2⟩ := ev_model (M := (pm_mk M 6 (.inr (1000, [])))) (σ := σ) (m70t (d := 124) (Or.inr hbad) hM)
      exact l9 (k := 1) (b := 0) (f := f1) (y := y1) (M1 := (pm_mk M 6 (.inr (1000, [])))) (σ1 := σ) (τ1 := τ1) hn hL hH.2.2.1 hH1.2.2.1 ho1 hf1 (fun h => absurd h (by decide)) (by exact h109_1000 h387 (c10t (d := 122) (M := sM M τ) (Or.inr hbad))) (by exact e2) (ev_thrown r2) (fun p5 p6 => kk _ σ τ1 p5 p6 ⟨hH1, T, S, ck, dr, b, CI_m hC r1 r3, by omega⟩)
  · -- out of range
    have hH1 := HI_mk (e := .inr (1000, [])) hH
    obtain ⟨f1, y1, ho1, hf1⟩ := hH1.2.2.2
    obtain ⟨τ1, ⟨r1, r2, r3⟩, e2⟩ := ev_model (M := (pm_mk M 6 (.inr (1000, [])))) (σ := σ) (m70t (d := 124) (Or.inl hbad) hM)
    exact l9 (k := 1) (b := 0) (f := f1) (y := y1) (M1 := (pm_mk M 6 (.inr (1000, [])))) (σ1 := σ) (τ1 := τ1) hn hL hH.2.2.1 hH1.2.2.1 ho1 hf1 (fun h => absurd h (by decide)) (by exact h109_1000 h387 (c10t (d := 122) (M := sM M τ) (Or.inl hbad))) (by exact e2) (ev_thrown r2) (fun p5 p6 => kk _ σ τ1 p5 p6 ⟨hH1, T, S, ck, dr, b, CI_m hC r1 r3, by omega⟩)
theorem s10 (hn : 4 * n + 4 ≤ Ls) (hL : Ls ≤ 2048) (h : LI Ls xs n M σ τ) (kk : ∀ M1 σ1 τ1 p5 p6, LI Ls xs (n + 1) M1 σ1 τ1 → Ev 127 113 928 (L9 n p5 p6) [] (LBB M1 σ1 τ1) Q) : Ev 127 113 692 (L9 n o5 o6) [] (LBB M σ τ) Q := by
  obtain ⟨hH, T, S, ck, dr, b, hC, hck⟩ := h
  obtain ⟨⟨hR, hM⟩, hG, hT, hX, hD, hE, h7, hb1, hb2⟩ := id hC
  obtain ⟨f0, y0, ho0, hf0⟩ := hH.2.2.2
  have h387 := hH.1.1
  rcases rng (xs (4 * n + 1)) (e := 6) (by decide) with ⟨f, hf, ex⟩ | hbad
  · rcases rng (xs (4 * n + 2)) (e := 16) (by decide) with ⟨k, hk, ey⟩ | hbad
    · have h24 := (hG.1 (f * 16 + k) (by omega)).2.1
      by_cases hm : f * 16 + k ∈ S.2.1
      · skip
        have e1 := c11o (d := 122) (M := sM M τ) (x := xs (4 * n + 3)) hf hk hR hm h24
        obtain ⟨τ1, ⟨r1, r2, r3⟩, e2⟩ := ev_model (M := (pm_up M 394 (.inl (.long, 1, pm_uv f0 0 (.long ((rdV S (f * 16 + k) (xs (4 * n + 3))).toInt64)))))) (σ := σ) (m71o (d := 124) (x := xs (4 * n + 3)) hf hk hM hm h24)
        exact l10 (k := 0) (b := rdV S (f * 16 + k) (xs (4 * n + 3))) (f := pm_uv f0 0 (.long ((rdV S (f * 16 + k) (xs (4 * n + 3))).toInt64))) (y := (rdV S (f * 16 + k) (xs (4 * n + 3))).toInt64) (M1 := (pm_up M 394 (.inl (.long, 1, pm_uv f0 0 (.long ((rdV S (f * 16 + k) (xs (4 * n + 3))).toInt64)))))) (σ1 := σ) (τ1 := τ1) hn hL hH.2.2.1 (HI_up hH).2.2.1 up_394 uv_0 (fun _ => rfl) (by rw [ex, ey]; exact h110o ho0 e1) (by rw [ex, ey]; exact e2) (ev_thrown r2) (fun p5 p6 => kk _ σ τ1 p5 p6 ⟨(HI_up hH), T, S, ck, dr, b, CI_m hC r1 r3, by omega⟩)
      · skip
        have hH1 := HI_mk (e := .inr (1000, [])) hH
        obtain ⟨f1, y1, ho1, hf1⟩ := hH1.2.2.2
        obtain ⟨τ1, ⟨r1, r2, r3⟩, e2⟩ := ev_model (M := (pm_mk M 6 (.inr (1000, [])))) (σ := σ) (m71v (d := 124) hf hk hM hm)
        exact l10 (k := 2) (b := 0) (f := f1) (y := y1) (M1 := (pm_mk M 6 (.inr (1000, [])))) (σ1 := σ) (τ1 := τ1) hn hL hH.2.2.1 hH1.2.2.1 ho1 hf1 (fun h => absurd h (by decide)) (by rw [ex, ey]; exact h110_1002 h387 (c11v (d := 122) (M := sM M τ) hf hk hR hm)) (by rw [ex, ey]; exact e2) (ev_thrown r2) (fun p5 p6 => kk _ σ τ1 p5 p6 ⟨hH1, T, S, ck, dr, b, CI_m hC r1 r3, by omega⟩)
    · -- out of range
      have hH1 := HI_mk (e := .inr (1000, [])) hH
      obtain ⟨f1, y1, ho1, hf1⟩ := hH1.2.2.2
      obtain ⟨τ1, ⟨r1, r2, r3⟩, e2⟩ := ev_model (M := (pm_mk M 6 (.inr (1000, [])))) (σ := σ) (m71t (d := 124) (Or.inr hbad) hM)
      exact l10 (k := 1) (b := 0) (f := f1) (y := y1) (M1 := (pm_mk M 6 (.inr (1000, [])))) (σ1 := σ) (τ1 := τ1) hn hL hH.2.2.1 hH1.2.2.1 ho1 hf1 (fun h => absurd h (by decide)) (by exact h110_1000 h387 (c11t (d := 122) (M := sM M τ) (Or.inr hbad))) (by exact e2) (ev_thrown r2) (fun p5 p6 => kk _ σ τ1 p5 p6 ⟨hH1, T, S, ck, dr, b, CI_m hC r1 r3, by omega⟩)
  · -- out of range
    have hH1 := HI_mk (e := .inr (1000, [])) hH
    obtain ⟨f1, y1, ho1, hf1⟩ := hH1.2.2.2
    obtain ⟨τ1, ⟨r1, r2, r3⟩, e2⟩ := ev_model (M := (pm_mk M 6 (.inr (1000, [])))) (σ := σ) (m71t (d := 124) (Or.inl hbad) hM)
    exact l10 (k := 1) (b := 0) (f := f1) (y := y1) (M1 := (pm_mk M 6 (.inr (1000, [])))) (σ1 := σ) (τ1 := τ1) hn hL hH.2.2.1 hH1.2.2.1 ho1 hf1 (fun h => absurd h (by decide)) (by exact h110_1000 h387 (c11t (d := 122) (M := sM M τ) (Or.inl hbad))) (by exact e2) (ev_thrown r2) (fun p5 p6 => kk _ σ τ1 p5 p6 ⟨hH1, T, S, ck, dr, b, CI_m hC r1 r3, by omega⟩)
theorem s11 (hn : 4 * n + 4 ≤ Ls) (hL : Ls ≤ 2048) (h : LI Ls xs n M σ τ) (kk : ∀ M1 σ1 τ1 p5 p6, LI Ls xs (n + 1) M1 σ1 τ1 → Ev 127 113 928 (L9 n p5 p6) [] (LBB M1 σ1 τ1) Q) : Ev 127 113 772 (L9 n o5 o6) [] (LBB M σ τ) Q := by
  obtain ⟨hH, T, S, ck, dr, b, hC, hck⟩ := h
  obtain ⟨⟨hR, hM⟩, hG, hT, hX, hD, hE, h7, hb1, hb2⟩ := id hC
  obtain ⟨f0, y0, ho0, hf0⟩ := hH.2.2.2
  have h387 := hH.1.1
  have e1 := c12 (d := 125) (M := sM M τ) (x := xs (4 * n + 1)) hR
  obtain ⟨τ1, ⟨r1, r2, r3⟩, e2⟩ := ev_model (M := M) (σ := σ) (m72 (d := 125) (x := xs (4 * n + 1)) (by omega) hM)
  exact l11 hn hL hH.2.2.1 hH.2.2.1 e1 e2 (fun p5 p6 => kk M σ τ1 p5 p6 ⟨HI_s hH, T, S, ck, dr, b, CI_m hC r1 r3, by omega⟩)
theorem s12 (hn : 4 * n + 4 ≤ Ls) (hL : Ls ≤ 2048) (h : LI Ls xs n M σ τ) (kk : ∀ M1 σ1 τ1 p5 p6, LI Ls xs (n + 1) M1 σ1 τ1 → Ev 127 113 928 (L9 n p5 p6) [] (LBB M1 σ1 τ1) Q) : Ev 127 113 797 (L9 n o5 o6) [] (LBB M σ τ) Q := by
  obtain ⟨hH, T, S, ck, dr, b, hC, hck⟩ := h
  obtain ⟨⟨hR, hM⟩, hG, hT, hX, hD, hE, h7, hb1, hb2⟩ := id hC
  obtain ⟨f0, y0, ho0, hf0⟩ := hH.2.2.2
  have h387 := hH.1.1
  rcases bnd1 (xs (4 * n + 1)) with ⟨m, ⟨hm1, hm2⟩, ex⟩ | hbad
  · skip
    obtain ⟨σ1, g3, e1⟩ := ev_pull (g := fun σ' => LBB M σ' τ) (c13o (d := 122) (M := sM M τ) hm1 hm2 hR)
    obtain ⟨τ1, ⟨r1, r2, r3⟩, e2⟩ := ev_model (M := (pm_up M 394 (.inl (.long, 1, pm_uv f0 0 (.long ((nI (S.2.1.length - m)).toInt64)))))) (σ := σ1) (m73o (d := 124) hm1 hm2 (by omega) hM)
    exact l12 (k := 0) (b := nI (S.2.1.length - m)) (f := pm_uv f0 0 (.long ((nI (S.2.1.length - m)).toInt64))) (y := (nI (S.2.1.length - m)).toInt64) (M1 := (pm_up M 394 (.inl (.long, 1, pm_uv f0 0 (.long ((nI (S.2.1.length - m)).toInt64)))))) (σ1 := σ1) (τ1 := τ1) hn hL hH.2.2.1 (HI_up hH).2.2.1 up_394 uv_0 (fun _ => rfl) (by rw [ex]; exact h111o ho0 e1) (by rw [ex]; exact e2) (ev_thrown r2) (fun p5 p6 => kk _ σ1 τ1 p5 p6 ⟨(HI_up hH), T, (u2 S.1 8 7 (nI m), S.2.1.drop (S.2.1.length - m), S.2.2), ck, dr, m, CI_s hC g3 r1 (GW_q hG (fun q hq => u2_ne (by omega))) r3 (by show u2 S.1 8 7 (nI m) 9 = S.1 9; exact u2_ne (by omega)) (by show u2 S.1 8 7 (nI m) 10 = S.1 10; exact u2_ne (by omega)) (by show u2 S.1 8 7 (nI m) 8 7 = nI m; exact u2_at) ⟨hm1, hm2⟩, by omega⟩)
  · -- out of range
    have hH1 := HI_mk (e := .inr (1000, [])) hH
    obtain ⟨f1, y1, ho1, hf1⟩ := hH1.2.2.2
    obtain ⟨τ1, ⟨r1, r2, r3⟩, e2⟩ := ev_model (M := (pm_mk M 6 (.inr (1000, [])))) (σ := σ) (m73t (d := 124) hbad hM)
    exact l12 (k := 1) (b := 0) (f := f1) (y := y1) (M1 := (pm_mk M 6 (.inr (1000, [])))) (σ1 := σ) (τ1 := τ1) hn hL hH.2.2.1 hH1.2.2.1 ho1 hf1 (fun h => absurd h (by decide)) (by exact h111_1000 h387 (c13t (d := 122) (M := sM M τ) hbad)) (by exact e2) (ev_thrown r2) (fun p5 p6 => kk _ σ τ1 p5 p6 ⟨hH1, T, S, ck, dr, b, CI_m hC r1 r3, by omega⟩)
theorem s13 (hn : 4 * n + 4 ≤ Ls) (hL : Ls ≤ 2048) (h : LI Ls xs n M σ τ) (kk : ∀ M1 σ1 τ1 p5 p6, LI Ls xs (n + 1) M1 σ1 τ1 → Ev 127 113 928 (L9 n p5 p6) [] (LBB M1 σ1 τ1) Q) : Ev 127 113 853 (L9 n o5 o6) [] (LBB M σ τ) Q := by
  obtain ⟨hH, T, S, ck, dr, b, hC, hck⟩ := h
  obtain ⟨⟨hR, hM⟩, hG, hT, hX, hD, hE, h7, hb1, hb2⟩ := id hC
  obtain ⟨f0, y0, ho0, hf0⟩ := hH.2.2.2
  have h387 := hH.1.1
  rcases rng (xs (4 * n + 1)) (e := 6) (by decide) with ⟨f, hf, ex⟩ | hbad
  · rcases rng (xs (4 * n + 2)) (e := 16) (by decide) with ⟨k, hk, ey⟩ | hbad
    · have m74 := fun (N : pm_M) => m74o (d := 124) (M := N) hf hk hM
      rw [nd_sw] at m74
      obtain ⟨σ1, g3, e1⟩ := ev_pull (g := fun σ' => LBB M σ' τ) (c14o (d := 122) (M := sM M τ) hf hk hR)
      obtain ⟨τ1, ⟨r1, r2, r3⟩, e2⟩ := ev_model (M := (pm_up M 394 (.inl (.long, 1, pm_uv f0 0 (.long (blI (bI (decide (f * 16 + k ∈ S.2.1))))))))) (σ := σ1) (m74 _)
      exact l13 (k := 0) (b := bI (decide (f * 16 + k ∈ S.2.1))) (f := pm_uv f0 0 (.long (blI (bI (decide (f * 16 + k ∈ S.2.1)))))) (y := blI (bI (decide (f * 16 + k ∈ S.2.1)))) (M1 := (pm_up M 394 (.inl (.long, 1, pm_uv f0 0 (.long (blI (bI (decide (f * 16 + k ∈ S.2.1))))))))) (σ1 := σ1) (τ1 := τ1) hn hL hH.2.2.1 (HI_up hH).2.2.1 up_394 uv_0 (fun _ => rfl) (by rw [ex, ey]; exact h112o ho0 e1) (by rw [ex, ey]; exact e2) (ev_thrown r2) (fun p5 p6 => kk _ σ1 τ1 p5 p6 ⟨(HI_up hH), T, (S.1, S.2.1.erase (f * 16 + k), S.2.2), ck, dr, b, CI_s hC g3 r1 (GW_q hG (fun _ _ => rfl)) r3 rfl rfl h7 ⟨hb1, hb2⟩, by omega⟩)
    · -- out of range
      have hH1 := HI_mk (e := .inr (1000, [])) hH
      obtain ⟨f1, y1, ho1, hf1⟩ := hH1.2.2.2
      obtain ⟨τ1, ⟨r1, r2, r3⟩, e2⟩ := ev_model (M := (pm_mk M 6 (.inr (1000, [])))) (σ := σ) (m74t (d := 124) (Or.inr hbad) hM)
      exact l13 (k := 1) (b := 0) (f := f1) (y := y1) (M1 := (pm_mk M 6 (.inr (1000, [])))) (σ1 := σ) (τ1 := τ1) hn hL hH.2.2.1 hH1.2.2.1 ho1 hf1 (fun h => absurd h (by decide)) (by exact h112_1000 h387 (c14t (d := 122) (M := sM M τ) (Or.inr hbad))) (by exact e2) (ev_thrown r2) (fun p5 p6 => kk _ σ τ1 p5 p6 ⟨hH1, T, S, ck, dr, b, CI_m hC r1 r3, by omega⟩)
  · -- out of range
    have hH1 := HI_mk (e := .inr (1000, [])) hH
    obtain ⟨f1, y1, ho1, hf1⟩ := hH1.2.2.2
    obtain ⟨τ1, ⟨r1, r2, r3⟩, e2⟩ := ev_model (M := (pm_mk M 6 (.inr (1000, [])))) (σ := σ) (m74t (d := 124) (Or.inl hbad) hM)
    exact l13 (k := 1) (b := 0) (f := f1) (y := y1) (M1 := (pm_mk M 6 (.inr (1000, [])))) (σ1 := σ) (τ1 := τ1) hn hL hH.2.2.1 hH1.2.2.1 ho1 hf1 (fun h => absurd h (by decide)) (by exact h112_1000 h387 (c14t (d := 122) (M := sM M τ) (Or.inl hbad))) (by exact e2) (ev_thrown r2) (fun p5 p6 => kk _ σ τ1 p5 p6 ⟨hH1, T, S, ck, dr, b, CI_m hC r1 r3, by omega⟩)
end LC
