/-! The law: what holds between its rounds; each case keeps it. -/
theorem ev_pull {α : Type} {d i pc : Nat} {L : pm_L} {st : List Value} {M : pm_M} {g : α → pm_M} {R : α → Prop} {X : Option Value} (h : Ev d i pc L st M (fun q9 M' => ∃ v9, q9 = .inl v9 ∧ v9 = X ∧ ∃ x, M' = g x ∧ R x)) : ∃ x, R x ∧ Ev d i pc L st M (fun q9 M' => ∃ v9, q9 = .inl v9 ∧ v9 = X ∧ M' = g x) := by
  obtain ⟨n, r, M', h1, v9, e1, e2, x, e3, e4⟩ := h
  exact ⟨x, e4, n, r, M', h1, v9, e1, e2, e3⟩
theorem ev_model {d j : Nat} {L0 : pm_L} {M : pm_M} {σ τ : Nat → Nat → Int32} {X : Option Value} {R : (Nat → Nat → Int32) → Prop} (h : Ev d j 0 L0 [] (sM (sC M σ) τ) (fun q9 M' => ∃ v9, q9 = .inl v9 ∧ v9 = X ∧ ∃ τ', M' = sM (sC M σ) τ' ∧ R τ')) : ∃ τ', R τ' ∧ Ev d j 0 L0 [] (LBB M σ τ) (fun q9 M' => ∃ v9, q9 = .inl v9 ∧ v9 = X ∧ M' = LBB M σ τ') := by
  obtain ⟨x, h1, h2⟩ := ev_pull (g := fun τ' => sM (sC M σ) τ') h
  refine ⟨x, h1, ?_⟩
  rw [ls_sw, ls_sw]
  exact h2
theorem ev_thrown {d : Nat} {M : pm_M} {σ τ : Nat → Nat → Int32} {x : Int32} (h : τ 370 0 = x) : Ev d 40 0 [some (.ref 370)] [] (LBB M σ τ) (fun q9 M' => ∃ v9, q9 = .inl v9 ∧ v9 = some (.int x) ∧ M' = LBB M σ τ) := by
  rw [ls_sw]
  exact m40 h
theorem flt_rst : ∀ (l : List Nat) (due i : Nat), flt l due i = none → Rst due l := by
  intro l
  induction l with
  | nil =>
    intro due i h
    simp only [flt] at h
    split at h
    · rename_i e; exact e
    · cases h
  | cons c l ih =>
    intro due i h
    simp only [flt] at h
    split at h
    · cases h
    · rename_i e
      exact ⟨fun e2 => e (Or.inl e2), fun e2 => e (Or.inr e2), ih _ _ h⟩
def CI (T : Nat → List Nat) (S : SP) (ck : Nat) (dr : List Nat) (b : Nat) (σ τ : Nat → Nat → Int32) : Prop := (RC σ S ∧ RM τ S ck) ∧ GW T S ∧ TW T ∧ MX τ T ∧ MD τ dr ∧ Txt S.1 9 dr ∧ S.1 8 7 = nI b ∧ 1 ≤ b ∧ b < 97
def HI (Ls : Nat) (xs : Nat → Int32) (n : Nat) (M : pm_M) : Prop := (387 ≤ M.1 ∧ M.1 ≤ 387 + n) ∧ M.2.1 ≤ 9910 + 6 * n ∧ M.2.2 0 = .inl (.int, Ls, fun j => .int (xs j)) ∧ ∃ f y, M.2.2 394 = .inl (.long, 1, f) ∧ f 0 = .long y
def LI (Ls : Nat) (xs : Nat → Int32) (n : Nat) (M : pm_M) (σ τ : Nat → Nat → Int32) : Prop := HI Ls xs n M ∧ ∃ T S ck dr b, CI T S ck dr b σ τ ∧ ck ≤ 97 * n
theorem HI_s {Ls n : Nat} {xs : Nat → Int32} {M : pm_M} (h : HI Ls xs n M) : HI Ls xs (n + 1) M := ⟨⟨h.1.1, by have := h.1.2; omega⟩, by have := h.2.1; omega, h.2.2⟩
theorem up_at {M : pm_M} {p : Nat} {e : pm_E} : (pm_up M p e).2.2 p = e := by unfold pm_up; exact if_pos rfl
theorem up_ne {M : pm_M} {p q : Nat} {e : pm_E} (h : q ≠ p) : (pm_up M p e).2.2 q = M.2.2 q := by unfold pm_up; exact if_neg h
theorem mk_ne {M : pm_M} {n q : Nat} {e : pm_E} (h : q ≠ 8 + M.1) : (pm_mk M n e).2.2 q = M.2.2 q := by unfold pm_mk; exact if_neg h
theorem HI_up {Ls n : Nat} {xs : Nat → Int32} {M : pm_M} {f : Nat → Value} {y : Int64} (h : HI Ls xs n M) : HI Ls xs (n + 1) (pm_up M 394 (.inl (.long, 1, pm_uv f 0 (.long y)))) := by
  obtain ⟨⟨h1, h2⟩, h3, h4, f0, y0, h5, h6⟩ := h
  refine ⟨⟨h1, by show M.1 ≤ _; omega⟩, by show M.2.1 ≤ _; omega, by rw [up_ne (by decide)]; exact h4, pm_uv f 0 (.long y), y, up_at, by unfold pm_uv; rw [if_pos rfl]⟩
theorem HI_mk {Ls n : Nat} {xs : Nat → Int32} {M : pm_M} {e : pm_E} (h : HI Ls xs n M) : HI Ls xs (n + 1) (pm_mk M 6 e) := by
  obtain ⟨⟨h1, h2⟩, h3, h4, f, y, h5, h6⟩ := h
  refine ⟨⟨by show 387 ≤ M.1 + 1; omega, by show M.1 + 1 ≤ _; omega⟩, by show M.2.1 + 6 ≤ _; omega, ?_, f, y, ?_, h6⟩
  · rw [mk_ne (by omega)]; exact h4
  · rw [mk_ne (by omega)]; exact h5
/-- the numbers that are asked of rows stay -/
theorem GW_q {T : Nat → List Nat} {S : SP} {G' : Nat → Nat → Int32} {l : List Nat} (h : GW T S) (hG : ∀ q, q = 16 ∨ 26 ≤ q → G' q = S.1 q) : GW T (G', l, S.2.2) := by
  refine ⟨fun n hn => ⟨?_, (h.1 n hn).2⟩, fun k hk => ?_, fun f hf => ?_⟩
  · dsimp only; rw [hG _ (by omega)]; exact (h.1 n hn).1
  · dsimp only; rw [hG _ (by omega)]; exact h.2.1 k hk
  · have := h.2.2 f hf
    unfold Txt at this ⊢
    dsimp only
    rw [hG _ (by omega), hG _ (by omega)]
    exact this
theorem RM_q {τ : Nat → Nat → Int32} {S : SP} {ck : Nat} {G' : Nat → Nat → Int32} (h : RM τ S ck) (hG : ∀ q, q ≠ 9 → q ≠ 10 → G' q = S.1 q) : RM τ (G', S.2.1, S.2.2) ck := by
  refine RM_g h ?_ (fun _ _ _ => rfl) rfl (fun m hm => hG _ (by omega) (by omega))
  have := h.1
  unfold MS at this ⊢
  rw [hG 17 (by omega) (by omega), hG 8 (by omega) (by omega), hG 14 (by omega) (by omega), hG 15 (by omega) (by omega), hG 16 (by omega) (by omega), hG 18 (by omega) (by omega), hG 12 (by omega) (by omega)]
  exact this
theorem MD_j {τ τ' : Nat → Nat → Int32} {dr : List Nat} (h : FrJ τ τ') (hD : MD τ dr) : MD τ' dr := ⟨h.2.trans hD.1, fun i hi => by rw [h.1 371 (by omega) (by omega)]; exact hD.2 i hi⟩
theorem MX_j {τ τ' : Nat → Nat → Int32} {T : Nat → List Nat} (h : FrJ τ τ') (hX : MX τ T) : MX τ' T := MX_q (h.1 _ (by omega) (by omega)) (h.1 _ (by omega) (by omega)) hX
theorem Txt_q {G G' : Nat → Nat → Int32} {p : Nat} {t : List Nat} (h1 : G' p = G p) (h2 : G' (p + 1) = G (p + 1)) (h : Txt G p t) : Txt G' p t := by
  unfold Txt at h ⊢
  rw [h1, h2]; exact h
theorem Txt_0 {G : Nat → Nat → Int32} {p : Nat} (h : G p 1 = 0) : Txt G p [] := ⟨h, Nat.zero_le _, fun c hc => (by cases hc), fun i hi => absurd hi (Nat.not_lt_zero i)⟩
/-- the state changed, texts and draft not -/
theorem CI_s {T : Nat → List Nat} {S S' : SP} {ck ck' b b' : Nat} {dr : List Nat} {σ σ' τ τ' : Nat → Nat → Int32} (h : CI T S ck dr b σ τ) (hC : RC σ' S') (hM : RM τ' S' ck') (hG : GW T S') (hF : FrJ τ τ') (h9 : S'.1 9 = S.1 9) (h10 : S'.1 10 = S.1 10) (h7 : S'.1 8 7 = nI b') (hb : 1 ≤ b' ∧ b' < 97) : CI T S' ck' dr b' σ' τ' := by
  obtain ⟨-, -, c2, c3, c4, c5, -, -⟩ := h
  exact ⟨⟨hC, hM⟩, hG, c2, MX_j hF c3, MD_j hF c4, Txt_q h9 h10 c5, h7, hb⟩
theorem CI_m {T : Nat → List Nat} {S : SP} {ck b : Nat} {dr : List Nat} {σ τ τ' : Nat → Nat → Int32} (h : CI T S ck dr b σ τ) (hM : RM τ' S ck) (hF : FrJ τ τ') : CI T S ck dr b σ τ' := CI_s h h.1.1 hM h.2.1 hF rfl rfl h.2.2.2.2.2.2.1 h.2.2.2.2.2.2.2
