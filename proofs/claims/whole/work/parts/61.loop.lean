/-! The restart loop against asking. -/
abbrev LD (x1 x2 : Int32) (c0 : Nat) : pm_L := [some (.ref 370), some (.int x1), some (.int x2), some (.int (nI c0)), none]
def Res (u : List Nat) (rf : Nat → Bool) (x : Nat × SP) (S : SP) (ck : Nat) (τ τ' : Nat → Nat → Int32) (ck' : Nat) : Prop := RM τ' x.2 ck' ∧ ck' + bad x.2 ≤ ck + bad S ∧ FrD τ τ' ∧ (x.1 = 1 → MU τ' u rf ∧ τ' 370 29 = 0) ∧ (x.1 = 3 → MU τ' [] rf ∧ τ' 370 29 = 0) ∧ (x.1 = 4 → τ' 370 29 = 1)
theorem Res_tr {u : List Nat} {rf : Nat → Bool} {x : Nat × SP} {S S1 : SP} {ck ck1 ck' : Nat} {τ τ1 τ' : Nat → Nat → Int32} (h : Res u rf x S1 ck1 τ1 τ' ck') (h1 : ck1 + bad S1 ≤ ck + bad S) (h2 : FrD τ τ1) : Res u rf x S ck τ τ' ck' := ⟨h.1, Nat.le_trans h.2.1 h1, h2.trans h.2.2.1, h.2.2.2⟩
theorem MU_rf {τ : Nat → Nat → Int32} {u : List Nat} {rf rf' : Nat → Bool} (h : ∀ i, i < u.length → rf' i = rf i) (hu : MU τ u rf) : MU τ u rf' := ⟨hu.1, fun i hi => by rw [h i hi]; exact hu.2 i hi⟩
theorem Res_rf {u : List Nat} {rf rf' : Nat → Bool} {x : Nat × SP} {S : SP} {ck ck' : Nat} {τ τ' : Nat → Nat → Int32} (hr : ∀ i, i < u.length → rf' i = rf i) (h : Res u rf x S ck τ τ' ck') : Res u rf' x S ck τ τ' ck' := ⟨h.1, h.2.1, h.2.2.1, fun e => ⟨MU_rf hr (h.2.2.2.1 e).1, (h.2.2.2.1 e).2⟩, fun e => ⟨MU_rf (fun i hi => absurd hi (Nat.not_lt_zero i)) (h.2.2.2.2.1 e).1, (h.2.2.2.2.1 e).2⟩, h.2.2.2.2.2⟩
/-- where it isn't answered, the stack is all the same -/
theorem Res_no {u v : List Nat} {rf : Nat → Bool} {x : Nat × SP} {S : SP} {ck ck' : Nat} {τ τ' : Nat → Nat → Int32} (hx : ¬ x.1 = 1) (h : Res u rf x S ck τ τ' ck') : Res v rf x S ck τ τ' ck' := ⟨h.1, h.2.1, h.2.2.1, fun e => absurd e hx, h.2.2.2.2⟩
theorem lcl_kp {u : List Nat} {S S1 : SP} (hk : Kp u S S1) : ∀ (l : List Nat) (x : Int32), (∀ r ∈ l, GR u S r) → lcl S1.1 l x = lcl S.1 l x := by
  intro l
  induction l with
  | nil => intro x _; rw [lcl_nil, lcl_nil]
  | cons r l ih =>
    intro x hr
    obtain ⟨h1, h2⟩ := hr r List.mem_cons_self
    have h3 := h1
    unfold RdOk at h3
    have e : clO S1.1 r = clO S.1 r := by
      unfold clO
      by_cases h9 : r < 100
      · rw [if_pos h9, if_pos h9]; exact hk.1 16 _ (by unfold KR; omega)
      · rw [if_neg h9, if_neg h9]; exact (hk.2.1 (r - 100) (by omega) (h2 (by omega)).1).2 5
    rw [lcl_cons, lcl_cons, e, ih _ (fun r' h' => hr r' (List.mem_cons_of_mem _ h'))]
theorem lcl_vf {S : SP} {n : Nat} : ∀ (l : List Nat) (x : Int32), lcl (vfyG S n) l x = lcl S.1 l x := by
  intro l
  induction l with
  | nil => intro x; rw [lcl_nil, lcl_nil]
  | cons r l ih =>
    intro x
    have e : clO (vfyG S n) r = clO S.1 r := by
      unfold clO vfyG
      by_cases h9 : r < 100
      · rw [if_pos h9, if_pos h9]; exact u2_off (by omega)
      · rw [if_neg h9, if_neg h9]; exact u2_off (by omega)
    rw [lcl_cons, lcl_cons, e, ih _]
theorem gd_in {S : SP} {n : Nat} (h : gdB S n = true) : n ∈ S.2.1 := (gdB_iff.mp h).1
section LP
variable {d : Nat} {M : pm_M} {Q : pm_R → pm_M → Prop} {T : Nat → List Nat} {x1 x2 : Int32} {c0 : Nat}
def NK (d : Nat) (M : pm_M) (Q : pm_R → pm_M → Prop) (T : Nat → List Nat) (x1 x2 : Int32) (c0 : Nat) (u : List Nat) (k : Nat) : Prop := ∀ (n : Nat) (S : SP) (τ : Nat → Nat → Int32) (ck : Nat) (rf : Nat → Bool), n < 96 → GW T S → NB u S → n ∉ u → ¬ gdB S n = true → ¬ skB S n = true → RM τ S ck → MU τ (u ++ [n]) rf → rf u.length = decide (¬ n ∈ S.2.1) → MX τ T → τ 370 29 = 0 → (∀ τ' ck', Res u rf (ask T k u n S) S ck τ τ' ck' → Ev (d + 6) 67 43 (LD x1 x2 c0) [] (sM M τ') Q) → Ev (d + 6) 67 65 (LD x1 x2 c0) [] (sM M τ) Q
theorem ask_u {u : List Nat} {k n : Nat} {S : SP} (h : n ∈ u) : ask T k u n S = (3, (u.drop (u.idxOf n)).foldl ci1 S) := by
  cases k <;> (unfold ask; rw [if_pos h])
theorem ask_g {u : List Nat} {k n : Nat} {S : SP} (h : n ∉ u) (hg : gdB S n = true) : ask T k u n S = (1, S) := by
  cases k <;> (unfold ask; rw [if_neg h, if_pos hg])
theorem ask_s {u : List Nat} {k n : Nat} {S : SP} (h : n ∉ u) (hg : ¬ gdB S n = true) (hs : skB S n = true) : ask T k u n S = (1, doSk S n) := by
  cases k <;> (unfold ask; rw [if_neg h, if_neg hg, if_pos hs])
theorem ask_4 {u : List Nat} {n : Nat} {S : SP} (h : n ∉ u) (hg : ¬ gdB S n = true) (hs : ¬ skB S n = true) : ask T 0 u n S = (4, S) := by
  unfold ask; rw [if_neg h, if_neg hg, if_neg hs]
theorem ask_k {u : List Nat} {k n : Nat} {S : SP} (h : n ∉ u) (hg : ¬ gdB S n = true) (hs : ¬ skB S n = true) : ask T (k + 1) u n S = ask3 n (ask2 (ask T k (u ++ [n])) (T (n / 16)) n (ask1 (ask T k (u ++ [n])) (T (n / 16)) n S)) := by
  conv => lhs; unfold ask
  rw [if_neg h, if_neg hg, if_neg hs]
/-- isGood, met under way -/
theorem gk {e : Nat} {u : List Nat} {k m ck : Nat} {S : SP} {rf : Nat → Bool} (h20 : u.length + k = 20) (hN : ∀ k', k = k' + 1 → NK d M Q T x1 x2 c0 u k) (hm : m < 96) (hS : GW T S) (hB : NB u S) :
    (∃ S1 ck1, ask T k u m S = (1, S1) ∧ ck1 + bad S1 ≤ ck + bad S ∧ ∀ τ, RM τ S ck → MU τ u rf → MX τ T → τ 370 29 = 0 → Ev (e + 2) 55 0 [some (.ref 370), some (.int (nI m))] [] (sM M τ) (fun q9 M' => ∃ v9, q9 = .inl v9 ∧ v9 = some (.int 1) ∧ ∃ τ', M' = sM M τ' ∧ (RM τ' S1 ck1 ∧ MU τ' u rf ∧ τ' 370 29 = 0) ∧ FrI τ τ')) ∨
    (∀ τ, RM τ S ck → MU τ u rf → MX τ T → τ 370 29 = 0 → (∀ τ' ck', Res u rf (ask T k u m S) S ck τ τ' ck' → Ev (d + 6) 67 43 (LD x1 x2 c0) [] (sM M τ') Q) → Ev (e + 2) 55 0 [some (.ref 370), some (.int (nI m))] [] (sM M τ) (fun q9 M' => ∃ v9, q9 = .inl v9 ∧ v9 = some (.int 0) ∧ ∃ τ', M' = sM M τ' ∧ Ev (d + 6) 67 43 (LD x1 x2 c0) [] (sM M τ') Q)) := by
  have hl : ∀ m, m < 96 → (S.2.2 m).length ≤ 24 := fun m hm => (hS.1 m hm).2.1
  have hlv := (hS.1 m hm).1
  have hub : ∀ x ∈ u, x < 96 := fun x hx => (hB.2 x hx).1
  by_cases hu : m ∈ u
  · refine Or.inr (fun τ hR hU hX hg kk => ?_)
    refine ev_mono (m55c hm hR hl hU (by omega) hub hu) ?_
    rintro q M' ⟨v9, e1, e2, τ', e3, k1, k2, k3, k4⟩
    refine ⟨v9, e1, e2, τ', e3, kk τ' (ck + (u.drop (u.idxOf m)).length) ?_⟩
    rw [ask_u hu]
    have hbc := bad_circle (n := m) hB
    exact ⟨k1, by dsimp only; omega, k3.d, fun e9 => (by cases e9), fun _ => ⟨k2, k4.trans hg⟩, fun e9 => (by cases e9)⟩
  · by_cases hg : gdB S m = true
    · refine Or.inl ⟨S, ck, ask_g hu hg, Nat.le_refl _, fun τ hR hU hX hg2 => ?_⟩
      refine ev_mono (m55g hm hR hU (by omega) hub hu hg) ?_
      rintro q M' ⟨v9, e1, e2, e3⟩
      exact ⟨v9, e1, e2, τ, e3, ⟨hR, hU, hg2⟩, FrI.rfl⟩
    · by_cases hs : skB S m = true
      · refine Or.inl ⟨doSk S m, ck + 1, ask_s hu hg hs, ?_, fun τ hR hU hX hg2 => ?_⟩
        · obtain ⟨p1, p2⟩ := Kp_sk hg hu hm
          have := bad_lt hm (fun x hx h => (p1.2.1 x hx h).1) hg p2
          omega
        · refine ev_mono (m55s hm hR hl hlv hU (by omega) hub hu hg hs) ?_
          rintro q M' ⟨v9, e1, e2, τ', e3, k1, k2, k3, k4⟩
          exact ⟨v9, e1, e2, τ', e3, ⟨k1, k2, k4.trans hg2⟩, k3⟩
      · refine Or.inr (fun τ hR hU hX hg2 kk => ?_)
        cases k with
        | zero =>
          refine ev_mono (m55u hm hR hlv hU (by omega) hub hu hg hs) ?_
          rintro q M' ⟨v9, e1, e2, τ', e3, k1, k2, k3, k4⟩
          refine ⟨v9, e1, e2, τ', e3, kk τ' ck ?_⟩
          rw [ask_4 hu hg hs]
          exact ⟨k1, Nat.le_refl _, k3.d, fun e9 => (by cases e9), fun e9 => (by cases e9), fun _ => k4⟩
        | succ k =>
          refine ev_mono (m55p hm hR hlv hU (by omega) hub hu hg hs) ?_
          rintro q M' ⟨v9, e1, e2, τ', e3, k1, k2, k3, k4⟩
          refine ⟨v9, e1, e2, τ', e3, ?_⟩
          have hd : τ' 370 26 = nI (u.length + 1) := by rw [k2.1]; simp
          refine m67a (k := u.length) (by omega) (k4.trans hg2) hd ?_
          refine hN k rfl m S τ' ck _ hm hS hB hu hg hs k1 k2 ?_ (MX_frD k3.d hX) (k4.trans hg2) (fun τ2 ck2 hr => ?_)
          · unfold rfp; rw [if_pos rfl]
          · refine kk τ2 ck2 (Res_tr (Res_rf (fun i hi => ?_) hr) (Nat.le_refl _) k3.d)
            unfold rfp; rw [if_neg (by omega)]
end LP
