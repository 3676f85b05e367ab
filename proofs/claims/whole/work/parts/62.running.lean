/-! The restart loop against asking: running, looking through the reads. -/
section LP2
variable {d : Nat} {M : pm_M} {Q : pm_R → pm_M → Prop} {T : Nat → List Nat} {x1 x2 : Int32} {c0 : Nat}
def Q62 (d : Nat) (M : pm_M) (Q : pm_R → pm_M → Prop) (x1 x2 : Int32) (c0 : Nat) (q9 : pm_R) (M' : pm_M) : Prop := ∃ v9, q9 = .inl v9 ∧ v9 = none ∧ Ev (d + 6) 67 43 (LD x1 x2 c0) [] M' Q
def Q61 (d : Nat) (M : pm_M) (Q : pm_R → pm_M → Prop) (x1 x2 : Int32) (c0 n : Nat) (q9 : pm_R) (M' : pm_M) : Prop := ∃ v9, q9 = .inl v9 ∧ ((v9 = some (.int 1) ∧ Ev (d + 5) 62 28 [some (.ref 370), some (.int (nI n)), none, none] [] M' (Q62 d M Q x1 x2 c0)) ∨ (v9 = some (.int 0) ∧ Q62 d M Q x1 x2 c0 (.inl none) M'))
/-- what is known of the texts -/
def TW (T : Nat → List Nat) : Prop := ∀ f, f < 6 → Rst 1 (T f) ∧ (T f).length ≤ 24 ∧ ∀ c ∈ T f, c < 256
theorem vaO_t {τ : Nat → Nat → Int32} {S : SP} {ck r : Nat} (hR : RM τ S ck) (hr : RdOk r) (h : r < 100) : τ 374 r = vaO S.1 r := by
  unfold vaO RdOk at *
  rw [if_pos h]
  exact (hR.1.2.1 r (by omega)).1
theorem vaO_c {τ : Nat → Nat → Int32} {S : SP} {ck m : Nat} (hR : RM τ S ck) (h : m ∈ S.2.1) : τ 380 m = vaO S.1 (100 + m) := by
  unfold vaO
  rw [if_neg (by omega), show 100 + m - 100 = m by omega]
  exact (hR.2.2.1 m h).1.1
theorem GR_c {u : List Nat} {S : SP} {m : Nat} (h : GR u S (100 + m)) : gdB S m = true ∧ m ∉ u := by
  have := h.2 (by omega)
  rw [show 100 + m - 100 = m by omega] at this
  exact this
theorem pass {u : List Nat} {n ck : Nat} {S : SP} {τ : Nat → Nat → Int32} {rf : Nat → Bool} {Q1 : pm_R → pm_M → Prop} (hT : TW T) (hn : n < 96) (h20 : u.length ≤ 20) (hB : NB u S) (hR : RM τ S ck) (hu : MU τ u rf) (hX : MX τ T) : ∀ j, j ≤ 24 → Hs u (T (n / 16)) (n % 16) S j → Mid d M Q1 (T (n / 16)) (n / 16) (n % 16) τ (wkf (T (n / 16)) (n % 16) S.1 j).1 (wkf (T (n / 16)) (n % 16) S.1 j).2 → Mid d M Q1 (T (n / 16)) (n / 16) (n % 16) τ (wgo (T (n / 16)) (n % 16) 24 (none, 0, 0, [])) [] := by
  have hf : n / 16 < 6 := by omega
  obtain ⟨t1, t2, t3⟩ := hT _ hf
  intro j
  induction j with
  | zero => intro _ _ h; exact h
  | succ j ih =>
    intro hj hH hM
    have hH' : Hs u (T (n / 16)) (n % 16) S j := fun i hi => hH i (by omega)
    refine ih (by omega) hH' ?_
    obtain ⟨r, hr, hg⟩ := hH j (by omega)
    obtain ⟨w1, w2, w3⟩ := wk_ok (Rst.val _ _ t1) j hH'
    rw [wk_s (w := (wkf (T (n / 16)) (n % 16) S.1 j).1) (rd := (wkf (T (n / 16)) (n % 16) S.1 j).2) rfl hr] at hM
    have hro := hg.1
    by_cases h9 : r < 100
    · refine midI hf t2 t3 hX (fun x hx => (w3 x hx).1.lt) (by omega) hr h9 ?_
      rw [vaO_t hR hro h9]
      exact hM
    · obtain ⟨m, rfl⟩ : ∃ m, r = 100 + m := ⟨r - 100, by omega⟩
      obtain ⟨g1, g2⟩ := GR_c hg
      have hm : m < 96 := by unfold RdOk at hro; omega
      refine mid1 (P := fun τ1 => FrR τ τ1) hf t2 t3 (fun x hx => (w3 x hx).1.lt) (by omega) hr (fun τ' hF => ?_) (fun τ1 hF => ⟨MX_frR hF hX, ?_⟩)
      · refine ev_mono (m55g hm (RM_fr hF hR) (MU_frR hF hu) h20 (fun x hx => (hB.2 x hx).1) g2 g1) ?_
        rintro q M' ⟨v9, e1, e2, e3⟩
        exact ⟨v9, e1, e2, τ', e3, hF, FrI.rfl⟩
      · rw [vaO_c (RM_fr hF hR) (gd_in g1)]
        exact Mid_fr hF hM
/-- a cell under way is run from its text's start -/
theorem rstart {u : List Nat} {n ck j : Nat} {S : SP} {τ : Nat → Nat → Int32} {rf : Nat → Bool} (hT : TW T) (hn : n < 96) (h20 : u.length < 20) (hB : NB (u ++ [n]) S) (hR : RM τ S ck) (hu : MU τ (u ++ [n]) rf) (hrf : rf u.length = true) (hX : MX τ T) (hj : j ≤ 24) (hH : Hs (u ++ [n]) (T (n / 16)) (n % 16) S j) (hM : Mid d M (Q61 d M Q x1 x2 c0 n) (T (n / 16)) (n / 16) (n % 16) τ (wkf (T (n / 16)) (n % 16) S.1 j).1 (wkf (T (n / 16)) (n % 16) S.1 j).2) : Ev (d + 6) 67 65 (LD x1 x2 c0) [] (sM M τ) Q := by
  have hf : n / 16 < 6 := by omega
  obtain ⟨t1, t2, t3⟩ := hT _ hf
  refine m67r h20 hu hrf ?_
  refine m62s (Q := Q62 d M Q x1 x2 c0) hn h20 hu ?_
  exact m61b hf t2 t3 t1 hX (pass hT hn (by simp; omega) hB hR hu hX j hj hH hM)
theorem ask3_1 {n : Nat} {x : Nat × SP} (h : x.1 = 1) : ask3 n x = (1, x.2.1, put x.2.2.1 n, x.2.2.2) := by unfold ask3; rw [if_pos h]
theorem ask3_n {n : Nat} {x : Nat × SP} (h : ¬ x.1 = 1) : ask3 n x = x := by unfold ask3; rw [if_neg h]
theorem rnW_none {A : Nat → SP → Nat × SP} {t : List Nat} {key n k : Nat} {w : WS} {rd : List Nat} {S : SP} (h : w.1 = none) : rnW A t key n k w rd S = (1, kpE S n w.2.1 rd) := by
  cases k with
  | zero => rfl
  | succ k => simp only [rnW]; rw [h]
theorem mk {u : List Nat} {k n : Nat} (hT : TW T) (hn : n < 96) (hnu : n ∉ u) (h20 : u.length + (k + 1) = 20) (hN : ∀ k', k = k' + 1 → NK d M Q T x1 x2 c0 (u ++ [n]) k) :
    ∀ (kk i : Nat) (S : SP) (τ : Nat → Nat → Int32) (ck : Nat) (rf : Nat → Bool) (w : WS) (rd : List Nat), i + kk = 24 → wkf (T (n / 16)) (n % 16) S.1 i = (w, rd) → Hs (u ++ [n]) (T (n / 16)) (n % 16) S i → GW T S → NB (u ++ [n]) S → RM τ S ck → MU τ (u ++ [n]) rf → rf u.length = true → MX τ T → τ 370 29 = 0 → (∀ τ' ck', Res u rf (ask3 n (rnW (ask T k (u ++ [n])) (T (n / 16)) (n % 16) n kk w rd S)) S ck τ τ' ck' → Ev (d + 6) 67 43 (LD x1 x2 c0) [] (sM M τ') Q) → Mid d M (Q61 d M Q x1 x2 c0 n) (T (n / 16)) (n / 16) (n % 16) τ w rd := by
  have hf : n / 16 < 6 := by omega
  obtain ⟨t1, t2, t3⟩ := hT _ hf
  have hTr : ∀ f, f < 6 → Rst 1 (T f) := fun f hf => (hT f hf).1
  have hlen : (u ++ [n]).length + k = 20 := by simp; omega
  intro kk
  induction kk with
  | zero =>
    intro i S τ ck rf w rd hi hw hH hS hB hR hu hrf hX hg kont
    obtain ⟨w1, w2, w3⟩ := wk_ok (Rst.val _ _ t1) i hH
    rw [hw] at w1 w2 w3
    dsimp only at w1 w2 w3
    have hl : ∀ m, m < 96 → (S.2.2 m).length ≤ 24 := fun m hm => (hS.1 m hm).2.1
    have hnone : w.1 = none := by
      obtain ⟨a1, a2, -, -⟩ := w1
      cases h : w.1 with
      | none => rfl
      | some r => rw [h] at a1; dsimp only at a1; omega
    rw [rnW_none hnone] at kont
    obtain ⟨wo, v, a, s⟩ := w
    obtain rfl : wo = none := hnone
    intro τ' hF hv hL
    refine ⟨_, rfl, Or.inl ⟨rfl, ?_⟩⟩
    refine m62e hn (RM_fr hF hR) hl (MU_frR hF hu) (by omega) (by omega) (fun r hr => ⟨(w3 r hr).1, fun h => ⟨gd_in ((w3 r hr).2 h).1, fun e => ((w3 r hr).2 h).2 (by rw [e]; simp)⟩⟩) hL hv ?_
    intro τ2 k1 k2 k3 k4
    refine ⟨none, rfl, rfl, kont τ2 (ck + 1) ?_⟩
    rw [ask3_1 rfl]
    obtain ⟨p1, p2⟩ := Kp_kp (v := v) (rd := rd) (hB.2 n (by simp)).2 hnu hn
    have hbl := bad_lt hn (fun x hx h => (p1.2.1 x hx h).1) (hB.2 n (by simp)).2 p2
    refine ⟨k1, ?_, hF.d.trans ⟨k3, fun k hk => k4 k (by omega)⟩, fun _ => ⟨k2, ?_⟩, fun e => (by cases e), fun e => (by cases e)⟩
    · show ck + 1 + bad ((kpE S n v rd).1, put S.2.1 n, (kpE S n v rd).2.2) ≤ ck + bad S
      omega
    · rw [k4 29 (by omega), hF.2 29 (by omega) (by omega) (by omega)]; exact hg
  | succ kk ih =>
    intro i S τ ck rf w rd hi hw hH hS hB hR hu hrf hX hg kont
    obtain ⟨w1, w2, w3⟩ := wk_ok (Rst.val _ _ t1) i hH
    rw [hw] at w1 w2 w3
    dsimp only at w1 w2 w3
    have hl : ∀ m, m < 96 → (S.2.2 m).length ≤ 24 := fun m hm => (hS.1 m hm).2.1
    cases hwo : w.1 with
    | none =>
      rw [rnW_none hwo] at kont
      obtain ⟨wo, v, a, s⟩ := w
      obtain rfl : wo = none := hwo
      intro τ' hF hv hL
      refine ⟨_, rfl, Or.inl ⟨rfl, ?_⟩⟩
      refine m62e hn (RM_fr hF hR) hl (MU_frR hF hu) (by omega) (by omega) (fun r hr => ⟨(w3 r hr).1, fun h => ⟨gd_in ((w3 r hr).2 h).1, fun e => ((w3 r hr).2 h).2 (by rw [e]; simp)⟩⟩) hL hv ?_
      intro τ2 k1 k2 k3 k4
      refine ⟨none, rfl, rfl, kont τ2 (ck + 1) ?_⟩
      rw [ask3_1 rfl]
      obtain ⟨p1, p2⟩ := Kp_kp (v := v) (rd := rd) (hB.2 n (by simp)).2 hnu hn
      have hbl := bad_lt hn (fun x hx h => (p1.2.1 x hx h).1) (hB.2 n (by simp)).2 p2
      refine ⟨k1, ?_, hF.d.trans ⟨k3, fun k hk => k4 k (by omega)⟩, fun _ => ⟨k2, ?_⟩, fun e => (by cases e), fun e => (by cases e)⟩
      · show ck + 1 + bad ((kpE S n v rd).1, put S.2.1 n, (kpE S n v rd).2.2) ≤ ck + bad S
        omega
      · rw [k4 29 (by omega), hF.2 29 (by omega) (by omega) (by omega)]; exact hg
    | some r =>
      have hro := w1.2.2.2 r hwo
      have hwr : (wkf (T (n / 16)) (n % 16) S.1 i).1.1 = some r := by rw [hw]; exact hwo
      by_cases h9 : r < 100
      · refine midI hf t2 t3 hX (fun x hx => (w3 x hx).1.lt) (by omega) hwo h9 ?_
        rw [vaO_t hR hro h9]
        have hgr : GR (u ++ [n]) S r := ⟨hro, fun h => absurd h9 (by omega)⟩
        refine ih (i + 1) S τ ck rf _ _ (by omega) (wk_s hw hwo) (Hs_s hH hwr hgr) hS hB hR hu hrf hX hg ?_
        have e : rnW (ask T k (u ++ [n])) (T (n / 16)) (n % 16) n (kk + 1) w rd S = rnW (ask T k (u ++ [n])) (T (n / 16)) (n % 16) n kk (wgo (T (n / 16)) (n % 16) 24 (wtk (T (n / 16)) w (vaO S.1 r))) (nte rd r) S := by
          simp only [rnW]
          rw [hwo]
          dsimp only
          have : askR (ask T k (u ++ [n])) r S = (1, S) := by unfold askR; rw [if_pos h9]
          rw [this]
          simp
        rw [e] at kont
        exact kont
      · obtain ⟨m, rfl⟩ : ∃ m, r = 100 + m := ⟨r - 100, by omega⟩
        have hm : m < 96 := by unfold RdOk at hro; omega
        have ea : askR (ask T k (u ++ [n])) (100 + m) S = ask T k (u ++ [n]) m S := by unfold askR; rw [if_neg h9, show 100 + m - 100 = m by omega]
        have hAK := ask_ok hTr k (u ++ [n]) m S hm hS
        have hAP := ask_ap hTr k (u ++ [n]) m S hm hS hB
        have er : rnW (ask T k (u ++ [n])) (T (n / 16)) (n % 16) n (kk + 1) w rd S = if ¬ (ask T k (u ++ [n]) m S).1 = 1 then ask T k (u ++ [n]) m S else rnW (ask T k (u ++ [n])) (T (n / 16)) (n % 16) n kk (wgo (T (n / 16)) (n % 16) 24 (wtk (T (n / 16)) w (vaO (ask T k (u ++ [n]) m S).2.1 (100 + m)))) (nte rd (100 + m)) (ask T k (u ++ [n]) m S).2 := by
          simp only [rnW]
          rw [hwo]
          dsimp only
          rw [ea]
        rw [er] at kont
        rcases gk (e := d) (ck := ck) (rf := rf) hlen hN hm hS hB with ⟨S1, ck1, e1, hck, hE⟩ | hE
        · rw [e1] at kont hAK hAP
          rw [if_neg (by simp)] at kont
          obtain ⟨p1, p2, p3⟩ := hAP.1 rfl
          have hgr : GR (u ++ [n]) S1 (100 + m) := ⟨hro, fun _ => by rw [show 100 + m - 100 = m by omega]; exact ⟨p2, p3⟩⟩
          obtain ⟨hwk, hH1⟩ := Hs_kp p1 i hH
          have hw1 : wkf (T (n / 16)) (n % 16) S1.1 i = (w, rd) := hwk.trans hw
          refine mid1 (P := fun τ1 => (RM τ1 S1 ck1 ∧ MU τ1 (u ++ [n]) rf ∧ τ1 370 29 = 0) ∧ FrD τ τ1) hf t2 t3 (fun x hx => (w3 x hx).1.lt) (by omega) hwo (fun τ' hF => ?_) (fun τ1 hP => ?_)
          · refine ev_mono (hE τ' (RM_fr hF hR) (MU_frR hF hu) (MX_frR hF hX) ((hF.2 29 (by omega) (by omega) (by omega)).trans hg)) ?_
            rintro q M' ⟨v9, q1, q2, τ1, q3, q4, q5⟩
            exact ⟨v9, q1, q2, τ1, q3, ⟨q4, hF.d.trans q5.d⟩, q5⟩
          · obtain ⟨⟨q1, q2, q3⟩, q4⟩ := hP
            refine ⟨MX_frD q4 hX, ?_⟩
            rw [vaO_c q1 (gd_in p2)]
            refine ih (i + 1) S1 τ1 ck1 rf _ _ (by omega) (wk_s hw1 hwo) (Hs_s hH1 (by rw [hw1]; exact hwo) hgr) hAK.1.1 (NB_kp hB p1) q1 q2 hrf (MX_frD q4 hX) q3 ?_
            exact fun τ' ck' hr => kont τ' ck' (Res_tr hr hck q4)
        · refine mid0 (P := fun τ1 => Ev (d + 6) 67 43 (LD x1 x2 c0) [] (sM M τ1) Q) t2 hwo (fun τ' hF => ?_) (fun τ1 hP => ⟨_, rfl, Or.inr ⟨rfl, none, rfl, rfl, hP⟩⟩)
          refine hE τ' (RM_fr hF hR) (MU_frR hF hu) (MX_frR hF hX) ((hF.2 29 (by omega) (by omega) (by omega)).trans hg) (fun τ2 ck2 hr => ?_)
          have hr := Res_tr hr (Nat.le_refl _) hF.d
          by_cases h1 : (ask T k (u ++ [n]) m S).1 = 1
          · rw [if_neg (fun h => h h1)] at kont
            obtain ⟨p1, p2, p3⟩ := hAP.1 h1
            generalize ask T k (u ++ [n]) m S = y at *
            obtain ⟨y1, S1⟩ := y
            dsimp only at *
            subst h1
            obtain ⟨r1, r2, r3, r4, -, -⟩ := hr
            obtain ⟨r5, r6⟩ := r4 rfl
            have hgr : GR (u ++ [n]) S1 (100 + m) := ⟨hro, fun _ => by rw [show 100 + m - 100 = m by omega]; exact ⟨p2, p3⟩⟩
            obtain ⟨hwk, hH1⟩ := Hs_kp p1 i hH
            have hw1 : wkf (T (n / 16)) (n % 16) S1.1 i = (w, rd) := hwk.trans hw
            have hH2 := Hs_s hH1 (by rw [hw1]; exact hwo) hgr
            have hd : τ2 370 26 = nI (u.length + 1) := by rw [r5.1]; simp
            refine m67a (k := u.length) (by omega) r6 hd ?_
            refine rstart hT hn (by omega) (NB_kp hB p1) r1 r5 hrf (MX_frD r3 hX) (j := i + 1) (by omega) hH2 ?_
            rw [wk_s hw1 hwo]
            refine ih (i + 1) S1 τ2 ck2 rf _ _ (by omega) (wk_s hw1 hwo) hH2 hAK.1.1 (NB_kp hB p1) r1 r5 hrf (MX_frD r3 hX) r6 ?_
            exact fun τ' ck' hr => kont τ' ck' (Res_tr hr r2 r3)
          · rw [if_pos h1, ask3_n h1] at kont
            exact kont τ2 ck2 (Res_no h1 hr)
end LP2
