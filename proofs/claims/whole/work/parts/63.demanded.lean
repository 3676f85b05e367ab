/-! The restart loop against asking: looking through the reads; a demand. -/
section LP3
variable {d : Nat} {M : pm_M} {Q : pm_R → pm_M → Prop} {T : Nat → List Nat} {x1 x2 : Int32} {c0 : Nat}
def PG (u : List Nat) (n : Nat) (S : SP) (pre : List Nat) : Prop := ∀ r ∈ pre, GR u S r ∧ chO S.1 r ≤ S.1 (38 + 2 * n) 3
theorem PG_kp {u pre : List Nat} {n : Nat} {S S1 : SP} (hn : n ∈ u) (h : PG u n S pre) (hk : Kp u S S1) : PG u n S1 pre := fun r hr => by
  obtain ⟨h1, h2⟩ := h r hr
  obtain ⟨g1, -, g3⟩ := GR_kp h1 hk
  refine ⟨g1, ?_⟩
  rw [g3, (hk.2.2 n hn).2]
  exact h2
theorem getD_pre {pre l : List Nat} {r : Nat} : (pre ++ r :: l).getD pre.length 0 = r := by simp [List.getD_eq_getElem?_getD]
theorem lcl_app {G : Nat → Nat → Int32} {pre : List Nat} {r : Nat} {x : Int32} : lcl G (pre ++ [r]) x = if clO G r < lcl G pre x then clO G r else lcl G pre x := by
  unfold lcl
  rw [List.foldl_append, List.foldl_cons, List.foldl_nil]
/-- reads that are good are passed -/
theorem vpass {u : List Nat} {n ck : Nat} {S : SP} {τ : Nat → Nat → Int32} {rf : Nat → Bool} {Q1 : pm_R → pm_M → Prop} (hn : n < 96) (h20 : u.length < 20) (hS : GW T S) (hB : NB (u ++ [n]) S) (hR : RM τ S ck) (hu : MU τ (u ++ [n]) rf) (hm : n ∈ S.2.1) : ∀ (b a l : List Nat) (o5 : Option Value), S.2.2 n = a ++ (b ++ l) → PG (u ++ [n]) n S b → (∀ o5, Ev (d + 5) 57 19 [some (.ref 370), some (.int (nI u.length)), some (.int (nI n)), some (.int (lcl S.1 (a ++ b) 2)), some (.int (nI (a ++ b).length)), o5] [] (sM M τ) Q1) → Ev (d + 5) 57 19 [some (.ref 370), some (.int (nI u.length)), some (.int (nI n)), some (.int (lcl S.1 a 2)), some (.int (nI a.length)), o5] [] (sM M τ) Q1 := by
  have hl := (hS.1 n hn).2.1
  intro b
  induction b with
  | nil => intro a l o5 _ _ kk; have := kk o5; rw [List.append_nil] at this; exact this
  | cons r b ih =>
    intro a l o5 he hP kk
    have hx : (S.2.2 n).getD a.length 0 = r := by rw [he]; exact getD_pre
    have hi : a.length < (S.2.2 n).length := by rw [he]; simp
    obtain ⟨g1, g2⟩ := hP r List.mem_cons_self
    have hk : 100 ≤ r → r - 100 ∈ S.2.1 := fun h => gd_in (g1.2 h).1
    have hnext : Ev (d + 5) 57 64 [some (.ref 370), some (.int (nI u.length)), some (.int (nI n)), some (.int (lcl S.1 a 2)), some (.int (nI a.length)), some (.int (nI r))] [] (sM M τ) Q1 := by
      refine m57b hn hR hm hl (by omega) g1.1 hk g2 ?_
      have h := ih (a ++ [r]) l (some (.int (nI r))) (by rw [he]; simp) (fun x hx => hP x (List.mem_cons_of_mem _ hx)) (fun o => by have := kk o; simpa using this)
      rw [lcl_app, List.length_append] at h
      exact h
    by_cases h9 : r < 100
    · refine m57i hn hR hm hl hi (by rw [hx]; exact h9) ?_
      rw [hx]; exact hnext
    · obtain ⟨p1, p2⟩ := g1.2 (by omega)
      have hro := g1.1
      unfold RdOk at hro
      refine m57a (P := fun τ' => τ' = τ) hn hR hm hl hi (by rw [hx]; exact g1.1) (by rw [hx]; omega) ?_ ?_
      · rw [hx]
        refine ev_mono (m55g (by omega) hR hu (by simp; omega) (fun x hx => (hB.2 x hx).1) p2 p1) ?_
        rintro q M' ⟨v9, e1, e2, e3⟩
        exact ⟨v9, e1, e2, τ, e3, rfl⟩
      · rintro τ' rfl
        rw [hx]; exact hnext
theorem vk {u : List Nat} {k n : Nat} (hT : TW T) (hn : n < 96) (hnu : n ∉ u) (h20 : u.length + (k + 1) = 20) (hN : ∀ k', k = k' + 1 → NK d M Q T x1 x2 c0 (u ++ [n]) k)
    (hRun : ∀ (S : SP) (τ : Nat → Nat → Int32) (ck : Nat) (rf : Nat → Bool), GW T S → NB (u ++ [n]) S → RM τ S ck → MU τ (u ++ [n]) rf → rf u.length = true → MX τ T → τ 370 29 = 0 → (∀ τ' ck', Res u rf (ask3 n (rnW (ask T k (u ++ [n])) (T (n / 16)) (n % 16) n 24 (wgo (T (n / 16)) (n % 16) 24 (none, 0, 0, [])) [] S)) S ck τ τ' ck' → Ev (d + 6) 67 43 (LD x1 x2 c0) [] (sM M τ') Q) → Ev (d + 6) 67 65 (LD x1 x2 c0) [] (sM M τ) Q) :
    ∀ (l pre : List Nat) (S : SP) (τ : Nat → Nat → Int32) (ck : Nat) (rf : Nat → Bool) (o5 : Option Value), S.2.2 n = pre ++ l → PG (u ++ [n]) n S pre → n ∈ S.2.1 → GW T S → NB (u ++ [n]) S → RM τ S ck → MU τ (u ++ [n]) rf → rf u.length = false → MX τ T → τ 370 29 = 0 → (∀ τ' ck', Res u rf (ask3 n (ask2 (ask T k (u ++ [n])) (T (n / 16)) n (vfy (ask T k (u ++ [n])) n l S))) S ck τ τ' ck' → Ev (d + 6) 67 43 (LD x1 x2 c0) [] (sM M τ') Q) → Ev (d + 5) 57 19 [some (.ref 370), some (.int (nI u.length)), some (.int (nI n)), some (.int (lcl S.1 pre 2)), some (.int (nI pre.length)), o5] [] (sM M τ) (Q62 d M Q x1 x2 c0) := by
  have hTr : ∀ f, f < 6 → Rst 1 (T f) := fun f hf => (hT f hf).1
  have hlen : (u ++ [n]).length + k = 20 := by simp; omega
  have hnin : n ∈ u ++ [n] := by simp
  intro l
  induction l with
  | nil =>
    intro pre S τ ck rf o5 he hP hm hS hB hR hu hrf hX hg kont
    rw [List.append_nil] at he
    have hl : ∀ m, m < 96 → (S.2.2 m).length ≤ 24 := fun m hm => (hS.1 m hm).2.1
    rw [← he]
    refine m57e hn hR hm (hl n hn) hl hu (by omega) (lcl_vf _ _).symm ?_
    intro τ' k1 k2 k3 k4
    refine ⟨none, rfl, rfl, kont τ' (ck + 1) ?_⟩
    have e : ask2 (ask T k (u ++ [n])) (T (n / 16)) n (vfy (ask T k (u ++ [n])) n [] S) = (1, vfyE S n) := by
      simp only [vfy]; unfold ask2; rw [if_neg (by simp)]
    rw [e, ask3_1 rfl]
    obtain ⟨p1, p2⟩ := Kp_vf (hB.2 n hnin).2 hnu hn
    have hbl := bad_lt hn (fun x hx h => (p1.2.1 x hx h).1) (hB.2 n hnin).2 p2
    refine ⟨k1, ?_, k3.d, fun _ => ⟨k2, k4.trans hg⟩, fun e => (by cases e), fun e => (by cases e)⟩
    show ck + 1 + bad ((vfyE S n).1, put S.2.1 n, S.2.2) ≤ ck + bad S
    omega
  | cons r l ih =>
    intro pre S τ ck rf o5 he hP hm hS hB hR hu hrf hX hg kont
    have hl : ∀ m, m < 96 → (S.2.2 m).length ≤ 24 := fun m hm => (hS.1 m hm).2.1
    have hx : (S.2.2 n).getD pre.length 0 = r := by rw [he]; exact getD_pre
    have hi : pre.length < (S.2.2 n).length := by rw [he]; simp
    have hro : RdOk r := (hS.1 n hn).2.2 r (by rw [he]; simp)
    have hln := hl n hn
    -- what follows once the read is answered
    have B64 : ∀ (S1 : SP) (τ1 : Nat → Nat → Int32) (ck1 : Nat), askR (ask T k (u ++ [n])) r S = (1, S1) → Kp (u ++ [n]) S S1 → S1.2.2 n = S.2.2 n → GR (u ++ [n]) S1 r → GW T S1 → RM τ1 S1 ck1 → MU τ1 (u ++ [n]) rf → FrD τ τ1 → τ1 370 29 = 0 → ck1 + bad S1 ≤ ck + bad S → Ev (d + 5) 57 64 [some (.ref 370), some (.int (nI u.length)), some (.int (nI n)), some (.int (lcl S1.1 pre 2)), some (.int (nI pre.length)), some (.int (nI r))] [] (sM M τ1) (Q62 d M Q x1 x2 c0) := by
      intro S1 τ1 ck1 ea hk hrs hgr hS1 hR1 hu1 hFd hg1 hck
      have hm1 : n ∈ S1.2.1 := (hk.2.2 n hnin).1.mpr hm
      have hB1 := NB_kp hB hk
      have hP1 := PG_kp hnin hP hk
      have hl1 := (hS1.1 n hn).2.1
      have hkk : 100 ≤ r → r - 100 ∈ S1.2.1 := fun h => gd_in (hgr.2 h).1
      by_cases hle : chO S1.1 r ≤ S1.1 (38 + 2 * n) 3
      · refine m57b hn hR1 hm1 hl1 (by omega) hro hkk hle ?_
        have h := ih (pre ++ [r]) S1 τ1 ck1 rf (some (.int (nI r))) (by rw [hrs, he]; simp) (fun x hx => by
          rcases List.mem_append.mp hx with h | h
          · exact hP1 x h
          · rw [List.mem_singleton] at h; subst h; exact ⟨hgr, hle⟩) hm1 hS1 hB1 hR1 hu1 hrf (MX_frD hFd hX) hg1 (fun τ' ck' hr => kont τ' ck' (by
          have e : vfy (ask T k (u ++ [n])) n (r :: l) S = vfy (ask T k (u ++ [n])) n l S1 := by
            simp only [vfy]; rw [ea]; simp [hle]
          rw [e]
          exact Res_tr hr hck hFd))
        rw [lcl_app, List.length_append] at h
        exact h
      · refine m57s hn hR1 hm1 hl1 (by omega) hro hkk (by omega) hle ?_
        refine ⟨none, rfl, rfl, ?_⟩
        have hR2 : RM (u2 τ1 389 u.length 1) S1 ck1 := RM_n hR1 (by omega) (by omega)
        have hd : (u2 τ1 389 u.length 1) 370 26 = nI (u.length + 1) := by rw [u2_off (by omega)]; exact (MU_top hu1).1
        refine m67a (k := u.length) (by omega) (by rw [u2_off (by omega)]; exact hg1) hd ?_
        refine hRun S1 _ ck1 (rfp rf u.length true) hS1 hB1 hR2 (MU_run hu1) (by unfold rfp; rw [if_pos rfl]) (MX_u (by omega) (MX_frD hFd hX)) (by rw [u2_off (by omega)]; exact hg1) ?_
        intro τ' ck' hr
        refine kont τ' ck' ?_
        have e : vfy (ask T k (u ++ [n])) n (r :: l) S = (2, S1) := by
          simp only [vfy]; rw [ea]; simp [hle]
        have e2 : ask2 (ask T k (u ++ [n])) (T (n / 16)) n (2, S1) = rnW (ask T k (u ++ [n])) (T (n / 16)) (n % 16) n 24 (wgo (T (n / 16)) (n % 16) 24 (none, 0, 0, [])) [] S1 := by unfold ask2; rw [if_pos rfl]
        rw [e, e2]
        refine Res_tr (Res_rf (fun i hi => ?_) hr) hck (hFd.trans ⟨fun q h1 h2 => u2_ne (by omega), fun k hk => u2_off (by omega)⟩)
        unfold rfp; rw [if_neg (by omega)]
    by_cases h9 : r < 100
    · have ea : askR (ask T k (u ++ [n])) r S = (1, S) := by unfold askR; rw [if_pos h9]
      refine m57i hn hR hm hln hi (by rw [hx]; exact h9) ?_
      rw [hx]
      exact B64 S τ ck ea Kp.rfl rfl ⟨hro, fun h => absurd h9 (by omega)⟩ hS hR hu FrD.rfl hg (Nat.le_refl _)
    · obtain ⟨m, rfl⟩ : ∃ m, r = 100 + m := ⟨r - 100, by omega⟩
      have hm9 : m < 96 := by unfold RdOk at hro; omega
      have hx2 : (S.2.2 n).getD pre.length 0 - 100 = m := by rw [hx]; omega
      have ea : askR (ask T k (u ++ [n])) (100 + m) S = ask T k (u ++ [n]) m S := by unfold askR; rw [if_neg h9, show 100 + m - 100 = m by omega]
      have hAK := ask_ok hTr k (u ++ [n]) m S hm9 hS
      have hAP := ask_ap hTr k (u ++ [n]) m S hm9 hS hB
      rcases gk (e := d + 2) (ck := ck) (rf := rf) hlen hN hm9 hS hB with ⟨S1, ck1, e1, hck, hE⟩ | hE
      · rw [e1] at hAK hAP ea
        obtain ⟨p1, p2, p3⟩ := hAP.1 rfl
        have hgr : GR (u ++ [n]) S1 (100 + m) := ⟨hro, fun _ => by rw [show 100 + m - 100 = m by omega]; exact ⟨p2, p3⟩⟩
        refine m57a (P := fun τ1 => (RM τ1 S1 ck1 ∧ MU τ1 (u ++ [n]) rf ∧ τ1 370 29 = 0) ∧ FrI τ τ1) hn hR hm hln hi (by rw [hx]; exact hro) (by rw [hx]; omega) ?_ ?_
        · rw [hx2]; exact hE τ hR hu hX hg
        · rintro τ1 ⟨⟨q1, q2, q3⟩, q4⟩
          rw [hx, ← lcl_kp p1 pre 2 (fun x hx => (hP x hx).1)]
          exact B64 S1 τ1 ck1 ea p1 (hAK.2 rfl n hnin) hgr hAK.1.1 q1 q2 q4.d q3 hck
      · refine m57z (P := fun τ1 => Ev (d + 6) 67 43 (LD x1 x2 c0) [] (sM M τ1) Q) hn hR hm hln hi (by rw [hx]; exact hro) (by rw [hx]; omega) ?_ (fun τ1 hp => ⟨none, rfl, rfl, hp⟩)
        rw [hx2]
        refine hE τ hR hu hX hg (fun τ2 ck2 hr => ?_)
        by_cases h1 : (ask T k (u ++ [n]) m S).1 = 1
        · obtain ⟨p1, p2, p3⟩ := hAP.1 h1
          have hrs := hAK.2 h1 n hnin
          have hgw := hAK.1.1
          generalize ask T k (u ++ [n]) m S = y at *
          obtain ⟨y1, S1⟩ := y
          dsimp only at *
          subst h1
          obtain ⟨r1, r2, r3, r4, -, -⟩ := hr
          obtain ⟨r5, r6⟩ := r4 rfl
          have hgr : GR (u ++ [n]) S1 (100 + m) := ⟨hro, fun _ => by rw [show 100 + m - 100 = m by omega]; exact ⟨p2, p3⟩⟩
          have hd : τ2 370 26 = nI (u.length + 1) := (MU_top r5).1
          have hm1 : n ∈ S1.2.1 := (p1.2.2 n hnin).1.mpr hm
          have he1 : S1.2.2 n = pre ++ (100 + m) :: l := by rw [hrs, he]
          have hx1 : (S1.2.2 n).getD pre.length 0 = 100 + m := by rw [he1]; exact getD_pre
          have hi1 : pre.length < (S1.2.2 n).length := by rw [he1]; simp
          have hl1 := (hgw.1 n hn).2.1
          refine m67a (k := u.length) (by omega) r6 hd ?_
          refine m67v (by omega) r5 hrf ?_
          refine m57h (by omega) r5 ?_
          refine vpass (T := T) hn (by omega) hgw (NB_kp hB p1) r1 r5 hm1 pre [] ((100 + m) :: l) none he1 (PG_kp hnin hP p1) (fun o => ?_)
          show Ev (d + 5) 57 19 [some (.ref 370), some (.int (nI u.length)), some (.int (nI n)), some (.int (lcl S1.1 pre 2)), some (.int (nI pre.length)), o] [] (sM M τ2) (Q62 d M Q x1 x2 c0)
          refine m57a (P := fun τ' => τ' = τ2) hn r1 hm1 hl1 hi1 (by rw [hx1]; exact hro) (by rw [hx1]; omega) ?_ ?_
          · rw [hx1, show 100 + m - 100 = m by omega]
            refine ev_mono (m55g hm9 r1 r5 (by simp; omega) (fun x hx => (hB.2 x hx).1) p3 p2) ?_
            rintro q M' ⟨v9, e1, e2, e3⟩
            exact ⟨v9, e1, e2, τ2, e3, rfl⟩
          · rintro τ' rfl
            rw [hx1]
            exact B64 S1 τ' ck2 ea p1 hrs hgr hgw r1 r5 r3 r6 r2
        · have e : vfy (ask T k (u ++ [n])) n ((100 + m) :: l) S = ask T k (u ++ [n]) m S := by
            simp only [vfy]; rw [ea, if_pos h1]
          have h2 : ¬ (ask T k (u ++ [n]) m S).1 = 2 := by have := hAK.1.2; omega
          have e2 : ask2 (ask T k (u ++ [n])) (T (n / 16)) n (ask T k (u ++ [n]) m S) = ask T k (u ++ [n]) m S := by unfold ask2; rw [if_neg h2]
          rw [e, e2, ask3_n h1] at kont
          exact kont τ2 ck2 (Res_no h1 hr)
theorem nk_step (hT : TW T) {k : Nat} {u : List Nat} (h20 : u.length + (k + 1) = 20) (hN : ∀ n, ∀ k', k = k' + 1 → NK d M Q T x1 x2 c0 (u ++ [n]) k) : NK d M Q T x1 x2 c0 u (k + 1) := by
  intro n S τ ck rf hn hS hB hnu hg hs hR hu hrf hX hg2 kont
  have hB' := NB_push hB hn hnu hg
  rw [ask_k hnu hg hs] at kont
  have hRun : ∀ (S : SP) (τ : Nat → Nat → Int32) (ck : Nat) (rf : Nat → Bool), GW T S → NB (u ++ [n]) S → RM τ S ck → MU τ (u ++ [n]) rf → rf u.length = true → MX τ T → τ 370 29 = 0 → (∀ τ' ck', Res u rf (ask3 n (rnW (ask T k (u ++ [n])) (T (n / 16)) (n % 16) n 24 (wgo (T (n / 16)) (n % 16) 24 (none, 0, 0, [])) [] S)) S ck τ τ' ck' → Ev (d + 6) 67 43 (LD x1 x2 c0) [] (sM M τ') Q) → Ev (d + 6) 67 65 (LD x1 x2 c0) [] (sM M τ) Q := by
    intro S τ ck rf hS hB hR hu hrf hX hg kont
    have hH : Hs (u ++ [n]) (T (n / 16)) (n % 16) S 0 := fun i hi => absurd hi (Nat.not_lt_zero i)
    refine rstart hT hn (by omega) hB hR hu hrf hX (j := 0) (by omega) hH ?_
    exact mk hT hn hnu h20 (hN n) 24 0 S τ ck rf _ _ (by omega) rfl hH hS hB hR hu hrf hX hg kont
  by_cases hm : n ∈ S.2.1
  · have hrf2 : rf u.length = false := by rw [hrf]; simp [hm]
    have e : ask1 (ask T k (u ++ [n])) (T (n / 16)) n S = vfy (ask T k (u ++ [n])) n (S.2.2 n) S := by unfold ask1; rw [if_pos hm]
    rw [e] at kont
    refine m67v (by omega) hu hrf2 ?_
    refine m57h (by omega) hu ?_
    exact vk hT hn hnu h20 (hN n) hRun (S.2.2 n) [] S τ ck rf none rfl (fun r hr => by cases hr) hm hS hB' hR hu hrf2 hX hg2 kont
  · have hrf2 : rf u.length = true := by rw [hrf]; simp [hm]
    have e : ask1 (ask T k (u ++ [n])) (T (n / 16)) n S = (2, S) := by unfold ask1; rw [if_neg hm]
    have e2 : ask2 (ask T k (u ++ [n])) (T (n / 16)) n (2, S) = rnW (ask T k (u ++ [n])) (T (n / 16)) (n % 16) n 24 (wgo (T (n / 16)) (n % 16) 24 (none, 0, 0, [])) [] S := by unfold ask2; rw [if_pos rfl]
    rw [e, e2] at kont
    exact hRun S τ ck rf hS hB' hR hu hrf2 hX hg2 kont
theorem nk_all (hT : TW T) : ∀ (k : Nat) (u : List Nat), u.length + (k + 1) = 20 → NK d M Q T x1 x2 c0 u (k + 1) := by
  intro k
  induction k with
  | zero => intro u h20; exact nk_step hT h20 (fun n k' e => by omega)
  | succ k ih => intro u h20; exact nk_step hT h20 (fun n k' e => ih (u ++ [n]) (by simp; omega))
/-- the demand's loop -/
theorem m67l (hT : TW T) (hc : c0 < 96) : ∀ (k : Nat) (S : SP) (τ : Nat → Nat → Int32) (ck : Nat) (rf : Nat → Bool), GW T S → bad S < k → RM τ S ck → MU τ [] rf → MX τ T → τ 370 29 = 0 → (∀ τ' ck', RM τ' (dmd T k c0 S).2 ck' → ck' + bad (dmd T k c0 S).2 ≤ ck + bad S → FrD τ τ' → ((dmd T k c0 S).1 = 1 → τ' 370 29 = 0 ∧ gdB (dmd T k c0 S).2 c0 = true) → (¬ (dmd T k c0 S).1 = 1 → τ' 370 29 = 1) → Ev (d + 6) 67 107 (LD x1 x2 c0) [] (sM M τ') Q) → Ev (d + 6) 67 43 (LD x1 x2 c0) [] (sM M τ) Q := by
  have hTr : ∀ f, f < 6 → Rst 1 (T f) := fun f hf => (hT f hf).1
  intro k
  induction k with
  | zero => intro S τ ck rf _ h; omega
  | succ k ih =>
    intro S τ ck rf hS hb hR hu hX hg kont
    have hl : ∀ m, m < 96 → (S.2.2 m).length ≤ 24 := fun m hm => (hS.1 m hm).2.1
    have hlv := (hS.1 c0 hc).1
    have hAK := ask_ok hTr 20 [] c0 S hc hS
    have hAP := ask_ap hTr 20 [] c0 S hc hS NB_nil
    have hd : τ 370 26 = nI 0 := hu.1
    by_cases hgd : gdB S c0 = true
    · have e : dmd T (k + 1) c0 S = (1, S) := by simp only [dmd]; rw [ask_g (by simp) hgd]; simp
      rw [e] at kont
      refine m67i (P := fun τ' => τ' = τ) hc hg hd ?_ ?_
      · refine ev_mono (m55g hc hR hu (by simp) (fun x hx => by cases hx) (by simp) hgd) ?_
        rintro q M' ⟨v9, e1, e2, e3⟩
        exact ⟨v9, e1, e2, τ, e3, rfl⟩
      · rintro τ' rfl
        exact kont τ' ck hR (Nat.le_refl _) FrD.rfl (fun _ => ⟨hg, hgd⟩) (fun h => absurd rfl h)
    · by_cases hsk : skB S c0 = true
      · have e : dmd T (k + 1) c0 S = (1, doSk S c0) := by simp only [dmd]; rw [ask_s (by simp) hgd hsk]; simp
        rw [e] at kont
        refine m67i (P := fun τ' => RM τ' (doSk S c0) (ck + 1) ∧ MU τ' [] rf ∧ FrI τ τ' ∧ τ' 370 29 = τ 370 29) hc hg hd ?_ ?_
        · exact m55s hc hR hl hlv hu (by simp) (fun x hx => by cases hx) (by simp) hgd hsk
        · rintro τ' ⟨k1, k2, k3, k4⟩
          obtain ⟨p1, p2⟩ := Kp_sk (u := []) hgd (by simp) hc
          have := bad_lt hc (fun x hx h => (p1.2.1 x hx h).1) hgd p2
          exact kont τ' (ck + 1) k1 (by dsimp only; omega) k3.d (fun _ => ⟨k4.trans hg, p2⟩) (fun h => absurd rfl h)
      · refine m67j (P := fun τ' => RM τ' S ck ∧ MU τ' ([] ++ [c0]) (rfp rf 0 (decide (¬ c0 ∈ S.2.1))) ∧ FrI τ τ' ∧ τ' 370 29 = τ 370 29) hc hg hd ?_ ?_
        · exact m55p hc hR hlv hu (by simp) (fun x hx => by cases hx) (by simp) hgd hsk
        · rintro τ1 ⟨k1, k2, k3, k4⟩
          refine nk_all hT 19 [] rfl c0 S τ1 ck _ hc hS NB_nil (by simp) hgd hsk k1 k2 (by unfold rfp; exact if_pos rfl) (MX_frD k3.d hX) (k4.trans hg) (fun τ2 ck2 hr => ?_)
          obtain ⟨r1, r2, r3, r4, r5, r6⟩ := hr
          have hF := k3.d.trans r3
          have hX2 := MX_frD hF hX
          rcases hAK.1.2 with h1 | h1 | h1
          · obtain ⟨q1, q2⟩ := r4 h1
            obtain ⟨p1, p2, p3⟩ := hAP.1 h1
            have e : dmd T (k + 1) c0 S = ask T 20 [] c0 S := by simp only [dmd]; rw [if_neg (by rw [h1]; omega)]
            rw [e] at kont
            refine m67i (P := fun τ' => τ' = τ2) hc q2 q1.1 ?_ ?_
            · refine ev_mono (m55g hc r1 q1 (by simp) (fun x hx => by cases hx) (by simp) p2) ?_
              rintro q M' ⟨v9, e1, e2, e3⟩
              exact ⟨v9, e1, e2, τ2, e3, rfl⟩
            · rintro τ' rfl
              exact kont τ' ck2 r1 r2 hF (fun _ => ⟨q2, p2⟩) (fun h => absurd h1 h)
          · obtain ⟨q1, q2⟩ := r5 h1
            have e : dmd T (k + 1) c0 S = dmd T k c0 (ask T 20 [] c0 S).2 := by simp only [dmd]; rw [if_pos h1]
            rw [e] at kont
            have hbl := hAP.2 h1
            refine ih (ask T 20 [] c0 S).2 τ2 ck2 _ hAK.1.1 (by omega) r1 q1 hX2 q2 (fun τ' ck' a1 a2 a3 a4 a5 => ?_)
            exact kont τ' ck' a1 (Nat.le_trans a2 r2) (hF.trans a3) a4 a5
          · have e : dmd T (k + 1) c0 S = ask T 20 [] c0 S := by simp only [dmd]; rw [if_neg (by rw [h1]; omega)]
            rw [e] at kont
            have q2 := r6 h1
            refine m67g q2 ?_
            exact kont τ2 ck2 r1 r2 hF (fun h => absurd h (by rw [h1]; omega)) (fun _ => q2)
end LP3
/-- how the reference's demand ends -/
def dmQ (M : pm_M) (x : Nat × SP) (n b ck : Nat) (τ : Nat → Nat → Int32) (q9 : pm_R) (M' : pm_M) : Prop := ∃ τ' ck', M' = sM M τ' ∧ ck' ≤ ck + 97 ∧ FrJ τ τ' ∧ ((x.1 = 1 ∧ q9 = .inl (some (.int (x.2.1 (38 + 2 * n) 0))) ∧ τ' 370 0 = 0 ∧ RM τ' (dmS x n b) ck') ∨ (¬ x.1 = 1 ∧ q9 = .inl (some (.int 0)) ∧ τ' 370 0 = 2 ∧ RM τ' x.2 ck'))
theorem m67o {d : Nat} {M : pm_M} {T : Nat → List Nat} (hT : TW T) {f k b ck : Nat} (hf : f < 6) (hk : k < 16) (hb : b < 97) {S : SP} {τ : Nat → Nat → Int32} (hS : GW T S) (eb : S.1 8 7 = nI b) (hck : ck + 97 < 2 ^ 31) (hR : RM τ S ck) (hX : MX τ T) : Ev (d + 6) 67 0 [some (.ref 370), some (.int (nI f)), some (.int (nI k)), none, none] [] (sM M τ) (dmQ M (dmd T 97 (16 * f + k) S) (16 * f + k) b ck τ) := by
  have hTr : ∀ f, f < 6 → Rst 1 (T f) := fun f hf => (hT f hf).1
  refine m67s (rf := fun _ => false) hf hk hR ?_
  intro τ1 k1 k2 k3 k4 k5 k6
  have hc : 16 * f + k < 96 := by omega
  have hb96 := bad_96 (S := S)
  have h7 := (dmd_ok hTr (KI_r (q := 8) (k := 7) (by unfold KR; omega) (nI b)) hc 97 S hS eb)
  refine m67l hT hc 97 S τ1 ck _ hS (by omega) k1 k2 (MX_q (k6 _ (by omega) (by omega)) (k6 _ (by omega) (by omega)) hX) k3 (fun τ2 ck2 a1 a2 a3 a4 a5 => ?_)
  by_cases h1 : (dmd T 97 (16 * f + k) S).1 = 1
  · obtain ⟨b1, b2⟩ := a4 h1
    refine m67e b1 a1 (gd_in b2) (fun m hm => (h7.1.1 m hm).2.1) hb (by omega) h7.2 ?_
    intro τ3 c1 c2
    refine ⟨τ3, ck2 + 1, rfl, by omega, ⟨fun q h1 h2 => ?_, ?_⟩, Or.inl ⟨h1, rfl, ?_, c1⟩⟩
    · rw [c2.1 q h1 h2, a3.1 q h1 h2, k6 q h1 h2]
    · rw [c2.2 2 (by omega), a3.2 2 (by omega), k5]
    · rw [c2.2 0 (by omega), a3.2 0 (by omega), k4]
  · refine m67u (a5 h1) ⟨_, ck2, rfl, by omega, ⟨fun q h1 h2 => ?_, ?_⟩, Or.inr ⟨h1, rfl, u2_at, RM_n (RM_n a1 (by omega) (by omega)) (by omega) (by omega)⟩⟩
    · rw [u2_ne (by omega), u2_ne (by omega), a3.1 q h1 h2, k6 q h1 h2]
    · rw [u2_off (by omega), u2_off (by omega), a3.2 2 (by omega), k5]
