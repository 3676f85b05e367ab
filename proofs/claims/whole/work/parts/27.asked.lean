/-! Asking: the method does what is spoken of. -/
theorem ask1_ok {T : Nat → List Nat} {u : List Nat} {A : Nat → SP → Nat × SP} (h : AK T u A) {n : Nat} (hn : n < 96) {S : SP} (hS : GW T S) (t : List Nat) : (GW T (ask1 A t n S).2 ∧ ((ask1 A t n S).1 = 1 ∨ (ask1 A t n S).1 = 2 ∨ (ask1 A t n S).1 = 3 ∨ (ask1 A t n S).1 = 4)) ∧ ((ask1 A t n S).1 = 1 ∨ (ask1 A t n S).1 = 2 → ∀ m ∈ u, (ask1 A t n S).2.2.2 m = S.2.2 m) := by
  unfold ask1
  split
  · exact vfy_ok h hn _ S (hS.1 n hn).2.2 hS
  · exact ⟨⟨hS, Or.inr (Or.inl rfl)⟩, fun _ _ _ => rfl⟩
theorem WI0 (t : List Nat) (v : Int32) : WI t 0 (none, v, 0, []) := ⟨Nat.le_refl _, Nat.zero_le _, fun e he => by (cases he), fun r h => by cases h⟩
theorem ask2_ok {T : Nat → List Nat} {u : List Nat} {A : Nat → SP → Nat × SP} (h : AK T u A) {n : Nat} {t : List Nat} (hv9 : ∀ c ∈ t, ow c ≠ 9) {S0 : SP} (x : Nat × SP) (hx : (GW T x.2 ∧ (x.1 = 1 ∨ x.1 = 2 ∨ x.1 = 3 ∨ x.1 = 4)) ∧ (x.1 = 1 ∨ x.1 = 2 → ∀ m ∈ u, x.2.2.2 m = S0.2.2 m)) : (GW T (ask2 A t n x).2 ∧ ((ask2 A t n x).1 = 1 ∨ (ask2 A t n x).1 = 3 ∨ (ask2 A t n x).1 = 4)) ∧ ((ask2 A t n x).1 = 1 → ∀ m ∈ u, m ≠ n → (ask2 A t n x).2.2.2 m = S0.2.2 m) := by
  unfold ask2
  split
  · rename_i h2
    obtain ⟨k1, k2⟩ := rnW_ok h hv9 (key := n % 16) (n := n) 24 0 (wgo t (n % 16) 24 (none, 0, 0, [])) [] x.2 rfl hx.1.1 (wgo_inv hv9 24 _ (WI0 t 0)) (Nat.le_refl _) (fun r h => by cases h)
    exact ⟨k1, fun h9 m hm hm2 => (k2 h9 m hm hm2).trans (hx.2 (Or.inr h2) m hm)⟩
  · rename_i h2
    exact ⟨⟨hx.1.1, by omega⟩, fun h9 m hm _ => hx.2 (Or.inl h9) m hm⟩
theorem ask_ok {T : Nat → List Nat} (hT : ∀ f, f < 6 → Rst 1 (T f)) : ∀ (k : Nat) (u : List Nat), AK T u (ask T k u) := by
  intro k
  induction k with
  | zero =>
    intro u n S hn hS
    unfold ask
    split
    · exact ⟨⟨GW_cis _ S hS, Or.inr (Or.inl rfl)⟩, fun h => by (cases h)⟩
    · split
      · exact ⟨⟨hS, Or.inl rfl⟩, fun _ _ _ => rfl⟩
      · split
        · exact ⟨⟨GW_sk hS, Or.inl rfl⟩, fun _ _ _ => rfl⟩
        · exact ⟨⟨hS, Or.inr (Or.inr rfl)⟩, fun h => by (cases h)⟩
  | succ k ih =>
    intro u n S hn hS
    unfold ask
    split
    · exact ⟨⟨GW_cis _ S hS, Or.inr (Or.inl rfl)⟩, fun h => by (cases h)⟩
    · rename_i hnu
      split
      · exact ⟨⟨hS, Or.inl rfl⟩, fun _ _ _ => rfl⟩
      · split
        · exact ⟨⟨GW_sk hS, Or.inl rfl⟩, fun _ _ _ => rfl⟩
        · obtain ⟨k1, k2⟩ := ask2_ok (ih (u ++ [n])) (n := n) (Rst.val _ _ (hT (n / 16) (by omega))) _ (ask1_ok (ih (u ++ [n])) hn hS (T (n / 16)))
          unfold ask3
          split
          · rename_i h1
            exact ⟨⟨k1.1, Or.inl rfl⟩, fun _ m hm => k2 h1 m (by simp [hm]) (fun e => hnu (e ▸ hm))⟩
          · rename_i h1
            exact ⟨k1, fun h => absurd h h1⟩
theorem RC_n {σ : Nat → Nat → Int32} {S : SP} {q k : Nat} {x : Int32} (hq : q = 24 ∨ (q = 8 ∧ k = 10)) (h : RC σ S) : RC (u2 σ q k x) S := by
  obtain ⟨h1, h2, h3⟩ := h
  refine ⟨fun q' k' hq' => ?_, Ring_fr (u2_ne (by omega)) (u2_ne (by omega)) (u2_ne (by omega)) (u2_ne (by omega)) h2, fun n hn => ⟨?_, fun i hi => ?_⟩⟩
  · rw [u2_off (by unfold Dk at hq'; omega)]; exact h1 q' k' hq'
  · rw [u2_off (by omega)]; exact (h3 n hn).1
  · rw [u2_off (by omega)]; exact (h3 n hn).2 i hi
theorem UW_push {σ : Nat → Nat → Int32} {u : List Nat} {n : Nat} (h : UW σ u) : UW (u2 (u2 σ 24 u.length (nI n)) 8 10 (nI (u.length + 1))) (u ++ [n]) := by
  refine ⟨by rw [u2_at]; simp, fun i hi => ?_⟩
  rw [u2_off (by omega)]
  by_cases e : i = u.length
  · subst e; rw [u2_at]; simp [List.getD_eq_getElem?_getD]
  · have hi' : i < u.length := by simp at hi; omega
    rw [u2_off (Or.inr e), h.2 i hi']
    simp only [List.getD_eq_getElem?_getD]
    rw [List.getElem?_append_left hi']
theorem UW_pop {σ : Nat → Nat → Int32} {u : List Nat} {n : Nat} (h : UW σ (u ++ [n])) : UW (u2 σ 8 10 (nI u.length)) u := by
  refine ⟨u2_at, fun i hi => ?_⟩
  rw [u2_off (by omega), h.2 i (by simp; omega)]
  simp only [List.getD_eq_getElem?_getD]
  rw [List.getElem?_append_left hi]
section AS
variable {d : Nat} {M : pm_M} {T : Nat → List Nat} {u : List Nat}
theorem c25t {n : Nat} (hn : n < 96) (h20 : u.length < 20) {x : Nat × SP} {σ : Nat → Nat → Int32} {o2 : Int32} (hx : x.1 = 1 ∨ x.1 = 3 ∨ x.1 = 4) (hR : RC σ x.2) (hu : x.1 = 1 → UW σ (u ++ [n])) : Ev (d + 3) 25 103 [some (.ref 8), some (.int (nI n)), some (.int o2), some (.ref x.1)] [] (sC M σ) (fun q9 M' => ∃ v9, q9 = .inl v9 ∧ v9 = some (.ref (ask3 n x).1) ∧ ∃ σ', M' = sC M σ' ∧ RC σ' (ask3 n x).2 ∧ ((ask3 n x).1 = 1 → UW σ' u) ∧ FrK u.length σ σ') := by
  refine ev_aload_n t_25_103 rfl ?_
  refine ev_getstatic t_25_104 ?_
  refine ev_acmp_ne t_25_107 (by omega) (fun h_107 => ?_) (fun h_107 => ?_)
  · refine ev_aload_n t_25_128 rfl ?_
    exact ev_reta t_25_129 rfl ⟨_, rfl, by unfold ask3; rw [if_neg h_107], _, rfl, by unfold ask3; rw [if_neg h_107]; exact hR, (fun h => by unfold ask3 at h; rw [if_neg h_107] at h; exact absurd h h_107), FrK.rfl⟩
  · have hu1 := hu h_107
    have h10 : σ 8 10 = nI (u.length + 1) := by rw [hu1.1]; simp
    have hR1 : RC (u2 σ 8 10 (nI u.length)) x.2 := RC_n (Or.inr ⟨rfl, rfl⟩) hR
    obtain ⟨σ3, h3, hR3, hF3⟩ := c82 (d := d) (M := M) hn hR1.2.1
    have e3 : ask3 n x = (1, x.2.1, put x.2.2.1 n, x.2.2.2) := by unfold ask3; rw [if_pos h_107]
    refine ev_aload_n t_25_110 rfl ?_
    refine ev_dup t_25_111 rfl ?_
    refine es_get (x := .int (σ (8) 10)) o_MR t_25_112 rfl ?_
    refine ev_top (y := (nI (u.length + 1))) (by exact h10) ?_
    refine ev_iconst t_25_115 ?_
    change Ev _ _ _ _ ([.int (nI (1)), .int (nI (u.length + 1)), .ref 8]) _ _
    refine ev_isubN t_25_116 (by omega) ?_
    refine es_put o_MR t_25_117 rfl (Nat.le_of_ble_eq_true rfl) rfl ?_
    refine ev_aload_n t_25_120 rfl ?_
    refine es_get (x := .ref 20) o_MR t_25_121 rfl ?_
    refine ev_iload_n t_25_124 rfl ?_
    refine ev_cl (pm_st_V t_25_125 (as := [.ref 20, .int (nI (n))]) (rest := []) (L0 := [some (.ref 20), some (.int (nI (n))), none]) rfl rfl (Nat.le_of_ble_eq_true rfl) (Nat.le_of_ble_eq_true rfl) rfl (es_rc o_RO rfl (Nat.le_of_ble_eq_true rfl))) rfl (h3) ?_
    rintro _ _ ⟨rfl, rfl⟩
    change Ev _ _ _ _ ([]) _ _
    refine ev_aload_n t_25_128 rfl ?_
    exact ev_reta t_25_129 rfl ⟨_, rfl, by rw [e3, h_107], _, rfl, by rw [e3]; exact RC_o hF3 hR3 hR1, (fun _ => (FrA.fr hF3).uw (UW_pop hu1)), fun q ha hb => by rw [hF3 q (by omega), u2_ne (by omega)]⟩
theorem c25 (hT : ∀ f, f < 6 → Rst 1 (T f)) : ∀ (k : Nat) (u : List Nat), u.length + k = 20 → (∀ x ∈ u, x < 96) → HA M T (6 * k + 4) u (ask T k u) := by
  intro k
  induction k with
  | zero =>
    intro u hk hub n S σ hn hS hR hu
    have h20 : u.length = 20 := by omega
    have hl := (hS.1 n hn).1
    have cP := c26 (d := 3) (M := M) hn hu (by omega) hub
    by_cases hnu : n ∈ u
    · rw [if_pos hnu] at cP
      have hix := List.idxOf_lt_length_of_mem hnu
      have e : ask T 0 u n S = (3, (u.drop (u.idxOf n)).foldl ci1 S) := by unfold ask; rw [if_pos hnu]
      rw [e]
      refine ev_aload_n t_25_0 rfl ?_
      refine ev_iload_n t_25_1 rfl ?_
      refine ev_cl (pm_st_V t_25_2 (as := [.ref 8, .int (nI (n))]) (rest := []) (L0 := [some (.ref 8), some (.int (nI (n))), none]) rfl rfl (Nat.le_of_ble_eq_true rfl) (Nat.le_of_ble_eq_true rfl) rfl (es_rc o_MR rfl (Nat.le_of_ble_eq_true rfl))) rfl (cP) ?_
      rintro _ _ ⟨rfl, rfl⟩
      change Ev _ _ _ _ ([.int (nI (u.idxOf n))]) _ _
      refine ev_istore_n (L' := [some (.ref 8), some (.int (nI (n))), some (.int (nI (u.idxOf n))), none]) t_25_5 (Nat.le_of_ble_eq_true rfl) rfl ?_
      refine ev_iload_n t_25_6 rfl ?_
      refine ev_iconst t_25_7 ?_
      change Ev _ _ _ _ ([.int (-1), .int (nI (u.idxOf n))]) _ _
      refine ev_icmp_eq t_25_8 (fun h_8 => ?_) (fun h_8 => ?_)
      · exact absurd h_8 (nI_m1 (by omega))
      · refine ev_aload_n t_25_11 rfl ?_
        refine ev_iload_n t_25_12 rfl ?_
        refine ev_cl (pm_st_V t_25_13 (as := [.ref 8, .int (nI (u.idxOf n))]) (rest := []) (L0 := [some (.ref 8), some (.int (nI (u.idxOf n))), none, none, none]) rfl rfl (Nat.le_of_ble_eq_true rfl) (Nat.le_of_ble_eq_true rfl) rfl (es_rc o_MR rfl (Nat.le_of_ble_eq_true rfl))) rfl (c27 (by omega) hub (by omega) hR hu) ?_
        rintro _ _ ⟨rfl, σ1, rfl, h1, h2⟩
        change Ev _ _ _ _ ([]) _ _
        refine ev_getstatic t_25_16 ?_
        exact ev_reta t_25_19 rfl ⟨_, rfl, rfl, _, rfl, h1, (fun h => by cases h), FrK.of h2⟩
    · rw [if_neg hnu] at cP
      refine ev_aload_n t_25_0 rfl ?_
      refine ev_iload_n t_25_1 rfl ?_
      refine ev_cl (pm_st_V t_25_2 (as := [.ref 8, .int (nI (n))]) (rest := []) (L0 := [some (.ref 8), some (.int (nI (n))), none]) rfl rfl (Nat.le_of_ble_eq_true rfl) (Nat.le_of_ble_eq_true rfl) rfl (es_rc o_MR rfl (Nat.le_of_ble_eq_true rfl))) rfl (cP) ?_
      rintro _ _ ⟨rfl, rfl⟩
      change Ev _ _ _ _ ([.int (-1)]) _ _
      refine ev_istore_n (L' := [some (.ref 8), some (.int (nI (n))), some (.int (-1)), none]) t_25_5 (Nat.le_of_ble_eq_true rfl) rfl ?_
      refine ev_iload_n t_25_6 rfl ?_
      refine ev_iconst t_25_7 ?_
      change Ev _ _ _ _ ([.int (-1), .int (-1)]) _ _
      refine ev_icmp_eq t_25_8 (fun h_8 => ?_) (fun h_8 => ?_)
      · refine ev_aload_n t_25_20 rfl ?_
        refine ev_iload_n t_25_21 rfl ?_
        refine ev_cl (pm_st_V t_25_22 (as := [.ref 8, .int (nI (n))]) (rest := []) (L0 := [some (.ref 8), some (.int (nI (n)))]) rfl rfl (Nat.le_of_ble_eq_true rfl) (Nat.le_of_ble_eq_true rfl) rfl (es_rc o_MR rfl (Nat.le_of_ble_eq_true rfl))) rfl (c28 hn hR) ?_
        rintro _ _ ⟨rfl, rfl⟩
        change Ev _ _ _ _ ([.int (bI (gdB S n))]) _ _
        refine ev_if_ne (y := 0) t_25_25 (fun h_25 => ?_) (fun h_25 => ?_)
        · refine ev_getstatic t_25_36 ?_
          exact ev_reta t_25_39 rfl ⟨_, rfl, by rw [show ask T 0 u n S = (1, S) from by unfold ask; rw [if_neg hnu, if_pos (bI_1 h_25)]], _, rfl, by rw [show ask T 0 u n S = (1, S) from by unfold ask; rw [if_neg hnu, if_pos (bI_1 h_25)]]; exact hR, (fun _ => hu), FrK.rfl⟩
        · have h_25g : ¬ gdB S n = true := by rw [bI_0.mp (Decidable.byContradiction h_25)]; decide
          refine ev_aload_n t_25_28 rfl ?_
          refine ev_iload_n t_25_29 rfl ?_
          refine ev_cl (pm_st_V t_25_30 (as := [.ref 8, .int (nI (n))]) (rest := []) (L0 := [some (.ref 8), some (.int (nI (n))), none]) rfl rfl (Nat.le_of_ble_eq_true rfl) (Nat.le_of_ble_eq_true rfl) rfl (es_rc o_MR rfl (Nat.le_of_ble_eq_true rfl))) rfl (c29 hn hR hl) ?_
          rintro _ _ ⟨rfl, σ1, rfl, h1, h2⟩
          change Ev _ _ _ _ ([.int (bI (skB S n))]) _ _
          refine ev_if_eq (y := 0) t_25_33 (fun h_33 => ?_) (fun h_33 => ?_)
          · have hsk : ¬ skB S n = true := by rw [bI_0.mp h_33]; decide
            have hR1 : RC σ1 S := by rw [if_neg hsk] at h1; exact h1
            have hu1 := h2.uw hu
            refine ev_aload_n t_25_40 rfl ?_
            refine es_get (x := .int (σ1 (8) 10)) o_MR t_25_41 rfl ?_
            refine ev_top (y := (nI (u.length))) (by exact hu1.1) ?_
            refine ev_bipush t_25_44 ?_
            change Ev _ _ _ _ ([.int (nI (20)), .int (nI (u.length))]) _ _
            refine ev_icmp_ltN t_25_46 (by omega) (by omega) (fun h_46 => ?_) (fun h_46 => ?_)
            · omega
            · refine ev_getstatic t_25_49 ?_
              exact ev_reta t_25_52 rfl ⟨_, rfl, by rw [show ask T 0 u n S = (4, S) from by unfold ask; rw [if_neg hnu, if_neg (fun h => h_25g h), if_neg hsk]], _, rfl, by rw [show ask T 0 u n S = (4, S) from by unfold ask; rw [if_neg hnu, if_neg (fun h => h_25g h), if_neg hsk]]; exact hR1, (fun h => by rw [show ask T 0 u n S = (4, S) from by unfold ask; rw [if_neg hnu, if_neg (fun h => h_25g h), if_neg hsk]] at h; cases h), FrK.of h2⟩
          · refine ev_getstatic t_25_36 ?_
            exact ev_reta t_25_39 rfl ⟨_, rfl, by rw [show ask T 0 u n S = (1, doSk S n) from by unfold ask; rw [if_neg hnu, if_neg (fun h => h_25g h), if_pos (bI_1 h_33)]], _, rfl, by rw [show ask T 0 u n S = (1, doSk S n) from by unfold ask; rw [if_neg hnu, if_neg (fun h => h_25g h), if_pos (bI_1 h_33)]]; rw [if_pos (bI_1 h_33)] at h1; exact h1, (fun _ => h2.uw hu), FrK.of h2⟩
      · exact absurd rfl h_8
  | succ k ih =>
    intro u hk hub n S σ hn hS hR hu
    have h20 : u.length < 20 := by omega
    have hl := (hS.1 n hn).1
    have cP := c26 (d := 6 * k + 9) (M := M) hn hu (by omega) hub
    by_cases hnu : n ∈ u
    · rw [if_pos hnu] at cP
      have hix := List.idxOf_lt_length_of_mem hnu
      have e : ask T (k + 1) u n S = (3, (u.drop (u.idxOf n)).foldl ci1 S) := by unfold ask; rw [if_pos hnu]
      rw [e]
      refine ev_aload_n t_25_0 rfl ?_
      refine ev_iload_n t_25_1 rfl ?_
      refine ev_cl (pm_st_V t_25_2 (as := [.ref 8, .int (nI (n))]) (rest := []) (L0 := [some (.ref 8), some (.int (nI (n))), none]) rfl rfl (Nat.le_of_ble_eq_true rfl) (Nat.le_of_ble_eq_true rfl) rfl (es_rc o_MR rfl (Nat.le_of_ble_eq_true rfl))) rfl (cP) ?_
      rintro _ _ ⟨rfl, rfl⟩
      change Ev _ _ _ _ ([.int (nI (u.idxOf n))]) _ _
      refine ev_istore_n (L' := [some (.ref 8), some (.int (nI (n))), some (.int (nI (u.idxOf n))), none]) t_25_5 (Nat.le_of_ble_eq_true rfl) rfl ?_
      refine ev_iload_n t_25_6 rfl ?_
      refine ev_iconst t_25_7 ?_
      change Ev _ _ _ _ ([.int (-1), .int (nI (u.idxOf n))]) _ _
      refine ev_icmp_eq t_25_8 (fun h_8 => ?_) (fun h_8 => ?_)
      · exact absurd h_8 (nI_m1 (by omega))
      · refine ev_aload_n t_25_11 rfl ?_
        refine ev_iload_n t_25_12 rfl ?_
        refine ev_cl (pm_st_V t_25_13 (as := [.ref 8, .int (nI (u.idxOf n))]) (rest := []) (L0 := [some (.ref 8), some (.int (nI (u.idxOf n))), none, none, none]) rfl rfl (Nat.le_of_ble_eq_true rfl) (Nat.le_of_ble_eq_true rfl) rfl (es_rc o_MR rfl (Nat.le_of_ble_eq_true rfl))) rfl (c27 (by omega) hub (by omega) hR hu) ?_
        rintro _ _ ⟨rfl, σ1, rfl, h1, h2⟩
        change Ev _ _ _ _ ([]) _ _
        refine ev_getstatic t_25_16 ?_
        exact ev_reta t_25_19 rfl ⟨_, rfl, rfl, _, rfl, h1, (fun h => by cases h), FrK.of h2⟩
    · rw [if_neg hnu] at cP
      have hub' : ∀ x ∈ u ++ [n], x < 96 := fun x hx => by
        rcases List.mem_append.mp hx with h | h
        · exact hub x h
        · simp at h; omega
      have hA := ih (u ++ [n]) (by simp; omega) hub'
      have hK := ask_ok hT k (u ++ [n])
      have o1 := ask1_ok hK hn hS (T (n / 16))
      have o2 := ask2_ok hK (n := n) (Rst.val _ _ (hT (n / 16) (by omega))) _ o1
      have hlen : (u ++ [n]).length = u.length + 1 := by simp
      refine ev_aload_n t_25_0 rfl ?_
      refine ev_iload_n t_25_1 rfl ?_
      refine ev_cl (pm_st_V t_25_2 (as := [.ref 8, .int (nI (n))]) (rest := []) (L0 := [some (.ref 8), some (.int (nI (n))), none]) rfl rfl (Nat.le_of_ble_eq_true rfl) (Nat.le_of_ble_eq_true rfl) rfl (es_rc o_MR rfl (Nat.le_of_ble_eq_true rfl))) rfl (cP) ?_
      rintro _ _ ⟨rfl, rfl⟩
      change Ev _ _ _ _ ([.int (-1)]) _ _
      refine ev_istore_n (L' := [some (.ref 8), some (.int (nI (n))), some (.int (-1)), none]) t_25_5 (Nat.le_of_ble_eq_true rfl) rfl ?_
      refine ev_iload_n t_25_6 rfl ?_
      refine ev_iconst t_25_7 ?_
      change Ev _ _ _ _ ([.int (-1), .int (-1)]) _ _
      refine ev_icmp_eq t_25_8 (fun h_8 => ?_) (fun h_8 => ?_)
      · refine ev_aload_n t_25_20 rfl ?_
        refine ev_iload_n t_25_21 rfl ?_
        refine ev_cl (pm_st_V t_25_22 (as := [.ref 8, .int (nI (n))]) (rest := []) (L0 := [some (.ref 8), some (.int (nI (n)))]) rfl rfl (Nat.le_of_ble_eq_true rfl) (Nat.le_of_ble_eq_true rfl) rfl (es_rc o_MR rfl (Nat.le_of_ble_eq_true rfl))) rfl (c28 hn hR) ?_
        rintro _ _ ⟨rfl, rfl⟩
        change Ev _ _ _ _ ([.int (bI (gdB S n))]) _ _
        refine ev_if_ne (y := 0) t_25_25 (fun h_25 => ?_) (fun h_25 => ?_)
        · refine ev_getstatic t_25_36 ?_
          exact ev_reta t_25_39 rfl ⟨_, rfl, by rw [show ask T (k + 1) u n S = (1, S) from by unfold ask; rw [if_neg hnu, if_pos (bI_1 h_25)]], _, rfl, by rw [show ask T (k + 1) u n S = (1, S) from by unfold ask; rw [if_neg hnu, if_pos (bI_1 h_25)]]; exact hR, (fun _ => hu), FrK.rfl⟩
        · have h_25g : ¬ gdB S n = true := by rw [bI_0.mp (Decidable.byContradiction h_25)]; decide
          refine ev_aload_n t_25_28 rfl ?_
          refine ev_iload_n t_25_29 rfl ?_
          refine ev_cl (pm_st_V t_25_30 (as := [.ref 8, .int (nI (n))]) (rest := []) (L0 := [some (.ref 8), some (.int (nI (n))), none]) rfl rfl (Nat.le_of_ble_eq_true rfl) (Nat.le_of_ble_eq_true rfl) rfl (es_rc o_MR rfl (Nat.le_of_ble_eq_true rfl))) rfl (c29 hn hR hl) ?_
          rintro _ _ ⟨rfl, σ1, rfl, h1, h2⟩
          change Ev _ _ _ _ ([.int (bI (skB S n))]) _ _
          refine ev_if_eq (y := 0) t_25_33 (fun h_33 => ?_) (fun h_33 => ?_)
          · have hsk : ¬ skB S n = true := by rw [bI_0.mp h_33]; decide
            have hR1 : RC σ1 S := by rw [if_neg hsk] at h1; exact h1
            have hu1 := h2.uw hu
            refine ev_aload_n t_25_40 rfl ?_
            refine es_get (x := .int (σ1 (8) 10)) o_MR t_25_41 rfl ?_
            refine ev_top (y := (nI (u.length))) (by first | exact hu1.1 | (rw [u2_off (by omega)]; exact hu1.1)) ?_
            refine ev_bipush t_25_44 ?_
            change Ev _ _ _ _ ([.int (nI (20)), .int (nI (u.length))]) _ _
            refine ev_icmp_ltN t_25_46 (by omega) (by omega) (fun h_46 => ?_) (fun h_46 => ?_)
            · have hR3 : RC (u2 (u2 σ1 24 u.length (nI n)) 8 10 (nI (u.length + 1))) S := RC_n (Or.inr ⟨rfl, rfl⟩) (RC_n (Or.inl rfl) hR1)
              have hu3 := UW_push (n := n) hu1
              have hK3 : FrK u.length σ (u2 (u2 σ1 24 u.length (nI n)) 8 10 (nI (u.length + 1))) := fun q ha hb => by rw [u2_ne (by omega), u2_ne (by omega)]; exact h2.1 q (Or.inr ha)
              have e9 : ask T (k + 1) u n S = ask3 n (ask2 (ask T k (u ++ [n])) (T (n / 16)) n (ask1 (ask T k (u ++ [n])) (T (n / 16)) n S)) := by rw [ask, if_neg hnu, if_neg h_25g, if_neg hsk]
              rw [e9]
              have cV := c30 hA hK hn (by simp) (T (n / 16)) hS hR3 hu3
              refine ev_aload_n t_25_53 rfl ?_
              refine es_get (x := .ref 24) o_MR t_25_54 rfl ?_
              refine ev_aload_n t_25_57 rfl ?_
              refine es_get (x := .int (σ1 (8) 10)) o_MR t_25_58 rfl ?_
              refine ev_top (y := (nI (u.length))) (by first | exact hu1.1 | (rw [u2_off (by omega)]; exact hu1.1)) ?_
              refine ev_iload_n t_25_61 rfl ?_
              refine es_iast (k := u.length) a_uw t_25_62 (by omega) ?_
              refine ev_aload_n t_25_63 rfl ?_
              refine ev_dup t_25_64 rfl ?_
              refine es_get (x := .int ((u2 σ1 (24) (u.length) (nI (n))) (8) 10)) o_MR t_25_65 rfl ?_
              refine ev_top (y := (nI (u.length))) (by first | exact hu1.1 | (rw [u2_off (by omega)]; exact hu1.1)) ?_
              refine ev_iconst t_25_68 ?_
              change Ev _ _ _ _ ([.int (nI (1)), .int (nI (u.length)), .ref 8]) _ _
              refine ev_iaddN t_25_69 ?_
              refine es_put o_MR t_25_70 rfl (Nat.le_of_ble_eq_true rfl) rfl ?_
              refine ev_aload_n t_25_73 rfl ?_
              refine ev_iload_n t_25_74 rfl ?_
              refine ev_cl (pm_st_V t_25_75 (as := [.ref 8, .int (nI (n))]) (rest := []) (L0 := [some (.ref 8), some (.int (nI (n))), none, none, none, none]) rfl rfl (Nat.le_of_ble_eq_true rfl) (Nat.le_of_ble_eq_true rfl) rfl (es_rc o_MR rfl (Nat.le_of_ble_eq_true rfl))) rfl (ev_deep 2 cV) ?_
              rintro _ _ ⟨rfl, σ4, rfl, r1, r2, r3⟩
              change Ev _ _ _ _ ([.ref ((ask1 (ask T k (u ++ [n])) (T (n / 16)) n S).1)]) _ _
              refine ev_astore_n (L' := [some (.ref 8), some (.int (nI (n))), some (.int (-1)), some (.ref ((ask1 (ask T k (u ++ [n])) (T (n / 16)) n S).1))]) t_25_78 (Nat.le_of_ble_eq_true rfl) rfl ?_
              refine ev_aload_n t_25_79 rfl ?_
              refine ev_getstatic t_25_80 ?_
              refine ev_acmp_ne t_25_83 (by omega) (fun h_83 => ?_) (fun h_83 => ?_)
              · have e8 : ask2 (ask T k (u ++ [n])) (T (n / 16)) n (ask1 (ask T k (u ++ [n])) (T (n / 16)) n S) = (ask1 (ask T k (u ++ [n])) (T (n / 16)) n S) := by unfold ask2; rw [if_neg h_83]
                rw [e8] at o2 ⊢
                refine ev_mono (c25t (d := 6 * (k + 1) + 1) hn h20 o2.1.2 r1 (fun h => r2 (Or.inl h))) ?_
                rintro r9 M9 ⟨v9, e1, e2, σ', e3, k1, k2, k3⟩
                exact ⟨v9, e1, e2, σ', e3, k1, k2, hK3.trans ((r3.less (by omega)).trans k3)⟩
              · have hst : (ask1 (ask T k (u ++ [n])) (T (n / 16)) n S).1 = 2 := h_83
                have ex : (ask1 (ask T k (u ++ [n])) (T (n / 16)) n S) = (2, (ask1 (ask T k (u ++ [n])) (T (n / 16)) n S).2) := Prod.ext hst rfl
                have hu4 := r2 (Or.inr hst)
                have h10 : σ4 8 10 = nI (u.length + 1) := by rw [hu4.1, hlen]
                rw [ex] at o2 ⊢
                have cR := c31 hA hK hn (wp := 230 + 7 * (u.length + 1 - 1)) ⟨u.length, by omega, rfl⟩ (by rw [hlen]; omega) (hT (n / 16) (by omega)) o1.1.1 r1 hu4
                refine ev_aload_n t_25_86 rfl ?_
                refine ev_iload_n t_25_87 rfl ?_
                refine ev_aload_n t_25_88 rfl ?_
                refine es_get (x := .ref 25) o_MR t_25_89 rfl ?_
                refine ev_aload_n t_25_92 rfl ?_
                refine es_get (x := .int (σ4 (8) 10)) o_MR t_25_93 rfl ?_
                refine ev_top (y := (nI (u.length + 1))) (by exact h10) ?_
                refine ev_iconst t_25_96 ?_
                change Ev _ _ _ _ ([.int (nI (1)), .int (nI (u.length + 1)), .ref 25, .int (nI (n)), .ref 8]) _ _
                refine ev_isubN t_25_97 (by omega) ?_
                refine es_rald (k := (u.length + 1) - (1)) (x := .ref (230 + 7 * ((u.length + 1) - (1)))) r_WA t_25_98 (by omega) rfl ?_
                refine ev_cl (pm_st_V t_25_99 (as := [.ref 8, .int (nI (n)), .ref (230 + 7 * ((u.length + 1) - (1)))]) (rest := []) (L0 := [some (.ref 8), some (.int (nI (n))), some (.ref (230 + 7 * ((u.length + 1) - (1)))), none, none]) rfl rfl (Nat.le_of_ble_eq_true rfl) (Nat.le_of_ble_eq_true rfl) rfl (es_rc o_MR rfl (Nat.le_of_ble_eq_true rfl))) rfl (cR) ?_
                rintro _ _ ⟨rfl, σ5, rfl, s1, s2, s3⟩
                change Ev _ _ _ _ ([.ref ((ask2 (ask T k (u ++ [n])) (T (n / 16)) n (2, (ask1 (ask T k (u ++ [n])) (T (n / 16)) n S).2)).1)]) _ _
                refine ev_astore_n (L' := [some (.ref 8), some (.int (nI (n))), some (.int (-1)), some (.ref ((ask2 (ask T k (u ++ [n])) (T (n / 16)) n (2, (ask1 (ask T k (u ++ [n])) (T (n / 16)) n S).2)).1))]) t_25_102 (Nat.le_of_ble_eq_true rfl) rfl ?_
                refine ev_mono (c25t (d := 6 * (k + 1) + 1) hn h20 o2.1.2 s1 s2) ?_
                rintro r9 M9 ⟨v9, e1, e2, σ', e3, k1, k2, k3⟩
                exact ⟨v9, e1, e2, σ', e3, k1, k2, hK3.trans ((r3.less (by omega)).trans ((s3.less (by omega)).trans k3))⟩
            · omega
          · refine ev_getstatic t_25_36 ?_
            exact ev_reta t_25_39 rfl ⟨_, rfl, by rw [show ask T (k + 1) u n S = (1, doSk S n) from by unfold ask; rw [if_neg hnu, if_neg (fun h => h_25g h), if_pos (bI_1 h_33)]], _, rfl, by rw [show ask T (k + 1) u n S = (1, doSk S n) from by unfold ask; rw [if_neg hnu, if_neg (fun h => h_25g h), if_pos (bI_1 h_33)]]; rw [if_pos (bI_1 h_33)] at h1; exact h1, (fun _ => h2.uw hu), FrK.of h2⟩
      · exact absurd rfl h_8
end AS
