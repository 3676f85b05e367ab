/-! Running a cell. -/
/-- so many expressions stand here, and nothing else -/
def Rst : Nat → List Nat → Prop
  | D, [] => D = 0
  | D, c :: l => D ≠ 0 ∧ ow c ≠ 9 ∧ Rst (D + ow c - 1) l
theorem Rst.val : ∀ (l : List Nat) (D : Nat), Rst D l → ∀ c ∈ l, ow c ≠ 9 := by
  intro l
  induction l with
  | nil => intro D _ c hc; cases hc
  | cons x l ih =>
    intro D h c hc
    rcases List.mem_cons.mp hc with rfl | hc
    · exact h.2.1
    · exact ih _ h.2.2 c hc
theorem wgo_v {t : List Nat} {key : Nat} : ∀ (n a D : Nat) (s : List SE) (v v' : Int32), Rst D (t.drop a) → D ≠ 0 → t.length ≤ n + a → wgo t key n (none, v, a, s) = wgo t key n (none, v', a, s) := by
  intro n
  induction n with
  | zero =>
    intro a D s v v' h hD hl
    rw [List.drop_eq_nil_of_le (by omega)] at h
    exact absurd h hD
  | succ n ih =>
    intro a D s v v' h hD hl
    have hal : a < t.length := by
      refine Decidable.byContradiction fun e => ?_
      rw [List.drop_eq_nil_of_le (by omega)] at h
      exact hD h
    rw [wgo, wgo]
    rw [if_pos ⟨rfl, hal⟩, if_pos ⟨rfl, hal⟩]
    rw [drop_at hal] at h
    unfold stp
    dsimp only
    split
    · rfl
    · rename_i h0
      exact ih (a + 1) _ _ v v' h.2.2 (by omega) (by omega)
theorem RC_w {p : Nat} {σ σ' : Nat → Nat → Int32} {S : SP} (hF : FrW p σ σ') (hp : 230 ≤ p) (h : RC σ S) : RC σ' S := by
  obtain ⟨h1, h2, h3⟩ := h
  refine ⟨fun q k hq => ?_, Ring_fr (hF _ (by omega)) (hF _ (by omega)) (hF _ (by omega)) (hF _ (by omega)) h2, fun n hn => ⟨?_, fun i hi => ?_⟩⟩
  · rw [hF q (by unfold Dk at hq; omega)]; exact h1 q k hq
  · rw [hF _ (by omega)]; exact (h3 n hn).1
  · rw [hF _ (by omega)]; exact (h3 n hn).2 i hi
theorem UW_w {p : Nat} {σ σ' : Nat → Nat → Int32} {u : List Nat} (hF : FrW p σ σ') (hp : 230 ≤ p) (h : UW σ u) : UW σ' u := by
  unfold UW
  rw [hF 8 (by omega), hF 24 (by omega)]
  exact h
theorem FrK.w {p m : Nat} {σ σ' : Nat → Nat → Int32} (hF : FrW p σ σ') (hp : 230 + 7 * m ≤ p) : FrK m σ σ' := fun q _ h => hF q (by omega)
theorem WKs_fr {p tp key : Nat} {rd : List Nat} {w : WS} {σ σ' : Nat → Nat → Int32} (h : ∀ q, p ≤ q → q ≤ p + 6 → σ' q = σ q) (hK : WKs σ p tp rd key w) : WKs σ' p tp rd key w := by
  unfold WKs WK at hK ⊢
  obtain ⟨g1, g2, g3, g4, g5, g6, g7, g8⟩ := hK
  rw [h p (by omega) (by omega), h (p + 1) (by omega) (by omega)]
  exact ⟨g1, g2, g3, g4, g5, g6, g7, SR_fr _ (fun j _ => by rw [h (p + 4) (by omega) (by omega), h (p + 5) (by omega) (by omega), h (p + 6) (by omega) (by omega)]; exact ⟨rfl, rfl, rfl⟩) g8⟩
theorem RC_txt {T : Nat → List Nat} {σ : Nat → Nat → Int32} {S : SP} {f : Nat} (hf : f < 6) (hS : GW T S) (hR : RC σ S) : Txt σ (26 + 2 * f) (T f) := by
  have h := hS.2.2 f hf
  unfold Txt at h ⊢
  rw [hR.1 (26 + 2 * f) 1 (by unfold Dk; omega)]
  exact ⟨h.1, h.2.1, h.2.2.1, fun i hi => by rw [hR.1 (26 + 2 * f + 1) i (by unfold Dk; omega)]; exact h.2.2.2 i hi⟩
theorem kp_811 {S : SP} {n : Nat} {v : Int32} {rd : List Nat} : (kpS S n v rd).1 8 11 = S.1 8 11 := by
  unfold kpS kpG
  dsimp only
  rw [u2_off (by omega), u2_off (by omega), u2_off (by omega), u2_off (by omega)]
  split
  · rfl
  · rw [u2_off (by omega)]
theorem nte_len (rd : List Nat) (r : Nat) : (nte rd r).length ≤ rd.length + 1 := by
  unfold nte
  split <;> simp
theorem nte_mem {rd : List Nat} {r : Nat} (h : ∀ x ∈ rd, RdOk x) (hr : RdOk r) : ∀ x ∈ nte rd r, RdOk x := by
  unfold nte
  split
  · exact h
  · intro x hx
    rcases List.mem_append.mp hx with h' | h'
    · exact h x h'
    · simp at h'; rw [h']; exact hr
theorem wtk_inv {t : List Nat} {i : Nat} {w : WS} {x : Int32} {r : Nat} (h : WI t i w) (hw : w.1 = some r) : WI t (i + 1) (wtk t w x) := by
  obtain ⟨wd, v, a, s⟩ := w
  dsimp only at hw
  subst hw
  obtain ⟨h1, h2, h3, -⟩ := h
  dsimp only at h1 h2 h3
  exact hnd_inv s a x (by omega) h2 h3
theorem rnW_ok {T : Nat → List Nat} {u : List Nat} {A : Nat → SP → Nat × SP} (h : AK T u A) {t : List Nat} (hv9 : ∀ c ∈ t, ow c ≠ 9) {key n : Nat} : ∀ (k i : Nat) (w : WS) (rd : List Nat) (S : SP), i + k = 24 → GW T S → WI t i w → rd.length ≤ i → (∀ r ∈ rd, RdOk r) → (GW T (rnW A t key n k w rd S).2 ∧ ((rnW A t key n k w rd S).1 = 1 ∨ (rnW A t key n k w rd S).1 = 3 ∨ (rnW A t key n k w rd S).1 = 4)) ∧ ((rnW A t key n k w rd S).1 = 1 → ∀ m ∈ u, m ≠ n → (rnW A t key n k w rd S).2.2.2 m = S.2.2 m) := by
  have hdone : ∀ (S : SP) (v : Int32) (rd : List Nat) (m : Nat), m ≠ n → (kpE S n v rd).2.2 m = S.2.2 m := fun S v rd m hm => by
    show (if m = n then rd else S.2.2 m) = _
    rw [if_neg hm]
  intro k
  induction k with
  | zero => intro i w rd S hi hS hI hl hr; exact ⟨⟨GW_kp hS (by omega) hr, Or.inl rfl⟩, fun _ m _ hm => hdone _ _ _ m hm⟩
  | succ k ih =>
    intro i w rd S hi hS hI hl hr
    obtain ⟨wd, v, a, s⟩ := w
    cases wd with
    | none => exact ⟨⟨GW_kp hS (by omega) hr, Or.inl rfl⟩, fun _ m _ hm => hdone _ _ _ m hm⟩
    | some r =>
      have hro := hI.2.2.2 r rfl
      obtain ⟨⟨g1, g2⟩, g3⟩ := AK_r h hro hS
      simp only [rnW]
      split
      · exact ⟨⟨g1, g2⟩, fun h9 => by omega⟩
      · rename_i h1
        have h1 : (askR A r S).1 = 1 := Decidable.byContradiction h1
        have hn := nte_len rd r
        obtain ⟨k1, k2⟩ := ih (i + 1) (wgo t key 24 (wtk t (some r, v, a, s) (vaO (askR A r S).2.1 r))) (nte rd r) (askR A r S).2 (by omega) g1 (wgo_inv hv9 24 _ (wtk_inv hI rfl)) (by omega) (nte_mem hr hro)
        exact ⟨k1, fun h9 m hm hm2 => (k2 h9 m hm hm2).trans (g3 h1 m hm)⟩
section RN
variable {d : Nat} {M : pm_M} {T : Nat → List Nat} {u : List Nat} {A : Nat → SP → Nat × SP}
theorem c31e {σ : Nat → Nat → Int32} {S : SP} {n wp tp key : Nat} {rd : List Nat} {w : WS} {o3 o4 : Option Value} (hn : n < 96) (hp : isWo wp) (hR : RC σ S) (hK : WKs σ wp tp rd key w) (h24 : rd.length ≤ 24) (hr : ∀ r ∈ rd, RdOk r) : Ev (d + 5) 31 80 [some (.ref 8), some (.int (nI n)), some (.ref wp), o3, o4] [] (sC M σ) (fun q9 M' => ∃ v9, q9 = .inl v9 ∧ v9 = some (.ref 1) ∧ ∃ σ', M' = sC M σ' ∧ RC σ' (kpE S n w.2.1 rd) ∧ FrA σ σ') := by
  have hc := c32 (d := d) (M := M) hn hp hR hK h24 hr
  refine ev_aload_n t_31_80 rfl ?_
  refine ev_iload_n t_31_81 rfl ?_
  refine ev_aload_n t_31_82 rfl ?_
  refine ev_cl (pm_st_V t_31_83 (as := [.ref 8, .int (nI (n)), .ref wp]) (rest := []) (L0 := [some (.ref 8), some (.int (nI (n))), some (.ref wp), none]) rfl rfl (Nat.le_of_ble_eq_true rfl) (Nat.le_of_ble_eq_true rfl) rfl (es_rc o_MR rfl (Nat.le_of_ble_eq_true rfl))) rfl (ev_deep 1 hc) ?_
  rintro _ _ ⟨rfl, σ1, rfl, h1, h2⟩
  change Ev _ _ _ _ ([]) _ _
  refine ev_aload_n t_31_86 rfl ?_
  refine ev_dup t_31_87 rfl ?_
  refine es_get (x := .int (σ1 (8) 11)) o_MR t_31_88 rfl ?_
  refine ev_top (y := (S.1 8 11)) ((h1.1 8 11 (by unfold Dk; omega)).trans kp_811) ?_
  refine ev_iconst t_31_91 ?_
  change Ev _ _ _ _ ([.int (nI (1)), .int (S.1 8 11), .ref 8]) _ _
  refine ev_iadd t_31_92 ?_
  refine es_put o_MR t_31_93 rfl (Nat.le_of_ble_eq_true rfl) rfl ?_
  refine ev_getstatic t_31_96 ?_
  exact ev_reta t_31_99 rfl ⟨_, rfl, rfl, _, rfl, RC_u (by unfold Dk; omega) h1, h2.trans (FrA.u (by unfold Dk; omega))⟩
theorem c31l (hA : HA M T d u A) (hK : AK T u A) {n wp f key : Nat} (hn : n < 96) (hp : isWo wp) (hwp : wp + 7 = 230 + 7 * u.length) (hf : f < 6) (hv9 : ∀ c ∈ T f, ow c ≠ 9) : ∀ (k i : Nat) (w : WS) (rd : List Nat) (S : SP) (σ : Nat → Nat → Int32) (o4 : Option Value), i + k = 24 → GW T S → RC σ S → UW σ u → WKs σ wp (26 + 2 * f) rd key w → WI (T f) i w → rd.length ≤ i → (∀ r ∈ rd, RdOk r) → Ev (d + 5) 31 23 [some (.ref 8), some (.int (nI n)), some (.ref wp), some (.int (nI i)), o4] [] (sC M σ) (fun q9 M' => ∃ v9, q9 = .inl v9 ∧ v9 = some (.ref (rnW A (T f) key n k w rd S).1) ∧ ∃ σ', M' = sC M σ' ∧ RC σ' (rnW A (T f) key n k w rd S).2 ∧ ((rnW A (T f) key n k w rd S).1 = 1 → UW σ' u) ∧ FrK (u.length - 1) σ σ') := by
  have hp2 : 230 ≤ wp := by obtain ⟨w, hw, rfl⟩ := hp; omega
  have hul : 0 < u.length := by omega
  intro k
  induction k with
  | zero =>
    intro i w rd S σ o4 hi hS hR hu hW hI hl hr
    obtain rfl : i = 24 := by omega
    have hx := c31e (d := d) (M := M) (o3 := some (.int (nI 24))) (o4 := o4) hn hp hR hW (by omega) hr
    refine ev_iload_n t_31_23 rfl ?_
    refine ev_bipush t_31_24 ?_
    change Ev _ _ _ _ ([.int (nI (24)), .int (nI (24))]) _ _
    refine ev_icmp_geN t_31_26 (by omega) (by omega) (fun h_26 => ?_) (fun h_26 => ?_)
    · refine ev_mono hx ?_
      rintro r9 M9 ⟨v9, e1, e2, σ', e3, k1, k2⟩
      exact ⟨v9, e1, e2, σ', e3, k1, fun _ => k2.uw hu, FrK.of k2⟩
    · omega
  | succ k ih =>
    intro i w rd S σ o4 hi hS hR hu hW hI hl hr
    obtain ⟨wd, v, a, s⟩ := w
    have h0 : σ wp 0 = wI wd := hW.2.1
    cases wd with
    | none =>
      have hx := c31e (d := d) (M := M) (o3 := some (.int (nI i))) (o4 := o4) hn hp hR hW (by omega) hr
      refine ev_iload_n t_31_23 rfl ?_
      refine ev_bipush t_31_24 ?_
      change Ev _ _ _ _ ([.int (nI (24)), .int (nI (i))]) _ _
      refine ev_icmp_geN t_31_26 (by omega) (by omega) (fun h_26 => ?_) (fun h_26 => ?_)
      · omega
      · refine ev_aload_n t_31_29 rfl ?_
        refine es_get (x := .int (σ (wp) 0)) (o_Wop hp) t_31_30 rfl ?_
        refine ev_top (y := (-1)) (by exact h0) ?_
        refine ev_iconst t_31_33 ?_
        change Ev _ _ _ _ ([.int (-1), .int (-1)]) _ _
        refine ev_icmp_eq t_31_34 (fun h_34 => ?_) (fun h_34 => ?_)
        · refine ev_mono hx ?_
          rintro r9 M9 ⟨v9, e1, e2, σ', e3, k1, k2⟩
          exact ⟨v9, e1, e2, σ', e3, k1, fun _ => k2.uw hu, FrK.of k2⟩
        · exact absurd rfl h_34
    | some r =>
      have hro := hI.2.2.2 r rfl
      have hr256 := hro.lt
      obtain ⟨⟨g1, g2⟩, g3⟩ := AK_r hK hro hS
      have hc := c33 hA hro hS hR hu
      have hnl := nte_len rd r
      refine ev_iload_n t_31_23 rfl ?_
      refine ev_bipush t_31_24 ?_
      change Ev _ _ _ _ ([.int (nI (24)), .int (nI (i))]) _ _
      refine ev_icmp_geN t_31_26 (by omega) (by omega) (fun h_26 => ?_) (fun h_26 => ?_)
      · omega
      · refine ev_aload_n t_31_29 rfl ?_
        refine es_get (x := .int (σ (wp) 0)) (o_Wop hp) t_31_30 rfl ?_
        refine ev_top (y := (nI (r))) (by first | exact h0 | exact h0b) ?_
        refine ev_iconst t_31_33 ?_
        change Ev _ _ _ _ ([.int (-1), .int (nI (r))]) _ _
        refine ev_icmp_eq t_31_34 (fun h_34 => ?_) (fun h_34 => ?_)
        · exact absurd h_34 (nI_m1 (by omega))
        · refine ev_aload_n t_31_37 rfl ?_
          refine ev_aload_n t_31_38 rfl ?_
          refine es_get (x := .int (σ (wp) 0)) (o_Wop hp) t_31_39 rfl ?_
          refine ev_top (y := (nI (r))) (by first | exact h0 | exact h0b) ?_
          refine ev_cl (pm_st_V t_31_42 (as := [.ref 8, .int (nI (r))]) (rest := []) (L0 := [some (.ref 8), some (.int (nI (r)))]) rfl rfl (Nat.le_of_ble_eq_true rfl) (Nat.le_of_ble_eq_true rfl) rfl (es_rc o_MR rfl (Nat.le_of_ble_eq_true rfl))) rfl (ev_deep 3 hc) ?_
          rintro _ _ ⟨rfl, σ1, rfl, h1, h2, h3⟩
          change Ev _ _ _ _ ([.ref ((askR A r S).1)]) _ _
          refine ev_astore (L' := [some (.ref 8), some (.int (nI (n))), some (.ref wp), some (.int (nI (i))), some (.ref ((askR A r S).1))]) t_31_45 (Nat.le_of_ble_eq_true rfl) rfl ?_
          refine ev_aload t_31_47 rfl ?_
          refine ev_getstatic t_31_49 ?_
          refine ev_acmp_eq t_31_52 (by omega) (fun h_52 => ?_) (fun h_52 => ?_)
          · have hW1 := WKs_fr (σ' := σ1) (fun q ha hb => h3 q (by omega) (by omega)) hW
            have h0b : σ1 wp 0 = nI r := hW1.2.1
            have hT1 := RC_txt hf g1 h1
            refine ev_aload_n t_31_58 rfl ?_
            refine ev_aload_n t_31_59 rfl ?_
            refine ev_aload_n t_31_60 rfl ?_
            refine es_get (x := .int (σ1 (wp) 0)) (o_Wop hp) t_31_61 rfl ?_
            refine ev_top (y := (nI (r))) (by first | exact h0 | exact h0b) ?_
            refine ev_cl (pm_st_V t_31_64 (as := [.ref 8, .int (nI (r))]) (rest := [.ref wp]) (L0 := [some (.ref 8), some (.int (nI (r)))]) rfl rfl (Nat.le_of_ble_eq_true rfl) (Nat.le_of_ble_eq_true rfl) rfl (es_rc o_MR rfl (Nat.le_of_ble_eq_true rfl))) rfl (c35 hro h1) ?_
            rintro _ _ ⟨rfl, rfl⟩
            change Ev _ _ _ _ ([.int (vaO (askR A r S).2.1 r), .ref wp]) _ _
            refine ev_cl (pm_st_V t_31_67 (as := [.ref wp, .int (vaO (askR A r S).2.1 r)]) (rest := []) (L0 := [some (.ref wp), some (.int (vaO (askR A r S).2.1 r))]) rfl rfl (Nat.le_of_ble_eq_true rfl) (Nat.le_of_ble_eq_true rfl) rfl (es_rc (o_Wop hp) rfl (Nat.le_of_ble_eq_true rfl))) rfl (c96 hp (Or.inr (Or.inl ⟨f, hf, rfl⟩)) (by omega) hv9 hT1 hW1 hI rfl (fun x hx => (hr x hx).lt) (by omega)) ?_
            rintro _ _ ⟨rfl, σ2, rfl, hF2, hW2⟩
            change Ev _ _ _ _ ([]) _ _
            refine ev_aload_n t_31_70 rfl ?_
            refine ev_cl (pm_st_V t_31_71 (as := [.ref wp]) (rest := []) (L0 := [some (.ref wp), none, none]) rfl rfl (Nat.le_of_ble_eq_true rfl) (Nat.le_of_ble_eq_true rfl) rfl (es_rc (o_Wop hp) rfl (Nat.le_of_ble_eq_true rfl))) rfl (c95 hp (Or.inr (Or.inl ⟨f, hf, rfl⟩)) (by omega) hv9 (hF2.txt (by omega) hT1) hW2 (wtk_inv hI rfl)) ?_
            rintro _ _ ⟨rfl, σ3, rfl, hF3, hW3⟩
            change Ev _ _ _ _ ([]) _ _
            refine ev_iincN (L' := [some (.ref 8), some (.int (nI (n))), some (.ref wp), some (.int (nI (i + 1))), some (.ref ((askR A r S).1))]) t_31_74 rfl (Nat.le_of_ble_eq_true rfl) rfl ?_
            refine ev_goto t_31_77 ?_
            have q1 : (askR A r S).1 = 1 := h_52
            have hv : rnW A (T f) key n (k + 1) (some r, v, a, s) rd S = rnW A (T f) key n k (wgo (T f) key 24 (wtk (T f) (some r, v, a, s) (vaO (askR A r S).2.1 r))) (nte rd r) (askR A r S).2 := by simp only [rnW]; rw [if_neg (fun h => h q1)]
            rw [hv]
            refine ev_mono (ih (i + 1) _ (nte rd r) (askR A r S).2 σ3 _ (by omega) g1 (RC_w hF3 hp2 (RC_w hF2 hp2 h1)) (UW_w hF3 hp2 (UW_w hF2 hp2 (h2 q1))) hW3 (wgo_inv hv9 24 _ (wtk_inv hI rfl)) (by omega) (nte_mem hr hro)) ?_
            rintro r9 M9 ⟨v9, e1, e2, σ', e3, k1, k2, k3⟩
            exact ⟨v9, e1, e2, σ', e3, k1, k2, ((h3.less (by omega)).trans ((FrK.w hF2 (by omega)).trans (FrK.w hF3 (by omega)))).trans k3⟩
          · refine ev_aload t_31_55 rfl ?_
            exact ev_reta t_31_57 rfl ⟨_, rfl, by simp only [rnW]; rw [if_pos h_52], _, rfl, by simp only [rnW]; rw [if_pos h_52]; exact h1, (fun h => by simp only [rnW] at h; rw [if_pos h_52] at h; exact absurd h h_52), h3.less (by omega)⟩
theorem c31 (hA : HA M T d u A) (hK : AK T u A) {n wp : Nat} (hn : n < 96) (hp : isWo wp) (hwp : wp + 7 = 230 + 7 * u.length) (hRs : Rst 1 (T (n / 16))) {S : SP} {σ : Nat → Nat → Int32} (hS : GW T S) (hR : RC σ S) (hu : UW σ u) : Ev (d + 5) 31 0 [some (.ref 8), some (.int (nI n)), some (.ref wp), none, none] [] (sC M σ) (fun q9 M' => ∃ v9, q9 = .inl v9 ∧ v9 = some (.ref (ask2 A (T (n / 16)) n (2, S)).1) ∧ ∃ σ', M' = sC M σ' ∧ RC σ' (ask2 A (T (n / 16)) n (2, S)).2 ∧ ((ask2 A (T (n / 16)) n (2, S)).1 = 1 → UW σ' u) ∧ FrK (u.length - 1) σ σ') := by
  have hp2 : 230 ≤ wp ∧ wp < 370 := by obtain ⟨w, hw, rfl⟩ := hp; omega
  have hv9 := Rst.val _ _ hRs
  have hf : n / 16 < 6 := by omega
  have hT0 := RC_txt hf hS hR
  have e : ask2 A (T (n / 16)) n (2, S) = rnW A (T (n / 16)) (n % 16) n 24 (wgo (T (n / 16)) (n % 16) 24 (none, 0, 0, [])) [] S := by unfold ask2; rw [if_pos rfl]
  rw [e]
  have hI0 : ∀ v : Int32, WI (T (n / 16)) 0 (none, v, 0, []) := fun v => ⟨Nat.le_refl _, Nat.zero_le _, fun e he => by (cases he), fun r h => by cases h⟩
  refine ev_aload_n t_31_0 rfl ?_
  refine ev_aload_n t_31_1 rfl ?_
  refine es_get (x := .ref 11) o_MR t_31_2 rfl ?_
  refine ev_iload_n t_31_5 rfl ?_
  refine ev_bipush t_31_6 ?_
  change Ev _ _ _ _ ([.int (nI (16)), .int (nI (n)), .ref 11, .ref wp]) _ _
  refine ev_idivN t_31_8 (by omega) (by omega) (by omega) ?_
  refine es_rald (k := (n) / (16)) (x := .ref (26 + 2 * ((n) / (16)))) r_TA t_31_9 (by omega) rfl ?_
  refine ev_iload_n t_31_10 rfl ?_
  refine ev_bipush t_31_11 ?_
  change Ev _ _ _ _ ([.int (nI (16)), .int (nI (n)), .ref (26 + 2 * ((n) / (16))), .ref wp]) _ _
  refine ev_iremN t_31_13 (by omega) (by omega) (by omega) ?_
  refine ev_cl (pm_st_V t_31_14 (as := [.ref wp, .ref (26 + 2 * ((n) / (16))), .int (nI ((n) % (16)))]) (rest := []) (L0 := [some (.ref wp), some (.ref (26 + 2 * ((n) / (16)))), some (.int (nI ((n) % (16))))]) rfl rfl (Nat.le_of_ble_eq_true rfl) (Nat.le_of_ble_eq_true rfl) rfl (es_rc (o_Wop hp) rfl (Nat.le_of_ble_eq_true rfl))) rfl (c94 hp (by omega)) ?_
  rintro _ _ ⟨rfl, σ1, rfl, hF1, hW1⟩
  change Ev _ _ _ _ ([]) _ _
  refine ev_aload_n t_31_17 rfl ?_
  refine ev_cl (pm_st_V t_31_18 (as := [.ref wp]) (rest := []) (L0 := [some (.ref wp), none, none]) rfl rfl (Nat.le_of_ble_eq_true rfl) (Nat.le_of_ble_eq_true rfl) rfl (es_rc (o_Wop hp) rfl (Nat.le_of_ble_eq_true rfl))) rfl (c95 hp (Or.inr (Or.inl ⟨n / 16, hf, rfl⟩)) (by omega) hv9 (hF1.txt (by omega) hT0) hW1 (hI0 _)) ?_
  rintro _ _ ⟨rfl, σ2, rfl, hF2, hW2⟩
  change Ev _ _ _ _ ([]) _ _
  refine ev_iconst t_31_21 ?_
  change Ev _ _ _ _ ([.int (nI (0))]) _ _
  refine ev_istore_n (L' := [some (.ref 8), some (.int (nI (n))), some (.ref wp), some (.int (nI (0))), none]) t_31_22 (Nat.le_of_ble_eq_true rfl) rfl ?_
  rw [wgo_v (v' := 0) 24 0 1 [] _ (by simpa using hRs) (by omega) (by have := hT0.2.1; omega)] at hW2
  refine ev_mono (c31l hA hK hn hp hwp hf hv9 24 0 _ [] S σ2 none rfl hS (RC_w hF2 hp2.1 (RC_w hF1 hp2.1 hR)) (UW_w hF2 hp2.1 (UW_w hF1 hp2.1 hu)) hW2 (wgo_inv hv9 24 _ (hI0 0)) (Nat.le_refl _) (fun r h => by cases h)) ?_
  rintro r9 M9 ⟨v9, e1, e2, σ', e3, k1, k2, k3⟩
  exact ⟨v9, e1, e2, σ', e3, k1, k2, ((FrK.w hF1 (by omega)).trans (FrK.w hF2 (by omega))).trans k3⟩
end RN
