/-! Looking through a cell's reads, running it. -/
theorem pm_ex_deep : ∀ (n d i pc : Nat) (L : pm_L) (st : List Value) (M : pm_M) (x : pm_R × pm_M), pm_ex n d i pc L st M = some x → pm_ex n (d + 1) i pc L st M = some x := by
  intro n
  induction n with
  | zero => intro d i pc L st M x h; cases h
  | succ n ih =>
    intro d i pc L st M x h
    rw [pm_ex] at h ⊢
    cases hs : pm_st i pc L st M with
    | none => rw [hs] at h; cases h
    | some S =>
      rw [hs] at h
      rcases S with F | ⟨j, as, rest⟩ | r
      · exact ih _ _ _ _ _ _ _ h
      · dsimp only at h ⊢
        cases d with
        | zero => cases h
        | succ d =>
          dsimp only at h ⊢
          cases hc : pm_ex n d j 0 ((pm_en j as).getD []) [] M with
          | none => rw [hc] at h; cases h
          | some q =>
            rw [ih _ _ _ _ _ _ _ hc]
            rw [hc] at h
            obtain ⟨v | x9, M'⟩ := q
            · exact ih _ _ _ _ _ _ _ h
            · dsimp only at h ⊢
              split at h
              · cases h
              · exact h
              · exact ih _ _ _ _ _ _ _ h
      · exact h
theorem ev_deep {d i pc : Nat} {L : pm_L} {st : List Value} {M : pm_M} {Q : pm_R → pm_M → Prop} (k : Nat) (h : Ev d i pc L st M Q) : Ev (d + k) i pc L st M Q := by
  induction k with
  | zero => exact h
  | succ k ih =>
    obtain ⟨n, r, M', h1, h2⟩ := ih
    exact ⟨n, r, M', pm_ex_deep _ _ _ _ _ _ _ _ h1, h2⟩
def FrK (m : Nat) (σ σ' : Nat → Nat → Int32) : Prop := ∀ q, 230 ≤ q → q < 230 + 7 * m → σ' q = σ q
theorem FrK.rfl {m : Nat} {σ : Nat → Nat → Int32} : FrK m σ σ := fun _ _ _ => Eq.refl _
theorem FrK.trans {m : Nat} {σ σ' σ'' : Nat → Nat → Int32} (h : FrK m σ σ') (h' : FrK m σ' σ'') : FrK m σ σ'' := fun q a b => (h' q a b).trans (h q a b)
theorem FrK.of {m : Nat} {σ σ' : Nat → Nat → Int32} (h : FrA σ σ') : FrK m σ σ' := fun q a _ => h.1 q (Or.inr a)
theorem FrK.less {m k : Nat} {σ σ' : Nat → Nat → Int32} (h : FrK m σ σ') (hk : k ≤ m) : FrK k σ σ' := fun q a b => h q a (by omega)
/-- an asking is what the method does -/
def HA (M : pm_M) (T : Nat → List Nat) (d : Nat) (u : List Nat) (A : Nat → SP → Nat × SP) : Prop := ∀ (n : Nat) (S : SP) (σ : Nat → Nat → Int32), n < 96 → GW T S → RC σ S → UW σ u → Ev d 25 0 [some (.ref 8), some (.int (nI n)), none, none] [] (sC M σ) (fun q9 M' => ∃ v9, q9 = .inl v9 ∧ v9 = some (.ref (A n S).1) ∧ ∃ σ', M' = sC M σ' ∧ RC σ' (A n S).2 ∧ ((A n S).1 = 1 → UW σ' u) ∧ FrK u.length σ σ')
section VR
variable {d : Nat} {M : pm_M} {T : Nat → List Nat} {u : List Nat} {A : Nat → SP → Nat × SP}
theorem c33 (hA : HA M T d u A) {r : Nat} {S : SP} {σ : Nat → Nat → Int32} (hr : RdOk r) (hS : GW T S) (hR : RC σ S) (hu : UW σ u) : Ev (d + 1) 33 0 [some (.ref 8), some (.int (nI r))] [] (sC M σ) (fun q9 M' => ∃ v9, q9 = .inl v9 ∧ v9 = some (.ref (askR A r S).1) ∧ ∃ σ', M' = sC M σ' ∧ RC σ' (askR A r S).2 ∧ ((askR A r S).1 = 1 → UW σ' u) ∧ FrK u.length σ σ') := by
  have hr2 := hr
  unfold RdOk at hr2
  have c9 := c34 (d := d) (M := M) (σ := σ) hr
  by_cases h9 : r < 100
  · rw [if_pos h9] at c9
    have e : askR A r S = (1, S) := by unfold askR; rw [if_pos h9]
    rw [e]
    refine ev_iload_n t_33_0 rfl ?_
    refine ev_cl (pm_st_S t_33_1 (Nat.le_of_ble_eq_true rfl) (as := [.int (nI (r))]) (rest := []) (L0 := [some (.int (nI (r)))]) rfl rfl (Nat.le_of_ble_eq_true rfl) (Nat.le_of_ble_eq_true rfl) rfl) rfl (c9) ?_
    rintro _ _ ⟨rfl, rfl⟩
    change Ev _ _ _ _ ([.int (nI (0))]) _ _
    refine ev_if_eqN t_33_4 (by omega) (fun h_4 => ?_) (fun h_4 => ?_)
    · refine ev_getstatic t_33_18 ?_
      exact ev_reta t_33_21 rfl ⟨_, rfl, rfl, _, rfl, hR, fun _ => hu, FrK.rfl⟩
    · exact absurd rfl h_4
  · rw [if_neg h9] at c9
    have e : askR A r S = A (r - 100) S := by unfold askR; rw [if_neg h9]
    rw [e]
    have hc := hA (r - 100) S σ (by omega) hS hR hu
    refine ev_iload_n t_33_0 rfl ?_
    refine ev_cl (pm_st_S t_33_1 (Nat.le_of_ble_eq_true rfl) (as := [.int (nI (r))]) (rest := []) (L0 := [some (.int (nI (r)))]) rfl rfl (Nat.le_of_ble_eq_true rfl) (Nat.le_of_ble_eq_true rfl) rfl) rfl (c9) ?_
    rintro _ _ ⟨rfl, rfl⟩
    change Ev _ _ _ _ ([.int (nI (1))]) _ _
    refine ev_if_eqN t_33_4 (by omega) (fun h_4 => ?_) (fun h_4 => ?_)
    · omega
    · refine ev_aload_n t_33_7 rfl ?_
      refine ev_iload_n t_33_8 rfl ?_
      refine ev_bipush t_33_9 ?_
      change Ev _ _ _ _ ([.int (nI (100)), .int (nI (r)), .ref 8]) _ _
      refine ev_isubN t_33_11 (by omega) ?_
      refine ev_cl (pm_st_V t_33_12 (as := [.ref 8, .int (nI ((r) - (100)))]) (rest := []) (L0 := [some (.ref 8), some (.int (nI ((r) - (100)))), none, none]) rfl rfl (Nat.le_of_ble_eq_true rfl) (Nat.le_of_ble_eq_true rfl) rfl (es_rc o_MR rfl (Nat.le_of_ble_eq_true rfl))) rfl (hc) ?_
      rintro _ _ ⟨rfl, σ1, rfl, h1, h2, h3⟩
      change Ev _ _ _ _ ([.ref ((A (r - 100) S).1)]) _ _
      refine ev_goto t_33_15 ?_
      exact ev_reta t_33_21 rfl ⟨_, rfl, rfl, _, rfl, h1, h2, h3⟩
theorem c30l (hA : HA M T d u A) (hK : AK T u A) {n : Nat} (hn : n < 96) (hnu : n ∈ u) : ∀ (k i : Nat) (S : SP) (σ : Nat → Nat → Int32) (o4 o5 : Option Value), i + k = (S.2.2 n).length → GW T S → RC σ S → UW σ u → Ev (d + 3) 30 24 [some (.ref 8), some (.int (nI n)), some (.ref (38 + 2 * n)), some (.int (nI i)), o4, o5] [] (sC M σ) (fun q9 M' => ∃ v9, q9 = .inl v9 ∧ v9 = some (.ref (vfy A n ((S.2.2 n).drop i) S).1) ∧ ∃ σ', M' = sC M σ' ∧ RC σ' (vfy A n ((S.2.2 n).drop i) S).2 ∧ ((vfy A n ((S.2.2 n).drop i) S).1 = 1 ∨ (vfy A n ((S.2.2 n).drop i) S).1 = 2 → UW σ' u) ∧ FrK u.length σ σ') := by
  intro k
  induction k with
  | zero =>
    intro i S σ o4 o5 hi hS hR hu
    obtain rfl : i = (S.2.2 n).length := by omega
    have h2 := (hR.2.2 n hn).1
    have hl := (hS.1 n hn).2.1
    have e17 : σ 17 0 = S.1 17 0 := hR.1 _ _ (by unfold Dk; omega)
    have e12 : σ 8 12 = S.1 8 12 := hR.1 _ _ (by unfold Dk; omega)
    rw [List.drop_length]
    have h3 : RC (u2 σ (38 + 2 * n) 3 (S.1 17 0)) (vfyG S n, S.2.1, S.2.2) := RC_u (by unfold Dk; omega) hR
    have c9 := c38 (d := d) (M := M) h3 hn hl (hS.1 n hn).2.2
    have h5 : RC (u2 (u2 (u2 σ (38 + 2 * n) 3 (S.1 17 0)) (38 + 2 * n) 5 (lcl (vfyG S n) (S.2.2 n) 2)) 8 12 (S.1 8 12 + 1)) (vfyE S n) := RC_u (q := 8) (k := 12) (by unfold Dk; omega) (RC_u (q := 38 + 2 * n) (k := 5) (by unfold Dk; omega) h3)
    have hF : FrA σ (u2 (u2 (u2 σ (38 + 2 * n) 3 (S.1 17 0)) (38 + 2 * n) 5 (lcl (vfyG S n) (S.2.2 n) 2)) 8 12 (S.1 8 12 + 1)) := ((FrA.u (by unfold Dk; omega)).trans (FrA.u (by unfold Dk; omega))).trans (FrA.u (by unfold Dk; omega))
    refine ev_iload_n t_30_24 rfl ?_
    refine ev_aload_n t_30_25 rfl ?_
    refine es_get (x := .int (σ (38 + 2 * n) 2)) (o_Ce (n := n) (by omega)) t_30_26 rfl ?_
    refine ev_top (y := (nI ((S.2.2 n).length))) (by exact h2) ?_
    refine ev_icmp_geN t_30_29 (by omega) (by omega) (fun h_29 => ?_) (fun h_29 => ?_)
    · refine ev_aload_n t_30_82 rfl ?_
      refine ev_aload_n t_30_83 rfl ?_
      refine es_get (x := .ref 17) o_MR t_30_84 rfl ?_
      refine es_get (x := .int (σ (17) 0)) o_Ed t_30_87 rfl ?_
      refine ev_top (y := (S.1 17 0)) (by (repeat rw [u2_off (by omega)]); exact e17) ?_
      refine es_put (o_Ce (n := n) (by omega)) t_30_90 rfl (Nat.le_of_ble_eq_true rfl) rfl ?_
      refine ev_aload_n t_30_93 rfl ?_
      refine ev_aload_n t_30_94 rfl ?_
      refine ev_aload_n t_30_95 rfl ?_
      refine ev_cl (pm_st_V t_30_96 (as := [.ref 8, .ref (38 + 2 * n)]) (rest := [.ref (38 + 2 * n)]) (L0 := [some (.ref 8), some (.ref (38 + 2 * n)), none, none]) rfl rfl (Nat.le_of_ble_eq_true rfl) (Nat.le_of_ble_eq_true rfl) rfl (es_rc o_MR rfl (Nat.le_of_ble_eq_true rfl))) rfl (c9) ?_
      rintro _ _ ⟨rfl, rfl⟩
      change Ev _ _ _ _ ([.int (lcl (vfyG S n) (S.2.2 n) 2), .ref (38 + 2 * n)]) _ _
      refine es_put (o_Ce (n := n) (by omega)) t_30_99 rfl (Nat.le_of_ble_eq_true rfl) rfl ?_
      refine ev_aload_n t_30_102 rfl ?_
      refine ev_dup t_30_103 rfl ?_
      refine es_get (x := .int ((u2 (u2 σ (38 + 2 * n) 3 (S.1 17 0)) (38 + 2 * n) 5 (lcl (vfyG S n) (S.2.2 n) 2)) (8) 12)) o_MR t_30_104 rfl ?_
      refine ev_top (y := (S.1 8 12)) (by (repeat rw [u2_off (by omega)]); exact e12) ?_
      refine ev_iconst t_30_107 ?_
      change Ev _ _ _ _ ([.int (nI (1)), .int (S.1 8 12), .ref 8]) _ _
      refine ev_iadd t_30_108 ?_
      refine es_put o_MR t_30_109 rfl (Nat.le_of_ble_eq_true rfl) rfl ?_
      refine ev_getstatic t_30_112 ?_
      exact ev_reta t_30_115 rfl ⟨_, rfl, rfl, _, rfl, h5, fun _ => hF.uw hu, FrK.of hF⟩
    · omega
  | succ k ih =>
    intro i S σ o4 o5 hi hS hR hu
    have hil : i < (S.2.2 n).length := by omega
    have h2 := (hR.2.2 n hn).1
    have hl := (hS.1 n hn).2.1
    have hx : (S.2.2 n).getD i 0 = (S.2.2 n)[i] := by simp [List.getD_eq_getElem?_getD, hil]
    have hro : RdOk ((S.2.2 n).getD i 0) := by rw [hx]; exact (hS.1 n hn).2.2 _ (List.getElem_mem hil)
    have e24 := (hR.2.2 n hn).2 i hil
    rw [drop_at hil]
    obtain ⟨r, hr0⟩ : ∃ r, (S.2.2 n).getD i 0 = r := ⟨_, rfl⟩
    rw [hr0] at hro e24 ⊢
    obtain ⟨⟨g1, g2⟩, g3⟩ := AK_r hK hro hS
    have hc := c33 hA hro hS hR hu
    refine ev_iload_n t_30_24 rfl ?_
    refine ev_aload_n t_30_25 rfl ?_
    refine es_get (x := .int (σ (38 + 2 * n) 2)) (o_Ce (n := n) (by omega)) t_30_26 rfl ?_
    refine ev_top (y := (nI ((S.2.2 n).length))) (by exact h2) ?_
    refine ev_icmp_geN t_30_29 (by omega) (by omega) (fun h_29 => ?_) (fun h_29 => ?_)
    · omega
    · refine ev_aload_n t_30_32 rfl ?_
      refine es_get (x := .ref (38 + 2 * n + 1)) (o_Ce (n := n) (by omega)) t_30_33 rfl ?_
      refine ev_iload_n t_30_36 rfl ?_
      refine es_iald (k := i) (a_rd (n := n) (by omega)) t_30_37 (by omega) ?_
      refine ev_top e24 ?_
      refine ev_istore (L' := [some (.ref 8), some (.int (nI (n))), some (.ref (38 + 2 * n)), some (.int (nI (i))), some (.int (nI (r))), o5]) t_30_38 (Nat.le_of_ble_eq_true rfl) rfl ?_
      refine ev_aload_n t_30_40 rfl ?_
      refine ev_iload t_30_41 rfl ?_
      refine ev_cl (pm_st_V t_30_43 (as := [.ref 8, .int (nI (r))]) (rest := []) (L0 := [some (.ref 8), some (.int (nI (r)))]) rfl rfl (Nat.le_of_ble_eq_true rfl) (Nat.le_of_ble_eq_true rfl) rfl (es_rc o_MR rfl (Nat.le_of_ble_eq_true rfl))) rfl (ev_deep 1 hc) ?_
      rintro _ _ ⟨rfl, σ1, rfl, h1, h2', h3⟩
      change Ev _ _ _ _ ([.ref ((askR A r S).1)]) _ _
      refine ev_astore (L' := [some (.ref 8), some (.int (nI (n))), some (.ref (38 + 2 * n)), some (.int (nI (i))), some (.int (nI (r))), some (.ref ((askR A r S).1))]) t_30_46 (Nat.le_of_ble_eq_true rfl) rfl ?_
      refine ev_aload t_30_48 rfl ?_
      refine ev_getstatic t_30_50 ?_
      refine ev_acmp_eq t_30_53 (by omega) (fun h_53 => ?_) (fun h_53 => ?_)
      · refine ev_aload_n t_30_59 rfl ?_
        refine ev_iload t_30_60 rfl ?_
        refine ev_cl (pm_st_V t_30_62 (as := [.ref 8, .int (nI (r))]) (rest := []) (L0 := [some (.ref 8), some (.int (nI (r)))]) rfl rfl (Nat.le_of_ble_eq_true rfl) (Nat.le_of_ble_eq_true rfl) rfl (es_rc o_MR rfl (Nat.le_of_ble_eq_true rfl))) rfl (c36 hro h1) ?_
        rintro _ _ ⟨rfl, rfl⟩
        change Ev _ _ _ _ ([.int (chO (askR A r S).2.1 r)]) _ _
        refine ev_aload_n t_30_65 rfl ?_
        refine es_get (x := .int (σ1 (38 + 2 * n) 3)) (o_Ce (n := n) (by omega)) t_30_66 rfl ?_
        refine ev_top (y := ((askR A r S).2.1 (38 + 2 * n) 3)) (h1.1 _ _ (by unfold Dk; omega)) ?_
        refine ev_icmp_le t_30_69 (fun h_69 => ?_) (fun h_69 => ?_)
        · refine ev_iincN (L' := [some (.ref 8), some (.int (nI (n))), some (.ref (38 + 2 * n)), some (.int (nI (i + 1))), some (.int (nI (r))), some (.ref ((askR A r S).1))]) t_30_76 rfl (Nat.le_of_ble_eq_true rfl) rfl ?_
          refine ev_goto t_30_79 ?_
          have q1 : (askR A r S).1 = 1 := h_53
          have q2 := g3 q1 n hnu
          have hv : vfy A n (r :: (S.2.2 n).drop (i + 1)) S = vfy A n (((askR A r S).2.2.2 n).drop (i + 1)) (askR A r S).2 := by simp only [vfy]; rw [if_neg (fun h => h q1), if_pos h_69, q2]
          rw [hv]
          refine ev_mono (ih (i + 1) (askR A r S).2 σ1 _ _ (by rw [q2]; omega) g1 h1 (h2' q1)) ?_
          rintro r9 M9 ⟨v9, e1, e2, σ', e3, k1, k2, k3⟩
          exact ⟨v9, e1, e2, σ', e3, k1, k2, h3.trans k3⟩
        · refine ev_getstatic t_30_72 ?_
          exact ev_reta t_30_75 rfl ⟨_, rfl, by simp only [vfy]; rw [if_neg (fun h => h h_53), if_neg h_69], _, rfl, by simp only [vfy]; rw [if_neg (fun h => h h_53), if_neg h_69]; exact h1, (fun _ => h2' h_53), h3⟩
      · refine ev_aload t_30_56 rfl ?_
        exact ev_reta t_30_58 rfl ⟨_, rfl, by simp only [vfy]; rw [if_pos h_53], _, rfl, by simp only [vfy]; rw [if_pos h_53]; exact h1, (fun h => by simp only [vfy] at h; rw [if_pos h_53] at h; omega), h3⟩
theorem c30 (hA : HA M T d u A) (hK : AK T u A) {n : Nat} (hn : n < 96) (hnu : n ∈ u) {S : SP} {σ : Nat → Nat → Int32} (t : List Nat) (hS : GW T S) (hR : RC σ S) (hu : UW σ u) : Ev (d + 3) 30 0 [some (.ref 8), some (.int (nI n)), none, none, none, none] [] (sC M σ) (fun q9 M' => ∃ v9, q9 = .inl v9 ∧ v9 = some (.ref (ask1 A t n S).1) ∧ ∃ σ', M' = sC M σ' ∧ RC σ' (ask1 A t n S).2 ∧ ((ask1 A t n S).1 = 1 ∨ (ask1 A t n S).1 = 2 → UW σ' u) ∧ FrK u.length σ σ') := by
  refine ev_aload_n t_30_0 rfl ?_
  refine es_get (x := .ref 20) o_MR t_30_1 rfl ?_
  refine ev_iload_n t_30_4 rfl ?_
  refine ev_cl (pm_st_V t_30_5 (as := [.ref 20, .int (nI (n))]) (rest := []) (L0 := [some (.ref 20), some (.int (nI (n)))]) rfl rfl (Nat.le_of_ble_eq_true rfl) (Nat.le_of_ble_eq_true rfl) rfl (es_rc o_RO rfl (Nat.le_of_ble_eq_true rfl))) rfl (c81r (by omega) hR) ?_
  rintro _ _ ⟨rfl, rfl⟩
  change Ev _ _ _ _ ([.int (bI (decide (n ∈ S.2.1)))]) _ _
  refine ev_if_ne (y := 0) t_30_8 (fun h_8 => ?_) (fun h_8 => ?_)
  · refine ev_aload_n t_30_15 rfl ?_
    refine es_get (x := .ref 19) o_MR t_30_16 rfl ?_
    refine ev_iload_n t_30_19 rfl ?_
    refine es_rald (k := n) (x := .ref (38 + 2 * n)) r_CA t_30_20 (by omega) rfl ?_
    refine ev_astore_n (L' := [some (.ref 8), some (.int (nI (n))), some (.ref (38 + 2 * n)), none, none, none]) t_30_21 (Nat.le_of_ble_eq_true rfl) rfl ?_
    refine ev_iconst t_30_22 ?_
    change Ev _ _ _ _ ([.int (nI (0))]) _ _
    refine ev_istore_n (L' := [some (.ref 8), some (.int (nI (n))), some (.ref (38 + 2 * n)), some (.int (nI (0))), none, none]) t_30_23 (Nat.le_of_ble_eq_true rfl) rfl ?_
    have hm : n ∈ S.2.1 := Decidable.byContradiction fun h => h_8 (bI_d0.mpr h)
    have e : ask1 A t n S = vfy A n ((S.2.2 n).drop 0) S := by unfold ask1; rw [if_pos hm]; rfl
    rw [e]
    exact c30l hA hK hn hnu _ 0 S σ none none (Nat.zero_add _) hS hR hu
  · refine ev_getstatic t_30_11 ?_
    exact ev_reta t_30_14 rfl ⟨_, rfl, by unfold ask1; rw [if_neg (bI_d0.mp (Decidable.byContradiction h_8))], _, rfl, by unfold ask1; rw [if_neg (bI_d0.mp (Decidable.byContradiction h_8))]; exact hR, (fun _ => hu), FrK.rfl⟩
end VR
