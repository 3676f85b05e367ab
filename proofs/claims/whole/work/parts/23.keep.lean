/-! A circle's answers; what is kept of a run. -/
section ME
variable {d : Nat} {M : pm_M}
theorem RC_ci {σ : Nat → Nat → Int32} {S : SP} {n : Nat} (hn : n < 96) (hR : RC σ S) : RC (u2 (u2 (u2 (u2 (u2 (u2 σ (38 + 2 * n) 0 (S.1 12 (n / 16))) (38 + 2 * n) 2 0) (38 + 2 * n) 3 (S.1 17 0)) (38 + 2 * n) 4 (S.1 17 0)) (38 + 2 * n) 5 0) (38 + 2 * n) 6 1) (u2 (u2 (u2 (u2 (u2 S.1 (38 + 2 * n) 0 (S.1 12 (n / 16))) (38 + 2 * n) 3 (S.1 17 0)) (38 + 2 * n) 4 (S.1 17 0)) (38 + 2 * n) 5 0) (38 + 2 * n) 6 1, S.2.1, fun m => if m = n then [] else S.2.2 m) := by
  have h1 := RC_u (q := 38 + 2 * n) (k := 0) (x := S.1 12 (n / 16)) (by unfold Dk; omega) hR
  have h2 := RC_rs (σ' := u2 (u2 σ (38 + 2 * n) 0 (S.1 12 (n / 16))) (38 + 2 * n) 2 0) (rd := []) hn h1 (fun q k h => u2_off (by omega)) ⟨u2_at, fun i hi => by simp at hi⟩
  exact RC_u (by unfold Dk; omega) (RC_u (by unfold Dk; omega) (RC_u (by unfold Dk; omega) (RC_u (by unfold Dk; omega) h2)))
theorem FrA.u' {σ : Nat → Nat → Int32} {q k : Nat} {x : Int32} (h1 : 8 ≤ q) (h2 : q < 230) (h3 : q ≠ 24) (h4 : q ≠ 8 ∨ k ≠ 10) : FrA σ (u2 σ q k x) := ⟨fun p hp => u2_ne (by omega), u2_off (by omega)⟩
theorem c27l {u : List Nat} {w0 : Int32} (h20 : u.length ≤ 20) (hub : ∀ x ∈ u, x < 96) : ∀ (k i : Nat) (S : SP) (σ : Nat → Nat → Int32) (o3 o4 : Option Value), i + k = u.length → RC σ S → UW σ u → Ev (d + 3) 27 2 [some (.ref 8), some (.int w0), some (.int (nI i)), o3, o4] [] (sC M σ) (fun q9 M' => ∃ v9, q9 = .inl v9 ∧ v9 = none ∧ ∃ σ', M' = sC M σ' ∧ RC σ' ((u.drop i).foldl ci1 S) ∧ FrA σ σ') := by
  intro k
  induction k with
  | zero =>
    intro i S σ o3 o4 hi hR hu
    obtain rfl : i = u.length := by omega
    rw [List.drop_length]
    refine ev_iload_n t_27_2 rfl ?_
    refine ev_aload_n t_27_3 rfl ?_
    refine es_get (x := .int (σ (8) 10)) o_MR t_27_4 rfl ?_
    refine ev_top (y := (nI (u.length))) (by exact hu.1) ?_
    refine ev_icmp_geN t_27_7 (by omega) (by omega) (fun h_7 => ?_) (fun h_7 => ?_)
    · exact ev_retv t_27_105 rfl ⟨none, rfl, rfl, _, rfl, hR, FrA.rfl⟩
    · omega
  | succ k ih =>
    intro i S σ o3 o4 hi hR hu
    have hil : i < u.length := by omega
    have hx : u.getD i 0 = u[i] := by simp [List.getD_eq_getElem?_getD, hil]
    have hn9 : u.getD i 0 < 96 := by rw [hx]; exact hub _ (List.getElem_mem hil)
    rw [drop_at hil, List.foldl_cons]
    have e24 := hu.2 i hil
    generalize u.getD i 0 = n at hn9 e24 ⊢
    have e12 : σ 12 (n / 16) = S.1 12 (n / 16) := hR.1 _ _ (by unfold Dk; omega)
    have e17 : σ 17 0 = S.1 17 0 := hR.1 _ _ (by unfold Dk; omega)
    have hR2 := RC_ci hn9 hR
    have hF2 : FrA σ (u2 (u2 (u2 (u2 (u2 (u2 σ (38 + 2 * n) 0 (S.1 12 (n / 16))) (38 + 2 * n) 2 0) (38 + 2 * n) 3 (S.1 17 0)) (38 + 2 * n) 4 (S.1 17 0)) (38 + 2 * n) 5 0) (38 + 2 * n) 6 1) := (FrA.u' (by omega) (by omega) (by omega) (by omega)).trans ((FrA.u' (by omega) (by omega) (by omega) (by omega)).trans ((FrA.u' (by omega) (by omega) (by omega) (by omega)).trans ((FrA.u' (by omega) (by omega) (by omega) (by omega)).trans ((FrA.u' (by omega) (by omega) (by omega) (by omega)).trans (FrA.u' (by omega) (by omega) (by omega) (by omega))))))
    obtain ⟨σ3, h3, hR3, hF3⟩ := c82 (d := d) (M := M) hn9 hR2.2.1
    have hR4 := RC_o hF3 hR3 hR2
    have e14 : σ3 8 14 = S.1 8 14 := by
      rw [hR4.1 8 14 (by unfold Dk; omega)]
      dsimp only
      repeat rw [u2_off (by omega)]
    have hR5 := RC_u (q := 8) (k := 14) (x := S.1 8 14 + 1) (by unfold Dk; omega) hR4
    have hF5 : FrA σ (u2 σ3 8 14 (S.1 8 14 + 1)) := (hF2.trans (FrA.fr hF3)).trans (FrA.u' (by omega) (by omega) (by omega) (by omega))
    have key9 : ∀ o3 o4 : Option Value, Ev (d + 3) 27 2 [some (.ref 8), some (.int w0), some (.int (nI (i + 1))), o3, o4] [] (sC M (u2 σ3 8 14 (S.1 8 14 + 1))) (fun q9 M' => ∃ v9, q9 = .inl v9 ∧ v9 = none ∧ ∃ σ', M' = sC M σ' ∧ RC σ' ((u.drop (i + 1)).foldl ci1 (ci1 S n)) ∧ FrA σ σ') := by
      intro o3 o4
      refine ev_mono (ih (i + 1) _ _ o3 o4 (by omega) hR5 (hF5.uw hu)) ?_
      rintro r M' ⟨v9, e1, e2, σ', e3, h1, h2⟩
      exact ⟨v9, e1, e2, σ', e3, h1, hF5.trans h2⟩
    refine ev_iload_n t_27_2 rfl ?_
    refine ev_aload_n t_27_3 rfl ?_
    refine es_get (x := .int (σ (8) 10)) o_MR t_27_4 rfl ?_
    refine ev_top (y := (nI (u.length))) (by exact hu.1) ?_
    refine ev_icmp_geN t_27_7 (by omega) (by omega) (fun h_7 => ?_) (fun h_7 => ?_)
    · omega
    · refine ev_aload_n t_27_10 rfl ?_
      refine es_get (x := .ref 24) o_MR t_27_11 rfl ?_
      refine ev_iload_n t_27_14 rfl ?_
      refine es_iald (k := i) a_uw t_27_15 (by omega) ?_
      refine ev_top e24 ?_
      refine ev_istore_n (L' := [some (.ref 8), some (.int w0), some (.int (nI (i))), some (.int (nI (n))), o4]) t_27_16 (Nat.le_of_ble_eq_true rfl) rfl ?_
      refine ev_aload_n t_27_17 rfl ?_
      refine es_get (x := .ref 19) o_MR t_27_18 rfl ?_
      refine ev_iload_n t_27_21 rfl ?_
      refine es_rald (k := n) (x := .ref (38 + 2 * n)) r_CA t_27_22 (by omega) rfl ?_
      refine ev_astore (L' := [some (.ref 8), some (.int w0), some (.int (nI (i))), some (.int (nI (n))), some (.ref (38 + 2 * n))]) t_27_23 (Nat.le_of_ble_eq_true rfl) rfl ?_
      refine ev_aload t_27_25 rfl ?_
      refine ev_aload_n t_27_27 rfl ?_
      refine es_get (x := .ref 12) o_MR t_27_28 rfl ?_
      refine ev_iload_n t_27_31 rfl ?_
      refine ev_bipush t_27_32 ?_
      change Ev _ _ _ _ ([.int (nI (16)), .int (nI (n)), .ref 12, .ref (38 + 2 * n)]) _ _
      refine ev_idivN t_27_34 (by omega) (by omega) (by omega) ?_
      refine es_iald (k := (n) / (16)) a_CV t_27_35 (by omega) ?_
      refine ev_top (y := (S.1 12 (n / 16))) e12 ?_
      refine es_put (o_Ce (n := n) (by omega)) t_27_36 rfl (Nat.le_of_ble_eq_true rfl) rfl ?_
      refine ev_aload t_27_39 rfl ?_
      refine ev_iconst t_27_41 ?_
      change Ev _ _ _ _ ([.int (nI (0)), .ref (38 + 2 * n)]) _ _
      refine es_put (o_Ce (n := n) (by omega)) t_27_42 rfl (Nat.le_of_ble_eq_true rfl) rfl ?_
      refine ev_aload t_27_45 rfl ?_
      refine ev_aload_n t_27_47 rfl ?_
      refine es_get (x := .ref 17) o_MR t_27_48 rfl ?_
      refine es_get (x := .int ((u2 (u2 σ (38 + 2 * n) 0 (S.1 12 (n / 16))) (38 + 2 * n) 2 (nI (0))) (17) 0)) o_Ed t_27_51 rfl ?_
      refine ev_top (y := (S.1 17 0)) (by (repeat rw [u2_off (by omega)]); exact e17) ?_
      refine es_put (o_Ce (n := n) (by omega)) t_27_54 rfl (Nat.le_of_ble_eq_true rfl) rfl ?_
      refine ev_aload t_27_57 rfl ?_
      refine ev_aload_n t_27_59 rfl ?_
      refine es_get (x := .ref 17) o_MR t_27_60 rfl ?_
      refine es_get (x := .int ((u2 (u2 (u2 σ (38 + 2 * n) 0 (S.1 12 (n / 16))) (38 + 2 * n) 2 (nI (0))) (38 + 2 * n) 3 (S.1 17 0)) (17) 0)) o_Ed t_27_63 rfl ?_
      refine ev_top (y := (S.1 17 0)) (by (repeat rw [u2_off (by omega)]); exact e17) ?_
      refine es_put (o_Ce (n := n) (by omega)) t_27_66 rfl (Nat.le_of_ble_eq_true rfl) rfl ?_
      refine ev_aload t_27_69 rfl ?_
      refine ev_iconst t_27_71 ?_
      change Ev _ _ _ _ ([.int (nI (0)), .ref (38 + 2 * n)]) _ _
      refine es_put (o_Ce (n := n) (by omega)) t_27_72 rfl (Nat.le_of_ble_eq_true rfl) rfl ?_
      refine ev_aload t_27_75 rfl ?_
      refine ev_iconst t_27_77 ?_
      change Ev _ _ _ _ ([.int (nI (1)), .ref (38 + 2 * n)]) _ _
      refine es_putV (y := (nI (1))) (o_Ce (n := n) (by omega)) t_27_78 (Nat.le_of_ble_eq_true rfl) rfl rfl rfl ?_
      refine ev_aload_n t_27_81 rfl ?_
      refine es_get (x := .ref 20) o_MR t_27_82 rfl ?_
      refine ev_iload_n t_27_85 rfl ?_
      refine ev_cl (pm_st_V t_27_86 (as := [.ref 20, .int (nI (n))]) (rest := []) (L0 := [some (.ref 20), some (.int (nI (n))), none]) rfl rfl (Nat.le_of_ble_eq_true rfl) (Nat.le_of_ble_eq_true rfl) rfl (es_rc o_RO rfl (Nat.le_of_ble_eq_true rfl))) rfl (h3) ?_
      rintro _ _ ⟨rfl, rfl⟩
      change Ev _ _ _ _ ([]) _ _
      refine ev_aload_n t_27_89 rfl ?_
      refine ev_dup t_27_90 rfl ?_
      refine es_get (x := .int (σ3 (8) 14)) o_MR t_27_91 rfl ?_
      refine ev_top (y := (S.1 8 14)) (by exact e14) ?_
      refine ev_iconst t_27_94 ?_
      change Ev _ _ _ _ ([.int (nI (1)), .int (S.1 8 14), .ref 8]) _ _
      refine ev_iadd t_27_95 ?_
      refine es_put o_MR t_27_96 rfl (Nat.le_of_ble_eq_true rfl) rfl ?_
      refine ev_iincN (L' := [some (.ref 8), some (.int w0), some (.int (nI (i + 1))), some (.int (nI (n))), some (.ref (38 + 2 * n))]) t_27_99 rfl (Nat.le_of_ble_eq_true rfl) rfl ?_
      refine ev_goto t_27_102 ?_
      exact key9 _ _
theorem c27 {σ : Nat → Nat → Int32} {S : SP} {u : List Nat} {i : Nat} (h20 : u.length ≤ 20) (hub : ∀ x ∈ u, x < 96) (hi : i ≤ u.length) (hR : RC σ S) (hu : UW σ u) : Ev (d + 3) 27 0 [some (.ref 8), some (.int (nI i)), none, none, none] [] (sC M σ) (fun q9 M' => ∃ v9, q9 = .inl v9 ∧ v9 = none ∧ ∃ σ', M' = sC M σ' ∧ RC σ' ((u.drop i).foldl ci1 S) ∧ FrA σ σ') := by
  refine ev_iload_n t_27_0 rfl ?_
  refine ev_istore_n (L' := [some (.ref 8), some (.int (nI (i))), some (.int (nI (i))), none, none]) t_27_1 (Nat.le_of_ble_eq_true rfl) rfl ?_
  exact c27l h20 hub (u.length - i) i S σ none none (by omega) hR hu
theorem c32t {σ : Nat → Nat → Int32} {S : SP} {n p tp key : Nat} {rd : List Nat} {w : WS} (hn : n < 96) (hp : isWo p) (hR : RC σ S) (hK : WKs σ p tp rd key w) (h24 : rd.length ≤ 24) (hr : ∀ r ∈ rd, RdOk r) : Ev (d + 3) 32 40 [some (.ref 8), some (.int (nI n)), some (.ref p), some (.ref (38 + 2 * n))] [] (sC M σ) (fun q9 M' => ∃ v9, q9 = .inl v9 ∧ v9 = none ∧ ∃ σ', M' = sC M σ' ∧ RC σ' (u2 (u2 (u2 (u2 S.1 (38 + 2 * n) 0 w.2.1) (38 + 2 * n) 3 (S.1 17 0)) (38 + 2 * n) 5 (lcl (u2 (u2 S.1 (38 + 2 * n) 0 w.2.1) (38 + 2 * n) 3 (S.1 17 0)) rd 2)) (38 + 2 * n) 6 0, S.2.1, fun m => if m = n then rd else S.2.2 m) ∧ FrA σ σ') := by
  have hpw : 230 ≤ p := by obtain ⟨w, hw, rfl⟩ := hp; omega
  have e17 : σ 17 0 = S.1 17 0 := hR.1 _ _ (by unfold Dk; omega)
  have ev : σ p 1 = w.2.1 := hK.2.2.1
  have e3 : σ p 3 = nI rd.length := hK.2.2.2.1.1
  have h1 := RC_u (q := 38 + 2 * n) (k := 0) (x := w.2.1) (by unfold Dk; omega) hR
  have h2 := RC_rs (σ' := cpy (u2 (u2 σ (38 + 2 * n) 0 w.2.1) (38 + 2 * n) 2 (nI rd.length)) (p + 1) (38 + 2 * n + 1) rd.length) (rd := rd) hn h1 (fun q k h => by
    unfold cpy
    rw [if_neg (by omega), u2_off (by omega)]) ⟨by unfold cpy; rw [if_neg (by omega), u2_at], fun i hi => by
      unfold cpy
      rw [if_pos rfl, if_pos hi, u2_off (by omega), u2_off (by omega)]
      exact hK.2.2.2.1.2 i hi⟩
  have h3 := RC_u (q := 38 + 2 * n) (k := 3) (x := S.1 17 0) (by unfold Dk; omega) h2
  have c9 := c38 (d := d) (M := M) h3 hn (by dsimp only; rw [if_pos rfl]; exact h24) (by dsimp only; rw [if_pos rfl]; exact hr)
  have e9 : (if n = n then rd else S.2.2 n) = rd := if_pos rfl
  dsimp only at c9
  rw [e9] at c9
  have h5 := RC_u (q := 38 + 2 * n) (k := 6) (x := 0) (by unfold Dk; omega) (RC_u (q := 38 + 2 * n) (k := 5) (x := lcl (u2 (u2 S.1 (38 + 2 * n) 0 w.2.1) (38 + 2 * n) 3 (S.1 17 0)) rd 2) (by unfold Dk; omega) h3)
  have hF : FrA σ (u2 (u2 (u2 (cpy (u2 (u2 σ (38 + 2 * n) 0 w.2.1) (38 + 2 * n) 2 (nI rd.length)) (p + 1) (38 + 2 * n + 1) rd.length) (38 + 2 * n) 3 (S.1 17 0)) (38 + 2 * n) 5 (lcl (u2 (u2 S.1 (38 + 2 * n) 0 w.2.1) (38 + 2 * n) 3 (S.1 17 0)) rd 2)) (38 + 2 * n) 6 0) := ⟨fun q hq => by
    rw [u2_ne (by omega), u2_ne (by omega), u2_ne (by omega)]
    unfold cpy
    rw [if_neg (by omega), u2_ne (by omega), u2_ne (by omega)], by
    rw [u2_off (by omega), u2_off (by omega), u2_off (by omega)]
    unfold cpy
    rw [if_neg (by omega), u2_off (by omega), u2_off (by omega)]⟩
  refine ev_aload_n t_32_40 rfl ?_
  refine ev_aload_n t_32_41 rfl ?_
  refine es_get (x := .int (σ (p) 1)) (o_Wop hp) t_32_42 rfl ?_
  refine ev_top (y := w.2.1) (by (repeat rw [u2_off (by omega)]); exact ev) ?_
  refine es_put (o_Ce (n := n) (by omega)) t_32_45 rfl (Nat.le_of_ble_eq_true rfl) rfl ?_
  refine ev_aload_n t_32_48 rfl ?_
  refine ev_aload_n t_32_49 rfl ?_
  refine es_get (x := .int ((u2 σ (38 + 2 * n) 0 w.2.1) (p) 3)) (o_Wop hp) t_32_50 rfl ?_
  refine ev_top (y := (nI (rd.length))) (by (repeat rw [u2_off (by omega)]); exact e3) ?_
  refine es_put (o_Ce (n := n) (by omega)) t_32_53 rfl (Nat.le_of_ble_eq_true rfl) rfl ?_
  refine ev_aload_n t_32_56 rfl ?_
  refine es_get (x := .ref (p + 1)) (o_Wop hp) t_32_57 rfl ?_
  refine ev_iconst t_32_60 ?_
  change Ev _ _ _ _ ([.int (nI (0)), .ref (p + 1)]) _ _
  refine ev_aload_n t_32_61 rfl ?_
  refine es_get (x := .ref (38 + 2 * n + 1)) (o_Ce (n := n) (by omega)) t_32_62 rfl ?_
  refine ev_iconst t_32_65 ?_
  change Ev _ _ _ _ ([.int (nI (0)), .ref (38 + 2 * n + 1), .int (nI (0)), .ref (p + 1)]) _ _
  refine ev_aload_n t_32_66 rfl ?_
  refine es_get (x := .int ((u2 (u2 σ (38 + 2 * n) 0 w.2.1) (38 + 2 * n) 2 (nI (rd.length))) (p) 3)) (o_Wop hp) t_32_67 rfl ?_
  refine ev_top (y := (nI (rd.length))) (by (repeat rw [u2_off (by omega)]); exact e3) ?_
  refine es_copy (k := rd.length) (a_wrp hp) (a_rd (n := n) (by omega)) t_32_70 (by omega) (by omega) (Nat.le_of_ble_eq_true rfl) ?_
  refine ev_aload_n t_32_73 rfl ?_
  refine ev_aload_n t_32_74 rfl ?_
  refine es_get (x := .ref 17) o_MR t_32_75 rfl ?_
  refine es_get (x := .int ((cpy (u2 (u2 σ (38 + 2 * n) 0 w.2.1) (38 + 2 * n) 2 (nI (rd.length))) (p + 1) (38 + 2 * n + 1) (rd.length)) (17) 0)) o_Ed t_32_78 rfl ?_
  refine ev_top (y := (S.1 17 0)) (by first | exact e17 | ((repeat rw [u2_off (by omega)]); unfold cpy; rw [if_neg (by omega)]; (repeat rw [u2_off (by omega)]); exact e17)) ?_
  refine es_put (o_Ce (n := n) (by omega)) t_32_81 rfl (Nat.le_of_ble_eq_true rfl) rfl ?_
  refine ev_aload_n t_32_84 rfl ?_
  refine ev_aload_n t_32_85 rfl ?_
  refine ev_aload_n t_32_86 rfl ?_
  refine ev_cl (pm_st_V t_32_87 (as := [.ref 8, .ref (38 + 2 * n)]) (rest := [.ref (38 + 2 * n)]) (L0 := [some (.ref 8), some (.ref (38 + 2 * n)), none, none]) rfl rfl (Nat.le_of_ble_eq_true rfl) (Nat.le_of_ble_eq_true rfl) rfl (es_rc o_MR rfl (Nat.le_of_ble_eq_true rfl))) rfl (c9) ?_
  rintro _ _ ⟨rfl, rfl⟩
  change Ev _ _ _ _ ([.int (lcl (u2 (u2 S.1 (38 + 2 * n) 0 w.2.1) (38 + 2 * n) 3 (S.1 17 0)) rd 2), .ref (38 + 2 * n)]) _ _
  refine es_put (o_Ce (n := n) (by omega)) t_32_90 rfl (Nat.le_of_ble_eq_true rfl) rfl ?_
  refine ev_aload_n t_32_93 rfl ?_
  refine ev_iconst t_32_94 ?_
  change Ev _ _ _ _ ([.int (nI (0)), .ref (38 + 2 * n)]) _ _
  refine es_putV (y := (nI (0))) (o_Ce (n := n) (by omega)) t_32_95 (Nat.le_of_ble_eq_true rfl) rfl rfl rfl ?_
  exact ev_retv t_32_98 rfl ⟨none, rfl, rfl, _, rfl, h5, hF⟩
theorem c32 {σ : Nat → Nat → Int32} {S : SP} {n p tp key : Nat} {rd : List Nat} {w : WS} (hn : n < 96) (hp : isWo p) (hR : RC σ S) (hK : WKs σ p tp rd key w) (h24 : rd.length ≤ 24) (hr : ∀ r ∈ rd, RdOk r) : Ev (d + 3) 32 0 [some (.ref 8), some (.int (nI n)), some (.ref p), none] [] (sC M σ) (fun q9 M' => ∃ v9, q9 = .inl v9 ∧ v9 = none ∧ ∃ σ', M' = sC M σ' ∧ RC σ' (kpS S n w.2.1 rd) ∧ FrA σ σ') := by
  have hpw : 230 ≤ p := by obtain ⟨w, hw, rfl⟩ := hp; omega
  have e17 : σ 17 0 = S.1 17 0 := hR.1 _ _ (by unfold Dk; omega)
  have e0 : σ (38 + 2 * n) 0 = S.1 (38 + 2 * n) 0 := hR.1 _ _ (by unfold Dk; omega)
  have ev : σ p 1 = w.2.1 := hK.2.2.1
  have hA : ¬ (n ∈ S.2.1 ∧ S.1 (38 + 2 * n) 0 = w.2.1) → Ev (d + 3) 32 40 [some (.ref 8), some (.int (nI n)), some (.ref p), some (.ref (38 + 2 * n))] [] (sC M (u2 σ (38 + 2 * n) 4 (S.1 17 0))) (fun q9 M' => ∃ v9, q9 = .inl v9 ∧ v9 = none ∧ ∃ σ', M' = sC M σ' ∧ RC σ' (kpS S n w.2.1 rd) ∧ FrA σ σ') := by
    intro hc
    have hK2 : WKs (u2 σ (38 + 2 * n) 4 (S.1 17 0)) p tp rd key w := by
      unfold WKs WK at hK ⊢
      obtain ⟨g1, g2, g3, g4, g5, g6, g7, g8⟩ := hK
      rw [u2_ne (show p ≠ 38 + 2 * n by omega), u2_ne (show p + 1 ≠ 38 + 2 * n by omega)]
      exact ⟨g1, g2, g3, g4, g5, g6, g7, SR_fr _ (fun j _ => by rw [u2_ne (by omega), u2_ne (by omega), u2_ne (by omega)]; exact ⟨rfl, rfl, rfl⟩) g8⟩
    refine ev_mono (c32t hn hp (RC_u (by unfold Dk; omega) hR) hK2 h24 hr) ?_
    rintro r M' ⟨v9, e1, e2, σ', e3, h1, h2⟩
    refine ⟨v9, e1, e2, σ', e3, ?_, (FrA.u (by unfold Dk; omega)).trans h2⟩
    unfold kpS kpG
    rw [if_neg hc]
    dsimp only at h1
    rw [u2_off (show (17 ≠ 38 + 2 * n ∨ 0 ≠ 4) by omega)] at h1
    exact h1
  have hB : (n ∈ S.2.1 ∧ S.1 (38 + 2 * n) 0 = w.2.1) → Ev (d + 3) 32 40 [some (.ref 8), some (.int (nI n)), some (.ref p), some (.ref (38 + 2 * n))] [] (sC M σ) (fun q9 M' => ∃ v9, q9 = .inl v9 ∧ v9 = none ∧ ∃ σ', M' = sC M σ' ∧ RC σ' (kpS S n w.2.1 rd) ∧ FrA σ σ') := by
    intro hc
    refine ev_mono (c32t hn hp hR hK h24 hr) ?_
    rintro r M' ⟨v9, e1, e2, σ', e3, h1, h2⟩
    refine ⟨v9, e1, e2, σ', e3, ?_, h2⟩
    unfold kpS kpG
    rw [if_pos hc]
    exact h1
  refine ev_aload_n t_32_0 rfl ?_
  refine es_get (x := .ref 19) o_MR t_32_1 rfl ?_
  refine ev_iload_n t_32_4 rfl ?_
  refine es_rald (k := n) (x := .ref (38 + 2 * n)) r_CA t_32_5 (by omega) rfl ?_
  refine ev_astore_n (L' := [some (.ref 8), some (.int (nI (n))), some (.ref p), some (.ref (38 + 2 * n))]) t_32_6 (Nat.le_of_ble_eq_true rfl) rfl ?_
  refine ev_aload_n t_32_7 rfl ?_
  refine es_get (x := .ref 20) o_MR t_32_8 rfl ?_
  refine ev_iload_n t_32_11 rfl ?_
  refine ev_cl (pm_st_V t_32_12 (as := [.ref 20, .int (nI (n))]) (rest := []) (L0 := [some (.ref 20), some (.int (nI (n)))]) rfl rfl (Nat.le_of_ble_eq_true rfl) (Nat.le_of_ble_eq_true rfl) rfl (es_rc o_RO rfl (Nat.le_of_ble_eq_true rfl))) rfl (c81r (by omega) hR) ?_
  rintro _ _ ⟨rfl, rfl⟩
  change Ev _ _ _ _ ([.int (bI (decide (n ∈ S.2.1)))]) _ _
  refine ev_if_eq (y := 0) t_32_15 (fun h_15 => ?_) (fun h_15 => ?_)
  · refine ev_aload_n t_32_29 rfl ?_
    refine ev_aload_n t_32_30 rfl ?_
    refine es_get (x := .ref 17) o_MR t_32_31 rfl ?_
    refine es_get (x := .int (σ (17) 0)) o_Ed t_32_34 rfl ?_
    refine ev_top (y := (S.1 17 0)) (by exact e17) ?_
    refine es_put (o_Ce (n := n) (by omega)) t_32_37 rfl (Nat.le_of_ble_eq_true rfl) rfl ?_
    exact hA (fun h => bI_d0.mp h_15 h.1)
  · refine ev_aload_n t_32_18 rfl ?_
    refine es_get (x := .int (σ (38 + 2 * n) 0)) (o_Ce (n := n) (by omega)) t_32_19 rfl ?_
    refine ev_top (y := (S.1 (38 + 2 * n) 0)) (by exact e0) ?_
    refine ev_aload_n t_32_22 rfl ?_
    refine es_get (x := .int (σ (p) 1)) (o_Wop hp) t_32_23 rfl ?_
    refine ev_top (y := w.2.1) (by exact ev) ?_
    refine ev_icmp_eq t_32_26 (fun h_26 => ?_) (fun h_26 => ?_)
    · exact hB ⟨Decidable.byContradiction fun h => h_15 (bI_d0.mpr h), h_26⟩
    · refine ev_aload_n t_32_29 rfl ?_
      refine ev_aload_n t_32_30 rfl ?_
      refine es_get (x := .ref 17) o_MR t_32_31 rfl ?_
      refine es_get (x := .int (σ (17) 0)) o_Ed t_32_34 rfl ?_
      refine ev_top (y := (S.1 17 0)) (by exact e17) ?_
      refine es_put (o_Ce (n := n) (by omega)) t_32_37 rfl (Nat.le_of_ble_eq_true rfl) rfl ?_
      exact hA (fun h => h_26 h.2)
end ME
