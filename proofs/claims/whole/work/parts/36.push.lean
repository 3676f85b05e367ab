/-! The reference: isGood's other ends. -/
section MI
variable {d : Nat} {M : pm_M} {τ : Nat → Nat → Int32} {S : SP} {ck : Nat} {u : List Nat} {rf : Nat → Bool} {n : Nat}
theorem m55c (hn : n < 96) (hR : RM τ S ck) (hl : ∀ m, m < 96 → (S.2.2 m).length ≤ 24) (hu : MU τ u rf) (h20 : u.length ≤ 20) (hub : ∀ x ∈ u, x < 96) (hnu : n ∈ u) : Ev (d + 2) 55 0 [some (.ref 370), some (.int (nI n))] [] (sM M τ) (fun q9 M' => ∃ v9, q9 = .inl v9 ∧ v9 = some (.int 0) ∧ ∃ τ', M' = sM M τ' ∧ RM τ' ((u.drop (u.idxOf n)).foldl ci1 S) (ck + (u.drop (u.idxOf n)).length) ∧ MU τ' [] rf ∧ FrI τ τ' ∧ τ' 370 29 = τ 370 29) := by
  have hc := m54 (d := d) (M := M) h20 hub hnu hR hl hu
  refine ev_aload_n t_55_0 rfl ?_
  refine ev_iload_n t_55_1 rfl ?_
  refine ev_cl (pm_st_V t_55_2 (as := [.ref 370, .int (nI (n))]) (rest := []) (L0 := [some (.ref 370), some (.int (nI (n))), none, none]) rfl rfl (Nat.le_of_ble_eq_true rfl) (Nat.le_of_ble_eq_true rfl) rfl (es_rc o_MO rfl (Nat.le_of_ble_eq_true rfl))) rfl (m52 hn hu h20 hub) ?_
  rintro _ _ ⟨rfl, rfl⟩
  change Ev _ _ _ _ ([.int (bI (decide (n ∈ u)))]) _ _
  refine ev_if_eq (y := 0) t_55_5 (fun h_5 => ?_) (fun h_5 => ?_)
  · exact absurd hnu (bI_d0.mp h_5)
  · refine ev_aload_n t_55_8 rfl ?_
    refine ev_iload_n t_55_9 rfl ?_
    refine ev_cl (pm_st_V t_55_10 (as := [.ref 370, .int (nI (n))]) (rest := []) (L0 := [some (.ref 370), some (.int (nI (n))), none, none, none]) rfl rfl (Nat.le_of_ble_eq_true rfl) (Nat.le_of_ble_eq_true rfl) rfl (es_rc o_MO rfl (Nat.le_of_ble_eq_true rfl))) rfl (hc) ?_
    rintro _ _ ⟨rfl, τ1, rfl, k1, k2, k3, k4⟩
    change Ev _ _ _ _ ([]) _ _
    refine ev_iconst t_55_13 ?_
    change Ev _ _ _ _ ([.int (nI (0))]) _ _
    exact ev_reti t_55_14 (rz rfl (by decide)) ⟨_, rfl, rfl, _, rfl, k1, k2, k3, k4⟩
theorem m55n {Q : pm_R → pm_M → Prop} (hn : n < 96) (hR : RM τ S ck) (hlv : ∃ l, l < 3 ∧ S.1 (38 + 2 * n) 5 = nI l) (hu : MU τ u rf) (h20 : u.length ≤ 20) (hub : ∀ x ∈ u, x < 96) (hnu : n ∉ u) (hg : ¬ gdB S n = true) (hs : ¬ skB S n = true) (kk : Ev (d + 1) 55 83 [some (.ref 370), some (.int (nI n))] [] (sM M τ) Q) : Ev (d + 1) 55 0 [some (.ref 370), some (.int (nI n))] [] (sM M τ) Q := by
  by_cases hm : n ∈ S.2.1
  · obtain ⟨l, hl3, el⟩ := hlv
    have hlv2 : lvO S n = l := by unfold lvO; rw [el, nI_clamp (by omega)]
    have ht : (!tch S.1 l (S.1 (38 + 2 * n) 3)) = false := by
      unfold skB at hs
      rw [decide_eq_true hm, hlv2, Bool.true_and] at hs
      exact Bool.eq_false_iff.mpr hs
    have eh : τ 379 n = nI 1 := by rw [hR.2.1 n hn, decide_eq_true hm]; rfl
    obtain ⟨⟨-, e81, -, e83, -⟩, -⟩ := hR.2.2.1 n hm
    have e5 := hR.1.1.1
    have hng : ¬ S.1 (38 + 2 * n) 3 = S.1 17 0 := fun e => hg (decide_eq_true ⟨hm, e⟩)
    have c53 := m53 (d := d) (M := M) hn hl3 hR.1 e81 (e83.trans el)
    rw [ht] at c53
    refine ev_aload_n t_55_0 rfl ?_
    refine ev_iload_n t_55_1 rfl ?_
    refine ev_cl (pm_st_V t_55_2 (as := [.ref 370, .int (nI (n))]) (rest := []) (L0 := [some (.ref 370), some (.int (nI (n))), none, none]) rfl rfl (Nat.le_of_ble_eq_true rfl) (Nat.le_of_ble_eq_true rfl) rfl (es_rc o_MO rfl (Nat.le_of_ble_eq_true rfl))) rfl (m52 hn hu h20 hub) ?_
    rintro _ _ ⟨rfl, rfl⟩
    change Ev _ _ _ _ ([.int (bI (decide (n ∈ u)))]) _ _
    refine ev_if_eq (y := 0) t_55_5 (fun h_5 => ?_) (fun h_5 => ?_)
    · refine ev_aload_n t_55_15 rfl ?_
      refine es_get (x := .ref 379) o_MO t_55_16 rfl ?_
      refine ev_iload_n t_55_19 rfl ?_
      refine es_zald (k := n) a_m379 t_55_20 (by omega) ?_
      refine ev_top eh ?_
      refine ev_if_eqN t_55_21 (by omega) (fun h_21 => ?_) (fun h_21 => ?_)
      · omega
      · refine ev_aload_n t_55_24 rfl ?_
        refine es_get (x := .ref 381) o_MO t_55_25 rfl ?_
        refine ev_iload_n t_55_28 rfl ?_
        refine es_iald (k := n) a_m381 t_55_29 (by omega) ?_
        refine ev_top (y := (S.1 (38 + 2 * n) 3)) e81 ?_
        refine ev_aload_n t_55_30 rfl ?_
        refine es_get (x := .int (τ (370) 5)) o_MO t_55_31 rfl ?_
        refine ev_top (y := (S.1 17 0)) (by exact e5) ?_
        refine ev_icmp_ne t_55_34 (fun h_34 => ?_) (fun h_34 => ?_)
        · refine ev_aload_n t_55_39 rfl ?_
          refine es_get (x := .ref 379) o_MO t_55_40 rfl ?_
          refine ev_iload_n t_55_43 rfl ?_
          refine es_zald (k := n) a_m379 t_55_44 (by omega) ?_
          refine ev_top eh ?_
          refine ev_if_eqN t_55_45 (by omega) (fun h_45 => ?_) (fun h_45 => ?_)
          · omega
          · refine ev_aload_n t_55_48 rfl ?_
            refine ev_iload_n t_55_49 rfl ?_
            refine ev_cl (pm_st_V t_55_50 (as := [.ref 370, .int (nI (n))]) (rest := []) (L0 := [some (.ref 370), some (.int (nI (n))), none, none]) rfl rfl (Nat.le_of_ble_eq_true rfl) (Nat.le_of_ble_eq_true rfl) rfl (es_rc o_MO rfl (Nat.le_of_ble_eq_true rfl))) rfl (c53) ?_
            rintro _ _ ⟨rfl, rfl⟩
            change Ev _ _ _ _ ([.int (nI (0))]) _ _
            refine ev_if_eqN t_55_53 (by omega) (fun h_53 => ?_) (fun h_53 => ?_)
            · exact kk
            · exact absurd rfl h_53
        · exact absurd (Decidable.byContradiction h_34) hng
    · exact absurd (bI_d0.mpr hnu) h_5
  · have eh : τ 379 n = nI 0 := by rw [hR.2.1 n hn, decide_eq_false hm]; rfl
    refine ev_aload_n t_55_0 rfl ?_
    refine ev_iload_n t_55_1 rfl ?_
    refine ev_cl (pm_st_V t_55_2 (as := [.ref 370, .int (nI (n))]) (rest := []) (L0 := [some (.ref 370), some (.int (nI (n))), none, none]) rfl rfl (Nat.le_of_ble_eq_true rfl) (Nat.le_of_ble_eq_true rfl) rfl (es_rc o_MO rfl (Nat.le_of_ble_eq_true rfl))) rfl (m52 hn hu h20 hub) ?_
    rintro _ _ ⟨rfl, rfl⟩
    change Ev _ _ _ _ ([.int (bI (decide (n ∈ u)))]) _ _
    refine ev_if_eq (y := 0) t_55_5 (fun h_5 => ?_) (fun h_5 => ?_)
    · refine ev_aload_n t_55_15 rfl ?_
      refine es_get (x := .ref 379) o_MO t_55_16 rfl ?_
      refine ev_iload_n t_55_19 rfl ?_
      refine es_zald (k := n) a_m379 t_55_20 (by omega) ?_
      refine ev_top eh ?_
      refine ev_if_eqN t_55_21 (by omega) (fun h_21 => ?_) (fun h_21 => ?_)
      · refine ev_aload_n t_55_39 rfl ?_
        refine es_get (x := .ref 379) o_MO t_55_40 rfl ?_
        refine ev_iload_n t_55_43 rfl ?_
        refine es_zald (k := n) a_m379 t_55_44 (by omega) ?_
        refine ev_top eh ?_
        refine ev_if_eqN t_55_45 (by omega) (fun h_45 => ?_) (fun h_45 => ?_)
        · exact kk
        · exact absurd rfl h_45
      · exact absurd rfl h_21
    · exact absurd (bI_d0.mpr hnu) h_5
theorem m55u (hn : n < 96) (hR : RM τ S ck) (hlv : ∃ l, l < 3 ∧ S.1 (38 + 2 * n) 5 = nI l) (hu : MU τ u rf) (h20 : u.length = 20) (hub : ∀ x ∈ u, x < 96) (hnu : n ∉ u) (hg : ¬ gdB S n = true) (hs : ¬ skB S n = true) : Ev (d + 1) 55 0 [some (.ref 370), some (.int (nI n))] [] (sM M τ) (fun q9 M' => ∃ v9, q9 = .inl v9 ∧ v9 = some (.int 0) ∧ ∃ τ', M' = sM M τ' ∧ RM τ' S ck ∧ MU τ' u rf ∧ FrI τ τ' ∧ τ' 370 29 = 1) := by
  refine m55n hn hR hlv hu (by omega) hub hnu hg hs ?_
  refine ev_aload_n t_55_83 rfl ?_
  refine es_get (x := .int (τ (370) 26)) o_MO t_55_84 rfl ?_
  refine ev_top (y := (nI (u.length))) (by (repeat rw [u2_off (by omega)]); exact hu.1) ?_
  refine ev_bipush t_55_87 ?_
  change Ev _ _ _ _ ([.int (nI (20)), .int (nI (u.length))]) _ _
  refine ev_icmp_neN t_55_89 (by omega) (by omega) (fun h_89 => ?_) (fun h_89 => ?_)
  · omega
  · refine ev_aload_n t_55_92 rfl ?_
    refine ev_iconst t_55_93 ?_
    change Ev _ _ _ _ ([.int (nI (1)), .ref 370]) _ _
    refine es_putV (y := (nI (1))) o_MO t_55_94 (Nat.le_of_ble_eq_true rfl) rfl rfl rfl ?_
    refine ev_iconst t_55_97 ?_
    change Ev _ _ _ _ ([.int (nI (0))]) _ _
    exact ev_reti t_55_98 (rz rfl (by decide)) ⟨_, rfl, rfl, _, rfl, RM_n hR (by omega) (by omega), MU_fr (u2_off (by omega)) (u2_ne (by omega)) (u2_ne (by omega)) hu, FrI.u (by omega) (by omega), u2_at⟩
def rfp (rf : Nat → Bool) (k : Nat) (b : Bool) : Nat → Bool := fun i => if i = k then b else rf i
theorem MU_push {b : Bool} {x : Int32} (hx : x = bI b) (hu : MU τ u rf) : MU (u2 (u2 (u2 τ 388 u.length (nI n)) 389 u.length x) 370 26 (nI (u.length + 1))) (u ++ [n]) (rfp rf u.length b) := by
  refine ⟨by rw [u2_at]; simp, fun i hi => ?_⟩
  unfold rfp
  by_cases e : i = u.length
  · subst e
    refine ⟨?_, ?_⟩
    · rw [u2_off (by omega), u2_off (by omega), u2_at]
      simp [List.getD_eq_getElem?_getD]
    · rw [u2_off (by omega), u2_at, if_pos rfl]
      exact hx
  · have hi' : i < u.length := by simp at hi; omega
    refine ⟨?_, ?_⟩
    · rw [u2_off (by omega), u2_off (by omega), u2_off (by omega), (hu.2 i hi').1]
      simp only [List.getD_eq_getElem?_getD]
      rw [List.getElem?_append_left hi']
    · rw [u2_off (by omega), u2_off (by omega), u2_off (by omega), if_neg e]
      exact (hu.2 i hi').2
theorem m55p (hn : n < 96) (hR : RM τ S ck) (hlv : ∃ l, l < 3 ∧ S.1 (38 + 2 * n) 5 = nI l) (hu : MU τ u rf) (h20 : u.length < 20) (hub : ∀ x ∈ u, x < 96) (hnu : n ∉ u) (hg : ¬ gdB S n = true) (hs : ¬ skB S n = true) : Ev (d + 1) 55 0 [some (.ref 370), some (.int (nI n))] [] (sM M τ) (fun q9 M' => ∃ v9, q9 = .inl v9 ∧ v9 = some (.int 0) ∧ ∃ τ', M' = sM M τ' ∧ RM τ' S ck ∧ MU τ' (u ++ [n]) (rfp rf u.length (decide (¬ n ∈ S.2.1))) ∧ FrI τ τ' ∧ τ' 370 29 = τ 370 29) := by
  refine m55n hn hR hlv hu (by omega) hub hnu hg hs ?_
  have eh := hR.2.1 n hn
  refine ev_aload_n t_55_83 rfl ?_
  refine es_get (x := .int (τ (370) 26)) o_MO t_55_84 rfl ?_
  refine ev_top (y := (nI (u.length))) (by (repeat rw [u2_off (by omega)]); exact hu.1) ?_
  refine ev_bipush t_55_87 ?_
  change Ev _ _ _ _ ([.int (nI (20)), .int (nI (u.length))]) _ _
  refine ev_icmp_neN t_55_89 (by omega) (by omega) (fun h_89 => ?_) (fun h_89 => ?_)
  · refine ev_aload_n t_55_99 rfl ?_
    refine es_get (x := .ref 388) o_MO t_55_100 rfl ?_
    refine ev_aload_n t_55_103 rfl ?_
    refine es_get (x := .int (τ (370) 26)) o_MO t_55_104 rfl ?_
    refine ev_top (y := (nI (u.length))) (by (repeat rw [u2_off (by omega)]); exact hu.1) ?_
    refine ev_iload_n t_55_107 rfl ?_
    refine es_iast (k := u.length) a_m388 t_55_108 (by omega) ?_
    refine ev_aload_n t_55_109 rfl ?_
    refine es_get (x := .ref 389) o_MO t_55_110 rfl ?_
    refine ev_aload_n t_55_113 rfl ?_
    refine es_get (x := .int ((u2 τ (388) (u.length) (nI (n))) (370) 26)) o_MO t_55_114 rfl ?_
    refine ev_top (y := (nI (u.length))) (by (repeat rw [u2_off (by omega)]); exact hu.1) ?_
    refine ev_aload_n t_55_117 rfl ?_
    refine es_get (x := .ref 379) o_MO t_55_118 rfl ?_
    refine ev_iload_n t_55_121 rfl ?_
    refine es_zald (k := n) a_m379 t_55_122 (by omega) ?_
    refine ev_top (y := (bI (decide (n ∈ S.2.1)))) (by (repeat rw [u2_off (by omega)]); exact eh) ?_
    refine ev_if_ne (y := 0) t_55_123 (fun h_123 => ?_) (fun h_123 => ?_)
    · refine ev_iconst t_55_130 ?_
      change Ev _ _ _ _ ([.int (nI (0)), .int (nI (u.length)), .ref 389]) _ _
      refine es_zast (k := u.length) (y := (nI (0))) a_m389 t_55_131 (by omega) (rfl) ?_
      refine ev_aload_n t_55_132 rfl ?_
      refine ev_dup t_55_133 rfl ?_
      refine es_get (x := .int ((u2 (u2 τ (388) (u.length) (nI (n))) (389) (u.length) (nI (0))) (370) 26)) o_MO t_55_134 rfl ?_
      refine ev_top (y := (nI (u.length))) (by (repeat rw [u2_off (by omega)]); exact hu.1) ?_
      refine ev_iconst t_55_137 ?_
      change Ev _ _ _ _ ([.int (nI (1)), .int (nI (u.length)), .ref 370]) _ _
      refine ev_iaddN t_55_138 ?_
      refine es_put o_MO t_55_139 rfl (Nat.le_of_ble_eq_true rfl) rfl ?_
      refine ev_iconst t_55_142 ?_
      change Ev _ _ _ _ ([.int (nI (0))]) _ _
      exact ev_reti t_55_143 (rz rfl (by decide)) ⟨_, rfl, rfl, _, rfl, RM_n (RM_n (RM_n hR (by omega) (by omega)) (by omega) (by omega)) (by omega) (by omega), MU_push (by rw [decide_eq_false (fun h => h_123 (bI_d0.mpr h))]; rfl) hu, (FrI.u (by omega) (by omega)).trans ((FrI.u (by omega) (by omega)).trans (FrI.u (by omega) (by omega))), (by rw [u2_off (by omega), u2_off (by omega), u2_off (by omega)])⟩
    · refine ev_iconst t_55_126 ?_
      change Ev _ _ _ _ ([.int (nI (1)), .int (nI (u.length)), .ref 389]) _ _
      refine ev_goto t_55_127 ?_
      refine es_zast (k := u.length) (y := (nI (1))) a_m389 t_55_131 (by omega) (rfl) ?_
      refine ev_aload_n t_55_132 rfl ?_
      refine ev_dup t_55_133 rfl ?_
      refine es_get (x := .int ((u2 (u2 τ (388) (u.length) (nI (n))) (389) (u.length) (nI (1))) (370) 26)) o_MO t_55_134 rfl ?_
      refine ev_top (y := (nI (u.length))) (by (repeat rw [u2_off (by omega)]); exact hu.1) ?_
      refine ev_iconst t_55_137 ?_
      change Ev _ _ _ _ ([.int (nI (1)), .int (nI (u.length)), .ref 370]) _ _
      refine ev_iaddN t_55_138 ?_
      refine es_put o_MO t_55_139 rfl (Nat.le_of_ble_eq_true rfl) rfl ?_
      refine ev_iconst t_55_142 ?_
      change Ev _ _ _ _ ([.int (nI (0))]) _ _
      exact ev_reti t_55_143 (rz rfl (by decide)) ⟨_, rfl, rfl, _, rfl, RM_n (RM_n (RM_n hR (by omega) (by omega)) (by omega) (by omega)) (by omega) (by omega), MU_push (by rw [decide_eq_true (bI_d0.mp (Decidable.byContradiction h_123))]; rfl) hu, (FrI.u (by omega) (by omega)).trans ((FrI.u (by omega) (by omega)).trans (FrI.u (by omega) (by omega))), (by rw [u2_off (by omega), u2_off (by omega), u2_off (by omega)])⟩
  · omega
end MI
