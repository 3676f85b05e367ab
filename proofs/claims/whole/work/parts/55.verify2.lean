/-! The reference: verify, piece by piece. -/
section VF
variable {d : Nat} {M : pm_M} {τ : Nat → Nat → Int32} {Q : pm_R → pm_M → Prop} {S : SP} {ck : Nat} {u : List Nat} {rf : Nat → Bool} {n : Nat}
theorem MU_top (hu : MU τ (u ++ [n]) rf) : τ 370 26 = nI (u.length + 1) ∧ τ 388 u.length = nI n ∧ τ 389 u.length = bI (rf u.length) := by
  obtain ⟨h1, h2⟩ := hu
  obtain ⟨h3, h4⟩ := h2 u.length (by simp)
  refine ⟨by rw [h1]; simp, ?_, h4⟩
  rw [h3]; simp [List.getD_eq_getElem?_getD]
theorem MU_pop (hu : MU τ (u ++ [n]) rf) : MU (u2 τ 370 26 (nI u.length)) u rf := by
  obtain ⟨h1, h2⟩ := hu
  refine ⟨u2_at, fun i hi => ?_⟩
  rw [u2_off (by omega), u2_off (by omega)]
  obtain ⟨h3, h4⟩ := h2 i (by simp; omega)
  refine ⟨?_, h4⟩
  rw [h3]
  simp only [List.getD_eq_getElem?_getD]
  rw [List.getElem?_append_left hi]
theorem MU_run (hu : MU τ (u ++ [n]) rf) : MU (u2 τ 389 u.length 1) (u ++ [n]) (rfp rf u.length true) := by
  obtain ⟨h1, h2⟩ := hu
  refine ⟨by rw [u2_off (by omega)]; exact h1, fun i hi => ⟨by rw [u2_off (by omega)]; exact (h2 i hi).1, ?_⟩⟩
  unfold rfp
  by_cases e : i = u.length
  · subst e; rw [u2_at, if_pos rfl]; rfl
  · rw [u2_off (by omega), if_neg e]; exact (h2 i hi).2
theorem m57h (h20 : u.length < 20) (hu : MU τ (u ++ [n]) rf) (kk : Ev d 57 19 [some (.ref 370), some (.int (nI u.length)), some (.int (nI n)), some (.int (nI 2)), some (.int (nI (0))), none] [] (sM M τ) Q) : Ev d 57 0 [some (.ref 370), none, none, none, none, none] [] (sM M τ) Q := by
  obtain ⟨h26, h88, -⟩ := MU_top hu
  refine ev_aload_n t_57_0 rfl ?_
  refine es_get (x := .int (τ (370) 26)) o_MO t_57_1 rfl ?_
  refine ev_top (y := (nI (u.length + 1))) (by exact h26) ?_
  refine ev_iconst t_57_4 ?_
  change Ev _ _ _ _ ([.int (nI (1)), .int (nI (u.length + 1))]) _ _
  refine ev_isubN t_57_5 (by omega) ?_
  change Ev _ _ _ _ ([.int (nI (u.length))]) _ _
  refine ev_istore_n (L' := [some (.ref 370), some (.int (nI (u.length))), none, none, none, none]) t_57_6 (Nat.le_of_ble_eq_true rfl) rfl ?_
  refine ev_aload_n t_57_7 rfl ?_
  refine es_get (x := .ref 388) o_MO t_57_8 rfl ?_
  refine ev_iload_n t_57_11 rfl ?_
  refine es_iald (k := u.length) a_m388 t_57_12 (by omega) ?_
  refine ev_top (y := nI (n)) h88 ?_
  refine ev_istore_n (L' := [some (.ref 370), some (.int (nI (u.length))), some (.int (nI (n))), none, none, none]) t_57_13 (Nat.le_of_ble_eq_true rfl) rfl ?_
  refine ev_iconst t_57_14 ?_
  change Ev _ _ _ _ ([.int (nI (2))]) _ _
  refine ev_istore_n (L' := [some (.ref 370), some (.int (nI (u.length))), some (.int (nI (n))), some (.int (nI (2))), none, none]) t_57_15 (Nat.le_of_ble_eq_true rfl) rfl ?_
  refine ev_iconst t_57_16 ?_
  change Ev _ _ _ _ ([.int (nI (0))]) _ _
  refine ev_istore (L' := [some (.ref 370), some (.int (nI (u.length))), some (.int (nI (n))), some (.int (nI (2))), some (.int (nI (0))), none]) t_57_17 (Nat.le_of_ble_eq_true rfl) rfl ?_
  exact kk
theorem m57a {P : (Nat → Nat → Int32) → Prop} {i : Nat} {lst : Int32} {o5 : Option Value} (hn : n < 96) (hR : RM τ S ck) (hm : n ∈ S.2.1) (hl : (S.2.2 n).length ≤ 24) (hi : i < (S.2.2 n).length) (hr : RdOk ((S.2.2 n).getD i 0)) (hc : 100 ≤ (S.2.2 n).getD i 0) (hg : Ev d 55 0 [some (.ref 370), some (.int (nI ((S.2.2 n).getD i 0 - 100)))] [] (sM M τ) (fun q9 M' => ∃ v9, q9 = .inl v9 ∧ v9 = some (.int 1) ∧ ∃ τ', M' = sM M τ' ∧ P τ')) (kk : ∀ τ', P τ' → Ev (d + 1) 57 64 [some (.ref 370), some (.int (nI u.length)), some (.int (nI n)), some (.int lst), some (.int (nI (i))), some (.int (nI ((S.2.2 n).getD i 0)))] [] (sM M τ') Q) : Ev (d + 1) 57 19 [some (.ref 370), some (.int (nI u.length)), some (.int (nI n)), some (.int lst), some (.int (nI (i))), o5] [] (sM M τ) Q := by
  obtain ⟨⟨-, e81, -, -, -⟩, e86, e85⟩ := hR.2.2.1 n hm
  have hx := e85 i hi
  unfold RdOk at hr
  refine ev_iload t_57_19 rfl ?_
  refine ev_aload_n t_57_21 rfl ?_
  refine es_get (x := .ref 386) o_MO t_57_22 rfl ?_
  refine ev_iload_n t_57_25 rfl ?_
  refine es_iald (k := n) a_m386 t_57_26 (by omega) ?_
  refine ev_top (y := nI ((S.2.2 n).length)) e86 ?_
  refine ev_icmp_geN t_57_27 (by omega) (by omega) (fun h_27 => ?_) (fun h_27 => ?_)
  · omega
  · refine ev_aload_n t_57_30 rfl ?_
    refine es_get (x := .ref 385) o_MO t_57_31 rfl ?_
    refine ev_bipush t_57_34 ?_
    change Ev _ _ _ _ ([.int (nI (24)), .ref 385]) _ _
    refine ev_iload_n t_57_36 rfl ?_
    refine ev_imulN t_57_37 ?_
    refine ev_iload t_57_38 rfl ?_
    refine ev_iaddN t_57_40 ?_
    refine es_iald (k := ((24) * (n)) + (i)) a_m385 t_57_41 (by omega) ?_
    refine ev_top (y := nI ((S.2.2 n).getD i 0)) hx ?_
    refine ev_istore (L' := [some (.ref 370), some (.int (nI (u.length))), some (.int (nI (n))), some (.int lst), some (.int (nI (i))), some (.int (nI ((S.2.2 n).getD i 0)))]) t_57_42 (Nat.le_of_ble_eq_true rfl) rfl ?_
    refine ev_iload t_57_44 rfl ?_
    refine ev_bipush t_57_46 ?_
    change Ev _ _ _ _ ([.int (nI (100)), .int (nI ((S.2.2 n).getD i 0))]) _ _
    refine ev_icmp_ltN t_57_48 (by omega) (by omega) (fun h_48 => ?_) (fun h_48 => ?_)
    · omega
    · refine ev_aload_n t_57_51 rfl ?_
      refine ev_iload t_57_52 rfl ?_
      refine ev_bipush t_57_54 ?_
      change Ev _ _ _ _ ([.int (nI (100)), .int (nI ((S.2.2 n).getD i 0)), .ref 370]) _ _
      refine ev_isubN t_57_56 (by omega) ?_
      refine ev_cl (pm_st_V t_57_57 (as := [.ref 370, .int (nI (((S.2.2 n).getD i 0) - (100)))]) (rest := []) (L0 := [some (.ref 370), some (.int (nI (((S.2.2 n).getD i 0) - (100))))]) rfl rfl (Nat.le_of_ble_eq_true rfl) (Nat.le_of_ble_eq_true rfl) rfl (es_rc o_MO rfl (Nat.le_of_ble_eq_true rfl))) rfl (hg) ?_
      rintro _ _ ⟨rfl, τ1, rfl, p1⟩
      change Ev _ _ _ _ ([.int (nI (1))]) _ _
      refine ev_if_neN t_57_60 (by omega) (fun h_60 => ?_) (fun h_60 => ?_)
      · exact kk τ1 p1
      · omega
theorem m57z {P : (Nat → Nat → Int32) → Prop} {i : Nat} {lst : Int32} {o5 : Option Value} (hn : n < 96) (hR : RM τ S ck) (hm : n ∈ S.2.1) (hl : (S.2.2 n).length ≤ 24) (hi : i < (S.2.2 n).length) (hr : RdOk ((S.2.2 n).getD i 0)) (hc : 100 ≤ (S.2.2 n).getD i 0) (hg : Ev d 55 0 [some (.ref 370), some (.int (nI ((S.2.2 n).getD i 0 - 100)))] [] (sM M τ) (fun q9 M' => ∃ v9, q9 = .inl v9 ∧ v9 = some (.int 0) ∧ ∃ τ', M' = sM M τ' ∧ P τ')) (kk : ∀ τ', P τ' → Q (.inl none) (sM M τ')) : Ev (d + 1) 57 19 [some (.ref 370), some (.int (nI u.length)), some (.int (nI n)), some (.int lst), some (.int (nI (i))), o5] [] (sM M τ) Q := by
  obtain ⟨⟨-, e81, -, -, -⟩, e86, e85⟩ := hR.2.2.1 n hm
  have hx := e85 i hi
  unfold RdOk at hr
  refine ev_iload t_57_19 rfl ?_
  refine ev_aload_n t_57_21 rfl ?_
  refine es_get (x := .ref 386) o_MO t_57_22 rfl ?_
  refine ev_iload_n t_57_25 rfl ?_
  refine es_iald (k := n) a_m386 t_57_26 (by omega) ?_
  refine ev_top (y := nI ((S.2.2 n).length)) e86 ?_
  refine ev_icmp_geN t_57_27 (by omega) (by omega) (fun h_27 => ?_) (fun h_27 => ?_)
  · omega
  · refine ev_aload_n t_57_30 rfl ?_
    refine es_get (x := .ref 385) o_MO t_57_31 rfl ?_
    refine ev_bipush t_57_34 ?_
    change Ev _ _ _ _ ([.int (nI (24)), .ref 385]) _ _
    refine ev_iload_n t_57_36 rfl ?_
    refine ev_imulN t_57_37 ?_
    refine ev_iload t_57_38 rfl ?_
    refine ev_iaddN t_57_40 ?_
    refine es_iald (k := ((24) * (n)) + (i)) a_m385 t_57_41 (by omega) ?_
    refine ev_top (y := nI ((S.2.2 n).getD i 0)) hx ?_
    refine ev_istore (L' := [some (.ref 370), some (.int (nI (u.length))), some (.int (nI (n))), some (.int lst), some (.int (nI (i))), some (.int (nI ((S.2.2 n).getD i 0)))]) t_57_42 (Nat.le_of_ble_eq_true rfl) rfl ?_
    refine ev_iload t_57_44 rfl ?_
    refine ev_bipush t_57_46 ?_
    change Ev _ _ _ _ ([.int (nI (100)), .int (nI ((S.2.2 n).getD i 0))]) _ _
    refine ev_icmp_ltN t_57_48 (by omega) (by omega) (fun h_48 => ?_) (fun h_48 => ?_)
    · omega
    · refine ev_aload_n t_57_51 rfl ?_
      refine ev_iload t_57_52 rfl ?_
      refine ev_bipush t_57_54 ?_
      change Ev _ _ _ _ ([.int (nI (100)), .int (nI ((S.2.2 n).getD i 0)), .ref 370]) _ _
      refine ev_isubN t_57_56 (by omega) ?_
      refine ev_cl (pm_st_V t_57_57 (as := [.ref 370, .int (nI (((S.2.2 n).getD i 0) - (100)))]) (rest := []) (L0 := [some (.ref 370), some (.int (nI (((S.2.2 n).getD i 0) - (100))))]) rfl rfl (Nat.le_of_ble_eq_true rfl) (Nat.le_of_ble_eq_true rfl) rfl (es_rc o_MO rfl (Nat.le_of_ble_eq_true rfl))) rfl (hg) ?_
      rintro _ _ ⟨rfl, τ1, rfl, p1⟩
      change Ev _ _ _ _ ([.int (nI (0))]) _ _
      refine ev_if_neN t_57_60 (by omega) (fun h_60 => ?_) (fun h_60 => ?_)
      · exact absurd rfl h_60
      · exact ev_retv t_57_63 rfl (kk τ1 p1)
theorem m57i {i : Nat} {lst : Int32} {o5 : Option Value} (hn : n < 96) (hR : RM τ S ck) (hm : n ∈ S.2.1) (hl : (S.2.2 n).length ≤ 24) (hi : i < (S.2.2 n).length) (hc : (S.2.2 n).getD i 0 < 100) (kk : Ev (d + 1) 57 64 [some (.ref 370), some (.int (nI u.length)), some (.int (nI n)), some (.int lst), some (.int (nI (i))), some (.int (nI ((S.2.2 n).getD i 0)))] [] (sM M τ) Q) : Ev (d + 1) 57 19 [some (.ref 370), some (.int (nI u.length)), some (.int (nI n)), some (.int lst), some (.int (nI (i))), o5] [] (sM M τ) Q := by
  obtain ⟨⟨-, e81, -, -, -⟩, e86, e85⟩ := hR.2.2.1 n hm
  have hx := e85 i hi
  refine ev_iload t_57_19 rfl ?_
  refine ev_aload_n t_57_21 rfl ?_
  refine es_get (x := .ref 386) o_MO t_57_22 rfl ?_
  refine ev_iload_n t_57_25 rfl ?_
  refine es_iald (k := n) a_m386 t_57_26 (by omega) ?_
  refine ev_top (y := nI ((S.2.2 n).length)) e86 ?_
  refine ev_icmp_geN t_57_27 (by omega) (by omega) (fun h_27 => ?_) (fun h_27 => ?_)
  · omega
  · refine ev_aload_n t_57_30 rfl ?_
    refine es_get (x := .ref 385) o_MO t_57_31 rfl ?_
    refine ev_bipush t_57_34 ?_
    change Ev _ _ _ _ ([.int (nI (24)), .ref 385]) _ _
    refine ev_iload_n t_57_36 rfl ?_
    refine ev_imulN t_57_37 ?_
    refine ev_iload t_57_38 rfl ?_
    refine ev_iaddN t_57_40 ?_
    refine es_iald (k := ((24) * (n)) + (i)) a_m385 t_57_41 (by omega) ?_
    refine ev_top (y := nI ((S.2.2 n).getD i 0)) hx ?_
    refine ev_istore (L' := [some (.ref 370), some (.int (nI (u.length))), some (.int (nI (n))), some (.int lst), some (.int (nI (i))), some (.int (nI ((S.2.2 n).getD i 0)))]) t_57_42 (Nat.le_of_ble_eq_true rfl) rfl ?_
    refine ev_iload t_57_44 rfl ?_
    refine ev_bipush t_57_46 ?_
    change Ev _ _ _ _ ([.int (nI (100)), .int (nI ((S.2.2 n).getD i 0))]) _ _
    refine ev_icmp_ltN t_57_48 (by omega) (by omega) (fun h_48 => ?_) (fun h_48 => ?_)
    · exact kk
    · omega
theorem m57b {r i : Nat} {lst : Int32} (hn : n < 96) (hR : RM τ S ck) (hm : n ∈ S.2.1) (hl : (S.2.2 n).length ≤ 24) (hi : i < 24) (hr : RdOk r) (hk : 100 ≤ r → r - 100 ∈ S.2.1) (hle : chO S.1 r ≤ S.1 (38 + 2 * n) 3) (kk : Ev (d + 1) 57 19 [some (.ref 370), some (.int (nI u.length)), some (.int (nI n)), some (.int (if clO S.1 r < lst then clO S.1 r else lst)), some (.int (nI (i + 1))), some (.int (nI r))] [] (sM M τ) Q) : Ev (d + 1) 57 64 [some (.ref 370), some (.int (nI u.length)), some (.int (nI n)), some (.int lst), some (.int (nI (i))), some (.int (nI r))] [] (sM M τ) Q := by
  obtain ⟨⟨-, e81, -, -, -⟩, -⟩ := hR.2.2.1 n hm
  have hcg : r < 100 → τ 375 r = chO S.1 r := fun h => by unfold chO; rw [if_pos h]; unfold RdOk at hr; exact (hR.1.2.1 r (by omega)).2
  have hch : 100 ≤ r → τ 382 (r - 100) = chO S.1 r := fun h => by unfold chO; rw [if_neg (by omega)]; exact (hR.2.2.1 _ (hk h)).1.2.2.1
  have h383 : 100 ≤ r → τ 383 (r - 100) = S.1 (38 + 2 * (r - 100)) 5 := fun h => (hR.2.2.1 _ (hk h)).1.2.2.2.1
  have hr2 := hr
  unfold RdOk at hr2
  refine ev_iload t_57_64 rfl ?_
  refine ev_bipush t_57_66 ?_
  change Ev _ _ _ _ ([.int (nI (100)), .int (nI (r))]) _ _
  refine ev_icmp_geN t_57_68 (by omega) (by omega) (fun h_68 => ?_) (fun h_68 => ?_)
  · refine ev_aload_n t_57_81 rfl ?_
    refine es_get (x := .ref 382) o_MO t_57_82 rfl ?_
    refine ev_iload t_57_85 rfl ?_
    refine ev_bipush t_57_87 ?_
    change Ev _ _ _ _ ([.int (nI (100)), .int (nI (r)), .ref 382]) _ _
    refine ev_isubN t_57_89 (by omega) ?_
    refine es_iald (k := (r) - (100)) a_m382 t_57_90 (by omega) ?_
    refine ev_top (y := (chO S.1 r)) (hch (by omega)) ?_
    refine ev_aload_n t_57_91 rfl ?_
    refine es_get (x := .ref 381) o_MO t_57_92 rfl ?_
    refine ev_iload_n t_57_95 rfl ?_
    refine es_iald (k := n) a_m381 t_57_96 (by omega) ?_
    refine ev_top (y := (S.1 (38 + 2 * n) 3)) e81 ?_
    refine ev_icmp_le t_57_97 (fun h_97 => ?_) (fun h_97 => ?_)
    · refine ev_aload_n t_57_108 rfl ?_
      refine ev_iload t_57_109 rfl ?_
      refine ev_cl (pm_st_V t_57_111 (as := [.ref 370, .int (nI (r))]) (rest := []) (L0 := [some (.ref 370), some (.int (nI (r)))]) rfl rfl (Nat.le_of_ble_eq_true rfl) (Nat.le_of_ble_eq_true rfl) rfl (es_rc o_MO rfl (Nat.le_of_ble_eq_true rfl))) rfl (m56 hr hR.1 h383) ?_
      rintro _ _ ⟨rfl, rfl⟩
      change Ev _ _ _ _ ([.int (clO S.1 r)]) _ _
      refine ev_iload_n t_57_114 rfl ?_
      refine ev_icmp_ge t_57_115 (fun h_115 => ?_) (fun h_115 => ?_)
      · refine ev_iload_n t_57_127 rfl ?_
        refine ev_istore_n (L' := [some (.ref 370), some (.int (nI (u.length))), some (.int (nI (n))), some (.int lst), some (.int (nI (i))), some (.int (nI (r)))]) t_57_128 (Nat.le_of_ble_eq_true rfl) rfl ?_
        refine ev_iincN (L' := [some (.ref 370), some (.int (nI (u.length))), some (.int (nI (n))), some (.int lst), some (.int (nI (i + 1))), some (.int (nI (r)))]) t_57_129 rfl (Nat.le_of_ble_eq_true rfl) rfl ?_
        refine ev_goto t_57_132 ?_
        first | (rw [if_pos (Int32.not_le.mp h_115)] at kk; exact kk) | (rw [if_neg (Int32.not_lt.mpr h_115)] at kk; exact kk)
      · refine ev_aload_n t_57_118 rfl ?_
        refine ev_iload t_57_119 rfl ?_
        refine ev_cl (pm_st_V t_57_121 (as := [.ref 370, .int (nI (r))]) (rest := []) (L0 := [some (.ref 370), some (.int (nI (r)))]) rfl rfl (Nat.le_of_ble_eq_true rfl) (Nat.le_of_ble_eq_true rfl) rfl (es_rc o_MO rfl (Nat.le_of_ble_eq_true rfl))) rfl (m56 hr hR.1 h383) ?_
        rintro _ _ ⟨rfl, rfl⟩
        change Ev _ _ _ _ ([.int (clO S.1 r)]) _ _
        refine ev_goto t_57_124 ?_
        refine ev_istore_n (L' := [some (.ref 370), some (.int (nI (u.length))), some (.int (nI (n))), some (.int (clO S.1 r)), some (.int (nI (i))), some (.int (nI (r)))]) t_57_128 (Nat.le_of_ble_eq_true rfl) rfl ?_
        refine ev_iincN (L' := [some (.ref 370), some (.int (nI (u.length))), some (.int (nI (n))), some (.int (clO S.1 r)), some (.int (nI (i + 1))), some (.int (nI (r)))]) t_57_129 rfl (Nat.le_of_ble_eq_true rfl) rfl ?_
        refine ev_goto t_57_132 ?_
        first | (rw [if_pos (Int32.not_le.mp h_115)] at kk; exact kk) | (rw [if_neg (Int32.not_lt.mpr h_115)] at kk; exact kk)
    · exact absurd hle h_97
  · refine ev_aload_n t_57_71 rfl ?_
    refine es_get (x := .ref 375) o_MO t_57_72 rfl ?_
    refine ev_iload t_57_75 rfl ?_
    refine es_iald (k := r) a_m375 t_57_77 (by omega) ?_
    refine ev_top (y := (chO S.1 r)) (hcg (by omega)) ?_
    refine ev_goto t_57_78 ?_
    refine ev_aload_n t_57_91 rfl ?_
    refine es_get (x := .ref 381) o_MO t_57_92 rfl ?_
    refine ev_iload_n t_57_95 rfl ?_
    refine es_iald (k := n) a_m381 t_57_96 (by omega) ?_
    refine ev_top (y := (S.1 (38 + 2 * n) 3)) e81 ?_
    refine ev_icmp_le t_57_97 (fun h_97 => ?_) (fun h_97 => ?_)
    · refine ev_aload_n t_57_108 rfl ?_
      refine ev_iload t_57_109 rfl ?_
      refine ev_cl (pm_st_V t_57_111 (as := [.ref 370, .int (nI (r))]) (rest := []) (L0 := [some (.ref 370), some (.int (nI (r)))]) rfl rfl (Nat.le_of_ble_eq_true rfl) (Nat.le_of_ble_eq_true rfl) rfl (es_rc o_MO rfl (Nat.le_of_ble_eq_true rfl))) rfl (m56 hr hR.1 h383) ?_
      rintro _ _ ⟨rfl, rfl⟩
      change Ev _ _ _ _ ([.int (clO S.1 r)]) _ _
      refine ev_iload_n t_57_114 rfl ?_
      refine ev_icmp_ge t_57_115 (fun h_115 => ?_) (fun h_115 => ?_)
      · refine ev_iload_n t_57_127 rfl ?_
        refine ev_istore_n (L' := [some (.ref 370), some (.int (nI (u.length))), some (.int (nI (n))), some (.int lst), some (.int (nI (i))), some (.int (nI (r)))]) t_57_128 (Nat.le_of_ble_eq_true rfl) rfl ?_
        refine ev_iincN (L' := [some (.ref 370), some (.int (nI (u.length))), some (.int (nI (n))), some (.int lst), some (.int (nI (i + 1))), some (.int (nI (r)))]) t_57_129 rfl (Nat.le_of_ble_eq_true rfl) rfl ?_
        refine ev_goto t_57_132 ?_
        first | (rw [if_pos (Int32.not_le.mp h_115)] at kk; exact kk) | (rw [if_neg (Int32.not_lt.mpr h_115)] at kk; exact kk)
      · refine ev_aload_n t_57_118 rfl ?_
        refine ev_iload t_57_119 rfl ?_
        refine ev_cl (pm_st_V t_57_121 (as := [.ref 370, .int (nI (r))]) (rest := []) (L0 := [some (.ref 370), some (.int (nI (r)))]) rfl rfl (Nat.le_of_ble_eq_true rfl) (Nat.le_of_ble_eq_true rfl) rfl (es_rc o_MO rfl (Nat.le_of_ble_eq_true rfl))) rfl (m56 hr hR.1 h383) ?_
        rintro _ _ ⟨rfl, rfl⟩
        change Ev _ _ _ _ ([.int (clO S.1 r)]) _ _
        refine ev_goto t_57_124 ?_
        refine ev_istore_n (L' := [some (.ref 370), some (.int (nI (u.length))), some (.int (nI (n))), some (.int (clO S.1 r)), some (.int (nI (i))), some (.int (nI (r)))]) t_57_128 (Nat.le_of_ble_eq_true rfl) rfl ?_
        refine ev_iincN (L' := [some (.ref 370), some (.int (nI (u.length))), some (.int (nI (n))), some (.int (clO S.1 r)), some (.int (nI (i + 1))), some (.int (nI (r)))]) t_57_129 rfl (Nat.le_of_ble_eq_true rfl) rfl ?_
        refine ev_goto t_57_132 ?_
        first | (rw [if_pos (Int32.not_le.mp h_115)] at kk; exact kk) | (rw [if_neg (Int32.not_lt.mpr h_115)] at kk; exact kk)
    · exact absurd hle h_97
theorem m57s {r i : Nat} {lst : Int32} (hn : n < 96) (hR : RM τ S ck) (hm : n ∈ S.2.1) (hl : (S.2.2 n).length ≤ 24) (hi : i < 24) (hr : RdOk r) (hk : 100 ≤ r → r - 100 ∈ S.2.1) (h20 : u.length < 20) (hle : ¬ chO S.1 r ≤ S.1 (38 + 2 * n) 3) (kk : Q (.inl none) (sM M (u2 τ 389 u.length 1))) : Ev (d + 1) 57 64 [some (.ref 370), some (.int (nI u.length)), some (.int (nI n)), some (.int lst), some (.int (nI (i))), some (.int (nI r))] [] (sM M τ) Q := by
  obtain ⟨⟨-, e81, -, -, -⟩, -⟩ := hR.2.2.1 n hm
  have hcg : r < 100 → τ 375 r = chO S.1 r := fun h => by unfold chO; rw [if_pos h]; unfold RdOk at hr; exact (hR.1.2.1 r (by omega)).2
  have hch : 100 ≤ r → τ 382 (r - 100) = chO S.1 r := fun h => by unfold chO; rw [if_neg (by omega)]; exact (hR.2.2.1 _ (hk h)).1.2.2.1
  have h383 : 100 ≤ r → τ 383 (r - 100) = S.1 (38 + 2 * (r - 100)) 5 := fun h => (hR.2.2.1 _ (hk h)).1.2.2.2.1
  have hr2 := hr
  unfold RdOk at hr2
  refine ev_iload t_57_64 rfl ?_
  refine ev_bipush t_57_66 ?_
  change Ev _ _ _ _ ([.int (nI (100)), .int (nI (r))]) _ _
  refine ev_icmp_geN t_57_68 (by omega) (by omega) (fun h_68 => ?_) (fun h_68 => ?_)
  · refine ev_aload_n t_57_81 rfl ?_
    refine es_get (x := .ref 382) o_MO t_57_82 rfl ?_
    refine ev_iload t_57_85 rfl ?_
    refine ev_bipush t_57_87 ?_
    change Ev _ _ _ _ ([.int (nI (100)), .int (nI (r)), .ref 382]) _ _
    refine ev_isubN t_57_89 (by omega) ?_
    refine es_iald (k := (r) - (100)) a_m382 t_57_90 (by omega) ?_
    refine ev_top (y := (chO S.1 r)) (hch (by omega)) ?_
    refine ev_aload_n t_57_91 rfl ?_
    refine es_get (x := .ref 381) o_MO t_57_92 rfl ?_
    refine ev_iload_n t_57_95 rfl ?_
    refine es_iald (k := n) a_m381 t_57_96 (by omega) ?_
    refine ev_top (y := (S.1 (38 + 2 * n) 3)) e81 ?_
    refine ev_icmp_le t_57_97 (fun h_97 => ?_) (fun h_97 => ?_)
    · exact absurd h_97 hle
    · refine ev_aload_n t_57_100 rfl ?_
      refine es_get (x := .ref 389) o_MO t_57_101 rfl ?_
      refine ev_iload_n t_57_104 rfl ?_
      refine ev_iconst t_57_105 ?_
      change Ev _ _ _ _ ([.int (nI (1)), .int (nI (u.length)), .ref 389]) _ _
      refine es_zast (k := u.length) (y := (nI (1))) a_m389 t_57_106 (by omega) (rfl) ?_
      exact ev_retv t_57_107 rfl kk
  · refine ev_aload_n t_57_71 rfl ?_
    refine es_get (x := .ref 375) o_MO t_57_72 rfl ?_
    refine ev_iload t_57_75 rfl ?_
    refine es_iald (k := r) a_m375 t_57_77 (by omega) ?_
    refine ev_top (y := (chO S.1 r)) (hcg (by omega)) ?_
    refine ev_goto t_57_78 ?_
    refine ev_aload_n t_57_91 rfl ?_
    refine es_get (x := .ref 381) o_MO t_57_92 rfl ?_
    refine ev_iload_n t_57_95 rfl ?_
    refine es_iald (k := n) a_m381 t_57_96 (by omega) ?_
    refine ev_top (y := (S.1 (38 + 2 * n) 3)) e81 ?_
    refine ev_icmp_le t_57_97 (fun h_97 => ?_) (fun h_97 => ?_)
    · exact absurd h_97 hle
    · refine ev_aload_n t_57_100 rfl ?_
      refine es_get (x := .ref 389) o_MO t_57_101 rfl ?_
      refine ev_iload_n t_57_104 rfl ?_
      refine ev_iconst t_57_105 ?_
      change Ev _ _ _ _ ([.int (nI (1)), .int (nI (u.length)), .ref 389]) _ _
      refine es_zast (k := u.length) (y := (nI (1))) a_m389 t_57_106 (by omega) (rfl) ?_
      exact ev_retv t_57_107 rfl kk
theorem m57e {lst : Int32} {o5 : Option Value} (hn : n < 96) (hR : RM τ S ck) (hm : n ∈ S.2.1) (hl : (S.2.2 n).length ≤ 24) (hlv : ∀ m, m < 96 → (S.2.2 m).length ≤ 24) (hu : MU τ (u ++ [n]) rf) (h20 : u.length < 20) (hls : lst = lcl (vfyG S n) (S.2.2 n) 2) (kk : ∀ τ', RM τ' ((vfyE S n).1, put S.2.1 n, S.2.2) (ck + 1) → MU τ' u rf → FrI τ τ' → τ' 370 29 = τ 370 29 → Q (.inl none) (sM M τ')) : Ev (d + 1) 57 19 [some (.ref 370), some (.int (nI u.length)), some (.int (nI n)), some (.int lst), some (.int (nI ((S.2.2 n).length))), o5] [] (sM M τ) Q := by
  obtain ⟨-, e86, -⟩ := hR.2.2.1 n hm
  obtain ⟨h26, -, -⟩ := MU_top hu
  have e5 := hR.1.1.1
  have e23 := hR.1.1.2.2.2.1
  obtain ⟨st9, s20, -, -⟩ := hR.2.2.2.1
  subst hls
  refine ev_iload t_57_19 rfl ?_
  refine ev_aload_n t_57_21 rfl ?_
  refine es_get (x := .ref 386) o_MO t_57_22 rfl ?_
  refine ev_iload_n t_57_25 rfl ?_
  refine es_iald (k := n) a_m386 t_57_26 (by omega) ?_
  refine ev_top (y := nI ((S.2.2 n).length)) e86 ?_
  refine ev_icmp_geN t_57_27 (by omega) (by omega) (fun h_27 => ?_) (fun h_27 => ?_)
  · refine ev_aload_n t_57_135 rfl ?_
    refine es_get (x := .ref 381) o_MO t_57_136 rfl ?_
    refine ev_iload_n t_57_139 rfl ?_
    refine ev_aload_n t_57_140 rfl ?_
    refine es_get (x := .int (τ (370) 5)) o_MO t_57_141 rfl ?_
    refine ev_top (y := (S.1 17 0)) (by (repeat rw [u2_off (by omega)]); exact e5) ?_
    refine es_iast (k := n) a_m381 t_57_144 (by omega) ?_
    refine ev_aload_n t_57_145 rfl ?_
    refine es_get (x := .ref 383) o_MO t_57_146 rfl ?_
    refine ev_iload_n t_57_149 rfl ?_
    refine ev_iload_n t_57_150 rfl ?_
    refine es_iast (k := n) a_m383 t_57_151 (by omega) ?_
    refine ev_aload_n t_57_152 rfl ?_
    refine ev_dup t_57_153 rfl ?_
    refine es_get (x := .int ((u2 (u2 τ (381) (n) (S.1 17 0)) (383) (n) (lcl (vfyG S n) (S.2.2 n) 2)) (370) 23)) o_MO t_57_154 rfl ?_
    refine ev_top (y := (S.1 8 12)) (by (repeat rw [u2_off (by omega)]); exact e23) ?_
    refine ev_iconst t_57_157 ?_
    change Ev _ _ _ _ ([.int (nI (1)), .int (S.1 8 12), .ref 370]) _ _
    refine ev_iadd t_57_158 ?_
    refine es_put o_MO t_57_159 rfl (Nat.le_of_ble_eq_true rfl) rfl ?_
    refine ev_aload_n t_57_162 rfl ?_
    refine ev_iload_n t_57_163 rfl ?_
    refine ev_cl (pm_st_V t_57_164 (as := [.ref 370, .int (nI (n))]) (rest := []) (L0 := [some (.ref 370), some (.int (nI (n)))]) rfl rfl (Nat.le_of_ble_eq_true rfl) (Nat.le_of_ble_eq_true rfl) rfl (es_rc o_MO rfl (Nat.le_of_ble_eq_true rfl))) rfl (m51 (ck := ck) hn (by (repeat rw [u2_off (by omega)]); exact s20)) ?_
    rintro _ _ ⟨rfl, rfl⟩
    change Ev _ _ _ _ ([]) _ _
    refine ev_aload_n t_57_167 rfl ?_
    refine ev_dup t_57_168 rfl ?_
    refine es_get (x := .int ((m_end (u2 (u2 (u2 τ (381) (n) (S.1 17 0)) (383) (n) (lcl (vfyG S n) (S.2.2 n) 2)) (370) 23 ((S.1 8 12) + (nI (1)))) n ck) (370) 26)) o_MO t_57_169 rfl ?_
    refine ev_top (y := (nI (u.length + 1))) (by unfold m_end; (repeat rw [u2_off (by omega)]); exact h26) ?_
    refine ev_iconst t_57_172 ?_
    change Ev _ _ _ _ ([.int (nI (1)), .int (nI (u.length + 1)), .ref 370]) _ _
    refine ev_isubN t_57_173 (by omega) ?_
    change Ev _ _ _ _ ([.int (nI (u.length)), .ref 370]) _ _
    refine es_put o_MO t_57_174 rfl (Nat.le_of_ble_eq_true rfl) rfl ?_
    exact ev_retv t_57_177 rfl (kk _ (RM_n (RM_vf hR hm hlv) (by omega) (by omega)) (MU_pop (MU_fr (by unfold m_end; (repeat rw [u2_off (by omega)])) (by unfold m_end; (repeat rw [u2_ne (by omega)])) (by unfold m_end; (repeat rw [u2_ne (by omega)])) hu)) ⟨fun q hq => (by unfold m_end; (repeat rw [u2_ne (by omega)])), fun k hk => (by unfold m_end; (repeat rw [u2_off (by omega)]))⟩ (by unfold m_end; (repeat rw [u2_off (by omega)])))
  · omega
end VF
