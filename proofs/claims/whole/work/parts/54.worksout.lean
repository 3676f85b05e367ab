/-! The reference: worksOut, piece by piece. -/
section WO2
variable {d : Nat} {M : pm_M} {τ : Nat → Nat → Int32} {Q : pm_R → pm_M → Prop} {f key a : Nat} {g c5 : Int32} {o5 o6 : Option Value}
theorem m61i {P : (Nat → Nat → Int32) → Prop} {w bf a' : Nat} (hw : τ 370 30 = nI (w + 1)) (hb : w + 1 < bf) (h9 : bf < 1000) (ha : a' < 2 ^ 31) (hc : Ev d 60 0 [some (.ref 370), some (.int (nI f)), some (.int (nI a)), none, none, none, none] [] (sM M τ) (fun q9 M' => ∃ v9, q9 = .inl v9 ∧ v9 = some (.int (nI a')) ∧ ∃ τ', M' = sM M τ' ∧ P τ')) (kk : ∀ τ', P τ' → Ev (d + 1) 61 106 [some (.ref 370), some (.int (nI f)), some (.int (nI key)), some (.int (nI (a'))), some (.int g), some (.int c5), some (.int (nI (w + 1)))] [] (sM M τ') Q) : Ev (d + 1) 61 106 [some (.ref 370), some (.int (nI f)), some (.int (nI key)), some (.int (nI (a))), some (.int g), some (.int c5), some (.int (nI bf))] [] (sM M τ) Q := by
  refine ev_aload_n t_61_106 rfl ?_
  refine es_get (x := .int (τ (370) 30)) o_MO t_61_107 rfl ?_
  refine ev_top (y := (nI (w + 1))) (by exact hw) ?_
  refine ev_if_leN t_61_110 (by omega) (fun h_110 => ?_) (fun h_110 => ?_)
  · omega
  · refine ev_aload_n t_61_113 rfl ?_
    refine es_get (x := .int (τ (370) 30)) o_MO t_61_114 rfl ?_
    refine ev_top (y := (nI (w + 1))) (by exact hw) ?_
    refine ev_iload t_61_117 rfl ?_
    refine ev_icmp_geN t_61_119 (by omega) (by omega) (fun h_119 => ?_) (fun h_119 => ?_)
    · omega
    · refine ev_aload_n t_61_122 rfl ?_
      refine es_get (x := .int (τ (370) 30)) o_MO t_61_123 rfl ?_
      refine ev_top (y := (nI (w + 1))) (by exact hw) ?_
      refine ev_istore (L' := [some (.ref 370), some (.int (nI (f))), some (.int (nI (key))), some (.int (nI (a))), some (.int g), some (.int c5), some (.int (nI (w + 1)))]) t_61_126 (Nat.le_of_ble_eq_true rfl) rfl ?_
      refine ev_aload_n t_61_128 rfl ?_
      refine ev_iload_n t_61_129 rfl ?_
      refine ev_iload_n t_61_130 rfl ?_
      refine ev_cl (pm_st_V t_61_131 (as := [.ref 370, .int (nI (f)), .int (nI (a))]) (rest := []) (L0 := [some (.ref 370), some (.int (nI (f))), some (.int (nI (a))), none, none, none, none]) rfl rfl (Nat.le_of_ble_eq_true rfl) (Nat.le_of_ble_eq_true rfl) rfl (es_rc o_MO rfl (Nat.le_of_ble_eq_true rfl))) rfl (hc) ?_
      rintro _ _ ⟨rfl, τ1, rfl, p1⟩
      change Ev _ _ _ _ ([.int (nI (a'))]) _ _
      refine ev_istore_n (L' := [some (.ref 370), some (.int (nI (f))), some (.int (nI (key))), some (.int (nI (a'))), some (.int g), some (.int c5), some (.int (nI (w + 1)))]) t_61_134 (Nat.le_of_ble_eq_true rfl) rfl ?_
      refine ev_iload_n t_61_135 rfl ?_
      refine ev_if_geN t_61_136 (by omega) (fun h_136 => ?_) (fun h_136 => ?_)
      · exact kk τ1 p1
      · first | exact h_136.elim | exact absurd trivial h_136 | exact absurd (Nat.zero_le _) h_136
theorem m61x {P : (Nat → Nat → Int32) → Prop} {w bf : Nat} (hw : τ 370 30 = nI (w + 1)) (hb : w + 1 < bf) (h9 : bf < 1000) (hc : Ev d 60 0 [some (.ref 370), some (.int (nI f)), some (.int (nI a)), none, none, none, none] [] (sM M τ) (fun q9 M' => ∃ v9, q9 = .inl v9 ∧ v9 = some (.int (-1)) ∧ ∃ τ', M' = sM M τ' ∧ P τ')) (kk : ∀ τ', P τ' → Q (.inl (some (.int 0))) (sM M τ')) : Ev (d + 1) 61 106 [some (.ref 370), some (.int (nI f)), some (.int (nI key)), some (.int (nI (a))), some (.int g), some (.int c5), some (.int (nI bf))] [] (sM M τ) Q := by
  refine ev_aload_n t_61_106 rfl ?_
  refine es_get (x := .int (τ (370) 30)) o_MO t_61_107 rfl ?_
  refine ev_top (y := (nI (w + 1))) (by exact hw) ?_
  refine ev_if_leN t_61_110 (by omega) (fun h_110 => ?_) (fun h_110 => ?_)
  · omega
  · refine ev_aload_n t_61_113 rfl ?_
    refine es_get (x := .int (τ (370) 30)) o_MO t_61_114 rfl ?_
    refine ev_top (y := (nI (w + 1))) (by exact hw) ?_
    refine ev_iload t_61_117 rfl ?_
    refine ev_icmp_geN t_61_119 (by omega) (by omega) (fun h_119 => ?_) (fun h_119 => ?_)
    · omega
    · refine ev_aload_n t_61_122 rfl ?_
      refine es_get (x := .int (τ (370) 30)) o_MO t_61_123 rfl ?_
      refine ev_top (y := (nI (w + 1))) (by exact hw) ?_
      refine ev_istore (L' := [some (.ref 370), some (.int (nI (f))), some (.int (nI (key))), some (.int (nI (a))), some (.int g), some (.int c5), some (.int (nI (w + 1)))]) t_61_126 (Nat.le_of_ble_eq_true rfl) rfl ?_
      refine ev_aload_n t_61_128 rfl ?_
      refine ev_iload_n t_61_129 rfl ?_
      refine ev_iload_n t_61_130 rfl ?_
      refine ev_cl (pm_st_V t_61_131 (as := [.ref 370, .int (nI (f)), .int (nI (a))]) (rest := []) (L0 := [some (.ref 370), some (.int (nI (f))), some (.int (nI (a))), none, none, none, none]) rfl rfl (Nat.le_of_ble_eq_true rfl) (Nat.le_of_ble_eq_true rfl) rfl (es_rc o_MO rfl (Nat.le_of_ble_eq_true rfl))) rfl (hc) ?_
      rintro _ _ ⟨rfl, τ1, rfl, p1⟩
      change Ev _ _ _ _ ([.int (-1)]) _ _
      refine ev_istore_n (L' := [some (.ref 370), some (.int (nI (f))), some (.int (nI (key))), some (.int (-1)), some (.int g), some (.int c5), some (.int (nI (w + 1)))]) t_61_134 (Nat.le_of_ble_eq_true rfl) rfl ?_
      refine ev_iload_n t_61_135 rfl ?_
      refine ev_if_ge (y := 0) t_61_136 (fun h_136 => ?_) (fun h_136 => ?_)
      · exact absurd h_136 (by decide)
      · refine ev_iconst t_61_139 ?_
        change Ev _ _ _ _ ([.int (nI (0))]) _ _
        exact ev_reti t_61_140 (rz rfl (by decide)) (kk τ1 p1)
theorem m61f {bf : Nat} (hw : τ 370 30 = nI 0) (kk : Q (.inl (some (.int 1))) (sM M τ)) : Ev (d + 1) 61 106 [some (.ref 370), some (.int (nI f)), some (.int (nI key)), some (.int (nI (a))), some (.int g), some (.int c5), some (.int (nI bf))] [] (sM M τ) Q := by
  refine ev_aload_n t_61_106 rfl ?_
  refine es_get (x := .int (τ (370) 30)) o_MO t_61_107 rfl ?_
  refine ev_top (y := (nI (0))) (by exact hw) ?_
  refine ev_if_leN t_61_110 (by omega) (fun h_110 => ?_) (fun h_110 => ?_)
  · refine ev_aload_n t_61_141 rfl ?_
    refine es_get (x := .int (τ (370) 30)) o_MO t_61_142 rfl ?_
    refine ev_top (y := (nI (0))) (by exact hw) ?_
    refine ev_if_leN t_61_145 (by omega) (fun h_145 => ?_) (fun h_145 => ?_)
    · refine ev_iconst t_61_152 ?_
      change Ev _ _ _ _ ([.int (nI (0))]) _ _
      refine ev_istore (L' := [some (.ref 370), some (.int (nI (f))), some (.int (nI (key))), some (.int (nI (a))), some (.int (nI (0))), some (.int c5), some (.int (nI (bf)))]) t_61_153 (Nat.le_of_ble_eq_true rfl) rfl ?_
      refine ev_goto t_61_155 ?_
      refine ev_iload t_61_15 rfl ?_
      refine ev_if_eqN t_61_17 (by omega) (fun h_17 => ?_) (fun h_17 => ?_)
      · refine ev_iconst t_61_158 ?_
        change Ev _ _ _ _ ([.int (nI (1))]) _ _
        exact ev_reti t_61_159 (rz rfl (by decide)) kk
      · exact absurd rfl h_17
    · omega
  · omega
theorem m61g {w bf : Nat} (hw : τ 370 30 = nI (w + 1)) (hb : ¬ w + 1 < bf) (h9 : bf < 1000) (h8 : w < 1000) (kk : Ev (d + 1) 61 15 [some (.ref 370), some (.int (nI f)), some (.int (nI key)), some (.int (nI (a))), some (.int (nI 1)), some (.int c5), some (.int (nI bf))] [] (sM M τ) Q) : Ev (d + 1) 61 106 [some (.ref 370), some (.int (nI f)), some (.int (nI key)), some (.int (nI (a))), some (.int g), some (.int c5), some (.int (nI bf))] [] (sM M τ) Q := by
  refine ev_aload_n t_61_106 rfl ?_
  refine es_get (x := .int (τ (370) 30)) o_MO t_61_107 rfl ?_
  refine ev_top (y := (nI (w + 1))) (by exact hw) ?_
  refine ev_if_leN t_61_110 (by omega) (fun h_110 => ?_) (fun h_110 => ?_)
  · omega
  · refine ev_aload_n t_61_113 rfl ?_
    refine es_get (x := .int (τ (370) 30)) o_MO t_61_114 rfl ?_
    refine ev_top (y := (nI (w + 1))) (by exact hw) ?_
    refine ev_iload t_61_117 rfl ?_
    refine ev_icmp_geN t_61_119 (by omega) (by omega) (fun h_119 => ?_) (fun h_119 => ?_)
    · refine ev_aload_n t_61_141 rfl ?_
      refine es_get (x := .int (τ (370) 30)) o_MO t_61_142 rfl ?_
      refine ev_top (y := (nI (w + 1))) (by exact hw) ?_
      refine ev_if_leN t_61_145 (by omega) (fun h_145 => ?_) (fun h_145 => ?_)
      · omega
      · refine ev_iconst t_61_148 ?_
        change Ev _ _ _ _ ([.int (nI (1))]) _ _
        refine ev_goto t_61_149 ?_
        refine ev_istore (L' := [some (.ref 370), some (.int (nI (f))), some (.int (nI (key))), some (.int (nI (a))), some (.int (nI (1))), some (.int c5), some (.int (nI (bf)))]) t_61_153 (Nat.le_of_ble_eq_true rfl) rfl ?_
        refine ev_goto t_61_155 ?_
        exact kk
    · omega
theorem m61p {T : Nat → List Nat} {sm : List SM} {v l : Int32} {rd : List Nat} (hf : f < 6) (hX : MX τ T) (h24 : (T f).length ≤ 24) (h256 : ∀ c ∈ T f, c < 256) (hal : a < (T f).length) (hW : MW τ sm v rd) (hs : sm.length ≤ a) (h9 : ow ((T f).getD a 0) ≠ 9) (h0 : ow ((T f).getD a 0) ≠ 0) (kk : ∀ τ', MW τ' (((T f).getD a 0, 0, l) :: sm) v rd → FrR τ τ' → Ev (d + 1) 61 15 [some (.ref 370), some (.int (nI f)), some (.int (nI key)), some (.int (nI (a + 1))), some (.int (nI 1)), some (.int (nI ((T f).getD a 0))), o6] [] (sM M τ') Q) : Ev (d + 1) 61 15 [some (.ref 370), some (.int (nI f)), some (.int (nI key)), some (.int (nI (a))), some (.int (nI 1)), o5, o6] [] (sM M τ) Q := by
  have hx : (T f).getD a 0 = (T f)[a] := by simp [List.getD_eq_getElem?_getD, hal]
  have hx2 : (T f).getD a 0 < 256 := by rw [hx]; exact h256 _ (List.getElem_mem hal)
  have et := (hX f hf).2 a hal
  have h8 := ow_le h9
  have h30 := hW.1
  refine ev_iload t_61_15 rfl ?_
  refine ev_if_eqN t_61_17 (by omega) (fun h_17 => ?_) (fun h_17 => ?_)
  · omega
  · refine ev_aload_n t_61_20 rfl ?_
    refine es_get (x := .ref 372) o_MO t_61_21 rfl ?_
    refine ev_bipush t_61_24 ?_
    change Ev _ _ _ _ ([.int (nI (24)), .ref 372]) _ _
    refine ev_iload_n t_61_26 rfl ?_
    refine ev_imulN t_61_27 ?_
    refine ev_iload_n t_61_28 rfl ?_
    refine ev_iaddN t_61_29 ?_
    refine es_iald (k := ((24) * (f)) + (a)) a_m372 t_61_30 (by omega) ?_
    refine ev_top (y := nI ((T f).getD a 0)) et ?_
    refine ev_istore (L' := [some (.ref 370), some (.int (nI (f))), some (.int (nI (key))), some (.int (nI (a))), some (.int (nI (1))), some (.int (nI ((T f).getD a 0))), o6]) t_61_31 (Nat.le_of_ble_eq_true rfl) rfl ?_
    refine ev_iincN (L' := [some (.ref 370), some (.int (nI (f))), some (.int (nI (key))), some (.int (nI (a + 1))), some (.int (nI (1))), some (.int (nI ((T f).getD a 0))), o6]) t_61_33 rfl (Nat.le_of_ble_eq_true rfl) rfl ?_
    refine ev_iload t_61_36 rfl ?_
    refine ev_cl (pm_st_S t_61_38 (Nat.le_of_ble_eq_true rfl) (as := [.int (nI ((T f).getD a 0))]) (rest := []) (L0 := [some (.int (nI ((T f).getD a 0)))]) rfl rfl (Nat.le_of_ble_eq_true rfl) (Nat.le_of_ble_eq_true rfl) rfl) rfl (m43 (by omega)) ?_
    rintro _ _ ⟨rfl, rfl⟩
    change Ev _ _ _ _ ([.int (owI ((T f).getD a 0))]) _ _
    refine ev_top (y := nI (ow ((T f).getD a 0))) (owI_k rfl h9) ?_
    refine ev_if_leN t_61_41 (by omega) (fun h_41 => ?_) (fun h_41 => ?_)
    · omega
    · refine ev_aload_n t_61_44 rfl ?_
      refine es_get (x := .ref 390) o_MO t_61_45 rfl ?_
      refine ev_aload_n t_61_48 rfl ?_
      refine es_get (x := .int (τ (370) 30)) o_MO t_61_49 rfl ?_
      refine ev_top (y := (nI (sm.length))) (by (repeat rw [u2_off (by omega)]); exact h30) ?_
      refine ev_iload t_61_52 rfl ?_
      refine es_iast (k := sm.length) a_m390 t_61_54 (by omega) ?_
      refine ev_aload_n t_61_55 rfl ?_
      refine es_get (x := .ref 391) o_MO t_61_56 rfl ?_
      refine ev_aload_n t_61_59 rfl ?_
      refine es_get (x := .int ((u2 τ (390) (sm.length) (nI ((T f).getD a 0))) (370) 30)) o_MO t_61_60 rfl ?_
      refine ev_top (y := (nI (sm.length))) (by (repeat rw [u2_off (by omega)]); exact h30) ?_
      refine ev_iconst t_61_63 ?_
      change Ev _ _ _ _ ([.int (nI (0)), .int (nI (sm.length)), .ref 391]) _ _
      refine es_iast (k := sm.length) a_m391 t_61_64 (by omega) ?_
      refine ev_aload_n t_61_65 rfl ?_
      refine ev_dup t_61_66 rfl ?_
      refine es_get (x := .int ((u2 (u2 τ (390) (sm.length) (nI ((T f).getD a 0))) (391) (sm.length) (nI (0))) (370) 30)) o_MO t_61_67 rfl ?_
      refine ev_top (y := (nI (sm.length))) (by (repeat rw [u2_off (by omega)]); exact h30) ?_
      refine ev_iconst t_61_70 ?_
      change Ev _ _ _ _ ([.int (nI (1)), .int (nI (sm.length)), .ref 370]) _ _
      refine ev_iaddN t_61_71 ?_
      refine es_put o_MO t_61_72 rfl (Nat.le_of_ble_eq_true rfl) rfl ?_
      refine ev_goto t_61_75 ?_
      refine ev_goto t_61_155 ?_
      exact kk _ (MW_push hW) ((FrR.u (by omega)).trans ((FrR.u (by omega)).trans (FrR.u (by omega))))
theorem m61v {T : Nat → List Nat} {sm : List SM} {v : Int32} {rd : List Nat} (hf : f < 6) (hX : MX τ T) (h24 : (T f).length ≤ 24) (h256 : ∀ c ∈ T f, c < 256) (hal : a < (T f).length) (hW : MW τ sm v rd) (h0 : ow ((T f).getD a 0) = 0) (kk : ∀ τ', MW τ' sm (if (T f).getD a 0 = 107 then nI key else nI ((T f).getD a 0) - nI 48) rd → FrR τ τ' → Ev (d + 1) 61 106 [some (.ref 370), some (.int (nI f)), some (.int (nI key)), some (.int (nI (a + 1))), some (.int (nI 1)), some (.int (nI ((T f).getD a 0))), some (.int (nI (sm.length + 1)))] [] (sM M τ') Q) : Ev (d + 1) 61 15 [some (.ref 370), some (.int (nI f)), some (.int (nI key)), some (.int (nI (a))), some (.int (nI 1)), o5, o6] [] (sM M τ) Q := by
  have hx : (T f).getD a 0 = (T f)[a] := by simp [List.getD_eq_getElem?_getD, hal]
  have hx2 : (T f).getD a 0 < 256 := by rw [hx]; exact h256 _ (List.getElem_mem hal)
  have et := (hX f hf).2 a hal
  have h9 : ow ((T f).getD a 0) ≠ 9 := by omega
  have h30 := hW.1
  refine ev_iload t_61_15 rfl ?_
  refine ev_if_eqN t_61_17 (by omega) (fun h_17 => ?_) (fun h_17 => ?_)
  · omega
  · refine ev_aload_n t_61_20 rfl ?_
    refine es_get (x := .ref 372) o_MO t_61_21 rfl ?_
    refine ev_bipush t_61_24 ?_
    change Ev _ _ _ _ ([.int (nI (24)), .ref 372]) _ _
    refine ev_iload_n t_61_26 rfl ?_
    refine ev_imulN t_61_27 ?_
    refine ev_iload_n t_61_28 rfl ?_
    refine ev_iaddN t_61_29 ?_
    refine es_iald (k := ((24) * (f)) + (a)) a_m372 t_61_30 (by omega) ?_
    refine ev_top (y := nI ((T f).getD a 0)) et ?_
    refine ev_istore (L' := [some (.ref 370), some (.int (nI (f))), some (.int (nI (key))), some (.int (nI (a))), some (.int (nI (1))), some (.int (nI ((T f).getD a 0))), o6]) t_61_31 (Nat.le_of_ble_eq_true rfl) rfl ?_
    refine ev_iincN (L' := [some (.ref 370), some (.int (nI (f))), some (.int (nI (key))), some (.int (nI (a + 1))), some (.int (nI (1))), some (.int (nI ((T f).getD a 0))), o6]) t_61_33 rfl (Nat.le_of_ble_eq_true rfl) rfl ?_
    refine ev_iload t_61_36 rfl ?_
    refine ev_cl (pm_st_S t_61_38 (Nat.le_of_ble_eq_true rfl) (as := [.int (nI ((T f).getD a 0))]) (rest := []) (L0 := [some (.int (nI ((T f).getD a 0)))]) rfl rfl (Nat.le_of_ble_eq_true rfl) (Nat.le_of_ble_eq_true rfl) rfl) rfl (m43 (by omega)) ?_
    rintro _ _ ⟨rfl, rfl⟩
    change Ev _ _ _ _ ([.int (owI ((T f).getD a 0))]) _ _
    refine ev_top (y := nI (ow ((T f).getD a 0))) (owI_k rfl h9) ?_
    refine ev_if_leN t_61_41 (by omega) (fun h_41 => ?_) (fun h_41 => ?_)
    · refine ev_aload_n t_61_78 rfl ?_
      refine ev_iload t_61_79 rfl ?_
      refine ev_bipush t_61_81 ?_
      change Ev _ _ _ _ ([.int (nI (107)), .int (nI ((T f).getD a 0)), .ref 370]) _ _
      refine ev_icmp_neN t_61_83 (by omega) (by omega) (fun h_83 => ?_) (fun h_83 => ?_)
      · refine ev_iload t_61_90 rfl ?_
        refine ev_bipush t_61_92 ?_
        change Ev _ _ _ _ ([.int (nI (48)), .int (nI ((T f).getD a 0)), .ref 370]) _ _
        refine ev_isub t_61_94 ?_
        refine es_put o_MO t_61_95 rfl (Nat.le_of_ble_eq_true rfl) rfl ?_
        refine ev_aload_n t_61_98 rfl ?_
        refine es_get (x := .int ((u2 τ (370) 36 ((nI ((T f).getD a 0)) - (nI (48)))) (370) 30)) o_MO t_61_99 rfl ?_
        refine ev_top (y := (nI (sm.length))) (by (repeat rw [u2_off (by omega)]); exact h30) ?_
        refine ev_iconst t_61_102 ?_
        change Ev _ _ _ _ ([.int (nI (1)), .int (nI (sm.length))]) _ _
        refine ev_iaddN t_61_103 ?_
        refine ev_istore (L' := [some (.ref 370), some (.int (nI (f))), some (.int (nI (key))), some (.int (nI (a + 1))), some (.int (nI (1))), some (.int (nI ((T f).getD a 0))), some (.int (nI ((sm.length) + (1))))]) t_61_104 (Nat.le_of_ble_eq_true rfl) rfl ?_
        first | (rw [if_pos (by omega)] at kk; exact kk _ (MW_v hW) (FrR.u (by omega))) | (rw [if_neg (by omega)] at kk; exact kk _ (MW_v hW) (FrR.u (by omega)))
      · refine ev_iload_n t_61_86 rfl ?_
        refine ev_goto t_61_87 ?_
        refine es_put o_MO t_61_95 rfl (Nat.le_of_ble_eq_true rfl) rfl ?_
        refine ev_aload_n t_61_98 rfl ?_
        refine es_get (x := .int ((u2 τ (370) 36 (nI (key))) (370) 30)) o_MO t_61_99 rfl ?_
        refine ev_top (y := (nI (sm.length))) (by (repeat rw [u2_off (by omega)]); exact h30) ?_
        refine ev_iconst t_61_102 ?_
        change Ev _ _ _ _ ([.int (nI (1)), .int (nI (sm.length))]) _ _
        refine ev_iaddN t_61_103 ?_
        refine ev_istore (L' := [some (.ref 370), some (.int (nI (f))), some (.int (nI (key))), some (.int (nI (a + 1))), some (.int (nI (1))), some (.int (nI ((T f).getD a 0))), some (.int (nI ((sm.length) + (1))))]) t_61_104 (Nat.le_of_ble_eq_true rfl) rfl ?_
        first | (rw [if_pos (by omega)] at kk; exact kk _ (MW_v hW) (FrR.u (by omega))) | (rw [if_neg (by omega)] at kk; exact kk _ (MW_v hW) (FrR.u (by omega)))
    · omega
theorem m61s (kk : ∀ τ', MW τ' [] (τ 370 36) [] → FrR τ τ' → Ev (d + 1) 61 15 [some (.ref 370), some (.int (nI f)), some (.int (nI key)), some (.int (nI 0)), some (.int (nI 1)), none, none] [] (sM M τ') Q) : Ev (d + 1) 61 0 [some (.ref 370), some (.int (nI f)), some (.int (nI key)), none, none, none, none] [] (sM M τ) Q := by
  refine ev_aload_n t_61_0 rfl ?_
  refine ev_iconst t_61_1 ?_
  change Ev _ _ _ _ ([.int (nI (0)), .ref 370]) _ _
  refine es_put o_MO t_61_2 rfl (Nat.le_of_ble_eq_true rfl) rfl ?_
  refine ev_aload_n t_61_5 rfl ?_
  refine ev_iconst t_61_6 ?_
  change Ev _ _ _ _ ([.int (nI (0)), .ref 370]) _ _
  refine es_put o_MO t_61_7 rfl (Nat.le_of_ble_eq_true rfl) rfl ?_
  refine ev_iconst t_61_10 ?_
  change Ev _ _ _ _ ([.int (nI (0))]) _ _
  refine ev_istore_n (L' := [some (.ref 370), some (.int (nI (f))), some (.int (nI (key))), some (.int (nI (0))), none, none, none]) t_61_11 (Nat.le_of_ble_eq_true rfl) rfl ?_
  refine ev_iconst t_61_12 ?_
  change Ev _ _ _ _ ([.int (nI (1))]) _ _
  refine ev_istore (L' := [some (.ref 370), some (.int (nI (f))), some (.int (nI (key))), some (.int (nI (0))), some (.int (nI (1))), none, none]) t_61_13 (Nat.le_of_ble_eq_true rfl) rfl ?_
  exact kk _ ⟨by rw [u2_off (by omega), u2_at]; rfl, trivial, by rw [u2_off (by omega), u2_off (by omega)], by rw [u2_at]; rfl, fun i hi => absurd hi (Nat.not_lt_zero i)⟩ ((FrR.u (by omega)).trans (FrR.u (by omega)))
end WO2
