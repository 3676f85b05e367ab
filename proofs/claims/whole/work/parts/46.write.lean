/-! The reference: write. -/
theorem cmpB : ∀ b, b < 256 → lg_cmp (Int64.ofNat b) (Int64.ofNat 0) = nI (if b = 0 then 0 else 1) := by decide +kernel
theorem nI_8 (i : Nat) : nI (8 * i) + 8 = nI (8 * (i + 1)) := by
  rw [show (8 : Int32) = nI 8 from rfl, nI_add]
  congr 1
section MW
variable {d : Nat} {M : pm_M} {τ : Nat → Nat → Int32} {S : SP} {ck : Nat}
theorem m41a {Q : pm_R → pm_M → Prop} {x : Int64} (kk : Ev d 41 44 [some (.ref 370), some (.long x), none, some (.int (nI (chl x 8).length)), some (.int (nI 64)), none] [] (sM M τ) Q) : ∀ (k i : Nat), i + k = 8 → Ev d 41 10 [some (.ref 370), some (.long x), none, some (.int (nI (chl x i).length)), some (.int (nI (8 * i))), none] [] (sM M τ) Q := by
  intro k
  induction k with
  | zero =>
    intro i hi
    obtain rfl : i = 8 := by omega
    refine ev_iload t_41_10 rfl ?_
    refine ev_bipush t_41_12 ?_
    change Ev _ _ _ _ ([.int (nI (64)), .int (nI (8 * 8))]) _ _
    refine ev_icmp_geN t_41_14 (by omega) (by omega) (fun h_14 => ?_) (fun h_14 => ?_)
    · exact kk
    · omega
  | succ k ih =>
    intro i hi
    have hb := byt_lt x i
    have c9 := ih (i + 1) (by omega)
    rw [chl_s, ← nI_8] at c9
    refine ev_iload t_41_10 rfl ?_
    refine ev_bipush t_41_12 ?_
    change Ev _ _ _ _ ([.int (nI (64)), .int (nI (8 * i))]) _ _
    refine ev_icmp_geN t_41_14 (by omega) (by omega) (fun h_14 => ?_) (fun h_14 => ?_)
    · omega
    · refine ev_lload_n t_41_17 rfl ?_
      refine ev_iload t_41_18 rfl ?_
      refine ev_lshr t_41_20 ?_
      refine ev_ldc2 t_41_21 ?_
      refine ev_land t_41_24 ?_
      rw [bytS x (show i < 8 by omega)]
      refine ev_lconst t_41_25 ?_
      refine ev_lcmp t_41_26 ?_
      refine ev_top (y := nI (if byt x i = 0 then 0 else 1)) (cmpB _ hb) ?_
      refine ev_if_eqN t_41_27 (by split <;> omega) (fun h_27 => ?_) (fun h_27 => ?_)
      · refine ev_iload_n t_41_36 rfl ?_
        refine ev_istore_n (L' := [some (.ref 370), some (.long x), none, some (.int (nI ((chl x i).length))), some (.int (nI (8 * i))), none]) t_41_37 (Nat.le_of_ble_eq_true rfl) rfl ?_
        refine ev_iinc (L' := [some (.ref 370), some (.long x), none, some (.int (nI ((chl x i).length))), some (.int ((nI (8 * i)) + 8)), none]) t_41_38 rfl (Nat.le_of_ble_eq_true rfl) rfl ?_
        refine ev_goto t_41_41 ?_
        rw [if_pos (Decidable.byContradiction fun h => by rw [if_neg h] at h_27; omega), List.append_nil] at c9
        exact c9
      · refine ev_iload_n t_41_30 rfl ?_
        refine ev_iconst t_41_31 ?_
        change Ev _ _ _ _ ([.int (nI (1)), .int (nI ((chl x i).length))]) _ _
        refine ev_iaddN t_41_32 ?_
        refine ev_goto t_41_33 ?_
        refine ev_istore_n (L' := [some (.ref 370), some (.long x), none, some (.int (nI (((chl x i).length) + (1)))), some (.int (nI (8 * i))), none]) t_41_37 (Nat.le_of_ble_eq_true rfl) rfl ?_
        refine ev_iinc (L' := [some (.ref 370), some (.long x), none, some (.int (nI (((chl x i).length) + (1)))), some (.int ((nI (8 * i)) + 8)), none]) t_41_38 rfl (Nat.le_of_ble_eq_true rfl) rfl ?_
        refine ev_goto t_41_41 ?_
        rw [if_neg (fun h => h_27 (by rw [if_pos h])), List.length_append] at c9
        exact c9
theorem MD_app {dr : List Nat} {c : Nat} (h : MD τ dr) : MD (u2 (u2 τ 371 dr.length (nI c)) 370 2 (nI (dr.length + 1))) (dr ++ [c]) := by
  refine ⟨by rw [u2_at]; simp, fun i hi => ?_⟩
  rw [u2_off (by omega)]
  by_cases e : i = dr.length
  · subst e; rw [u2_at]; simp [List.getD_eq_getElem?_getD]
  · have hi' : i < dr.length := by simp at hi; omega
    rw [u2_off (Or.inr e), h.2 i hi']
    simp only [List.getD_eq_getElem?_getD]
    rw [List.getElem?_append_left hi']
theorem m41b {x : Int64} {dr : List Nat} {n3 : Int32} (h24 : dr.length + (chl x 8).length ≤ 24) : ∀ (k i : Nat) (τ : Nat → Nat → Int32) (o5 : Option Value), i + k = 8 → RM τ S ck → MD τ (dr ++ chl x i) → Ev d 41 60 [some (.ref 370), some (.long x), none, some (.int n3), some (.int (nI (8 * i))), o5] [] (sM M τ) (fun q9 M' => ∃ v9, q9 = .inl v9 ∧ v9 = some (.int (nI (dr ++ chl x 8).length)) ∧ ∃ τ', M' = sM M τ' ∧ RM τ' S ck ∧ τ' 370 0 = τ 370 0 ∧ MD τ' (dr ++ chl x 8) ∧ τ' 372 = τ 372 ∧ τ' 373 = τ 373) := by
  intro k
  induction k with
  | zero =>
    intro i τ o5 hi hR hD
    obtain rfl : i = 8 := by omega
    have e2 := hD.1
    refine ev_iload t_41_60 rfl ?_
    refine ev_bipush t_41_62 ?_
    change Ev _ _ _ _ ([.int (nI (64)), .int (nI (8 * 8))]) _ _
    refine ev_icmp_geN t_41_64 (by omega) (by omega) (fun h_64 => ?_) (fun h_64 => ?_)
    · refine ev_aload_n t_41_110 rfl ?_
      refine es_get (x := .int (τ (370) 2)) o_MO t_41_111 rfl ?_
      refine ev_top (y := (nI ((dr ++ chl x 8).length))) (by exact e2) ?_
      exact ev_reti t_41_114 (ri rfl) ⟨_, rfl, rfl, _, rfl, hR, rfl, hD, rfl, rfl⟩
    · omega
  | succ k ih =>
    intro i τ o5 hi hR hD
    have hb := byt_lt x i
    have hle := chl_le x (i := i + 1) 8 (by omega)
    have hs := chl_s x i
    have e2 := hD.1
    refine ev_iload t_41_60 rfl ?_
    refine ev_bipush t_41_62 ?_
    change Ev _ _ _ _ ([.int (nI (64)), .int (nI (8 * i))]) _ _
    refine ev_icmp_geN t_41_64 (by omega) (by omega) (fun h_64 => ?_) (fun h_64 => ?_)
    · omega
    · refine ev_lload_n t_41_67 rfl ?_
      refine ev_iload t_41_68 rfl ?_
      refine ev_lshr t_41_70 ?_
      refine ev_ldc2 t_41_71 ?_
      refine ev_land t_41_74 ?_
      rw [bytS x (show i < 8 by omega)]
      refine ev_l2i t_41_75 ?_
      refine ev_top (y := nI (byt x i)) (Int64.toInt32_ofNat) ?_
      refine ev_istore (L' := [some (.ref 370), some (.long x), none, some (.int n3), some (.int (nI (8 * i))), some (.int (nI (byt x i)))]) t_41_76 (Nat.le_of_ble_eq_true rfl) rfl ?_
      refine ev_iload t_41_78 rfl ?_
      refine ev_if_eqN t_41_80 (by omega) (fun h_80 => ?_) (fun h_80 => ?_)
      · refine ev_iinc (L' := [some (.ref 370), some (.long x), none, some (.int n3), some (.int ((nI (8 * i)) + 8)), some (.int (nI (byt x i)))]) t_41_104 rfl (Nat.le_of_ble_eq_true rfl) rfl ?_
        refine ev_goto t_41_107 ?_
        rw [if_pos h_80, List.append_nil] at hs
        rw [nI_8]
        exact ih (i + 1) τ _ (by omega) hR (by rw [hs]; exact hD)
      · rw [if_neg h_80] at hs
        have hl24 : (dr ++ chl x i).length < 24 := by rw [hs] at hle; simp at hle ⊢; omega
        refine ev_aload_n t_41_83 rfl ?_
        refine es_get (x := .ref 371) o_MO t_41_84 rfl ?_
        refine ev_aload_n t_41_87 rfl ?_
        refine es_get (x := .int (τ (370) 2)) o_MO t_41_88 rfl ?_
        refine ev_top (y := (nI ((dr ++ chl x i).length))) (by (repeat rw [u2_off (by omega)]); exact e2) ?_
        refine ev_iload t_41_91 rfl ?_
        refine es_iast (k := (dr ++ chl x i).length) a_m371 t_41_93 (by omega) ?_
        refine ev_aload_n t_41_94 rfl ?_
        refine ev_dup t_41_95 rfl ?_
        refine es_get (x := .int ((u2 τ (371) ((dr ++ chl x i).length) (nI (byt x i))) (370) 2)) o_MO t_41_96 rfl ?_
        refine ev_top (y := (nI ((dr ++ chl x i).length))) (by (repeat rw [u2_off (by omega)]); exact e2) ?_
        refine ev_iconst t_41_99 ?_
        change Ev _ _ _ _ ([.int (nI (1)), .int (nI ((dr ++ chl x i).length)), .ref 370]) _ _
        refine ev_iaddN t_41_100 ?_
        refine es_put o_MO t_41_101 rfl (Nat.le_of_ble_eq_true rfl) rfl ?_
        refine ev_iinc (L' := [some (.ref 370), some (.long x), none, some (.int n3), some (.int ((nI (8 * i)) + 8)), some (.int (nI (byt x i)))]) t_41_104 rfl (Nat.le_of_ble_eq_true rfl) rfl ?_
        refine ev_goto t_41_107 ?_
        have hR2 : RM (u2 (u2 τ 371 (dr ++ chl x i).length (nI (byt x i))) 370 2 (nI ((dr ++ chl x i).length + 1))) S ck := RM_n (RM_n hR (by omega) (by omega)) (by omega) (by omega)
        have hD2 := MD_app (c := byt x i) hD
        rw [List.append_assoc, ← hs] at hD2
        rw [nI_8]
        refine ev_mono (ih (i + 1) _ _ (by omega) hR2 hD2) ?_
        rintro r9 M9 ⟨v9, e1, e2, τ', e3, k1, k2, k3, k4, k5⟩
        exact ⟨v9, e1, e2, τ', e3, k1, (by rw [k2, u2_off (by omega), u2_off (by omega)]), k3, (by rw [k4, u2_ne (by omega), u2_ne (by omega)]), (by rw [k5, u2_ne (by omega), u2_ne (by omega)])⟩
theorem m41 {x : Int64} {dr : List Nat} (hl : dr.length ≤ 24) (hD : MD τ dr) (hR : RM τ S ck) : Ev d 41 0 [some (.ref 370), some (.long x), none, none, none, none] [] (sM M τ) (fun q9 M' => ∃ v9, q9 = .inl v9 ∧ v9 = some (.int (if 24 < dr.length + (chl x 8).length then -1 else nI (dr ++ chl x 8).length)) ∧ ∃ τ', M' = sM M τ' ∧ RM τ' S ck ∧ τ' 370 0 = 0 ∧ MD τ' (if 24 < dr.length + (chl x 8).length then dr else dr ++ chl x 8) ∧ τ' 372 = τ 372 ∧ τ' 373 = τ 373) := by
  have hc8 : (chl x 8).length ≤ 8 := by
    have := List.length_filter_le (fun c => decide (¬ c = 0)) ((List.range 8).map (byt x))
    simpa [chl] using this
  have hR1 : RM (u2 τ 370 0 0) S ck := RM_t hR
  have hD1 : MD (u2 τ 370 0 0) dr := ⟨by rw [u2_off (by omega)]; exact hD.1, fun i hi => by rw [u2_off (by omega)]; exact hD.2 i hi⟩
  have e2 := hD1.1
  have kk : Ev d 41 44 [some (.ref 370), some (.long x), none, some (.int (nI (chl x 8).length)), some (.int (nI 64)), none] [] (sM M (u2 τ 370 0 0)) (fun q9 M' => ∃ v9, q9 = .inl v9 ∧ v9 = some (.int (if 24 < dr.length + (chl x 8).length then -1 else nI (dr ++ chl x 8).length)) ∧ ∃ τ', M' = sM M τ' ∧ RM τ' S ck ∧ τ' 370 0 = 0 ∧ MD τ' (if 24 < dr.length + (chl x 8).length then dr else dr ++ chl x 8) ∧ τ' 372 = τ 372 ∧ τ' 373 = τ 373) := by
    refine ev_aload_n t_41_44 rfl ?_
    refine es_get (x := .int ((u2 τ 370 0 0) (370) 2)) o_MO t_41_45 rfl ?_
    refine ev_top (y := (nI (dr.length))) (by exact e2) ?_
    refine ev_iload_n t_41_48 rfl ?_
    refine ev_iaddN t_41_49 ?_
    refine ev_bipush t_41_50 ?_
    change Ev _ _ _ _ ([.int (nI (24)), .int (nI ((dr.length) + ((chl x 8).length)))]) _ _
    refine ev_icmp_leN t_41_52 (by omega) (by omega) (fun h_52 => ?_) (fun h_52 => ?_)
    · refine ev_iconst t_41_57 ?_
      change Ev _ _ _ _ ([.int (nI (0))]) _ _
      refine ev_istore (L' := [some (.ref 370), some (.long x), none, some (.int (nI ((chl x 8).length))), some (.int (nI (0))), none]) t_41_58 (Nat.le_of_ble_eq_true rfl) rfl ?_
      rw [if_neg (by omega), if_neg (by omega)]
      refine ev_mono (m41b (by omega) 8 0 _ none rfl hR1 (by simpa [chl] using hD1)) ?_
      rintro r9 M9 ⟨v9, e1, e2, τ', e3, k1, k2, k3, k4, k5⟩
      exact ⟨v9, e1, e2, τ', e3, k1, (by rw [k2, u2_at]), k3, (by rw [k4, u2_ne (by omega)]), (by rw [k5, u2_ne (by omega)])⟩
    · refine ev_iconst t_41_55 ?_
      change Ev _ _ _ _ ([.int (-1)]) _ _
      exact ev_reti t_41_56 (ri rfl) ⟨_, rfl, by rw [if_pos (by omega)], _, rfl, hR1, u2_at, (by rw [if_pos (by omega)]; exact hD1), (u2_ne (by omega)), (u2_ne (by omega))⟩
  refine ev_aload_n t_41_0 rfl ?_
  refine ev_iconst t_41_1 ?_
  change Ev _ _ _ _ ([.int (nI (0)), .ref 370]) _ _
  refine es_put o_MO t_41_2 rfl (Nat.le_of_ble_eq_true rfl) rfl ?_
  refine ev_iconst t_41_5 ?_
  change Ev _ _ _ _ ([.int (nI (0))]) _ _
  refine ev_istore_n (L' := [some (.ref 370), some (.long x), none, some (.int (nI (0))), none, none]) t_41_6 (Nat.le_of_ble_eq_true rfl) rfl ?_
  refine ev_iconst t_41_7 ?_
  change Ev _ _ _ _ ([.int (nI (0))]) _ _
  refine ev_istore (L' := [some (.ref 370), some (.long x), none, some (.int (nI (0))), some (.int (nI (0))), none]) t_41_8 (Nat.le_of_ble_eq_true rfl) rfl ?_
  exact m41a kk 8 0 rfl
end MW
