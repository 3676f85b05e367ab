/-! The reference: define. -/
section MV
variable {d : Nat} {M : pm_M} {τ : Nat → Nat → Int32} {S : SP} {ck : Nat}
theorem owI_neg {c : Nat} (h : ow c = 9) : ¬ (0 : Int32) ≤ owI c := by rw [owI_9 h]; decide
/-- the search for a fault; behind it the way goes on at 77 -/
theorem m45l {Q : pm_R → pm_M → Prop} {f : Nat} {dr : List Nat} (hl : dr.length ≤ 24) (h256 : ∀ c ∈ dr, c < 256) (hD : MD τ dr) (kr : ∀ i, flt dr 1 0 = some i → i < dr.length → Q (.inl (some (.int (nI i)))) (sM M τ)) (kk : ∀ due, (flt dr 1 0 = if due = 0 then none else some dr.length) → due ≤ 49 → Ev (d + 1) 45 77 [some (.ref 370), some (.int (nI f)), some (.int (nI due)), some (.int (nI dr.length))] [] (sM M τ) Q) : ∀ (k i due : Nat), i + k = dr.length → due ≤ 1 + 2 * i → flt dr 1 0 = flt (dr.drop i) due i → Ev (d + 1) 45 31 [some (.ref 370), some (.int (nI f)), some (.int (nI due)), some (.int (nI i))] [] (sM M τ) Q := by
  have e2 := hD.1
  intro k
  induction k with
  | zero =>
    intro i due hi hd hf
    obtain rfl : i = dr.length := by omega
    rw [List.drop_length] at hf
    refine ev_iload_n t_45_31 rfl ?_
    refine ev_aload_n t_45_32 rfl ?_
    refine es_get (x := .int (τ (370) 2)) o_MO t_45_33 rfl ?_
    refine ev_top (y := (nI (dr.length))) (by exact e2) ?_
    refine ev_icmp_geN t_45_36 (by omega) (by omega) (fun h_36 => ?_) (fun h_36 => ?_)
    · exact kk due (by rw [hf]; rfl) (by omega)
    · omega
  | succ k ih =>
    intro i due hi hd hf
    have hil : i < dr.length := by omega
    have hx : dr.getD i 0 = dr[i] := by simp [List.getD_eq_getElem?_getD, hil]
    have hx2 : dr.getD i 0 < 256 := by rw [hx]; exact h256 _ (List.getElem_mem hil)
    have et := hD.2 i hil
    rw [drop_at hil] at hf
    simp only [flt] at hf
    refine ev_iload_n t_45_31 rfl ?_
    refine ev_aload_n t_45_32 rfl ?_
    refine es_get (x := .int (τ (370) 2)) o_MO t_45_33 rfl ?_
    refine ev_top (y := (nI (dr.length))) (by exact e2) ?_
    refine ev_icmp_geN t_45_36 (by omega) (by omega) (fun h_36 => ?_) (fun h_36 => ?_)
    · omega
    · refine ev_iload_n t_45_39 rfl ?_
      refine ev_if_eqN t_45_40 (by omega) (fun h_40 => ?_) (fun h_40 => ?_)
      · refine ev_iload_n t_45_55 rfl ?_
        rw [if_pos (Or.inl h_40)] at hf
        exact ev_reti t_45_56 (ri rfl) (kr i hf hil)
      · refine ev_aload_n t_45_43 rfl ?_
        refine es_get (x := .ref 371) o_MO t_45_44 rfl ?_
        refine ev_iload_n t_45_47 rfl ?_
        refine es_iald (k := i) a_m371 t_45_48 (by omega) ?_
        refine ev_top (y := nI (dr.getD i 0)) et ?_
        refine ev_cl (pm_st_S t_45_49 (Nat.le_of_ble_eq_true rfl) (as := [.int (nI (dr.getD i 0))]) (rest := []) (L0 := [some (.int (nI (dr.getD i 0)))]) rfl rfl (Nat.le_of_ble_eq_true rfl) (Nat.le_of_ble_eq_true rfl) rfl) rfl (m43 (by omega)) ?_
        rintro _ _ ⟨rfl, rfl⟩
        change Ev _ _ _ _ ([.int (owI (dr.getD i 0))]) _ _
        refine ev_if_ge (y := 0) t_45_52 (fun h_52 => ?_) (fun h_52 => ?_)
        · have h9 : ow (dr.getD i 0) ≠ 9 := fun h => owI_neg h h_52
          have h8 := ow_le h9
          refine ev_iload_n t_45_57 rfl ?_
          refine ev_aload_n t_45_58 rfl ?_
          refine es_get (x := .ref 371) o_MO t_45_59 rfl ?_
          refine ev_iload_n t_45_62 rfl ?_
          refine es_iald (k := i) a_m371 t_45_63 (by omega) ?_
          refine ev_top (y := nI (dr.getD i 0)) et ?_
          refine ev_cl (pm_st_S t_45_64 (Nat.le_of_ble_eq_true rfl) (as := [.int (nI (dr.getD i 0))]) (rest := [.int (nI (due))]) (L0 := [some (.int (nI (dr.getD i 0)))]) rfl rfl (Nat.le_of_ble_eq_true rfl) (Nat.le_of_ble_eq_true rfl) rfl) rfl (m43 (by omega)) ?_
          rintro _ _ ⟨rfl, rfl⟩
          change Ev _ _ _ _ ([.int (owI (dr.getD i 0)), .int (nI (due))]) _ _
          refine ev_top (y := nI (ow (dr.getD i 0))) (owI_k rfl h9) ?_
          refine ev_iaddN t_45_67 ?_
          refine ev_iconst t_45_68 ?_
          change Ev _ _ _ _ ([.int (nI (1)), .int (nI ((due) + (ow (dr.getD i 0))))]) _ _
          refine ev_isubN t_45_69 (by omega) ?_
          refine ev_istore_n (L' := [some (.ref 370), some (.int (nI (f))), some (.int (nI (((due) + (ow (dr.getD i 0))) - (1)))), some (.int (nI (i)))]) t_45_70 (Nat.le_of_ble_eq_true rfl) rfl ?_
          refine ev_iincN (L' := [some (.ref 370), some (.int (nI (f))), some (.int (nI (((due) + (ow (dr.getD i 0))) - (1)))), some (.int (nI (i + 1)))]) t_45_71 rfl (Nat.le_of_ble_eq_true rfl) rfl ?_
          refine ev_goto t_45_74 ?_
          rw [if_neg (by omega)] at hf
          exact ih (i + 1) _ (by omega) (by omega) hf
        · refine ev_iload_n t_45_55 rfl ?_
          rw [if_pos (Or.inr (Decidable.byContradiction fun h => h_52 (by rw [owI_k rfl h]; exact (nI_leI (show 0 < 2 ^ 31 by decide) (by have := ow_le h; omega)).mpr (Nat.zero_le _))))] at hf
          exact ev_reti t_45_56 (ri rfl) (kr i hf hil)
end MV
