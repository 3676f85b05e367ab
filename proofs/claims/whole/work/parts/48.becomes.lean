/-! The reference: define, the text becomes the function's. -/
section MY
variable {d : Nat} {M : pm_M} {S : SP} {ck : Nat}
theorem m45c {f : Nat} {dr : List Nat} {n2 : Int32} (hf : f < 6) (hl : dr.length ≤ 24) {Q : pm_R → pm_M → Prop} : ∀ (k i : Nat) (τ : Nat → Nat → Int32), i + k = dr.length → MD τ dr → (∀ τ', (∀ q, q ≠ 372 → τ' q = τ q) → (∀ j, j < dr.length → i ≤ j → τ' 372 (24 * f + j) = nI (dr.getD j 0)) → (∀ j, (j < 24 * f + i ∨ 24 * f + dr.length ≤ j) → τ' 372 j = τ 372 j) → Ev (d + 1) 45 119 [some (.ref 370), some (.int (nI f)), some (.int n2), some (.int (nI dr.length))] [] (sM M τ') Q) → Ev (d + 1) 45 88 [some (.ref 370), some (.int (nI f)), some (.int n2), some (.int (nI i))] [] (sM M τ) Q := by
  intro k
  induction k with
  | zero =>
    intro i τ hi hD kk
    obtain rfl : i = dr.length := by omega
    have e2 := hD.1
    have kz := kk τ (fun _ _ => rfl) (fun j h1 h2 => by omega) (fun _ _ => rfl)
    refine ev_iload_n t_45_88 rfl ?_
    refine ev_aload_n t_45_89 rfl ?_
    refine es_get (x := .int (τ (370) 2)) o_MO t_45_90 rfl ?_
    refine ev_top (y := (nI (dr.length))) (by exact e2) ?_
    refine ev_icmp_geN t_45_93 (by omega) (by omega) (fun h_93 => ?_) (fun h_93 => ?_)
    · exact kz
    · omega
  | succ k ih =>
    intro i τ hi hD kk
    have hil : i < dr.length := by omega
    have e2 := hD.1
    have et := hD.2 i hil
    have c9 := ih (i + 1) (u2 τ 372 (24 * f + i) (nI (dr.getD i 0))) (by omega) ⟨by rw [u2_off (by omega)]; exact e2, fun j hj => by rw [u2_off (by omega)]; exact hD.2 j hj⟩ (fun τ' h1 h2 h3 => kk τ' (fun q hq => (h1 q hq).trans (u2_ne hq)) (fun j hj hij => by
      by_cases e : j = i
      · subst e; rw [h3 _ (by omega), u2_at]
      · exact h2 j hj (by omega)) (fun j hj => by rw [h3 j (by omega), u2_off (by omega)]))
    refine ev_iload_n t_45_88 rfl ?_
    refine ev_aload_n t_45_89 rfl ?_
    refine es_get (x := .int (τ (370) 2)) o_MO t_45_90 rfl ?_
    refine ev_top (y := (nI (dr.length))) (by exact e2) ?_
    refine ev_icmp_geN t_45_93 (by omega) (by omega) (fun h_93 => ?_) (fun h_93 => ?_)
    · omega
    · refine ev_aload_n t_45_96 rfl ?_
      refine es_get (x := .ref 372) o_MO t_45_97 rfl ?_
      refine ev_bipush t_45_100 ?_
      change Ev _ _ _ _ ([.int (nI (24)), .ref 372]) _ _
      refine ev_iload_n t_45_102 rfl ?_
      refine ev_imulN t_45_103 ?_
      refine ev_iload_n t_45_104 rfl ?_
      refine ev_iaddN t_45_105 ?_
      refine ev_aload_n t_45_106 rfl ?_
      refine es_get (x := .ref 371) o_MO t_45_107 rfl ?_
      refine ev_iload_n t_45_110 rfl ?_
      refine es_iald (k := i) a_m371 t_45_111 (by omega) ?_
      refine ev_top (y := nI (dr.getD i 0)) et ?_
      refine es_iast (k := ((24) * (f)) + (i)) a_m372 t_45_112 (by omega) ?_
      refine ev_iincN (L' := [some (.ref 370), some (.int (nI (f))), some (.int n2), some (.int (nI (i + 1)))]) t_45_113 rfl (Nat.le_of_ble_eq_true rfl) rfl ?_
      refine ev_goto t_45_116 ?_
      exact c9
end MY
