/-! The reference's constructor. -/
def tg0 (q k : Nat) : Int32 := if q = 370 then (if k = 21 then 96 else 0) else if q = 372 then (if k % 24 = 0 ∧ k < 144 then 48 else 0) else if q = 373 then (if k = 5 then 1 else if k = 4 then 1 else if k = 3 then 1 else if k = 2 then 1 else if k = 1 then 1 else if k = 0 then 1 else 0) else 0
def FM (k q : Nat) : pm_E := if q = 372 then .inl (.int, 144, fun j => if j % 24 = 0 ∧ j < 24 * k then .int 48 else .int 0) else shM q (tg0 q)
theorem FM_o {k q : Nat} (h : q ≠ 372) : FM k q = shM q (tg0 q) := by unfold FM; rw [if_neg h]
theorem FM_372 {k : Nat} : FM k 372 = .inl (.int, 144, fun j => if j % 24 = 0 ∧ j < 24 * k then .int 48 else .int 0) := rfl
theorem FM_370 {k : Nat} : FM k 370 = .inr (7, fMo (tg0 370)) := rfl
theorem FM_end {q : Nat} : FM 6 q = shM q (tg0 q) := by
  by_cases h : q = 372
  · subst h
    rw [FM_372]
    exact congrArg (fun g => (Sum.inl (.int, 144, g) : pm_E)) (funext fun j => by show _ = Value.int (if j % 24 = 0 ∧ j < 144 then 48 else 0); split <;> rfl)
  · exact FM_o h
section K39
variable {d s : Nat} {M : pm_M} {Q : pm_R → pm_M → Prop}
theorem k39l : ∀ (j k : Nat), k + j = 6 → Ev d 39 243 [some (.ref 370), some (.int (nI 6))] [] (fh 370 (FM 6) 386 s M) Q → Ev d 39 220 [some (.ref 370), some (.int (nI k))] [] (fh 370 (FM k) 386 s M) Q := by
  intro j
  induction j with
  | zero =>
    intro k hk kk
    obtain rfl : k = 6 := by omega
    refine ev_iload_n t_39_220 rfl ?_
    refine ev_bipush t_39_221 ?_
    change Ev _ _ _ _ ([.int (nI 6), .int (nI 6)]) _ _
    refine ev_icmp_geN t_39_223 (by omega) (by omega) (fun h => ?_) (fun h => ?_)
    · exact kk
    · omega
  | succ j ih =>
    intro k hk kk
    have ih := ih (k + 1) (by omega) kk
    refine ev_iload_n t_39_220 rfl ?_
    refine ev_bipush t_39_221 ?_
    change Ev _ _ _ _ ([.int (nI 6), .int (nI k)]) _ _
    refine ev_icmp_geN t_39_223 (by omega) (by omega) (fun h => ?_) (fun h => ?_)
    · omega
    · refine ev_aload_n t_39_226 rfl ?_
      refine ef_get (fs := fMo (tg0 370)) (x := .ref 372) t_39_227 (by omega) FM_370 rfl ?_
      refine ev_bipush t_39_230 ?_
      change Ev _ _ _ _ ([.int (nI 24), .ref 372]) _ _
      refine ev_iload_n t_39_232 rfl ?_
      refine ev_imulN t_39_233 ?_
      refine ev_bipush t_39_234 ?_
      change Ev _ _ _ _ ([.int (nI 48), .int (nI (24 * k)), .ref 372]) _ _
      refine ef_iast (k := 24 * k) (n := 144) (f := fun j => if j % 24 = 0 ∧ j < 24 * k then .int 48 else .int 0) t_39_236 (by omega) (by omega) FM_372 (by omega) (Nat.le_of_ble_eq_true rfl) ?_
      refine ev_iincN (L' := [some (.ref 370), some (.int (nI (k + 1)))]) t_39_237 rfl (Nat.le_of_ble_eq_true rfl) rfl ?_
      refine ev_goto t_39_240 ?_
      have e : fh 370 (uF (FM k) 372 (.inl (.int, 144, pm_uv (fun j => if j % 24 = 0 ∧ j < 24 * k then .int 48 else .int 0) (24 * k) (.int (nI 48))))) 386 s M = fh 370 (FM (k + 1)) 386 s M := by
        refine fh_eq (fun q h1 h2 => ?_)
        by_cases hq : q = 372
        · subst hq
          rw [uF_at, FM_372]
          refine congrArg (fun g => (Sum.inl (.int, 144, g) : pm_E)) (funext fun j => ?_)
          unfold pm_uv
          by_cases hj : j = 24 * k
          · rw [if_pos hj, if_pos (by omega)]; rfl
          · rw [if_neg hj]
            dsimp only
            by_cases hj2 : j % 24 = 0 ∧ j < 24 * k
            · rw [if_pos hj2, if_pos (by omega)]
            · rw [if_neg hj2, if_neg (by omega)]
        · rw [uF_ne hq, FM_o hq, FM_o hq]
      rw [e]
      exact ih
theorem k39 {F : Nat → pm_E} (hF : F 370 = .inr (7, [.int 0, .null, .int 0, .null, .null, .int 0, .null, .null, .null, .null, .null, .null, .null, .null, .null, .null, .null, .null, .null, .null, .int 0, .int 0, .int 0, .int 0, .int 0, .int 0, .int 0, .null, .null, .int 0, .int 0, .null, .null, .null, .int 0, .null, .int 0])) : Ev d 39 0 [some (.ref 370), none] [] (fh 370 F 363 (s + 37) M) (fun q9 M' => ∃ v9, q9 = .inl v9 ∧ v9 = none ∧ M' = fh 370 (FM 6) 386 (s + 3527) M) := by
  refine ev_aload_n t_39_0 rfl ?_
  refine ev_objinit t_39_1 (Nat.le_of_ble_eq_true rfl) ?_
  refine ev_aload_n t_39_4 rfl ?_
  refine ev_bipush t_39_5 ?_
  change Ev _ _ _ _ ([.int (nI 24), .ref 370]) _ _
  refine ef_newarray (k := 24) (q := 371) (c' := 364) (s' := (s + 61)) (ty := .int) t_39_7 (Nat.le_of_ble_eq_true rfl) (by omega) rfl rfl rfl rfl rfl ?_
  refine ef_put (fs := [.int 0, .null, .int 0, .null, .null, .int 0, .null, .null, .null, .null, .null, .null, .null, .null, .null, .null, .null, .null, .null, .null, .int 0, .int 0, .int 0, .int 0, .int 0, .int 0, .int 0, .null, .null, .int 0, .int 0, .null, .null, .null, .int 0, .null, .int 0]) (fs' := [.int 0, .ref 371, .int 0, .null, .null, .int 0, .null, .null, .null, .null, .null, .null, .null, .null, .null, .null, .null, .null, .null, .null, .int 0, .int 0, .int 0, .int 0, .int 0, .int 0, .int 0, .null, .null, .int 0, .int 0, .null, .null, .null, .int 0, .null, .int 0]) t_39_9 (by omega) (by omega) (by rw [uF_ne (by omega)]; exact hF) (Nat.le_of_ble_eq_true rfl) rfl rfl rfl ?_
  refine ev_aload_n t_39_12 rfl ?_
  refine ev_sipush t_39_13 ?_
  change Ev _ _ _ _ ([.int (nI 144), .ref 370]) _ _
  refine ef_newarray (k := 144) (q := 372) (c' := 365) (s' := (s + 205)) (ty := .int) t_39_16 (Nat.le_of_ble_eq_true rfl) (by omega) rfl rfl rfl rfl rfl ?_
  refine ef_put (fs := [.int 0, .ref 371, .int 0, .null, .null, .int 0, .null, .null, .null, .null, .null, .null, .null, .null, .null, .null, .null, .null, .null, .null, .int 0, .int 0, .int 0, .int 0, .int 0, .int 0, .int 0, .null, .null, .int 0, .int 0, .null, .null, .null, .int 0, .null, .int 0]) (fs' := [.int 0, .ref 371, .int 0, .ref 372, .null, .int 0, .null, .null, .null, .null, .null, .null, .null, .null, .null, .null, .null, .null, .null, .null, .int 0, .int 0, .int 0, .int 0, .int 0, .int 0, .int 0, .null, .null, .int 0, .int 0, .null, .null, .null, .int 0, .null, .int 0]) t_39_18 (by omega) (by omega) (by rw [uF_ne (by omega), uF_at]) (Nat.le_of_ble_eq_true rfl) rfl rfl rfl ?_
  refine ev_aload_n t_39_21 rfl ?_
  refine ev_bipush t_39_22 ?_
  change Ev _ _ _ _ ([.int (nI 6), .ref 370]) _ _
  refine ef_newarray (k := 6) (q := 373) (c' := 366) (s' := (s + 211)) (ty := .int) t_39_24 (Nat.le_of_ble_eq_true rfl) (by omega) rfl rfl rfl rfl rfl ?_
  refine ev_dup t_39_26 rfl ?_
  refine ev_iconst t_39_27 ?_
  change Ev _ _ _ _ ([.int (nI 0), .ref 373, .ref 373, .ref 370]) _ _
  refine ev_iconst t_39_28 ?_
  change Ev _ _ _ _ ([.int (nI 1), .int (nI 0), .ref 373, .ref 373, .ref 370]) _ _
  refine ef_iast (k := 0) (n := 6) (f := fun _ => .int 0) t_39_29 (by omega) (by omega) (by rw [uF_at]) (by omega) (Nat.le_of_ble_eq_true rfl) ?_
  refine ev_dup t_39_30 rfl ?_
  refine ev_iconst t_39_31 ?_
  change Ev _ _ _ _ ([.int (nI 1), .ref 373, .ref 373, .ref 370]) _ _
  refine ev_iconst t_39_32 ?_
  change Ev _ _ _ _ ([.int (nI 1), .int (nI 1), .ref 373, .ref 373, .ref 370]) _ _
  refine ef_iast (k := 1) (n := 6) (f := pm_uv (fun _ => .int 0) 0 (.int (nI 1))) t_39_33 (by omega) (by omega) (by rw [uF_at]) (by omega) (Nat.le_of_ble_eq_true rfl) ?_
  refine ev_dup t_39_34 rfl ?_
  refine ev_iconst t_39_35 ?_
  change Ev _ _ _ _ ([.int (nI 2), .ref 373, .ref 373, .ref 370]) _ _
  refine ev_iconst t_39_36 ?_
  change Ev _ _ _ _ ([.int (nI 1), .int (nI 2), .ref 373, .ref 373, .ref 370]) _ _
  refine ef_iast (k := 2) (n := 6) (f := pm_uv (pm_uv (fun _ => .int 0) 0 (.int (nI 1))) 1 (.int (nI 1))) t_39_37 (by omega) (by omega) (by rw [uF_at]) (by omega) (Nat.le_of_ble_eq_true rfl) ?_
  refine ev_dup t_39_38 rfl ?_
  refine ev_iconst t_39_39 ?_
  change Ev _ _ _ _ ([.int (nI 3), .ref 373, .ref 373, .ref 370]) _ _
  refine ev_iconst t_39_40 ?_
  change Ev _ _ _ _ ([.int (nI 1), .int (nI 3), .ref 373, .ref 373, .ref 370]) _ _
  refine ef_iast (k := 3) (n := 6) (f := pm_uv (pm_uv (pm_uv (fun _ => .int 0) 0 (.int (nI 1))) 1 (.int (nI 1))) 2 (.int (nI 1))) t_39_41 (by omega) (by omega) (by rw [uF_at]) (by omega) (Nat.le_of_ble_eq_true rfl) ?_
  refine ev_dup t_39_42 rfl ?_
  refine ev_iconst t_39_43 ?_
  change Ev _ _ _ _ ([.int (nI 4), .ref 373, .ref 373, .ref 370]) _ _
  refine ev_iconst t_39_44 ?_
  change Ev _ _ _ _ ([.int (nI 1), .int (nI 4), .ref 373, .ref 373, .ref 370]) _ _
  refine ef_iast (k := 4) (n := 6) (f := pm_uv (pm_uv (pm_uv (pm_uv (fun _ => .int 0) 0 (.int (nI 1))) 1 (.int (nI 1))) 2 (.int (nI 1))) 3 (.int (nI 1))) t_39_45 (by omega) (by omega) (by rw [uF_at]) (by omega) (Nat.le_of_ble_eq_true rfl) ?_
  refine ev_dup t_39_46 rfl ?_
  refine ev_iconst t_39_47 ?_
  change Ev _ _ _ _ ([.int (nI 5), .ref 373, .ref 373, .ref 370]) _ _
  refine ev_iconst t_39_48 ?_
  change Ev _ _ _ _ ([.int (nI 1), .int (nI 5), .ref 373, .ref 373, .ref 370]) _ _
  refine ef_iast (k := 5) (n := 6) (f := pm_uv (pm_uv (pm_uv (pm_uv (pm_uv (fun _ => .int 0) 0 (.int (nI 1))) 1 (.int (nI 1))) 2 (.int (nI 1))) 3 (.int (nI 1))) 4 (.int (nI 1))) t_39_49 (by omega) (by omega) (by rw [uF_at]) (by omega) (Nat.le_of_ble_eq_true rfl) ?_
  refine ef_put (fs := [.int 0, .ref 371, .int 0, .ref 372, .null, .int 0, .null, .null, .null, .null, .null, .null, .null, .null, .null, .null, .null, .null, .null, .null, .int 0, .int 0, .int 0, .int 0, .int 0, .int 0, .int 0, .null, .null, .int 0, .int 0, .null, .null, .null, .int 0, .null, .int 0]) (fs' := [.int 0, .ref 371, .int 0, .ref 372, .ref 373, .int 0, .null, .null, .null, .null, .null, .null, .null, .null, .null, .null, .null, .null, .null, .null, .int 0, .int 0, .int 0, .int 0, .int 0, .int 0, .int 0, .null, .null, .int 0, .int 0, .null, .null, .null, .int 0, .null, .int 0]) t_39_50 (by omega) (by omega) (by rw [uF_ne (by omega), uF_ne (by omega), uF_ne (by omega), uF_ne (by omega), uF_ne (by omega), uF_ne (by omega), uF_ne (by omega), uF_at]) (Nat.le_of_ble_eq_true rfl) rfl rfl rfl ?_
  refine ev_aload_n t_39_53 rfl ?_
  refine ev_bipush t_39_54 ?_
  change Ev _ _ _ _ ([.int (nI 48), .ref 370]) _ _
  refine ef_newarray (k := 48) (q := 374) (c' := 367) (s' := (s + 259)) (ty := .int) t_39_56 (Nat.le_of_ble_eq_true rfl) (by omega) rfl rfl rfl rfl rfl ?_
  refine ef_put (fs := [.int 0, .ref 371, .int 0, .ref 372, .ref 373, .int 0, .null, .null, .null, .null, .null, .null, .null, .null, .null, .null, .null, .null, .null, .null, .int 0, .int 0, .int 0, .int 0, .int 0, .int 0, .int 0, .null, .null, .int 0, .int 0, .null, .null, .null, .int 0, .null, .int 0]) (fs' := [.int 0, .ref 371, .int 0, .ref 372, .ref 373, .int 0, .ref 374, .null, .null, .null, .null, .null, .null, .null, .null, .null, .null, .null, .null, .null, .int 0, .int 0, .int 0, .int 0, .int 0, .int 0, .int 0, .null, .null, .int 0, .int 0, .null, .null, .null, .int 0, .null, .int 0]) t_39_58 (by omega) (by omega) (by rw [uF_ne (by omega), uF_at]) (Nat.le_of_ble_eq_true rfl) rfl rfl rfl ?_
  refine ev_aload_n t_39_61 rfl ?_
  refine ev_bipush t_39_62 ?_
  change Ev _ _ _ _ ([.int (nI 48), .ref 370]) _ _
  refine ef_newarray (k := 48) (q := 375) (c' := 368) (s' := (s + 307)) (ty := .int) t_39_64 (Nat.le_of_ble_eq_true rfl) (by omega) rfl rfl rfl rfl rfl ?_
  refine ef_put (fs := [.int 0, .ref 371, .int 0, .ref 372, .ref 373, .int 0, .ref 374, .null, .null, .null, .null, .null, .null, .null, .null, .null, .null, .null, .null, .null, .int 0, .int 0, .int 0, .int 0, .int 0, .int 0, .int 0, .null, .null, .int 0, .int 0, .null, .null, .null, .int 0, .null, .int 0]) (fs' := [.int 0, .ref 371, .int 0, .ref 372, .ref 373, .int 0, .ref 374, .ref 375, .null, .null, .null, .null, .null, .null, .null, .null, .null, .null, .null, .null, .int 0, .int 0, .int 0, .int 0, .int 0, .int 0, .int 0, .null, .null, .int 0, .int 0, .null, .null, .null, .int 0, .null, .int 0]) t_39_66 (by omega) (by omega) (by rw [uF_ne (by omega), uF_at]) (Nat.le_of_ble_eq_true rfl) rfl rfl rfl ?_
  refine ev_aload_n t_39_69 rfl ?_
  refine ev_iconst t_39_70 ?_
  change Ev _ _ _ _ ([.int (nI 3), .ref 370]) _ _
  refine ef_newarray (k := 3) (q := 376) (c' := 369) (s' := (s + 310)) (ty := .int) t_39_71 (Nat.le_of_ble_eq_true rfl) (by omega) rfl rfl rfl rfl rfl ?_
  refine ef_put (fs := [.int 0, .ref 371, .int 0, .ref 372, .ref 373, .int 0, .ref 374, .ref 375, .null, .null, .null, .null, .null, .null, .null, .null, .null, .null, .null, .null, .int 0, .int 0, .int 0, .int 0, .int 0, .int 0, .int 0, .null, .null, .int 0, .int 0, .null, .null, .null, .int 0, .null, .int 0]) (fs' := [.int 0, .ref 371, .int 0, .ref 372, .ref 373, .int 0, .ref 374, .ref 375, .ref 376, .null, .null, .null, .null, .null, .null, .null, .null, .null, .null, .null, .int 0, .int 0, .int 0, .int 0, .int 0, .int 0, .int 0, .null, .null, .int 0, .int 0, .null, .null, .null, .int 0, .null, .int 0]) t_39_73 (by omega) (by omega) (by rw [uF_ne (by omega), uF_at]) (Nat.le_of_ble_eq_true rfl) rfl rfl rfl ?_
  refine ev_aload_n t_39_76 rfl ?_
  refine ev_bipush t_39_77 ?_
  change Ev _ _ _ _ ([.int (nI 6), .ref 370]) _ _
  refine ef_newarray (k := 6) (q := 377) (c' := 370) (s' := (s + 316)) (ty := .int) t_39_79 (Nat.le_of_ble_eq_true rfl) (by omega) rfl rfl rfl rfl rfl ?_
  refine ef_put (fs := [.int 0, .ref 371, .int 0, .ref 372, .ref 373, .int 0, .ref 374, .ref 375, .ref 376, .null, .null, .null, .null, .null, .null, .null, .null, .null, .null, .null, .int 0, .int 0, .int 0, .int 0, .int 0, .int 0, .int 0, .null, .null, .int 0, .int 0, .null, .null, .null, .int 0, .null, .int 0]) (fs' := [.int 0, .ref 371, .int 0, .ref 372, .ref 373, .int 0, .ref 374, .ref 375, .ref 376, .ref 377, .null, .null, .null, .null, .null, .null, .null, .null, .null, .null, .int 0, .int 0, .int 0, .int 0, .int 0, .int 0, .int 0, .null, .null, .int 0, .int 0, .null, .null, .null, .int 0, .null, .int 0]) t_39_81 (by omega) (by omega) (by rw [uF_ne (by omega), uF_at]) (Nat.le_of_ble_eq_true rfl) rfl rfl rfl ?_
  refine ev_aload_n t_39_84 rfl ?_
  refine ev_iconst t_39_85 ?_
  change Ev _ _ _ _ ([.int (nI 3), .ref 370]) _ _
  refine ef_newarray (k := 3) (q := 378) (c' := 371) (s' := (s + 319)) (ty := .int) t_39_86 (Nat.le_of_ble_eq_true rfl) (by omega) rfl rfl rfl rfl rfl ?_
  refine ef_put (fs := [.int 0, .ref 371, .int 0, .ref 372, .ref 373, .int 0, .ref 374, .ref 375, .ref 376, .ref 377, .null, .null, .null, .null, .null, .null, .null, .null, .null, .null, .int 0, .int 0, .int 0, .int 0, .int 0, .int 0, .int 0, .null, .null, .int 0, .int 0, .null, .null, .null, .int 0, .null, .int 0]) (fs' := [.int 0, .ref 371, .int 0, .ref 372, .ref 373, .int 0, .ref 374, .ref 375, .ref 376, .ref 377, .ref 378, .null, .null, .null, .null, .null, .null, .null, .null, .null, .int 0, .int 0, .int 0, .int 0, .int 0, .int 0, .int 0, .null, .null, .int 0, .int 0, .null, .null, .null, .int 0, .null, .int 0]) t_39_88 (by omega) (by omega) (by rw [uF_ne (by omega), uF_at]) (Nat.le_of_ble_eq_true rfl) rfl rfl rfl ?_
  refine ev_aload_n t_39_91 rfl ?_
  refine ev_bipush t_39_92 ?_
  change Ev _ _ _ _ ([.int (nI 96), .ref 370]) _ _
  refine ef_newarray (k := 96) (q := 379) (c' := 372) (s' := (s + 415)) (ty := .boolean) t_39_94 (Nat.le_of_ble_eq_true rfl) (by omega) rfl rfl rfl rfl rfl ?_
  refine ef_put (fs := [.int 0, .ref 371, .int 0, .ref 372, .ref 373, .int 0, .ref 374, .ref 375, .ref 376, .ref 377, .ref 378, .null, .null, .null, .null, .null, .null, .null, .null, .null, .int 0, .int 0, .int 0, .int 0, .int 0, .int 0, .int 0, .null, .null, .int 0, .int 0, .null, .null, .null, .int 0, .null, .int 0]) (fs' := [.int 0, .ref 371, .int 0, .ref 372, .ref 373, .int 0, .ref 374, .ref 375, .ref 376, .ref 377, .ref 378, .ref 379, .null, .null, .null, .null, .null, .null, .null, .null, .int 0, .int 0, .int 0, .int 0, .int 0, .int 0, .int 0, .null, .null, .int 0, .int 0, .null, .null, .null, .int 0, .null, .int 0]) t_39_96 (by omega) (by omega) (by rw [uF_ne (by omega), uF_at]) (Nat.le_of_ble_eq_true rfl) rfl rfl rfl ?_
  refine ev_aload_n t_39_99 rfl ?_
  refine ev_bipush t_39_100 ?_
  change Ev _ _ _ _ ([.int (nI 96), .ref 370]) _ _
  refine ef_newarray (k := 96) (q := 380) (c' := 373) (s' := (s + 511)) (ty := .int) t_39_102 (Nat.le_of_ble_eq_true rfl) (by omega) rfl rfl rfl rfl rfl ?_
  refine ef_put (fs := [.int 0, .ref 371, .int 0, .ref 372, .ref 373, .int 0, .ref 374, .ref 375, .ref 376, .ref 377, .ref 378, .ref 379, .null, .null, .null, .null, .null, .null, .null, .null, .int 0, .int 0, .int 0, .int 0, .int 0, .int 0, .int 0, .null, .null, .int 0, .int 0, .null, .null, .null, .int 0, .null, .int 0]) (fs' := [.int 0, .ref 371, .int 0, .ref 372, .ref 373, .int 0, .ref 374, .ref 375, .ref 376, .ref 377, .ref 378, .ref 379, .ref 380, .null, .null, .null, .null, .null, .null, .null, .int 0, .int 0, .int 0, .int 0, .int 0, .int 0, .int 0, .null, .null, .int 0, .int 0, .null, .null, .null, .int 0, .null, .int 0]) t_39_104 (by omega) (by omega) (by rw [uF_ne (by omega), uF_at]) (Nat.le_of_ble_eq_true rfl) rfl rfl rfl ?_
  refine ev_aload_n t_39_107 rfl ?_
  refine ev_bipush t_39_108 ?_
  change Ev _ _ _ _ ([.int (nI 96), .ref 370]) _ _
  refine ef_newarray (k := 96) (q := 381) (c' := 374) (s' := (s + 607)) (ty := .int) t_39_110 (Nat.le_of_ble_eq_true rfl) (by omega) rfl rfl rfl rfl rfl ?_
  refine ef_put (fs := [.int 0, .ref 371, .int 0, .ref 372, .ref 373, .int 0, .ref 374, .ref 375, .ref 376, .ref 377, .ref 378, .ref 379, .ref 380, .null, .null, .null, .null, .null, .null, .null, .int 0, .int 0, .int 0, .int 0, .int 0, .int 0, .int 0, .null, .null, .int 0, .int 0, .null, .null, .null, .int 0, .null, .int 0]) (fs' := [.int 0, .ref 371, .int 0, .ref 372, .ref 373, .int 0, .ref 374, .ref 375, .ref 376, .ref 377, .ref 378, .ref 379, .ref 380, .ref 381, .null, .null, .null, .null, .null, .null, .int 0, .int 0, .int 0, .int 0, .int 0, .int 0, .int 0, .null, .null, .int 0, .int 0, .null, .null, .null, .int 0, .null, .int 0]) t_39_112 (by omega) (by omega) (by rw [uF_ne (by omega), uF_at]) (Nat.le_of_ble_eq_true rfl) rfl rfl rfl ?_
  refine ev_aload_n t_39_115 rfl ?_
  refine ev_bipush t_39_116 ?_
  change Ev _ _ _ _ ([.int (nI 96), .ref 370]) _ _
  refine ef_newarray (k := 96) (q := 382) (c' := 375) (s' := (s + 703)) (ty := .int) t_39_118 (Nat.le_of_ble_eq_true rfl) (by omega) rfl rfl rfl rfl rfl ?_
  refine ef_put (fs := [.int 0, .ref 371, .int 0, .ref 372, .ref 373, .int 0, .ref 374, .ref 375, .ref 376, .ref 377, .ref 378, .ref 379, .ref 380, .ref 381, .null, .null, .null, .null, .null, .null, .int 0, .int 0, .int 0, .int 0, .int 0, .int 0, .int 0, .null, .null, .int 0, .int 0, .null, .null, .null, .int 0, .null, .int 0]) (fs' := [.int 0, .ref 371, .int 0, .ref 372, .ref 373, .int 0, .ref 374, .ref 375, .ref 376, .ref 377, .ref 378, .ref 379, .ref 380, .ref 381, .ref 382, .null, .null, .null, .null, .null, .int 0, .int 0, .int 0, .int 0, .int 0, .int 0, .int 0, .null, .null, .int 0, .int 0, .null, .null, .null, .int 0, .null, .int 0]) t_39_120 (by omega) (by omega) (by rw [uF_ne (by omega), uF_at]) (Nat.le_of_ble_eq_true rfl) rfl rfl rfl ?_
  refine ev_aload_n t_39_123 rfl ?_
  refine ev_bipush t_39_124 ?_
  change Ev _ _ _ _ ([.int (nI 96), .ref 370]) _ _
  refine ef_newarray (k := 96) (q := 383) (c' := 376) (s' := (s + 799)) (ty := .int) t_39_126 (Nat.le_of_ble_eq_true rfl) (by omega) rfl rfl rfl rfl rfl ?_
  refine ef_put (fs := [.int 0, .ref 371, .int 0, .ref 372, .ref 373, .int 0, .ref 374, .ref 375, .ref 376, .ref 377, .ref 378, .ref 379, .ref 380, .ref 381, .ref 382, .null, .null, .null, .null, .null, .int 0, .int 0, .int 0, .int 0, .int 0, .int 0, .int 0, .null, .null, .int 0, .int 0, .null, .null, .null, .int 0, .null, .int 0]) (fs' := [.int 0, .ref 371, .int 0, .ref 372, .ref 373, .int 0, .ref 374, .ref 375, .ref 376, .ref 377, .ref 378, .ref 379, .ref 380, .ref 381, .ref 382, .ref 383, .null, .null, .null, .null, .int 0, .int 0, .int 0, .int 0, .int 0, .int 0, .int 0, .null, .null, .int 0, .int 0, .null, .null, .null, .int 0, .null, .int 0]) t_39_128 (by omega) (by omega) (by rw [uF_ne (by omega), uF_at]) (Nat.le_of_ble_eq_true rfl) rfl rfl rfl ?_
  refine ev_aload_n t_39_131 rfl ?_
  refine ev_bipush t_39_132 ?_
  change Ev _ _ _ _ ([.int (nI 96), .ref 370]) _ _
  refine ef_newarray (k := 96) (q := 384) (c' := 377) (s' := (s + 895)) (ty := .boolean) t_39_134 (Nat.le_of_ble_eq_true rfl) (by omega) rfl rfl rfl rfl rfl ?_
  refine ef_put (fs := [.int 0, .ref 371, .int 0, .ref 372, .ref 373, .int 0, .ref 374, .ref 375, .ref 376, .ref 377, .ref 378, .ref 379, .ref 380, .ref 381, .ref 382, .ref 383, .null, .null, .null, .null, .int 0, .int 0, .int 0, .int 0, .int 0, .int 0, .int 0, .null, .null, .int 0, .int 0, .null, .null, .null, .int 0, .null, .int 0]) (fs' := [.int 0, .ref 371, .int 0, .ref 372, .ref 373, .int 0, .ref 374, .ref 375, .ref 376, .ref 377, .ref 378, .ref 379, .ref 380, .ref 381, .ref 382, .ref 383, .ref 384, .null, .null, .null, .int 0, .int 0, .int 0, .int 0, .int 0, .int 0, .int 0, .null, .null, .int 0, .int 0, .null, .null, .null, .int 0, .null, .int 0]) t_39_136 (by omega) (by omega) (by rw [uF_ne (by omega), uF_at]) (Nat.le_of_ble_eq_true rfl) rfl rfl rfl ?_
  refine ev_aload_n t_39_139 rfl ?_
  refine ev_sipush t_39_140 ?_
  change Ev _ _ _ _ ([.int (nI 2304), .ref 370]) _ _
  refine ef_newarray (k := 2304) (q := 385) (c' := 378) (s' := (s + 3199)) (ty := .int) t_39_143 (Nat.le_of_ble_eq_true rfl) (by omega) rfl rfl rfl rfl rfl ?_
  refine ef_put (fs := [.int 0, .ref 371, .int 0, .ref 372, .ref 373, .int 0, .ref 374, .ref 375, .ref 376, .ref 377, .ref 378, .ref 379, .ref 380, .ref 381, .ref 382, .ref 383, .ref 384, .null, .null, .null, .int 0, .int 0, .int 0, .int 0, .int 0, .int 0, .int 0, .null, .null, .int 0, .int 0, .null, .null, .null, .int 0, .null, .int 0]) (fs' := [.int 0, .ref 371, .int 0, .ref 372, .ref 373, .int 0, .ref 374, .ref 375, .ref 376, .ref 377, .ref 378, .ref 379, .ref 380, .ref 381, .ref 382, .ref 383, .ref 384, .ref 385, .null, .null, .int 0, .int 0, .int 0, .int 0, .int 0, .int 0, .int 0, .null, .null, .int 0, .int 0, .null, .null, .null, .int 0, .null, .int 0]) t_39_145 (by omega) (by omega) (by rw [uF_ne (by omega), uF_at]) (Nat.le_of_ble_eq_true rfl) rfl rfl rfl ?_
  refine ev_aload_n t_39_148 rfl ?_
  refine ev_bipush t_39_149 ?_
  change Ev _ _ _ _ ([.int (nI 96), .ref 370]) _ _
  refine ef_newarray (k := 96) (q := 386) (c' := 379) (s' := (s + 3295)) (ty := .int) t_39_151 (Nat.le_of_ble_eq_true rfl) (by omega) rfl rfl rfl rfl rfl ?_
  refine ef_put (fs := [.int 0, .ref 371, .int 0, .ref 372, .ref 373, .int 0, .ref 374, .ref 375, .ref 376, .ref 377, .ref 378, .ref 379, .ref 380, .ref 381, .ref 382, .ref 383, .ref 384, .ref 385, .null, .null, .int 0, .int 0, .int 0, .int 0, .int 0, .int 0, .int 0, .null, .null, .int 0, .int 0, .null, .null, .null, .int 0, .null, .int 0]) (fs' := [.int 0, .ref 371, .int 0, .ref 372, .ref 373, .int 0, .ref 374, .ref 375, .ref 376, .ref 377, .ref 378, .ref 379, .ref 380, .ref 381, .ref 382, .ref 383, .ref 384, .ref 385, .ref 386, .null, .int 0, .int 0, .int 0, .int 0, .int 0, .int 0, .int 0, .null, .null, .int 0, .int 0, .null, .null, .null, .int 0, .null, .int 0]) t_39_153 (by omega) (by omega) (by rw [uF_ne (by omega), uF_at]) (Nat.le_of_ble_eq_true rfl) rfl rfl rfl ?_
  refine ev_aload_n t_39_156 rfl ?_
  refine ev_bipush t_39_157 ?_
  change Ev _ _ _ _ ([.int (nI 96), .ref 370]) _ _
  refine ef_newarray (k := 96) (q := 387) (c' := 380) (s' := (s + 3391)) (ty := .int) t_39_159 (Nat.le_of_ble_eq_true rfl) (by omega) rfl rfl rfl rfl rfl ?_
  refine ef_put (fs := [.int 0, .ref 371, .int 0, .ref 372, .ref 373, .int 0, .ref 374, .ref 375, .ref 376, .ref 377, .ref 378, .ref 379, .ref 380, .ref 381, .ref 382, .ref 383, .ref 384, .ref 385, .ref 386, .null, .int 0, .int 0, .int 0, .int 0, .int 0, .int 0, .int 0, .null, .null, .int 0, .int 0, .null, .null, .null, .int 0, .null, .int 0]) (fs' := [.int 0, .ref 371, .int 0, .ref 372, .ref 373, .int 0, .ref 374, .ref 375, .ref 376, .ref 377, .ref 378, .ref 379, .ref 380, .ref 381, .ref 382, .ref 383, .ref 384, .ref 385, .ref 386, .ref 387, .int 0, .int 0, .int 0, .int 0, .int 0, .int 0, .int 0, .null, .null, .int 0, .int 0, .null, .null, .null, .int 0, .null, .int 0]) t_39_161 (by omega) (by omega) (by rw [uF_ne (by omega), uF_at]) (Nat.le_of_ble_eq_true rfl) rfl rfl rfl ?_
  refine ev_aload_n t_39_164 rfl ?_
  refine ev_bipush t_39_165 ?_
  change Ev _ _ _ _ ([.int (nI 96), .ref 370]) _ _
  refine ef_put (fs := [.int 0, .ref 371, .int 0, .ref 372, .ref 373, .int 0, .ref 374, .ref 375, .ref 376, .ref 377, .ref 378, .ref 379, .ref 380, .ref 381, .ref 382, .ref 383, .ref 384, .ref 385, .ref 386, .ref 387, .int 0, .int 0, .int 0, .int 0, .int 0, .int 0, .int 0, .null, .null, .int 0, .int 0, .null, .null, .null, .int 0, .null, .int 0]) (fs' := [.int 0, .ref 371, .int 0, .ref 372, .ref 373, .int 0, .ref 374, .ref 375, .ref 376, .ref 377, .ref 378, .ref 379, .ref 380, .ref 381, .ref 382, .ref 383, .ref 384, .ref 385, .ref 386, .ref 387, .int 0, .int (nI 96), .int 0, .int 0, .int 0, .int 0, .int 0, .null, .null, .int 0, .int 0, .null, .null, .null, .int 0, .null, .int 0]) t_39_167 (by omega) (by omega) (by rw [uF_at]) (Nat.le_of_ble_eq_true rfl) rfl rfl rfl ?_
  refine ev_aload_n t_39_170 rfl ?_
  refine ev_bipush t_39_171 ?_
  change Ev _ _ _ _ ([.int (nI 20), .ref 370]) _ _
  refine ef_newarray (k := 20) (q := 388) (c' := 381) (s' := (s + 3411)) (ty := .int) t_39_173 (Nat.le_of_ble_eq_true rfl) (by omega) rfl rfl rfl rfl rfl ?_
  refine ef_put (fs := [.int 0, .ref 371, .int 0, .ref 372, .ref 373, .int 0, .ref 374, .ref 375, .ref 376, .ref 377, .ref 378, .ref 379, .ref 380, .ref 381, .ref 382, .ref 383, .ref 384, .ref 385, .ref 386, .ref 387, .int 0, .int (nI 96), .int 0, .int 0, .int 0, .int 0, .int 0, .null, .null, .int 0, .int 0, .null, .null, .null, .int 0, .null, .int 0]) (fs' := [.int 0, .ref 371, .int 0, .ref 372, .ref 373, .int 0, .ref 374, .ref 375, .ref 376, .ref 377, .ref 378, .ref 379, .ref 380, .ref 381, .ref 382, .ref 383, .ref 384, .ref 385, .ref 386, .ref 387, .int 0, .int (nI 96), .int 0, .int 0, .int 0, .int 0, .int 0, .ref 388, .null, .int 0, .int 0, .null, .null, .null, .int 0, .null, .int 0]) t_39_175 (by omega) (by omega) (by rw [uF_ne (by omega), uF_at]) (Nat.le_of_ble_eq_true rfl) rfl rfl rfl ?_
  refine ev_aload_n t_39_178 rfl ?_
  refine ev_bipush t_39_179 ?_
  change Ev _ _ _ _ ([.int (nI 20), .ref 370]) _ _
  refine ef_newarray (k := 20) (q := 389) (c' := 382) (s' := (s + 3431)) (ty := .boolean) t_39_181 (Nat.le_of_ble_eq_true rfl) (by omega) rfl rfl rfl rfl rfl ?_
  refine ef_put (fs := [.int 0, .ref 371, .int 0, .ref 372, .ref 373, .int 0, .ref 374, .ref 375, .ref 376, .ref 377, .ref 378, .ref 379, .ref 380, .ref 381, .ref 382, .ref 383, .ref 384, .ref 385, .ref 386, .ref 387, .int 0, .int (nI 96), .int 0, .int 0, .int 0, .int 0, .int 0, .ref 388, .null, .int 0, .int 0, .null, .null, .null, .int 0, .null, .int 0]) (fs' := [.int 0, .ref 371, .int 0, .ref 372, .ref 373, .int 0, .ref 374, .ref 375, .ref 376, .ref 377, .ref 378, .ref 379, .ref 380, .ref 381, .ref 382, .ref 383, .ref 384, .ref 385, .ref 386, .ref 387, .int 0, .int (nI 96), .int 0, .int 0, .int 0, .int 0, .int 0, .ref 388, .ref 389, .int 0, .int 0, .null, .null, .null, .int 0, .null, .int 0]) t_39_183 (by omega) (by omega) (by rw [uF_ne (by omega), uF_at]) (Nat.le_of_ble_eq_true rfl) rfl rfl rfl ?_
  refine ev_aload_n t_39_186 rfl ?_
  refine ev_bipush t_39_187 ?_
  change Ev _ _ _ _ ([.int (nI 24), .ref 370]) _ _
  refine ef_newarray (k := 24) (q := 390) (c' := 383) (s' := (s + 3455)) (ty := .int) t_39_189 (Nat.le_of_ble_eq_true rfl) (by omega) rfl rfl rfl rfl rfl ?_
  refine ef_put (fs := [.int 0, .ref 371, .int 0, .ref 372, .ref 373, .int 0, .ref 374, .ref 375, .ref 376, .ref 377, .ref 378, .ref 379, .ref 380, .ref 381, .ref 382, .ref 383, .ref 384, .ref 385, .ref 386, .ref 387, .int 0, .int (nI 96), .int 0, .int 0, .int 0, .int 0, .int 0, .ref 388, .ref 389, .int 0, .int 0, .null, .null, .null, .int 0, .null, .int 0]) (fs' := [.int 0, .ref 371, .int 0, .ref 372, .ref 373, .int 0, .ref 374, .ref 375, .ref 376, .ref 377, .ref 378, .ref 379, .ref 380, .ref 381, .ref 382, .ref 383, .ref 384, .ref 385, .ref 386, .ref 387, .int 0, .int (nI 96), .int 0, .int 0, .int 0, .int 0, .int 0, .ref 388, .ref 389, .int 0, .int 0, .ref 390, .null, .null, .int 0, .null, .int 0]) t_39_191 (by omega) (by omega) (by rw [uF_ne (by omega), uF_at]) (Nat.le_of_ble_eq_true rfl) rfl rfl rfl ?_
  refine ev_aload_n t_39_194 rfl ?_
  refine ev_bipush t_39_195 ?_
  change Ev _ _ _ _ ([.int (nI 24), .ref 370]) _ _
  refine ef_newarray (k := 24) (q := 391) (c' := 384) (s' := (s + 3479)) (ty := .int) t_39_197 (Nat.le_of_ble_eq_true rfl) (by omega) rfl rfl rfl rfl rfl ?_
  refine ef_put (fs := [.int 0, .ref 371, .int 0, .ref 372, .ref 373, .int 0, .ref 374, .ref 375, .ref 376, .ref 377, .ref 378, .ref 379, .ref 380, .ref 381, .ref 382, .ref 383, .ref 384, .ref 385, .ref 386, .ref 387, .int 0, .int (nI 96), .int 0, .int 0, .int 0, .int 0, .int 0, .ref 388, .ref 389, .int 0, .int 0, .ref 390, .null, .null, .int 0, .null, .int 0]) (fs' := [.int 0, .ref 371, .int 0, .ref 372, .ref 373, .int 0, .ref 374, .ref 375, .ref 376, .ref 377, .ref 378, .ref 379, .ref 380, .ref 381, .ref 382, .ref 383, .ref 384, .ref 385, .ref 386, .ref 387, .int 0, .int (nI 96), .int 0, .int 0, .int 0, .int 0, .int 0, .ref 388, .ref 389, .int 0, .int 0, .ref 390, .ref 391, .null, .int 0, .null, .int 0]) t_39_199 (by omega) (by omega) (by rw [uF_ne (by omega), uF_at]) (Nat.le_of_ble_eq_true rfl) rfl rfl rfl ?_
  refine ev_aload_n t_39_202 rfl ?_
  refine ev_bipush t_39_203 ?_
  change Ev _ _ _ _ ([.int (nI 24), .ref 370]) _ _
  refine ef_newarray (k := 24) (q := 392) (c' := 385) (s' := (s + 3503)) (ty := .int) t_39_205 (Nat.le_of_ble_eq_true rfl) (by omega) rfl rfl rfl rfl rfl ?_
  refine ef_put (fs := [.int 0, .ref 371, .int 0, .ref 372, .ref 373, .int 0, .ref 374, .ref 375, .ref 376, .ref 377, .ref 378, .ref 379, .ref 380, .ref 381, .ref 382, .ref 383, .ref 384, .ref 385, .ref 386, .ref 387, .int 0, .int (nI 96), .int 0, .int 0, .int 0, .int 0, .int 0, .ref 388, .ref 389, .int 0, .int 0, .ref 390, .ref 391, .null, .int 0, .null, .int 0]) (fs' := [.int 0, .ref 371, .int 0, .ref 372, .ref 373, .int 0, .ref 374, .ref 375, .ref 376, .ref 377, .ref 378, .ref 379, .ref 380, .ref 381, .ref 382, .ref 383, .ref 384, .ref 385, .ref 386, .ref 387, .int 0, .int (nI 96), .int 0, .int 0, .int 0, .int 0, .int 0, .ref 388, .ref 389, .int 0, .int 0, .ref 390, .ref 391, .ref 392, .int 0, .null, .int 0]) t_39_207 (by omega) (by omega) (by rw [uF_ne (by omega), uF_at]) (Nat.le_of_ble_eq_true rfl) rfl rfl rfl ?_
  refine ev_aload_n t_39_210 rfl ?_
  refine ev_bipush t_39_211 ?_
  change Ev _ _ _ _ ([.int (nI 24), .ref 370]) _ _
  refine ef_newarray (k := 24) (q := 393) (c' := 386) (s' := (s + 3527)) (ty := .int) t_39_213 (Nat.le_of_ble_eq_true rfl) (by omega) rfl rfl rfl rfl rfl ?_
  refine ef_put (fs := [.int 0, .ref 371, .int 0, .ref 372, .ref 373, .int 0, .ref 374, .ref 375, .ref 376, .ref 377, .ref 378, .ref 379, .ref 380, .ref 381, .ref 382, .ref 383, .ref 384, .ref 385, .ref 386, .ref 387, .int 0, .int (nI 96), .int 0, .int 0, .int 0, .int 0, .int 0, .ref 388, .ref 389, .int 0, .int 0, .ref 390, .ref 391, .ref 392, .int 0, .null, .int 0]) (fs' := [.int 0, .ref 371, .int 0, .ref 372, .ref 373, .int 0, .ref 374, .ref 375, .ref 376, .ref 377, .ref 378, .ref 379, .ref 380, .ref 381, .ref 382, .ref 383, .ref 384, .ref 385, .ref 386, .ref 387, .int 0, .int (nI 96), .int 0, .int 0, .int 0, .int 0, .int 0, .ref 388, .ref 389, .int 0, .int 0, .ref 390, .ref 391, .ref 392, .int 0, .ref 393, .int 0]) t_39_215 (by omega) (by omega) (by rw [uF_ne (by omega), uF_at]) (Nat.le_of_ble_eq_true rfl) rfl rfl rfl ?_
  refine ev_iconst t_39_218 ?_
  change Ev _ _ _ _ ([.int (nI 0)]) _ _
  refine ev_istore_n (L' := [some (.ref 370), some (.int (nI 0))]) t_39_219 (Nat.le_of_ble_eq_true rfl) rfl ?_
  have e : fh 370 (uF (uF (uF (uF (uF (uF (uF (uF (uF (uF (uF (uF (uF (uF (uF (uF (uF (uF (uF (uF (uF (uF (uF (uF (uF (uF (uF (uF (uF (uF (uF (uF (uF (uF (uF (uF (uF (uF (uF (uF (uF (uF (uF (uF (uF (uF (uF (uF (uF (uF (uF (uF (uF F 371 (.inl (.int, 24, fun _ => .int 0))) 370 (.inr (7, [.int 0, .ref 371, .int 0, .null, .null, .int 0, .null, .null, .null, .null, .null, .null, .null, .null, .null, .null, .null, .null, .null, .null, .int 0, .int 0, .int 0, .int 0, .int 0, .int 0, .int 0, .null, .null, .int 0, .int 0, .null, .null, .null, .int 0, .null, .int 0]))) 372 (.inl (.int, 144, fun _ => .int 0))) 370 (.inr (7, [.int 0, .ref 371, .int 0, .ref 372, .null, .int 0, .null, .null, .null, .null, .null, .null, .null, .null, .null, .null, .null, .null, .null, .null, .int 0, .int 0, .int 0, .int 0, .int 0, .int 0, .int 0, .null, .null, .int 0, .int 0, .null, .null, .null, .int 0, .null, .int 0]))) 373 (.inl (.int, 6, fun _ => .int 0))) 373 (.inl (.int, 6, pm_uv (fun _ => .int 0) 0 (.int (nI 1))))) 373 (.inl (.int, 6, pm_uv (pm_uv (fun _ => .int 0) 0 (.int (nI 1))) 1 (.int (nI 1))))) 373 (.inl (.int, 6, pm_uv (pm_uv (pm_uv (fun _ => .int 0) 0 (.int (nI 1))) 1 (.int (nI 1))) 2 (.int (nI 1))))) 373 (.inl (.int, 6, pm_uv (pm_uv (pm_uv (pm_uv (fun _ => .int 0) 0 (.int (nI 1))) 1 (.int (nI 1))) 2 (.int (nI 1))) 3 (.int (nI 1))))) 373 (.inl (.int, 6, pm_uv (pm_uv (pm_uv (pm_uv (pm_uv (fun _ => .int 0) 0 (.int (nI 1))) 1 (.int (nI 1))) 2 (.int (nI 1))) 3 (.int (nI 1))) 4 (.int (nI 1))))) 373 (.inl (.int, 6, pm_uv (pm_uv (pm_uv (pm_uv (pm_uv (pm_uv (fun _ => .int 0) 0 (.int (nI 1))) 1 (.int (nI 1))) 2 (.int (nI 1))) 3 (.int (nI 1))) 4 (.int (nI 1))) 5 (.int (nI 1))))) 370 (.inr (7, [.int 0, .ref 371, .int 0, .ref 372, .ref 373, .int 0, .null, .null, .null, .null, .null, .null, .null, .null, .null, .null, .null, .null, .null, .null, .int 0, .int 0, .int 0, .int 0, .int 0, .int 0, .int 0, .null, .null, .int 0, .int 0, .null, .null, .null, .int 0, .null, .int 0]))) 374 (.inl (.int, 48, fun _ => .int 0))) 370 (.inr (7, [.int 0, .ref 371, .int 0, .ref 372, .ref 373, .int 0, .ref 374, .null, .null, .null, .null, .null, .null, .null, .null, .null, .null, .null, .null, .null, .int 0, .int 0, .int 0, .int 0, .int 0, .int 0, .int 0, .null, .null, .int 0, .int 0, .null, .null, .null, .int 0, .null, .int 0]))) 375 (.inl (.int, 48, fun _ => .int 0))) 370 (.inr (7, [.int 0, .ref 371, .int 0, .ref 372, .ref 373, .int 0, .ref 374, .ref 375, .null, .null, .null, .null, .null, .null, .null, .null, .null, .null, .null, .null, .int 0, .int 0, .int 0, .int 0, .int 0, .int 0, .int 0, .null, .null, .int 0, .int 0, .null, .null, .null, .int 0, .null, .int 0]))) 376 (.inl (.int, 3, fun _ => .int 0))) 370 (.inr (7, [.int 0, .ref 371, .int 0, .ref 372, .ref 373, .int 0, .ref 374, .ref 375, .ref 376, .null, .null, .null, .null, .null, .null, .null, .null, .null, .null, .null, .int 0, .int 0, .int 0, .int 0, .int 0, .int 0, .int 0, .null, .null, .int 0, .int 0, .null, .null, .null, .int 0, .null, .int 0]))) 377 (.inl (.int, 6, fun _ => .int 0))) 370 (.inr (7, [.int 0, .ref 371, .int 0, .ref 372, .ref 373, .int 0, .ref 374, .ref 375, .ref 376, .ref 377, .null, .null, .null, .null, .null, .null, .null, .null, .null, .null, .int 0, .int 0, .int 0, .int 0, .int 0, .int 0, .int 0, .null, .null, .int 0, .int 0, .null, .null, .null, .int 0, .null, .int 0]))) 378 (.inl (.int, 3, fun _ => .int 0))) 370 (.inr (7, [.int 0, .ref 371, .int 0, .ref 372, .ref 373, .int 0, .ref 374, .ref 375, .ref 376, .ref 377, .ref 378, .null, .null, .null, .null, .null, .null, .null, .null, .null, .int 0, .int 0, .int 0, .int 0, .int 0, .int 0, .int 0, .null, .null, .int 0, .int 0, .null, .null, .null, .int 0, .null, .int 0]))) 379 (.inl (.boolean, 96, fun _ => .int 0))) 370 (.inr (7, [.int 0, .ref 371, .int 0, .ref 372, .ref 373, .int 0, .ref 374, .ref 375, .ref 376, .ref 377, .ref 378, .ref 379, .null, .null, .null, .null, .null, .null, .null, .null, .int 0, .int 0, .int 0, .int 0, .int 0, .int 0, .int 0, .null, .null, .int 0, .int 0, .null, .null, .null, .int 0, .null, .int 0]))) 380 (.inl (.int, 96, fun _ => .int 0))) 370 (.inr (7, [.int 0, .ref 371, .int 0, .ref 372, .ref 373, .int 0, .ref 374, .ref 375, .ref 376, .ref 377, .ref 378, .ref 379, .ref 380, .null, .null, .null, .null, .null, .null, .null, .int 0, .int 0, .int 0, .int 0, .int 0, .int 0, .int 0, .null, .null, .int 0, .int 0, .null, .null, .null, .int 0, .null, .int 0]))) 381 (.inl (.int, 96, fun _ => .int 0))) 370 (.inr (7, [.int 0, .ref 371, .int 0, .ref 372, .ref 373, .int 0, .ref 374, .ref 375, .ref 376, .ref 377, .ref 378, .ref 379, .ref 380, .ref 381, .null, .null, .null, .null, .null, .null, .int 0, .int 0, .int 0, .int 0, .int 0, .int 0, .int 0, .null, .null, .int 0, .int 0, .null, .null, .null, .int 0, .null, .int 0]))) 382 (.inl (.int, 96, fun _ => .int 0))) 370 (.inr (7, [.int 0, .ref 371, .int 0, .ref 372, .ref 373, .int 0, .ref 374, .ref 375, .ref 376, .ref 377, .ref 378, .ref 379, .ref 380, .ref 381, .ref 382, .null, .null, .null, .null, .null, .int 0, .int 0, .int 0, .int 0, .int 0, .int 0, .int 0, .null, .null, .int 0, .int 0, .null, .null, .null, .int 0, .null, .int 0]))) 383 (.inl (.int, 96, fun _ => .int 0))) 370 (.inr (7, [.int 0, .ref 371, .int 0, .ref 372, .ref 373, .int 0, .ref 374, .ref 375, .ref 376, .ref 377, .ref 378, .ref 379, .ref 380, .ref 381, .ref 382, .ref 383, .null, .null, .null, .null, .int 0, .int 0, .int 0, .int 0, .int 0, .int 0, .int 0, .null, .null, .int 0, .int 0, .null, .null, .null, .int 0, .null, .int 0]))) 384 (.inl (.boolean, 96, fun _ => .int 0))) 370 (.inr (7, [.int 0, .ref 371, .int 0, .ref 372, .ref 373, .int 0, .ref 374, .ref 375, .ref 376, .ref 377, .ref 378, .ref 379, .ref 380, .ref 381, .ref 382, .ref 383, .ref 384, .null, .null, .null, .int 0, .int 0, .int 0, .int 0, .int 0, .int 0, .int 0, .null, .null, .int 0, .int 0, .null, .null, .null, .int 0, .null, .int 0]))) 385 (.inl (.int, 2304, fun _ => .int 0))) 370 (.inr (7, [.int 0, .ref 371, .int 0, .ref 372, .ref 373, .int 0, .ref 374, .ref 375, .ref 376, .ref 377, .ref 378, .ref 379, .ref 380, .ref 381, .ref 382, .ref 383, .ref 384, .ref 385, .null, .null, .int 0, .int 0, .int 0, .int 0, .int 0, .int 0, .int 0, .null, .null, .int 0, .int 0, .null, .null, .null, .int 0, .null, .int 0]))) 386 (.inl (.int, 96, fun _ => .int 0))) 370 (.inr (7, [.int 0, .ref 371, .int 0, .ref 372, .ref 373, .int 0, .ref 374, .ref 375, .ref 376, .ref 377, .ref 378, .ref 379, .ref 380, .ref 381, .ref 382, .ref 383, .ref 384, .ref 385, .ref 386, .null, .int 0, .int 0, .int 0, .int 0, .int 0, .int 0, .int 0, .null, .null, .int 0, .int 0, .null, .null, .null, .int 0, .null, .int 0]))) 387 (.inl (.int, 96, fun _ => .int 0))) 370 (.inr (7, [.int 0, .ref 371, .int 0, .ref 372, .ref 373, .int 0, .ref 374, .ref 375, .ref 376, .ref 377, .ref 378, .ref 379, .ref 380, .ref 381, .ref 382, .ref 383, .ref 384, .ref 385, .ref 386, .ref 387, .int 0, .int 0, .int 0, .int 0, .int 0, .int 0, .int 0, .null, .null, .int 0, .int 0, .null, .null, .null, .int 0, .null, .int 0]))) 370 (.inr (7, [.int 0, .ref 371, .int 0, .ref 372, .ref 373, .int 0, .ref 374, .ref 375, .ref 376, .ref 377, .ref 378, .ref 379, .ref 380, .ref 381, .ref 382, .ref 383, .ref 384, .ref 385, .ref 386, .ref 387, .int 0, .int (nI 96), .int 0, .int 0, .int 0, .int 0, .int 0, .null, .null, .int 0, .int 0, .null, .null, .null, .int 0, .null, .int 0]))) 388 (.inl (.int, 20, fun _ => .int 0))) 370 (.inr (7, [.int 0, .ref 371, .int 0, .ref 372, .ref 373, .int 0, .ref 374, .ref 375, .ref 376, .ref 377, .ref 378, .ref 379, .ref 380, .ref 381, .ref 382, .ref 383, .ref 384, .ref 385, .ref 386, .ref 387, .int 0, .int (nI 96), .int 0, .int 0, .int 0, .int 0, .int 0, .ref 388, .null, .int 0, .int 0, .null, .null, .null, .int 0, .null, .int 0]))) 389 (.inl (.boolean, 20, fun _ => .int 0))) 370 (.inr (7, [.int 0, .ref 371, .int 0, .ref 372, .ref 373, .int 0, .ref 374, .ref 375, .ref 376, .ref 377, .ref 378, .ref 379, .ref 380, .ref 381, .ref 382, .ref 383, .ref 384, .ref 385, .ref 386, .ref 387, .int 0, .int (nI 96), .int 0, .int 0, .int 0, .int 0, .int 0, .ref 388, .ref 389, .int 0, .int 0, .null, .null, .null, .int 0, .null, .int 0]))) 390 (.inl (.int, 24, fun _ => .int 0))) 370 (.inr (7, [.int 0, .ref 371, .int 0, .ref 372, .ref 373, .int 0, .ref 374, .ref 375, .ref 376, .ref 377, .ref 378, .ref 379, .ref 380, .ref 381, .ref 382, .ref 383, .ref 384, .ref 385, .ref 386, .ref 387, .int 0, .int (nI 96), .int 0, .int 0, .int 0, .int 0, .int 0, .ref 388, .ref 389, .int 0, .int 0, .ref 390, .null, .null, .int 0, .null, .int 0]))) 391 (.inl (.int, 24, fun _ => .int 0))) 370 (.inr (7, [.int 0, .ref 371, .int 0, .ref 372, .ref 373, .int 0, .ref 374, .ref 375, .ref 376, .ref 377, .ref 378, .ref 379, .ref 380, .ref 381, .ref 382, .ref 383, .ref 384, .ref 385, .ref 386, .ref 387, .int 0, .int (nI 96), .int 0, .int 0, .int 0, .int 0, .int 0, .ref 388, .ref 389, .int 0, .int 0, .ref 390, .ref 391, .null, .int 0, .null, .int 0]))) 392 (.inl (.int, 24, fun _ => .int 0))) 370 (.inr (7, [.int 0, .ref 371, .int 0, .ref 372, .ref 373, .int 0, .ref 374, .ref 375, .ref 376, .ref 377, .ref 378, .ref 379, .ref 380, .ref 381, .ref 382, .ref 383, .ref 384, .ref 385, .ref 386, .ref 387, .int 0, .int (nI 96), .int 0, .int 0, .int 0, .int 0, .int 0, .ref 388, .ref 389, .int 0, .int 0, .ref 390, .ref 391, .ref 392, .int 0, .null, .int 0]))) 393 (.inl (.int, 24, fun _ => .int 0))) 370 (.inr (7, [.int 0, .ref 371, .int 0, .ref 372, .ref 373, .int 0, .ref 374, .ref 375, .ref 376, .ref 377, .ref 378, .ref 379, .ref 380, .ref 381, .ref 382, .ref 383, .ref 384, .ref 385, .ref 386, .ref 387, .int 0, .int (nI 96), .int 0, .int 0, .int 0, .int 0, .int 0, .ref 388, .ref 389, .int 0, .int 0, .ref 390, .ref 391, .ref 392, .int 0, .ref 393, .int 0]))) 386 (s + 3527) M = fh 370 (FM 0) 386 (s + 3527) M := by
    refine fh_eq (fun q h1 h2 => ?_)
    rcases (show q = 370 ∨ q = 371 ∨ q = 372 ∨ q = 373 ∨ q = 374 ∨ q = 375 ∨ q = 376 ∨ q = 377 ∨ q = 378 ∨ q = 379 ∨ q = 380 ∨ q = 381 ∨ q = 382 ∨ q = 383 ∨ q = 384 ∨ q = 385 ∨ q = 386 ∨ q = 387 ∨ q = 388 ∨ q = 389 ∨ q = 390 ∨ q = 391 ∨ q = 392 ∨ q = 393 by omega) with rfl | rfl | rfl | rfl | rfl | rfl | rfl | rfl | rfl | rfl | rfl | rfl | rfl | rfl | rfl | rfl | rfl | rfl | rfl | rfl | rfl | rfl | rfl | rfl
    · rw [uF_at]
      rfl
    · rw [uF_ne (by decide), uF_ne (by decide), uF_ne (by decide), uF_ne (by decide), uF_ne (by decide), uF_ne (by decide), uF_ne (by decide), uF_ne (by decide), uF_ne (by decide), uF_ne (by decide), uF_ne (by decide), uF_ne (by decide), uF_ne (by decide), uF_ne (by decide), uF_ne (by decide), uF_ne (by decide), uF_ne (by decide), uF_ne (by decide), uF_ne (by decide), uF_ne (by decide), uF_ne (by decide), uF_ne (by decide), uF_ne (by decide), uF_ne (by decide), uF_ne (by decide), uF_ne (by decide), uF_ne (by decide), uF_ne (by decide), uF_ne (by decide), uF_ne (by decide), uF_ne (by decide), uF_ne (by decide), uF_ne (by decide), uF_ne (by decide), uF_ne (by decide), uF_ne (by decide), uF_ne (by decide), uF_ne (by decide), uF_ne (by decide), uF_ne (by decide), uF_ne (by decide), uF_ne (by decide), uF_ne (by decide), uF_ne (by decide), uF_ne (by decide), uF_ne (by decide), uF_ne (by decide), uF_ne (by decide), uF_ne (by decide), uF_ne (by decide), uF_ne (by decide), uF_ne (by decide), uF_at]
      rfl
    · rw [uF_ne (by decide), uF_ne (by decide), uF_ne (by decide), uF_ne (by decide), uF_ne (by decide), uF_ne (by decide), uF_ne (by decide), uF_ne (by decide), uF_ne (by decide), uF_ne (by decide), uF_ne (by decide), uF_ne (by decide), uF_ne (by decide), uF_ne (by decide), uF_ne (by decide), uF_ne (by decide), uF_ne (by decide), uF_ne (by decide), uF_ne (by decide), uF_ne (by decide), uF_ne (by decide), uF_ne (by decide), uF_ne (by decide), uF_ne (by decide), uF_ne (by decide), uF_ne (by decide), uF_ne (by decide), uF_ne (by decide), uF_ne (by decide), uF_ne (by decide), uF_ne (by decide), uF_ne (by decide), uF_ne (by decide), uF_ne (by decide), uF_ne (by decide), uF_ne (by decide), uF_ne (by decide), uF_ne (by decide), uF_ne (by decide), uF_ne (by decide), uF_ne (by decide), uF_ne (by decide), uF_ne (by decide), uF_ne (by decide), uF_ne (by decide), uF_ne (by decide), uF_ne (by decide), uF_ne (by decide), uF_ne (by decide), uF_ne (by decide), uF_at]
      rw [FM_372]
      exact congrArg (fun g => (Sum.inl (.int, 144, g) : pm_E)) (funext fun j => (if_neg (by omega)).symm)
    · rw [uF_ne (by decide), uF_ne (by decide), uF_ne (by decide), uF_ne (by decide), uF_ne (by decide), uF_ne (by decide), uF_ne (by decide), uF_ne (by decide), uF_ne (by decide), uF_ne (by decide), uF_ne (by decide), uF_ne (by decide), uF_ne (by decide), uF_ne (by decide), uF_ne (by decide), uF_ne (by decide), uF_ne (by decide), uF_ne (by decide), uF_ne (by decide), uF_ne (by decide), uF_ne (by decide), uF_ne (by decide), uF_ne (by decide), uF_ne (by decide), uF_ne (by decide), uF_ne (by decide), uF_ne (by decide), uF_ne (by decide), uF_ne (by decide), uF_ne (by decide), uF_ne (by decide), uF_ne (by decide), uF_ne (by decide), uF_ne (by decide), uF_ne (by decide), uF_ne (by decide), uF_ne (by decide), uF_ne (by decide), uF_ne (by decide), uF_ne (by decide), uF_ne (by decide), uF_ne (by decide), uF_at]
      rw [FM_o (by decide)]
      exact congrArg (fun g => (Sum.inl (.int, 6, g) : pm_E)) (funext fun j => by show _ = Value.int (if j = 5 then 1 else if j = 4 then 1 else if j = 3 then 1 else if j = 2 then 1 else if j = 1 then 1 else if j = 0 then 1 else 0); unfold pm_uv; (repeat' split) <;> rfl)
    · rw [uF_ne (by decide), uF_ne (by decide), uF_ne (by decide), uF_ne (by decide), uF_ne (by decide), uF_ne (by decide), uF_ne (by decide), uF_ne (by decide), uF_ne (by decide), uF_ne (by decide), uF_ne (by decide), uF_ne (by decide), uF_ne (by decide), uF_ne (by decide), uF_ne (by decide), uF_ne (by decide), uF_ne (by decide), uF_ne (by decide), uF_ne (by decide), uF_ne (by decide), uF_ne (by decide), uF_ne (by decide), uF_ne (by decide), uF_ne (by decide), uF_ne (by decide), uF_ne (by decide), uF_ne (by decide), uF_ne (by decide), uF_ne (by decide), uF_ne (by decide), uF_ne (by decide), uF_ne (by decide), uF_ne (by decide), uF_ne (by decide), uF_ne (by decide), uF_ne (by decide), uF_ne (by decide), uF_ne (by decide), uF_ne (by decide), uF_ne (by decide), uF_at]
      rfl
    · rw [uF_ne (by decide), uF_ne (by decide), uF_ne (by decide), uF_ne (by decide), uF_ne (by decide), uF_ne (by decide), uF_ne (by decide), uF_ne (by decide), uF_ne (by decide), uF_ne (by decide), uF_ne (by decide), uF_ne (by decide), uF_ne (by decide), uF_ne (by decide), uF_ne (by decide), uF_ne (by decide), uF_ne (by decide), uF_ne (by decide), uF_ne (by decide), uF_ne (by decide), uF_ne (by decide), uF_ne (by decide), uF_ne (by decide), uF_ne (by decide), uF_ne (by decide), uF_ne (by decide), uF_ne (by decide), uF_ne (by decide), uF_ne (by decide), uF_ne (by decide), uF_ne (by decide), uF_ne (by decide), uF_ne (by decide), uF_ne (by decide), uF_ne (by decide), uF_ne (by decide), uF_ne (by decide), uF_ne (by decide), uF_at]
      rfl
    · rw [uF_ne (by decide), uF_ne (by decide), uF_ne (by decide), uF_ne (by decide), uF_ne (by decide), uF_ne (by decide), uF_ne (by decide), uF_ne (by decide), uF_ne (by decide), uF_ne (by decide), uF_ne (by decide), uF_ne (by decide), uF_ne (by decide), uF_ne (by decide), uF_ne (by decide), uF_ne (by decide), uF_ne (by decide), uF_ne (by decide), uF_ne (by decide), uF_ne (by decide), uF_ne (by decide), uF_ne (by decide), uF_ne (by decide), uF_ne (by decide), uF_ne (by decide), uF_ne (by decide), uF_ne (by decide), uF_ne (by decide), uF_ne (by decide), uF_ne (by decide), uF_ne (by decide), uF_ne (by decide), uF_ne (by decide), uF_ne (by decide), uF_ne (by decide), uF_ne (by decide), uF_at]
      rfl
    · rw [uF_ne (by decide), uF_ne (by decide), uF_ne (by decide), uF_ne (by decide), uF_ne (by decide), uF_ne (by decide), uF_ne (by decide), uF_ne (by decide), uF_ne (by decide), uF_ne (by decide), uF_ne (by decide), uF_ne (by decide), uF_ne (by decide), uF_ne (by decide), uF_ne (by decide), uF_ne (by decide), uF_ne (by decide), uF_ne (by decide), uF_ne (by decide), uF_ne (by decide), uF_ne (by decide), uF_ne (by decide), uF_ne (by decide), uF_ne (by decide), uF_ne (by decide), uF_ne (by decide), uF_ne (by decide), uF_ne (by decide), uF_ne (by decide), uF_ne (by decide), uF_ne (by decide), uF_ne (by decide), uF_ne (by decide), uF_ne (by decide), uF_at]
      rfl
    · rw [uF_ne (by decide), uF_ne (by decide), uF_ne (by decide), uF_ne (by decide), uF_ne (by decide), uF_ne (by decide), uF_ne (by decide), uF_ne (by decide), uF_ne (by decide), uF_ne (by decide), uF_ne (by decide), uF_ne (by decide), uF_ne (by decide), uF_ne (by decide), uF_ne (by decide), uF_ne (by decide), uF_ne (by decide), uF_ne (by decide), uF_ne (by decide), uF_ne (by decide), uF_ne (by decide), uF_ne (by decide), uF_ne (by decide), uF_ne (by decide), uF_ne (by decide), uF_ne (by decide), uF_ne (by decide), uF_ne (by decide), uF_ne (by decide), uF_ne (by decide), uF_ne (by decide), uF_ne (by decide), uF_at]
      rfl
    · rw [uF_ne (by decide), uF_ne (by decide), uF_ne (by decide), uF_ne (by decide), uF_ne (by decide), uF_ne (by decide), uF_ne (by decide), uF_ne (by decide), uF_ne (by decide), uF_ne (by decide), uF_ne (by decide), uF_ne (by decide), uF_ne (by decide), uF_ne (by decide), uF_ne (by decide), uF_ne (by decide), uF_ne (by decide), uF_ne (by decide), uF_ne (by decide), uF_ne (by decide), uF_ne (by decide), uF_ne (by decide), uF_ne (by decide), uF_ne (by decide), uF_ne (by decide), uF_ne (by decide), uF_ne (by decide), uF_ne (by decide), uF_ne (by decide), uF_ne (by decide), uF_at]
      rfl
    · rw [uF_ne (by decide), uF_ne (by decide), uF_ne (by decide), uF_ne (by decide), uF_ne (by decide), uF_ne (by decide), uF_ne (by decide), uF_ne (by decide), uF_ne (by decide), uF_ne (by decide), uF_ne (by decide), uF_ne (by decide), uF_ne (by decide), uF_ne (by decide), uF_ne (by decide), uF_ne (by decide), uF_ne (by decide), uF_ne (by decide), uF_ne (by decide), uF_ne (by decide), uF_ne (by decide), uF_ne (by decide), uF_ne (by decide), uF_ne (by decide), uF_ne (by decide), uF_ne (by decide), uF_ne (by decide), uF_ne (by decide), uF_at]
      rfl
    · rw [uF_ne (by decide), uF_ne (by decide), uF_ne (by decide), uF_ne (by decide), uF_ne (by decide), uF_ne (by decide), uF_ne (by decide), uF_ne (by decide), uF_ne (by decide), uF_ne (by decide), uF_ne (by decide), uF_ne (by decide), uF_ne (by decide), uF_ne (by decide), uF_ne (by decide), uF_ne (by decide), uF_ne (by decide), uF_ne (by decide), uF_ne (by decide), uF_ne (by decide), uF_ne (by decide), uF_ne (by decide), uF_ne (by decide), uF_ne (by decide), uF_ne (by decide), uF_ne (by decide), uF_at]
      rfl
    · rw [uF_ne (by decide), uF_ne (by decide), uF_ne (by decide), uF_ne (by decide), uF_ne (by decide), uF_ne (by decide), uF_ne (by decide), uF_ne (by decide), uF_ne (by decide), uF_ne (by decide), uF_ne (by decide), uF_ne (by decide), uF_ne (by decide), uF_ne (by decide), uF_ne (by decide), uF_ne (by decide), uF_ne (by decide), uF_ne (by decide), uF_ne (by decide), uF_ne (by decide), uF_ne (by decide), uF_ne (by decide), uF_ne (by decide), uF_ne (by decide), uF_at]
      rfl
    · rw [uF_ne (by decide), uF_ne (by decide), uF_ne (by decide), uF_ne (by decide), uF_ne (by decide), uF_ne (by decide), uF_ne (by decide), uF_ne (by decide), uF_ne (by decide), uF_ne (by decide), uF_ne (by decide), uF_ne (by decide), uF_ne (by decide), uF_ne (by decide), uF_ne (by decide), uF_ne (by decide), uF_ne (by decide), uF_ne (by decide), uF_ne (by decide), uF_ne (by decide), uF_ne (by decide), uF_ne (by decide), uF_at]
      rfl
    · rw [uF_ne (by decide), uF_ne (by decide), uF_ne (by decide), uF_ne (by decide), uF_ne (by decide), uF_ne (by decide), uF_ne (by decide), uF_ne (by decide), uF_ne (by decide), uF_ne (by decide), uF_ne (by decide), uF_ne (by decide), uF_ne (by decide), uF_ne (by decide), uF_ne (by decide), uF_ne (by decide), uF_ne (by decide), uF_ne (by decide), uF_ne (by decide), uF_ne (by decide), uF_at]
      rfl
    · rw [uF_ne (by decide), uF_ne (by decide), uF_ne (by decide), uF_ne (by decide), uF_ne (by decide), uF_ne (by decide), uF_ne (by decide), uF_ne (by decide), uF_ne (by decide), uF_ne (by decide), uF_ne (by decide), uF_ne (by decide), uF_ne (by decide), uF_ne (by decide), uF_ne (by decide), uF_ne (by decide), uF_ne (by decide), uF_ne (by decide), uF_at]
      rfl
    · rw [uF_ne (by decide), uF_ne (by decide), uF_ne (by decide), uF_ne (by decide), uF_ne (by decide), uF_ne (by decide), uF_ne (by decide), uF_ne (by decide), uF_ne (by decide), uF_ne (by decide), uF_ne (by decide), uF_ne (by decide), uF_ne (by decide), uF_ne (by decide), uF_ne (by decide), uF_ne (by decide), uF_at]
      rfl
    · rw [uF_ne (by decide), uF_ne (by decide), uF_ne (by decide), uF_ne (by decide), uF_ne (by decide), uF_ne (by decide), uF_ne (by decide), uF_ne (by decide), uF_ne (by decide), uF_ne (by decide), uF_ne (by decide), uF_ne (by decide), uF_ne (by decide), uF_ne (by decide), uF_at]
      rfl
    · rw [uF_ne (by decide), uF_ne (by decide), uF_ne (by decide), uF_ne (by decide), uF_ne (by decide), uF_ne (by decide), uF_ne (by decide), uF_ne (by decide), uF_ne (by decide), uF_ne (by decide), uF_ne (by decide), uF_at]
      rfl
    · rw [uF_ne (by decide), uF_ne (by decide), uF_ne (by decide), uF_ne (by decide), uF_ne (by decide), uF_ne (by decide), uF_ne (by decide), uF_ne (by decide), uF_ne (by decide), uF_at]
      rfl
    · rw [uF_ne (by decide), uF_ne (by decide), uF_ne (by decide), uF_ne (by decide), uF_ne (by decide), uF_ne (by decide), uF_ne (by decide), uF_at]
      rfl
    · rw [uF_ne (by decide), uF_ne (by decide), uF_ne (by decide), uF_ne (by decide), uF_ne (by decide), uF_at]
      rfl
    · rw [uF_ne (by decide), uF_ne (by decide), uF_ne (by decide), uF_at]
      rfl
    · rw [uF_ne (by decide), uF_at]
      rfl
  rw [e]
  refine k39l 6 0 (by omega) ?_
  exact ev_retv t_39_243 rfl ⟨none, rfl, rfl, rfl⟩
end K39
