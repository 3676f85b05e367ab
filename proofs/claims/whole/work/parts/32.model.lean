/-! The reference's objects: pointers 370 .. 393. -/
def fMo (r : Nat → Int32) : List Value := [.int (r 0), .ref 371, .int (r 2), .ref 372, .ref 373, .int (r 5), .ref 374, .ref 375, .ref 376, .ref 377, .ref 378, .ref 379, .ref 380, .ref 381, .ref 382, .ref 383, .ref 384, .ref 385, .ref 386, .ref 387, .int (r 20), .int (r 21), .int (r 22), .int (r 23), .int (r 24), .int (r 25), .int (r 26), .ref 388, .ref 389, .int (r 29), .int (r 30), .ref 390, .ref 391, .ref 392, .int (r 34), .ref 393, .int (r 36)]
def shM : Nat → (Nat → Int32) → pm_E
  | 370, r => .inr (7, fMo r)
  | 371, r => aI 24 r
  | 372, r => aI 144 r
  | 373, r => aI 6 r
  | 374, r => aI 48 r
  | 375, r => aI 48 r
  | 376, r => aI 3 r
  | 377, r => aI 6 r
  | 378, r => aI 3 r
  | 379, r => aZ 96 r
  | 380, r => aI 96 r
  | 381, r => aI 96 r
  | 382, r => aI 96 r
  | 383, r => aI 96 r
  | 384, r => aZ 96 r
  | 385, r => aI 2304 r
  | 386, r => aI 96 r
  | 387, r => aI 96 r
  | 388, r => aI 20 r
  | 389, r => aZ 20 r
  | 390, r => aI 24 r
  | 391, r => aI 24 r
  | 392, r => aI 24 r
  | 393, r => aI 24 r
  | _, r => aI 0 r
abbrev sM (M : pm_M) (τ : Nat → Nat → Int32) : pm_M := sl 370 394 shM M τ
theorem o_MO : ob 370 394 shM 370 7 fMo := ⟨by decide, fun _ => rfl⟩
theorem a_m371 : ar 370 394 shM 371 .int 24 := ⟨by decide, by decide, fun _ => rfl⟩
theorem a_m372 : ar 370 394 shM 372 .int 144 := ⟨by decide, by decide, fun _ => rfl⟩
theorem a_m373 : ar 370 394 shM 373 .int 6 := ⟨by decide, by decide, fun _ => rfl⟩
theorem a_m374 : ar 370 394 shM 374 .int 48 := ⟨by decide, by decide, fun _ => rfl⟩
theorem a_m375 : ar 370 394 shM 375 .int 48 := ⟨by decide, by decide, fun _ => rfl⟩
theorem a_m376 : ar 370 394 shM 376 .int 3 := ⟨by decide, by decide, fun _ => rfl⟩
theorem a_m377 : ar 370 394 shM 377 .int 6 := ⟨by decide, by decide, fun _ => rfl⟩
theorem a_m378 : ar 370 394 shM 378 .int 3 := ⟨by decide, by decide, fun _ => rfl⟩
theorem a_m379 : ar 370 394 shM 379 .boolean 96 := ⟨by decide, by decide, fun _ => rfl⟩
theorem a_m380 : ar 370 394 shM 380 .int 96 := ⟨by decide, by decide, fun _ => rfl⟩
theorem a_m381 : ar 370 394 shM 381 .int 96 := ⟨by decide, by decide, fun _ => rfl⟩
theorem a_m382 : ar 370 394 shM 382 .int 96 := ⟨by decide, by decide, fun _ => rfl⟩
theorem a_m383 : ar 370 394 shM 383 .int 96 := ⟨by decide, by decide, fun _ => rfl⟩
theorem a_m384 : ar 370 394 shM 384 .boolean 96 := ⟨by decide, by decide, fun _ => rfl⟩
theorem a_m385 : ar 370 394 shM 385 .int 2304 := ⟨by decide, by decide, fun _ => rfl⟩
theorem a_m386 : ar 370 394 shM 386 .int 96 := ⟨by decide, by decide, fun _ => rfl⟩
theorem a_m387 : ar 370 394 shM 387 .int 96 := ⟨by decide, by decide, fun _ => rfl⟩
theorem a_m388 : ar 370 394 shM 388 .int 20 := ⟨by decide, by decide, fun _ => rfl⟩
theorem a_m389 : ar 370 394 shM 389 .boolean 20 := ⟨by decide, by decide, fun _ => rfl⟩
theorem a_m390 : ar 370 394 shM 390 .int 24 := ⟨by decide, by decide, fun _ => rfl⟩
theorem a_m391 : ar 370 394 shM 391 .int 24 := ⟨by decide, by decide, fun _ => rfl⟩
theorem a_m392 : ar 370 394 shM 392 .int 24 := ⟨by decide, by decide, fun _ => rfl⟩
theorem a_m393 : ar 370 394 shM 393 .int 24 := ⟨by decide, by decide, fun _ => rfl⟩
/-- the reference holds what is spoken of: numbers, the cells that are kept, their stamps -/
def MS (τ : Nat → Nat → Int32) (G : Nat → Nat → Int32) : Prop := (τ 370 5 = G 17 0 ∧ τ 370 21 = G 8 7 ∧ τ 370 22 = G 8 11 ∧ τ 370 23 = G 8 12 ∧ τ 370 24 = G 8 13 ∧ τ 370 25 = G 8 14) ∧ (∀ k, k < 48 → τ 374 k = G 14 k ∧ τ 375 k = G 15 k) ∧ (∀ k, k < 3 → τ 376 k = G 16 k ∧ τ 378 k = G 18 k) ∧ ∀ k, k < 6 → τ 377 k = G 12 k
def MC (τ : Nat → Nat → Int32) (S : SP) (n : Nat) : Prop := (τ 380 n = S.1 (38 + 2 * n) 0 ∧ τ 381 n = S.1 (38 + 2 * n) 3 ∧ τ 382 n = S.1 (38 + 2 * n) 4 ∧ τ 383 n = S.1 (38 + 2 * n) 5 ∧ τ 384 n = S.1 (38 + 2 * n) 6) ∧ τ 386 n = nI (S.2.2 n).length ∧ ∀ i, i < (S.2.2 n).length → τ 385 (24 * n + i) = nI ((S.2.2 n).getD i 0)
def MT (τ : Nat → Nat → Int32) (ck : Nat) (st : Nat → Nat) (od : List Nat) : Prop := τ 370 20 = nI ck ∧ (∀ n ∈ od, τ 387 n = nI (st n) ∧ st n ≤ ck) ∧ od.Pairwise (fun a b => st a < st b)
def MX (τ : Nat → Nat → Int32) (T : Nat → List Nat) : Prop := ∀ f, f < 6 → τ 373 f = nI (T f).length ∧ ∀ i, i < (T f).length → τ 372 (24 * f + i) = nI ((T f).getD i 0)
def MD (τ : Nat → Nat → Int32) (dr : List Nat) : Prop := τ 370 2 = nI dr.length ∧ ∀ i, i < dr.length → τ 371 i = nI (dr.getD i 0)
def OD (od : List Nat) : Prop := od.Nodup ∧ ∀ n ∈ od, n < 96
def RM (τ : Nat → Nat → Int32) (S : SP) (ck : Nat) : Prop := MS τ S.1 ∧ (∀ n, n < 96 → τ 379 n = bI (decide (n ∈ S.2.1))) ∧ (∀ n ∈ S.2.1, MC τ S n) ∧ (∃ st, MT τ ck st S.2.1) ∧ OD S.2.1
section MA
variable {d : Nat} {M : pm_M} {τ : Nat → Nat → Int32} {S : SP} {ck : Nat}
theorem m40 {x : Int32} (h : τ 370 0 = x) : Ev d 40 0 [some (.ref 370)] [] (sM M τ) (fun q9 M' => ∃ v9, q9 = .inl v9 ∧ v9 = some (.int x) ∧ M' = sM M τ) := by
  refine ev_aload_n t_40_0 rfl ?_
  refine es_get (x := .int (τ (370) 0)) o_MO t_40_1 rfl ?_
  refine ev_top (y := x) (by exact h) ?_
  exact ev_reti t_40_4 (ri rfl) ⟨_, rfl, rfl, rfl⟩
theorem m42 {n : Nat} (h : τ 370 2 = nI n) : Ev d 42 0 [some (.ref 370), none] [] (sM M τ) (fun q9 M' => ∃ v9, q9 = .inl v9 ∧ v9 = some (.int (nI n)) ∧ M' = sM M (u2 (u2 τ 370 0 0) 370 2 0)) := by
  refine ev_aload_n t_42_0 rfl ?_
  refine ev_iconst t_42_1 ?_
  change Ev _ _ _ _ ([.int (nI (0)), .ref 370]) _ _
  refine es_put o_MO t_42_2 rfl (Nat.le_of_ble_eq_true rfl) rfl ?_
  refine ev_aload_n t_42_5 rfl ?_
  refine es_get (x := .int ((u2 τ (370) 0 (nI (0))) (370) 2)) o_MO t_42_6 rfl ?_
  refine ev_top (y := (nI (n))) (by rw [u2_off (by decide)]; exact h) ?_
  refine ev_istore_n (L' := [some (.ref 370), some (.int (nI (n)))]) t_42_9 (Nat.le_of_ble_eq_true rfl) rfl ?_
  refine ev_aload_n t_42_10 rfl ?_
  refine ev_iconst t_42_11 ?_
  change Ev _ _ _ _ ([.int (nI (0)), .ref 370]) _ _
  refine es_put o_MO t_42_12 rfl (Nat.le_of_ble_eq_true rfl) rfl ?_
  refine ev_iload_n t_42_15 rfl ?_
  exact ev_reti t_42_16 (ri rfl) ⟨_, rfl, rfl, rfl⟩
theorem m43 {c : Nat} (hc : c < 65536) : Ev d 43 0 [some (.int (nI c))] [] (sM M τ) (fun q9 M' => ∃ v9, q9 = .inl v9 ∧ v9 = some (.int (owI c)) ∧ M' = sM M τ) := by
  refine ev_iload_n t_43_0 rfl ?_
  refine ev_bipush t_43_1 ?_
  change Ev _ _ _ _ ([.int (nI (48)), .int (nI (c))]) _ _
  refine ev_icmp_ltN t_43_3 (by omega) (by omega) (fun h_3 => ?_) (fun h_3 => ?_)
  · refine ev_iload_n t_43_12 rfl ?_
    refine ev_bipush t_43_13 ?_
    change Ev _ _ _ _ ([.int (nI (107)), .int (nI (c))]) _ _
    refine ev_icmp_neN t_43_15 (by omega) (by omega) (fun h_15 => ?_) (fun h_15 => ?_)
    · refine ev_iload_n t_43_20 rfl ?_
      refine ev_bipush t_43_21 ?_
      change Ev _ _ _ _ ([.int (nI (43)), .int (nI (c))]) _ _
      refine ev_icmp_eqN t_43_23 (by omega) (by omega) (fun h_23 => ?_) (fun h_23 => ?_)
      · refine ev_iconst t_43_38 ?_
        change Ev _ _ _ _ ([.int (nI (2))]) _ _
        exact ev_reti t_43_39 (ri rfl) ⟨_, rfl, by rw [owI_k (k := 2) (by unfold ow; (repeat' split) <;> omega) (by decide)], rfl⟩
      · refine ev_iload_n t_43_26 rfl ?_
        refine ev_bipush t_43_27 ?_
        change Ev _ _ _ _ ([.int (nI (45)), .int (nI (c))]) _ _
        refine ev_icmp_eqN t_43_29 (by omega) (by omega) (fun h_29 => ?_) (fun h_29 => ?_)
        · refine ev_iconst t_43_38 ?_
          change Ev _ _ _ _ ([.int (nI (2))]) _ _
          exact ev_reti t_43_39 (ri rfl) ⟨_, rfl, by rw [owI_k (k := 2) (by unfold ow; (repeat' split) <;> omega) (by decide)], rfl⟩
        · refine ev_iload_n t_43_32 rfl ?_
          refine ev_bipush t_43_33 ?_
          change Ev _ _ _ _ ([.int (nI (42)), .int (nI (c))]) _ _
          refine ev_icmp_neN t_43_35 (by omega) (by omega) (fun h_35 => ?_) (fun h_35 => ?_)
          · refine ev_iload_n t_43_40 rfl ?_
            refine ev_bipush t_43_41 ?_
            change Ev _ _ _ _ ([.int (nI (63)), .int (nI (c))]) _ _
            refine ev_icmp_neN t_43_43 (by omega) (by omega) (fun h_43 => ?_) (fun h_43 => ?_)
            · refine ev_iload_n t_43_50 rfl ?_
              refine ev_bipush t_43_51 ?_
              change Ev _ _ _ _ ([.int (nI (103)), .int (nI (c))]) _ _
              refine ev_icmp_ltN t_43_53 (by omega) (by omega) (fun h_53 => ?_) (fun h_53 => ?_)
              · refine ev_iload_n t_43_62 rfl ?_
                refine ev_bipush t_43_63 ?_
                change Ev _ _ _ _ ([.int (nI (65)), .int (nI (c))]) _ _
                refine ev_icmp_ltN t_43_65 (by omega) (by omega) (fun h_65 => ?_) (fun h_65 => ?_)
                · refine ev_iconst t_43_78 ?_
                  change Ev _ _ _ _ ([.int (-1)]) _ _
                  exact ev_reti t_43_79 (ri rfl) ⟨_, rfl, by rw [owI_9 (by unfold ow; (repeat' split) <;> omega)], rfl⟩
                · refine ev_iload_n t_43_68 rfl ?_
                  refine ev_bipush t_43_69 ?_
                  change Ev _ _ _ _ ([.int (nI (70)), .int (nI (c))]) _ _
                  refine ev_icmp_gtN t_43_71 (by omega) (by omega) (fun h_71 => ?_) (fun h_71 => ?_)
                  · refine ev_iconst t_43_78 ?_
                    change Ev _ _ _ _ ([.int (-1)]) _ _
                    exact ev_reti t_43_79 (ri rfl) ⟨_, rfl, by rw [owI_9 (by unfold ow; (repeat' split) <;> omega)], rfl⟩
                  · refine ev_iconst t_43_74 ?_
                    change Ev _ _ _ _ ([.int (nI (1))]) _ _
                    refine ev_goto t_43_75 ?_
                    exact ev_reti t_43_79 (ri rfl) ⟨_, rfl, by rw [owI_k (k := 1) (by unfold ow; (repeat' split) <;> omega) (by decide)], rfl⟩
              · refine ev_iload_n t_43_56 rfl ?_
                refine ev_bipush t_43_57 ?_
                change Ev _ _ _ _ ([.int (nI (105)), .int (nI (c))]) _ _
                refine ev_icmp_leN t_43_59 (by omega) (by omega) (fun h_59 => ?_) (fun h_59 => ?_)
                · refine ev_iconst t_43_74 ?_
                  change Ev _ _ _ _ ([.int (nI (1))]) _ _
                  refine ev_goto t_43_75 ?_
                  exact ev_reti t_43_79 (ri rfl) ⟨_, rfl, by rw [owI_k (k := 1) (by unfold ow; (repeat' split) <;> omega) (by decide)], rfl⟩
                · refine ev_iload_n t_43_62 rfl ?_
                  refine ev_bipush t_43_63 ?_
                  change Ev _ _ _ _ ([.int (nI (65)), .int (nI (c))]) _ _
                  refine ev_icmp_ltN t_43_65 (by omega) (by omega) (fun h_65 => ?_) (fun h_65 => ?_)
                  · refine ev_iconst t_43_78 ?_
                    change Ev _ _ _ _ ([.int (-1)]) _ _
                    exact ev_reti t_43_79 (ri rfl) ⟨_, rfl, by rw [owI_9 (by unfold ow; (repeat' split) <;> omega)], rfl⟩
                  · refine ev_iload_n t_43_68 rfl ?_
                    refine ev_bipush t_43_69 ?_
                    change Ev _ _ _ _ ([.int (nI (70)), .int (nI (c))]) _ _
                    refine ev_icmp_gtN t_43_71 (by omega) (by omega) (fun h_71 => ?_) (fun h_71 => ?_)
                    · refine ev_iconst t_43_78 ?_
                      change Ev _ _ _ _ ([.int (-1)]) _ _
                      exact ev_reti t_43_79 (ri rfl) ⟨_, rfl, by rw [owI_9 (by unfold ow; (repeat' split) <;> omega)], rfl⟩
                    · refine ev_iconst t_43_74 ?_
                      change Ev _ _ _ _ ([.int (nI (1))]) _ _
                      refine ev_goto t_43_75 ?_
                      exact ev_reti t_43_79 (ri rfl) ⟨_, rfl, by rw [owI_k (k := 1) (by unfold ow; (repeat' split) <;> omega) (by decide)], rfl⟩
            · refine ev_iconst t_43_46 ?_
              change Ev _ _ _ _ ([.int (nI (3))]) _ _
              refine ev_goto t_43_47 ?_
              exact ev_reti t_43_79 (ri rfl) ⟨_, rfl, by rw [owI_k (k := 3) (by unfold ow; (repeat' split) <;> omega) (by decide)], rfl⟩
          · refine ev_iconst t_43_38 ?_
            change Ev _ _ _ _ ([.int (nI (2))]) _ _
            exact ev_reti t_43_39 (ri rfl) ⟨_, rfl, by rw [owI_k (k := 2) (by unfold ow; (repeat' split) <;> omega) (by decide)], rfl⟩
    · refine ev_iconst t_43_18 ?_
      change Ev _ _ _ _ ([.int (nI (0))]) _ _
      exact ev_reti t_43_19 (ri rfl) ⟨_, rfl, by rw [owI_k (k := 0) (by unfold ow; (repeat' split) <;> omega) (by decide)], rfl⟩
  · refine ev_iload_n t_43_6 rfl ?_
    refine ev_bipush t_43_7 ?_
    change Ev _ _ _ _ ([.int (nI (57)), .int (nI (c))]) _ _
    refine ev_icmp_leN t_43_9 (by omega) (by omega) (fun h_9 => ?_) (fun h_9 => ?_)
    · refine ev_iconst t_43_18 ?_
      change Ev _ _ _ _ ([.int (nI (0))]) _ _
      exact ev_reti t_43_19 (ri rfl) ⟨_, rfl, by rw [owI_k (k := 0) (by unfold ow; (repeat' split) <;> omega) (by decide)], rfl⟩
    · refine ev_iload_n t_43_12 rfl ?_
      refine ev_bipush t_43_13 ?_
      change Ev _ _ _ _ ([.int (nI (107)), .int (nI (c))]) _ _
      refine ev_icmp_neN t_43_15 (by omega) (by omega) (fun h_15 => ?_) (fun h_15 => ?_)
      · refine ev_iload_n t_43_20 rfl ?_
        refine ev_bipush t_43_21 ?_
        change Ev _ _ _ _ ([.int (nI (43)), .int (nI (c))]) _ _
        refine ev_icmp_eqN t_43_23 (by omega) (by omega) (fun h_23 => ?_) (fun h_23 => ?_)
        · refine ev_iconst t_43_38 ?_
          change Ev _ _ _ _ ([.int (nI (2))]) _ _
          exact ev_reti t_43_39 (ri rfl) ⟨_, rfl, by rw [owI_k (k := 2) (by unfold ow; (repeat' split) <;> omega) (by decide)], rfl⟩
        · refine ev_iload_n t_43_26 rfl ?_
          refine ev_bipush t_43_27 ?_
          change Ev _ _ _ _ ([.int (nI (45)), .int (nI (c))]) _ _
          refine ev_icmp_eqN t_43_29 (by omega) (by omega) (fun h_29 => ?_) (fun h_29 => ?_)
          · refine ev_iconst t_43_38 ?_
            change Ev _ _ _ _ ([.int (nI (2))]) _ _
            exact ev_reti t_43_39 (ri rfl) ⟨_, rfl, by rw [owI_k (k := 2) (by unfold ow; (repeat' split) <;> omega) (by decide)], rfl⟩
          · refine ev_iload_n t_43_32 rfl ?_
            refine ev_bipush t_43_33 ?_
            change Ev _ _ _ _ ([.int (nI (42)), .int (nI (c))]) _ _
            refine ev_icmp_neN t_43_35 (by omega) (by omega) (fun h_35 => ?_) (fun h_35 => ?_)
            · refine ev_iload_n t_43_40 rfl ?_
              refine ev_bipush t_43_41 ?_
              change Ev _ _ _ _ ([.int (nI (63)), .int (nI (c))]) _ _
              refine ev_icmp_neN t_43_43 (by omega) (by omega) (fun h_43 => ?_) (fun h_43 => ?_)
              · refine ev_iload_n t_43_50 rfl ?_
                refine ev_bipush t_43_51 ?_
                change Ev _ _ _ _ ([.int (nI (103)), .int (nI (c))]) _ _
                refine ev_icmp_ltN t_43_53 (by omega) (by omega) (fun h_53 => ?_) (fun h_53 => ?_)
                · refine ev_iload_n t_43_62 rfl ?_
                  refine ev_bipush t_43_63 ?_
                  change Ev _ _ _ _ ([.int (nI (65)), .int (nI (c))]) _ _
                  refine ev_icmp_ltN t_43_65 (by omega) (by omega) (fun h_65 => ?_) (fun h_65 => ?_)
                  · refine ev_iconst t_43_78 ?_
                    change Ev _ _ _ _ ([.int (-1)]) _ _
                    exact ev_reti t_43_79 (ri rfl) ⟨_, rfl, by rw [owI_9 (by unfold ow; (repeat' split) <;> omega)], rfl⟩
                  · refine ev_iload_n t_43_68 rfl ?_
                    refine ev_bipush t_43_69 ?_
                    change Ev _ _ _ _ ([.int (nI (70)), .int (nI (c))]) _ _
                    refine ev_icmp_gtN t_43_71 (by omega) (by omega) (fun h_71 => ?_) (fun h_71 => ?_)
                    · refine ev_iconst t_43_78 ?_
                      change Ev _ _ _ _ ([.int (-1)]) _ _
                      exact ev_reti t_43_79 (ri rfl) ⟨_, rfl, by rw [owI_9 (by unfold ow; (repeat' split) <;> omega)], rfl⟩
                    · refine ev_iconst t_43_74 ?_
                      change Ev _ _ _ _ ([.int (nI (1))]) _ _
                      refine ev_goto t_43_75 ?_
                      exact ev_reti t_43_79 (ri rfl) ⟨_, rfl, by rw [owI_k (k := 1) (by unfold ow; (repeat' split) <;> omega) (by decide)], rfl⟩
                · refine ev_iload_n t_43_56 rfl ?_
                  refine ev_bipush t_43_57 ?_
                  change Ev _ _ _ _ ([.int (nI (105)), .int (nI (c))]) _ _
                  refine ev_icmp_leN t_43_59 (by omega) (by omega) (fun h_59 => ?_) (fun h_59 => ?_)
                  · refine ev_iconst t_43_74 ?_
                    change Ev _ _ _ _ ([.int (nI (1))]) _ _
                    refine ev_goto t_43_75 ?_
                    exact ev_reti t_43_79 (ri rfl) ⟨_, rfl, by rw [owI_k (k := 1) (by unfold ow; (repeat' split) <;> omega) (by decide)], rfl⟩
                  · refine ev_iload_n t_43_62 rfl ?_
                    refine ev_bipush t_43_63 ?_
                    change Ev _ _ _ _ ([.int (nI (65)), .int (nI (c))]) _ _
                    refine ev_icmp_ltN t_43_65 (by omega) (by omega) (fun h_65 => ?_) (fun h_65 => ?_)
                    · refine ev_iconst t_43_78 ?_
                      change Ev _ _ _ _ ([.int (-1)]) _ _
                      exact ev_reti t_43_79 (ri rfl) ⟨_, rfl, by rw [owI_9 (by unfold ow; (repeat' split) <;> omega)], rfl⟩
                    · refine ev_iload_n t_43_68 rfl ?_
                      refine ev_bipush t_43_69 ?_
                      change Ev _ _ _ _ ([.int (nI (70)), .int (nI (c))]) _ _
                      refine ev_icmp_gtN t_43_71 (by omega) (by omega) (fun h_71 => ?_) (fun h_71 => ?_)
                      · refine ev_iconst t_43_78 ?_
                        change Ev _ _ _ _ ([.int (-1)]) _ _
                        exact ev_reti t_43_79 (ri rfl) ⟨_, rfl, by rw [owI_9 (by unfold ow; (repeat' split) <;> omega)], rfl⟩
                      · refine ev_iconst t_43_74 ?_
                        change Ev _ _ _ _ ([.int (nI (1))]) _ _
                        refine ev_goto t_43_75 ?_
                        exact ev_reti t_43_79 (ri rfl) ⟨_, rfl, by rw [owI_k (k := 1) (by unfold ow; (repeat' split) <;> omega) (by decide)], rfl⟩
              · refine ev_iconst t_43_46 ?_
                change Ev _ _ _ _ ([.int (nI (3))]) _ _
                refine ev_goto t_43_47 ?_
                exact ev_reti t_43_79 (ri rfl) ⟨_, rfl, by rw [owI_k (k := 3) (by unfold ow; (repeat' split) <;> omega) (by decide)], rfl⟩
            · refine ev_iconst t_43_38 ?_
              change Ev _ _ _ _ ([.int (nI (2))]) _ _
              exact ev_reti t_43_39 (ri rfl) ⟨_, rfl, by rw [owI_k (k := 2) (by unfold ow; (repeat' split) <;> omega) (by decide)], rfl⟩
      · refine ev_iconst t_43_18 ?_
        change Ev _ _ _ _ ([.int (nI (0))]) _ _
        exact ev_reti t_43_19 (ri rfl) ⟨_, rfl, by rw [owI_k (k := 0) (by unfold ow; (repeat' split) <;> omega) (by decide)], rfl⟩
theorem m44l : ∀ (k i : Nat) (τ : Nat → Nat → Int32), i + k = 96 → ∃ τ', Ev d 44 2 [some (.ref 370), some (.int (nI i))] [] (sM M τ) (fun q9 M' => ∃ v9, q9 = .inl v9 ∧ v9 = none ∧ M' = sM M τ') ∧ (∀ q, q ≠ 379 → τ' q = τ q) ∧ (∀ n, n < i → τ' 379 n = τ 379 n) ∧ ∀ n, i ≤ n → n < 96 → τ' 379 n = 0 := by
  intro k
  induction k with
  | zero =>
    intro i τ hi
    obtain rfl : i = 96 := by omega
    refine ⟨τ, ?_, fun _ _ => rfl, fun _ _ => rfl, fun n h1 h2 => by omega⟩
    refine ev_iload_n t_44_2 rfl ?_
    refine ev_bipush t_44_3 ?_
    change Ev _ _ _ _ ([.int (nI (96)), .int (nI (96))]) _ _
    refine ev_icmp_geN t_44_5 (by omega) (by omega) (fun h_5 => ?_) (fun h_5 => ?_)
    · exact ev_retv t_44_21 rfl ⟨none, rfl, rfl, rfl⟩
    · omega
  | succ k ih =>
    intro i τ hi
    obtain ⟨τ1, h1, h2, h3, h4⟩ := ih (i + 1) (u2 τ 379 i 0) (by omega)
    refine ⟨τ1, ?_, fun q hq => by rw [h2 q hq, u2_ne hq], fun n hn => by rw [h3 n (by omega), u2_off (by omega)], fun n ha hb => ?_⟩
    rotate_left
    · by_cases e : n = i
      · subst e; rw [h3 n (by omega), u2_at]
      · exact h4 n (by omega) hb
    refine ev_iload_n t_44_2 rfl ?_
    refine ev_bipush t_44_3 ?_
    change Ev _ _ _ _ ([.int (nI (96)), .int (nI (i))]) _ _
    refine ev_icmp_geN t_44_5 (by omega) (by omega) (fun h_5 => ?_) (fun h_5 => ?_)
    · omega
    · refine ev_aload_n t_44_8 rfl ?_
      refine es_get (x := .ref 379) o_MO t_44_9 rfl ?_
      refine ev_iload_n t_44_12 rfl ?_
      refine ev_iconst t_44_13 ?_
      change Ev _ _ _ _ ([.int (nI (0)), .int (nI (i)), .ref 379]) _ _
      refine es_zast (k := i) (y := 0) a_m379 t_44_14 (by omega) (rfl) ?_
      refine ev_iincN (L' := [some (.ref 370), some (.int (nI (i + 1)))]) t_44_15 rfl (Nat.le_of_ble_eq_true rfl) rfl ?_
      refine ev_goto t_44_18 ?_
      exact h1
theorem m44 : ∃ τ', Ev d 44 0 [some (.ref 370), none] [] (sM M τ) (fun q9 M' => ∃ v9, q9 = .inl v9 ∧ v9 = none ∧ M' = sM M τ') ∧ (∀ q, q ≠ 379 → τ' q = τ q) ∧ ∀ n, n < 96 → τ' 379 n = 0 := by
  obtain ⟨τ1, h1, h2, h3, h4⟩ := m44l (d := d) (M := M) 96 0 τ rfl
  refine ⟨τ1, ?_, h2, fun n hn => h4 n (by omega) hn⟩
  refine ev_iconst t_44_0 ?_
  change Ev _ _ _ _ ([.int (nI (0))]) _ _
  refine ev_istore_n (L' := [some (.ref 370), some (.int (nI (0)))]) t_44_1 (Nat.le_of_ble_eq_true rfl) rfl ?_
  exact h1
theorem m47o {k : Nat} (h : k < 16) : Ev d 47 0 [some (.int (nI k))] [] (sM M τ) (fun q9 M' => ∃ v9, q9 = .inl v9 ∧ v9 = some (.int 0) ∧ M' = sM M τ) := by
  refine ev_iload_n t_47_0 rfl ?_
  refine ev_if_ltN t_47_1 (by omega) (fun h_1 => ?_) (fun h_1 => ?_)
  · exact h_1.elim
  · refine ev_iload_n t_47_4 rfl ?_
    refine ev_bipush t_47_5 ?_
    change Ev _ _ _ _ ([.int (nI (15)), .int (nI (k))]) _ _
    refine ev_icmp_leN t_47_7 (by omega) (by omega) (fun h_7 => ?_) (fun h_7 => ?_)
    · refine ev_iconst t_47_14 ?_
      change Ev _ _ _ _ ([.int (nI (0))]) _ _
      exact ev_reti t_47_15 (rz rfl (by decide)) ⟨_, rfl, rfl, rfl⟩
    · omega
theorem BAD.le {e : Nat} {x : Int32} (h : BAD (e + 1) x) (he : e + 1 < 2 ^ 31) (h0 : ¬ x < 0) : ¬ x ≤ nI e := by
  obtain ⟨k, hk, rfl⟩ := nI_of h0
  rcases h with h | h
  · exact absurd h h0
  · intro h2
    have := (nI_leI he hk).mp h
    have := (nI_leI hk (by omega)).mp h2
    omega
theorem m47t {x : Int32} (h : BAD 16 x) : Ev d 47 0 [some (.int x)] [] (sM M τ) (fun q9 M' => ∃ v9, q9 = .inl v9 ∧ v9 = some (.int 1) ∧ M' = sM M τ) := by
  refine ev_iload_n t_47_0 rfl ?_
  refine ev_if_lt (y := 0) t_47_1 (fun h_1 => ?_) (fun h_1 => ?_)
  · refine ev_iconst t_47_10 ?_
    change Ev _ _ _ _ ([.int (nI (1))]) _ _
    refine ev_goto t_47_11 ?_
    exact ev_reti t_47_15 (rz rfl (by decide)) ⟨_, rfl, rfl, rfl⟩
  · refine ev_iload_n t_47_4 rfl ?_
    refine ev_bipush t_47_5 ?_
    change Ev _ _ _ _ ([.int (nI (15)), .int x]) _ _
    refine ev_icmp_le t_47_7 (fun h_7 => ?_) (fun h_7 => ?_)
    · exact absurd h_7 (BAD.le (e := 15) h (by decide) h_1)
    · refine ev_iconst t_47_10 ?_
      change Ev _ _ _ _ ([.int (nI (1))]) _ _
      refine ev_goto t_47_11 ?_
      exact ev_reti t_47_15 (rz rfl (by decide)) ⟨_, rfl, rfl, rfl⟩
theorem m63o {f k : Nat} (hf : f < 6) (h : k < 16) : Ev (d + 1) 63 0 [some (.int (nI f)), some (.int (nI k))] [] (sM M τ) (fun q9 M' => ∃ v9, q9 = .inl v9 ∧ v9 = some (.int 0) ∧ M' = sM M τ) := by
  refine ev_iload_n t_63_0 rfl ?_
  refine ev_if_ltN t_63_1 (by omega) (fun h_1 => ?_) (fun h_1 => ?_)
  · exact h_1.elim
  · refine ev_iload_n t_63_4 rfl ?_
    refine ev_iconst t_63_5 ?_
    change Ev _ _ _ _ ([.int (nI (5)), .int (nI (f))]) _ _
    refine ev_icmp_gtN t_63_6 (by omega) (by omega) (fun h_6 => ?_) (fun h_6 => ?_)
    · omega
    · refine ev_iload_n t_63_9 rfl ?_
      refine ev_cl (pm_st_S t_63_10 (Nat.le_of_ble_eq_true rfl) (as := [.int (nI (k))]) (rest := []) (L0 := [some (.int (nI (k)))]) rfl rfl (Nat.le_of_ble_eq_true rfl) (Nat.le_of_ble_eq_true rfl) rfl) rfl (m47o h) ?_
      rintro _ _ ⟨rfl, rfl⟩
      change Ev _ _ _ _ ([.int (nI (0))]) _ _
      refine ev_if_eqN t_63_13 (by omega) (fun h_13 => ?_) (fun h_13 => ?_)
      · refine ev_iconst t_63_20 ?_
        change Ev _ _ _ _ ([.int (nI (0))]) _ _
        exact ev_reti t_63_21 (rz rfl (by decide)) ⟨_, rfl, rfl, rfl⟩
      · exact absurd rfl h_13
theorem m63t {x y : Int32} (h : BAD 6 x ∨ BAD 16 y) : Ev (d + 1) 63 0 [some (.int x), some (.int y)] [] (sM M τ) (fun q9 M' => ∃ v9, q9 = .inl v9 ∧ v9 = some (.int 1) ∧ M' = sM M τ) := by
  refine ev_iload_n t_63_0 rfl ?_
  refine ev_if_lt (y := 0) t_63_1 (fun h_1 => ?_) (fun h_1 => ?_)
  · refine ev_iconst t_63_16 ?_
    change Ev _ _ _ _ ([.int (nI (1))]) _ _
    refine ev_goto t_63_17 ?_
    exact ev_reti t_63_21 (rz rfl (by decide)) ⟨_, rfl, rfl, rfl⟩
  · refine ev_iload_n t_63_4 rfl ?_
    refine ev_iconst t_63_5 ?_
    change Ev _ _ _ _ ([.int (nI (5)), .int x]) _ _
    refine ev_icmp_gt t_63_6 (fun h_6 => ?_) (fun h_6 => ?_)
    · refine ev_iconst t_63_16 ?_
      change Ev _ _ _ _ ([.int (nI (1))]) _ _
      refine ev_goto t_63_17 ?_
      exact ev_reti t_63_21 (rz rfl (by decide)) ⟨_, rfl, rfl, rfl⟩
    · refine ev_iload_n t_63_9 rfl ?_
      refine ev_cl (pm_st_S t_63_10 (Nat.le_of_ble_eq_true rfl) (as := [.int y]) (rest := []) (L0 := [some (.int y)]) rfl rfl (Nat.le_of_ble_eq_true rfl) (Nat.le_of_ble_eq_true rfl) rfl) rfl (m47t (by rcases h with h | h; exact absurd (Int32.not_lt.mp h_6) (BAD.le (e := 5) h (by decide) h_1); exact h)) ?_
      rintro _ _ ⟨rfl, rfl⟩
      change Ev _ _ _ _ ([.int (nI (1))]) _ _
      refine ev_if_eqN t_63_13 (by omega) (fun h_13 => ?_) (fun h_13 => ?_)
      · omega
      · refine ev_iconst t_63_16 ?_
        change Ev _ _ _ _ ([.int (nI (1))]) _ _
        refine ev_goto t_63_17 ?_
        exact ev_reti t_63_21 (rz rfl (by decide)) ⟨_, rfl, rfl, rfl⟩
def m_end (τ : Nat → Nat → Int32) (n ck : Nat) : Nat → Nat → Int32 := u2 (u2 τ 370 20 (nI (ck + 1))) 387 n (nI (ck + 1))
theorem m51 {n : Nat} (hn : n < 96) (h : τ 370 20 = nI ck) : Ev d 51 0 [some (.ref 370), some (.int (nI n))] [] (sM M τ) (fun q9 M' => ∃ v9, q9 = .inl v9 ∧ v9 = none ∧ M' = sM M (m_end τ n ck)) := by
  refine ev_aload_n t_51_0 rfl ?_
  refine ev_dup t_51_1 rfl ?_
  refine es_get (x := .int (τ (370) 20)) o_MO t_51_2 rfl ?_
  refine ev_top h ?_
  refine ev_iconst t_51_5 ?_
  change Ev _ _ _ _ ([.int (nI (1)), .int (nI (ck)), .ref 370]) _ _
  refine ev_iaddN t_51_6 ?_
  refine es_put o_MO t_51_7 rfl (Nat.le_of_ble_eq_true rfl) rfl ?_
  refine ev_aload_n t_51_10 rfl ?_
  refine es_get (x := .ref 387) o_MO t_51_11 rfl ?_
  refine ev_iload_n t_51_14 rfl ?_
  refine ev_aload_n t_51_15 rfl ?_
  refine es_get (x := .int ((u2 τ (370) 20 (nI ((ck) + (1)))) (370) 20)) o_MO t_51_16 rfl ?_
  refine ev_top (show _ = nI (ck + 1) from u2_at) ?_
  refine es_iast (k := n) a_m387 t_51_19 (by omega) ?_
  exact ev_retv t_51_20 rfl ⟨none, rfl, rfl, rfl⟩
end MA
