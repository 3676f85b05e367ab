/-! The reference: a circle is closed; is it good. -/
def clF (c : Nat) : Bool → List Nat → SP → SP
  | _, [], S => S
  | b, x :: l, S => clF c (b || decide (x = c)) l (if (b || decide (x = c)) = true then ci1 S x else S)
theorem clF_t {c : Nat} : ∀ (l : List Nat) (S : SP), clF c true l S = l.foldl ci1 S := by
  intro l
  induction l with
  | nil => intro S; rfl
  | cons x l ih => intro S; simp only [clF, Bool.true_or, List.foldl_cons]; exact ih _
theorem clF_f {c : Nat} : ∀ (l : List Nat) (S : SP), c ∈ l → clF c false l S = (l.drop (l.idxOf c)).foldl ci1 S := by
  intro l
  induction l with
  | nil => intro S h; cases h
  | cons x l ih =>
    intro S h
    by_cases e : x = c
    · subst e
      show clF x (false || decide (x = x)) l (if (false || decide (x = x)) = true then ci1 S x else S) = _
      rw [decide_eq_true (rfl : x = x), List.idxOf_cons_self]
      exact clF_t l _
    · simp only [clF]
      rw [decide_eq_false e, List.idxOf_cons, show (x == c) = false from beq_eq_false_iff_ne.mpr e]
      exact ih S (by rcases List.mem_cons.mp h with h | h; exact absurd h.symm e; exact h)
/-- what asking leaves alone: draft, texts, a working out, what was thrown -/
def FrI (τ τ' : Nat → Nat → Int32) : Prop := (∀ q, (371 ≤ q ∧ q ≤ 373) ∨ (390 ≤ q ∧ q ≤ 393) → τ' q = τ q) ∧ ∀ k, k = 0 ∨ k = 2 ∨ k = 30 ∨ k = 34 ∨ k = 36 → τ' 370 k = τ 370 k
theorem FrI.rfl {τ : Nat → Nat → Int32} : FrI τ τ := ⟨fun _ _ => Eq.refl _, fun _ _ => Eq.refl _⟩
theorem FrI.trans {τ τ' τ'' : Nat → Nat → Int32} (h : FrI τ τ') (h' : FrI τ' τ'') : FrI τ τ'' := ⟨fun q hq => (h'.1 q hq).trans (h.1 q hq), fun k hk => (h'.2 k hk).trans (h.2 k hk)⟩
theorem FrI.u {τ : Nat → Nat → Int32} {q k : Nat} {x : Int32} (h1 : ¬ ((371 ≤ q ∧ q ≤ 373) ∨ (390 ≤ q ∧ q ≤ 393))) (h2 : q = 370 → ¬ (k = 0 ∨ k = 2 ∨ k = 30 ∨ k = 34 ∨ k = 36)) : FrI τ (u2 τ q k x) := ⟨fun p hp => u2_ne (by omega), fun j hj => u2_off (by omega)⟩
/-- the rest of the reference's store -/
theorem RM_n {τ : Nat → Nat → Int32} {S : SP} {ck q k : Nat} {x : Int32} (h : RM τ S ck) (hq : q < 374 ∨ 387 < q) (hk : q = 370 → k ≠ 5 ∧ (k < 20 ∨ 25 < k)) : RM (u2 τ q k x) S ck := by
  obtain ⟨⟨⟨a1, a2, a3, a4, a5, a6⟩, b, c, e⟩, g2, g3, ⟨st, g4, g5, g6⟩, g7⟩ := h
  have ar : ∀ p, 374 ≤ p → p ≤ 387 → u2 τ q k x p = τ p := fun p h1 h2 => u2_ne (by omega)
  refine ⟨⟨⟨?_, ?_, ?_, ?_, ?_, ?_⟩, ?_, ?_, ?_⟩, ?_, ?_, ⟨st, ?_, ?_, g6⟩, g7⟩
  · rw [u2_off (by omega)]; exact a1
  · rw [u2_off (by omega)]; exact a2
  · rw [u2_off (by omega)]; exact a3
  · rw [u2_off (by omega)]; exact a4
  · rw [u2_off (by omega)]; exact a5
  · rw [u2_off (by omega)]; exact a6
  · rw [ar 374 (by omega) (by omega), ar 375 (by omega) (by omega)]; exact b
  · rw [ar 376 (by omega) (by omega), ar 378 (by omega) (by omega)]; exact c
  · rw [ar 377 (by omega) (by omega)]; exact e
  · rw [ar 379 (by omega) (by omega)]; exact g2
  · intro n hn
    have := g3 n hn
    unfold MC at this ⊢
    rw [ar 380 (by omega) (by omega), ar 381 (by omega) (by omega), ar 382 (by omega) (by omega), ar 383 (by omega) (by omega), ar 384 (by omega) (by omega), ar 385 (by omega) (by omega), ar 386 (by omega) (by omega)]
    exact this
  · rw [u2_off (by omega)]; exact g4
  · rw [ar 387 (by omega) (by omega)]; exact g5
theorem RM_sk {τ : Nat → Nat → Int32} {S : SP} {ck n : Nat} (h : RM τ S ck) (hn : n ∈ S.2.1) (hl : ∀ m, m < 96 → (S.2.2 m).length ≤ 24) : RM (m_end (u2 (u2 τ 381 n (S.1 17 0)) 370 24 (S.1 8 13 + 1)) n ck) (doSk S n) (ck + 1) := by
  obtain ⟨⟨⟨a1, a2, a3, a4, a5, a6⟩, b, c, e⟩, g2, g3, -, g7, g8⟩ := id h
  have hn9 := g8 n hn
  obtain ⟨⟨k1, k2, k3, k4, k5⟩, k6, k7⟩ := g3 n hn
  refine RM_put h hn9 (fun q m h1 h2 h3 h4 _ => ?_) (fun m i h1 h2 h3 => ?_) (fun m k h1 h2 => ?_) (fun m _ _ => rfl) hl ⟨⟨?_, ?_, ?_, ?_, ?_, ?_⟩, fun k hk => ⟨?_, ?_⟩, fun k hk => ⟨?_, ?_⟩, fun k hk => ?_⟩ ?_ ⟨⟨?_, ?_, ?_, ?_, ?_⟩, ?_, fun i hi => ?_⟩ ?_ ?_ <;> try unfold m_end
  · rw [u2_off (by omega), u2_off (by omega), u2_off (by omega), u2_off (by omega)]
  · rw [u2_off (by omega), u2_off (by omega), u2_off (by omega), u2_off (by omega)]
  · rw [u2_off (by omega), u2_off (by omega)]
  · rw [u2_off (by omega), u2_off (by omega), u2_off (by omega), u2_off (by omega), u2_off (by omega), u2_off (by omega)]; exact a1
  · rw [u2_off (by omega), u2_off (by omega), u2_off (by omega), u2_off (by omega), u2_off (by omega), u2_off (by omega)]; exact a2
  · rw [u2_off (by omega), u2_off (by omega), u2_off (by omega), u2_off (by omega), u2_off (by omega), u2_off (by omega)]; exact a3
  · rw [u2_off (by omega), u2_off (by omega), u2_off (by omega), u2_off (by omega), u2_off (by omega), u2_off (by omega)]; exact a4
  · rw [u2_off (by omega), u2_off (by omega), u2_at, u2_at]
  · rw [u2_off (by omega), u2_off (by omega), u2_off (by omega), u2_off (by omega), u2_off (by omega), u2_off (by omega)]; exact a6
  · rw [u2_off (by omega), u2_off (by omega), u2_off (by omega), u2_off (by omega), u2_off (by omega), u2_off (by omega)]; exact (b k hk).1
  · rw [u2_off (by omega), u2_off (by omega), u2_off (by omega), u2_off (by omega), u2_off (by omega), u2_off (by omega)]; exact (b k hk).2
  · rw [u2_off (by omega), u2_off (by omega), u2_off (by omega), u2_off (by omega), u2_off (by omega), u2_off (by omega)]; exact (c k hk).1
  · rw [u2_off (by omega), u2_off (by omega), u2_off (by omega), u2_off (by omega), u2_off (by omega), u2_off (by omega)]; exact (c k hk).2
  · rw [u2_off (by omega), u2_off (by omega), u2_off (by omega), u2_off (by omega), u2_off (by omega), u2_off (by omega)]; exact e k hk
  · rw [u2_off (by omega), u2_off (by omega), u2_off (by omega), u2_off (by omega), g2 n hn9, decide_eq_true hn]; rfl
  · dsimp only; rw [u2_off (by omega), u2_off (by omega), u2_off (by omega), u2_off (by omega), u2_off (by omega), u2_off (by omega)]; exact k1
  · dsimp only; rw [u2_off (by omega), u2_off (by omega), u2_off (by omega), u2_at, u2_off (by omega), u2_at]
  · dsimp only; rw [u2_off (by omega), u2_off (by omega), u2_off (by omega), u2_off (by omega), u2_off (by omega), u2_off (by omega)]; exact k3
  · dsimp only; rw [u2_off (by omega), u2_off (by omega), u2_off (by omega), u2_off (by omega), u2_off (by omega), u2_off (by omega)]; exact k4
  · dsimp only; rw [u2_off (by omega), u2_off (by omega), u2_off (by omega), u2_off (by omega), u2_off (by omega), u2_off (by omega)]; exact k5
  · rw [u2_off (by omega), u2_off (by omega), u2_off (by omega), u2_off (by omega)]; exact k6
  · rw [u2_off (by omega), u2_off (by omega), u2_off (by omega), u2_off (by omega)]; exact k7 i hi
  · rw [u2_off (by omega), u2_at]
  · exact u2_at
section MG
variable {d : Nat} {M : pm_M} {τ : Nat → Nat → Int32} {S : SP} {ck : Nat} {u : List Nat} {rf : Nat → Bool} {n : Nat}
theorem MU_end {ck : Nat} (h : MU τ u rf) : MU (m_end (u2 (u2 τ 381 n (S.1 17 0)) 370 24 (S.1 8 13 + 1)) n ck) u rf := by
  refine ⟨?_, fun i hi => ?_⟩ <;> unfold m_end
  · rw [u2_off (by omega), u2_off (by omega), u2_off (by omega), u2_off (by omega)]; exact h.1
  · rw [u2_off (by omega), u2_off (by omega), u2_off (by omega), u2_off (by omega), u2_off (by omega), u2_off (by omega), u2_off (by omega), u2_off (by omega)]; exact h.2 i hi
theorem m55g (hn : n < 96) (hR : RM τ S ck) (hu : MU τ u rf) (h20 : u.length ≤ 20) (hub : ∀ x ∈ u, x < 96) (hnu : n ∉ u) (hg : gdB S n = true) : Ev (d + 1) 55 0 [some (.ref 370), some (.int (nI n))] [] (sM M τ) (fun q9 M' => ∃ v9, q9 = .inl v9 ∧ v9 = some (.int 1) ∧ M' = sM M τ) := by
  have hg2 := of_decide_eq_true hg
  have eh : τ 379 n = nI 1 := by rw [hR.2.1 n hn, decide_eq_true hg2.1]; rfl
  have e81 := (hR.2.2.1 n hg2.1).1.2.1
  have e5 := hR.1.1.1
  refine ev_aload_n t_55_0 rfl ?_
  refine ev_iload_n t_55_1 rfl ?_
  refine ev_cl (pm_st_V t_55_2 (as := [.ref 370, .int (nI (n))]) (rest := []) (L0 := [some (.ref 370), some (.int (nI (n))), none, none]) rfl rfl (Nat.le_of_ble_eq_true rfl) (Nat.le_of_ble_eq_true rfl) rfl (es_rc o_MO rfl (Nat.le_of_ble_eq_true rfl))) rfl (m52 hn hu h20 hub) ?_
  rintro _ _ ⟨rfl, rfl⟩
  change Ev _ _ _ _ ([.int (bI (decide (n ∈ u)))]) _ _
  refine ev_if_eq (y := 0) t_55_5 (fun h_5 => ?_) (fun h_5 => ?_)
  · refine ev_aload_n t_55_15 rfl ?_
    refine es_get (x := .ref 379) o_MO t_55_16 rfl ?_
    refine ev_iload_n t_55_19 rfl ?_
    refine es_zald (k := n) a_m379 t_55_20 (by omega) ?_
    refine ev_top eh ?_
    refine ev_if_eqN t_55_21 (by omega) (fun h_21 => ?_) (fun h_21 => ?_)
    · omega
    · refine ev_aload_n t_55_24 rfl ?_
      refine es_get (x := .ref 381) o_MO t_55_25 rfl ?_
      refine ev_iload_n t_55_28 rfl ?_
      refine es_iald (k := n) a_m381 t_55_29 (by omega) ?_
      refine ev_top (y := (S.1 (38 + 2 * n) 3)) e81 ?_
      refine ev_aload_n t_55_30 rfl ?_
      refine es_get (x := .int (τ (370) 5)) o_MO t_55_31 rfl ?_
      refine ev_top (y := (S.1 17 0)) (by exact e5) ?_
      refine ev_icmp_ne t_55_34 (fun h_34 => ?_) (fun h_34 => ?_)
      · exact absurd hg2.2 h_34
      · refine ev_iconst t_55_37 ?_
        change Ev _ _ _ _ ([.int (nI (1))]) _ _
        exact ev_reti t_55_38 (rz rfl (by decide)) ⟨_, rfl, rfl, rfl⟩
  · exact absurd (bI_d0.mpr hnu) h_5
theorem m55s (hn : n < 96) (hR : RM τ S ck) (hl : ∀ m, m < 96 → (S.2.2 m).length ≤ 24) (hlv : ∃ l, l < 3 ∧ S.1 (38 + 2 * n) 5 = nI l) (hu : MU τ u rf) (h20 : u.length ≤ 20) (hub : ∀ x ∈ u, x < 96) (hnu : n ∉ u) (hg : ¬ gdB S n = true) (hs : skB S n = true) : Ev (d + 1) 55 0 [some (.ref 370), some (.int (nI n))] [] (sM M τ) (fun q9 M' => ∃ v9, q9 = .inl v9 ∧ v9 = some (.int 1) ∧ ∃ τ', M' = sM M τ' ∧ RM τ' (doSk S n) (ck + 1) ∧ MU τ' u rf ∧ FrI τ τ' ∧ τ' 370 29 = τ 370 29) := by
  have hs2 := hs
  unfold skB at hs2
  obtain ⟨l, hl3, el⟩ := hlv
  have hlv2 : lvO S n = l := by unfold lvO; rw [el, nI_clamp (by omega)]
  rw [hlv2, Bool.and_eq_true] at hs2
  have hm : n ∈ S.2.1 := of_decide_eq_true hs2.1
  have eh : τ 379 n = nI 1 := by rw [hR.2.1 n hn, decide_eq_true hm]; rfl
  obtain ⟨⟨-, e81, -, e83, -⟩, -⟩ := hR.2.2.1 n hm
  have e5 := hR.1.1.1
  have e24 := hR.1.1.2.2.2.2.1
  obtain ⟨st, e20, -⟩ := hR.2.2.2.1
  have hng : ¬ S.1 (38 + 2 * n) 3 = S.1 17 0 := fun e => hg (decide_eq_true ⟨hm, e⟩)
  have c53 := m53 (d := d) (M := M) hn hl3 hR.1 e81 (e83.trans el)
  have hF : FrI τ (m_end (u2 (u2 τ 381 n (S.1 17 0)) 370 24 (S.1 8 13 + 1)) n ck) := (FrI.u (by omega) (by omega)).trans ((FrI.u (by omega) (by omega)).trans ((FrI.u (by omega) (by omega)).trans (FrI.u (by omega) (by omega))))
  have c51 := m51 (d := d) (M := M) (τ := u2 (u2 τ 381 n (S.1 17 0)) 370 24 (S.1 8 13 + 1)) hn (ck := ck) (by rw [u2_off (by omega), u2_off (by omega)]; exact e20)
  refine ev_aload_n t_55_0 rfl ?_
  refine ev_iload_n t_55_1 rfl ?_
  refine ev_cl (pm_st_V t_55_2 (as := [.ref 370, .int (nI (n))]) (rest := []) (L0 := [some (.ref 370), some (.int (nI (n))), none, none]) rfl rfl (Nat.le_of_ble_eq_true rfl) (Nat.le_of_ble_eq_true rfl) rfl (es_rc o_MO rfl (Nat.le_of_ble_eq_true rfl))) rfl (m52 hn hu h20 hub) ?_
  rintro _ _ ⟨rfl, rfl⟩
  change Ev _ _ _ _ ([.int (bI (decide (n ∈ u)))]) _ _
  refine ev_if_eq (y := 0) t_55_5 (fun h_5 => ?_) (fun h_5 => ?_)
  · refine ev_aload_n t_55_15 rfl ?_
    refine es_get (x := .ref 379) o_MO t_55_16 rfl ?_
    refine ev_iload_n t_55_19 rfl ?_
    refine es_zald (k := n) a_m379 t_55_20 (by omega) ?_
    refine ev_top eh ?_
    refine ev_if_eqN t_55_21 (by omega) (fun h_21 => ?_) (fun h_21 => ?_)
    · omega
    · refine ev_aload_n t_55_24 rfl ?_
      refine es_get (x := .ref 381) o_MO t_55_25 rfl ?_
      refine ev_iload_n t_55_28 rfl ?_
      refine es_iald (k := n) a_m381 t_55_29 (by omega) ?_
      refine ev_top (y := (S.1 (38 + 2 * n) 3)) e81 ?_
      refine ev_aload_n t_55_30 rfl ?_
      refine es_get (x := .int (τ (370) 5)) o_MO t_55_31 rfl ?_
      refine ev_top (y := (S.1 17 0)) (by exact e5) ?_
      refine ev_icmp_ne t_55_34 (fun h_34 => ?_) (fun h_34 => ?_)
      · refine ev_aload_n t_55_39 rfl ?_
        refine es_get (x := .ref 379) o_MO t_55_40 rfl ?_
        refine ev_iload_n t_55_43 rfl ?_
        refine es_zald (k := n) a_m379 t_55_44 (by omega) ?_
        refine ev_top eh ?_
        refine ev_if_eqN t_55_45 (by omega) (fun h_45 => ?_) (fun h_45 => ?_)
        · omega
        · refine ev_aload_n t_55_48 rfl ?_
          refine ev_iload_n t_55_49 rfl ?_
          refine ev_cl (pm_st_V t_55_50 (as := [.ref 370, .int (nI (n))]) (rest := []) (L0 := [some (.ref 370), some (.int (nI (n))), none, none]) rfl rfl (Nat.le_of_ble_eq_true rfl) (Nat.le_of_ble_eq_true rfl) rfl (es_rc o_MO rfl (Nat.le_of_ble_eq_true rfl))) rfl (c53) ?_
          rintro _ _ ⟨rfl, rfl⟩
          change Ev _ _ _ _ ([.int (bI (!tch S.1 l (S.1 (38 + 2 * n) 3)))]) _ _
          refine ev_if_eq (y := 0) t_55_53 (fun h_53 => ?_) (fun h_53 => ?_)
          · (rw [hs2.2] at h_53; exact absurd h_53 (by decide))
          · refine ev_aload_n t_55_56 rfl ?_
            refine es_get (x := .ref 381) o_MO t_55_57 rfl ?_
            refine ev_iload_n t_55_60 rfl ?_
            refine ev_aload_n t_55_61 rfl ?_
            refine es_get (x := .int (τ (370) 5)) o_MO t_55_62 rfl ?_
            refine ev_top (y := (S.1 17 0)) (by exact e5) ?_
            refine es_iast (k := n) a_m381 t_55_65 (by omega) ?_
            refine ev_aload_n t_55_66 rfl ?_
            refine ev_dup t_55_67 rfl ?_
            refine es_get (x := .int ((u2 τ (381) (n) (S.1 17 0)) (370) 24)) o_MO t_55_68 rfl ?_
            refine ev_top (y := (S.1 8 13)) (by rw [u2_off (by omega)]; exact e24) ?_
            refine ev_iconst t_55_71 ?_
            change Ev _ _ _ _ ([.int (nI (1)), .int (S.1 8 13), .ref 370]) _ _
            refine ev_iadd t_55_72 ?_
            refine es_put o_MO t_55_73 rfl (Nat.le_of_ble_eq_true rfl) rfl ?_
            refine ev_aload_n t_55_76 rfl ?_
            refine ev_iload_n t_55_77 rfl ?_
            refine ev_cl (pm_st_V t_55_78 (as := [.ref 370, .int (nI (n))]) (rest := []) (L0 := [some (.ref 370), some (.int (nI (n)))]) rfl rfl (Nat.le_of_ble_eq_true rfl) (Nat.le_of_ble_eq_true rfl) rfl (es_rc o_MO rfl (Nat.le_of_ble_eq_true rfl))) rfl (c51) ?_
            rintro _ _ ⟨rfl, rfl⟩
            change Ev _ _ _ _ ([]) _ _
            refine ev_iconst t_55_81 ?_
            change Ev _ _ _ _ ([.int (nI (1))]) _ _
            exact ev_reti t_55_82 (rz rfl (by decide)) ⟨_, rfl, rfl, _, rfl, RM_sk hR hm hl, MU_end hu, hF, (by unfold m_end; rw [u2_off (by omega), u2_off (by omega), u2_off (by omega), u2_off (by omega)])⟩
      · exact absurd (Decidable.byContradiction h_34) hng
  · exact absurd (bI_d0.mpr hnu) h_5
end MG
