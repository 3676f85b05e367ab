/-! The reference: a circle is closed; given up; pushed. -/
theorem RM_ci {τ : Nat → Nat → Int32} {S : SP} {ck n : Nat} (h : RM τ S ck) (hn9 : n < 96) (hl : ∀ m, m < 96 → (S.2.2 m).length ≤ 24) : RM (m_end (u2 (u2 (u2 (u2 (u2 (u2 (u2 (u2 τ 379 n 1) 380 n (S.1 12 (n / 16))) 381 n (S.1 17 0)) 382 n (S.1 17 0)) 383 n 0) 384 n 1) 386 n 0) 370 25 (S.1 8 14 + 1)) n ck) (ci1 S n) (ck + 1) := by
  obtain ⟨⟨⟨a1, a2, a3, a4, a5, a6⟩, b, c, e⟩, g2, g3, -, g7, g8⟩ := id h
  refine RM_put h hn9 (fun q m h1 h2 h3 h4 _ => ?_) (fun m i h1 h2 h3 => ?_) (fun m k h1 h2 => ?_) (fun m h1 h2 => if_neg h1) hl ⟨⟨?_, ?_, ?_, ?_, ?_, ?_⟩, fun k hk => ⟨?_, ?_⟩, fun k hk => ⟨?_, ?_⟩, fun k hk => ?_⟩ ?_ ⟨⟨?_, ?_, ?_, ?_, ?_⟩, ?_, fun i hi => ?_⟩ ?_ ?_ <;> try unfold m_end
  · rw [u2_off (by omega), u2_off (by omega), u2_off (by omega), u2_off (by omega), u2_off (by omega), u2_off (by omega), u2_off (by omega), u2_off (by omega), u2_off (by omega), u2_off (by omega)]
  · rw [u2_off (by omega), u2_off (by omega), u2_off (by omega), u2_off (by omega), u2_off (by omega), u2_off (by omega), u2_off (by omega), u2_off (by omega), u2_off (by omega), u2_off (by omega)]
  · rw [u2_off (by omega), u2_off (by omega), u2_off (by omega), u2_off (by omega), u2_off (by omega), u2_off (by omega)]
  · rw [u2_off (by omega), u2_off (by omega), u2_off (by omega), u2_off (by omega), u2_off (by omega), u2_off (by omega), u2_off (by omega), u2_off (by omega), u2_off (by omega), u2_off (by omega), u2_off (by omega), u2_off (by omega), u2_off (by omega), u2_off (by omega), u2_off (by omega), u2_off (by omega)]; exact a1
  · rw [u2_off (by omega), u2_off (by omega), u2_off (by omega), u2_off (by omega), u2_off (by omega), u2_off (by omega), u2_off (by omega), u2_off (by omega), u2_off (by omega), u2_off (by omega), u2_off (by omega), u2_off (by omega), u2_off (by omega), u2_off (by omega), u2_off (by omega), u2_off (by omega)]; exact a2
  · rw [u2_off (by omega), u2_off (by omega), u2_off (by omega), u2_off (by omega), u2_off (by omega), u2_off (by omega), u2_off (by omega), u2_off (by omega), u2_off (by omega), u2_off (by omega), u2_off (by omega), u2_off (by omega), u2_off (by omega), u2_off (by omega), u2_off (by omega), u2_off (by omega)]; exact a3
  · rw [u2_off (by omega), u2_off (by omega), u2_off (by omega), u2_off (by omega), u2_off (by omega), u2_off (by omega), u2_off (by omega), u2_off (by omega), u2_off (by omega), u2_off (by omega), u2_off (by omega), u2_off (by omega), u2_off (by omega), u2_off (by omega), u2_off (by omega), u2_off (by omega)]; exact a4
  · rw [u2_off (by omega), u2_off (by omega), u2_off (by omega), u2_off (by omega), u2_off (by omega), u2_off (by omega), u2_off (by omega), u2_off (by omega), u2_off (by omega), u2_off (by omega), u2_off (by omega), u2_off (by omega), u2_off (by omega), u2_off (by omega), u2_off (by omega), u2_off (by omega)]; exact a5
  · rw [u2_off (by omega), u2_off (by omega), u2_at, u2_at]
  · rw [u2_off (by omega), u2_off (by omega), u2_off (by omega), u2_off (by omega), u2_off (by omega), u2_off (by omega), u2_off (by omega), u2_off (by omega), u2_off (by omega), u2_off (by omega), u2_off (by omega), u2_off (by omega), u2_off (by omega), u2_off (by omega), u2_off (by omega), u2_off (by omega)]; exact (b k hk).1
  · rw [u2_off (by omega), u2_off (by omega), u2_off (by omega), u2_off (by omega), u2_off (by omega), u2_off (by omega), u2_off (by omega), u2_off (by omega), u2_off (by omega), u2_off (by omega), u2_off (by omega), u2_off (by omega), u2_off (by omega), u2_off (by omega), u2_off (by omega), u2_off (by omega)]; exact (b k hk).2
  · rw [u2_off (by omega), u2_off (by omega), u2_off (by omega), u2_off (by omega), u2_off (by omega), u2_off (by omega), u2_off (by omega), u2_off (by omega), u2_off (by omega), u2_off (by omega), u2_off (by omega), u2_off (by omega), u2_off (by omega), u2_off (by omega), u2_off (by omega), u2_off (by omega)]; exact (c k hk).1
  · rw [u2_off (by omega), u2_off (by omega), u2_off (by omega), u2_off (by omega), u2_off (by omega), u2_off (by omega), u2_off (by omega), u2_off (by omega), u2_off (by omega), u2_off (by omega), u2_off (by omega), u2_off (by omega), u2_off (by omega), u2_off (by omega), u2_off (by omega), u2_off (by omega)]; exact (c k hk).2
  · rw [u2_off (by omega), u2_off (by omega), u2_off (by omega), u2_off (by omega), u2_off (by omega), u2_off (by omega), u2_off (by omega), u2_off (by omega), u2_off (by omega), u2_off (by omega), u2_off (by omega), u2_off (by omega), u2_off (by omega), u2_off (by omega), u2_off (by omega), u2_off (by omega)]; exact e k hk
  · rw [u2_off (by omega), u2_off (by omega), u2_off (by omega), u2_off (by omega), u2_off (by omega), u2_off (by omega), u2_off (by omega), u2_off (by omega), u2_off (by omega), u2_at]
  · dsimp only; rw [u2_off (by omega), u2_off (by omega), u2_off (by omega), u2_off (by omega), u2_off (by omega), u2_off (by omega), u2_off (by omega), u2_off (by omega), u2_at, u2_off (by omega), u2_off (by omega), u2_off (by omega), u2_off (by omega), u2_off (by omega), u2_at]
  · dsimp only; rw [u2_off (by omega), u2_off (by omega), u2_off (by omega), u2_off (by omega), u2_off (by omega), u2_off (by omega), u2_off (by omega), u2_at, u2_off (by omega), u2_off (by omega), u2_off (by omega), u2_off (by omega), u2_at]
  · dsimp only; rw [u2_off (by omega), u2_off (by omega), u2_off (by omega), u2_off (by omega), u2_off (by omega), u2_off (by omega), u2_at, u2_off (by omega), u2_off (by omega), u2_off (by omega), u2_at]
  · dsimp only; rw [u2_off (by omega), u2_off (by omega), u2_off (by omega), u2_off (by omega), u2_off (by omega), u2_at, u2_off (by omega), u2_off (by omega), u2_at]
  · dsimp only; rw [u2_off (by omega), u2_off (by omega), u2_off (by omega), u2_off (by omega), u2_at, u2_off (by omega), u2_at]
  · dsimp only; rw [if_pos rfl, u2_off (by omega), u2_off (by omega), u2_off (by omega), u2_at]; rfl
  · dsimp only at hi; rw [if_pos rfl] at hi; simp at hi
  · rw [u2_off (by omega), u2_at]
  · exact u2_at
def clN (c : Nat) : Bool → List Nat → Nat
  | _, [] => 0
  | b, x :: l => (if (b || decide (x = c)) = true then 1 else 0) + clN c (b || decide (x = c)) l
theorem clN_t {c : Nat} : ∀ (l : List Nat), clN c true l = l.length := by
  intro l
  induction l with
  | nil => rfl
  | cons x l ih => simp only [clN, Bool.true_or, if_true, List.length_cons]; rw [ih]; omega
theorem clN_f {c : Nat} : ∀ (l : List Nat), c ∈ l → clN c false l = (l.drop (l.idxOf c)).length := by
  intro l
  induction l with
  | nil => intro h; cases h
  | cons x l ih =>
    intro h
    by_cases e : x = c
    · subst e
      show (if (false || decide (x = x)) = true then 1 else 0) + clN x (false || decide (x = x)) l = _
      rw [decide_eq_true (rfl : x = x), List.idxOf_cons_self]
      show 1 + clN x true l = _
      rw [clN_t]
      simp
      omega
    · simp only [clN]
      rw [decide_eq_false e, List.idxOf_cons, show (x == c) = false from beq_eq_false_iff_ne.mpr e]
      show 0 + clN c false l = _
      rw [Nat.zero_add]
      exact ih (by rcases List.mem_cons.mp h with h | h; exact absurd h.symm e; exact h)
section MH
variable {d : Nat} {M : pm_M} {u : List Nat} {rf : Nat → Bool} {n : Nat}
theorem MU_fr {τ τ' : Nat → Nat → Int32} (h1 : τ' 370 26 = τ 370 26) (h2 : τ' 388 = τ 388) (h3 : τ' 389 = τ 389) (h : MU τ u rf) : MU τ' u rf := ⟨h1.trans h.1, fun i hi => by rw [h2, h3]; exact h.2 i hi⟩
theorem m54l {c : Nat} (h20 : u.length ≤ 20) (hub : ∀ x ∈ u, x < 96) (hc : c < 96) : ∀ (k i : Nat) (b : Bool) (S : SP) (τ : Nat → Nat → Int32) (ck : Nat) (o4 : Option Value), i + k = u.length → RM τ S ck → (∀ m, m < 96 → (S.2.2 m).length ≤ 24) → MU τ u rf → Ev (d + 1) 54 4 [some (.ref 370), some (.int (nI c)), some (.int (bI b)), some (.int (nI i)), o4] [] (sM M τ) (fun q9 M' => ∃ v9, q9 = .inl v9 ∧ v9 = none ∧ ∃ τ', M' = sM M τ' ∧ RM τ' (clF c b (u.drop i) S) (ck + clN c b (u.drop i)) ∧ MU τ' [] rf ∧ FrI τ τ' ∧ τ' 370 29 = τ 370 29) := by
  intro k
  induction k with
  | zero =>
    intro i b S τ ck o4 hi hR hl hu
    obtain rfl : i = u.length := by omega
    rw [List.drop_length]
    refine ev_iload_n t_54_4 rfl ?_
    refine ev_aload_n t_54_5 rfl ?_
    refine es_get (x := .int (τ (370) 26)) o_MO t_54_6 rfl ?_
    refine ev_top (y := (nI (u.length))) (by exact hu.1) ?_
    refine ev_icmp_geN t_54_9 (by omega) (by omega) (fun h_9 => ?_) (fun h_9 => ?_)
    · refine ev_aload_n t_54_133 rfl ?_
      refine ev_iconst t_54_134 ?_
      change Ev _ _ _ _ ([.int (nI (0)), .ref 370]) _ _
      refine es_put o_MO t_54_135 rfl (Nat.le_of_ble_eq_true rfl) rfl ?_
      exact ev_retv t_54_138 rfl ⟨none, rfl, rfl, _, rfl, RM_n hR (by omega) (by omega), ⟨u2_at, fun i hi => by simp at hi⟩, FrI.u (by omega) (by omega), u2_off (by omega)⟩
    · omega
  | succ k ih =>
    intro i b S τ ck o4 hi hR hl hu
    have hil : i < u.length := by omega
    have hx : u.getD i 0 = u[i] := by simp [List.getD_eq_getElem?_getD, hil]
    have hn9 : u.getD i 0 < 96 := by rw [hx]; exact hub _ (List.getElem_mem hil)
    have e24 := (hu.2 i hil).1
    rw [drop_at hil]
    generalize u.getD i 0 = n at hn9 e24 ⊢
    have e5 := hR.1.1.1
    have e25 := hR.1.1.2.2.2.2.2
    have e77 := hR.1.2.2.2 (n / 16) (by omega)
    obtain ⟨st, e20, -⟩ := hR.2.2.2.1
    have hRc := RM_ci hR hn9 hl
    have hlc : ∀ m, m < 96 → ((ci1 S n).2.2 m).length ≤ 24 := fun m hm => by
      show (if m = n then [] else S.2.2 m).length ≤ 24
      split
      · simp
      · exact hl m hm
    have huc : MU (m_end (u2 (u2 (u2 (u2 (u2 (u2 (u2 (u2 τ 379 n 1) 380 n (S.1 12 (n / 16))) 381 n (S.1 17 0)) 382 n (S.1 17 0)) 383 n 0) 384 n 1) 386 n 0) 370 25 (S.1 8 14 + 1)) n ck) u rf := MU_fr (by unfold m_end; rw [u2_off (by omega), u2_off (by omega), u2_off (by omega), u2_off (by omega), u2_off (by omega), u2_off (by omega), u2_off (by omega), u2_off (by omega), u2_off (by omega), u2_off (by omega)]) (by unfold m_end; rw [u2_ne (by omega), u2_ne (by omega), u2_ne (by omega), u2_ne (by omega), u2_ne (by omega), u2_ne (by omega), u2_ne (by omega), u2_ne (by omega), u2_ne (by omega), u2_ne (by omega)]) (by unfold m_end; rw [u2_ne (by omega), u2_ne (by omega), u2_ne (by omega), u2_ne (by omega), u2_ne (by omega), u2_ne (by omega), u2_ne (by omega), u2_ne (by omega), u2_ne (by omega), u2_ne (by omega)]) hu
    have hFc : FrI τ (m_end (u2 (u2 (u2 (u2 (u2 (u2 (u2 (u2 τ 379 n 1) 380 n (S.1 12 (n / 16))) 381 n (S.1 17 0)) 382 n (S.1 17 0)) 383 n 0) 384 n 1) 386 n 0) 370 25 (S.1 8 14 + 1)) n ck) := ⟨fun p hp => by unfold m_end; rw [u2_ne (by omega), u2_ne (by omega), u2_ne (by omega), u2_ne (by omega), u2_ne (by omega), u2_ne (by omega), u2_ne (by omega), u2_ne (by omega), u2_ne (by omega), u2_ne (by omega)], fun p hp => by unfold m_end; rw [u2_off (by omega), u2_off (by omega), u2_off (by omega), u2_off (by omega), u2_off (by omega), u2_off (by omega), u2_off (by omega), u2_off (by omega), u2_off (by omega), u2_off (by omega)]⟩
    have h29 : (m_end (u2 (u2 (u2 (u2 (u2 (u2 (u2 (u2 τ 379 n 1) 380 n (S.1 12 (n / 16))) 381 n (S.1 17 0)) 382 n (S.1 17 0)) 383 n 0) 384 n 1) 386 n 0) 370 25 (S.1 8 14 + 1)) n ck) 370 29 = τ 370 29 := by unfold m_end; rw [u2_off (by omega), u2_off (by omega), u2_off (by omega), u2_off (by omega), u2_off (by omega), u2_off (by omega), u2_off (by omega), u2_off (by omega), u2_off (by omega), u2_off (by omega)]
    have c51 := m51 (d := d) (M := M) (τ := (u2 (u2 (u2 (u2 (u2 (u2 (u2 (u2 τ 379 n 1) 380 n (S.1 12 (n / 16))) 381 n (S.1 17 0)) 382 n (S.1 17 0)) 383 n 0) 384 n 1) 386 n 0) 370 25 (S.1 8 14 + 1))) hn9 (ck := ck) (by rw [u2_off (by omega), u2_off (by omega), u2_off (by omega), u2_off (by omega), u2_off (by omega), u2_off (by omega), u2_off (by omega), u2_off (by omega)]; exact e20)
    have kT : (b || decide (n = c)) = true → ∀ o4 : Option Value, Ev (d + 1) 54 4 [some (.ref 370), some (.int (nI c)), some (.int (nI 1)), some (.int (nI (i + 1))), o4] [] (sM M (m_end (u2 (u2 (u2 (u2 (u2 (u2 (u2 (u2 τ 379 n 1) 380 n (S.1 12 (n / 16))) 381 n (S.1 17 0)) 382 n (S.1 17 0)) 383 n 0) 384 n 1) 386 n 0) 370 25 (S.1 8 14 + 1)) n ck)) (fun q9 M' => ∃ v9, q9 = .inl v9 ∧ v9 = none ∧ ∃ τ', M' = sM M τ' ∧ RM τ' (clF c b (n :: u.drop (i + 1)) S) (ck + clN c b (n :: u.drop (i + 1))) ∧ MU τ' [] rf ∧ FrI τ τ' ∧ τ' 370 29 = τ 370 29) := by
      intro hb o4
      refine ev_mono (ih (i + 1) true (ci1 S n) _ (ck + 1) o4 (by omega) hRc hlc huc) ?_
      rintro r9 M9 ⟨v9, e1, e2, τ', e3, k1, k2, k3, k4⟩
      refine ⟨v9, e1, e2, τ', e3, ?_, k2, hFc.trans k3, k4.trans h29⟩
      simp only [clF, clN]
      rw [hb, if_pos rfl, if_pos rfl, ← Nat.add_assoc]
      exact k1
    have kF : (b || decide (n = c)) = false → ∀ o4 : Option Value, Ev (d + 1) 54 4 [some (.ref 370), some (.int (nI c)), some (.int (nI 0)), some (.int (nI (i + 1))), o4] [] (sM M τ) (fun q9 M' => ∃ v9, q9 = .inl v9 ∧ v9 = none ∧ ∃ τ', M' = sM M τ' ∧ RM τ' (clF c b (n :: u.drop (i + 1)) S) (ck + clN c b (n :: u.drop (i + 1))) ∧ MU τ' [] rf ∧ FrI τ τ' ∧ τ' 370 29 = τ 370 29) := by
      intro hb o4
      refine ev_mono (ih (i + 1) false S τ ck o4 (by omega) hR hl hu) ?_
      rintro r9 M9 ⟨v9, e1, e2, τ', e3, k1, k2, k3, k4⟩
      refine ⟨v9, e1, e2, τ', e3, ?_, k2, k3, k4⟩
      simp only [clF, clN]
      rw [hb, if_neg (by decide), if_neg (by decide), Nat.zero_add]
      exact k1
    cases b with
    | true =>
      change Ev (d + 1) 54 4 [_, _, some (.int (nI 1)), _, _] _ _ _
      refine ev_iload_n t_54_4 rfl ?_
      refine ev_aload_n t_54_5 rfl ?_
      refine es_get (x := .int (τ (370) 26)) o_MO t_54_6 rfl ?_
      refine ev_top (y := (nI (u.length))) (by exact hu.1) ?_
      refine ev_icmp_geN t_54_9 (by omega) (by omega) (fun h_9 => ?_) (fun h_9 => ?_)
      · omega
      · refine ev_aload_n t_54_12 rfl ?_
        refine es_get (x := .ref 388) o_MO t_54_13 rfl ?_
        refine ev_iload_n t_54_16 rfl ?_
        refine es_iald (k := i) a_m388 t_54_17 (by omega) ?_
        refine ev_top e24 ?_
        refine ev_istore (L' := [some (.ref 370), some (.int (nI (c))), some (.int (nI (1))), some (.int (nI (i))), some (.int (nI (n)))]) t_54_18 (Nat.le_of_ble_eq_true rfl) rfl ?_
        refine ev_iload_n t_54_20 rfl ?_
        refine ev_if_neN t_54_21 (by omega) (fun h_21 => ?_) (fun h_21 => ?_)
        · refine ev_iconst t_54_30 ?_
          change Ev _ _ _ _ ([.int (nI (1))]) _ _
          refine ev_goto t_54_31 ?_
          refine ev_istore_n (L' := [some (.ref 370), some (.int (nI (c))), some (.int (nI (1))), some (.int (nI (i))), some (.int (nI (n)))]) t_54_35 (Nat.le_of_ble_eq_true rfl) rfl ?_
          refine ev_iload_n t_54_36 rfl ?_
          refine ev_if_eqN t_54_37 (by omega) (fun h_37 => ?_) (fun h_37 => ?_)
          · omega
          · refine ev_aload_n t_54_40 rfl ?_
            refine es_get (x := .ref 379) o_MO t_54_41 rfl ?_
            refine ev_iload t_54_44 rfl ?_
            refine ev_iconst t_54_46 ?_
            change Ev _ _ _ _ ([.int (nI (1)), .int (nI (n)), .ref 379]) _ _
            refine es_zast (k := n) (y := 1) a_m379 t_54_47 (by omega) (rfl) ?_
            refine ev_aload_n t_54_48 rfl ?_
            refine es_get (x := .ref 380) o_MO t_54_49 rfl ?_
            refine ev_iload t_54_52 rfl ?_
            refine ev_aload_n t_54_54 rfl ?_
            refine es_get (x := .ref 377) o_MO t_54_55 rfl ?_
            refine ev_iload t_54_58 rfl ?_
            refine ev_bipush t_54_60 ?_
            change Ev _ _ _ _ ([.int (nI (16)), .int (nI (n)), .ref 377, .int (nI (n)), .ref 380]) _ _
            refine ev_idivN t_54_62 (by omega) (by omega) (by omega) ?_
            refine es_iald (k := (n) / (16)) a_m377 t_54_63 (by omega) ?_
            refine ev_top (y := (S.1 12 (n / 16))) (by (repeat rw [u2_off (by omega)]); exact e77) ?_
            refine es_iast (k := n) a_m380 t_54_64 (by omega) ?_
            refine ev_aload_n t_54_65 rfl ?_
            refine es_get (x := .ref 381) o_MO t_54_66 rfl ?_
            refine ev_iload t_54_69 rfl ?_
            refine ev_aload_n t_54_71 rfl ?_
            refine es_get (x := .int ((u2 (u2 τ (379) (n) 1) (380) (n) (S.1 12 (n / 16))) (370) 5)) o_MO t_54_72 rfl ?_
            refine ev_top (y := (S.1 17 0)) (by (repeat rw [u2_off (by omega)]); exact e5) ?_
            refine es_iast (k := n) a_m381 t_54_75 (by omega) ?_
            refine ev_aload_n t_54_76 rfl ?_
            refine es_get (x := .ref 382) o_MO t_54_77 rfl ?_
            refine ev_iload t_54_80 rfl ?_
            refine ev_aload_n t_54_82 rfl ?_
            refine es_get (x := .int ((u2 (u2 (u2 τ (379) (n) 1) (380) (n) (S.1 12 (n / 16))) (381) (n) (S.1 17 0)) (370) 5)) o_MO t_54_83 rfl ?_
            refine ev_top (y := (S.1 17 0)) (by (repeat rw [u2_off (by omega)]); exact e5) ?_
            refine es_iast (k := n) a_m382 t_54_86 (by omega) ?_
            refine ev_aload_n t_54_87 rfl ?_
            refine es_get (x := .ref 383) o_MO t_54_88 rfl ?_
            refine ev_iload t_54_91 rfl ?_
            refine ev_iconst t_54_93 ?_
            change Ev _ _ _ _ ([.int (nI (0)), .int (nI (n)), .ref 383]) _ _
            refine es_iast (k := n) a_m383 t_54_94 (by omega) ?_
            refine ev_aload_n t_54_95 rfl ?_
            refine es_get (x := .ref 384) o_MO t_54_96 rfl ?_
            refine ev_iload t_54_99 rfl ?_
            refine ev_iconst t_54_101 ?_
            change Ev _ _ _ _ ([.int (nI (1)), .int (nI (n)), .ref 384]) _ _
            refine es_zast (k := n) (y := 1) a_m384 t_54_102 (by omega) (rfl) ?_
            refine ev_aload_n t_54_103 rfl ?_
            refine es_get (x := .ref 386) o_MO t_54_104 rfl ?_
            refine ev_iload t_54_107 rfl ?_
            refine ev_iconst t_54_109 ?_
            change Ev _ _ _ _ ([.int (nI (0)), .int (nI (n)), .ref 386]) _ _
            refine es_iast (k := n) a_m386 t_54_110 (by omega) ?_
            refine ev_aload_n t_54_111 rfl ?_
            refine ev_dup t_54_112 rfl ?_
            refine es_get (x := .int ((u2 (u2 (u2 (u2 (u2 (u2 (u2 τ (379) (n) 1) (380) (n) (S.1 12 (n / 16))) (381) (n) (S.1 17 0)) (382) (n) (S.1 17 0)) (383) (n) (nI (0))) (384) (n) 1) (386) (n) (nI (0))) (370) 25)) o_MO t_54_113 rfl ?_
            refine ev_top (y := (S.1 8 14)) (by (repeat rw [u2_off (by omega)]); exact e25) ?_
            refine ev_iconst t_54_116 ?_
            change Ev _ _ _ _ ([.int (nI (1)), .int (S.1 8 14), .ref 370]) _ _
            refine ev_iadd t_54_117 ?_
            refine es_put o_MO t_54_118 rfl (Nat.le_of_ble_eq_true rfl) rfl ?_
            refine ev_aload_n t_54_121 rfl ?_
            refine ev_iload t_54_122 rfl ?_
            refine ev_cl (pm_st_V t_54_124 (as := [.ref 370, .int (nI (n))]) (rest := []) (L0 := [some (.ref 370), some (.int (nI (n)))]) rfl rfl (Nat.le_of_ble_eq_true rfl) (Nat.le_of_ble_eq_true rfl) rfl (es_rc o_MO rfl (Nat.le_of_ble_eq_true rfl))) rfl (c51) ?_
            rintro _ _ ⟨rfl, rfl⟩
            change Ev _ _ _ _ ([]) _ _
            refine ev_iincN (L' := [some (.ref 370), some (.int (nI (c))), some (.int (nI (1))), some (.int (nI (i + 1))), some (.int (nI (n)))]) t_54_127 rfl (Nat.le_of_ble_eq_true rfl) rfl ?_
            refine ev_goto t_54_130 ?_
            exact kT rfl _
        · omega
    | false =>
      change Ev (d + 1) 54 4 [_, _, some (.int (nI 0)), _, _] _ _ _
      refine ev_iload_n t_54_4 rfl ?_
      refine ev_aload_n t_54_5 rfl ?_
      refine es_get (x := .int (τ (370) 26)) o_MO t_54_6 rfl ?_
      refine ev_top (y := (nI (u.length))) (by exact hu.1) ?_
      refine ev_icmp_geN t_54_9 (by omega) (by omega) (fun h_9 => ?_) (fun h_9 => ?_)
      · omega
      · refine ev_aload_n t_54_12 rfl ?_
        refine es_get (x := .ref 388) o_MO t_54_13 rfl ?_
        refine ev_iload_n t_54_16 rfl ?_
        refine es_iald (k := i) a_m388 t_54_17 (by omega) ?_
        refine ev_top e24 ?_
        refine ev_istore (L' := [some (.ref 370), some (.int (nI (c))), some (.int (nI (0))), some (.int (nI (i))), some (.int (nI (n)))]) t_54_18 (Nat.le_of_ble_eq_true rfl) rfl ?_
        refine ev_iload_n t_54_20 rfl ?_
        refine ev_if_neN t_54_21 (by omega) (fun h_21 => ?_) (fun h_21 => ?_)
        · exact absurd rfl h_21
        · refine ev_iload t_54_24 rfl ?_
          refine ev_iload_n t_54_26 rfl ?_
          refine ev_icmp_neN t_54_27 (by omega) (by omega) (fun h_27 => ?_) (fun h_27 => ?_)
          · refine ev_iconst t_54_34 ?_
            change Ev _ _ _ _ ([.int (nI (0))]) _ _
            refine ev_istore_n (L' := [some (.ref 370), some (.int (nI (c))), some (.int (nI (0))), some (.int (nI (i))), some (.int (nI (n)))]) t_54_35 (Nat.le_of_ble_eq_true rfl) rfl ?_
            refine ev_iload_n t_54_36 rfl ?_
            refine ev_if_eqN t_54_37 (by omega) (fun h_37 => ?_) (fun h_37 => ?_)
            · refine ev_iincN (L' := [some (.ref 370), some (.int (nI (c))), some (.int (nI (0))), some (.int (nI (i + 1))), some (.int (nI (n)))]) t_54_127 rfl (Nat.le_of_ble_eq_true rfl) rfl ?_
              refine ev_goto t_54_130 ?_
              exact kF (by rw [decide_eq_false (show ¬ n = c by omega)]; rfl) _
            · exact absurd rfl h_37
          · refine ev_iconst t_54_30 ?_
            change Ev _ _ _ _ ([.int (nI (1))]) _ _
            refine ev_goto t_54_31 ?_
            refine ev_istore_n (L' := [some (.ref 370), some (.int (nI (c))), some (.int (nI (1))), some (.int (nI (i))), some (.int (nI (n)))]) t_54_35 (Nat.le_of_ble_eq_true rfl) rfl ?_
            refine ev_iload_n t_54_36 rfl ?_
            refine ev_if_eqN t_54_37 (by omega) (fun h_37 => ?_) (fun h_37 => ?_)
            · omega
            · refine ev_aload_n t_54_40 rfl ?_
              refine es_get (x := .ref 379) o_MO t_54_41 rfl ?_
              refine ev_iload t_54_44 rfl ?_
              refine ev_iconst t_54_46 ?_
              change Ev _ _ _ _ ([.int (nI (1)), .int (nI (n)), .ref 379]) _ _
              refine es_zast (k := n) (y := 1) a_m379 t_54_47 (by omega) (rfl) ?_
              refine ev_aload_n t_54_48 rfl ?_
              refine es_get (x := .ref 380) o_MO t_54_49 rfl ?_
              refine ev_iload t_54_52 rfl ?_
              refine ev_aload_n t_54_54 rfl ?_
              refine es_get (x := .ref 377) o_MO t_54_55 rfl ?_
              refine ev_iload t_54_58 rfl ?_
              refine ev_bipush t_54_60 ?_
              change Ev _ _ _ _ ([.int (nI (16)), .int (nI (n)), .ref 377, .int (nI (n)), .ref 380]) _ _
              refine ev_idivN t_54_62 (by omega) (by omega) (by omega) ?_
              refine es_iald (k := (n) / (16)) a_m377 t_54_63 (by omega) ?_
              refine ev_top (y := (S.1 12 (n / 16))) (by (repeat rw [u2_off (by omega)]); exact e77) ?_
              refine es_iast (k := n) a_m380 t_54_64 (by omega) ?_
              refine ev_aload_n t_54_65 rfl ?_
              refine es_get (x := .ref 381) o_MO t_54_66 rfl ?_
              refine ev_iload t_54_69 rfl ?_
              refine ev_aload_n t_54_71 rfl ?_
              refine es_get (x := .int ((u2 (u2 τ (379) (n) 1) (380) (n) (S.1 12 (n / 16))) (370) 5)) o_MO t_54_72 rfl ?_
              refine ev_top (y := (S.1 17 0)) (by (repeat rw [u2_off (by omega)]); exact e5) ?_
              refine es_iast (k := n) a_m381 t_54_75 (by omega) ?_
              refine ev_aload_n t_54_76 rfl ?_
              refine es_get (x := .ref 382) o_MO t_54_77 rfl ?_
              refine ev_iload t_54_80 rfl ?_
              refine ev_aload_n t_54_82 rfl ?_
              refine es_get (x := .int ((u2 (u2 (u2 τ (379) (n) 1) (380) (n) (S.1 12 (n / 16))) (381) (n) (S.1 17 0)) (370) 5)) o_MO t_54_83 rfl ?_
              refine ev_top (y := (S.1 17 0)) (by (repeat rw [u2_off (by omega)]); exact e5) ?_
              refine es_iast (k := n) a_m382 t_54_86 (by omega) ?_
              refine ev_aload_n t_54_87 rfl ?_
              refine es_get (x := .ref 383) o_MO t_54_88 rfl ?_
              refine ev_iload t_54_91 rfl ?_
              refine ev_iconst t_54_93 ?_
              change Ev _ _ _ _ ([.int (nI (0)), .int (nI (n)), .ref 383]) _ _
              refine es_iast (k := n) a_m383 t_54_94 (by omega) ?_
              refine ev_aload_n t_54_95 rfl ?_
              refine es_get (x := .ref 384) o_MO t_54_96 rfl ?_
              refine ev_iload t_54_99 rfl ?_
              refine ev_iconst t_54_101 ?_
              change Ev _ _ _ _ ([.int (nI (1)), .int (nI (n)), .ref 384]) _ _
              refine es_zast (k := n) (y := 1) a_m384 t_54_102 (by omega) (rfl) ?_
              refine ev_aload_n t_54_103 rfl ?_
              refine es_get (x := .ref 386) o_MO t_54_104 rfl ?_
              refine ev_iload t_54_107 rfl ?_
              refine ev_iconst t_54_109 ?_
              change Ev _ _ _ _ ([.int (nI (0)), .int (nI (n)), .ref 386]) _ _
              refine es_iast (k := n) a_m386 t_54_110 (by omega) ?_
              refine ev_aload_n t_54_111 rfl ?_
              refine ev_dup t_54_112 rfl ?_
              refine es_get (x := .int ((u2 (u2 (u2 (u2 (u2 (u2 (u2 τ (379) (n) 1) (380) (n) (S.1 12 (n / 16))) (381) (n) (S.1 17 0)) (382) (n) (S.1 17 0)) (383) (n) (nI (0))) (384) (n) 1) (386) (n) (nI (0))) (370) 25)) o_MO t_54_113 rfl ?_
              refine ev_top (y := (S.1 8 14)) (by (repeat rw [u2_off (by omega)]); exact e25) ?_
              refine ev_iconst t_54_116 ?_
              change Ev _ _ _ _ ([.int (nI (1)), .int (S.1 8 14), .ref 370]) _ _
              refine ev_iadd t_54_117 ?_
              refine es_put o_MO t_54_118 rfl (Nat.le_of_ble_eq_true rfl) rfl ?_
              refine ev_aload_n t_54_121 rfl ?_
              refine ev_iload t_54_122 rfl ?_
              refine ev_cl (pm_st_V t_54_124 (as := [.ref 370, .int (nI (n))]) (rest := []) (L0 := [some (.ref 370), some (.int (nI (n)))]) rfl rfl (Nat.le_of_ble_eq_true rfl) (Nat.le_of_ble_eq_true rfl) rfl (es_rc o_MO rfl (Nat.le_of_ble_eq_true rfl))) rfl (c51) ?_
              rintro _ _ ⟨rfl, rfl⟩
              change Ev _ _ _ _ ([]) _ _
              refine ev_iincN (L' := [some (.ref 370), some (.int (nI (c))), some (.int (nI (1))), some (.int (nI (i + 1))), some (.int (nI (n)))]) t_54_127 rfl (Nat.le_of_ble_eq_true rfl) rfl ?_
              refine ev_goto t_54_130 ?_
              exact kT (by rw [decide_eq_true (show n = c by omega)]; rfl) _
theorem m54 {c ck : Nat} {S : SP} {τ : Nat → Nat → Int32} (h20 : u.length ≤ 20) (hub : ∀ x ∈ u, x < 96) (hcu : c ∈ u) (hR : RM τ S ck) (hl : ∀ m, m < 96 → (S.2.2 m).length ≤ 24) (hu : MU τ u rf) : Ev (d + 1) 54 0 [some (.ref 370), some (.int (nI c)), none, none, none] [] (sM M τ) (fun q9 M' => ∃ v9, q9 = .inl v9 ∧ v9 = none ∧ ∃ τ', M' = sM M τ' ∧ RM τ' ((u.drop (u.idxOf c)).foldl ci1 S) (ck + (u.drop (u.idxOf c)).length) ∧ MU τ' [] rf ∧ FrI τ τ' ∧ τ' 370 29 = τ 370 29) := by
  have hc := m54l (d := d) (M := M) h20 hub (hub c hcu) u.length 0 false S τ ck none (by omega) hR hl hu
  rw [List.drop_zero, clF_f _ _ hcu, clN_f _ hcu] at hc
  refine ev_iconst t_54_0 ?_
  change Ev _ _ _ _ ([.int (nI (0))]) _ _
  refine ev_istore_n (L' := [some (.ref 370), some (.int (nI (c))), some (.int (nI (0))), none, none]) t_54_1 (Nat.le_of_ble_eq_true rfl) rfl ?_
  refine ev_iconst t_54_2 ?_
  change Ev _ _ _ _ ([.int (nI (0))]) _ _
  refine ev_istore_n (L' := [some (.ref 370), some (.int (nI (c))), some (.int (nI (0))), some (.int (nI (0))), none]) t_54_3 (Nat.le_of_ble_eq_true rfl) rfl ?_
  exact hc
end MH
