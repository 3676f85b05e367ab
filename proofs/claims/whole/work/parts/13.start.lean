/-! From the pure machine to the claim: what is left is a statement of the pure machine alone. -/
def pu_M0 (L : Nat) (xs : Nat → Int32) : pm_M := (0, 0, fun p => if p = 0 then .inl (.int, L, fun j => .int (xs j)) else .inr (1000, []))
/-- THE LAW ON THE PURE MACHINE: on every script of at most 2048 ints it comes to its end with 1, in the claim's room -/
def pu_Law : Prop := ∀ (L : Nat) (xs : Nat → Int32), L ≤ 2048 → ∃ (n d : Nat) (M' : pm_M), d ≤ 800 ∧ pm_ex n d 113 0 [some (.ref 0), none, none, none, none, none, none] [] (pu_M0 L xs) = some (.inl (some (.int 1)), M') ∧ M'.1 ≤ 600000 ∧ M'.2.1 ≤ 7000000
def qs_At (p : Program) (s : State) (m : MethodId) (meth : Method) (c : Code) (b L : Nat) (xs : Nat → Int32) : Prop :=
  p.tables.exec = Jvm.exec ∧ c.code = code ∧ meth.sig.returnType = ret ∧ c.maxLocals = 7 ∧ s.vm.findClass "MemoRuntimeLaw" = some m.cls ∧ (∀ w ∈ lw_tbl, w.before #[Value.ref b] s = true) ∧ va_X b L xs s s.heap ∧ b < s.heap.size ∧ meth.locks = false ∧ (Jvm.Cond.and given_1 narrow_1).before #[Value.ref b] s = true
theorem qs_Y {s : State} {b : Nat} (hts : ∀ w ∈ lw_tbl, w.before #[Value.ref b] s = true) : pk_Y s := by
  intro w hw ho
  have h := hts w hw
  unfold pk_ok at ho
  split at ho
  · exact h
  · exact h
  · exact va_tabs ho rfl h
theorem qs_K {s : State} {b : Nat} (hts : ∀ w ∈ lw_tbl, w.before #[Value.ref b] s = true) : ∃ D : va_G, va_K D vwCl [] s := by
  have h0 : ∀ c : Nat, ∃ q : ClassId × (Nat → Nat), ∀ r : vw_C, vwCl[c]? = some r → u_Kn s r.1 r.2.1 r.2.2 q.1 q.2 := by
    intro c
    cases hr : vwCl[c]? with
    | none => exact ⟨(0, fun _ => 0), fun r h => by cases h⟩
    | some r =>
      have hm : (∀ w ∈ u_ws r.1 r.2.1 r.2.2, w ∈ lw_tbl) ∧ Cond.instantiable r.1 r.2.2 ∈ lw_tbl := by
        obtain ⟨h1, h2⟩ := qk_vc hr
        subst h2
        match c, h1 with
        | 0, _ => exact ⟨ul_0, by decide +kernel⟩
        | 1, _ => exact ⟨ul_1, by decide +kernel⟩
        | 2, _ => exact ⟨ul_2, by decide +kernel⟩
        | 3, _ => exact ⟨ul_3, by decide +kernel⟩
        | 4, _ => exact ⟨ul_4, by decide +kernel⟩
        | 5, _ => exact ⟨ul_5, by decide +kernel⟩
        | 6, _ => exact ⟨ul_6, by decide +kernel⟩
        | 7, _ => exact ⟨ul_7, by decide +kernel⟩
        | n + 8, h => omega
      obtain ⟨cC, iS, h⟩ := u_known hts hm.1 (hts _ hm.2)
      exact ⟨(cC, iS), fun r' h' => by cases h'; exact h⟩
  obtain ⟨f, hf⟩ := Classical.axiomOfChoice h0
  exact ⟨(fun c => (f c).1, fun c => (f c).2), fun c q hq => hf c q hq, fun k q hk => by simp at hk⟩
theorem qs_Z {s : State} {b : Nat} (hts : ∀ w ∈ lw_tbl, w.before #[Value.ref b] s = true) (hgv : (Jvm.Cond.and given_1 narrow_1).before #[Value.ref b] s = true) (hb : b < s.heap.size) : ∃ B : Nat → Nat, B 0 = b ∧ pk_Z s B ∧ pw_B s B := by
  have hs := flat_of_before _ hgv
  have hY := qs_Y hts
  have ex : ∀ n, (Cond.exactly (.static "MemoRuntime$Outcome" n "LMemoRuntime$Outcome;") "MemoRuntime$Outcome").before #[Value.ref b] s = true → (Cond.laysStatic "MemoRuntime$Outcome" n "LMemoRuntime$Outcome;") ∈ lw_tbl → ∃ t, (Term.static "MemoRuntime$Outcome" n "LMemoRuntime$Outcome;").eval #[Value.ref b] s none [] s = some (.ref t) ∧ t < s.heap.size ∧ va_Z "MemoRuntime$Outcome" n "LMemoRuntime$Outcome;" (.ref t) (fun q => s.heap.size ≤ q) s s.heap := by
    intro n h1 h2
    obtain ⟨a, c, cell, k, q1, q2, q3, q4, q5, q6, -⟩ := Cond.exactly_spec h1
    exact ⟨a, q1, (Array.getElem?_eq_some_iff.mp q3).1, va_Zof (hts _ h2) (hts (.initialized "MemoRuntime$Outcome") (by decide +kernel)) q1 (fun a ha => Nat.not_le.mpr ha)⟩
  obtain ⟨t1, e1, l1, z1⟩ := ex "ANSWERED" (hs _ (by decide +kernel)) (by decide +kernel)
  obtain ⟨t2, e2, l2, z2⟩ := ex "STALE" (hs _ (by decide +kernel)) (by decide +kernel)
  obtain ⟨t3, e3, l3, z3⟩ := ex "CIRCLE" (hs _ (by decide +kernel)) (by decide +kernel)
  obtain ⟨t4, e4, l4, z4⟩ := ex "GIVEN_UP" (hs _ (by decide +kernel)) (by decide +kernel)
  have n31 : t3 ≠ t1 := va_neR (hs _ (by decide +kernel)) e3 e1
  have n34 : t3 ≠ t4 := va_neR (hs _ (by decide +kernel)) e3 e4
  have n14 : t1 ≠ t4 := va_neR (hs _ (by decide +kernel)) e1 e4
  have n32 : t3 ≠ t2 := va_neR (hs _ (by decide +kernel)) e3 e2
  have n12 : t1 ≠ t2 := va_neR (hs _ (by decide +kernel)) e1 e2
  have n42 : t4 ≠ t2 := va_neR (hs _ (by decide +kernel)) e4 e2
  obtain ⟨cM, kM, hcM, -⟩ := Cond.instantiable_spec (hts (.instantiable "MemoRuntime" 15) (by decide +kernel))
  have str : ∀ (k : Nat) (tx : String), Cond.stringRef "MemoRuntime" k tx ∈ lw_tbl → ∃ sa, vk_R "MemoRuntime" k tx sa s := by
    intro k tx h
    obtain ⟨_, _, _, sa, -, -, -, -, -, hev⟩ := Cond.stringRef_spec hcM (hts _ h)
    exact ⟨sa, vk_R.of (hts _ h) hev⟩
  refine ⟨fun p => if p = 1 then t1 else if p = 2 then t2 else if p = 3 then t3 else if p = 4 then t4 else b, rfl, ⟨hY, ?_, ?_, ⟨#[Value.ref b], hs _ (by decide +kernel), hs _ (by decide +kernel), hts _ (by decide +kernel), hts _ (by decide +kernel), hts _ (by decide +kernel)⟩, ?_, ?_⟩, ?_, ?_⟩
  · intro p h1 h2
    rcases (show p = 1 ∨ p = 2 ∨ p = 3 ∨ p = 4 by omega) with rfl | rfl | rfl | rfl
    · exact z1
    · exact z2
    · exact z3
    · exact z4
  · refine List.forall_mem_cons.mpr ⟨str _ _ (by decide +kernel), List.forall_mem_cons.mpr ⟨str _ _ (by decide +kernel), List.forall_mem_cons.mpr ⟨str _ _ (by decide +kernel), List.forall_mem_cons.mpr ⟨str _ _ (by decide +kernel), fun _ h => absurd h List.not_mem_nil⟩⟩⟩⟩
  · exact hs (.not (.castable "java/lang/IllegalStateException" "java/lang/IllegalArgumentException")) (by decide +kernel)
  · exact hs (.not (.castable "java/util/NoSuchElementException" "java/lang/IllegalArgumentException")) (by decide +kernel)
  · intro p hp
    dsimp only
    split
    · exact l1
    · split
      · exact l2
      · split
        · exact l3
        · split
          · exact l4
          · exact hb
  · intro p q h1 h2 h3 h4 h
    rcases (show p = 1 ∨ p = 2 ∨ p = 3 ∨ p = 4 by omega) with rfl | rfl | rfl | rfl <;> rcases (show q = 1 ∨ q = 2 ∨ q = 3 ∨ q = 4 by omega) with rfl | rfl | rfl | rfl <;> simp at h <;> first | rfl | (exfalso; first | exact n12 h | exact n12 h.symm | exact n31 h | exact n31 h.symm | exact n14 h | exact n14 h.symm | exact n32 h | exact n32 h.symm | exact n34 h | exact n34 h.symm | exact n42 h | exact n42 h.symm)
set_option maxHeartbeats 4000000 in
/-- the law's walk, out of the pure law -/
theorem qs_start (hpu : pu_Law) {p : Program} {e : Env} {s : State} {m : MethodId} {below : List Frame} {meth : Method} {c : Code} (l : Launch) (hfl : l.flags = flags0) (hne : c.exceptionTable.isEmpty = true) (hnm : meth.name = "law") {b L : Nat} {xs : Nat → Int32} (hL : L ≤ 2048) (C0 : qs_At p s m meth c b L xs) {Q : State → Prop} (hQ : ∀ t, (∃ o, t.status = .running ∧ Ended t below o ∧ o = .returned (some (.int 1)) ∧ s.WarmedH t.vm ∧ s.sameButNew ({ t with vm := s.vm } : State) [] room_1.cells room_1.slots) → Q t) : W p l e room_1 s m #[Value.ref b] below meth c s.heap [] 0 0 Q (entryFrame m ([Value.ref b] : List Value).toArray 7) := by
  obtain ⟨hx, hb, hr, hml, hown, hts, hX, hbl, hlk, hgv⟩ := C0
  obtain ⟨D, hK⟩ := qs_K hts
  obtain ⟨B, hB0, hZ, hB⟩ := qs_Z hts hgv hbl
  obtain ⟨n, d, M', hd, hex, hm1, hm2⟩ := hpu L xs hL
  have had0 : pw_ad s B 0 = b := by unfold pw_ad; rw [if_pos (by omega), hB0]
  have hW : pw_W s D (pw_ad s B) s.heap (pu_M0 L xs) := by
    refine ⟨rfl, fun _ _ => rfl, fun p => ?_⟩
    show pw_at s D (pw_ad s B) s.heap p (if p = 0 then _ else _)
    by_cases hp : p = 0
    · subst hp
      rw [if_pos rfl]
      obtain ⟨scr, h1, h2, h3, h4, h5⟩ := hX
      exact ⟨scr, by rw [had0]; exact h1, h2, h3, h4, fun j hj => h5 j hj, fun C hC => by cases hC⟩
    · rw [if_neg hp]
      intro r hr9
      exfalso
      have : vwCl.length ≤ 1000 := by decide
      have := (List.getElem?_eq_some_iff.mp hr9).1
      omega
  have hC : pw_C s 113 p s m meth c := by
    refine ⟨hx, hb, hml, hown, hr, hlk, hnm, ?_, State.WarmedH.refl s⟩
    have : c.exceptionTable.toList = [] := by
      have h9 := Array.isEmpty_iff.mp hne
      rw [h9]
    rw [this]
    rfl
  obtain ⟨e1, e2⟩ := pw_ent (ad := pw_ad s B) (j := 113) (as := [.ref 0]) (L := [some (.ref 0), none, none, none, none, none, none]) (by decide +kernel)
  have c1 : 600000 ≤ room_1.cells := by decide
  have c2 : 7000000 ≤ room_1.slots := by decide
  have w := pw_sound (s0 := s) (D := D) (B := B) (l := l) (by rw [hfl]; rfl) (pk_G_ok hZ hB hK) (pk_T_ok hZ) n d 113 0 _ [] (pu_M0 L xs) _ M' hex (p := p) (e := e) (R := room_1) (args := #[Value.ref b]) (below := below) (locs := []) (m0 := 0) (k0 := 0) hC e1 e2 hW (fun y hy => by cases hy) (Nat.zero_le _) (Nat.zero_le _) (by show M'.1 - 0 ≤ room_1.cells; omega) (by show M'.2.1 - 0 ≤ room_1.slots; omega) (by show d + 8 ≤ 2048; omega) (by show 100 * d + 200 ≤ 84000; omega)
  rw [lg_entry_eq]
  have hv : ([.ref 0] : List Value).map (pw_tr (pw_ad s B)) = [.ref b] := by
    show [Value.ref (pw_ad s B 0)] = _
    rw [had0]
  rw [hv] at w
  refine pw_mono (fun t ht => hQ t ?_) w
  obtain ⟨o, Lc, h1, h2, h3, h4, h5, -, h7⟩ := ht
  exact ⟨o, h1, h2, h7, h3, h4.weaken (fun y hy hlt => absurd hlt (Nat.not_lt.mpr (h5 y hy))) (by omega) (by omega)⟩
