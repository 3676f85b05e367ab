/-! Rows of the pure machine: from a frame's place to what its method comes to. -/
def Ev (d i pc : Nat) (L : pm_L) (st : List Value) (M : pm_M) (Q : pm_R → pm_M → Prop) : Prop := ∃ (n : Nat) (r : pm_R) (M' : pm_M), pm_ex n d i pc L st M = some (r, M') ∧ Q r M'
theorem pm_ex_more : ∀ (n d i pc : Nat) (L : pm_L) (st : List Value) (M : pm_M) (x : pm_R × pm_M), pm_ex n d i pc L st M = some x → ∀ m, n ≤ m → pm_ex m d i pc L st M = some x := by
  intro n
  induction n with
  | zero => intro d i pc L st M x h; cases h
  | succ n ih =>
    intro d i pc L st M x h m hm
    obtain ⟨m, rfl⟩ : ∃ k, m = k + 1 := ⟨m - 1, by omega⟩
    rw [pm_ex] at h ⊢
    cases hs : pm_st i pc L st M with
    | none => rw [hs] at h; cases h
    | some S =>
      rw [hs] at h
      rcases S with F | ⟨j, as, rest⟩ | r
      · exact ih _ _ _ _ _ _ _ h m (by omega)
      · dsimp only at h ⊢
        cases d with
        | zero => cases h
        | succ d =>
          dsimp only at h ⊢
          cases hc : pm_ex n d j 0 ((pm_en j as).getD []) [] M with
          | none => rw [hc] at h; cases h
          | some q =>
            rw [ih _ _ _ _ _ _ _ hc m (by omega)]
            rw [hc] at h
            obtain ⟨v | x9, M'⟩ := q
            · exact ih _ _ _ _ _ _ _ h m (by omega)
            · dsimp only at h ⊢
              split at h
              · cases h
              · exact h
              · exact ih _ _ _ _ _ _ _ h m (by omega)
      · exact h
section EV
variable {d i pc : Nat} {L : pm_L} {st : List Value} {M : pm_M} {Q : pm_R → pm_M → Prop} {a b : Nat} {v : Int32} {ts : List Nat}
theorem ev_st {F : pm_F} (hs : pm_st i pc L st M = some (.inl F)) (k : Ev d i F.1 F.2.1 F.2.2.1 F.2.2.2 Q) : Ev d i pc L st M Q := by
  obtain ⟨n, r, M', h, hq⟩ := k
  exact ⟨n + 1, r, M', by rw [pm_ex, hs]; exact h, hq⟩
theorem ev_end {r : pm_R} {M' : pm_M} (hs : pm_st i pc L st M = some (.inr (.inr (r, M')))) (h : Q r M') : Ev d i pc L st M Q := ⟨1, r, M', by rw [pm_ex, hs], h⟩
theorem ev_mono {Q' : pm_R → pm_M → Prop} (k : Ev d i pc L st M Q) (h : ∀ r M', Q r M' → Q' r M') : Ev d i pc L st M Q' := by
  obtain ⟨n, r, M', h1, h2⟩ := k
  exact ⟨n, r, M', h1, h r M' h2⟩
/-- a call: what the callee comes to, and what comes behind -/
theorem ev_call {j : Nat} {as rest : List Value} {L0 : pm_L} {P : pm_R → pm_M → Prop} (hs : pm_st i pc L st M = some (.inr (.inl (j, as, rest)))) (hL : pm_en j as = some L0) (hc : Ev d j 0 L0 [] M P) (kk : ∀ r M', P r M' → match r with
    | .inl v => Ev (d + 1) i (pc + 3) L (v.toList ++ rest) M' Q
    | .inr x => match tb_hn i pc x with
      | none => False
      | some none => Q (.inr x) M'
      | some (some h) => Ev (d + 1) i h L [.ref (7 + M'.1)] M' Q) : Ev (d + 1) i pc L st M Q := by
  obtain ⟨n, r, M', h1, h2⟩ := hc
  have h3 := kk r M' h2
  cases r with
  | inl v =>
    obtain ⟨n2, r2, M2, h4, h5⟩ := h3
    refine ⟨n + n2 + 1, r2, M2, ?_, h5⟩
    rw [pm_ex, hs]
    dsimp only
    rw [hL, Option.getD_some, pm_ex_more _ _ _ _ _ _ _ _ h1 (n + n2) (by omega)]
    exact pm_ex_more _ _ _ _ _ _ _ _ h4 _ (by omega)
  | inr x =>
    dsimp only at h3
    split at h3
    · cases h3
    · rename_i ht
      refine ⟨n + 1, .inr x, M', ?_, h3⟩
      rw [pm_ex, hs]
      dsimp only
      rw [hL, Option.getD_some, h1]
      dsimp only
      rw [ht]
    · rename_i h9 ht
      obtain ⟨n2, r2, M2, h4, h5⟩ := h3
      refine ⟨n + n2 + 1, r2, M2, ?_, h5⟩
      rw [pm_ex, hs]
      dsimp only
      rw [hL, Option.getD_some, pm_ex_more _ _ _ _ _ _ _ _ h1 (n + n2) (by omega)]
      dsimp only
      rw [ht]
      exact pm_ex_more _ _ _ _ _ _ _ _ h4 _ (by omega)
/-- a call that returns -/
theorem ev_cl {j : Nat} {as rest : List Value} {L0 : pm_L} {P : Option Value → pm_M → Prop} (hs : pm_st i pc L st M = some (.inr (.inl (j, as, rest)))) (hL : pm_en j as = some L0) (hc : Ev d j 0 L0 [] M (fun r M' => ∃ v, r = .inl v ∧ P v M')) (kk : ∀ v M', P v M' → Ev (d + 1) i (pc + 3) L (v.toList ++ rest) M' Q) : Ev (d + 1) i pc L st M Q :=
  ev_call hs hL hc (fun r M' h => by obtain ⟨v, rfl, h2⟩ := h; exact kk v M' h2)
def pm_sp : Instr → Bool
  | .ireturn => true
  | .areturn => true
  | .return_ => true
  | .new _ => true
  | .invokevirtual _ => true
  | .invokestatic _ => true
  | .invokespecial _ => true
  | _ => false
theorem pm_st_nx {ins : Instr} (ht : tb_in i pc = some (ins, a, b, v, ts)) (hs : pm_sp ins = false) : pm_st i pc L st M = (pm_nx ins a b v ts pc L st M).map .inl := by
  unfold pm_st
  rw [ht]
  cases ins <;> first | rfl | (cases hs)
theorem ev_n {ins : Instr} {F : pm_F} (ht : tb_in i pc = some (ins, a, b, v, ts)) (hs : pm_sp ins = false) (h : pm_nx ins a b v ts pc L st M = some F) (k : Ev d i F.1 F.2.1 F.2.2.1 F.2.2.2 Q) : Ev d i pc L st M Q :=
  ev_st (F := F) (by rw [pm_st_nx ht hs, h]; rfl) k
theorem ev_iconst {n : Int} (ht : tb_in i pc = some (.iconst n, a, b, v, ts))  (kk : Ev d i (pc + 1) L (.int v :: st) M Q) : Ev d i pc L (st) M Q := ev_n (F := (pc + 1, L, (.int v :: st), M)) ht rfl (rfl) kk
theorem ev_bipush {n : Int} (ht : tb_in i pc = some (.bipush n, a, b, v, ts))  (kk : Ev d i (pc + 2) L (.int v :: st) M Q) : Ev d i pc L (st) M Q := ev_n (F := (pc + 2, L, (.int v :: st), M)) ht rfl (rfl) kk
theorem ev_sipush {n : Int} (ht : tb_in i pc = some (.sipush n, a, b, v, ts))  (kk : Ev d i (pc + 3) L (.int v :: st) M Q) : Ev d i pc L (st) M Q := ev_n (F := (pc + 3, L, (.int v :: st), M)) ht rfl (rfl) kk
theorem ev_lconst {n : Fin 2} (ht : tb_in i pc = some (.lconst n, a, b, v, ts))  (kk : Ev d i (pc + 1) L (.long (Int64.ofNat (n : Nat)) :: st) M Q) : Ev d i pc L (st) M Q := ev_n (F := (pc + 1, L, (.long (Int64.ofNat (n : Nat)) :: st), M)) ht rfl (rfl) kk
theorem ev_ldc2 {n : Nat} (ht : tb_in i pc = some (.ldc2_w n, a, b, v, ts))  (kk : Ev d i (pc + 3) L (.long (Int64.ofNat a) :: st) M Q) : Ev d i pc L (st) M Q := ev_n (F := (pc + 3, L, (.long (Int64.ofNat a) :: st), M)) ht rfl (rfl) kk
theorem ev_iload_n {k : Fin 4} {x : Int32} (ht : tb_in i pc = some (.iload_n k, a, b, v, ts)) (hL : pm_get L k = some (.int x)) (kk : Ev d i (pc + 1) L (.int x :: st) M Q) : Ev d i pc L (st) M Q := ev_n (F := (pc + 1, L, (.int x :: st), M)) ht rfl (by simp [pm_nx, pm_ld, hL, pm_isI]) kk
theorem ev_iload {k : Nat} {x : Int32} (ht : tb_in i pc = some (.iload k, a, b, v, ts)) (hL : pm_get L k = some (.int x)) (kk : Ev d i (pc + 2) L (.int x :: st) M Q) : Ev d i pc L (st) M Q := ev_n (F := (pc + 2, L, (.int x :: st), M)) ht rfl (by simp [pm_nx, pm_ld, hL, pm_isI]) kk
theorem ev_lload_n {k : Fin 4} {x : Int64} (ht : tb_in i pc = some (.lload_n k, a, b, v, ts)) (hL : pm_get L k = some (.long x)) (kk : Ev d i (pc + 1) L (.long x :: st) M Q) : Ev d i pc L (st) M Q := ev_n (F := (pc + 1, L, (.long x :: st), M)) ht rfl (by simp [pm_nx, pm_ld, hL, pm_isJ]) kk
theorem ev_aload_n {k : Fin 4} {x : Nat} (ht : tb_in i pc = some (.aload_n k, a, b, v, ts)) (hL : pm_get L k = some (.ref x)) (kk : Ev d i (pc + 1) L (.ref x :: st) M Q) : Ev d i pc L (st) M Q := ev_n (F := (pc + 1, L, (.ref x :: st), M)) ht rfl (by simp [pm_nx, pm_ld, hL, pm_isA]) kk
theorem ev_aload {k : Nat} {x : Nat} (ht : tb_in i pc = some (.aload k, a, b, v, ts)) (hL : pm_get L k = some (.ref x)) (kk : Ev d i (pc + 2) L (.ref x :: st) M Q) : Ev d i pc L (st) M Q := ev_n (F := (pc + 2, L, (.ref x :: st), M)) ht rfl (by simp [pm_nx, pm_ld, hL, pm_isA]) kk
theorem ev_istore_n {k : Fin 4} {x : Int32} {L' : pm_L} (ht : tb_in i pc = some (.istore_n k, a, b, v, ts)) (hk : (k : Nat) < L.length) (hL : pm_set L k (.int x) = L') (kk : Ev d i (pc + 1) L' st M Q) : Ev d i pc L (.int x :: st) M Q := ev_n (F := (pc + 1, L', st, M)) ht rfl (by subst hL; simp [pm_nx, pm_v1, hk, pm_isI]) kk
theorem ev_istore {k : Nat} {x : Int32} {L' : pm_L} (ht : tb_in i pc = some (.istore k, a, b, v, ts)) (hk : (k : Nat) < L.length) (hL : pm_set L k (.int x) = L') (kk : Ev d i (pc + 2) L' st M Q) : Ev d i pc L (.int x :: st) M Q := ev_n (F := (pc + 2, L', st, M)) ht rfl (by subst hL; simp [pm_nx, pm_v1, hk, pm_isI]) kk
theorem ev_astore_n {k : Fin 4} {x : Nat} {L' : pm_L} (ht : tb_in i pc = some (.astore_n k, a, b, v, ts)) (hk : (k : Nat) < L.length) (hL : pm_set L k (.ref x) = L') (kk : Ev d i (pc + 1) L' st M Q) : Ev d i pc L (.ref x :: st) M Q := ev_n (F := (pc + 1, L', st, M)) ht rfl (by subst hL; simp [pm_nx, pm_v1, hk, pm_isA]) kk
theorem ev_astore {k : Nat} {x : Nat} {L' : pm_L} (ht : tb_in i pc = some (.astore k, a, b, v, ts)) (hk : (k : Nat) < L.length) (hL : pm_set L k (.ref x) = L') (kk : Ev d i (pc + 2) L' st M Q) : Ev d i pc L (.ref x :: st) M Q := ev_n (F := (pc + 2, L', st, M)) ht rfl (by subst hL; simp [pm_nx, pm_v1, hk, pm_isA]) kk
theorem ev_iinc {k : Nat} {n : Int} {x : Int32} {L' : pm_L} (ht : tb_in i pc = some (.iinc k n, a, b, v, ts)) (hx : pm_get L k = some (.int x)) (hk : k < L.length) (hL : pm_set L k (.int (x + v)) = L') (kk : Ev d i (pc + 3) L' st M Q) : Ev d i pc L (st) M Q := ev_n (F := (pc + 3, L', st, M)) ht rfl (by subst hL; simp [pm_nx, pm_ld, hx, hk]) kk
theorem ev_iadd {x y : Int32} (ht : tb_in i pc = some (.iadd, a, b, v, ts))  (kk : Ev d i (pc + 1) L (.int (x + y) :: st) M Q) : Ev d i pc L (.int y :: .int x :: st) M Q := ev_n (F := (pc + 1, L, (.int (x + y) :: st), M)) ht rfl (rfl) kk
theorem ev_isub {x y : Int32} (ht : tb_in i pc = some (.isub, a, b, v, ts))  (kk : Ev d i (pc + 1) L (.int (x - y) :: st) M Q) : Ev d i pc L (.int y :: .int x :: st) M Q := ev_n (F := (pc + 1, L, (.int (x - y) :: st), M)) ht rfl (rfl) kk
theorem ev_imul {x y : Int32} (ht : tb_in i pc = some (.imul, a, b, v, ts))  (kk : Ev d i (pc + 1) L (.int (x * y) :: st) M Q) : Ev d i pc L (.int y :: .int x :: st) M Q := ev_n (F := (pc + 1, L, (.int (x * y) :: st), M)) ht rfl (rfl) kk
theorem ev_iand {x y : Int32} (ht : tb_in i pc = some (.iand, a, b, v, ts))  (kk : Ev d i (pc + 1) L (.int (x &&& y) :: st) M Q) : Ev d i pc L (.int y :: .int x :: st) M Q := ev_n (F := (pc + 1, L, (.int (x &&& y) :: st), M)) ht rfl (rfl) kk
theorem ev_idiv {x y : Int32} (ht : tb_in i pc = some (.idiv, a, b, v, ts)) (hy : ¬ y = 0) (kk : Ev d i (pc + 1) L (.int (x / y) :: st) M Q) : Ev d i pc L (.int y :: .int x :: st) M Q := ev_n (F := (pc + 1, L, (.int (x / y) :: st), M)) ht rfl (by simp [pm_nx, pm_i2, hy]) kk
theorem ev_irem {x y : Int32} (ht : tb_in i pc = some (.irem, a, b, v, ts)) (hy : ¬ y = 0) (kk : Ev d i (pc + 1) L (.int (x - x / y * y) :: st) M Q) : Ev d i pc L (.int y :: .int x :: st) M Q := ev_n (F := (pc + 1, L, (.int (x - x / y * y) :: st), M)) ht rfl (by simp [pm_nx, pm_i2, hy]) kk
theorem ev_i2l {x : Int32} (ht : tb_in i pc = some (.i2l, a, b, v, ts))  (kk : Ev d i (pc + 1) L (.long x.toInt64 :: st) M Q) : Ev d i pc L (.int x :: st) M Q := ev_n (F := (pc + 1, L, (.long x.toInt64 :: st), M)) ht rfl (rfl) kk
theorem ev_i2c {x : Int32} (ht : tb_in i pc = some (.i2c, a, b, v, ts))  (kk : Ev d i (pc + 1) L (.int (x.toUInt32 % 65536).toInt32 :: st) M Q) : Ev d i pc L (.int x :: st) M Q := ev_n (F := (pc + 1, L, (.int (x.toUInt32 % 65536).toInt32 :: st), M)) ht rfl (rfl) kk
theorem ev_l2i {x : Int64} (ht : tb_in i pc = some (.l2i, a, b, v, ts))  (kk : Ev d i (pc + 1) L (.int x.toInt32 :: st) M Q) : Ev d i pc L (.long x :: st) M Q := ev_n (F := (pc + 1, L, (.int x.toInt32 :: st), M)) ht rfl (rfl) kk
theorem ev_lcmp {x y : Int64} (ht : tb_in i pc = some (.lcmp, a, b, v, ts))  (kk : Ev d i (pc + 1) L (.int (lg_cmp x y) :: st) M Q) : Ev d i pc L (.long y :: .long x :: st) M Q := ev_n (F := (pc + 1, L, (.int (lg_cmp x y) :: st), M)) ht rfl (rfl) kk
theorem ev_land {x y : Int64} (ht : tb_in i pc = some (.land, a, b, v, ts))  (kk : Ev d i (pc + 1) L (.long (x &&& y) :: st) M Q) : Ev d i pc L (.long y :: .long x :: st) M Q := ev_n (F := (pc + 1, L, (.long (x &&& y) :: st), M)) ht rfl (rfl) kk
theorem ev_lor {x y : Int64} (ht : tb_in i pc = some (.lor, a, b, v, ts))  (kk : Ev d i (pc + 1) L (.long (x ||| y) :: st) M Q) : Ev d i pc L (.long y :: .long x :: st) M Q := ev_n (F := (pc + 1, L, (.long (x ||| y) :: st), M)) ht rfl (rfl) kk
theorem ev_lshl {x : Int64} {y : Int32} (ht : tb_in i pc = some (.lshl, a, b, v, ts))  (kk : Ev d i (pc + 1) L (.long (x <<< (y.toInt64 &&& 63)) :: st) M Q) : Ev d i pc L (.int y :: .long x :: st) M Q := ev_n (F := (pc + 1, L, (.long (x <<< (y.toInt64 &&& 63)) :: st), M)) ht rfl (rfl) kk
theorem ev_lshr {x : Int64} {y : Int32} (ht : tb_in i pc = some (.lshr, a, b, v, ts))  (kk : Ev d i (pc + 1) L (.long (x >>> (y.toInt64 &&& 63)) :: st) M Q) : Ev d i pc L (.int y :: .long x :: st) M Q := ev_n (F := (pc + 1, L, (.long (x >>> (y.toInt64 &&& 63)) :: st), M)) ht rfl (rfl) kk
theorem ev_lushr {x : Int64} {y : Int32} (ht : tb_in i pc = some (.lushr, a, b, v, ts))  (kk : Ev d i (pc + 1) L (.long ((x.toUInt64 >>> (y.toInt64.toUInt64 &&& Int64.toUInt64 63)).toInt64) :: st) M Q) : Ev d i pc L (.int y :: .long x :: st) M Q := ev_n (F := (pc + 1, L, (.long ((x.toUInt64 >>> (y.toInt64.toUInt64 &&& Int64.toUInt64 63)).toInt64) :: st), M)) ht rfl (rfl) kk
theorem ev_dup {x : Value} (ht : tb_in i pc = some (.dup, a, b, v, ts)) (hx : x.category = 1) (kk : Ev d i (pc + 1) L (x :: x :: st) M Q) : Ev d i pc L (x :: st) M Q := ev_n (F := (pc + 1, L, (x :: x :: st), M)) ht rfl (by simp [pm_nx, pm_v1, hx]) kk
theorem ev_pop {x : Value} (ht : tb_in i pc = some (.pop, a, b, v, ts)) (hx : x.category = 1) (kk : Ev d i (pc + 1) L st M Q) : Ev d i pc L (x :: st) M Q := ev_n (F := (pc + 1, L, st, M)) ht rfl (by simp [pm_nx, pm_v1, hx]) kk
theorem ev_goto {n : Int} (ht : tb_in i pc = some (.goto n, a, b, v, ts))  (kk : Ev d i a L st M Q) : Ev d i pc L (st) M Q := ev_n (F := (a, L, st, M)) ht rfl (rfl) kk
theorem ev_if_eq {n : Int} {x y : Int32} (ht : tb_in i pc = some (.ifCond .eq n, a, b, v, ts)) (kt : x = 0 → Ev d i a L st M Q) (kf : ¬ (x = 0) → Ev d i (pc + 3) L st M Q) : Ev d i pc L (.int x :: st) M Q := by
  by_cases h : x = 0
  · exact ev_n (F := (a, L, st, M)) ht rfl (by simp [pm_nx, pm_i1, h]) (kt h)
  · exact ev_n (F := (pc + 3, L, st, M)) ht rfl (by simp [pm_nx, pm_i1, h]) (kf h)
theorem ev_if_ne {n : Int} {x y : Int32} (ht : tb_in i pc = some (.ifCond .ne n, a, b, v, ts)) (kt : ¬ x = 0 → Ev d i a L st M Q) (kf : ¬ (¬ x = 0) → Ev d i (pc + 3) L st M Q) : Ev d i pc L (.int x :: st) M Q := by
  by_cases h : ¬ x = 0
  · exact ev_n (F := (a, L, st, M)) ht rfl (by simp [pm_nx, pm_i1, h]) (kt h)
  · exact ev_n (F := (pc + 3, L, st, M)) ht rfl (by simp only [pm_nx, pm_i1]; rw [if_pos (Classical.not_not.mp h)]) (kf h)
theorem ev_if_lt {n : Int} {x y : Int32} (ht : tb_in i pc = some (.ifCond .lt n, a, b, v, ts)) (kt : x < 0 → Ev d i a L st M Q) (kf : ¬ (x < 0) → Ev d i (pc + 3) L st M Q) : Ev d i pc L (.int x :: st) M Q := by
  by_cases h : x < 0
  · exact ev_n (F := (a, L, st, M)) ht rfl (by simp [pm_nx, pm_i1, h]) (kt h)
  · exact ev_n (F := (pc + 3, L, st, M)) ht rfl (by simp [pm_nx, pm_i1, h]) (kf h)
theorem ev_if_ge {n : Int} {x y : Int32} (ht : tb_in i pc = some (.ifCond .ge n, a, b, v, ts)) (kt : 0 ≤ x → Ev d i a L st M Q) (kf : ¬ (0 ≤ x) → Ev d i (pc + 3) L st M Q) : Ev d i pc L (.int x :: st) M Q := by
  by_cases h : 0 ≤ x
  · exact ev_n (F := (a, L, st, M)) ht rfl (by simp [pm_nx, pm_i1, h]) (kt h)
  · exact ev_n (F := (pc + 3, L, st, M)) ht rfl (by simp [pm_nx, pm_i1, h]) (kf h)
theorem ev_if_gt {n : Int} {x y : Int32} (ht : tb_in i pc = some (.ifCond .gt n, a, b, v, ts)) (kt : 0 < x → Ev d i a L st M Q) (kf : ¬ (0 < x) → Ev d i (pc + 3) L st M Q) : Ev d i pc L (.int x :: st) M Q := by
  by_cases h : 0 < x
  · exact ev_n (F := (a, L, st, M)) ht rfl (by simp [pm_nx, pm_i1, h]) (kt h)
  · exact ev_n (F := (pc + 3, L, st, M)) ht rfl (by simp [pm_nx, pm_i1, h]) (kf h)
theorem ev_if_le {n : Int} {x y : Int32} (ht : tb_in i pc = some (.ifCond .le n, a, b, v, ts)) (kt : x ≤ 0 → Ev d i a L st M Q) (kf : ¬ (x ≤ 0) → Ev d i (pc + 3) L st M Q) : Ev d i pc L (.int x :: st) M Q := by
  by_cases h : x ≤ 0
  · exact ev_n (F := (a, L, st, M)) ht rfl (by simp [pm_nx, pm_i1, h]) (kt h)
  · exact ev_n (F := (pc + 3, L, st, M)) ht rfl (by simp [pm_nx, pm_i1, h]) (kf h)
theorem ev_icmp_eq {n : Int} {x y : Int32} (ht : tb_in i pc = some (.if_icmp .eq n, a, b, v, ts)) (kt : x = y → Ev d i a L st M Q) (kf : ¬ (x = y) → Ev d i (pc + 3) L st M Q) : Ev d i pc L (.int y :: .int x :: st) M Q := by
  by_cases h : x = y
  · exact ev_n (F := (a, L, st, M)) ht rfl (by simp [pm_nx, pm_i2, h]) (kt h)
  · exact ev_n (F := (pc + 3, L, st, M)) ht rfl (by simp [pm_nx, pm_i2, h]) (kf h)
theorem ev_icmp_ne {n : Int} {x y : Int32} (ht : tb_in i pc = some (.if_icmp .ne n, a, b, v, ts)) (kt : ¬ x = y → Ev d i a L st M Q) (kf : ¬ (¬ x = y) → Ev d i (pc + 3) L st M Q) : Ev d i pc L (.int y :: .int x :: st) M Q := by
  by_cases h : ¬ x = y
  · exact ev_n (F := (a, L, st, M)) ht rfl (by simp [pm_nx, pm_i2, h]) (kt h)
  · exact ev_n (F := (pc + 3, L, st, M)) ht rfl (by simp only [pm_nx, pm_i2]; rw [if_pos (Classical.not_not.mp h)]) (kf h)
theorem ev_icmp_lt {n : Int} {x y : Int32} (ht : tb_in i pc = some (.if_icmp .lt n, a, b, v, ts)) (kt : x < y → Ev d i a L st M Q) (kf : ¬ (x < y) → Ev d i (pc + 3) L st M Q) : Ev d i pc L (.int y :: .int x :: st) M Q := by
  by_cases h : x < y
  · exact ev_n (F := (a, L, st, M)) ht rfl (by simp [pm_nx, pm_i2, h]) (kt h)
  · exact ev_n (F := (pc + 3, L, st, M)) ht rfl (by simp [pm_nx, pm_i2, h]) (kf h)
theorem ev_icmp_ge {n : Int} {x y : Int32} (ht : tb_in i pc = some (.if_icmp .ge n, a, b, v, ts)) (kt : y ≤ x → Ev d i a L st M Q) (kf : ¬ (y ≤ x) → Ev d i (pc + 3) L st M Q) : Ev d i pc L (.int y :: .int x :: st) M Q := by
  by_cases h : y ≤ x
  · exact ev_n (F := (a, L, st, M)) ht rfl (by simp [pm_nx, pm_i2, h]) (kt h)
  · exact ev_n (F := (pc + 3, L, st, M)) ht rfl (by simp [pm_nx, pm_i2, h]) (kf h)
theorem ev_icmp_gt {n : Int} {x y : Int32} (ht : tb_in i pc = some (.if_icmp .gt n, a, b, v, ts)) (kt : y < x → Ev d i a L st M Q) (kf : ¬ (y < x) → Ev d i (pc + 3) L st M Q) : Ev d i pc L (.int y :: .int x :: st) M Q := by
  by_cases h : y < x
  · exact ev_n (F := (a, L, st, M)) ht rfl (by simp [pm_nx, pm_i2, h]) (kt h)
  · exact ev_n (F := (pc + 3, L, st, M)) ht rfl (by simp [pm_nx, pm_i2, h]) (kf h)
theorem ev_icmp_le {n : Int} {x y : Int32} (ht : tb_in i pc = some (.if_icmp .le n, a, b, v, ts)) (kt : x ≤ y → Ev d i a L st M Q) (kf : ¬ (x ≤ y) → Ev d i (pc + 3) L st M Q) : Ev d i pc L (.int y :: .int x :: st) M Q := by
  by_cases h : x ≤ y
  · exact ev_n (F := (a, L, st, M)) ht rfl (by simp [pm_nx, pm_i2, h]) (kt h)
  · exact ev_n (F := (pc + 3, L, st, M)) ht rfl (by simp [pm_nx, pm_i2, h]) (kf h)
theorem ev_acmp_eq {n : Int} {x y : Nat} (ht : tb_in i pc = some (.if_acmp .eq n, a, b, v, ts)) (h : (1 ≤ x ∧ x ≤ 4) ∧ 1 ≤ y ∧ y ≤ 4) (kt : x = y → Ev d i a L st M Q) (kf : ¬ x = y → Ev d i (pc + 3) L st M Q) : Ev d i pc L (.ref y :: .ref x :: st) M Q := by
  by_cases hxy : x = y
  · exact ev_n (F := (a, L, st, M)) ht rfl (by simp only [pm_nx, pm_r2]; rw [if_pos h, if_pos hxy]) (kt hxy)
  · exact ev_n (F := (pc + 3, L, st, M)) ht rfl (by simp only [pm_nx, pm_r2]; rw [if_pos h, if_neg hxy]) (kf hxy)
theorem ev_acmp_ne {n : Int} {x y : Nat} (ht : tb_in i pc = some (.if_acmp .ne n, a, b, v, ts)) (h : (1 ≤ x ∧ x ≤ 4) ∧ 1 ≤ y ∧ y ≤ 4) (kt : ¬ x = y → Ev d i a L st M Q) (kf : x = y → Ev d i (pc + 3) L st M Q) : Ev d i pc L (.ref y :: .ref x :: st) M Q := by
  by_cases hxy : x = y
  · exact ev_n (F := (pc + 3, L, st, M)) ht rfl (by simp only [pm_nx, pm_r2]; rw [if_pos h, if_pos hxy]) (kf hxy)
  · exact ev_n (F := (a, L, st, M)) ht rfl (by simp only [pm_nx, pm_r2]; rw [if_pos h, if_neg hxy]) (kt hxy)
theorem ev_switch {dd lo hi : Int} {offs : Array Int} {x : Int32} (ht : tb_in i pc = some (.tableswitch dd lo hi offs, a, b, v, ts)) (kt : ∀ k, k < ts.length → x = nI k → Ev d i (ts.getD k 0) L st M Q) (kf : (x < 0 ∨ ts.length ≤ x.toNatClampNeg) → Ev d i a L st M Q) : Ev d i pc L (.int x :: st) M Q := by
  by_cases h : x < 0 ∨ ts.length ≤ x.toNatClampNeg
  · exact ev_n (F := (a, L, st, M)) ht rfl (by simp only [pm_nx, pm_i1]; rw [if_pos h]) (kf h)
  · obtain ⟨k, hk, rfl⟩ := nI_of (fun z => h (Or.inl z))
    have h2 : (nI k).toNatClampNeg = k := nI_clamp hk
    exact ev_n (F := (ts.getD k 0, L, st, M)) ht rfl (by simp only [pm_nx, pm_i1]; rw [if_neg h, h2]) (kt k (by rw [h2] at h; omega) rfl)
theorem ev_getstatic {n : Nat} (ht : tb_in i pc = some (.getstatic n, a, b, v, ts)) (kk : Ev d i (pc + 3) L (.ref a :: st) M Q) : Ev d i pc L st M Q := ev_n ht rfl rfl kk
theorem ev_alen {p : Nat} {ty : FieldType} {n : Nat} {f : Nat → Value} (ht : tb_in i pc = some (.arraylength, a, b, v, ts)) (hM : M.2.2 p = .inl (ty, n, f)) (kk : Ev d i (pc + 1) L (.int (nI n) :: st) M Q) : Ev d i pc L (.ref p :: st) M Q := ev_n (F := (pc + 1, L, .int (Int32.ofNat n) :: st, M)) ht rfl (by simp [pm_nx, pm_r1, pm_arr, hM]) kk
theorem ev_new {n : Nat} (ht : tb_in i pc = some (.new n, a, b, v, ts)) (ha : a < 1000) (kk : Ev d i (pc + 3) L (.ref (8 + M.1) :: st) (pm_mk M (tb_df a).length (.inr (a, tb_df a))) Q) : Ev d i pc L st M Q :=
  ev_st (F := (pc + 3, L, .ref (8 + M.1) :: st, pm_mk M (tb_df a).length (.inr (a, tb_df a)))) (by unfold pm_st; rw [ht]; simp only; rw [if_neg (by omega)]; rfl) kk
theorem ev_newarray {t : ArrayType} {k : Nat} (ht : tb_in i pc = some (.newarray t, a, b, v, ts)) (hk : k ≤ 5000) (kk : Ev d i (pc + 2) L (.ref (8 + M.1) :: st) (pm_mk M k (.inl (newarray.typeOf t, k, fun _ => defaultValue (newarray.typeOf t)))) Q) : Ev d i pc L (.int (nI k) :: st) M Q := by
  have h1 : ¬ nI k < 0 := nI_pos (by omega)
  have h2 : (nI k).toNatClampNeg = k := nI_clamp (by omega)
  exact ev_n (F := (pc + 2, L, .ref (8 + M.1) :: st, pm_mk M k (.inl (newarray.typeOf t, k, fun _ => defaultValue (newarray.typeOf t))))) ht rfl (by simp only [pm_nx, pm_i1, h2]; rw [if_neg (by rintro (h | h); exact h1 h; omega)]) kk
theorem ev_anewarray {n k : Nat} (ht : tb_in i pc = some (.anewarray n, a, b, v, ts)) (hk : k ≤ 5000) (kk : Ev d i (pc + 3) L (.ref (8 + M.1) :: st) (pm_mk M k (.inl (.object (tb_cn a), k, fun _ => .null))) Q) : Ev d i pc L (.int (nI k) :: st) M Q := by
  have h1 : ¬ nI k < 0 := nI_pos (by omega)
  have h2 : (nI k).toNatClampNeg = k := nI_clamp (by omega)
  exact ev_n (F := (pc + 3, L, .ref (8 + M.1) :: st, pm_mk M k (.inl (.object (tb_cn a), k, fun _ => .null)))) ht rfl (by simp only [pm_nx, pm_i1, h2]; rw [if_neg (by rintro (h | h); exact h1 h; omega)]) kk
theorem ev_objinit {n p : Nat} (ht : tb_in i pc = some (.invokespecial n, 1000, b, v, ts)) (hs : pm_cs st ≤ 11) (kk : Ev d i (pc + 3) L st M Q) : Ev d i pc L (.ref p :: st) M Q :=
  ev_st (F := (pc + 3, L, st, M)) (by
    have h9 : pm_cs (.ref p :: st) = 1 + pm_cs st := rfl
    unfold pm_st; rw [ht]; simp only; rw [if_pos (Nat.le_refl _), if_pos (by omega)]; rfl) kk
theorem ev_max {n : Nat} {x y : Int32} (ht : tb_in i pc = some (.invokestatic n, 1001, b, v, ts)) (hs : pm_cs st ≤ 10) (kk : Ev d i (pc + 3) L (.int (if x < y then y else x) :: st) M Q) : Ev d i pc L (.int y :: .int x :: st) M Q :=
  ev_st (F := (pc + 3, L, .int (if x < y then y else x) :: st, M)) (by
    have h9 : pm_cs (.int y :: .int x :: st) = 1 + (1 + pm_cs st) := rfl
    unfold pm_st; rw [ht]; simp only; rw [if_pos (Nat.le_refl _), if_pos (by omega)]; rfl) kk
theorem ev_min {n : Nat} {x y : Int32} (ht : tb_in i pc = some (.invokestatic n, 1002, b, v, ts)) (hs : pm_cs st ≤ 10) (kk : Ev d i (pc + 3) L (.int (if y < x then y else x) :: st) M Q) : Ev d i pc L (.int y :: .int x :: st) M Q :=
  ev_st (F := (pc + 3, L, .int (if y < x then y else x) :: st, M)) (by
    have h9 : pm_cs (.int y :: .int x :: st) = 1 + (1 + pm_cs st) := rfl
    unfold pm_st; rw [ht]; simp only; rw [if_pos (by omega), if_pos (by omega)]; rfl) kk
theorem ev_reti {x : Int32} (ht : tb_in i pc = some (.ireturn, a, b, v, ts)) (hr : tb_rI i x = true) (h : Q (.inl (some (.int x))) M) : Ev d i pc L [.int x] M Q := ev_end (by unfold pm_st; rw [ht]; simp only; rw [if_pos hr]) h
theorem ev_reta {x : Nat} (ht : tb_in i pc = some (.areturn, a, b, v, ts)) (hr : tb_rA i = true) (h : Q (.inl (some (.ref x))) M) : Ev d i pc L [.ref x] M Q := ev_end (by unfold pm_st; rw [ht]; simp only; rw [if_pos hr]) h
theorem ev_retv (ht : tb_in i pc = some (.return_, a, b, v, ts)) (hr : tb_rV i = true) (h : Q (.inl none) M) : Ev d i pc L [] M Q := ev_end (by unfold pm_st; rw [ht]; simp only; rw [if_pos hr]) h
theorem ev_throw {n : Nat} (ht : tb_in i pc = some (.new n, a, b, v, ts)) (ha : 1000 ≤ a) (hs : pm_cs st ≤ 8) (h : Q (.inr a) (pm_mk M 6 (.inr (1000, [])))) : Ev d i pc L st M Q := ev_end (by unfold pm_st; rw [ht]; simp only; rw [if_pos ha, if_pos hs]) h
theorem pm_st_V {n : Nat} (ht : tb_in i pc = some (.invokevirtual n, a, b, v, ts)) {as rest : List Value} {L0 : pm_L} (h1 : st.take b = as.reverse) (h2 : st.drop b = rest) (h3 : b ≤ st.length) (h4 : pm_cs rest ≤ 8) (h5 : pm_en a as = some L0) (h6 : pm_rc M a as = true) : pm_st i pc L st M = some (.inr (.inl (a, as, rest))) := by
  unfold pm_st
  rw [ht]
  simp only [pm_cl]
  rw [h1, h2, List.reverse_reverse, if_pos ⟨h3, h4, by rw [h5]; rfl, fun _ => h6⟩]
theorem pm_st_S {n : Nat} (ht : tb_in i pc = some (.invokestatic n, a, b, v, ts)) (ha : a ≤ 1000) {as rest : List Value} {L0 : pm_L} (h1 : st.take b = as.reverse) (h2 : st.drop b = rest) (h3 : b ≤ st.length) (h4 : pm_cs rest ≤ 8) (h5 : pm_en a as = some L0) : pm_st i pc L st M = some (.inr (.inl (a, as, rest))) := by
  unfold pm_st
  rw [ht]
  simp only [pm_cl]
  rw [if_neg (by omega), h1, h2, List.reverse_reverse, if_pos ⟨h3, h4, by rw [h5]; rfl, fun h => by cases h⟩]
theorem pm_st_I {n : Nat} (ht : tb_in i pc = some (.invokespecial n, a, b, v, ts)) (ha : a < 1000) {as rest : List Value} {L0 : pm_L} (h1 : st.take b = as.reverse) (h2 : st.drop b = rest) (h3 : b ≤ st.length) (h4 : pm_cs rest ≤ 8) (h5 : pm_en a as = some L0) (h6 : pm_rc M a as = true) : pm_st i pc L st M = some (.inr (.inl (a, as, rest))) := by
  unfold pm_st
  rw [ht]
  simp only [pm_cl]
  rw [if_neg (by omega), h1, h2, List.reverse_reverse, if_pos ⟨h3, h4, by rw [h5]; rfl, fun _ => h6⟩]
/-! numbers -/
theorem ev_top {x y : Int32} (h : x = y) (kk : Ev d i pc L (.int y :: st) M Q) : Ev d i pc L (.int x :: st) M Q := by rw [h]; exact kk
theorem ev_iaddN {m n : Nat} (ht : tb_in i pc = some (.iadd, a, b, v, ts)) (kk : Ev d i (pc + 1) L (.int (nI (m + n)) :: st) M Q) : Ev d i pc L (.int (nI n) :: .int (nI m) :: st) M Q := ev_iadd ht (by rw [nI_add]; exact kk)
theorem ev_isubN {m n : Nat} (ht : tb_in i pc = some (.isub, a, b, v, ts)) (h : n ≤ m) (kk : Ev d i (pc + 1) L (.int (nI (m - n)) :: st) M Q) : Ev d i pc L (.int (nI n) :: .int (nI m) :: st) M Q := ev_isub ht (by rw [pk_sub h]; exact kk)
theorem ev_imulN {m n : Nat} (ht : tb_in i pc = some (.imul, a, b, v, ts)) (kk : Ev d i (pc + 1) L (.int (nI (m * n)) :: st) M Q) : Ev d i pc L (.int (nI n) :: .int (nI m) :: st) M Q := ev_imul ht (by rw [pk_mul]; exact kk)
theorem ev_idivN {m n : Nat} (ht : tb_in i pc = some (.idiv, a, b, v, ts)) (hm : m < 2 ^ 31) (hn : 0 < n) (hn2 : n < 2 ^ 31) (kk : Ev d i (pc + 1) L (.int (nI (m / n)) :: st) M Q) : Ev d i pc L (.int (nI n) :: .int (nI m) :: st) M Q := ev_idiv ht (nI_ne0 hn hn2) (by rw [pk_div hm hn hn2]; exact kk)
theorem ev_iremN {m n : Nat} (ht : tb_in i pc = some (.irem, a, b, v, ts)) (hm : m < 2 ^ 31) (hn : 0 < n) (hn2 : n < 2 ^ 31) (kk : Ev d i (pc + 1) L (.int (nI (m % n)) :: st) M Q) : Ev d i pc L (.int (nI n) :: .int (nI m) :: st) M Q := ev_irem ht (nI_ne0 hn hn2) (by rw [pk_rem hm hn hn2]; exact kk)
theorem ev_iincN {k m : Nat} {n : Int} {L' : pm_L} (ht : tb_in i pc = some (.iinc k n, a, b, 1, ts)) (hx : pm_get L k = some (.int (nI m))) (hk : k < L.length) (hL : pm_set L k (.int (nI (m + 1))) = L') (kk : Ev d i (pc + 3) L' st M Q) : Ev d i pc L st M Q := ev_iinc ht hx hk (by rw [nI_1]; exact hL) kk
theorem ev_icmp_eqN {n : Int} {x y : Nat} (ht : tb_in i pc = some (.if_icmp .eq n, a, b, v, ts)) (hx : x < 2 ^ 31) (hy : y < 2 ^ 31) (kt : x = y → Ev d i a L st M Q) (kf : ¬ (x = y) → Ev d i (pc + 3) L st M Q) : Ev d i pc L (.int (nI y) :: .int (nI x) :: st) M Q := ev_icmp_eq ht (fun h => kt (by exact (nI_eq hx hy).mp h)) (fun h => kf (by exact fun z => h ((nI_eq hx hy).mpr z)))
theorem ev_icmp_neN {n : Int} {x y : Nat} (ht : tb_in i pc = some (.if_icmp .ne n, a, b, v, ts)) (hx : x < 2 ^ 31) (hy : y < 2 ^ 31) (kt : ¬ x = y → Ev d i a L st M Q) (kf : ¬ (¬ x = y) → Ev d i (pc + 3) L st M Q) : Ev d i pc L (.int (nI y) :: .int (nI x) :: st) M Q := ev_icmp_ne ht (fun h => kt (by exact fun z => h ((nI_eq hx hy).mpr z))) (fun h => kf (by exact fun z => h (fun w => z ((nI_eq hx hy).mp w))))
theorem ev_icmp_ltN {n : Int} {x y : Nat} (ht : tb_in i pc = some (.if_icmp .lt n, a, b, v, ts)) (hx : x < 2 ^ 31) (hy : y < 2 ^ 31) (kt : x < y → Ev d i a L st M Q) (kf : ¬ (x < y) → Ev d i (pc + 3) L st M Q) : Ev d i pc L (.int (nI y) :: .int (nI x) :: st) M Q := ev_icmp_lt ht (fun h => kt (by exact (nI_ltI hx hy).mp h)) (fun h => kf (by exact fun z => h ((nI_ltI hx hy).mpr z)))
theorem ev_icmp_geN {n : Int} {x y : Nat} (ht : tb_in i pc = some (.if_icmp .ge n, a, b, v, ts)) (hx : x < 2 ^ 31) (hy : y < 2 ^ 31) (kt : y ≤ x → Ev d i a L st M Q) (kf : ¬ (y ≤ x) → Ev d i (pc + 3) L st M Q) : Ev d i pc L (.int (nI y) :: .int (nI x) :: st) M Q := ev_icmp_ge ht (fun h => kt (by exact (nI_leI hy hx).mp h)) (fun h => kf (by exact fun z => h ((nI_leI hy hx).mpr z)))
theorem ev_icmp_gtN {n : Int} {x y : Nat} (ht : tb_in i pc = some (.if_icmp .gt n, a, b, v, ts)) (hx : x < 2 ^ 31) (hy : y < 2 ^ 31) (kt : y < x → Ev d i a L st M Q) (kf : ¬ (y < x) → Ev d i (pc + 3) L st M Q) : Ev d i pc L (.int (nI y) :: .int (nI x) :: st) M Q := ev_icmp_gt ht (fun h => kt (by exact (nI_ltI hy hx).mp h)) (fun h => kf (by exact fun z => h ((nI_ltI hy hx).mpr z)))
theorem ev_icmp_leN {n : Int} {x y : Nat} (ht : tb_in i pc = some (.if_icmp .le n, a, b, v, ts)) (hx : x < 2 ^ 31) (hy : y < 2 ^ 31) (kt : x ≤ y → Ev d i a L st M Q) (kf : ¬ (x ≤ y) → Ev d i (pc + 3) L st M Q) : Ev d i pc L (.int (nI y) :: .int (nI x) :: st) M Q := ev_icmp_le ht (fun h => kt (by exact (nI_leI hx hy).mp h)) (fun h => kf (by exact fun z => h ((nI_leI hx hy).mpr z)))
end EV
/-! a stretch of pointers whose objects and arrays have a fixed form: a store of ints beneath it -/
def sl (lo hi : Nat) (sh : Nat → (Nat → Int32) → pm_E) (M : pm_M) (σ : Nat → Nat → Int32) : pm_M := (M.1, M.2.1, fun p => if lo ≤ p ∧ p < hi then sh p (σ p) else M.2.2 p)
def u2 (σ : Nat → Nat → Int32) (p k : Nat) (x : Int32) : Nat → Nat → Int32 := fun q => if q = p then upd (σ q) k x else σ q
def ob (lo hi : Nat) (sh : Nat → (Nat → Int32) → pm_E) (p c : Nat) (fl : (Nat → Int32) → List Value) : Prop := (8 ≤ lo ∧ lo ≤ p ∧ p < hi) ∧ ∀ r, sh p r = .inr (c, fl r)
def ar (lo hi : Nat) (sh : Nat → (Nat → Int32) → pm_E) (p : Nat) (ty : FieldType) (n : Nat) : Prop := (8 ≤ lo ∧ lo ≤ p ∧ p < hi) ∧ n ≤ 5000 ∧ ∀ r, sh p r = .inl (ty, n, fun j => .int (r j))
def rr (lo hi : Nat) (sh : Nat → (Nat → Int32) → pm_E) (p : Nat) (ty : FieldType) (n : Nat) (f : Nat → Value) : Prop := (8 ≤ lo ∧ lo ≤ p ∧ p < hi) ∧ n ≤ 5000 ∧ ∀ r, sh p r = .inl (ty, n, fun j => if j < n then f j else .null)
section ES
variable {d i pc : Nat} {L : pm_L} {st : List Value} {M : pm_M} {Q : pm_R → pm_M → Prop} {a b : Nat} {v : Int32} {ts : List Nat} {lo hi : Nat} {sh : Nat → (Nat → Int32) → pm_E} {σ : Nat → Nat → Int32}
theorem sl_in {p : Nat} (h : lo ≤ p ∧ p < hi) : (sl lo hi sh M σ).2.2 p = sh p (σ p) := by
  show (if lo ≤ p ∧ p < hi then _ else _) = _
  rw [if_pos h]
theorem sl_up {p k : Nat} {x : Int32} {e : pm_E} (h : lo ≤ p ∧ p < hi) (he : sh p (upd (σ p) k x) = e) : pm_up (sl lo hi sh M σ) p e = sl lo hi sh M (u2 σ p k x) := by
  unfold pm_up sl
  refine Prod.ext rfl (Prod.ext rfl ?_)
  funext q
  dsimp only
  by_cases hq : q = p
  · subst hq
    rw [if_pos rfl, if_pos h, ← he]
    unfold u2
    rw [if_pos rfl]
  · rw [if_neg hq]
    unfold u2
    rw [if_neg hq]
theorem es_get {n p : Nat} {fl : (Nat → Int32) → List Value} {x : Value} (ho : ob lo hi sh p a fl) (ht : tb_in i pc = some (.getfield n, a, b, v, ts)) (hv : (fl (σ p))[b]? = some x) (kk : Ev d i (pc + 3) L (x :: st) (sl lo hi sh M σ) Q) : Ev d i pc L (.ref p :: st) (sl lo hi sh M σ) Q :=
  ev_n (F := (pc + 3, L, x :: st, sl lo hi sh M σ)) ht rfl (by simp only [pm_nx, pm_r1, pm_obj]; rw [sl_in ho.1.2, ho.2]; simp [hv]) kk
theorem es_putV {n p : Nat} {fl : (Nat → Int32) → List Value} {x : Value} {y : Int32} (ho : ob lo hi sh p a fl) (ht : tb_in i pc = some (.putfield n, a, b, v, ts)) (hb : b < (fl (σ p)).length) (h1 : narrow (tb_ft a b) x = x) (h2 : fits (tb_ft a b) x = true) (he : (fl (σ p)).set b x = fl (upd (σ p) b y)) (kk : Ev d i (pc + 3) L st (sl lo hi sh M (u2 σ p b y)) Q) : Ev d i pc L (x :: .ref p :: st) (sl lo hi sh M σ) Q :=
  ev_n (F := (pc + 3, L, st, sl lo hi sh M (u2 σ p b y))) ht rfl (by
    simp only [pm_nx, pm_vr, pm_obj]
    rw [sl_in ho.1.2, ho.2]
    dsimp only
    rw [if_pos ⟨rfl, by have := ho.1; omega, hb, h1, h2⟩, sl_up (k := b) (x := y) ho.1.2 (by rw [ho.2, he])]) kk
theorem es_put {n p : Nat} {fl : (Nat → Int32) → List Value} {x : Int32} (ho : ob lo hi sh p a fl) (ht : tb_in i pc = some (.putfield n, a, b, v, ts)) (hty : tb_ft a b = .int) (hb : b < (fl (σ p)).length) (he : (fl (σ p)).set b (.int x) = fl (upd (σ p) b x)) (kk : Ev d i (pc + 3) L st (sl lo hi sh M (u2 σ p b x)) Q) : Ev d i pc L (.int x :: .ref p :: st) (sl lo hi sh M σ) Q :=
  es_putV ho ht hb (by rw [hty]; rfl) (by rw [hty]; rfl) he kk
theorem es_al {ins : Instr} {ok : FieldType → Bool} {p k n : Nat} {ty : FieldType} {f : Nat → Value} (ht : tb_in i pc = some (ins, a, b, v, ts)) (hs : pm_sp ins = false) (hn : ∀ L st M, pm_nx ins a b v ts pc L st M = pm_al M L st pc ok) (hM : M.2.2 p = .inl (ty, n, f)) (hty : ok ty = true) (hk : k < n) (hn5 : n ≤ 5000) (kk : Ev d i (pc + 1) L (f k :: st) M Q) : Ev d i pc L (.int (nI k) :: .ref p :: st) M Q := by
  have h2 : (nI k).toNatClampNeg = k := nI_clamp (by omega)
  refine ev_n (F := (pc + 1, L, f k :: st, M)) ht hs ?_ kk
  rw [hn]
  simp only [pm_al, pm_ir, pm_arr]
  rw [hM]
  simp only
  rw [if_pos ⟨hty, by rintro (h | h); exact nI_pos (by omega) h; omega⟩, h2]
theorem es_iald {p k n : Nat} (ha : ar lo hi sh p .int n) (ht : tb_in i pc = some (.iaload, a, b, v, ts)) (hk : k < n) (kk : Ev d i (pc + 1) L (.int (σ p k) :: st) (sl lo hi sh M σ) Q) : Ev d i pc L (.int (nI k) :: .ref p :: st) (sl lo hi sh M σ) Q := es_al (f := fun j => .int (σ p j)) ht rfl (fun _ _ _ => rfl) (by rw [sl_in ha.1.2, ha.2.2]) rfl hk ha.2.1 kk
theorem es_zald {p k n : Nat} (ha : ar lo hi sh p .boolean n) (ht : tb_in i pc = some (.baload, a, b, v, ts)) (hk : k < n) (kk : Ev d i (pc + 1) L (.int (σ p k) :: st) (sl lo hi sh M σ) Q) : Ev d i pc L (.int (nI k) :: .ref p :: st) (sl lo hi sh M σ) Q := es_al (f := fun j => .int (σ p j)) ht rfl (fun _ _ _ => rfl) (by rw [sl_in ha.1.2, ha.2.2]) rfl hk ha.2.1 kk
theorem es_cald {p k n : Nat} (ha : ar lo hi sh p .char n) (ht : tb_in i pc = some (.caload, a, b, v, ts)) (hk : k < n) (kk : Ev d i (pc + 1) L (.int (σ p k) :: st) (sl lo hi sh M σ) Q) : Ev d i pc L (.int (nI k) :: .ref p :: st) (sl lo hi sh M σ) Q := es_al (f := fun j => .int (σ p j)) ht rfl (fun _ _ _ => rfl) (by rw [sl_in ha.1.2, ha.2.2]) rfl hk ha.2.1 kk
theorem es_rald {p k n : Nat} {C : String} {f : Nat → Value} {x : Value} (ha : rr lo hi sh p (.object C) n f) (ht : tb_in i pc = some (.aaload, a, b, v, ts)) (hk : k < n) (hx : f k = x) (kk : Ev d i (pc + 1) L (x :: st) (sl lo hi sh M σ) Q) : Ev d i pc L (.int (nI k) :: .ref p :: st) (sl lo hi sh M σ) Q := es_al (f := fun j => if j < n then f j else .null) ht rfl (fun _ _ _ => rfl) (by rw [sl_in ha.1.2, ha.2.2]) rfl hk ha.2.1 (by show Ev d i (pc + 1) L ((if k < n then f k else .null) :: st) (sl lo hi sh M σ) Q; rw [if_pos hk, hx]; exact kk)
theorem es_as {ins : Instr} {p k n : Nat} {ty : FieldType} {x y : Int32} (ha : ar lo hi sh p ty n) (ht : tb_in i pc = some (ins, a, b, v, ts)) (hs : pm_sp ins = false) (hn : ∀ L st M, pm_nx ins a b v ts pc L st M = pm_as M L st pc ty pm_isI) (hk : k < n) (hx : narrow ty (.int x) = .int y) (kk : Ev d i (pc + 1) L st (sl lo hi sh M (u2 σ p k y)) Q) : Ev d i pc L (.int x :: .int (nI k) :: .ref p :: st) (sl lo hi sh M σ) Q := by
  have hn5 := ha.2.1
  have h2 : (nI k).toNatClampNeg = k := nI_clamp (by omega)
  refine ev_n (F := (pc + 1, L, st, sl lo hi sh M (u2 σ p k y))) ht hs ?_ kk
  rw [hn]
  simp only [pm_as, pm_vir, pm_arr]
  rw [sl_in ha.1.2, ha.2.2]
  dsimp only
  rw [if_pos ⟨rfl, rfl, by have := ha.1; omega, by rintro (h | h); exact nI_pos (by omega) h; omega⟩, h2, hx, sl_up (k := k) (x := y) ha.1.2]
  rw [ha.2.2]
  congr 2
  refine Prod.ext rfl ?_
  funext j
  show Value.int (upd (σ p) k y j) = pm_uv (fun j => .int (σ p j)) k (.int y) j
  unfold upd pm_uv
  split <;> rfl
theorem es_iast {p k n : Nat} {x : Int32} (ha : ar lo hi sh p .int n) (ht : tb_in i pc = some (.iastore, a, b, v, ts)) (hk : k < n) (kk : Ev d i (pc + 1) L st (sl lo hi sh M (u2 σ p k x)) Q) : Ev d i pc L (.int x :: .int (nI k) :: .ref p :: st) (sl lo hi sh M σ) Q := es_as ha ht rfl (fun _ _ _ => rfl) hk rfl kk
theorem es_zast {p k n : Nat} {x y : Int32} (ha : ar lo hi sh p .boolean n) (ht : tb_in i pc = some (.bastore, a, b, v, ts)) (hk : k < n) (hx : narrow .boolean (.int x) = .int y) (kk : Ev d i (pc + 1) L st (sl lo hi sh M (u2 σ p k y)) Q) : Ev d i pc L (.int x :: .int (nI k) :: .ref p :: st) (sl lo hi sh M σ) Q := es_as ha ht rfl (fun _ _ _ => rfl) hk hx kk
theorem es_cast {p k n : Nat} {x y : Int32} (ha : ar lo hi sh p .char n) (ht : tb_in i pc = some (.castore, a, b, v, ts)) (hk : k < n) (hx : narrow .char (.int x) = .int y) (kk : Ev d i (pc + 1) L st (sl lo hi sh M (u2 σ p k y)) Q) : Ev d i pc L (.int x :: .int (nI k) :: .ref p :: st) (sl lo hi sh M σ) Q := es_as ha ht rfl (fun _ _ _ => rfl) hk hx kk
theorem es_rc {p c j : Nat} {fl : (Nat → Int32) → List Value} {al : List Value} (ho : ob lo hi sh p c fl) (hc : c = tb_rc j) (hl : c < 8) : pm_rc (sl lo hi sh M σ) j (.ref p :: al) = true := by
  unfold pm_rc
  simp only
  rw [sl_in ho.1.2, ho.2]
  exact decide_eq_true ⟨hl, hc⟩
end ES
