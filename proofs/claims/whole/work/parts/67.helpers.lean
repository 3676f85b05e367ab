/-! The law: both objects in one heap; the helpers that catch. -/
abbrev LBB (M : pm_M) (σ τ : Nat → Nat → Int32) : pm_M := sC (sM M τ) σ
section LSs
variable {M : pm_M} {σ τ : Nat → Nat → Int32}
theorem ls_sw : LBB M σ τ = sM (sC M σ) τ := by
  unfold LBB sC sM sl
  refine Prod.ext rfl (Prod.ext rfl ?_)
  funext q
  dsimp only
  by_cases h1 : 8 ≤ q ∧ q < 370
  · rw [if_pos h1, if_neg (by omega), if_pos h1]
  · rw [if_neg h1]
    by_cases h2 : 370 ≤ q ∧ q < 394
    · rw [if_pos h2, if_pos h2]
    · rw [if_neg h2, if_neg h2, if_neg h1]
theorem ls_at {q : Nat} (h : q < 8 ∨ 394 ≤ q) : (LBB M σ τ).2.2 q = M.2.2 q := by
  show (if 8 ≤ q ∧ q < 370 then _ else (if 370 ≤ q ∧ q < 394 then _ else _)) = _
  rw [if_neg (by omega), if_neg (by omega)]
theorem ls_up {e : pm_E} : pm_up (LBB M σ τ) 394 e = LBB (pm_up M 394 e) σ τ := by
  unfold LBB sC sM sl pm_up
  refine Prod.ext rfl (Prod.ext rfl ?_)
  funext q
  dsimp only
  by_cases h1 : q = 394
  · subst h1; rw [if_pos rfl, if_neg (by omega), if_neg (by omega), if_pos rfl]
  · rw [if_neg h1, if_neg h1]
theorem ls_mk {e : pm_E} (h : 387 ≤ M.1) : pm_mk (LBB M σ τ) 6 e = LBB (pm_mk M 6 e) σ τ := by
  unfold LBB sC sM sl pm_mk
  refine Prod.ext rfl (Prod.ext rfl ?_)
  funext q
  dsimp only
  by_cases h1 : q = 8 + M.1
  · rw [if_pos h1, if_neg (by omega), if_neg (by omega), if_pos h1]
  · rw [if_neg h1, if_neg h1]
theorem ls_rm {j : Nat} {al : List Value} (hc : 7 = tb_rc j) : pm_rc (LBB M σ τ) j (.ref 370 :: al) = true := by rw [ls_sw]; exact es_rc o_MO hc (by decide)
theorem lg_self (x : Int64) : lg_cmp x x = nI 0 := by unfold lg_cmp; simp; try rfl
end LSs
theorem ev_ex {α : Type} {d i pc : Nat} {L : pm_L} {st : List Value} {M : pm_M} {R : α → pm_R → pm_M → Prop} (h : Ev d i pc L st M (fun q M' => ∃ x, R x q M')) : ∃ x, Ev d i pc L st M (R x) := by
  obtain ⟨n, r, M', h1, x, h2⟩ := h
  exact ⟨x, n, r, M', h1, h2⟩
def blI (v : Int32) : Int64 := if v = 0 then Int64.ofNat 0 else Int64.ofNat 1
section LH
variable {d i pc : Nat} {L : pm_L} {st : List Value} {M : pm_M} {Q : pm_R → pm_M → Prop} {a b : Nat} {v : Int32} {ts : List Nat}
theorem ev_last {p k n : Nat} {x : Int64} {f : Nat → Value} (ht : tb_in i pc = some (.lastore, a, b, v, ts)) (h8 : 8 ≤ p) (hM : M.2.2 p = .inl (.long, n, f)) (hk : k < n) (hn : n ≤ 5000) (kk : Ev d i (pc + 1) L st (pm_up M p (.inl (.long, n, pm_uv f k (.long x)))) Q) : Ev d i pc L (.long x :: .int (nI k) :: .ref p :: st) M Q := by
  have h2 : (nI k).toNatClampNeg = k := nI_clamp (by omega)
  refine ev_n (F := (pc + 1, L, st, pm_up M p (.inl (.long, n, pm_uv f k (.long x))))) ht rfl ?_ kk
  simp only [pm_nx, pm_as, pm_vir, pm_arr]
  rw [hM]
  dsimp only
  rw [if_pos ⟨rfl, rfl, h8, by rintro (h | h); exact nI_pos (by omega) h; omega⟩, h2]
  rfl
end LH
section HLP
variable {d : Nat} {M : pm_M} {σ σ1 τ : Nat → Nat → Int32} {v : Int32} {f : Nat → Value} {x y z : Int32}
theorem h103o (ho : M.2.2 394 = .inl (.long, 1, f)) (hc : Ev d 3 0 [some (.ref 8), some (.int x), none] [] (LBB M σ τ) (fun q9 M' => ∃ v9, q9 = .inl v9 ∧ v9 = some (.int v) ∧ M' = LBB M σ1 τ)) : Ev (d + 1) 103 0 [some (.ref 8), some (.int x), some (.ref 394), none] [] (LBB M σ τ) (fun q9 M' => ∃ v9, q9 = .inl v9 ∧ v9 = some (.int 0) ∧ M' = LBB (pm_up M 394 (.inl (.long, 1, pm_uv f 0 (.long (v.toInt64))))) σ1 τ) := by
  refine ev_aload_n t_103_0 rfl ?_
  refine ev_iconst t_103_1 ?_
  change Ev _ _ _ _ ([.int (nI 0), .ref 394]) _ _
  refine ev_aload_n t_103_2 rfl ?_
  refine ev_iload_n t_103_3 rfl ?_
  refine ev_cl (pm_st_V t_103_4 (as := [.ref 8, .int x]) (rest := [.int (nI 0), .ref 394]) (L0 := [some (.ref 8), some (.int x), none]) rfl rfl (Nat.le_of_ble_eq_true rfl) (Nat.le_of_ble_eq_true rfl) rfl (es_rc o_MR rfl (Nat.le_of_ble_eq_true rfl))) rfl hc ?_
  rintro _ _ ⟨rfl, rfl⟩
  change Ev _ _ _ _ ([.int v, .int (nI 0), .ref 394]) _ _
  refine ev_i2l t_103_7 ?_
  refine ev_last (k := 0) (n := 1) (f := f) t_103_8 (by omega) (by rw [ls_at (by omega)]; exact ho) (by omega) (Nat.le_of_ble_eq_true rfl) ?_
  refine ev_goto t_103_9 ?_
  refine ev_iconst t_103_15 ?_
  exact ev_reti t_103_16 (ri rfl) ⟨_, rfl, rfl, by rw [ls_up]⟩
theorem h103_1000 (hM : 387 ≤ M.1) (hc : Ev d 3 0 [some (.ref 8), some (.int x), none] [] (LBB M σ τ) (fun q9 M' => q9 = .inr 1000 ∧ M' = pm_mk (LBB M σ1 τ) 6 (.inr (1000, [])))) : Ev (d + 1) 103 0 [some (.ref 8), some (.int x), some (.ref 394), none] [] (LBB M σ τ) (fun q9 M' => ∃ v9, q9 = .inl v9 ∧ v9 = some (.int 1) ∧ M' = LBB (pm_mk M 6 (.inr (1000, []))) σ1 τ) := by
  refine ev_aload_n t_103_0 rfl ?_
  refine ev_iconst t_103_1 ?_
  change Ev _ _ _ _ ([.int (nI 0), .ref 394]) _ _
  refine ev_aload_n t_103_2 rfl ?_
  refine ev_iload_n t_103_3 rfl ?_
  refine ev_call (pm_st_V t_103_4 (as := [.ref 8, .int x]) (rest := [.int (nI 0), .ref 394]) (L0 := [some (.ref 8), some (.int x), none]) rfl rfl (Nat.le_of_ble_eq_true rfl) (Nat.le_of_ble_eq_true rfl) rfl (es_rc o_MR rfl (Nat.le_of_ble_eq_true rfl))) rfl hc ?_
  rintro _ _ ⟨rfl, rfl⟩
  show Ev (d + 1) 103 12 [some (.ref 8), some (.int x), some (.ref 394), none] [.ref (7 + (pm_mk (LBB M σ1 τ) 6 (.inr (1000, []))).1)] (pm_mk (LBB M σ1 τ) 6 (.inr (1000, []))) _
  rw [ls_mk hM]
  refine ev_astore_n (L' := [some (.ref 8), some (.int x), some (.ref 394), some (.ref (7 + (LBB (pm_mk M 6 (.inr (1000, []))) σ1 τ).1))]) t_103_12 (Nat.le_of_ble_eq_true rfl) rfl ?_
  refine ev_iconst t_103_13 ?_
  exact ev_reti t_103_14 (ri rfl) ⟨_, rfl, rfl, rfl⟩
theorem h104o (ho : M.2.2 394 = .inl (.long, 1, f)) (hc : Ev d 4 0 [some (.ref 8), some (.int x), some (.int y), some (.int z), none] [] (LBB M σ τ) (fun q9 M' => ∃ v9, q9 = .inl v9 ∧ v9 = some (.int v) ∧ M' = LBB M σ1 τ)) : Ev (d + 1) 104 0 [some (.ref 8), some (.int x), some (.int y), some (.int z), some (.ref 394), none] [] (LBB M σ τ) (fun q9 M' => ∃ v9, q9 = .inl v9 ∧ v9 = some (.int 0) ∧ M' = LBB (pm_up M 394 (.inl (.long, 1, pm_uv f 0 (.long (blI v))))) σ1 τ) := by
  refine ev_aload t_104_0 rfl ?_
  refine ev_iconst t_104_2 ?_
  change Ev _ _ _ _ ([.int (nI 0), .ref 394]) _ _
  refine ev_aload_n t_104_3 rfl ?_
  refine ev_iload_n t_104_4 rfl ?_
  refine ev_iload_n t_104_5 rfl ?_
  refine ev_iload_n t_104_6 rfl ?_
  refine ev_cl (pm_st_V t_104_7 (as := [.ref 8, .int x, .int y, .int z]) (rest := [.int (nI 0), .ref 394]) (L0 := [some (.ref 8), some (.int x), some (.int y), some (.int z), none]) rfl rfl (Nat.le_of_ble_eq_true rfl) (Nat.le_of_ble_eq_true rfl) rfl (es_rc o_MR rfl (Nat.le_of_ble_eq_true rfl))) rfl hc ?_
  rintro _ _ ⟨rfl, rfl⟩
  change Ev _ _ _ _ ([.int v, .int (nI 0), .ref 394]) _ _
  refine ev_if_eq (y := 0) t_104_10 (fun h => ?_) (fun h => ?_)
  · refine ev_lconst t_104_17 ?_
    refine ev_last (k := 0) (n := 1) (f := f) t_104_18 (by omega) (by rw [ls_at (by omega)]; exact ho) (by omega) (Nat.le_of_ble_eq_true rfl) ?_
    refine ev_goto t_104_19 ?_
    refine ev_iconst t_104_26 ?_
    exact ev_reti t_104_27 (ri rfl) ⟨_, rfl, rfl, by unfold blI; rw [if_pos h, ls_up]; rfl⟩
  · refine ev_lconst t_104_13 ?_
    refine ev_goto t_104_14 ?_
    refine ev_last (k := 0) (n := 1) (f := f) t_104_18 (by omega) (by rw [ls_at (by omega)]; exact ho) (by omega) (Nat.le_of_ble_eq_true rfl) ?_
    refine ev_goto t_104_19 ?_
    refine ev_iconst t_104_26 ?_
    exact ev_reti t_104_27 (ri rfl) ⟨_, rfl, rfl, by unfold blI; rw [if_neg h, ls_up]; rfl⟩
theorem h104_1000 (hM : 387 ≤ M.1) (hc : Ev d 4 0 [some (.ref 8), some (.int x), some (.int y), some (.int z), none] [] (LBB M σ τ) (fun q9 M' => q9 = .inr 1000 ∧ M' = pm_mk (LBB M σ1 τ) 6 (.inr (1000, [])))) : Ev (d + 1) 104 0 [some (.ref 8), some (.int x), some (.int y), some (.int z), some (.ref 394), none] [] (LBB M σ τ) (fun q9 M' => ∃ v9, q9 = .inl v9 ∧ v9 = some (.int 1) ∧ M' = LBB (pm_mk M 6 (.inr (1000, []))) σ1 τ) := by
  refine ev_aload t_104_0 rfl ?_
  refine ev_iconst t_104_2 ?_
  change Ev _ _ _ _ ([.int (nI 0), .ref 394]) _ _
  refine ev_aload_n t_104_3 rfl ?_
  refine ev_iload_n t_104_4 rfl ?_
  refine ev_iload_n t_104_5 rfl ?_
  refine ev_iload_n t_104_6 rfl ?_
  refine ev_call (pm_st_V t_104_7 (as := [.ref 8, .int x, .int y, .int z]) (rest := [.int (nI 0), .ref 394]) (L0 := [some (.ref 8), some (.int x), some (.int y), some (.int z), none]) rfl rfl (Nat.le_of_ble_eq_true rfl) (Nat.le_of_ble_eq_true rfl) rfl (es_rc o_MR rfl (Nat.le_of_ble_eq_true rfl))) rfl hc ?_
  rintro _ _ ⟨rfl, rfl⟩
  show Ev (d + 1) 104 22 [some (.ref 8), some (.int x), some (.int y), some (.int z), some (.ref 394), none] [.ref (7 + (pm_mk (LBB M σ1 τ) 6 (.inr (1000, []))).1)] (pm_mk (LBB M σ1 τ) 6 (.inr (1000, []))) _
  rw [ls_mk hM]
  refine ev_astore (L' := [some (.ref 8), some (.int x), some (.int y), some (.int z), some (.ref 394), some (.ref (7 + (LBB (pm_mk M 6 (.inr (1000, []))) σ1 τ).1))]) t_104_22 (Nat.le_of_ble_eq_true rfl) rfl ?_
  refine ev_iconst t_104_24 ?_
  exact ev_reti t_104_25 (ri rfl) ⟨_, rfl, rfl, rfl⟩
theorem h105o (ho : M.2.2 394 = .inl (.long, 1, f)) (hc : Ev d 5 0 [some (.ref 8), some (.int x), some (.int y)] [] (LBB M σ τ) (fun q9 M' => ∃ v9, q9 = .inl v9 ∧ v9 = some (.int v) ∧ M' = LBB M σ1 τ)) : Ev (d + 1) 105 0 [some (.ref 8), some (.int x), some (.int y), some (.ref 394), none] [] (LBB M σ τ) (fun q9 M' => ∃ v9, q9 = .inl v9 ∧ v9 = some (.int 0) ∧ M' = LBB (pm_up M 394 (.inl (.long, 1, pm_uv f 0 (.long (blI v))))) σ1 τ) := by
  refine ev_aload_n t_105_0 rfl ?_
  refine ev_iconst t_105_1 ?_
  change Ev _ _ _ _ ([.int (nI 0), .ref 394]) _ _
  refine ev_aload_n t_105_2 rfl ?_
  refine ev_iload_n t_105_3 rfl ?_
  refine ev_iload_n t_105_4 rfl ?_
  refine ev_cl (pm_st_V t_105_5 (as := [.ref 8, .int x, .int y]) (rest := [.int (nI 0), .ref 394]) (L0 := [some (.ref 8), some (.int x), some (.int y)]) rfl rfl (Nat.le_of_ble_eq_true rfl) (Nat.le_of_ble_eq_true rfl) rfl (es_rc o_MR rfl (Nat.le_of_ble_eq_true rfl))) rfl hc ?_
  rintro _ _ ⟨rfl, rfl⟩
  change Ev _ _ _ _ ([.int v, .int (nI 0), .ref 394]) _ _
  refine ev_if_eq (y := 0) t_105_8 (fun h => ?_) (fun h => ?_)
  · refine ev_lconst t_105_15 ?_
    refine ev_last (k := 0) (n := 1) (f := f) t_105_16 (by omega) (by rw [ls_at (by omega)]; exact ho) (by omega) (Nat.le_of_ble_eq_true rfl) ?_
    refine ev_goto t_105_17 ?_
    refine ev_iconst t_105_24 ?_
    exact ev_reti t_105_25 (ri rfl) ⟨_, rfl, rfl, by unfold blI; rw [if_pos h, ls_up]; rfl⟩
  · refine ev_lconst t_105_11 ?_
    refine ev_goto t_105_12 ?_
    refine ev_last (k := 0) (n := 1) (f := f) t_105_16 (by omega) (by rw [ls_at (by omega)]; exact ho) (by omega) (Nat.le_of_ble_eq_true rfl) ?_
    refine ev_goto t_105_17 ?_
    refine ev_iconst t_105_24 ?_
    exact ev_reti t_105_25 (ri rfl) ⟨_, rfl, rfl, by unfold blI; rw [if_neg h, ls_up]; rfl⟩
theorem h105_1000 (hM : 387 ≤ M.1) (hc : Ev d 5 0 [some (.ref 8), some (.int x), some (.int y)] [] (LBB M σ τ) (fun q9 M' => q9 = .inr 1000 ∧ M' = pm_mk (LBB M σ1 τ) 6 (.inr (1000, [])))) : Ev (d + 1) 105 0 [some (.ref 8), some (.int x), some (.int y), some (.ref 394), none] [] (LBB M σ τ) (fun q9 M' => ∃ v9, q9 = .inl v9 ∧ v9 = some (.int 1) ∧ M' = LBB (pm_mk M 6 (.inr (1000, []))) σ1 τ) := by
  refine ev_aload_n t_105_0 rfl ?_
  refine ev_iconst t_105_1 ?_
  change Ev _ _ _ _ ([.int (nI 0), .ref 394]) _ _
  refine ev_aload_n t_105_2 rfl ?_
  refine ev_iload_n t_105_3 rfl ?_
  refine ev_iload_n t_105_4 rfl ?_
  refine ev_call (pm_st_V t_105_5 (as := [.ref 8, .int x, .int y]) (rest := [.int (nI 0), .ref 394]) (L0 := [some (.ref 8), some (.int x), some (.int y)]) rfl rfl (Nat.le_of_ble_eq_true rfl) (Nat.le_of_ble_eq_true rfl) rfl (es_rc o_MR rfl (Nat.le_of_ble_eq_true rfl))) rfl hc ?_
  rintro _ _ ⟨rfl, rfl⟩
  show Ev (d + 1) 105 20 [some (.ref 8), some (.int x), some (.int y), some (.ref 394), none] [.ref (7 + (pm_mk (LBB M σ1 τ) 6 (.inr (1000, []))).1)] (pm_mk (LBB M σ1 τ) 6 (.inr (1000, []))) _
  rw [ls_mk hM]
  refine ev_astore (L' := [some (.ref 8), some (.int x), some (.int y), some (.ref 394), some (.ref (7 + (LBB (pm_mk M 6 (.inr (1000, []))) σ1 τ).1))]) t_105_20 (Nat.le_of_ble_eq_true rfl) rfl ?_
  refine ev_iconst t_105_22 ?_
  exact ev_reti t_105_23 (ri rfl) ⟨_, rfl, rfl, rfl⟩
theorem h106o (ho : M.2.2 394 = .inl (.long, 1, f)) (hc : Ev d 6 0 [some (.ref 8), some (.int x), some (.int y)] [] (LBB M σ τ) (fun q9 M' => ∃ v9, q9 = .inl v9 ∧ v9 = none ∧ M' = LBB M σ1 τ)) : Ev (d + 1) 106 0 [some (.ref 8), some (.int x), some (.int y), none] [] (LBB M σ τ) (fun q9 M' => ∃ v9, q9 = .inl v9 ∧ v9 = some (.int 0) ∧ M' = LBB M σ1 τ) := by
  refine ev_aload_n t_106_0 rfl ?_
  refine ev_iload_n t_106_1 rfl ?_
  refine ev_iload_n t_106_2 rfl ?_
  refine ev_cl (pm_st_V t_106_3 (as := [.ref 8, .int x, .int y]) (rest := []) (L0 := [some (.ref 8), some (.int x), some (.int y)]) rfl rfl (Nat.le_of_ble_eq_true rfl) (Nat.le_of_ble_eq_true rfl) rfl (es_rc o_MR rfl (Nat.le_of_ble_eq_true rfl))) rfl hc ?_
  rintro _ _ ⟨rfl, rfl⟩
  change Ev _ _ _ _ ([]) _ _
  refine ev_goto t_106_6 ?_
  refine ev_iconst t_106_12 ?_
  exact ev_reti t_106_13 (ri rfl) ⟨_, rfl, rfl, rfl⟩
theorem h106_1000 (hM : 387 ≤ M.1) (hc : Ev d 6 0 [some (.ref 8), some (.int x), some (.int y)] [] (LBB M σ τ) (fun q9 M' => q9 = .inr 1000 ∧ M' = pm_mk (LBB M σ1 τ) 6 (.inr (1000, [])))) : Ev (d + 1) 106 0 [some (.ref 8), some (.int x), some (.int y), none] [] (LBB M σ τ) (fun q9 M' => ∃ v9, q9 = .inl v9 ∧ v9 = some (.int 1) ∧ M' = LBB (pm_mk M 6 (.inr (1000, []))) σ1 τ) := by
  refine ev_aload_n t_106_0 rfl ?_
  refine ev_iload_n t_106_1 rfl ?_
  refine ev_iload_n t_106_2 rfl ?_
  refine ev_call (pm_st_V t_106_3 (as := [.ref 8, .int x, .int y]) (rest := []) (L0 := [some (.ref 8), some (.int x), some (.int y)]) rfl rfl (Nat.le_of_ble_eq_true rfl) (Nat.le_of_ble_eq_true rfl) rfl (es_rc o_MR rfl (Nat.le_of_ble_eq_true rfl))) rfl hc ?_
  rintro _ _ ⟨rfl, rfl⟩
  show Ev (d + 1) 106 9 [some (.ref 8), some (.int x), some (.int y), none] [.ref (7 + (pm_mk (LBB M σ1 τ) 6 (.inr (1000, []))).1)] (pm_mk (LBB M σ1 τ) 6 (.inr (1000, []))) _
  rw [ls_mk hM]
  refine ev_astore_n (L' := [some (.ref 8), some (.int x), some (.int y), some (.ref (7 + (LBB (pm_mk M 6 (.inr (1000, []))) σ1 τ).1))]) t_106_9 (Nat.le_of_ble_eq_true rfl) rfl ?_
  refine ev_iconst t_106_10 ?_
  exact ev_reti t_106_11 (ri rfl) ⟨_, rfl, rfl, rfl⟩
theorem h107o (ho : M.2.2 394 = .inl (.long, 1, f)) (hc : Ev d 7 0 [some (.ref 8), some (.int x), some (.int y), none, none, none] [] (LBB M σ τ) (fun q9 M' => ∃ v9, q9 = .inl v9 ∧ v9 = some (.int v) ∧ M' = LBB M σ1 τ)) : Ev (d + 1) 107 0 [some (.ref 8), some (.int x), some (.int y), some (.ref 394), none] [] (LBB M σ τ) (fun q9 M' => ∃ v9, q9 = .inl v9 ∧ v9 = some (.int 0) ∧ M' = LBB (pm_up M 394 (.inl (.long, 1, pm_uv f 0 (.long (v.toInt64))))) σ1 τ) := by
  refine ev_aload_n t_107_0 rfl ?_
  refine ev_iconst t_107_1 ?_
  change Ev _ _ _ _ ([.int (nI 0), .ref 394]) _ _
  refine ev_aload_n t_107_2 rfl ?_
  refine ev_iload_n t_107_3 rfl ?_
  refine ev_iload_n t_107_4 rfl ?_
  refine ev_cl (pm_st_V t_107_5 (as := [.ref 8, .int x, .int y]) (rest := [.int (nI 0), .ref 394]) (L0 := [some (.ref 8), some (.int x), some (.int y), none, none, none]) rfl rfl (Nat.le_of_ble_eq_true rfl) (Nat.le_of_ble_eq_true rfl) rfl (es_rc o_MR rfl (Nat.le_of_ble_eq_true rfl))) rfl hc ?_
  rintro _ _ ⟨rfl, rfl⟩
  change Ev _ _ _ _ ([.int v, .int (nI 0), .ref 394]) _ _
  refine ev_i2l t_107_8 ?_
  refine ev_last (k := 0) (n := 1) (f := f) t_107_9 (by omega) (by rw [ls_at (by omega)]; exact ho) (by omega) (Nat.le_of_ble_eq_true rfl) ?_
  refine ev_goto t_107_10 ?_
  refine ev_iconst t_107_21 ?_
  exact ev_reti t_107_22 (ri rfl) ⟨_, rfl, rfl, by rw [ls_up]⟩
theorem h107_1000 (hM : 387 ≤ M.1) (hc : Ev d 7 0 [some (.ref 8), some (.int x), some (.int y), none, none, none] [] (LBB M σ τ) (fun q9 M' => q9 = .inr 1000 ∧ M' = pm_mk (LBB M σ1 τ) 6 (.inr (1000, [])))) : Ev (d + 1) 107 0 [some (.ref 8), some (.int x), some (.int y), some (.ref 394), none] [] (LBB M σ τ) (fun q9 M' => ∃ v9, q9 = .inl v9 ∧ v9 = some (.int 1) ∧ M' = LBB (pm_mk M 6 (.inr (1000, []))) σ1 τ) := by
  refine ev_aload_n t_107_0 rfl ?_
  refine ev_iconst t_107_1 ?_
  change Ev _ _ _ _ ([.int (nI 0), .ref 394]) _ _
  refine ev_aload_n t_107_2 rfl ?_
  refine ev_iload_n t_107_3 rfl ?_
  refine ev_iload_n t_107_4 rfl ?_
  refine ev_call (pm_st_V t_107_5 (as := [.ref 8, .int x, .int y]) (rest := [.int (nI 0), .ref 394]) (L0 := [some (.ref 8), some (.int x), some (.int y), none, none, none]) rfl rfl (Nat.le_of_ble_eq_true rfl) (Nat.le_of_ble_eq_true rfl) rfl (es_rc o_MR rfl (Nat.le_of_ble_eq_true rfl))) rfl hc ?_
  rintro _ _ ⟨rfl, rfl⟩
  show Ev (d + 1) 107 13 [some (.ref 8), some (.int x), some (.int y), some (.ref 394), none] [.ref (7 + (pm_mk (LBB M σ1 τ) 6 (.inr (1000, []))).1)] (pm_mk (LBB M σ1 τ) 6 (.inr (1000, []))) _
  rw [ls_mk hM]
  refine ev_astore (L' := [some (.ref 8), some (.int x), some (.int y), some (.ref 394), some (.ref (7 + (LBB (pm_mk M 6 (.inr (1000, []))) σ1 τ).1))]) t_107_13 (Nat.le_of_ble_eq_true rfl) rfl ?_
  refine ev_iconst t_107_15 ?_
  exact ev_reti t_107_16 (ri rfl) ⟨_, rfl, rfl, rfl⟩
theorem h107_1001 (hM : 387 ≤ M.1) (hc : Ev d 7 0 [some (.ref 8), some (.int x), some (.int y), none, none, none] [] (LBB M σ τ) (fun q9 M' => q9 = .inr 1001 ∧ M' = pm_mk (LBB M σ1 τ) 6 (.inr (1000, [])))) : Ev (d + 1) 107 0 [some (.ref 8), some (.int x), some (.int y), some (.ref 394), none] [] (LBB M σ τ) (fun q9 M' => ∃ v9, q9 = .inl v9 ∧ v9 = some (.int 2) ∧ M' = LBB (pm_mk M 6 (.inr (1000, []))) σ1 τ) := by
  refine ev_aload_n t_107_0 rfl ?_
  refine ev_iconst t_107_1 ?_
  change Ev _ _ _ _ ([.int (nI 0), .ref 394]) _ _
  refine ev_aload_n t_107_2 rfl ?_
  refine ev_iload_n t_107_3 rfl ?_
  refine ev_iload_n t_107_4 rfl ?_
  refine ev_call (pm_st_V t_107_5 (as := [.ref 8, .int x, .int y]) (rest := [.int (nI 0), .ref 394]) (L0 := [some (.ref 8), some (.int x), some (.int y), none, none, none]) rfl rfl (Nat.le_of_ble_eq_true rfl) (Nat.le_of_ble_eq_true rfl) rfl (es_rc o_MR rfl (Nat.le_of_ble_eq_true rfl))) rfl hc ?_
  rintro _ _ ⟨rfl, rfl⟩
  show Ev (d + 1) 107 17 [some (.ref 8), some (.int x), some (.int y), some (.ref 394), none] [.ref (7 + (pm_mk (LBB M σ1 τ) 6 (.inr (1000, []))).1)] (pm_mk (LBB M σ1 τ) 6 (.inr (1000, []))) _
  rw [ls_mk hM]
  refine ev_astore (L' := [some (.ref 8), some (.int x), some (.int y), some (.ref 394), some (.ref (7 + (LBB (pm_mk M 6 (.inr (1000, []))) σ1 τ).1))]) t_107_17 (Nat.le_of_ble_eq_true rfl) rfl ?_
  refine ev_iconst t_107_19 ?_
  exact ev_reti t_107_20 (ri rfl) ⟨_, rfl, rfl, rfl⟩
theorem h108o (ho : M.2.2 394 = .inl (.long, 1, f)) (hc : Ev d 9 0 [some (.ref 8), some (.int x), some (.int y)] [] (LBB M σ τ) (fun q9 M' => ∃ v9, q9 = .inl v9 ∧ v9 = some (.int v) ∧ M' = LBB M σ1 τ)) : Ev (d + 1) 108 0 [some (.ref 8), some (.int x), some (.int y), some (.ref 394), none] [] (LBB M σ τ) (fun q9 M' => ∃ v9, q9 = .inl v9 ∧ v9 = some (.int 0) ∧ M' = LBB (pm_up M 394 (.inl (.long, 1, pm_uv f 0 (.long (blI v))))) σ1 τ) := by
  refine ev_aload_n t_108_0 rfl ?_
  refine ev_iconst t_108_1 ?_
  change Ev _ _ _ _ ([.int (nI 0), .ref 394]) _ _
  refine ev_aload_n t_108_2 rfl ?_
  refine ev_iload_n t_108_3 rfl ?_
  refine ev_iload_n t_108_4 rfl ?_
  refine ev_cl (pm_st_V t_108_5 (as := [.ref 8, .int x, .int y]) (rest := [.int (nI 0), .ref 394]) (L0 := [some (.ref 8), some (.int x), some (.int y)]) rfl rfl (Nat.le_of_ble_eq_true rfl) (Nat.le_of_ble_eq_true rfl) rfl (es_rc o_MR rfl (Nat.le_of_ble_eq_true rfl))) rfl hc ?_
  rintro _ _ ⟨rfl, rfl⟩
  change Ev _ _ _ _ ([.int v, .int (nI 0), .ref 394]) _ _
  refine ev_if_eq (y := 0) t_108_8 (fun h => ?_) (fun h => ?_)
  · refine ev_lconst t_108_15 ?_
    refine ev_last (k := 0) (n := 1) (f := f) t_108_16 (by omega) (by rw [ls_at (by omega)]; exact ho) (by omega) (Nat.le_of_ble_eq_true rfl) ?_
    refine ev_goto t_108_17 ?_
    refine ev_iconst t_108_24 ?_
    exact ev_reti t_108_25 (ri rfl) ⟨_, rfl, rfl, by unfold blI; rw [if_pos h, ls_up]; rfl⟩
  · refine ev_lconst t_108_11 ?_
    refine ev_goto t_108_12 ?_
    refine ev_last (k := 0) (n := 1) (f := f) t_108_16 (by omega) (by rw [ls_at (by omega)]; exact ho) (by omega) (Nat.le_of_ble_eq_true rfl) ?_
    refine ev_goto t_108_17 ?_
    refine ev_iconst t_108_24 ?_
    exact ev_reti t_108_25 (ri rfl) ⟨_, rfl, rfl, by unfold blI; rw [if_neg h, ls_up]; rfl⟩
theorem h108_1000 (hM : 387 ≤ M.1) (hc : Ev d 9 0 [some (.ref 8), some (.int x), some (.int y)] [] (LBB M σ τ) (fun q9 M' => q9 = .inr 1000 ∧ M' = pm_mk (LBB M σ1 τ) 6 (.inr (1000, [])))) : Ev (d + 1) 108 0 [some (.ref 8), some (.int x), some (.int y), some (.ref 394), none] [] (LBB M σ τ) (fun q9 M' => ∃ v9, q9 = .inl v9 ∧ v9 = some (.int 1) ∧ M' = LBB (pm_mk M 6 (.inr (1000, []))) σ1 τ) := by
  refine ev_aload_n t_108_0 rfl ?_
  refine ev_iconst t_108_1 ?_
  change Ev _ _ _ _ ([.int (nI 0), .ref 394]) _ _
  refine ev_aload_n t_108_2 rfl ?_
  refine ev_iload_n t_108_3 rfl ?_
  refine ev_iload_n t_108_4 rfl ?_
  refine ev_call (pm_st_V t_108_5 (as := [.ref 8, .int x, .int y]) (rest := [.int (nI 0), .ref 394]) (L0 := [some (.ref 8), some (.int x), some (.int y)]) rfl rfl (Nat.le_of_ble_eq_true rfl) (Nat.le_of_ble_eq_true rfl) rfl (es_rc o_MR rfl (Nat.le_of_ble_eq_true rfl))) rfl hc ?_
  rintro _ _ ⟨rfl, rfl⟩
  show Ev (d + 1) 108 20 [some (.ref 8), some (.int x), some (.int y), some (.ref 394), none] [.ref (7 + (pm_mk (LBB M σ1 τ) 6 (.inr (1000, []))).1)] (pm_mk (LBB M σ1 τ) 6 (.inr (1000, []))) _
  rw [ls_mk hM]
  refine ev_astore (L' := [some (.ref 8), some (.int x), some (.int y), some (.ref 394), some (.ref (7 + (LBB (pm_mk M 6 (.inr (1000, []))) σ1 τ).1))]) t_108_20 (Nat.le_of_ble_eq_true rfl) rfl ?_
  refine ev_iconst t_108_22 ?_
  exact ev_reti t_108_23 (ri rfl) ⟨_, rfl, rfl, rfl⟩
theorem h109o (ho : M.2.2 394 = .inl (.long, 1, f)) (hc : Ev d 10 0 [some (.ref 8), some (.int x), some (.int y), some (.int z), none] [] (LBB M σ τ) (fun q9 M' => ∃ v9, q9 = .inl v9 ∧ v9 = some (.int v) ∧ M' = LBB M σ1 τ)) : Ev (d + 1) 109 0 [some (.ref 8), some (.int x), some (.int y), some (.int z), some (.ref 394), none] [] (LBB M σ τ) (fun q9 M' => ∃ v9, q9 = .inl v9 ∧ v9 = some (.int 0) ∧ M' = LBB (pm_up M 394 (.inl (.long, 1, pm_uv f 0 (.long (v.toInt64))))) σ1 τ) := by
  refine ev_aload t_109_0 rfl ?_
  refine ev_iconst t_109_2 ?_
  change Ev _ _ _ _ ([.int (nI 0), .ref 394]) _ _
  refine ev_aload_n t_109_3 rfl ?_
  refine ev_iload_n t_109_4 rfl ?_
  refine ev_iload_n t_109_5 rfl ?_
  refine ev_iload_n t_109_6 rfl ?_
  refine ev_cl (pm_st_V t_109_7 (as := [.ref 8, .int x, .int y, .int z]) (rest := [.int (nI 0), .ref 394]) (L0 := [some (.ref 8), some (.int x), some (.int y), some (.int z), none]) rfl rfl (Nat.le_of_ble_eq_true rfl) (Nat.le_of_ble_eq_true rfl) rfl (es_rc o_MR rfl (Nat.le_of_ble_eq_true rfl))) rfl hc ?_
  rintro _ _ ⟨rfl, rfl⟩
  change Ev _ _ _ _ ([.int v, .int (nI 0), .ref 394]) _ _
  refine ev_i2l t_109_10 ?_
  refine ev_last (k := 0) (n := 1) (f := f) t_109_11 (by omega) (by rw [ls_at (by omega)]; exact ho) (by omega) (Nat.le_of_ble_eq_true rfl) ?_
  refine ev_goto t_109_12 ?_
  refine ev_iconst t_109_23 ?_
  exact ev_reti t_109_24 (ri rfl) ⟨_, rfl, rfl, by rw [ls_up]⟩
theorem h109_1000 (hM : 387 ≤ M.1) (hc : Ev d 10 0 [some (.ref 8), some (.int x), some (.int y), some (.int z), none] [] (LBB M σ τ) (fun q9 M' => q9 = .inr 1000 ∧ M' = pm_mk (LBB M σ1 τ) 6 (.inr (1000, [])))) : Ev (d + 1) 109 0 [some (.ref 8), some (.int x), some (.int y), some (.int z), some (.ref 394), none] [] (LBB M σ τ) (fun q9 M' => ∃ v9, q9 = .inl v9 ∧ v9 = some (.int 1) ∧ M' = LBB (pm_mk M 6 (.inr (1000, []))) σ1 τ) := by
  refine ev_aload t_109_0 rfl ?_
  refine ev_iconst t_109_2 ?_
  change Ev _ _ _ _ ([.int (nI 0), .ref 394]) _ _
  refine ev_aload_n t_109_3 rfl ?_
  refine ev_iload_n t_109_4 rfl ?_
  refine ev_iload_n t_109_5 rfl ?_
  refine ev_iload_n t_109_6 rfl ?_
  refine ev_call (pm_st_V t_109_7 (as := [.ref 8, .int x, .int y, .int z]) (rest := [.int (nI 0), .ref 394]) (L0 := [some (.ref 8), some (.int x), some (.int y), some (.int z), none]) rfl rfl (Nat.le_of_ble_eq_true rfl) (Nat.le_of_ble_eq_true rfl) rfl (es_rc o_MR rfl (Nat.le_of_ble_eq_true rfl))) rfl hc ?_
  rintro _ _ ⟨rfl, rfl⟩
  show Ev (d + 1) 109 15 [some (.ref 8), some (.int x), some (.int y), some (.int z), some (.ref 394), none] [.ref (7 + (pm_mk (LBB M σ1 τ) 6 (.inr (1000, []))).1)] (pm_mk (LBB M σ1 τ) 6 (.inr (1000, []))) _
  rw [ls_mk hM]
  refine ev_astore (L' := [some (.ref 8), some (.int x), some (.int y), some (.int z), some (.ref 394), some (.ref (7 + (LBB (pm_mk M 6 (.inr (1000, []))) σ1 τ).1))]) t_109_15 (Nat.le_of_ble_eq_true rfl) rfl ?_
  refine ev_iconst t_109_17 ?_
  exact ev_reti t_109_18 (ri rfl) ⟨_, rfl, rfl, rfl⟩
theorem h109_1002 (hM : 387 ≤ M.1) (hc : Ev d 10 0 [some (.ref 8), some (.int x), some (.int y), some (.int z), none] [] (LBB M σ τ) (fun q9 M' => q9 = .inr 1002 ∧ M' = pm_mk (LBB M σ1 τ) 6 (.inr (1000, [])))) : Ev (d + 1) 109 0 [some (.ref 8), some (.int x), some (.int y), some (.int z), some (.ref 394), none] [] (LBB M σ τ) (fun q9 M' => ∃ v9, q9 = .inl v9 ∧ v9 = some (.int 2) ∧ M' = LBB (pm_mk M 6 (.inr (1000, []))) σ1 τ) := by
  refine ev_aload t_109_0 rfl ?_
  refine ev_iconst t_109_2 ?_
  change Ev _ _ _ _ ([.int (nI 0), .ref 394]) _ _
  refine ev_aload_n t_109_3 rfl ?_
  refine ev_iload_n t_109_4 rfl ?_
  refine ev_iload_n t_109_5 rfl ?_
  refine ev_iload_n t_109_6 rfl ?_
  refine ev_call (pm_st_V t_109_7 (as := [.ref 8, .int x, .int y, .int z]) (rest := [.int (nI 0), .ref 394]) (L0 := [some (.ref 8), some (.int x), some (.int y), some (.int z), none]) rfl rfl (Nat.le_of_ble_eq_true rfl) (Nat.le_of_ble_eq_true rfl) rfl (es_rc o_MR rfl (Nat.le_of_ble_eq_true rfl))) rfl hc ?_
  rintro _ _ ⟨rfl, rfl⟩
  show Ev (d + 1) 109 19 [some (.ref 8), some (.int x), some (.int y), some (.int z), some (.ref 394), none] [.ref (7 + (pm_mk (LBB M σ1 τ) 6 (.inr (1000, []))).1)] (pm_mk (LBB M σ1 τ) 6 (.inr (1000, []))) _
  rw [ls_mk hM]
  refine ev_astore (L' := [some (.ref 8), some (.int x), some (.int y), some (.int z), some (.ref 394), some (.ref (7 + (LBB (pm_mk M 6 (.inr (1000, []))) σ1 τ).1))]) t_109_19 (Nat.le_of_ble_eq_true rfl) rfl ?_
  refine ev_iconst t_109_21 ?_
  exact ev_reti t_109_22 (ri rfl) ⟨_, rfl, rfl, rfl⟩
theorem h110o (ho : M.2.2 394 = .inl (.long, 1, f)) (hc : Ev d 11 0 [some (.ref 8), some (.int x), some (.int y), some (.int z), none] [] (LBB M σ τ) (fun q9 M' => ∃ v9, q9 = .inl v9 ∧ v9 = some (.int v) ∧ M' = LBB M σ1 τ)) : Ev (d + 1) 110 0 [some (.ref 8), some (.int x), some (.int y), some (.int z), some (.ref 394), none] [] (LBB M σ τ) (fun q9 M' => ∃ v9, q9 = .inl v9 ∧ v9 = some (.int 0) ∧ M' = LBB (pm_up M 394 (.inl (.long, 1, pm_uv f 0 (.long (v.toInt64))))) σ1 τ) := by
  refine ev_aload t_110_0 rfl ?_
  refine ev_iconst t_110_2 ?_
  change Ev _ _ _ _ ([.int (nI 0), .ref 394]) _ _
  refine ev_aload_n t_110_3 rfl ?_
  refine ev_iload_n t_110_4 rfl ?_
  refine ev_iload_n t_110_5 rfl ?_
  refine ev_iload_n t_110_6 rfl ?_
  refine ev_cl (pm_st_V t_110_7 (as := [.ref 8, .int x, .int y, .int z]) (rest := [.int (nI 0), .ref 394]) (L0 := [some (.ref 8), some (.int x), some (.int y), some (.int z), none]) rfl rfl (Nat.le_of_ble_eq_true rfl) (Nat.le_of_ble_eq_true rfl) rfl (es_rc o_MR rfl (Nat.le_of_ble_eq_true rfl))) rfl hc ?_
  rintro _ _ ⟨rfl, rfl⟩
  change Ev _ _ _ _ ([.int v, .int (nI 0), .ref 394]) _ _
  refine ev_i2l t_110_10 ?_
  refine ev_last (k := 0) (n := 1) (f := f) t_110_11 (by omega) (by rw [ls_at (by omega)]; exact ho) (by omega) (Nat.le_of_ble_eq_true rfl) ?_
  refine ev_goto t_110_12 ?_
  refine ev_iconst t_110_23 ?_
  exact ev_reti t_110_24 (ri rfl) ⟨_, rfl, rfl, by rw [ls_up]⟩
theorem h110_1000 (hM : 387 ≤ M.1) (hc : Ev d 11 0 [some (.ref 8), some (.int x), some (.int y), some (.int z), none] [] (LBB M σ τ) (fun q9 M' => q9 = .inr 1000 ∧ M' = pm_mk (LBB M σ1 τ) 6 (.inr (1000, [])))) : Ev (d + 1) 110 0 [some (.ref 8), some (.int x), some (.int y), some (.int z), some (.ref 394), none] [] (LBB M σ τ) (fun q9 M' => ∃ v9, q9 = .inl v9 ∧ v9 = some (.int 1) ∧ M' = LBB (pm_mk M 6 (.inr (1000, []))) σ1 τ) := by
  refine ev_aload t_110_0 rfl ?_
  refine ev_iconst t_110_2 ?_
  change Ev _ _ _ _ ([.int (nI 0), .ref 394]) _ _
  refine ev_aload_n t_110_3 rfl ?_
  refine ev_iload_n t_110_4 rfl ?_
  refine ev_iload_n t_110_5 rfl ?_
  refine ev_iload_n t_110_6 rfl ?_
  refine ev_call (pm_st_V t_110_7 (as := [.ref 8, .int x, .int y, .int z]) (rest := [.int (nI 0), .ref 394]) (L0 := [some (.ref 8), some (.int x), some (.int y), some (.int z), none]) rfl rfl (Nat.le_of_ble_eq_true rfl) (Nat.le_of_ble_eq_true rfl) rfl (es_rc o_MR rfl (Nat.le_of_ble_eq_true rfl))) rfl hc ?_
  rintro _ _ ⟨rfl, rfl⟩
  show Ev (d + 1) 110 15 [some (.ref 8), some (.int x), some (.int y), some (.int z), some (.ref 394), none] [.ref (7 + (pm_mk (LBB M σ1 τ) 6 (.inr (1000, []))).1)] (pm_mk (LBB M σ1 τ) 6 (.inr (1000, []))) _
  rw [ls_mk hM]
  refine ev_astore (L' := [some (.ref 8), some (.int x), some (.int y), some (.int z), some (.ref 394), some (.ref (7 + (LBB (pm_mk M 6 (.inr (1000, []))) σ1 τ).1))]) t_110_15 (Nat.le_of_ble_eq_true rfl) rfl ?_
  refine ev_iconst t_110_17 ?_
  exact ev_reti t_110_18 (ri rfl) ⟨_, rfl, rfl, rfl⟩
theorem h110_1002 (hM : 387 ≤ M.1) (hc : Ev d 11 0 [some (.ref 8), some (.int x), some (.int y), some (.int z), none] [] (LBB M σ τ) (fun q9 M' => q9 = .inr 1002 ∧ M' = pm_mk (LBB M σ1 τ) 6 (.inr (1000, [])))) : Ev (d + 1) 110 0 [some (.ref 8), some (.int x), some (.int y), some (.int z), some (.ref 394), none] [] (LBB M σ τ) (fun q9 M' => ∃ v9, q9 = .inl v9 ∧ v9 = some (.int 2) ∧ M' = LBB (pm_mk M 6 (.inr (1000, []))) σ1 τ) := by
  refine ev_aload t_110_0 rfl ?_
  refine ev_iconst t_110_2 ?_
  change Ev _ _ _ _ ([.int (nI 0), .ref 394]) _ _
  refine ev_aload_n t_110_3 rfl ?_
  refine ev_iload_n t_110_4 rfl ?_
  refine ev_iload_n t_110_5 rfl ?_
  refine ev_iload_n t_110_6 rfl ?_
  refine ev_call (pm_st_V t_110_7 (as := [.ref 8, .int x, .int y, .int z]) (rest := [.int (nI 0), .ref 394]) (L0 := [some (.ref 8), some (.int x), some (.int y), some (.int z), none]) rfl rfl (Nat.le_of_ble_eq_true rfl) (Nat.le_of_ble_eq_true rfl) rfl (es_rc o_MR rfl (Nat.le_of_ble_eq_true rfl))) rfl hc ?_
  rintro _ _ ⟨rfl, rfl⟩
  show Ev (d + 1) 110 19 [some (.ref 8), some (.int x), some (.int y), some (.int z), some (.ref 394), none] [.ref (7 + (pm_mk (LBB M σ1 τ) 6 (.inr (1000, []))).1)] (pm_mk (LBB M σ1 τ) 6 (.inr (1000, []))) _
  rw [ls_mk hM]
  refine ev_astore (L' := [some (.ref 8), some (.int x), some (.int y), some (.int z), some (.ref 394), some (.ref (7 + (LBB (pm_mk M 6 (.inr (1000, []))) σ1 τ).1))]) t_110_19 (Nat.le_of_ble_eq_true rfl) rfl ?_
  refine ev_iconst t_110_21 ?_
  exact ev_reti t_110_22 (ri rfl) ⟨_, rfl, rfl, rfl⟩
theorem h111o (ho : M.2.2 394 = .inl (.long, 1, f)) (hc : Ev d 13 0 [some (.ref 8), some (.int x)] [] (LBB M σ τ) (fun q9 M' => ∃ v9, q9 = .inl v9 ∧ v9 = some (.int v) ∧ M' = LBB M σ1 τ)) : Ev (d + 1) 111 0 [some (.ref 8), some (.int x), some (.ref 394), none] [] (LBB M σ τ) (fun q9 M' => ∃ v9, q9 = .inl v9 ∧ v9 = some (.int 0) ∧ M' = LBB (pm_up M 394 (.inl (.long, 1, pm_uv f 0 (.long (v.toInt64))))) σ1 τ) := by
  refine ev_aload_n t_111_0 rfl ?_
  refine ev_iconst t_111_1 ?_
  change Ev _ _ _ _ ([.int (nI 0), .ref 394]) _ _
  refine ev_aload_n t_111_2 rfl ?_
  refine ev_iload_n t_111_3 rfl ?_
  refine ev_cl (pm_st_V t_111_4 (as := [.ref 8, .int x]) (rest := [.int (nI 0), .ref 394]) (L0 := [some (.ref 8), some (.int x)]) rfl rfl (Nat.le_of_ble_eq_true rfl) (Nat.le_of_ble_eq_true rfl) rfl (es_rc o_MR rfl (Nat.le_of_ble_eq_true rfl))) rfl hc ?_
  rintro _ _ ⟨rfl, rfl⟩
  change Ev _ _ _ _ ([.int v, .int (nI 0), .ref 394]) _ _
  refine ev_i2l t_111_7 ?_
  refine ev_last (k := 0) (n := 1) (f := f) t_111_8 (by omega) (by rw [ls_at (by omega)]; exact ho) (by omega) (Nat.le_of_ble_eq_true rfl) ?_
  refine ev_goto t_111_9 ?_
  refine ev_iconst t_111_15 ?_
  exact ev_reti t_111_16 (ri rfl) ⟨_, rfl, rfl, by rw [ls_up]⟩
theorem h111_1000 (hM : 387 ≤ M.1) (hc : Ev d 13 0 [some (.ref 8), some (.int x)] [] (LBB M σ τ) (fun q9 M' => q9 = .inr 1000 ∧ M' = pm_mk (LBB M σ1 τ) 6 (.inr (1000, [])))) : Ev (d + 1) 111 0 [some (.ref 8), some (.int x), some (.ref 394), none] [] (LBB M σ τ) (fun q9 M' => ∃ v9, q9 = .inl v9 ∧ v9 = some (.int 1) ∧ M' = LBB (pm_mk M 6 (.inr (1000, []))) σ1 τ) := by
  refine ev_aload_n t_111_0 rfl ?_
  refine ev_iconst t_111_1 ?_
  change Ev _ _ _ _ ([.int (nI 0), .ref 394]) _ _
  refine ev_aload_n t_111_2 rfl ?_
  refine ev_iload_n t_111_3 rfl ?_
  refine ev_call (pm_st_V t_111_4 (as := [.ref 8, .int x]) (rest := [.int (nI 0), .ref 394]) (L0 := [some (.ref 8), some (.int x)]) rfl rfl (Nat.le_of_ble_eq_true rfl) (Nat.le_of_ble_eq_true rfl) rfl (es_rc o_MR rfl (Nat.le_of_ble_eq_true rfl))) rfl hc ?_
  rintro _ _ ⟨rfl, rfl⟩
  show Ev (d + 1) 111 12 [some (.ref 8), some (.int x), some (.ref 394), none] [.ref (7 + (pm_mk (LBB M σ1 τ) 6 (.inr (1000, []))).1)] (pm_mk (LBB M σ1 τ) 6 (.inr (1000, []))) _
  rw [ls_mk hM]
  refine ev_astore_n (L' := [some (.ref 8), some (.int x), some (.ref 394), some (.ref (7 + (LBB (pm_mk M 6 (.inr (1000, []))) σ1 τ).1))]) t_111_12 (Nat.le_of_ble_eq_true rfl) rfl ?_
  refine ev_iconst t_111_13 ?_
  exact ev_reti t_111_14 (ri rfl) ⟨_, rfl, rfl, rfl⟩
theorem h112o (ho : M.2.2 394 = .inl (.long, 1, f)) (hc : Ev d 14 0 [some (.ref 8), some (.int x), some (.int y), none, none] [] (LBB M σ τ) (fun q9 M' => ∃ v9, q9 = .inl v9 ∧ v9 = some (.int v) ∧ M' = LBB M σ1 τ)) : Ev (d + 1) 112 0 [some (.ref 8), some (.int x), some (.int y), some (.ref 394), none] [] (LBB M σ τ) (fun q9 M' => ∃ v9, q9 = .inl v9 ∧ v9 = some (.int 0) ∧ M' = LBB (pm_up M 394 (.inl (.long, 1, pm_uv f 0 (.long (blI v))))) σ1 τ) := by
  refine ev_aload_n t_112_0 rfl ?_
  refine ev_iconst t_112_1 ?_
  change Ev _ _ _ _ ([.int (nI 0), .ref 394]) _ _
  refine ev_aload_n t_112_2 rfl ?_
  refine ev_iload_n t_112_3 rfl ?_
  refine ev_iload_n t_112_4 rfl ?_
  refine ev_cl (pm_st_V t_112_5 (as := [.ref 8, .int x, .int y]) (rest := [.int (nI 0), .ref 394]) (L0 := [some (.ref 8), some (.int x), some (.int y), none, none]) rfl rfl (Nat.le_of_ble_eq_true rfl) (Nat.le_of_ble_eq_true rfl) rfl (es_rc o_MR rfl (Nat.le_of_ble_eq_true rfl))) rfl hc ?_
  rintro _ _ ⟨rfl, rfl⟩
  change Ev _ _ _ _ ([.int v, .int (nI 0), .ref 394]) _ _
  refine ev_if_eq (y := 0) t_112_8 (fun h => ?_) (fun h => ?_)
  · refine ev_lconst t_112_15 ?_
    refine ev_last (k := 0) (n := 1) (f := f) t_112_16 (by omega) (by rw [ls_at (by omega)]; exact ho) (by omega) (Nat.le_of_ble_eq_true rfl) ?_
    refine ev_goto t_112_17 ?_
    refine ev_iconst t_112_24 ?_
    exact ev_reti t_112_25 (ri rfl) ⟨_, rfl, rfl, by unfold blI; rw [if_pos h, ls_up]; rfl⟩
  · refine ev_lconst t_112_11 ?_
    refine ev_goto t_112_12 ?_
    refine ev_last (k := 0) (n := 1) (f := f) t_112_16 (by omega) (by rw [ls_at (by omega)]; exact ho) (by omega) (Nat.le_of_ble_eq_true rfl) ?_
    refine ev_goto t_112_17 ?_
    refine ev_iconst t_112_24 ?_
    exact ev_reti t_112_25 (ri rfl) ⟨_, rfl, rfl, by unfold blI; rw [if_neg h, ls_up]; rfl⟩
theorem h112_1000 (hM : 387 ≤ M.1) (hc : Ev d 14 0 [some (.ref 8), some (.int x), some (.int y), none, none] [] (LBB M σ τ) (fun q9 M' => q9 = .inr 1000 ∧ M' = pm_mk (LBB M σ1 τ) 6 (.inr (1000, [])))) : Ev (d + 1) 112 0 [some (.ref 8), some (.int x), some (.int y), some (.ref 394), none] [] (LBB M σ τ) (fun q9 M' => ∃ v9, q9 = .inl v9 ∧ v9 = some (.int 1) ∧ M' = LBB (pm_mk M 6 (.inr (1000, []))) σ1 τ) := by
  refine ev_aload_n t_112_0 rfl ?_
  refine ev_iconst t_112_1 ?_
  change Ev _ _ _ _ ([.int (nI 0), .ref 394]) _ _
  refine ev_aload_n t_112_2 rfl ?_
  refine ev_iload_n t_112_3 rfl ?_
  refine ev_iload_n t_112_4 rfl ?_
  refine ev_call (pm_st_V t_112_5 (as := [.ref 8, .int x, .int y]) (rest := [.int (nI 0), .ref 394]) (L0 := [some (.ref 8), some (.int x), some (.int y), none, none]) rfl rfl (Nat.le_of_ble_eq_true rfl) (Nat.le_of_ble_eq_true rfl) rfl (es_rc o_MR rfl (Nat.le_of_ble_eq_true rfl))) rfl hc ?_
  rintro _ _ ⟨rfl, rfl⟩
  show Ev (d + 1) 112 20 [some (.ref 8), some (.int x), some (.int y), some (.ref 394), none] [.ref (7 + (pm_mk (LBB M σ1 τ) 6 (.inr (1000, []))).1)] (pm_mk (LBB M σ1 τ) 6 (.inr (1000, []))) _
  rw [ls_mk hM]
  refine ev_astore (L' := [some (.ref 8), some (.int x), some (.int y), some (.ref 394), some (.ref (7 + (LBB (pm_mk M 6 (.inr (1000, []))) σ1 τ).1))]) t_112_20 (Nat.le_of_ble_eq_true rfl) rfl ?_
  refine ev_iconst t_112_22 ?_
  exact ev_reti t_112_23 (ri rfl) ⟨_, rfl, rfl, rfl⟩
end HLP
