/-! The law: its beginning, its loop. -/
def S0 : SP := (sg0, [], fun _ => [])
theorem sg_c {n k : Nat} (h : n < 96) : sg0 (38 + 2 * n) k = if k = 5 then 2 else 0 := by
  unfold sg0
  rw [if_neg (by omega), if_neg (by omega), if_neg (by omega), if_pos (by omega), if_pos (by omega)]
theorem i_RC : RC sg0 S0 := by
  refine ⟨fun _ _ _ => rfl, ⟨List.nodup_nil, fun x hx => (by cases hx), rfl, fun n hn => ?_, ⟨rfl, rfl⟩, trivial, trivial⟩, fun n hn => ⟨?_, fun i hi => absurd hi (Nat.not_lt_zero i)⟩⟩
  · show sg0 21 n = if n ∈ ([] : List Nat) then 1 else 0
    rw [if_neg (by simp)]; rfl
  · rw [sg_c hn]; rfl
theorem i_GW : GW (fun _ => [48]) S0 := by
  refine ⟨fun n hn => ⟨⟨2, by omega, ?_⟩, Nat.zero_le _, fun r hr => (by cases hr)⟩, fun k hk => ⟨0, by omega, rfl⟩, fun f hf => ⟨?_, by simp, fun c hc => ?_, fun i hi => ?_⟩⟩
  · show sg0 (38 + 2 * n) 5 = _
    rw [sg_c hn]; rfl
  · show sg0 (26 + 2 * f) 1 = _
    unfold sg0
    rw [if_neg (by omega), if_neg (by omega), if_pos (by omega), if_pos (by omega)]
    rfl
  · rw [List.mem_singleton] at hc; omega
  · obtain rfl : i = 0 := by simpa using hi
    show sg0 (26 + 2 * f + 1) 0 = _
    unfold sg0
    rw [if_neg (by omega), if_neg (by omega), if_pos (by omega), if_neg (by omega)]
    rfl
theorem i_TW : TW (fun _ => [48]) := fun f _ => ⟨⟨by decide, by decide, by show 1 + ow 48 - 1 = 0; decide⟩, by simp, fun c hc => by rw [List.mem_singleton] at hc; omega⟩
theorem i_RM : RM tg0 S0 0 := by
  refine ⟨⟨⟨rfl, rfl, rfl, rfl, rfl, rfl⟩, fun k hk => ⟨rfl, rfl⟩, fun k hk => ⟨rfl, rfl⟩, fun k hk => rfl⟩, fun n hn => ?_, fun n hn => (by cases hn), ⟨fun _ => 0, rfl, fun n hn => (by cases hn), List.Pairwise.nil⟩, List.nodup_nil, fun n hn => (by cases hn)⟩
  show tg0 379 n = bI (decide (n ∈ []))
  rw [decide_eq_false (by simp)]; rfl
theorem i_MX : MX tg0 (fun _ => [48]) := by
  refine fun f hf => ⟨?_, fun i hi => ?_⟩
  · rcases (show f = 0 ∨ f = 1 ∨ f = 2 ∨ f = 3 ∨ f = 4 ∨ f = 5 by omega) with rfl | rfl | rfl | rfl | rfl | rfl <;> rfl
  · obtain rfl : i = 0 := by simpa using hi
    show tg0 372 (24 * f + 0) = _
    unfold tg0
    rw [if_neg (by decide), if_pos rfl, if_pos (by omega)]
    rfl
theorem i_CI : CI (fun _ => [48]) S0 0 [] 96 sg0 tg0 := ⟨⟨i_RC, i_RM⟩, i_GW, i_TW, i_MX, ⟨rfl, fun i hi => absurd hi (Nat.not_lt_zero i)⟩, Txt_0 rfl, rfl, by omega, by omega⟩
def QL (q9 : pm_R) (M' : pm_M) : Prop := q9 = .inl (some (.int 1)) ∧ M'.1 ≤ 600000 ∧ M'.2.1 ≤ 7000000
section LAW
variable {Ls : Nat} {xs : Nat → Int32}
theorem l_step {Q : pm_R → pm_M → Prop} {n : Nat} {M : pm_M} {σ τ : Nat → Nat → Int32} {o5 o6 : Option Value} (hn : 4 * n + 4 ≤ Ls) (hL : Ls ≤ 2048) (h : LI Ls xs n M σ τ) (kk : ∀ M1 σ1 τ1 p5 p6, LI Ls xs (n + 1) M1 σ1 τ1 → Ev 127 113 23 (L9 (n + 1) p5 p6) [] (LBB M1 σ1 τ1) Q) : Ev 127 113 23 (L9 n o5 o6) [] (LBB M σ τ) Q := by
  have kk2 : ∀ M1 σ1 τ1 p5 p6, LI Ls xs (n + 1) M1 σ1 τ1 → Ev 127 113 928 (L9 n p5 p6) [] (LBB M1 σ1 τ1) Q := by
    intro M1 σ1 τ1 p5 p6 h1
    have e4 : nI (4 * n) + 4 = nI (4 * (n + 1)) := by rw [show 4 * (n + 1) = 4 * n + 4 by omega, ← nI_add]; rfl
    refine ev_iinc (x := nI (4 * n)) (L' := L9 (n + 1) p5 p6) t_113_928 rfl (Nat.le_of_ble_eq_true rfl) ?_ ?_
    · show [some (.ref 0), some (.ref 8), some (.ref 370), some (.ref 394), some (.int (nI (4 * n) + 4)), p5, p6] = _
      rw [e4]
    · refine ev_goto t_113_931 ?_
      exact kk M1 σ1 τ1 p5 p6 h1
  have h0 : (LBB M σ τ).2.2 0 = .inl (.int, Ls, fun j => .int (xs j)) := by rw [ls_at (by omega)]; exact h.1.2.2.1
  refine ev_iload t_113_23 rfl ?_
  refine ev_aload_n t_113_25 rfl ?_
  refine ev_alen t_113_26 h0 ?_
  refine ev_iconst t_113_27 ?_
  change Ev _ _ _ _ ([.int (nI 4), .int (nI Ls), .int (nI (4 * n))]) _ _
  refine ev_isubN t_113_28 (by omega) ?_
  refine ev_icmp_gtN t_113_29 (by omega) (by omega) (fun h_29 => ?_) (fun h_29 => ?_)
  · omega
  · refine ev_aload_n t_113_32 rfl ?_
    refine ev_iload t_113_33 rfl ?_
    refine es_al (k := 4 * n) (ok := fun ty => ty == .int) (f := fun j => .int (xs j)) t_113_35 rfl (fun _ _ _ => rfl) h0 rfl (by omega) (by omega) ?_
    change Ev _ _ _ _ ([.int (xs (4 * n))]) _ _
    refine ev_bipush t_113_36 ?_
    change Ev _ _ _ _ ([.int (nI 15), .int (xs (4 * n))]) _ _
    refine ev_iand t_113_38 ?_
    refine ev_switch t_113_39 (fun k hk hx => ?_) (fun hx => ?_)
    · have hk2 : k < 14 := hk
      rcases (show k = 0 ∨ k = 1 ∨ k = 2 ∨ k = 3 ∨ k = 4 ∨ k = 5 ∨ k = 6 ∨ k = 7 ∨ k = 8 ∨ k = 9 ∨ k = 10 ∨ k = 11 ∨ k = 12 ∨ k = 13 by omega) with rfl | rfl | rfl | rfl | rfl | rfl | rfl | rfl | rfl | rfl | rfl | rfl | rfl | rfl
      · exact s0 hn hL h kk2
      · exact s1 hn hL h kk2
      · exact s2 hn hL h kk2
      · exact s3 hn hL h kk2
      · exact s4 hn hL h kk2
      · exact s5 hn hL h kk2
      · exact s6 hn hL h kk2
      · exact s7 hn hL h kk2
      · exact s8 hn hL h kk2
      · exact s9 hn hL h kk2
      · exact s10 hn hL h kk2
      · exact s11 hn hL h kk2
      · exact s12 hn hL h kk2
      · exact s13 hn hL h kk2
    · obtain ⟨hH, T, S, ck, dr, b, hC, hck⟩ := h
      exact kk2 M σ τ o5 o6 ⟨HI_s hH, T, S, ck, dr, b, hC, by omega⟩
theorem l_end {n : Nat} {M : pm_M} {σ τ : Nat → Nat → Int32} {o5 o6 : Option Value} (hn : n = Ls / 4) (hL : Ls ≤ 2048) (h : LI Ls xs n M σ τ) : Ev 127 113 23 (L9 n o5 o6) [] (LBB M σ τ) QL := by
  have h0 : (LBB M σ τ).2.2 0 = .inl (.int, Ls, fun j => .int (xs j)) := by rw [ls_at (by omega)]; exact h.1.2.2.1
  have hq : Ev 127 113 934 (L9 n o5 o6) [] (LBB M σ τ) QL := by
    refine ev_iconst t_113_934 ?_
    refine ev_reti t_113_935 (rz rfl (by decide)) ⟨rfl, ?_, ?_⟩
    · have := h.1.1.2
      show M.1 ≤ 600000
      omega
    · have := h.1.2.1
      show M.2.1 ≤ 7000000
      omega
  refine ev_iload t_113_23 rfl ?_
  refine ev_aload_n t_113_25 rfl ?_
  refine ev_alen t_113_26 h0 ?_
  refine ev_iconst t_113_27 ?_
  change Ev _ _ _ _ ([.int (nI 4), .int (nI Ls), .int (nI (4 * n))]) _ _
  by_cases h4 : Ls < 4
  · obtain rfl : n = 0 := by omega
    refine ev_isub t_113_28 ?_
    refine ev_icmp_gt t_113_29 (fun _ => hq) (fun h9 => absurd ?_ h9)
    rcases (show Ls = 0 ∨ Ls = 1 ∨ Ls = 2 ∨ Ls = 3 by omega) with e | e | e | e <;> (rw [e]; decide)
  · refine ev_isubN t_113_28 (by omega) ?_
    refine ev_icmp_gtN t_113_29 (by omega) (by omega) (fun _ => hq) (fun h9 => ?_)
    omega
theorem l_loop (hL : Ls ≤ 2048) : ∀ (j n : Nat) (M : pm_M) (σ τ : Nat → Nat → Int32) (o5 o6 : Option Value), n + j = Ls / 4 → LI Ls xs n M σ τ → Ev 127 113 23 (L9 n o5 o6) [] (LBB M σ τ) QL := by
  intro j
  induction j with
  | zero => intro n M σ τ o5 o6 hn h; exact l_end (by omega) hL h
  | succ j ih =>
    intro n M σ τ o5 o6 hn h
    exact l_step (by omega) hL h (fun M1 σ1 τ1 p5 p6 h1 => ih (n + 1) M1 σ1 τ1 p5 p6 (by omega) h1)
theorem fh_nil {lo c s : Nat} {F : Nat → pm_E} {M : pm_M} (h : 8 + c ≤ lo) : fh lo F c s M = (c, s, M.2.2) := by
  unfold fh
  refine Prod.ext rfl (Prod.ext rfl ?_)
  funext q
  dsimp only
  rw [if_neg (by omega)]
def M9 (Ls : Nat) (xs : Nat → Int32) : pm_M := (387, 9910, fun q => if q = 394 then .inl (.long, 1, fun _ => .long 0) else (pu_M0 Ls xs).2.2 q)
theorem i_LI : LI Ls xs 0 (M9 Ls xs) sg0 tg0 := by
  refine ⟨⟨⟨Nat.le_refl _, Nat.le_refl _⟩, Nat.le_refl _, ?_, fun _ => .long 0, 0, ?_, rfl⟩, _, _, _, _, _, i_CI, Nat.zero_le _⟩
  · rfl
  · rfl
theorem l_heap {s1 s2 : Nat} (h : s2 + 1 = 9910) : pm_mk (fh 370 (FM 6) 386 s2 (fh 8 (FB 6 96 20) 362 s1 (pu_M0 Ls xs))) 1 (.inl (.long, 1, fun _ => .long 0)) = LBB (M9 Ls xs) sg0 tg0 := by
  unfold pm_mk fh LBB sC sM sl M9
  refine Prod.ext rfl (Prod.ext h ?_)
  funext q
  dsimp only
  (repeat' split) <;> first | exact FB_end | exact FM_end | rfl | omega
theorem l_all (hL : Ls ≤ 2048) : Ev 127 113 0 [some (.ref 0), none, none, none, none, none, none] [] (pu_M0 Ls xs) QL := by
  have e0 : fh 8 (fun _ => .inr (1000, [])) 0 0 (pu_M0 Ls xs) = pu_M0 Ls xs := by rw [fh_nil (by omega)]; rfl
  have e1 : fh 370 (fun _ => .inr (1000, [])) 362 (0 + 590 + 156 + 2976 + 2660) (fh 8 (FB 6 96 20) 362 (0 + 590 + 156 + 2976 + 2660) (pu_M0 Ls xs)) = fh 8 (FB 6 96 20) 362 (0 + 590 + 156 + 2976 + 2660) (pu_M0 Ls xs) := by rw [fh_nil (by omega)]; rfl
  rw [← e0]
  refine ef_new (q := 8) (c' := 1) (s' := 0 + 15) t_113_0 (Nat.le_of_ble_eq_true rfl) (by omega) rfl rfl rfl rfl ?_
  refine ev_dup t_113_3 rfl ?_
  refine ev_cl (pm_st_I t_113_4 (Nat.le_of_ble_eq_true rfl) (as := [.ref 8]) (rest := [.ref 8]) (L0 := [some (.ref 8), none]) rfl rfl (Nat.le_of_ble_eq_true rfl) (Nat.le_of_ble_eq_true rfl) rfl (ef_rc (cc := 6) (by omega) uF_at rfl (Nat.le_of_ble_eq_true rfl))) rfl (k0 (d := 124) (s := 0) uF_at) ?_
  rintro _ _ ⟨rfl, rfl⟩
  change Ev _ _ _ _ ([.ref 8]) _ _
  refine ev_astore_n (L' := [some (.ref 0), some (.ref 8), none, none, none, none, none]) t_113_7 (Nat.le_of_ble_eq_true rfl) rfl ?_
  rw [← e1]
  refine ef_new (q := 370) (c' := 363) (s' := 0 + 590 + 156 + 2976 + 2660 + 37) t_113_8 (Nat.le_of_ble_eq_true rfl) (by omega) rfl rfl rfl rfl ?_
  refine ev_dup t_113_11 rfl ?_
  refine ev_cl (pm_st_I t_113_12 (Nat.le_of_ble_eq_true rfl) (as := [.ref 370]) (rest := [.ref 370]) (L0 := [some (.ref 370), none]) rfl rfl (Nat.le_of_ble_eq_true rfl) (Nat.le_of_ble_eq_true rfl) rfl (ef_rc (cc := 7) (by omega) uF_at rfl (Nat.le_of_ble_eq_true rfl))) rfl (k39 (d := 126) (s := 0 + 590 + 156 + 2976 + 2660) uF_at) ?_
  rintro _ _ ⟨rfl, rfl⟩
  change Ev _ _ _ _ ([.ref 370]) _ _
  refine ev_astore_n (L' := [some (.ref 0), some (.ref 8), some (.ref 370), none, none, none, none]) t_113_15 (Nat.le_of_ble_eq_true rfl) rfl ?_
  refine ev_iconst t_113_16 ?_
  change Ev _ _ _ _ ([.int (nI 1)]) _ _
  refine ev_newarray t_113_17 (Nat.le_of_ble_eq_true rfl) ?_
  change Ev _ _ _ _ ([.ref 394]) (pm_mk (fh 370 (FM 6) 386 (0 + 590 + 156 + 2976 + 2660 + 3527) (fh 8 (FB 6 96 20) 362 (0 + 590 + 156 + 2976 + 2660) (pu_M0 Ls xs))) 1 (.inl (.long, 1, fun _ => .long 0))) _
  rw [l_heap rfl]
  refine ev_astore_n (L' := [some (.ref 0), some (.ref 8), some (.ref 370), some (.ref 394), none, none, none]) t_113_19 (Nat.le_of_ble_eq_true rfl) rfl ?_
  refine ev_iconst t_113_20 ?_
  change Ev _ _ _ _ ([.int (nI 0)]) _ _
  refine ev_istore (L' := L9 0 none none) t_113_21 (Nat.le_of_ble_eq_true rfl) rfl ?_
  exact l_loop hL (Ls / 4) 0 _ _ _ none none (by omega) i_LI
end LAW
theorem pu_law9 : pu_Law := by
  intro L xs hL
  obtain ⟨n, r, M', h1, h2, h3, h4⟩ := l_all (Ls := L) (xs := xs) hL
  subst h2
  exact ⟨n, 127, M', by omega, h1, h3, h4⟩
