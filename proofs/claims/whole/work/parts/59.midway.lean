/-! The reference: worksOut against the class's working. -/
section MD9
variable {d : Nat} {M : pm_M} {Q : pm_R → pm_M → Prop} {T : Nat → List Nat} {f key : Nat}
/-- at a read, or at the end: from there all is well -/
def Mid (d : Nat) (M : pm_M) (Q : pm_R → pm_M → Prop) (t : List Nat) (f key : Nat) (τ0 : Nat → Nat → Int32) (w : WS) (rd : List Nat) : Prop := match w.1 with
  | none => ∀ τ', FrR τ0 τ' → τ' 370 36 = w.2.1 → RdL τ' rd → Q (.inl (some (.int 1))) (sM M τ')
  | some r => ∀ (τ' : Nat → Nat → Int32) (c : Nat) (l : Int32) (sm : List SM) (bf : Nat) (g o5 : Int32), FrR τ0 τ' → MW τ' ((c, 0, l) :: sm) w.2.1 rd → cls sm = w.2.2.2 → VM sm → ow c = 1 → r = rdb c (kOf w.2.1) → Rst (wgt w.2.2.2) (t.drop w.2.2.1) → sm.length + 1 ≤ w.2.2.1 → w.2.2.1 ≤ t.length → sm.length + 1 < bf → bf < 1000 → Ev (d + 4) 61 106 [some (.ref 370), some (.int (nI f)), some (.int (nI key)), some (.int (nI w.2.2.1)), some (.int g), some (.int o5), some (.int (nI bf))] [] (sM M τ') Q
theorem Mid_fr {t : List Nat} {τ0 τ1 : Nat → Nat → Int32} {w : WS} {rd : List Nat} (h : FrR τ0 τ1) (hM : Mid d M Q t f key τ0 w rd) : Mid d M Q t f key τ1 w rd := by
  obtain ⟨w1, v, a, s⟩ := w
  cases w1 with
  | none => exact fun τ' h1 h2 h3 => hM τ' (h.trans h1) h2 h3
  | some r => exact fun τ' c l sm bf g o5 h1 => hM τ' c l sm bf g o5 (h.trans h1)
theorem wgo_end {t : List Nat} {n : Nat} {w : WS} (h : ¬ (w.1 = none ∧ w.2.2.1 < t.length)) : wgo t key n w = w := by
  cases n with
  | zero => rfl
  | succ n => simp only [wgo]; rw [if_neg h]
theorem ow_63 {c : Nat} (h : ow c = 3) : c = 63 := by
  unfold ow at h
  (repeat' split at h) <;> omega
theorem ow_lt {c : Nat} (h : ow c ≠ 9) : c < 256 := by
  unfold ow at h
  (repeat' split at h) <;> omega
theorem ow_58 : ow 58 = 9 := by decide
theorem ow_63' : ow 63 = 3 := by decide
theorem VE_63 {k : Nat} {l : Int32} (h : k ≤ 2) : VE (63, k, l) := ⟨show 63 < 256 by decide, show ow 63 ≠ 9 by decide, show ow 63 ≠ 0 by decide, h, fun e => absurd rfl e, fun e => absurd (show ow 63 = 1 from e) (by decide)⟩
/-- where a value is handed outwards -/
theorem m61h (hf : f < 6) (h24 : (T f).length ≤ 24) (h256 : ∀ c ∈ T f, c < 256) {τ0 : Nat → Nat → Int32} (hX : MX τ0 T) {rd : List Nat} (n a0 : Nat)
    (hOL : ∀ (τ : Nat → Nat → Int32) (sm : List SM) (a : Nat) (v : Int32) (o5 o6 : Option Value), a0 ≤ a → FrR τ0 τ → MW τ sm v rd → VM sm → sm.length ≤ a → a ≤ (T f).length → Rst (1 + wgt (cls sm)) ((T f).drop a) → Mid d M Q (T f) f key τ0 (wgo (T f) key n (none, v, a, cls sm)) rd → Ev (d + 4) 61 15 [some (.ref 370), some (.int (nI f)), some (.int (nI key)), some (.int (nI a)), some (.int (nI 1)), o5, o6] [] (sM M τ) Q) :
    ∀ (sm : List SM) (τ : Nat → Nat → Int32) (a : Nat) (v : Int32) (bf : Nat) (g o5 : Int32), a0 ≤ a → FrR τ0 τ → MW τ sm v rd → VM sm → sm.length ≤ a → a ≤ (T f).length → Rst (wgt (cls sm)) ((T f).drop a) → sm.length < bf → bf < 1000 → Mid d M Q (T f) f key τ0 (wgo (T f) key n (hnd (T f) (cls sm) a v)) rd → Ev (d + 4) 61 106 [some (.ref 370), some (.int (nI f)), some (.int (nI key)), some (.int (nI a)), some (.int g), some (.int o5), some (.int (nI bf))] [] (sM M τ) Q := by
  intro sm
  induction sm with
  | nil =>
    intro τ a v bf g o5 h0a hF hW hV hs ha hRs hb h9 hM
    have e : (T f).drop a = [] := Rst_0 hRs
    have e2 : (T f).length ≤ a := List.drop_eq_nil_iff.mp e
    have e3 : wgo (T f) key n (hnd (T f) (cls []) a v) = (none, v, a, []) := wgo_end (fun h => by
      have h2 : a < (T f).length := h.2
      omega)
    rw [e3] at hM
    exact m61f hW.1 (hM τ hF hW.2.2.1 hW.2.2.2)
  | cons e sm ih =>
    intro τ a v bf g o5 h0a hF hW hV hs ha hRs hb h9 hM
    obtain ⟨c, k, l⟩ := e
    have hV2 : VM sm := fun e he => hV e (List.mem_cons_of_mem _ he)
    have hVe := hV (c, k, l) (by simp)
    obtain ⟨v1, v2, v3, v4, v5, v6⟩ := hVe
    dsimp only at v1 v2 v3 v4 v5 v6
    have hle := ow_le v2
    have hlen : sm.length + 1 ≤ a := by simpa using hs
    have hlt : sm.length < 24 := by omega
    have hb2 : sm.length + 1 < bf := by simpa using hb
    have hw : τ 370 30 = nI (sm.length + 1) := by simpa using hW.1
    have hX1 := MX_frR hF hX
    have c58 : ¬ c = 58 := fun e => v2 (by rw [e]; exact ow_58)
    by_cases h63 : c = 63
    · subst h63
      by_cases k0 : k = 0
      · subst k0
        have ec : cls ((63, 0, l) :: sm) = (63, none) :: cls sm := by simp only [cls]; simp
        rw [ec] at hRs hM
        have ew : wgt ((63, none) :: cls sm) = 2 + wgt (cls sm) := by simp [wgt, ow_63']
        rw [ew] at hRs
        have eh : hnd (T f) ((63, none) :: cls sm) a v = tkf (T f) 63 (cls sm) a v := by simp only [hnd]; rw [if_neg (by omega)]
        rw [eh] at hM
        by_cases hv : v = 0
        · subst hv
          have et : tkf (T f) 63 (cls sm) a 0 = (none, 0, bhd ((T f).drop a) 1 a, cls sm) := by unfold tkf; simp [ow_63']
          rw [et] at hM
          have hbl := bhd_le ((T f).drop a) 1 a
          rw [List.length_drop] at hbl
          have hR2 := Rst_bhd (t := T f) ((T f).drop a) 1 a _ rfl hRs (by omega)
          have ec2 : cls ((63, 2, l) :: sm) = cls sm := by simp only [cls]; simp
          refine m61i (P := fun τ' => MW τ' ((63, 2, l) :: sm) 0 rd ∧ FrR τ τ') hw hb2 h9 (by omega) (m60d hlt hf hX1 h24 h256 ha hRs (by omega) hW) ?_
          rintro τ1 ⟨p1, p2⟩
          have hw1 : τ1 370 30 = nI (sm.length + 1) := by simpa using p1.1
          refine m61g hw1 (by omega) (by omega) (by omega) ?_
          refine hOL τ1 ((63, 2, l) :: sm) _ 0 _ _ (by omega) (hF.trans p2) p1 ?_ (by simp; omega) (by omega) ?_ ?_
          · intro e he
            rcases List.mem_cons.mp he with rfl | he
            · exact VE_63 (by omega)
            · exact hV2 e he
          · rw [ec2]; rw [show 1 + wgt (cls sm) = 2 + wgt (cls sm) - 1 by omega]; exact hR2
          · rw [ec2]; exact hM
        · have et : tkf (T f) 63 (cls sm) a v = (none, v, a, (58, none) :: cls sm) := by unfold tkf; rw [if_neg (by decide), if_neg (by simp), if_pos hv]
          rw [et] at hM
          have ec2 : cls ((63, 1, l) :: sm) = (58, none) :: cls sm := by simp only [cls]; simp
          refine m61i (P := fun τ' => MW τ' ((63, 1, l) :: sm) v rd ∧ FrR τ τ') hw hb2 h9 (by omega) (m60c hlt (by omega) hv hW) ?_
          rintro τ1 ⟨p1, p2⟩
          have hw1 : τ1 370 30 = nI (sm.length + 1) := by simpa using p1.1
          refine m61g hw1 (by omega) (by omega) (by omega) ?_
          refine hOL τ1 ((63, 1, l) :: sm) _ v _ _ (by omega) (hF.trans p2) p1 ?_ (by simp; omega) (by omega) ?_ ?_
          · intro e he
            rcases List.mem_cons.mp he with rfl | he
            · exact VE_63 (by omega)
            · exact hV2 e he
          · rw [ec2]; rw [show 1 + wgt ((58, none) :: cls sm) = 2 + wgt (cls sm) by simp [wgt]; omega]; exact hRs
          · rw [ec2]; exact hM
      · by_cases k1 : k = 1
        · subst k1
          have ec : cls ((63, 1, l) :: sm) = (58, none) :: cls sm := by simp only [cls]; simp
          rw [ec] at hRs hM
          have ew : wgt ((58, none) :: cls sm) = 1 + wgt (cls sm) := by simp [wgt]
          rw [ew] at hRs
          have eh : hnd (T f) ((58, none) :: cls sm) a v = hnd (T f) (cls sm) (bhd ((T f).drop a) 1 a) v := by simp [hnd]
          rw [eh] at hM
          have hbl := bhd_le ((T f).drop a) 1 a
          rw [List.length_drop] at hbl
          have hR2 := Rst_bhd (t := T f) ((T f).drop a) 1 a _ rfl hRs (by omega)
          refine m61i (P := fun τ' => MW τ' sm v rd ∧ FrR τ τ') hw hb2 h9 (by omega) (m60e hlt hf hX1 h24 h256 ha hRs (by omega) hW) ?_
          rintro τ1 ⟨p1, p2⟩
          refine ih τ1 _ v _ _ _ (by omega) (hF.trans p2) p1 hV2 (by omega) (by omega) ?_ (by omega) (by omega) hM
          rw [show wgt (cls sm) = 1 + wgt (cls sm) - 1 by omega]; exact hR2
        · obtain rfl : k = 2 := by omega
          have ec : cls ((63, 2, l) :: sm) = cls sm := by simp only [cls]; simp
          rw [ec] at hRs hM
          refine m61i (P := fun τ' => MW τ' sm v rd ∧ FrR τ τ') hw hb2 h9 (by omega) (m60f hlt (by omega) hW) ?_
          rintro τ1 ⟨p1, p2⟩
          exact ih τ1 _ v _ _ _ (by omega) (hF.trans p2) p1 hV2 (by omega) (by omega) hRs (by omega) (by omega) hM
    · have h3 : ow c ≠ 3 := fun e => h63 (ow_63 e)
      have hk1 := v5 h63
      by_cases h1 : ow c = 1
      · obtain rfl := v6 h1
        have ec : cls ((c, 0, l) :: sm) = (c, none) :: cls sm := by simp only [cls]; simp [h63]
        rw [ec] at hRs hM
        have ew : wgt ((c, none) :: cls sm) = wgt (cls sm) := by simp [wgt, c58, h1]
        rw [ew] at hRs
        have eh : hnd (T f) ((c, none) :: cls sm) a v = (some (rdb c (kOf v)), v, a, cls sm) := by simp only [hnd]; rw [if_neg c58]; unfold tkf; rw [if_pos h1]
        rw [eh, wgo_end (fun h => by cases h.1)] at hM
        exact hM τ c l sm bf g o5 hF hW rfl hV2 h1 rfl hRs hlen ha hb2 h9
      · have h2 : ow c = 2 := by omega
        by_cases k0 : k = 0
        · subst k0
          have ec : cls ((c, 0, l) :: sm) = (c, none) :: cls sm := by simp only [cls]; simp [h63]
          rw [ec] at hRs hM
          have ew : wgt ((c, none) :: cls sm) = 1 + wgt (cls sm) := by simp [wgt, c58, h2]
          rw [ew] at hRs
          have eh : hnd (T f) ((c, none) :: cls sm) a v = (none, v, a, (c, some v) :: cls sm) := by simp only [hnd]; rw [if_neg c58]; unfold tkf; rw [if_neg h1, if_pos h63]
          rw [eh] at hM
          have ec2 : cls ((c, 1, v) :: sm) = (c, some v) :: cls sm := by simp only [cls]; simp [h63]
          refine m61i (P := fun τ' => MW τ' ((c, 1, v) :: sm) v rd ∧ FrR τ τ') hw hb2 h9 (by omega) (m60a h2 hlt (by omega) hW) ?_
          rintro τ1 ⟨p1, p2⟩
          have hw1 : τ1 370 30 = nI (sm.length + 1) := by simpa using p1.1
          refine m61g hw1 (by omega) (by omega) (by omega) ?_
          refine hOL τ1 ((c, 1, v) :: sm) _ v _ _ (by omega) (hF.trans p2) p1 ?_ (by simp; omega) (by omega) ?_ ?_
          · intro e he
            rcases List.mem_cons.mp he with rfl | he
            · exact ⟨v1, v2, v3, show 1 ≤ 2 by omega, fun _ => show 1 ≤ 1 by omega, fun h => absurd h h1⟩
            · exact hV2 e he
          · rw [ec2]; rw [show 1 + wgt ((c, some v) :: cls sm) = 1 + wgt (cls sm) by simp [wgt, c58]]; exact hRs
          · rw [ec2]; exact hM
        · obtain rfl : k = 1 := by omega
          have ec : cls ((c, 1, l) :: sm) = (c, some l) :: cls sm := by simp only [cls]; simp [h63]
          rw [ec] at hRs hM
          have ew : wgt ((c, some l) :: cls sm) = wgt (cls sm) := by simp [wgt, c58]
          rw [ew] at hRs
          have eh : hnd (T f) ((c, some l) :: cls sm) a v = hnd (T f) (cls sm) a (tgt c l v) := by simp only [hnd]; rw [if_neg c58]
          rw [eh] at hM
          refine m61i (P := fun τ' => MW τ' sm (tgt c l v) rd ∧ FrR τ τ') hw hb2 h9 (by omega) (m60b h2 hlt (by omega) hW) ?_
          rintro τ1 ⟨p1, p2⟩
          exact ih τ1 _ _ _ _ _ (by omega) (hF.trans p2) p1 hV2 (by omega) (by omega) hRs (by omega) (by omega) hM
/-- the outer loop -/
theorem m61o (hf : f < 6) (h24 : (T f).length ≤ 24) (h256 : ∀ c ∈ T f, c < 256) {τ0 : Nat → Nat → Int32} (hX : MX τ0 T) {rd : List Nat} : ∀ (n : Nat) (τ : Nat → Nat → Int32) (sm : List SM) (a : Nat) (v : Int32) (o5 o6 : Option Value), (T f).length ≤ n + a → FrR τ0 τ → MW τ sm v rd → VM sm → sm.length ≤ a → a ≤ (T f).length → Rst (1 + wgt (cls sm)) ((T f).drop a) → Mid d M Q (T f) f key τ0 (wgo (T f) key n (none, v, a, cls sm)) rd → Ev (d + 4) 61 15 [some (.ref 370), some (.int (nI f)), some (.int (nI key)), some (.int (nI a)), some (.int (nI 1)), o5, o6] [] (sM M τ) Q := by
  intro n
  induction n with
  | zero =>
    intro τ sm a v o5 o6 hl hF hW hV hs ha hRs hM
    rw [List.drop_eq_nil_of_le (by omega)] at hRs
    have : 1 + wgt (cls sm) = 0 := hRs
    omega
  | succ n ih =>
    intro τ sm a v o5 o6 hl hF hW hV hs ha hRs hM
    have hX1 := MX_frR hF hX
    have hal : a < (T f).length := by
      refine Decidable.byContradiction fun e => ?_
      rw [List.drop_eq_nil_of_le (by omega)] at hRs
      have : 1 + wgt (cls sm) = 0 := hRs
      omega
    have hx : (T f).getD a 0 = (T f)[a] := by simp [List.getD_eq_getElem?_getD, hal]
    rw [drop_at hal] at hRs
    obtain ⟨-, hc9, hRs2⟩ := hRs
    have e1 : wgo (T f) key (n + 1) (none, v, a, cls sm) = wgo (T f) key n (stp (T f) key (none, v, a, cls sm)) := by simp only [wgo]; rw [if_pos ⟨trivial, hal⟩]
    rw [e1] at hM
    by_cases h0 : ow ((T f).getD a 0) = 0
    · have e2 : stp (T f) key (none, v, a, cls sm) = hnd (T f) (cls sm) (a + 1) (if (T f).getD a 0 = 107 then nI key else nI ((T f).getD a 0) - nI 48) := by unfold stp; dsimp only; rw [if_pos h0]
      rw [e2] at hM
      rw [h0] at hRs2
      refine m61v hf hX1 h24 h256 hal hW h0 ?_
      intro τ1 p1 p2
      refine m61h hf h24 h256 hX n (a + 1) ?_ sm τ1 (a + 1) _ _ _ _ (Nat.le_refl _) (hF.trans p2) p1 hV (by omega) (by omega) ?_ (by omega) (by omega) hM
      · intro τ2 sm2 a2 v2 o52 o62 q0 q1 q2 q3 q4 q5 q6 q7
        exact ih τ2 sm2 a2 v2 o52 o62 (by omega) q1 q2 q3 q4 q5 q6 q7
      · rw [show wgt (cls sm) = 1 + wgt (cls sm) + 0 - 1 by omega]; exact hRs2
    · have e2 : stp (T f) key (none, v, a, cls sm) = (none, v, a + 1, ((T f).getD a 0, none) :: cls sm) := by unfold stp; dsimp only; rw [if_neg h0]
      rw [e2] at hM
      have hle := ow_le hc9
      have hx2 : (T f).getD a 0 < 256 := by rw [hx]; exact h256 _ (List.getElem_mem hal)
      refine m61p (l := 0) hf hX1 h24 h256 hal hW hs hc9 h0 ?_
      intro τ1 p1 p2
      have ec : cls (((T f).getD a 0, 0, (0 : Int32)) :: sm) = ((T f).getD a 0, none) :: cls sm := by
        by_cases e : (T f).getD a 0 = 63
        · rw [e]; simp [cls]
        · simp only [cls]; simp only [if_neg e, if_pos]
      have c58 : ¬ (T f).getD a 0 = 58 := fun e => hc9 (by rw [e]; exact ow_58)
      have ew : wgt (((T f).getD a 0, none) :: cls sm) = ow ((T f).getD a 0) - 1 + wgt (cls sm) := by simp only [wgt]; rw [if_neg c58]
      refine ih τ1 (((T f).getD a 0, 0, 0) :: sm) (a + 1) v _ _ (by omega) (hF.trans p2) p1 ?_ (by simp; omega) (by omega) ?_ ?_
      · intro e he
        rcases List.mem_cons.mp he with rfl | he
        · exact ⟨hx2, hc9, h0, Nat.zero_le _, fun _ => Nat.zero_le _, fun _ => rfl⟩
        · exact hV e he
      · rw [ec, ew, show 1 + (ow ((T f).getD a 0) - 1 + wgt (cls sm)) = 1 + wgt (cls sm) + ow ((T f).getD a 0) - 1 by omega]; exact hRs2
      · rw [ec]; exact hM
end MD9
