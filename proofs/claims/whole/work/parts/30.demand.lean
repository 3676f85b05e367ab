/-! Demanding, defining. -/
/-- what the small changes keep, an asking keeps -/
def KI (I : SP → Prop) : Prop := (∀ S n, n < 96 → I S → I (doSk S n)) ∧ (∀ S n, n < 96 → I S → I (ci1 S n)) ∧ (∀ S n, n < 96 → I S → I (vfyE S n)) ∧ (∀ S n v rd, n < 96 → I S → I (kpE S n v rd)) ∧ ∀ S n, n < 96 → I S → I (S.1, put S.2.1 n, S.2.2)
theorem cis_inv {I : SP → Prop} (hI : KI I) : ∀ (l : List Nat) (S : SP), (∀ x ∈ l, x < 96) → I S → I (l.foldl ci1 S) := by
  intro l
  induction l with
  | nil => intro S _ h; exact h
  | cons n l ih => intro S hl h; exact ih _ (fun x hx => hl x (List.mem_cons_of_mem _ hx)) (hI.2.1 S n (hl n (by simp)) h)
theorem askR_inv {T : Nat → List Nat} {I : SP → Prop} {A : Nat → SP → Nat × SP} (hA : ∀ n S, n < 96 → GW T S → I S → I (A n S).2) {r : Nat} {S : SP} (hr : RdOk r) (hS : GW T S) (h : I S) : I (askR A r S).2 := by
  unfold askR
  unfold RdOk at hr
  split
  · exact h
  · exact hA _ S (by omega) hS h
theorem vfy_inv {T : Nat → List Nat} {u : List Nat} {I : SP → Prop} (hI : KI I) {A : Nat → SP → Nat × SP} (hK : AK T u A) (hA : ∀ n S, n < 96 → GW T S → I S → I (A n S).2) {n : Nat} (hn : n < 96) : ∀ (l : List Nat) (S : SP), (∀ r ∈ l, RdOk r) → GW T S → I S → I (vfy A n l S).2 := by
  intro l
  induction l with
  | nil => intro S _ _ h; exact hI.2.2.1 S n hn h
  | cons r l ih =>
    intro S hr hS h
    have g := askR_inv hA (hr r (by simp)) hS h
    simp only [vfy]
    split
    · exact g
    · split
      · exact ih _ (fun r' h' => hr r' (List.mem_cons_of_mem _ h')) (AK_r hK (hr r (by simp)) hS).1.1 g
      · exact g
theorem rnW_inv {T : Nat → List Nat} {u : List Nat} {I : SP → Prop} (hI : KI I) {A : Nat → SP → Nat × SP} (hK : AK T u A) (hA : ∀ n S, n < 96 → GW T S → I S → I (A n S).2) {t : List Nat} (hv9 : ∀ c ∈ t, ow c ≠ 9) {key n : Nat} (hn : n < 96) : ∀ (k i : Nat) (w : WS) (rd : List Nat) (S : SP), WI t i w → GW T S → I S → I (rnW A t key n k w rd S).2 := by
  intro k
  induction k with
  | zero => intro i w rd S _ _ h; exact hI.2.2.2.1 S n _ rd hn h
  | succ k ih =>
    intro i w rd S hW hS h
    obtain ⟨wd, v, a, s⟩ := w
    cases wd with
    | none => exact hI.2.2.2.1 S n _ rd hn h
    | some r =>
      have hro := hW.2.2.2 r rfl
      have g := askR_inv hA hro hS h
      simp only [rnW]
      split
      · exact g
      · exact ih (i + 1) _ _ _ (wgo_inv hv9 24 _ (wtk_inv hW rfl)) (AK_r hK hro hS).1.1 g
theorem ask_inv {T : Nat → List Nat} (hT : ∀ f, f < 6 → Rst 1 (T f)) {I : SP → Prop} (hI : KI I) : ∀ (k : Nat) (u : List Nat), (∀ x ∈ u, x < 96) → ∀ n S, n < 96 → GW T S → I S → I (ask T k u n S).2 := by
  intro k
  induction k with
  | zero =>
    intro u hu n S hn hS h
    unfold ask
    split
    · exact cis_inv hI _ S (fun x hx => hu x (List.mem_of_mem_drop hx)) h
    · split
      · exact h
      · split
        · exact hI.1 S n hn h
        · exact h
  | succ k ih =>
    intro u hu n S hn hS h
    unfold ask
    split
    · exact cis_inv hI _ S (fun x hx => hu x (List.mem_of_mem_drop hx)) h
    · split
      · exact h
      · split
        · exact hI.1 S n hn h
        · have hub' : ∀ x ∈ u ++ [n], x < 96 := fun x hx => by
            rcases List.mem_append.mp hx with h | h
            · exact hu x h
            · simp at h; omega
          have hA := ih (u ++ [n]) hub'
          have hK := ask_ok hT k (u ++ [n])
          have hv9 := Rst.val _ _ (hT (n / 16) (by omega))
          have g1 : I (ask1 (ask T k (u ++ [n])) (T (n / 16)) n S).2 := by
            unfold ask1
            split
            · exact vfy_inv hI hK hA hn _ S (hS.1 n hn).2.2 hS h
            · exact h
          have g2 : I (ask2 (ask T k (u ++ [n])) (T (n / 16)) n (ask1 (ask T k (u ++ [n])) (T (n / 16)) n S)).2 := by
            have o1 := ask1_ok hK hn hS (T (n / 16))
            unfold ask2
            split
            · exact rnW_inv hI hK hA hv9 hn 24 0 _ _ _ (wgo_inv hv9 24 _ (WI0 _ 0)) o1.1.1 g1
            · exact g1
          unfold ask3
          split
          · exact hI.2.2.2.2 _ n hn g2
          · exact g2
/-- rows that an asking never touches -/
def KR (q k : Nat) : Prop := (9 ≤ q ∧ q < 20) ∨ (26 ≤ q ∧ q < 38) ∨ (q = 8 ∧ k = 7)
theorem KI_r {q k : Nat} (h : KR q k) (x : Int32) : KI (fun S => S.1 q k = x) := by
  unfold KR at h
  refine ⟨fun S n hn e => ?_, fun S n hn e => ?_, fun S n hn e => ?_, fun S n v rd hn e => ?_, fun S n hn e => e⟩
  · unfold doSk; dsimp only; rw [u2_off (by omega), u2_off (by omega)]; exact e
  · unfold ci1; dsimp only; rw [u2_off (by omega), u2_off (by omega), u2_off (by omega), u2_off (by omega), u2_off (by omega), u2_off (by omega)]; exact e
  · unfold vfyE vfyG; dsimp only; rw [u2_off (by omega), u2_off (by omega), u2_off (by omega)]; exact e
  · unfold kpE kpS kpG
    dsimp only
    rw [u2_off (by omega), u2_off (by omega), u2_off (by omega), u2_off (by omega), u2_off (by omega)]
    split
    · exact e
    · rw [u2_off (by omega)]; exact e
def dmd (T : Nat → List Nat) : Nat → Nat → SP → Nat × SP
  | 0, _, S => (3, S)
  | k + 1, n, S => if (ask T 20 [] n S).1 = 3 then dmd T k n (ask T 20 [] n S).2 else ask T 20 [] n S
theorem dmd_ok {T : Nat → List Nat} (hT : ∀ f, f < 6 → Rst 1 (T f)) {I : SP → Prop} (hI : KI I) {n : Nat} (hn : n < 96) : ∀ (k : Nat) (S : SP), GW T S → I S → GW T (dmd T k n S).2 ∧ I (dmd T k n S).2 := by
  intro k
  induction k with
  | zero => intro S hS h; exact ⟨hS, h⟩
  | succ k ih =>
    intro S hS h
    have g1 := (ask_ok hT 20 [] n S hn hS).1.1
    have g2 := ask_inv hT hI 20 [] (fun x hx => by cases hx) n S hn hS h
    simp only [dmd]
    split
    · exact ih _ g1 g2
    · exact ⟨g1, g2⟩
def dmS (x : Nat × SP) (n b : Nat) : SP := (x.2.1, (put x.2.2.1 n).drop ((put x.2.2.1 n).length - b), x.2.2.2)
/-- how a demand ends -/
def dmP (M : pm_M) (x : Nat × SP) (n b : Nat) (q9 : pm_R) (M' : pm_M) : Prop := ∃ σ', (x.1 = 1 ∧ q9 = .inl (some (.int (x.2.1 (38 + 2 * n) 0))) ∧ M' = sC M σ' ∧ RC σ' (dmS x n b)) ∨ (¬ x.1 = 1 ∧ q9 = .inr 1001 ∧ M' = pm_mk (sC M σ') 6 (.inr (1000, [])) ∧ RC σ' x.2)
section DM
variable {d : Nat} {M : pm_M} {T : Nat → List Nat}
theorem c7e {σ : Nat → Nat → Int32} {x : Nat × SP} {n b : Nat} {o5 : Option Value} {x1 x2 : Int32} (hn : n < 96) (hb : b < 97) (eb : x.2.1 8 7 = nI b) (hx : x.1 = 1 ∨ x.1 = 3 ∨ x.1 = 4) (hR : RC σ x.2) : Ev (d + 3) 7 53 [some (.ref 8), some (.int x1), some (.int x2), some (.int (nI n)), some (.ref x.1), o5] [] (sC M σ) (dmP M x n b) := by
  obtain ⟨σ1, h1, hR1, hF1⟩ := c82 (d := d) (M := M) hn hR.2.1
  have hR2 := RC_o hF1 hR1 hR
  have hc := c24 (d := d) (M := M) hb (show (x.2.1, x.2.2.1.erase n ++ [n], x.2.2.2).1 8 7 = nI b from eb) hR2
  refine ev_aload t_7_53 rfl ?_
  refine ev_getstatic t_7_55 ?_
  refine ev_acmp_eq t_7_58 (by omega) (fun h_58 => ?_) (fun h_58 => ?_)
  · refine ev_aload_n t_7_71 rfl ?_
    refine es_get (x := .ref 20) o_MR t_7_72 rfl ?_
    refine ev_iload_n t_7_75 rfl ?_
    refine ev_cl (pm_st_V t_7_76 (as := [.ref 20, .int (nI (n))]) (rest := []) (L0 := [some (.ref 20), some (.int (nI (n))), none]) rfl rfl (Nat.le_of_ble_eq_true rfl) (Nat.le_of_ble_eq_true rfl) rfl (es_rc o_RO rfl (Nat.le_of_ble_eq_true rfl))) rfl (h1) ?_
    rintro _ _ ⟨rfl, rfl⟩
    change Ev _ _ _ _ ([]) _ _
    refine ev_aload_n t_7_79 rfl ?_
    refine ev_cl (pm_st_V t_7_80 (as := [.ref 8]) (rest := []) (L0 := [some (.ref 8), none, none]) rfl rfl (Nat.le_of_ble_eq_true rfl) (Nat.le_of_ble_eq_true rfl) rfl (es_rc o_MR rfl (Nat.le_of_ble_eq_true rfl))) rfl (hc) ?_
    rintro _ _ ⟨rfl, σ2, rfl, h9⟩
    change Ev _ _ _ _ ([.int (nI ((x.2.2.1.erase n ++ [n]).length - b))]) _ _
    refine ev_pop t_7_83 rfl ?_
    refine ev_aload_n t_7_84 rfl ?_
    refine es_get (x := .ref 19) o_MR t_7_85 rfl ?_
    refine ev_iload_n t_7_88 rfl ?_
    refine es_rald (k := n) (x := .ref (38 + 2 * n)) r_CA t_7_89 (by omega) rfl ?_
    refine es_get (x := .int (σ2 (38 + 2 * n) 0)) (o_Ce (n := n) (by omega)) t_7_90 rfl ?_
    rw [h9.1 (38 + 2 * n) 0 (by unfold Dk; omega)]
    exact ev_reti t_7_93 (ri rfl) ⟨_, Or.inl ⟨h_58, rfl, rfl, h9⟩⟩
  · exact ev_throw t_7_61 (Nat.le_of_ble_eq_true rfl) (Nat.le_of_ble_eq_true rfl) ⟨_, Or.inr ⟨h_58, rfl, rfl, hR⟩⟩
theorem c7l (hT : ∀ f, f < 6 → Rst 1 (T f)) {n b : Nat} {x1 x2 : Int32} (hn : n < 96) (hb : b < 97) : ∀ (k i : Nat) (S : SP) (σ : Nat → Nat → Int32), i + k = 97 → GW T S → S.1 8 7 = nI b → RC σ S → Ev 125 7 20 [some (.ref 8), some (.int x1), some (.int x2), some (.int (nI n)), some (.ref 3), some (.int (nI i))] [] (sC M σ) (dmP M (dmd T k n S) n b) := by
  intro k
  induction k with
  | zero =>
    intro i S σ hi hS eb hR
    obtain rfl : i = 97 := by omega
    have hx := c7e (d := 122) (M := M) (x := (3, S)) (o5 := some (.int (nI 97))) (x1 := x1) (x2 := x2) hn hb eb (Or.inr (Or.inl rfl)) hR
    refine ev_iload t_7_20 rfl ?_
    refine ev_bipush t_7_22 ?_
    change Ev _ _ _ _ ([.int (nI (96)), .int (nI (97))]) _ _
    refine ev_icmp_gtN t_7_24 (by omega) (by omega) (fun h_24 => ?_) (fun h_24 => ?_)
    · exact hx
    · omega
  | succ k ih =>
    intro i S σ hi hS eb hR
    have hR1 : RC (u2 σ 8 10 0) S := RC_n (Or.inr ⟨rfl, rfl⟩) hR
    have hu1 : UW (u2 σ 8 10 0) [] := ⟨u2_at, fun i hi => by simp at hi⟩
    have hA := c25 (M := M) hT 20 [] rfl (fun x hx => by cases hx) n S _ hn hS hR1 hu1
    have hok := (ask_ok hT 20 [] n S hn hS).1
    have hb2 := ask_inv hT (KI_r (q := 8) (k := 7) (by unfold KR; omega) (nI b)) 20 [] (fun x hx => by cases hx) n S hn hS eb
    refine ev_iload t_7_20 rfl ?_
    refine ev_bipush t_7_22 ?_
    change Ev _ _ _ _ ([.int (nI (96)), .int (nI (i))]) _ _
    refine ev_icmp_gtN t_7_24 (by omega) (by omega) (fun h_24 => ?_) (fun h_24 => ?_)
    · omega
    · refine ev_aload t_7_27 rfl ?_
      refine ev_getstatic t_7_29 ?_
      refine ev_acmp_ne t_7_32 (by omega) (fun h_32 => ?_) (fun h_32 => ?_)
      · exact absurd rfl h_32
      · refine ev_aload_n t_7_35 rfl ?_
        refine ev_iconst t_7_36 ?_
        change Ev _ _ _ _ ([.int (nI (0)), .ref 8]) _ _
        refine es_put o_MR t_7_37 rfl (Nat.le_of_ble_eq_true rfl) rfl ?_
        refine ev_aload_n t_7_40 rfl ?_
        refine ev_iload_n t_7_41 rfl ?_
        refine ev_cl (pm_st_V t_7_42 (as := [.ref 8, .int (nI (n))]) (rest := []) (L0 := [some (.ref 8), some (.int (nI (n))), none, none]) rfl rfl (Nat.le_of_ble_eq_true rfl) (Nat.le_of_ble_eq_true rfl) rfl (es_rc o_MR rfl (Nat.le_of_ble_eq_true rfl))) rfl (hA) ?_
        rintro _ _ ⟨rfl, σ1, rfl, h1, h2, -⟩
        change Ev _ _ _ _ ([.ref ((ask T 20 [] n S).1)]) _ _
        refine ev_astore (L' := [some (.ref 8), some (.int x1), some (.int x2), some (.int (nI (n))), some (.ref ((ask T 20 [] n S).1)), some (.int (nI (i)))]) t_7_45 (Nat.le_of_ble_eq_true rfl) rfl ?_
        refine ev_iincN (L' := [some (.ref 8), some (.int x1), some (.int x2), some (.int (nI (n))), some (.ref ((ask T 20 [] n S).1)), some (.int (nI (i + 1)))]) t_7_47 rfl (Nat.le_of_ble_eq_true rfl) rfl ?_
        refine ev_goto t_7_50 ?_
        by_cases h3 : (ask T 20 [] n S).1 = 3
        · have e : dmd T (k + 1) n S = dmd T k n (ask T 20 [] n S).2 := by simp only [dmd]; rw [if_pos h3]
          rw [e, h3]
          exact ih (i + 1) _ σ1 (by omega) hok.1 hb2 h1
        · have e : dmd T (k + 1) n S = ask T 20 [] n S := by simp only [dmd]; rw [if_neg h3]
          rw [e]
          have hx := fun o5 => c7e (d := 122) (M := M) (x := ask T 20 [] n S) (o5 := o5) (x1 := x1) (x2 := x2) hn hb hb2 hok.2 h1
          refine ev_iload t_7_20 rfl ?_
          refine ev_bipush t_7_22 ?_
          change Ev _ _ _ _ ([.int (nI (96)), .int (nI (i + 1))]) _ _
          refine ev_icmp_gtN t_7_24 (by omega) (by omega) (fun h_24 => ?_) (fun h_24 => ?_)
          · exact hx _
          · refine ev_aload t_7_27 rfl ?_
            refine ev_getstatic t_7_29 ?_
            refine ev_acmp_ne t_7_32 (by omega) (fun h_32 => ?_) (fun h_32 => ?_)
            · exact hx _
            · exact absurd h_32 h3
theorem c7o (hT : ∀ f, f < 6 → Rst 1 (T f)) {f k b : Nat} (hf : f < 6) (hk : k < 16) (hb : b < 97) {S : SP} {σ : Nat → Nat → Int32} (hS : GW T S) (eb : S.1 8 7 = nI b) (hR : RC σ S) : Ev 125 7 0 [some (.ref 8), some (.int (nI f)), some (.int (nI k)), none, none, none] [] (sC M σ) (dmP M (dmd T 97 (f * 16 + k) S) (f * 16 + k) b) := by
  have hc := c7l (M := M) (x1 := nI f) (x2 := nI k) hT (n := f * 16 + k) (by omega) hb 97 0 S σ rfl hS eb hR
  refine ev_iload_n t_7_0 rfl ?_
  refine ev_iload_n t_7_1 rfl ?_
  refine ev_cl (pm_st_S t_7_2 (Nat.le_of_ble_eq_true rfl) (as := [.int (nI (f)), .int (nI (k))]) (rest := []) (L0 := [some (.int (nI (f))), some (.int (nI (k)))]) rfl rfl (Nat.le_of_ble_eq_true rfl) (Nat.le_of_ble_eq_true rfl) rfl) rfl (c19o hf hk) ?_
  rintro _ _ ⟨rfl, rfl⟩
  change Ev _ _ _ _ ([]) _ _
  refine ev_iload_n t_7_5 rfl ?_
  refine ev_bipush t_7_6 ?_
  change Ev _ _ _ _ ([.int (nI (16)), .int (nI (f))]) _ _
  refine ev_imulN t_7_8 ?_
  refine ev_iload_n t_7_9 rfl ?_
  refine ev_iaddN t_7_10 ?_
  refine ev_istore_n (L' := [some (.ref 8), some (.int (nI (f))), some (.int (nI (k))), some (.int (nI (((f) * (16)) + (k)))), none, none]) t_7_11 (Nat.le_of_ble_eq_true rfl) rfl ?_
  refine ev_getstatic t_7_12 ?_
  refine ev_astore (L' := [some (.ref 8), some (.int (nI (f))), some (.int (nI (k))), some (.int (nI (((f) * (16)) + (k)))), some (.ref 3), none]) t_7_15 (Nat.le_of_ble_eq_true rfl) rfl ?_
  refine ev_iconst t_7_17 ?_
  change Ev _ _ _ _ ([.int (nI (0))]) _ _
  refine ev_istore (L' := [some (.ref 8), some (.int (nI (f))), some (.int (nI (k))), some (.int (nI (((f) * (16)) + (k)))), some (.ref 3), some (.int (nI (0)))]) t_7_18 (Nat.le_of_ble_eq_true rfl) rfl ?_
  exact hc
theorem c7t {x y : Int32} {σ : Nat → Nat → Int32} (h : BAD 6 x ∨ BAD 16 y) : Ev (d + 3) 7 0 [some (.ref 8), some (.int x), some (.int y), none, none, none] [] (sC M σ) (fun q9 M' => q9 = .inr 1000 ∧ M' = pm_mk (sC M σ) 6 (.inr (1000, []))) := by
  refine ev_iload_n t_7_0 rfl ?_
  refine ev_iload_n t_7_1 rfl ?_
  exact ev_clt (pm_st_S t_7_2 (Nat.le_of_ble_eq_true rfl) (as := [.int x, .int y]) (rest := []) (L0 := [some (.int x), some (.int y)]) rfl rfl (Nat.le_of_ble_eq_true rfl) (Nat.le_of_ble_eq_true rfl) rfl) rfl (c19t h) rfl (fun M' h => ⟨rfl, h⟩)
variable {σ : Nat → Nat → Int32} {S : SP}
theorem RC_draft {dr : List Nat} (hR : RC σ S) (h : Txt S.1 9 dr) : Txt σ 9 dr := by
  unfold Txt at h ⊢
  rw [hR.1 9 1 (by unfold Dk; omega)]
  exact ⟨h.1, h.2.1, h.2.2.1, fun i hi => by rw [hR.1 (9 + 1) i (by unfold Dk; omega)]; exact h.2.2.2 i hi⟩
/-- rows take what they hold -/
def dfG (S : SP) (f : Nat) (σ' : Nat → Nat → Int32) : Nat → Nat → Int32 := fun q => if q = 26 + 2 * f ∨ q = 26 + 2 * f + 1 then σ' q else S.1 q
theorem RC_df {σ' : Nat → Nat → Int32} {f : Nat} (hf : f < 6) (hR : RC σ S) (h : ∀ x, x ≠ 26 + 2 * f → x ≠ 26 + 2 * f + 1 → σ' x = σ x) : RC σ' (dfG S f σ', S.2.1, S.2.2) := by
  obtain ⟨h1, h2, h3⟩ := hR
  refine ⟨fun q k hq => ?_, Ring_fr (h _ (by omega) (by omega)) (h _ (by omega) (by omega)) (h _ (by omega) (by omega)) (h _ (by omega) (by omega)) h2, fun n hn => ⟨?_, fun i hi => ?_⟩⟩
  · show σ' q k = dfG S f σ' q k
    unfold dfG
    split
    · rfl
    · rw [h q (by omega) (by omega)]; exact h1 q k hq
  · rw [h _ (by omega) (by omega)]; exact (h3 n hn).1
  · rw [h _ (by omega) (by omega)]; exact (h3 n hn).2 i hi
/-- a definition: the fault, or the text becomes the function's -/
theorem c3f {f : Nat} {dr : List Nat} {i : Nat} (hf : f < 6) (hD : Txt S.1 9 dr) (hR : RC σ S) (hx : flt dr 1 0 = some i) (hi : i < 2 ^ 31) : Ev (d + 3) 3 0 [some (.ref 8), some (.int (nI f)), none] [] (sC M σ) (fun q9 M' => ∃ v9, q9 = .inl v9 ∧ v9 = some (.int (nI i)) ∧ M' = sC M σ) := by
  have c9 := c91 (d := d + 1) (M := M) (p := 9) (Or.inl rfl) (RC_draft hR hD)
  rw [hx] at c9
  refine ev_iload_n t_3_0 rfl ?_
  refine ev_cl (pm_st_S t_3_1 (Nat.le_of_ble_eq_true rfl) (as := [.int (nI (f))]) (rest := []) (L0 := [some (.int (nI (f)))]) rfl rfl (Nat.le_of_ble_eq_true rfl) (Nat.le_of_ble_eq_true rfl) rfl) rfl (c17o hf) ?_
  rintro _ _ ⟨rfl, rfl⟩
  change Ev _ _ _ _ ([]) _ _
  refine ev_aload_n t_3_4 rfl ?_
  refine es_get (x := .ref 9) o_MR t_3_5 rfl ?_
  refine ev_cl (pm_st_V t_3_8 (as := [.ref 9]) (rest := []) (L0 := [some (.ref 9), none, none, none]) rfl rfl (Nat.le_of_ble_eq_true rfl) (Nat.le_of_ble_eq_true rfl) rfl (es_rc (o_Tx (Or.inl rfl)) rfl (Nat.le_of_ble_eq_true rfl))) rfl (c9) ?_
  rintro _ _ ⟨rfl, rfl⟩
  change Ev _ _ _ _ ([.int (nI i)]) _ _
  refine ev_istore_n (L' := [some (.ref 8), some (.int (nI (f))), some (.int (nI i))]) t_3_11 (Nat.le_of_ble_eq_true rfl) rfl ?_
  refine ev_iload_n t_3_12 rfl ?_
  refine ev_iconst t_3_13 ?_
  change Ev _ _ _ _ ([.int (-1), .int (nI i)]) _ _
  refine ev_icmp_ne t_3_14 (fun h_14 => ?_) (fun h_14 => ?_)
  · refine ev_iload_n t_3_45 rfl ?_
    exact ev_reti t_3_46 (ri rfl) ⟨_, rfl, rfl, rfl⟩
  · exact absurd (fun e => nI_m1 hi e) h_14
theorem c3o {f : Nat} {dr : List Nat} (hf : f < 6) (hD : Txt S.1 9 dr) (hR : RC σ S) (hx : flt dr 1 0 = none) : Ev (d + 3) 3 0 [some (.ref 8), some (.int (nI f)), none] [] (sC M σ) (fun q9 M' => ∃ v9, q9 = .inl v9 ∧ v9 = some (.int (-1)) ∧ ∃ σ', M' = sC M σ' ∧ ∃ G', (∀ q, q ≠ 26 + 2 * f → q ≠ 26 + 2 * f + 1 → G' q = u2 S.1 9 1 0 q) ∧ Txt G' (26 + 2 * f) dr ∧ RC σ' (G', [], S.2.2)) := by
  have c9 := c91 (d := d + 1) (M := M) (p := 9) (Or.inl rfl) (RC_draft hR hD)
  rw [hx] at c9
  obtain ⟨σ1, h1, hT1, hF1⟩ := c90 (d := d + 1) (M := M) (p := 26 + 2 * f) (q := 9) (Or.inr (Or.inl ⟨f, hf, rfl⟩)) (Or.inl rfl) (by omega) (by omega) (by omega) (RC_draft hR hD)
  have hR1 := RC_df hf hR hF1
  have hR2 := RC_u (q := 9) (k := 1) (x := 0) (by unfold Dk; omega) hR1
  obtain ⟨σ2, h2, hR3, hF2⟩ := c84 (d := d) (M := M) hR2.2.1
  have hR4 := RC_o hF2 hR3 hR2
  refine ev_iload_n t_3_0 rfl ?_
  refine ev_cl (pm_st_S t_3_1 (Nat.le_of_ble_eq_true rfl) (as := [.int (nI (f))]) (rest := []) (L0 := [some (.int (nI (f)))]) rfl rfl (Nat.le_of_ble_eq_true rfl) (Nat.le_of_ble_eq_true rfl) rfl) rfl (c17o hf) ?_
  rintro _ _ ⟨rfl, rfl⟩
  change Ev _ _ _ _ ([]) _ _
  refine ev_aload_n t_3_4 rfl ?_
  refine es_get (x := .ref 9) o_MR t_3_5 rfl ?_
  refine ev_cl (pm_st_V t_3_8 (as := [.ref 9]) (rest := []) (L0 := [some (.ref 9), none, none, none]) rfl rfl (Nat.le_of_ble_eq_true rfl) (Nat.le_of_ble_eq_true rfl) rfl (es_rc (o_Tx (Or.inl rfl)) rfl (Nat.le_of_ble_eq_true rfl))) rfl (c9) ?_
  rintro _ _ ⟨rfl, rfl⟩
  change Ev _ _ _ _ ([.int (-1)]) _ _
  refine ev_istore_n (L' := [some (.ref 8), some (.int (nI (f))), some (.int (-1))]) t_3_11 (Nat.le_of_ble_eq_true rfl) rfl ?_
  refine ev_iload_n t_3_12 rfl ?_
  refine ev_iconst t_3_13 ?_
  change Ev _ _ _ _ ([.int (-1), .int (-1)]) _ _
  refine ev_icmp_ne t_3_14 (fun h_14 => ?_) (fun h_14 => ?_)
  · exact absurd rfl h_14
  · refine ev_aload_n t_3_17 rfl ?_
    refine es_get (x := .ref 11) o_MR t_3_18 rfl ?_
    refine ev_iload_n t_3_21 rfl ?_
    refine es_rald (k := f) (x := .ref (26 + 2 * f)) r_TA t_3_22 (by omega) rfl ?_
    refine ev_aload_n t_3_23 rfl ?_
    refine es_get (x := .ref 9) o_MR t_3_24 rfl ?_
    refine ev_cl (pm_st_V t_3_27 (as := [.ref (26 + 2 * f), .ref 9]) (rest := []) (L0 := [some (.ref (26 + 2 * f)), some (.ref 9), none]) rfl rfl (Nat.le_of_ble_eq_true rfl) (Nat.le_of_ble_eq_true rfl) rfl (es_rc (o_Tx (Or.inr (Or.inl ⟨f, by omega, rfl⟩))) rfl (Nat.le_of_ble_eq_true rfl))) rfl (h1) ?_
    rintro _ _ ⟨rfl, rfl⟩
    change Ev _ _ _ _ ([]) _ _
    refine ev_aload_n t_3_30 rfl ?_
    refine es_get (x := .ref 9) o_MR t_3_31 rfl ?_
    refine ev_iconst t_3_34 ?_
    change Ev _ _ _ _ ([.int (nI (0)), .ref 9]) _ _
    refine es_put (o_Tx (Or.inl rfl)) t_3_35 rfl (Nat.le_of_ble_eq_true rfl) rfl ?_
    refine ev_aload_n t_3_38 rfl ?_
    refine es_get (x := .ref 20) o_MR t_3_39 rfl ?_
    refine ev_cl (pm_st_V t_3_42 (as := [.ref 20]) (rest := []) (L0 := [some (.ref 20), none]) rfl rfl (Nat.le_of_ble_eq_true rfl) (Nat.le_of_ble_eq_true rfl) rfl (es_rc o_RO rfl (Nat.le_of_ble_eq_true rfl))) rfl (h2) ?_
    rintro _ _ ⟨rfl, rfl⟩
    change Ev _ _ _ _ ([]) _ _
    refine ev_iload_n t_3_45 rfl ?_
    exact ev_reti t_3_46 (ri rfl) ⟨_, rfl, rfl, _, rfl, _, (fun q hq hq2 => by
    show u2 (dfG S f σ1) 9 1 0 q = _
    unfold u2
    split
    · rename_i e; subst e; unfold dfG; rw [if_neg (by omega)]
    · unfold dfG; rw [if_neg (by omega)]), (by
    show Txt (u2 (dfG S f σ1) 9 1 0) _ _
    unfold Txt
    rw [u2_ne (by omega), u2_ne (by omega)]
    unfold dfG
    rw [if_pos (Or.inl rfl), if_pos (Or.inr rfl)]
    exact hT1), hR4⟩
theorem c3t {x : Int32} (h : BAD 6 x) : Ev (d + 3) 3 0 [some (.ref 8), some (.int x), none] [] (sC M σ) (fun q9 M' => q9 = .inr 1000 ∧ M' = pm_mk (sC M σ) 6 (.inr (1000, []))) := by
  refine ev_iload_n t_3_0 rfl ?_
  exact ev_clt (pm_st_S t_3_1 (Nat.le_of_ble_eq_true rfl) (as := [.int x]) (rest := []) (L0 := [some (.int x)]) rfl rfl (Nat.le_of_ble_eq_true rfl) (Nat.le_of_ble_eq_true rfl) rfl) rfl (c17t h) rfl (fun M' h => ⟨rfl, h⟩)
end DM
