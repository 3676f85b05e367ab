theorem ow_ok : ∀ i, i < 114 → tb_on (tb_ow i) = (tb_nm i).cls := by decide +kernel
theorem hx_ok : ∀ i, i < 114 → tb_hx i = none → tb_hh i = [] := by decide +kernel
theorem cn_ok : ∀ c, c < 8 → (vwCl.getD c ("", fun _ => ("", "", "", false), 0)).1 = tb_cn c := by decide +kernel
theorem ty_ok : ∀ c, c < 8 → ∀ k, k < (vwCl.getD c ("", fun _ => ("", "", "", false), 0)).2.2 → parseFieldDescriptor ((vwCl.getD c ("", fun _ => ("", "", "", false), 0)).2.1 k).2.2.1 = some (tb_ft c k) := by decide +kernel
theorem dn_ok : ∀ c, c < 8 → ∀ k, k < (vwCl.getD c ("", fun _ => ("", "", "", false), 0)).2.2 → ((vwCl.getD c ("", fun _ => ("", "", "", false), 0)).2.1 k).1 = tb_cn c := by decide +kernel
theorem nm_ok : ∀ c, c < 8 → ∀ a, a < (vwCl.getD c ("", fun _ => ("", "", "", false), 0)).2.2 → ∀ b, b < (vwCl.getD c ("", fun _ => ("", "", "", false), 0)).2.2 → a ≠ b → ((vwCl.getD c ("", fun _ => ("", "", "", false), 0)).2.1 a).2.1 ≠ ((vwCl.getD c ("", fun _ => ("", "", "", false), 0)).2.1 b).2.1 := by decide +kernel
theorem qk_vc {c : Nat} {r : vw_C} (h : vwCl[c]? = some r) : c < 8 ∧ vwCl.getD c ("", fun _ => ("", "", "", false), 0) = r := by
  have h1 := (List.getElem?_eq_some_iff.mp h).1
  exact ⟨h1, by rw [List.getD_eq_getElem?_getD, h]; rfl⟩
theorem pk_nm : pw_nm := by
  intro c r h
  obtain ⟨h1, h2⟩ := qk_vc h
  subst h2
  exact ⟨ty_ok c h1, nm_ok c h1⟩
theorem pk_U {s0 : State} (hY : pk_Y s0) : pw_U s0 := by
  intro c r h w hw
  obtain ⟨h1, h2⟩ := qk_vc h
  subst h2
  have hm : w ∈ lw_tbl := by
    match c, h1 with
    | 0, _ => exact ul_0 w hw
    | 1, _ => exact ul_1 w hw
    | 2, _ => exact ul_2 w hw
    | 3, _ => exact ul_3 w hw
    | 4, _ => exact ul_4 w hw
    | 5, _ => exact ul_5 w hw
    | 6, _ => exact ul_6 w hw
    | 7, _ => exact ul_7 w hw
    | n + 8, h => omega
  refine hY w hm ?_
  obtain ⟨k, -, rfl⟩ := List.mem_map.mp hw
  unfold u_lay
  split <;> rfl

/-! ## throws and catches -/
theorem pk_tr {s0 U : State} {w : Cond} {args : Array Value} (hW : s0.WarmedH U.vm) (hc : w.onTables = true) (hk : w.keepsFace = true) (h : w.before #[] s0 = true) : w.before args U = true :=
  va_tabs hc (rfl : (s0.setVm U.vm).vm = U.vm) (Cond.before_shiftedFace (State.Shifted.of_warmed hW) w hk h)
theorem pk_lst {s0 U : State} {C n d : String} {args A0 : Array Value} (hl : (Cond.laysStatic C n d).before A0 s0 = true) (hW : s0.WarmedH U.vm) (hH : ∀ q : Nat, q < s0.heap.size → U.heap[q]? = s0.heap[q]?) : (Cond.laysStatic C n d).before args U = true := by
  obtain ⟨c, k, i, f, a, cell, h1, h2, h3, h4, h5, h6, h7, h8, h9⟩ := Cond.laysStatic_spec (Cond.laysStatic_setVm hW.alike hl)
  exact Cond.laysStatic_of (s := U) h1 h2 h3 h4 (by rw [hH a (Array.getElem?_eq_some_iff.mp h5).1]; exact h5) h6 h7 h8 h9
theorem pk_ref {s0 U : State} {C n d : String} {args A0 : Array Value} (hl : (Cond.laysStatic C n d).before A0 s0 = true) (hini : (Cond.initialized C).before A0 s0 = true) (h : (Cond.isRef (.static C n d)).before A0 s0 = true) (hW : s0.WarmedH U.vm) (hH : ∀ q : Nat, q < s0.heap.size → U.heap[q]? = s0.heap[q]?) : (Cond.isRef (.static C n d)).before args U = true := by
  cases hv : (Term.static C n d).eval A0 s0 none [] s0 with
  | none => simp [Cond.before, Cond.holds, Cond.value, hv] at h
  | some v =>
    have hZ := va_Zof hl hini hv (A := fun q => s0.heap.size ≤ q) (fun a ha => Nat.not_le.mpr ha)
    have hZ' := (hZ.moved hW.alike).kept (H1 := U.heap) (fun a ha _ => hH a ha)
    obtain ⟨cf, kf, fi, f, a, cell, h1, h2, h3, h4, h5, h6, h7, h8⟩ := hZ'
    have hv' : (Term.static C n d).eval args U none [] U = some v := by simp [Term.eval, State.fieldNamed?, h1, h2, h4, h5, h6, h7]
    simp only [Cond.before, Cond.holds, Cond.value, hv, hv'] at h ⊢
    exact h
/-- what the claim says of the start beside its tables' words -/
def pk_Z (s0 : State) (B : Nat → Nat) : Prop := pk_Y s0 ∧
  (∀ p, 1 ≤ p → p ≤ 4 → va_Z "MemoRuntime$Outcome" (tb_en p) "LMemoRuntime$Outcome;" (.ref (B p)) (fun q => s0.heap.size ≤ q) s0 s0.heap) ∧
  (∀ q ∈ [(154, "too many cells under way"), (203, "not 1 .. 96"), (209, "out of range"), (213, "not kept")], ∃ sa, vk_R "MemoRuntime" q.1 q.2 sa s0) ∧
  (∃ A0 : Array Value, (Cond.isRef (.static Bundle.tN "UNASSIGNED_STACK" Bundle.steD)).before A0 s0 = true ∧ (Cond.isRef (.static Bundle.tN "SUPPRESSED_SENTINEL" Bundle.listD)).before A0 s0 = true ∧ (Cond.laysStatic Bundle.tN "UNASSIGNED_STACK" Bundle.steD).before A0 s0 = true ∧ (Cond.laysStatic Bundle.tN "SUPPRESSED_SENTINEL" Bundle.listD).before A0 s0 = true ∧ (Cond.initialized Bundle.tN).before A0 s0 = true) ∧
  ((Cond.not (.castable "java/lang/IllegalStateException" "java/lang/IllegalArgumentException")).before #[] s0 = true ∧ (Cond.not (.castable "java/util/NoSuchElementException" "java/lang/IllegalArgumentException")).before #[] s0 = true)
def pk_oc (w : Cond) : Bool := (decide (w ∈ lw_tbl) && (w.onTables && w.keepsFace)) || decide (w = .isRef (.static Bundle.tN "UNASSIGNED_STACK" Bundle.steD) ∨ w = .isRef (.static Bundle.tN "SUPPRESSED_SENTINEL" Bundle.listD) ∨ w = .laysStatic Bundle.tN "UNASSIGNED_STACK" Bundle.steD ∨ w = .laysStatic Bundle.tN "SUPPRESSED_SENTINEL" Bundle.listD)
theorem pk_ow {s0 : State} {B : Nat → Nat} (hZ : pk_Z s0 B) {own X : String} {ic i1 : Nat} {b1 : ByteArray} (h : (pw_oA own ic X i1 b1).all pk_oc = true) (U : State) (hW : s0.WarmedH U.vm) (hH : ∀ q : Nat, q < s0.heap.size → U.heap[q]? = s0.heap[q]?) (args : Array Value) : ∀ w ∈ pw_oA own ic X i1 b1, w.before args U = true := by
  obtain ⟨hY, -, -, ⟨A0, r1, r2, r3, r4, r5⟩, -⟩ := hZ
  intro w hw
  have h1 := List.all_eq_true.mp h w hw
  unfold pk_oc at h1
  rcases Bool.or_eq_true_iff.mp h1 with h2 | h2
  · simp only [Bool.and_eq_true, decide_eq_true_eq] at h2
    refine pk_tr hW h2.2.1 h2.2.2 (hY w h2.1 ?_)
    have := h2.2.1
    unfold pk_ok
    split
    · rfl
    · rfl
    · exact this
  · rcases of_decide_eq_true h2 with rfl | rfl | rfl | rfl
    · exact pk_ref r3 r5 r1 hW hH
    · exact pk_ref r4 r5 r2 hW hH
    · exact pk_lst r3 hW hH
    · exact pk_lst r4 hW hH
theorem oA_7 : (pw_oA "MemoRuntime" 156 "java/lang/IllegalStateException" 7 prog_14_method_2_code).all pk_oc = true := by decide +kernel
theorem oA_13 : (pw_oA "MemoRuntime" 205 "java/lang/IllegalArgumentException" 7 prog_13_method_2_code).all pk_oc = true := by decide +kernel
theorem oA_20 : (pw_oA "MemoRuntime" 215 "java/util/NoSuchElementException" 13 prog_20_method_4_code).all pk_oc = true := by decide +kernel
theorem px_7 {s0 : State} {B : Nat → Nat} (hZ : pk_Z s0 B) : pk_x s0 7 61 152 1001 := by
  obtain ⟨sa, hsa⟩ := hZ.2.2.1 (154, "too many cells under way") (by simp)
  exact ⟨154, 156, 7, prog_14_method_2_code, _, sa, by decide +kernel, by decide +kernel, by decide +kernel, by decide +kernel, (by intro y hy; cases hy), hZ.1 _ (by decide +kernel) rfl, hZ.1 _ (by decide +kernel) rfl, hZ.1 _ (by decide +kernel) rfl, hsa, by decide +kernel, ⟨by decide +kernel, by decide +kernel, by decide +kernel, by decide +kernel⟩, pk_ow hZ oA_7⟩
theorem px_13 {s0 : State} {B : Nat → Nat} (hZ : pk_Z s0 B) : pk_x s0 13 11 201 1000 := by
  obtain ⟨sa, hsa⟩ := hZ.2.2.1 (203, "not 1 .. 96") (by simp)
  exact ⟨203, 205, 7, prog_13_method_2_code, _, sa, by decide +kernel, by decide +kernel, by decide +kernel, by decide +kernel, (by intro y hy; cases hy), hZ.1 _ (by decide +kernel) rfl, hZ.1 _ (by decide +kernel) rfl, hZ.1 _ (by decide +kernel) rfl, hsa, by decide +kernel, ⟨by decide +kernel, by decide +kernel, by decide +kernel, by decide +kernel⟩, pk_ow hZ oA_13⟩
theorem px_15 {s0 : State} {B : Nat → Nat} (hZ : pk_Z s0 B) : pk_x s0 15 9 201 1000 := by
  obtain ⟨sa, hsa⟩ := hZ.2.2.1 (209, "out of range") (by simp)
  exact ⟨209, 205, 7, prog_13_method_2_code, _, sa, by decide +kernel, by decide +kernel, by decide +kernel, by decide +kernel, (by intro y hy; cases hy), hZ.1 _ (by decide +kernel) rfl, hZ.1 _ (by decide +kernel) rfl, hZ.1 _ (by decide +kernel) rfl, hsa, by decide +kernel, ⟨by decide +kernel, by decide +kernel, by decide +kernel, by decide +kernel⟩, pk_ow hZ oA_13⟩
theorem px_20 {s0 : State} {B : Nat → Nat} (hZ : pk_Z s0 B) : pk_x s0 20 11 211 1002 := by
  obtain ⟨sa, hsa⟩ := hZ.2.2.1 (213, "not kept") (by simp)
  exact ⟨213, 215, 13, prog_20_method_4_code, _, sa, by decide +kernel, by decide +kernel, by decide +kernel, by decide +kernel, (by intro y hy; cases hy), hZ.1 _ (by decide +kernel) rfl, hZ.1 _ (by decide +kernel) rfl, hZ.1 _ (by decide +kernel) rfl, hsa, by decide +kernel, ⟨by decide +kernel, by decide +kernel, by decide +kernel, by decide +kernel⟩, pk_ow hZ oA_20⟩
theorem px_ok {s0 : State} {B : Nat → Nat} (hZ : pk_Z s0 B) : ∀ q ∈ px_L, pk_x s0 q.1 q.2.1 q.2.2.1 q.2.2.2 := List.forall_mem_cons.mpr ⟨px_7 hZ, List.forall_mem_cons.mpr ⟨px_13 hZ, List.forall_mem_cons.mpr ⟨px_15 hZ, List.forall_mem_cons.mpr ⟨px_20 hZ, fun _ h => absurd h List.not_mem_nil⟩⟩⟩⟩
/-! the tables of the law's own methods -/
theorem wn_263 : Cond.classLink "MemoRuntimeLaw" 13 "java/lang/IllegalArgumentException" ∈ lw_tbl := by decide +kernel
theorem wn_276 : Cond.castable "java/lang/IllegalArgumentException" "java/lang/IllegalArgumentException" ∈ lw_tbl := by decide +kernel
theorem wn_405 : Cond.classLink "MemoRuntimeLaw" 31 "java/lang/IllegalStateException" ∈ lw_tbl := by decide +kernel
theorem wn_535 : Cond.castable "java/lang/IllegalStateException" "java/lang/IllegalStateException" ∈ lw_tbl := by decide +kernel
theorem wn_566 : Cond.classLink "MemoRuntimeLaw" 40 "java/util/NoSuchElementException" ∈ lw_tbl := by decide +kernel
theorem wn_577 : Cond.castable "java/util/NoSuchElementException" "java/util/NoSuchElementException" ∈ lw_tbl := by decide +kernel
theorem ph_out {e h ct pc : Nat} (hp : ¬ pc < e) : covers ⟨0, e, h, ct⟩ pc = false := by simp [covers, hp]
theorem ph_in {e h ct pc : Nat} (hp : pc < e) : covers ⟨0, e, h, ct⟩ pc = true := by simp [covers, hp]
theorem ph_1 {s0 : State} {i e h : Nat} (h1 : tb_hx i = some (e, [(1000, h)])) (h2 : tb_hh i = [(0, e, h, 13)]) (h3 : (tb_nm i).cls = "MemoRuntimeLaw") (hY : pk_Y s0) (pc : Nat) : pk_h s0 i pc := by
  intro x
  unfold tb_hn
  rw [h1, h2, h3]
  by_cases hp : pc < e
  · simp only [if_pos hp]
    by_cases hx : x = 1000
    · subst hx
      exact Or.inr ⟨ph_in hp, (by show (13 : Nat) ≠ 0; decide), _, hY _ wn_263 rfl, Or.inl ⟨hY _ wn_276 rfl, rfl⟩⟩
    · have : ([(1000, h)] : List (Nat × Nat)).find? (fun q => q.1 == x) = none := by simp [Ne.symm hx]
      rw [this]
      trivial
  · simp only [if_neg hp]
    intro y hy
    rw [List.mem_singleton.mp hy]
    exact ph_out hp
theorem ph_2 {s0 : State} {i e h k x1 ct : Nat} {xn : String} (h1 : tb_hx i = some (e, [(1000, h), (x1, k)])) (h2 : tb_hh i = [(0, e, h, 13), (0, e, k, ct)]) (h3 : (tb_nm i).cls = "MemoRuntimeLaw") (hxn : tb_xn x1 = xn) (hx1 : x1 ≠ 1000) (hct : ct ≠ 0) (w1 : (Cond.classLink "MemoRuntimeLaw" ct xn).before #[] s0 = true) (w2 : (Cond.castable xn xn).before #[] s0 = true) (w3 : (Cond.not (.castable xn "java/lang/IllegalArgumentException")).before #[] s0 = true) (hY : pk_Y s0) (pc : Nat) : pk_h s0 i pc := by
  intro x
  unfold tb_hn
  rw [h1, h2, h3]
  by_cases hp : pc < e
  · simp only [if_pos hp]
    by_cases hx : x = 1000
    · subst hx
      exact Or.inr ⟨ph_in hp, (by show (13 : Nat) ≠ 0; decide), _, hY _ wn_263 rfl, Or.inl ⟨hY _ wn_276 rfl, rfl⟩⟩
    · by_cases hx2 : x = x1
      · subst hx2
        have : ([(1000, h), (x, k)] : List (Nat × Nat)).find? (fun q => q.1 == x) = some (x, k) := by simp [Ne.symm hx]
        rw [this, ]
        show pw_hs s0 "MemoRuntimeLaw" (tb_xn x) pc _ k
        rw [hxn]
        exact Or.inr ⟨ph_in hp, (by show (13 : Nat) ≠ 0; decide), _, hY _ wn_263 rfl, Or.inr ⟨w3, Or.inr ⟨ph_in hp, hct, _, w1, Or.inl ⟨w2, rfl⟩⟩⟩⟩
      · have : ([(1000, h), (x1, k)] : List (Nat × Nat)).find? (fun q => q.1 == x) = none := by simp [Ne.symm hx, Ne.symm hx2]
        rw [this]
        trivial
  · simp only [if_neg hp]
    intro y hy
    rcases List.mem_cons.mp hy with rfl | hy
    · exact ph_out hp
    · rw [List.mem_singleton.mp hy]
      exact ph_out hp
theorem ph_ok {s0 : State} {B : Nat → Nat} (hZ : pk_Z s0 B) (i pc : Nat) (hi : i < 114) : pk_h s0 i pc := by
  obtain ⟨hY, -, -, -, c1, c2⟩ := id hZ
  by_cases h0 : tb_hx i = none
  · intro x
    unfold tb_hn
    rw [h0, hx_ok i hi h0]
    intro y hy
    cases hy
  · have hc : i = 103 ∨ i = 104 ∨ i = 105 ∨ i = 106 ∨ i = 107 ∨ i = 108 ∨ i = 109 ∨ i = 110 ∨ i = 111 ∨ i = 112 := by
      revert h0 hi
      revert i
      decide +kernel
    rcases hc with rfl | rfl | rfl | rfl | rfl | rfl | rfl | rfl | rfl | rfl
    · exact ph_1 rfl rfl rfl hY pc
    · exact ph_1 rfl rfl rfl hY pc
    · exact ph_1 rfl rfl rfl hY pc
    · exact ph_1 rfl rfl rfl hY pc
    · exact ph_2 (xn := "java/lang/IllegalStateException") (ct := 31) (x1 := 1001) rfl rfl rfl rfl (by decide) (by decide) (hY _ wn_405 rfl) (hY _ wn_535 rfl) c1 hY pc
    · exact ph_1 rfl rfl rfl hY pc
    · exact ph_2 (xn := "java/util/NoSuchElementException") (ct := 40) (x1 := 1002) rfl rfl rfl rfl (by decide) (by decide) (hY _ wn_566 rfl) (hY _ wn_577 rfl) c2 hY pc
    · exact ph_2 (xn := "java/util/NoSuchElementException") (ct := 40) (x1 := 1002) rfl rfl rfl rfl (by decide) (by decide) (hY _ wn_566 rfl) (hY _ wn_577 rfl) c2 hY pc
    · exact ph_1 rfl rfl rfl hY pc
    · exact ph_1 rfl rfl rfl hY pc
theorem pk_w_ok {s0 : State} {B : Nat → Nat} (hZ : pk_Z s0 B) {i pc a b : Nat} {ins : Instr} {v : Int32} {ts : List Nat} (hi : i < 114) (hb : pk_bw i pc ins a b v ts = true) : pk_w s0 B i pc ins a b v ts := by
  have hY := hZ.1
  have how := ow_ok i hi
  cases ins with
  | iconst n => exact of_decide_eq_true (p := Int32.ofInt n = v) hb
  | bipush n => exact of_decide_eq_true (p := (Int8.ofInt n).toInt32 = v) hb
  | sipush n => exact of_decide_eq_true (p := (Int16.ofInt n).toInt32 = v) hb
  | iinc k n => exact of_decide_eq_true (p := Int32.ofInt n = v) hb
  | ldc2_w idx =>
    have hb : decide ((tb_ow i, idx, a) ∈ pl_L) = true := hb
    have := pl_ok hY _ (of_decide_eq_true hb)
    rw [how] at this
    exact this
  | goto off => exact of_decide_eq_true (p := (pc : Int) + off = (a : Int)) hb
  | ifCond c off => exact of_decide_eq_true (p := (pc : Int) + off = (a : Int)) hb
  | if_icmp c off => exact of_decide_eq_true (p := (pc : Int) + off = (a : Int)) hb
  | if_acmp c off => exact of_decide_eq_true (p := (pc : Int) + off = (a : Int)) hb
  | tableswitch d lo hi offs =>
    obtain ⟨h1, h2⟩ := Bool.and_eq_true_iff.mp (show (decide (lo = 0 ∧ hi + 1 = (ts.length : Int) ∧ (pc : Int) + d = (a : Int)) && _) = true from hb)
    obtain ⟨h3, h4, h5⟩ := of_decide_eq_true h1
    refine ⟨h3, h4, h5, fun k hk => ?_⟩
    have h6 := List.all_eq_true.mp h2 k (List.mem_range.mpr hk)
    split at h6
    · rename_i off ho
      exact ⟨off, ho, of_decide_eq_true h6⟩
    · cases h6
  | getfield idx =>
    have hb : decide ((tb_ow i, idx, a, b) ∈ pf_L) = true := hb
    have := pf_ok hY _ (of_decide_eq_true hb)
    rw [how] at this
    exact this
  | putfield idx =>
    obtain ⟨h1, h2⟩ := Bool.and_eq_true_iff.mp (show (decide ((tb_ow i, idx, a, b) ∈ pf_L) && (decide (pk_fn a b = false) || decide ((tb_nm i).name = "<init>" ∧ tb_cn a = (tb_nm i).cls))) = true from hb)
    have h3 := pf_ok hY _ (of_decide_eq_true h1)
    rw [how] at h3
    refine ⟨h3, fun r hr => ?_⟩
    obtain ⟨g1, g2⟩ := qk_vc hr
    obtain ⟨r', hr', hbl, -⟩ := h3
    cases hr.symm.trans hr'
    rcases Bool.or_eq_true_iff.mp h2 with h4 | h4
    · left
      have h5 := of_decide_eq_true h4
      unfold pk_fn at h5
      rw [g2] at h5
      exact h5
    · right
      have h5 := of_decide_eq_true h4
      refine ⟨h5.1, ?_⟩
      have h6 := dn_ok a g1 b (by rw [g2]; exact hbl)
      rw [g2] at h6
      rw [h6]
      exact h5.2
  | getstatic idx =>
    have hb : decide ((tb_ow i, idx, a) ∈ ps_L) = true := hb
    have h1 := of_decide_eq_true hb
    have h2 := ps_ok hY _ h1
    rw [how] at h2
    have h3 : 1 ≤ a ∧ a ≤ 4 := by
      have : ∀ q ∈ ps_L, 1 ≤ q.2.2 ∧ q.2.2 ≤ 4 := by decide
      exact this _ h1
    exact ⟨by omega, _, _, _, hZ.2.1 a h3.1 h3.2, h2⟩
  | new idx =>
    intro ha
    have hb : (if 1000 ≤ a then decide ((i, pc, idx, a) ∈ px_L) else decide ((tb_ow i, idx, a) ∈ pn_L)) = true := hb
    rw [if_neg (by omega)] at hb
    have := pn_ok hY _ (of_decide_eq_true hb)
    rw [how] at this
    exact this
  | newarray t =>
    have hb : decide (t = .int ∨ t = .char ∨ t = .boolean ∨ t = .long) = true := hb
    rcases of_decide_eq_true hb with rfl | rfl | rfl | rfl
    · exact ac_int hY
    · exact ac_char hY
    · exact ac_boolean hY
    · exact ac_long hY
  | anewarray idx =>
    have hb : decide ((tb_ow i, idx, a) ∈ pa_L) = true := hb
    have := pa_ok hY _ (of_decide_eq_true hb)
    rw [how] at this
    exact this
  | invokespecial idx =>
    intro ha
    have hb : (if 1000 ≤ a then decide ((tb_ow i, idx, a) ∈ bi_L ∧ a = 1000) else _) = true := hb
    rw [if_pos ha] at hb
    obtain ⟨h1, h2⟩ := of_decide_eq_true hb
    have h3 := bi_ok hY _ h1
    rw [how] at h3
    subst h2
    exact ⟨h3, bo_1 hY, bo_2 hY⟩
  | invokestatic idx =>
    by_cases ha : 1001 ≤ a
    · have hb : (if 1001 ≤ a then decide ((tb_ow i, idx, a) ∈ bi_L ∧ a ≤ 1003) else _) = true := hb
      rw [if_pos ha] at hb
      obtain ⟨h1, h2⟩ := of_decide_eq_true hb
      have h3 := bi_ok hY _ h1
      rw [how] at h3
      refine ⟨fun e => ?_, fun e => ?_, fun e => ?_⟩
      · subst e
        exact ⟨h3, bo_3 hY, bo_7 hY, bo_9 hY⟩
      · subst e
        exact ⟨h3, bo_4 hY, bo_7 hY, bo_10 hY⟩
      · have e2 : a = 1003 := by omega
        subst e2
        exact ⟨h3, bo_6 hY, bo_5 hY, bo_8 hY⟩
    · exact ⟨fun e => by omega, fun e => by omega, fun e => by omega⟩
  | _ => trivial
theorem pk_c_ok {s0 : State} {B : Nat → Nat} (hZ : pk_Z s0 B) {i pc a b : Nat} {ins : Instr} {v : Int32} {ts : List Nat} (hi : i < 114) (hb : pk_bw i pc ins a b v ts = true) : pk_c s0 i pc ins a b := by
  have hY := hZ.1
  have how := ow_ok i hi
  cases ins with
  | new idx =>
    intro ha
    have hb : (if 1000 ≤ a then decide ((i, pc, idx, a) ∈ px_L) else decide ((tb_ow i, idx, a) ∈ pn_L)) = true := hb
    rw [if_pos ha] at hb
    exact px_ok hZ (i, pc, idx, a) (of_decide_eq_true hb)
  | invokevirtual idx =>
    have hb : decide ((tb_ow i, idx, a) ∈ pj_L ∧ a ∈ md_L ∧ a ∈ im_L ∧ a ∈ sv_L ∧ tb_cn (tb_rc a) = (tb_nm a).cls ∧ (parseMethodDescriptor (tb_nm a).desc).map (fun d => d.parameters.length + 1) = some b) = true := hb
    obtain ⟨h1, h2, h3, h4, h5, h6⟩ := of_decide_eq_true hb
    have h7 := pj_ok hY _ h1
    rw [how] at h7
    exact ⟨md_ok hY a h2, ph_ok hZ i pc hi, h7, im_ok hY a h3, sv_ok hY a h4, h5, h6⟩
  | invokestatic idx =>
    intro ha
    have hb : (if 1001 ≤ a then _ else decide ((tb_ow i, idx, a) ∈ pj_L ∧ a ∈ md_L ∧ a ∈ sm_L ∧ (parseMethodDescriptor (tb_nm a).desc).map (fun d => d.parameters.length) = some b)) = true := hb
    rw [if_neg (by omega)] at hb
    obtain ⟨h1, h2, h3, h6⟩ := of_decide_eq_true hb
    have h7 := pj_ok hY _ h1
    rw [how] at h7
    exact ⟨md_ok hY a h2, ph_ok hZ i pc hi, h7, sm_ok hY a h3, h6⟩
  | invokespecial idx =>
    intro ha
    have hb : (if 1000 ≤ a then _ else decide ((tb_ow i, idx, a) ∈ pj_L ∧ a ∈ md_L ∧ a ∈ im_L ∧ tb_hh a = [] ∧ tb_re a = none ∧ (tb_nm a).name = "<init>" ∧ (parseMethodDescriptor (tb_nm a).desc).map (fun d => d.parameters.length + 1) = some b)) = true := hb
    rw [if_neg (by omega)] at hb
    obtain ⟨h1, h2, h3, h4, h5, h6, h8⟩ := of_decide_eq_true hb
    have h7 := pj_ok hY _ h1
    rw [how] at h7
    exact ⟨md_ok hY a h2, ph_ok hZ i pc hi, h7, im_ok hY a h3, h4, h5, h6, h8⟩
  | _ => trivial
/-- EVERY ROW OF THE TABLES SAYS WHAT THE MACHINE HAS. -/
theorem pk_T_ok {s0 : State} {B : Nat → Nat} (hZ : pk_Z s0 B) : pk_T s0 B := by
  intro i pc ins a b v ts h
  by_cases hi : i < 114
  · unfold tb_in at h
    obtain ⟨q, hq, he⟩ := Option.map_eq_some_iff.mp h
    have hmem : q ∈ tb_li i := List.mem_of_find?_eq_some hq
    have hpc : q.1 = pc := by
      have := List.find?_some hq
      simpa using this
    have hb := List.all_eq_true.mp (ck_all i hi) q hmem
    obtain ⟨pc', ins', a', b', v', ts'⟩ := q
    cases he
    simp only at hpc
    subst hpc
    unfold pk_b at hb
    obtain ⟨hd, hb⟩ := Bool.and_eq_true_iff.mp hb
    have hd := of_decide_eq_true hd
    exact ⟨hd, pk_w_ok hZ hi hb, pk_c_ok hZ hi hb⟩
  · unfold tb_in at h
    rw [tb_li_none i (by omega)] at h
    cases h
theorem pk_G_ok {s0 : State} {D : va_G} {B : Nat → Nat} (hZ : pk_Z s0 B) (hB : pw_B s0 B) (hK : va_K D vwCl [] s0) : pw_G s0 D B := ⟨hB, hK, pk_U hZ.1, pk_nm, fun c r h => by
  obtain ⟨h1, h2⟩ := qk_vc h
  subst h2
  exact cn_ok c h1⟩
