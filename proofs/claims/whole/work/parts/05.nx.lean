/-! Each instruction of the pure machine that goes on in its frame is the machine's. -/
def pk_len (b : Nat) : Instr → Nat
  | .bipush _ => 2
  | .sipush _ => 3
  | .ldc2_w _ => 3
  | .iload _ => 2
  | .aload _ => 2
  | .istore _ => 2
  | .astore _ => 2
  | .iinc _ _ => 3
  | .goto _ => 3
  | .ifCond _ _ => 3
  | .if_icmp _ _ => 3
  | .if_acmp _ _ => 3
  | .tableswitch _ _ _ _ => b
  | .getfield _ => 3
  | .putfield _ => 3
  | .getstatic _ => 3
  | .new _ => 3
  | .newarray _ => 2
  | .anewarray _ => 3
  | .invokespecial _ => 3
  | .invokestatic _ => 3
  | .invokevirtual _ => 3
  | _ => 1
/-- what the tables say of an instruction that goes on in its frame -/
def pk_w (s0 : State) (B : Nat → Nat) (i pc : Nat) (ins : Instr) (a b : Nat) (v : Int32) (ts : List Nat) : Prop := match ins with
  | .iconst n => Int32.ofInt n = v
  | .bipush n => (Int8.ofInt n).toInt32 = v
  | .sipush n => (Int16.ofInt n).toInt32 = v
  | .iinc _ n => Int32.ofInt n = v
  | .ldc2_w idx => (Cond.constantLong (tb_nm i).cls idx (Int64.ofNat a)).before #[] s0 = true
  | .goto off => (pc : Int) + off = (a : Int)
  | .ifCond _ off => (pc : Int) + off = (a : Int)
  | .if_icmp _ off => (pc : Int) + off = (a : Int)
  | .if_acmp _ off => (pc : Int) + off = (a : Int)
  | .tableswitch d lo hi offs => lo = 0 ∧ hi + 1 = (ts.length : Int) ∧ (pc : Int) + d = (a : Int) ∧ ∀ k, k < ts.length → ∃ off, offs[k]? = some off ∧ (pc : Int) + off = ((ts.getD k 0 : Nat) : Int)
  | .getfield idx => pw_fl s0 (tb_nm i).cls idx a b
  | .putfield idx => pw_fl s0 (tb_nm i).cls idx a b ∧ ∀ r : vw_C, vwCl[a]? = some r → (r.2.1 b).2.2.2 = false ∨ ((tb_nm i).name = "<init>" ∧ (r.2.1 b).1 = (tb_nm i).cls)
  | .getstatic idx => a < 8 ∧ ∃ C n d, va_Z C n d (.ref (B a)) (fun q => s0.heap.size ≤ q) s0 s0.heap ∧ (Cond.fieldLink (tb_nm i).cls idx C n d).before #[] s0 = true
  | .new idx => a < 1000 → ∃ r : vw_C, vwCl[a]? = some r ∧ (Cond.classLink (tb_nm i).cls idx r.1).before #[] s0 = true ∧ (Cond.instantiable r.1 r.2.2).before #[] s0 = true ∧ (Cond.initialized r.1).before #[] s0 = true ∧ (tb_df a).length = r.2.2 ∧ ∀ j, j < r.2.2 → defaultValue (tb_ft a j) = vp_V (tb_df a) j
  | .newarray t => (Cond.arrayClass (newarray.typeOf t)).before #[] s0 = true
  | .anewarray idx => (Cond.classLink (tb_nm i).cls idx (tb_cn a)).before #[] s0 = true ∧ (Cond.arrayOver (.object (tb_cn a))).before #[] s0 = true
  | .invokespecial idx => 1000 ≤ a → (Cond.methodLink (tb_nm i).cls idx Lib.objectInit).before #[] s0 = true ∧ (Cond.instanceMethod Lib.objectInit).before #[] s0 = true ∧ (Cond.code Lib.objectInit ⟨#[0xb1]⟩ 1 none).before #[] s0 = true
  | .invokestatic idx =>
    (a = 1001 → (Cond.methodLink (tb_nm i).cls idx Lib.Math.max.name).before #[] s0 = true ∧ (Cond.static Lib.Math.max.name).before #[] s0 = true ∧ (Cond.initialized "java/lang/Math").before #[] s0 = true ∧ (Cond.code Lib.Math.max.name Lib.Math.max.code 2 (some .int)).before #[] s0 = true) ∧
    (a = 1002 → (Cond.methodLink (tb_nm i).cls idx Lib.Math.min.name).before #[] s0 = true ∧ (Cond.static Lib.Math.min.name).before #[] s0 = true ∧ (Cond.initialized "java/lang/Math").before #[] s0 = true ∧ (Cond.code Lib.Math.min.name Lib.Math.min.code 2 (some .int)).before #[] s0 = true) ∧
    (1003 ≤ a → (Cond.methodLink (tb_nm i).cls idx arraycopyName).before #[] s0 = true ∧ (Cond.native arraycopyName).before #[] s0 = true ∧ (Cond.static arraycopyName).before #[] s0 = true ∧ (Cond.initialized "java/lang/System").before #[] s0 = true)
  | _ => True
/-- what holds of the method that is walked -/
def pw_C (s0 : State) (i : Nat) (p : Program) (s : State) (m : MethodId) (meth : Method) (c : Code) : Prop :=
  p.tables.exec = Jvm.exec ∧ c.code = tb_by i ∧ c.maxLocals = tb_mL i ∧ s.vm.findClass (tb_nm i).cls = some m.cls ∧ meth.sig.returnType = tb_re i ∧ meth.locks = false ∧ meth.name = (tb_nm i).name ∧ c.exceptionTable.toList = tableOf (tb_hh i) ∧ s0.WarmedH s.vm
def pw_G (s0 : State) (D : va_G) (B : Nat → Nat) : Prop := pw_B s0 B ∧ va_K D vwCl [] s0 ∧ pw_U s0 ∧ pw_nm ∧ ∀ (c : Nat) (r : vw_C), vwCl[c]? = some r → r.1 = tb_cn c
section PWN
variable {p : Program} {l : Launch} {e : Env} {R : Room} {s : State} {m : MethodId} {args : Array Value} {below : List Frame} {meth : Method} {c : Code} {H : Heap} {locs : List Loc} {Q : State → Prop} {pc : Nat} {ls : Array Slot} {s0 : State} {D : va_G} {B : Nat → Nat} {M : pm_M} {i a b : Nat} {v : Int32} {ts : List Nat} {ins : Instr} {L : pm_L} {st : List Value} {F : pm_F} {m0 k0 : Nat}
/-- an element is read -/
theorem pw_al {G : Prop} (hW0 : s0.WarmedH s.vm) (hW : pw_W s0 D (pw_ad s0 B) H M) {ok : FieldType → Bool} (h : pm_al M L st pc ok = some F)
    (row : ∀ (q : Nat) (j : Int32) (r : List Value) (ty : FieldType) (n : Nat) (f : Nat → Value) (cell : Cell), st = .int j :: .ref q :: r → ok ty = true → H[pw_ad s0 B q]? = some cell → s.isArrayOf cell ty → cell.vm ≠ .unknown → ¬ (j < 0 ∨ cell.slots.size ≤ j.toNatClampNeg) → cell.slots[j.toNatClampNeg]? = some (pw_tr (pw_ad s0 B) (f j.toNatClampNeg)) → F = (pc + 1, L, f j.toNatClampNeg :: r, M) → G) : G := by
  simp only [pm_al, pm_ir] at h
  split at h
  · rename_i j q r
    simp only [pm_arr] at h
    split at h
    · rename_i ty n f hM
      split at h
      · rename_i hc
        cases h
        obtain ⟨cell, h1, h2, h3, h4, h5, -⟩ := pw_arr hW0 hW hM
        have hlt : j.toNatClampNeg < n := Nat.not_le.mp fun q => hc.2 (Or.inr q)
        exact row q j r ty n f cell rfl hc.1 h1 h2 h3 (by rw [h4]; exact hc.2) (h5 _ hlt) rfl
      · cases h
    · cases h
  · cases h
/-- an element is written -/
theorem pw_as {G : Prop} (hW0 : s0.WarmedH s.vm) (hB : pw_B s0 B) (hW : pw_W s0 D (pw_ad s0 B) H M) {t : FieldType} {ok : Value → Bool} (h : pm_as M L st pc t ok = some F)
    (row : ∀ (q : Nat) (j : Int32) (x : Value) (r : List Value) (cell : Cell), st = x :: .int j :: .ref q :: r → ok x = true → s0.heap.size ≤ pw_ad s0 B q → H[pw_ad s0 B q]? = some cell → s.isArrayOf cell t → cell.vm ≠ .unknown → ¬ (j < 0 ∨ cell.slots.size ≤ j.toNatClampNeg) → F.1 = pc + 1 → F.2.1 = L → F.2.2.1 = r → F.2.2.2.1 = M.1 → F.2.2.2.2.1 = M.2.1 → (∀ H1 : Heap, H1[pw_ad s0 B q]? = some (cell.setSlot j.toNatClampNeg (narrow t (pw_tr (pw_ad s0 B) x))) → H1.size = H.size → (∀ y, y ≠ pw_ad s0 B q → H1[y]? = H[y]?) → pw_W s0 D (pw_ad s0 B) H1 F.2.2.2) → G) : G := by
  simp only [pm_as, pm_vir] at h
  split at h
  · rename_i x j q r
    simp only [pm_arr] at h
    split at h
    · rename_i ty n f hM
      split at h
      · rename_i hc
        obtain ⟨hc1, rfl, hc3, hc4⟩ := hc
        cases h
        obtain ⟨cell, h1, h2, h3, h4, h5, h6, h7⟩ := pw_arr hW0 hW hM
        exact row q j x r cell rfl hc1 (by rw [pw_ad_ge hc3]; exact Nat.le_add_right _ _) h1 h2 h3 (by rw [h4]; exact hc4) rfl rfl rfl rfl rfl (fun H1 e1 e2 e3 => pw_arrS hB hW hc3 h1 h6 h3 h4 h5 h7 (by rw [← pw_tr_narrow]; exact e1) e2 e3)
      · cases h
    · cases h
  · cases h
set_option maxHeartbeats 4000000 in
theorem pw_nx (hC : pw_C s0 i p s m meth c) (hG : pw_G s0 D B) (hd : decode (tb_by i) pc = .ok (ins, pk_len b ins)) (hw : pk_w s0 B i pc ins a b v ts) (h : pm_nx ins a b v ts pc L st M = some F) (hn1 : (∃ k, ins = .new k) → a < 1000) (hn2 : (∃ k, ins = .invokespecial k) → 1000 ≤ a) (hn3 : (∃ k, ins = .invokestatic k) → 1001 ≤ a) (hn4 : ((∃ k, ins = .invokespecial k) ∨ ∃ k, ins = .invokestatic k) → pm_cs st ≤ 12) (hLn : L.length = tb_mL i) (hL : pw_L (pw_ad s0 B) ls L) (hW : pw_W s0 D (pw_ad s0 B) H M) (hlc : ∀ y ∈ locs, s0.heap.size ≤ y.base) (hm : m0 ≤ M.1) (hk : k0 ≤ M.2.1) (hR : 4 ≤ R.frames ∧ 100 ≤ R.locals) (hc1 : F.2.2.2.1 - m0 ≤ R.cells) (hc2 : F.2.2.2.2.1 - k0 ≤ R.slots)
    (kk : ∀ (ls' : Array Slot) (H' : Heap) (locs' : List Loc), pw_L (pw_ad s0 B) ls' F.2.1 → F.2.1.length = tb_mL i → pw_W s0 D (pw_ad s0 B) H' F.2.2.2 → (∀ y ∈ locs', s0.heap.size ≤ y.base) → W p l e R s m args below meth c H' locs' (F.2.2.2.1 - m0) (F.2.2.2.2.1 - k0) Q (F0 m F.1 ls' (F.2.2.1.map (pw_tr (pw_ad s0 B))))) :
    W p l e R s m args below meth c H locs (M.1 - m0) (M.2.1 - k0) Q (F0 m pc ls (st.map (pw_tr (pw_ad s0 B)))) := by
  obtain ⟨hx, hb, hml, hown, hret, hlk, hname, htab, hW0⟩ := hC
  obtain ⟨hB, hK, hU, hN, hcn⟩ := hG
  cases ins with
  | iconst n =>
    cases h
    exact lv_iconst hx hb hd hw (kk ls H locs hL hLn hW hlc)
  | bipush n =>
    cases h
    exact lv_bipush hx hb hd hw (kk ls H locs hL hLn hW hlc)
  | sipush n =>
    cases h
    exact lv_sipush hx hb hd hw (kk ls H locs hL hLn hW hlc)
  | lconst n =>
    cases h
    exact lv_lconst hx hb hd rfl (kk ls H locs hL hLn hW hlc)
  | ldc2_w idx =>
    cases h
    exact lv_ldc2 hx hb hown (pw_wd hW0 rfl hw) hd (kk ls H locs hL hLn hW hlc)
  | iload_n k =>
    simp only [pm_nx, pm_ld] at h
    split at h
    · rename_i x hx1
      split at h
      · rename_i hI
        obtain ⟨y, rfl⟩ := pw_tr_I (ad := pw_ad s0 B) hI
        cases h
        exact lv_iload_n hx hb hd rfl (hL.2.2 _ _ hx1) (kk ls H locs hL hLn hW hlc)
      · cases h
    · cases h
  | iload k =>
    simp only [pm_nx, pm_ld] at h
    split at h
    · rename_i x hx1
      split at h
      · rename_i hI
        obtain ⟨y, rfl⟩ := pw_tr_I (ad := pw_ad s0 B) hI
        cases h
        exact lv_iload hx hb hd (hL.2.2 _ _ hx1) (kk ls H locs hL hLn hW hlc)
      · cases h
    · cases h
  | lload_n k =>
    simp only [pm_nx, pm_ld] at h
    split at h
    · rename_i x hx1
      split at h
      · rename_i hI
        obtain ⟨y, rfl⟩ := pw_tr_J (ad := pw_ad s0 B) hI
        cases h
        exact lv_lload_n hx hb hd rfl (hL.2.2 _ _ hx1) (kk ls H locs hL hLn hW hlc)
      · cases h
    · cases h
  | aload_n k =>
    simp only [pm_nx, pm_ld] at h
    split at h
    · rename_i x hx1
      split at h
      · rename_i hI
        obtain ⟨y, rfl⟩ := pw_tr_A (ad := pw_ad s0 B) hI
        cases h
        exact lv_aload_n hx hb hd rfl (hL.2.2 _ _ hx1) (kk ls H locs hL hLn hW hlc)
      · cases h
    · cases h
  | aload k =>
    simp only [pm_nx, pm_ld] at h
    split at h
    · rename_i x hx1
      split at h
      · rename_i hI
        obtain ⟨y, rfl⟩ := pw_tr_A (ad := pw_ad s0 B) hI
        cases h
        exact lv_aload hx hb hd (hL.2.2 _ _ hx1) (kk ls H locs hL hLn hW hlc)
      · cases h
    · cases h
  | istore_n k =>
    simp only [pm_nx, pm_v1] at h
    split at h
    · rename_i x r
      split at h
      · rename_i hI
        obtain ⟨y, rfl⟩ := pw_tr_I (ad := pw_ad s0 B) hI.1
        cases h
        exact lv_istore_n hx hb hd rfl hL.has hI.2 rfl (fun ls' h' => kk ls' H locs (pw_L.st h') (by rw [pm_set_len]; exact hLn) hW hlc)
      · cases h
    · cases h
  | istore k =>
    simp only [pm_nx, pm_v1] at h
    split at h
    · rename_i x r
      split at h
      · rename_i hI
        obtain ⟨y, rfl⟩ := pw_tr_I (ad := pw_ad s0 B) hI.1
        cases h
        exact lv_istore hx hb hd hL.has hI.2 rfl (fun ls' h' => kk ls' H locs (pw_L.st h') (by rw [pm_set_len]; exact hLn) hW hlc)
      · cases h
    · cases h
  | astore_n k =>
    simp only [pm_nx, pm_v1] at h
    split at h
    · rename_i x r
      split at h
      · rename_i hI
        obtain ⟨y, rfl⟩ := pw_tr_A (ad := pw_ad s0 B) hI.1
        cases h
        exact lv_astore_n hx hb hd rfl hL.has hI.2 rfl (fun ls' h' => kk ls' H locs (pw_L.st h') (by rw [pm_set_len]; exact hLn) hW hlc)
      · cases h
    · cases h
  | astore k =>
    simp only [pm_nx, pm_v1] at h
    split at h
    · rename_i x r
      split at h
      · rename_i hI
        obtain ⟨y, rfl⟩ := pw_tr_A (ad := pw_ad s0 B) hI.1
        cases h
        exact lv_astore hx hb hd hL.has hI.2 rfl (fun ls' h' => kk ls' H locs (pw_L.st h') (by rw [pm_set_len]; exact hLn) hW hlc)
      · cases h
    · cases h
  | iinc k n =>
    simp only [pm_nx, pm_ld] at h
    split at h
    · rename_i x0 hx1
      split at h
      · rename_i x
        split at h
        · rename_i hk9
          cases h
          obtain ⟨j, hj⟩ := List.getElem?_of_mem (pw_ps_mem (ad := pw_ad s0 B) (q := (k, .int x)).mpr ⟨_, hx1, rfl⟩)
          exact lv_iinc hx hb hd hL.has hj (by rw [hw]) hk9 rfl (fun ls' h' => kk ls' H locs (pw_L.st (v := .int (x + v)) h') (by rw [pm_set_len]; exact hLn) hW hlc)
        · cases h
      · cases h
    · cases h
  | iadd =>
    simp only [pm_nx, pm_i2] at h
    split at h
    · cases h
      exact lv_iadd hx hb hd (kk ls H locs hL hLn hW hlc)
    · cases h
  | isub =>
    simp only [pm_nx, pm_i2] at h
    split at h
    · cases h
      exact lv_isub hx hb hd (kk ls H locs hL hLn hW hlc)
    · cases h
  | imul =>
    simp only [pm_nx, pm_i2] at h
    split at h
    · cases h
      exact lv_imul hx hb hd (kk ls H locs hL hLn hW hlc)
    · cases h
  | iand =>
    simp only [pm_nx, pm_i2] at h
    split at h
    · cases h
      exact lv_iand hx hb hd (kk ls H locs hL hLn hW hlc)
    · cases h
  | idiv =>
    simp only [pm_nx, pm_i2] at h
    split at h
    · split at h
      · cases h
      · rename_i hne
        cases h
        exact lv_idiv hx hb hd hne (kk ls H locs hL hLn hW hlc)
    · cases h
  | irem =>
    simp only [pm_nx, pm_i2] at h
    split at h
    · split at h
      · cases h
      · rename_i hne
        cases h
        exact lv_irem hx hb hd hne (kk ls H locs hL hLn hW hlc)
    · cases h
  | i2l =>
    simp only [pm_nx, pm_i1] at h
    split at h
    · cases h
      exact lv_i2l hx hb hd rfl (kk ls H locs hL hLn hW hlc)
    · cases h
  | i2c =>
    simp only [pm_nx, pm_i1] at h
    split at h
    · cases h
      exact lv_i2c hx hb hd rfl (kk ls H locs hL hLn hW hlc)
    · cases h
  | l2i =>
    simp only [pm_nx, pm_l1] at h
    split at h
    · cases h
      exact lv_l2i hx hb hd rfl (kk ls H locs hL hLn hW hlc)
    · cases h
  | lcmp =>
    simp only [pm_nx, pm_l2] at h
    split at h
    · cases h
      exact W.lcmp hx hb hd (kk ls H locs hL hLn hW hlc)
    · cases h
  | land =>
    simp only [pm_nx, pm_l2] at h
    split at h
    · cases h
      exact lv_land hx hb hd (kk ls H locs hL hLn hW hlc)
    · cases h
  | lor =>
    simp only [pm_nx, pm_l2] at h
    split at h
    · cases h
      exact lv_lor hx hb hd (kk ls H locs hL hLn hW hlc)
    · cases h
  | lshl =>
    simp only [pm_nx, pm_li] at h
    split at h
    · cases h
      exact lv_lshl hx hb hd rfl (kk ls H locs hL hLn hW hlc)
    · cases h
  | lshr =>
    simp only [pm_nx, pm_li] at h
    split at h
    · cases h
      exact lv_lshr hx hb hd rfl (kk ls H locs hL hLn hW hlc)
    · cases h
  | lushr =>
    simp only [pm_nx, pm_li] at h
    split at h
    · cases h
      exact lv_lushr hx hb hd rfl (kk ls H locs hL hLn hW hlc)
    · cases h
  | dup =>
    simp only [pm_nx, pm_v1] at h
    split at h
    · split at h
      · rename_i hc9
        cases h
        exact lv_dup hx hb hd (by rw [pw_tr_cat]; exact hc9) (kk ls H locs hL hLn hW hlc)
      · cases h
    · cases h
  | pop =>
    simp only [pm_nx, pm_v1] at h
    split at h
    · split at h
      · rename_i hc9
        cases h
        exact lv_pop hx hb hd (by rw [pw_tr_cat]; exact hc9) (kk ls H locs hL hLn hW hlc)
      · cases h
    · cases h
  | goto off =>
    cases h
    exact lv_goto hx hb hd hw (kk ls H locs hL hLn hW hlc)
  | ifCond cnd off =>
    cases cnd with
    | eq =>
      simp only [pm_nx, pm_i1] at h
      split at h
      · cases h
        have k1 := kk ls H locs hL hLn hW hlc
        dsimp only at k1
        exact lv_if_eq hx hb hd hw (fun h0 => by rw [if_pos h0] at k1; exact k1) (fun h0 => by rw [if_neg h0] at k1; exact k1)
      · cases h
    | ne =>
      simp only [pm_nx, pm_i1] at h
      split at h
      · cases h
        have k1 := kk ls H locs hL hLn hW hlc
        dsimp only at k1
        exact lv_if_ne hx hb hd hw (fun h0 => by rw [if_neg h0] at k1; exact k1) (fun h0 => by rw [if_pos h0] at k1; exact k1)
      · cases h
    | lt =>
      simp only [pm_nx, pm_i1] at h
      split at h
      · cases h
        have k1 := kk ls H locs hL hLn hW hlc
        dsimp only at k1
        exact lv_if_lt hx hb hd hw (fun h0 => by rw [if_pos h0] at k1; exact k1) (fun h0 => by rw [if_neg h0] at k1; exact k1)
      · cases h
    | ge =>
      simp only [pm_nx, pm_i1] at h
      split at h
      · cases h
        have k1 := kk ls H locs hL hLn hW hlc
        dsimp only at k1
        exact lv_if_ge hx hb hd hw (fun h0 => by rw [if_pos h0] at k1; exact k1) (fun h0 => by rw [if_neg h0] at k1; exact k1)
      · cases h
    | gt =>
      simp only [pm_nx, pm_i1] at h
      split at h
      · cases h
        have k1 := kk ls H locs hL hLn hW hlc
        dsimp only at k1
        exact lv_if_gt hx hb hd hw (fun h0 => by rw [if_pos h0] at k1; exact k1) (fun h0 => by rw [if_neg h0] at k1; exact k1)
      · cases h
    | le =>
      simp only [pm_nx, pm_i1] at h
      split at h
      · cases h
        have k1 := kk ls H locs hL hLn hW hlc
        dsimp only at k1
        exact lv_if_le hx hb hd hw (fun h0 => by rw [if_pos h0] at k1; exact k1) (fun h0 => by rw [if_neg h0] at k1; exact k1)
      · cases h
  | if_icmp cnd off =>
    cases cnd with
    | eq =>
      simp only [pm_nx, pm_i2] at h
      split at h
      · cases h
        have k1 := kk ls H locs hL hLn hW hlc
        dsimp only at k1
        exact lv_icmp_eq hx hb hd hw (fun h0 => by rw [if_pos h0] at k1; exact k1) (fun h0 => by rw [if_neg h0] at k1; exact k1)
      · cases h
    | ne =>
      simp only [pm_nx, pm_i2] at h
      split at h
      · cases h
        have k1 := kk ls H locs hL hLn hW hlc
        dsimp only at k1
        exact lv_icmp_ne hx hb hd hw (fun h0 => by rw [if_neg h0] at k1; exact k1) (fun h0 => by rw [if_pos h0] at k1; exact k1)
      · cases h
    | lt =>
      simp only [pm_nx, pm_i2] at h
      split at h
      · cases h
        have k1 := kk ls H locs hL hLn hW hlc
        dsimp only at k1
        exact lv_icmp_lt hx hb hd hw (fun h0 => by rw [if_pos h0] at k1; exact k1) (fun h0 => by rw [if_neg h0] at k1; exact k1)
      · cases h
    | ge =>
      simp only [pm_nx, pm_i2] at h
      split at h
      · cases h
        have k1 := kk ls H locs hL hLn hW hlc
        dsimp only at k1
        exact lv_icmp_ge hx hb hd hw (fun h0 => by rw [if_pos h0] at k1; exact k1) (fun h0 => by rw [if_neg h0] at k1; exact k1)
      · cases h
    | gt =>
      simp only [pm_nx, pm_i2] at h
      split at h
      · cases h
        have k1 := kk ls H locs hL hLn hW hlc
        dsimp only at k1
        exact lv_icmp_gt hx hb hd hw (fun h0 => by rw [if_pos h0] at k1; exact k1) (fun h0 => by rw [if_neg h0] at k1; exact k1)
      · cases h
    | le =>
      simp only [pm_nx, pm_i2] at h
      split at h
      · cases h
        have k1 := kk ls H locs hL hLn hW hlc
        dsimp only at k1
        exact lv_icmp_le hx hb hd hw (fun h0 => by rw [if_pos h0] at k1; exact k1) (fun h0 => by rw [if_neg h0] at k1; exact k1)
      · cases h
  | if_acmp cnd off =>
    cases cnd with
    | eq =>
      simp only [pm_nx, pm_r2] at h
      split at h
      · rename_i y x r
        split at h
        · rename_i hxy
          cases h
          have k1 := kk ls H locs hL hLn hW hlc
          dsimp only at k1
          have inj : (some (pw_ad s0 B x) = some (pw_ad s0 B y)) ↔ x = y := by
            constructor
            · intro h9
              have h8 := Option.some.inj h9
              unfold pw_ad at h8
              rw [if_pos (by omega), if_pos (by omega)] at h8
              exact hB.2 x y hxy.1.1 hxy.1.2 hxy.2.1 hxy.2.2 h8
            · rintro rfl
              rfl
          exact lv_acmp_eq (rx := some (pw_ad s0 B x)) (ry := some (pw_ad s0 B y)) hx hb hd hw (fun h0 => by rw [if_pos (inj.mp h0)] at k1; exact k1) (fun h0 => by rw [if_neg (fun z => h0 (inj.mpr z))] at k1; exact k1)
        · cases h
      · cases h
    | ne =>
      simp only [pm_nx, pm_r2] at h
      split at h
      · rename_i y x r
        split at h
        · rename_i hxy
          cases h
          have k1 := kk ls H locs hL hLn hW hlc
          dsimp only at k1
          have inj : (some (pw_ad s0 B x) = some (pw_ad s0 B y)) ↔ x = y := by
            constructor
            · intro h9
              have h8 := Option.some.inj h9
              unfold pw_ad at h8
              rw [if_pos (by omega), if_pos (by omega)] at h8
              exact hB.2 x y hxy.1.1 hxy.1.2 hxy.2.1 hxy.2.2 h8
            · rintro rfl
              rfl
          exact lv_acmp_ne (rx := some (pw_ad s0 B x)) (ry := some (pw_ad s0 B y)) hx hb hd hw (fun h0 => by rw [if_neg (fun z => h0 (inj.mpr z))] at k1; exact k1) (fun h0 => by rw [if_pos (inj.mp h0)] at k1; exact k1)
        · cases h
      · cases h
  | tableswitch d lo hi offs =>
    simp only [pm_nx, pm_i1] at h
    split at h
    · rename_i x r
      cases h
      have k1 := kk ls H locs hL hLn hW hlc
      dsimp only at k1
      obtain ⟨h1, h2, h3, h4⟩ := hw
      subst h1
      by_cases h0 : x < 0 ∨ ts.length ≤ x.toNatClampNeg
      · rw [if_pos h0] at k1
        refine lv_tableOut hx hb hd ?_ h3 k1
        have h5 : x.toNatClampNeg = x.toInt.toNat := rfl
        by_cases h6 : x.toInt < 0
        · exact Or.inl h6
        · refine Or.inr ?_
          rcases h0 with h0 | h0
          · exact absurd (by simpa using Int32.lt_iff_toInt_lt.mp h0) h6
          · omega
      · rw [if_neg h0] at k1
        have hx0 : ¬ x.toInt < 0 := fun h9 => h0 (Or.inl (Int32.lt_iff_toInt_lt.mpr (by simpa using h9)))
        have h5 : x.toNatClampNeg = x.toInt.toNat := rfl
        have hlt : x.toNatClampNeg < ts.length := Nat.not_le.mp fun h9 => h0 (Or.inr h9)
        obtain ⟨off, ho, ht⟩ := h4 _ hlt
        exact lv_tableIn hx hb hd hx0 (by omega) (by rw [show (x.toInt - 0).toNat = x.toNatClampNeg by rw [h5]; simp]; exact ho) ht k1
    · cases h
  | iaload =>
    refine pw_al (s := s) hW0 hW h (fun q j r ty n f cell e1 e2 e3 e4 e5 e6 e7 e8 => ?_)
    subst e1; subst e8
    cases (beq_iff_eq.mp e2)
    exact W.iald hx hb e3 e4 e5 e6 e7 rfl rfl hd (kk ls H locs hL hLn hW hlc)
  | baload =>
    refine pw_al (s := s) hW0 hW h (fun q j r ty n f cell e1 e2 e3 e4 e5 e6 e7 e8 => ?_)
    subst e1; subst e8
    cases (beq_iff_eq.mp e2)
    exact W.zald hx hb e3 e4 e5 e6 e7 rfl rfl hd (kk ls H locs hL hLn hW hlc)
  | caload =>
    refine pw_al (s := s) hW0 hW h (fun q j r ty n f cell e1 e2 e3 e4 e5 e6 e7 e8 => ?_)
    subst e1; subst e8
    cases (beq_iff_eq.mp e2)
    exact W.cald hx hb e3 e4 e5 e6 e7 rfl rfl hd (kk ls H locs hL hLn hW hlc)
  | laload =>
    refine pw_al (s := s) hW0 hW h (fun q j r ty n f cell e1 e2 e3 e4 e5 e6 e7 e8 => ?_)
    subst e1; subst e8
    cases (beq_iff_eq.mp e2)
    exact W.lald hx hb e3 e4 e5 e6 e7 rfl rfl hd (kk ls H locs hL hLn hW hlc)
  | aaload =>
    refine pw_al (s := s) hW0 hW h (fun q j r ty n f cell e1 e2 e3 e4 e5 e6 e7 e8 => ?_)
    subst e1; subst e8
    exact W.aald hx hb e3 e4 (by cases ty <;> first | rfl | cases e2) e5 e6 e7 rfl rfl hd (kk ls H locs hL hLn hW hlc)
  | iastore =>
    refine pw_as (s := s) hW0 hB hW h (fun q j x r cell e1 e2 e3 e4 e5 e6 e7 f1 f2 f3 f4 f5 f6 => ?_)
    subst e1
    obtain ⟨y, rfl⟩ := pw_tr_I (ad := pw_ad s0 B) e2
    rw [f1, f2, f3, f4, f5] at kk
    refine W.iast hx hb e4 e5 e6 e7 rfl rfl hd (fun H1 g1 g2 g3 => kk ls H1 _ hL hLn (f6 H1 g1 g2 g3) (pw_lc1 hlc e3))
  | bastore =>
    refine pw_as (s := s) hW0 hB hW h (fun q j x r cell e1 e2 e3 e4 e5 e6 e7 f1 f2 f3 f4 f5 f6 => ?_)
    subst e1
    obtain ⟨y, rfl⟩ := pw_tr_I (ad := pw_ad s0 B) e2
    rw [f1, f2, f3, f4, f5] at kk
    refine W.zast hx hb e4 e5 e6 e7 rfl rfl hd (fun H1 g1 g2 g3 => kk ls H1 _ hL hLn (f6 H1 g1 g2 g3) (pw_lc1 hlc e3))
  | castore =>
    refine pw_as (s := s) hW0 hB hW h (fun q j x r cell e1 e2 e3 e4 e5 e6 e7 f1 f2 f3 f4 f5 f6 => ?_)
    subst e1
    obtain ⟨y, rfl⟩ := pw_tr_I (ad := pw_ad s0 B) e2
    rw [f1, f2, f3, f4, f5] at kk
    refine W.cast hx hb e4 e5 e6 e7 rfl rfl hd (fun H1 g1 g2 g3 => kk ls H1 _ hL hLn (f6 H1 g1 g2 g3) (pw_lc1 hlc e3))
  | lastore =>
    refine pw_as (s := s) hW0 hB hW h (fun q j x r cell e1 e2 e3 e4 e5 e6 e7 f1 f2 f3 f4 f5 f6 => ?_)
    subst e1
    obtain ⟨y, rfl⟩ := pw_tr_J (ad := pw_ad s0 B) e2
    rw [f1, f2, f3, f4, f5] at kk
    refine W.last hx hb e4 e5 e6 e7 rfl rfl hd (fun H1 g1 g2 g3 => kk ls H1 _ hL hLn (f6 H1 g1 g2 g3) (pw_lc1 hlc e3))
  | aastore =>
    simp only [pm_nx, pm_vir] at h
    split at h
    · rename_i x j q r
      split at h
      · rename_i w
        simp only [pm_arr] at h
        split at h
        · rename_i ty n f hM
          simp only [pm_obj] at h
          split at h
          · cases h
          · rename_i cw fs hMw
            split at h
            · rename_i hc9
              obtain ⟨⟨hcl, hty⟩, hq8, hr9⟩ := hc9
              cases h
              obtain ⟨cell, h1, h2, h3, h4, h5, h6, h7⟩ := pw_arr hW0 hW hM
              have hlt : j.toNatClampNeg < n := Nat.not_le.mp fun q => hr9 (Or.inr q)
              obtain ⟨r9, hr1⟩ : ∃ r9, vwCl[cw]? = some r9 := ⟨_, List.getElem?_eq_getElem hcl⟩
              have g0 := hW.2.2 w
              rw [hMw] at g0
              obtain ⟨cellV, g1, g2, g3, -⟩ := g0 r9 hr1
              have hK' := va_K.moved hW0.alike hK
              have hcls := (hK'.1 cw r9 hr1).2
              have hcls0 := (hK.1 cw r9 hr1).2
              obtain ⟨kA, comp, k1, k2, k3⟩ := h7 (tb_cn cw) hty
              rw [← hcn cw r9 hr1] at k3 k2
              have hcomp : comp = D.1 cw := Option.some.inj (k3.symm.trans hcls0.1)
              subst hcomp
              obtain ⟨kC, hkC, -⟩ := hcls.2
              obtain ⟨kA', hkA', heA⟩ := hW0.alike.2.2 _ _ k1
              refine W.aast hx hb h1 (fun q h => h2.1 q h) h3 hkA' (by rw [heA]; exact k2) rfl hkC ⟨fun q => hr9 (Or.inl q), by rw [h4]; exact hlt⟩ g1 (fun q h => by rw [g3] at h; cases h) (by rw [g2]; exact hkC) (by rw [g2]; exact va_assign hcls) rfl rfl hd (fun H1 e1 e2 e3 => kk ls H1 _ hL hLn (pw_arrS hB hW hq8 (v := .ref w) h1 h6 h3 h4 h5 h7 e1 e2 e3) (pw_lc1 hlc (by rw [pw_ad_ge hq8]; exact Nat.le_add_right _ _)))
            · cases h
        · cases h
      · cases h
    · cases h
  | arraylength =>
    simp only [pm_nx, pm_r1] at h
    split at h
    · simp only [pm_arr] at h
      split at h
      · rename_i ty n f hM
        cases h
        obtain ⟨cell, h1, h2, h3, h4, -⟩ := pw_arr hW0 hW hM
        exact W.alen hx hb h1 h2 (by rw [h4]) rfl rfl hd (kk ls H locs hL hLn hW hlc)
      · cases h
    · cases h
  | getfield idx =>
    simp only [pm_nx, pm_r1] at h
    split at h
    · simp only [pm_obj] at h
      split at h
      · cases h
      · rename_i c9 fs hM
        split at h
        · rename_i x hx1
          split at h
          · rename_i hc9
            subst hc9
            cases h
            exact pw_get hx hb hW0 hK hU hown hw hd hW hM hx1 (kk ls H locs hL hLn hW hlc)
          · cases h
        · cases h
    · cases h
  | putfield idx =>
    simp only [pm_nx, pm_vr] at h
    split at h
    · simp only [pm_obj] at h
      split at h
      · cases h
      · rename_i c9 fs hM
        split at h
        · rename_i hc9
          obtain ⟨rfl, hc3, hc4, hc5, hc6⟩ := hc9
          cases h
          exact pw_put hx hb hW0 hB hK hU hN hown hw.1 (fun r hr => by rw [hname]; exact hw.2 r hr) hd hW hc3 hM hc4 hc5 hc6 hlc (fun H1 locs1 g1 g2 => kk ls H1 locs1 hL hLn g1 g2)
        · cases h
    · cases h
  | getstatic idx =>
    cases h
    obtain ⟨ha, C, n, d, hZ, hl⟩ := hw
    obtain ⟨cf, kf, fi, f, a1, cell, h1, h2, h3, h4, h5, h6, h7, h8⟩ := hZ.moved hW0.alike
    have e1 : pw_ad s0 B a = B a := by unfold pw_ad; rw [if_pos ha]
    have k1 : W p l e R s m args below meth c H locs (M.1 - m0) (M.2.1 - k0) Q (F0 m (pc + 3) ls (.ref (pw_ad s0 B a) :: st.map (pw_tr (pw_ad s0 B)))) := kk ls H locs hL hLn hW hlc
    rw [e1] at k1
    exact W.gets hx hb hown (pw_wd hW0 rfl hl) h1 h2 h3 h4 (by rw [hW.2.1 a1 (Array.getElem?_eq_some_iff.mp h5).1]; exact h5) (fun e => by rw [e] at h6; cases h6) h7 rfl hd k1
  | new idx =>
    cases h
    obtain ⟨r, hr, w1, w2, w3, hlen, hdf⟩ := hw (hn1 ⟨_, rfl⟩)
    have hK' := va_K.moved hW0.alike hK
    have hKn := hK'.1 a r hr
    have hws : ∀ w ∈ u_ws r.1 r.2.1 r.2.2, w.before args s = true := hU.ws hW0 hr
    have hc1' : M.1 + 1 - m0 ≤ R.cells := hc1
    have hc2' : M.2.1 + (tb_df a).length - k0 ≤ R.slots := hc2
    refine W.newcK hx hb hown (pw_wd hW0 rfl w1) (pw_wd hW0 rfl w2) (pw_wd hW0 rfl w3) rfl hd (by omega) (by omega) hKn.2.1 rfl fun H1 kC hkC e1 z1 o1 => ?_
    have e9 : pw_ad s0 B (8 + M.1) = H.size := pw_ad_new hW
    have k1 : pw_W s0 D (pw_ad s0 B) H1 (pm_mk M (tb_df a).length (.inr (a, tb_df a))) → W p l e R s m args below meth c H1 locs (M.1 + 1 - m0) (M.2.1 + (tb_df a).length - k0) Q (F0 m (pc + 3) ls (.ref (pw_ad s0 B (8 + M.1)) :: st.map (pw_tr (pw_ad s0 B)))) := fun h9 => kk ls H1 locs hL hLn h9 hlc
    rw [e9] at k1
    refine W.cs (by omega) (by omega) (k1 (hW.mk z1 o1 (fun r' hr' => ?_)))
    · cases hr.symm.trans hr'
      rw [e9]
      exact (u_born (tb_ft a) hws (fun _ h => h) hKn hkC e1 (hN a r hr).1).to (fun j hj => by rw [← hdf j hj, pw_tr_def])
  | newarray t =>
    simp only [pm_nx, pm_i1] at h
    split at h
    · rename_i x r
      split at h
      · cases h
      · rename_i hx9
        cases h
        have hc1' : M.1 + 1 - m0 ≤ R.cells := hc1
        have hc2' : M.2.1 + x.toNatClampNeg - k0 ≤ R.slots := hc2
        have hx5 : x.toNatClampNeg ≤ 5000 := Nat.not_lt.mp fun q => hx9 (Or.inr q)
        refine va_newaK hx hb (pw_wd hW0 rfl hw) rfl hd rfl (fun q => hx9 (Or.inl q)) rfl (by have : componentBytes (newarray.typeOf t) ≤ 8 := (by cases t <;> decide); have := Nat.mul_le_mul hx5 this; omega) (by omega) (by omega) rfl fun H1 cA e1 z1 o1 hAr hNm => ?_
        have e9 : pw_ad s0 B (8 + M.1) = H.size := pw_ad_new hW
        have k1 : W p l e R s m args below meth c H1 locs (M.1 + 1 - m0) (M.2.1 + x.toNatClampNeg - k0) Q (F0 m (pc + 2) ls (.ref (pw_ad s0 B (8 + M.1)) :: r.map (pw_tr (pw_ad s0 B)))) := kk ls H1 locs hL hLn (hW.mk z1 o1 ⟨_, by rw [e9]; exact e1, State.isArrayOf_alike hW0.alike.symm (hAr _ _), fun q => (by cases q), by rw [arrV_size], fun j hj => by rw [arrV_read _ _ hj, pw_tr_def], fun C hC => by cases t <;> cases hC⟩) hlc
        rw [e9] at k1
        exact W.cs (by omega) (by omega) k1
    · cases h
  | anewarray idx =>
    simp only [pm_nx, pm_i1] at h
    split at h
    · rename_i x r
      split at h
      · cases h
      · rename_i hx9
        cases h
        have hc1' : M.1 + 1 - m0 ≤ R.cells := hc1
        have hc2' : M.2.1 + x.toNatClampNeg - k0 ≤ R.slots := hc2
        have hx5 : x.toNatClampNeg ≤ 5000 := Nat.not_lt.mp fun q => hx9 (Or.inr q)
        refine W.anew hx hb hown (pw_wd hW0 rfl hw.1) (pw_wdA hW0 hw.2) rfl hd rfl (fun q => hx9 (Or.inl q)) (by omega) (by omega) (by omega) fun cA kA comp n1 n2 n3 n4 => ?_
        have e9 : pw_ad s0 B (8 + M.1) = H.size := pw_ad_new hW
        obtain ⟨kA', hkA', heA⟩ := hW0.alike.symm.2.2 _ _ n2
        have hkd : kA'.kind = .array comp (.object (tb_cn a)) := by rw [heA]; exact n3
        have k1 : W p l e R s m args below meth c (H.push { cls := cA, slots := Array.replicate x.toNatClampNeg .null, vm := .none }) locs (M.1 + 1 - m0) (M.2.1 + x.toNatClampNeg - k0) Q (F0 m (pc + 3) ls (.ref (pw_ad s0 B (8 + M.1)) :: r.map (pw_tr (pw_ad s0 B)))) := kk ls _ locs hL hLn (hW.mk (H1 := H.push { cls := cA, slots := Array.replicate x.toNatClampNeg .null, vm := .none }) (by simp) (fun q hq => by rw [Array.getElem?_push, if_neg (Nat.ne_of_lt hq)]) ⟨{ cls := cA, slots := Array.replicate x.toNatClampNeg .null, vm := .none }, by rw [e9]; simp, ⟨fun q h => (by cases h), kA', hkA', comp, hkd⟩, fun q => (by cases q), by simp, fun j hj => by simp [hj, pw_tr], fun C hC => by cases hC; exact ⟨kA', comp, hkA', hkd, by rw [hW0.alike.symm.findClass]; exact n4⟩⟩) hlc
        rw [e9] at k1
        exact W.cs (by omega) (by omega) k1
    · cases h
  | invokespecial idx =>
    have hcs := hn4 (Or.inl ⟨_, rfl⟩)
    simp only [pm_nx, pm_r1] at h
    split at h
    · rename_i q r
      cases h
      obtain ⟨w1, w2, w3⟩ := hw (hn2 ⟨_, rfl⟩)
      exact W.objInit hx hb hown (pw_wd hW0 rfl w1) (pw_wd hW0 rfl w2) (pw_wd hW0 rfl w3) rfl (by rw [hml, ← hLn]; exact hL.1) rfl hd (by omega) (by rw [pw_cs]; have : pm_cs (.ref q :: r) = 1 + pm_cs r := rfl; show 2 * 0 + _ + 12 ≤ _; omega) (kk ls H locs hL hLn hW hlc)
    · cases h
  | invokestatic idx =>
    have hcs := hn4 (Or.inr ⟨_, rfl⟩)
    have ha := hn3 ⟨_, rfl⟩
    have hmls : c.maxLocals = ls.size := by rw [hml, ← hLn]; exact hL.1.symm
    simp only [pm_nx] at h
    split at h
    · rename_i ha1
      obtain ⟨w1, w2, w3, w4⟩ := hw.1 ha1
      simp only [pm_i2] at h
      split at h
      · rename_i y x r
        cases h
        exact va_mmax hx hb hmls hown (pw_wd hW0 rfl w1) (pw_wd hW0 rfl w2) (pw_wd hW0 rfl w3) (pw_wd hW0 rfl w4) (by omega) (by rw [pw_cs]; have : pm_cs (.int y :: .int x :: r) = 1 + (1 + pm_cs r) := rfl; omega) hc1 hc2 hd (kk ls H locs hL hLn hW hlc)
      · cases h
    · split at h
      · rename_i ha1 ha2
        obtain ⟨w1, w2, w3, w4⟩ := hw.2.1 ha2
        simp only [pm_i2] at h
        split at h
        · rename_i y x r
          cases h
          exact va_mmin hx hb hmls hown (pw_wd hW0 rfl w1) (pw_wd hW0 rfl w2) (pw_wd hW0 rfl w3) (pw_wd hW0 rfl w4) (by omega) (by rw [pw_cs]; have : pm_cs (.int y :: .int x :: r) = 1 + (1 + pm_cs r) := rfl; omega) hc1 hc2 hd (kk ls H locs hL hLn hW hlc)
        · cases h
      · rename_i ha1 ha2
        obtain ⟨w1, w2, w3, w4⟩ := hw.2.2 (by omega)
        simp only [pm_cp] at h
        split at h
        · rename_i n dp q sp q0 r
          simp only [pm_arr] at h
          split at h
          · rename_i t0 n0 f hM0
            split at h
            · rename_i t1 n1 g hM1
              split at h
              · rename_i hc9
                obtain ⟨rfl, rfl, g3, g4, g5, g6, g7, g8, g9⟩ := hc9
                cases h
                have hcs' : pm_cs r ≤ 12 := by
                  have : pm_cs (.int n :: .int dp :: .ref q :: .int sp :: .ref q0 :: r) = 1 + (1 + (1 + (1 + (1 + pm_cs r)))) := rfl
                  omega
                exact pw_copy hx hb hmls hW0 hB hown (pw_wd hW0 rfl w1) (pw_wd hW0 rfl w2) (pw_wd hW0 rfl w3) (pw_wd hW0 rfl w4) hW hM0 hM1 g3 g4 g5 g6 g7 g8 g9 hlc (by omega) (by rw [pw_cs]; have : nativeFrameWords "java/lang/System" "arraycopy" 5 ≤ 60 := (by decide +kernel); omega) hd (fun H1 locs1 e1 e2 => kk ls H1 locs1 hL hLn e1 e2)
              · cases h
            · cases h
          · cases h
        · cases h
  | _ => simp [pm_nx] at h
end PWN
