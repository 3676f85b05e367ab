/-! A pure machine: the instructions that the law, the class and the reference use, over values whose references are the numbers of what was made (from 8 on; 0 is the script, 1 .. 4 the constants of the enum). What it says, the machine does (part 05). -/
/-- a row of an array: its type, its length, its values -/
abbrev pm_A : Type := FieldType × Nat × (Nat → Value)
abbrev pm_E : Type := pm_A ⊕ (Nat × List Value)
/-- cells made, slots made, contents -/
abbrev pm_M : Type := Nat × Nat × (Nat → pm_E)
abbrev pm_L : Type := List (Option Value)
abbrev pm_F : Type := Nat × pm_L × List Value × pm_M
abbrev pm_R : Type := Option Value ⊕ Nat
def pm_get (L : pm_L) (i : Nat) : Option Value := L.getD i none
def pm_set : pm_L → Nat → Value → pm_L
  | [], _, _ => []
  | _ :: t, 0, v => some v :: t
  | x :: t, 1, v => (match x with | some (.long _) => none | some (.double _) => none | y => y) :: pm_set t 0 v
  | x :: t, i + 2, v => x :: pm_set t (i + 1) v
def pm_up (M : pm_M) (p : Nat) (e : pm_E) : pm_M := (M.1, M.2.1, fun q => if q = p then e else M.2.2 q)
def pm_mk (M : pm_M) (n : Nat) (e : pm_E) : pm_M := (M.1 + 1, M.2.1 + n, fun q => if q = 8 + M.1 then e else M.2.2 q)
def pm_uv (f : Nat → Value) (k : Nat) (v : Value) : Nat → Value := fun j => if j = k then v else f j
def pm_i1 (st : List Value) (k : Int32 → List Value → Option pm_F) : Option pm_F := match st with
  | .int x :: r => k x r
  | _ => none
def pm_i2 (st : List Value) (k : Int32 → Int32 → List Value → Option pm_F) : Option pm_F := match st with
  | .int y :: .int x :: r => k x y r
  | _ => none
def pm_l1 (st : List Value) (k : Int64 → List Value → Option pm_F) : Option pm_F := match st with
  | .long x :: r => k x r
  | _ => none
def pm_l2 (st : List Value) (k : Int64 → Int64 → List Value → Option pm_F) : Option pm_F := match st with
  | .long y :: .long x :: r => k x y r
  | _ => none
def pm_li (st : List Value) (k : Int64 → Int32 → List Value → Option pm_F) : Option pm_F := match st with
  | .int y :: .long x :: r => k x y r
  | _ => none
def pm_r1 (st : List Value) (k : Nat → List Value → Option pm_F) : Option pm_F := match st with
  | .ref p :: r => k p r
  | _ => none
def pm_r2 (st : List Value) (k : Nat → Nat → List Value → Option pm_F) : Option pm_F := match st with
  | .ref q :: .ref p :: r => k p q r
  | _ => none
def pm_ir (st : List Value) (k : Nat → Int32 → List Value → Option pm_F) : Option pm_F := match st with
  | .int j :: .ref p :: r => k p j r
  | _ => none
def pm_vr (st : List Value) (k : Nat → Value → List Value → Option pm_F) : Option pm_F := match st with
  | v :: .ref p :: r => k p v r
  | _ => none
def pm_vir (st : List Value) (k : Nat → Int32 → Value → List Value → Option pm_F) : Option pm_F := match st with
  | v :: .int j :: .ref p :: r => k p j v r
  | _ => none
def pm_v1 (st : List Value) (k : Value → List Value → Option pm_F) : Option pm_F := match st with
  | v :: r => k v r
  | _ => none
def pm_cp (st : List Value) (k : Nat → Int32 → Nat → Int32 → Int32 → List Value → Option pm_F) : Option pm_F := match st with
  | .int n :: .int dp :: .ref q :: .int sp :: .ref p :: r => k p sp q dp n r
  | _ => none
def pm_arr (M : pm_M) (p : Nat) (k : FieldType → Nat → (Nat → Value) → Option pm_F) : Option pm_F := match M.2.2 p with
  | .inl (ty, n, f) => k ty n f
  | .inr _ => none
def pm_obj (M : pm_M) (p : Nat) (k : Nat → List Value → Option pm_F) : Option pm_F := match M.2.2 p with
  | .inl _ => none
  | .inr (c, fs) => k c fs
def pm_ld (L : pm_L) (i : Nat) (k : Value → Option pm_F) : Option pm_F := match pm_get L i with
  | some v => k v
  | none => none
/-- an element is read -/
def pm_al (M : pm_M) (L : pm_L) (st : List Value) (pc : Nat) (ok : FieldType → Bool) : Option pm_F :=
  pm_ir st fun p j r => pm_arr M p fun ty n f => if ok ty = true ∧ ¬ (j < 0 ∨ n ≤ j.toNatClampNeg) then some (pc + 1, L, f j.toNatClampNeg :: r, M) else none
/-- an element is written -/
def pm_as (M : pm_M) (L : pm_L) (st : List Value) (pc : Nat) (t : FieldType) (ok : Value → Bool) : Option pm_F :=
  pm_vir st fun p j v r => pm_arr M p fun ty n f => if ok v = true ∧ ty = t ∧ 8 ≤ p ∧ ¬ (j < 0 ∨ n ≤ j.toNatClampNeg) then some (pc + 1, L, r, pm_up M p (.inl (ty, n, pm_uv f j.toNatClampNeg (narrow t v)))) else none
def pm_isI : Value → Bool
  | .int _ => true
  | _ => false
def pm_isJ : Value → Bool
  | .long _ => true
  | _ => false
def pm_isA : Value → Bool
  | .ref _ => true
  | _ => false
def pm_isO : FieldType → Bool
  | .object _ => true
  | _ => false
/-- the instructions that go on in their own frame: a, b, v, ts is what the tables know of the instruction (targets, field, class, constant) -/
def pm_nx (ins : Instr) (a b : Nat) (v : Int32) (ts : List Nat) (pc : Nat) (L : pm_L) (st : List Value) (M : pm_M) : Option pm_F :=
  match ins with
  | .iconst _ => some (pc + 1, L, .int v :: st, M)
  | .bipush _ => some (pc + 2, L, .int v :: st, M)
  | .sipush _ => some (pc + 3, L, .int v :: st, M)
  | .lconst k => some (pc + 1, L, .long (Int64.ofNat (k : Nat)) :: st, M)
  | .ldc2_w _ => some (pc + 3, L, .long (Int64.ofNat a) :: st, M)
  | .iload_n k => pm_ld L k fun x => if pm_isI x = true then some (pc + 1, L, x :: st, M) else none
  | .iload i => pm_ld L i fun x => if pm_isI x = true then some (pc + 2, L, x :: st, M) else none
  | .lload_n k => pm_ld L k fun x => if pm_isJ x = true then some (pc + 1, L, x :: st, M) else none
  | .aload_n k => pm_ld L k fun x => if pm_isA x = true then some (pc + 1, L, x :: st, M) else none
  | .aload i => pm_ld L i fun x => if pm_isA x = true then some (pc + 2, L, x :: st, M) else none
  | .istore_n k => pm_v1 st fun x r => if pm_isI x = true ∧ (k : Nat) < L.length then some (pc + 1, pm_set L k x, r, M) else none
  | .istore i => pm_v1 st fun x r => if pm_isI x = true ∧ i < L.length then some (pc + 2, pm_set L i x, r, M) else none
  | .astore_n k => pm_v1 st fun x r => if pm_isA x = true ∧ (k : Nat) < L.length then some (pc + 1, pm_set L k x, r, M) else none
  | .astore i => pm_v1 st fun x r => if pm_isA x = true ∧ i < L.length then some (pc + 2, pm_set L i x, r, M) else none
  | .iinc i _ => pm_ld L i fun x => match x with
    | .int x => if i < L.length then some (pc + 3, pm_set L i (.int (x + v)), st, M) else none
    | _ => none
  | .iadd => pm_i2 st fun x y r => some (pc + 1, L, .int (x + y) :: r, M)
  | .isub => pm_i2 st fun x y r => some (pc + 1, L, .int (x - y) :: r, M)
  | .imul => pm_i2 st fun x y r => some (pc + 1, L, .int (x * y) :: r, M)
  | .iand => pm_i2 st fun x y r => some (pc + 1, L, .int (x &&& y) :: r, M)
  | .idiv => pm_i2 st fun x y r => if y = 0 then none else some (pc + 1, L, .int (x / y) :: r, M)
  | .irem => pm_i2 st fun x y r => if y = 0 then none else some (pc + 1, L, .int (x - x / y * y) :: r, M)
  | .i2l => pm_i1 st fun x r => some (pc + 1, L, .long x.toInt64 :: r, M)
  | .i2c => pm_i1 st fun x r => some (pc + 1, L, .int (x.toUInt32 % 65536).toInt32 :: r, M)
  | .l2i => pm_l1 st fun x r => some (pc + 1, L, .int x.toInt32 :: r, M)
  | .lcmp => pm_l2 st fun x y r => some (pc + 1, L, .int (lg_cmp x y) :: r, M)
  | .land => pm_l2 st fun x y r => some (pc + 1, L, .long (x &&& y) :: r, M)
  | .lor => pm_l2 st fun x y r => some (pc + 1, L, .long (x ||| y) :: r, M)
  | .lshl => pm_li st fun x y r => some (pc + 1, L, .long (x <<< (y.toInt64 &&& 63)) :: r, M)
  | .lshr => pm_li st fun x y r => some (pc + 1, L, .long (x >>> (y.toInt64 &&& 63)) :: r, M)
  | .lushr => pm_li st fun x y r => some (pc + 1, L, .long (x.toUInt64 >>> (y.toInt64.toUInt64 &&& Int64.toUInt64 63)).toInt64 :: r, M)
  | .dup => pm_v1 st fun x r => if x.category = 1 then some (pc + 1, L, x :: x :: r, M) else none
  | .pop => pm_v1 st fun x r => if x.category = 1 then some (pc + 1, L, r, M) else none
  | .goto _ => some (a, L, st, M)
  | .ifCond .eq _ => pm_i1 st fun x r => some (if x = 0 then a else pc + 3, L, r, M)
  | .ifCond .ne _ => pm_i1 st fun x r => some (if x = 0 then pc + 3 else a, L, r, M)
  | .ifCond .lt _ => pm_i1 st fun x r => some (if x < 0 then a else pc + 3, L, r, M)
  | .ifCond .ge _ => pm_i1 st fun x r => some (if 0 ≤ x then a else pc + 3, L, r, M)
  | .ifCond .gt _ => pm_i1 st fun x r => some (if 0 < x then a else pc + 3, L, r, M)
  | .ifCond .le _ => pm_i1 st fun x r => some (if x ≤ 0 then a else pc + 3, L, r, M)
  | .if_icmp .eq _ => pm_i2 st fun x y r => some (if x = y then a else pc + 3, L, r, M)
  | .if_icmp .ne _ => pm_i2 st fun x y r => some (if x = y then pc + 3 else a, L, r, M)
  | .if_icmp .lt _ => pm_i2 st fun x y r => some (if x < y then a else pc + 3, L, r, M)
  | .if_icmp .ge _ => pm_i2 st fun x y r => some (if y ≤ x then a else pc + 3, L, r, M)
  | .if_icmp .gt _ => pm_i2 st fun x y r => some (if y < x then a else pc + 3, L, r, M)
  | .if_icmp .le _ => pm_i2 st fun x y r => some (if x ≤ y then a else pc + 3, L, r, M)
  | .if_acmp .eq _ => pm_r2 st fun x y r => if (1 ≤ x ∧ x ≤ 4) ∧ 1 ≤ y ∧ y ≤ 4 then some (if x = y then a else pc + 3, L, r, M) else none
  | .if_acmp .ne _ => pm_r2 st fun x y r => if (1 ≤ x ∧ x ≤ 4) ∧ 1 ≤ y ∧ y ≤ 4 then some (if x = y then pc + 3 else a, L, r, M) else none
  | .tableswitch _ _ _ _ => pm_i1 st fun x r => some (if x < 0 ∨ ts.length ≤ x.toNatClampNeg then a else ts.getD x.toNatClampNeg 0, L, r, M)
  | .iaload => pm_al M L st pc (fun ty => ty == .int)
  | .baload => pm_al M L st pc (fun ty => ty == .boolean)
  | .caload => pm_al M L st pc (fun ty => ty == .char)
  | .laload => pm_al M L st pc (fun ty => ty == .long)
  | .aaload => pm_al M L st pc pm_isO
  | .iastore => pm_as M L st pc .int pm_isI
  | .bastore => pm_as M L st pc .boolean pm_isI
  | .castore => pm_as M L st pc .char pm_isI
  | .lastore => pm_as M L st pc .long pm_isJ
  | .aastore => pm_vir st fun p j v r => match v with
    | .ref w => pm_arr M p fun ty n f => pm_obj M w fun c _ => if (c < vwCl.length ∧ ty = .object (tb_cn c)) ∧ 8 ≤ p ∧ ¬ (j < 0 ∨ n ≤ j.toNatClampNeg) then some (pc + 1, L, r, pm_up M p (.inl (ty, n, pm_uv f j.toNatClampNeg (.ref w)))) else none
    | _ => none
  | .arraylength => pm_r1 st fun p r => pm_arr M p fun _ n _ => some (pc + 1, L, .int (Int32.ofNat n) :: r, M)
  | .getfield _ => pm_r1 st fun p r => pm_obj M p fun c fs => match fs[b]? with
    | some x => if c = a then some (pc + 3, L, x :: r, M) else none
    | none => none
  | .putfield _ => pm_vr st fun p x r => pm_obj M p fun c fs => if c = a ∧ 8 ≤ p ∧ b < fs.length ∧ narrow (tb_ft a b) x = x ∧ fits (tb_ft a b) x = true then some (pc + 3, L, r, pm_up M p (.inr (c, fs.set b x))) else none
  | .getstatic _ => some (pc + 3, L, .ref a :: st, M)
  | .new _ => some (pc + 3, L, .ref (8 + M.1) :: st, pm_mk M (tb_df a).length (.inr (a, tb_df a)))
  | .newarray t => pm_i1 st fun x r => if x < 0 ∨ 5000 < x.toNatClampNeg then none else some (pc + 2, L, .ref (8 + M.1) :: r, pm_mk M x.toNatClampNeg (.inl (newarray.typeOf t, x.toNatClampNeg, fun _ => defaultValue (newarray.typeOf t))))
  | .anewarray _ => pm_i1 st fun x r => if x < 0 ∨ 5000 < x.toNatClampNeg then none else some (pc + 3, L, .ref (8 + M.1) :: r, pm_mk M x.toNatClampNeg (.inl (.object (tb_cn a), x.toNatClampNeg, fun _ => .null)))
  | .invokespecial _ => pm_r1 st fun _ r => some (pc + 3, L, r, M)
  | .invokestatic _ =>
    if a = 1001 then pm_i2 st fun x y r => some (pc + 3, L, .int (if x < y then y else x) :: r, M)
    else if a = 1002 then pm_i2 st fun x y r => some (pc + 3, L, .int (if y < x then y else x) :: r, M)
    else pm_cp st fun p sp q dp n r => pm_arr M p fun t0 n0 f => pm_arr M q fun t1 n1 g =>
      if t0 = .int ∧ t1 = .int ∧ 8 ≤ q ∧ ¬ sp < 0 ∧ ¬ dp < 0 ∧ ¬ n < 0 ∧ sp.toNatClampNeg + n.toNatClampNeg ≤ n0 ∧ dp.toNatClampNeg + n.toNatClampNeg ≤ n1 ∧ (∀ k, k < n.toNatClampNeg → fits .int (f (sp.toNatClampNeg + k)) = true) then some (pc + 3, L, r, pm_up M q (.inl (t1, n1, va_cpy f g sp.toNatClampNeg dp.toNatClampNeg n.toNatClampNeg))) else none
  | _ => none
/-- the locals that a method begins with -/
def pm_la : List Value → pm_L
  | [] => []
  | .long x :: t => some (.long x) :: none :: pm_la t
  | .double x :: t => some (.double x) :: none :: pm_la t
  | v :: t => some v :: pm_la t
def pm_en (j : Nat) (as : List Value) : Option pm_L := if (pm_la as).length ≤ tb_mL j then some (pm_la as ++ List.replicate (tb_mL j - (pm_la as).length) none) else none
/-- the receiver's class is the method's own -/
def pm_rc (M : pm_M) (j : Nat) (as : List Value) : Bool := match as with
  | .ref p :: _ => (match M.2.2 p with
    | .inr (c, _) => decide (c < vwCl.length ∧ c = tb_rc j)
    | .inl _ => false)
  | _ => false
/-- a step: it goes on in the frame, or calls (method, arguments, the stack below), or the method is at its end -/
abbrev pm_S : Type := pm_F ⊕ ((Nat × List Value × List Value) ⊕ (pm_R × pm_M))
def pm_cs (st : List Value) : Nat := (st.map fun v => v.category).sum
def pm_cl (M : pm_M) (j b : Nat) (vt : Bool) (st : List Value) : Option pm_S :=
  if b ≤ st.length ∧ pm_cs (st.drop b) ≤ 8 ∧ (pm_en j (st.take b).reverse).isSome = true ∧ (vt = true → pm_rc M j (st.take b).reverse = true) then some (.inr (.inl (j, (st.take b).reverse, st.drop b))) else none
def pm_st (i pc : Nat) (L : pm_L) (st : List Value) (M : pm_M) : Option pm_S :=
  match tb_in i pc with
  | none => none
  | some (ins, a, b, v, ts) => match ins with
    | .ireturn => match st with
      | [.int x] => if tb_rI i x = true then some (.inr (.inr (.inl (some (.int x)), M))) else none
      | _ => none
    | .areturn => match st with
      | [.ref x] => if tb_rA i = true then some (.inr (.inr (.inl (some (.ref x)), M))) else none
      | _ => none
    | .return_ => match st with
      | [] => if tb_rV i = true then some (.inr (.inr (.inl none, M))) else none
      | _ => none
    | .new _ => if 1000 ≤ a then (if pm_cs st ≤ 8 then some (.inr (.inr (.inr a, pm_mk M 6 (.inr (1000, []))))) else none) else (pm_nx ins a b v ts pc L st M).map .inl
    | .invokevirtual _ => pm_cl M a b true st
    | .invokestatic _ => if 1001 ≤ a then (if pm_cs st ≤ 12 then (pm_nx ins a b v ts pc L st M).map .inl else none) else pm_cl M a b false st
    | .invokespecial _ => if 1000 ≤ a then (if pm_cs st ≤ 12 then (pm_nx ins a b v ts pc L st M).map .inl else none) else pm_cl M a b true st
    | _ => (pm_nx ins a b v ts pc L st M).map .inl
def pm_ex : Nat → Nat → Nat → Nat → pm_L → List Value → pm_M → Option (pm_R × pm_M)
  | 0, _, _, _, _, _, _ => none
  | n + 1, d, i, pc, L, st, M => match pm_st i pc L st M with
    | none => none
    | some (.inl F) => pm_ex n d i F.1 F.2.1 F.2.2.1 F.2.2.2
    | some (.inr (.inl (j, as, rest))) => match d with
      | 0 => none
      | d + 1 => match pm_ex n d j 0 ((pm_en j as).getD []) [] M with
        | none => none
        | some (.inl v, M') => pm_ex n (d + 1) i (pc + 3) L (v.toList ++ rest) M'
        | some (.inr x, M') => match tb_hn i pc x with
          | none => none
          | some none => some (.inr x, M')
          | some (some h) => pm_ex n (d + 1) i h L [.ref (7 + M'.1)] M'
    | some (.inr (.inr r)) => some r
