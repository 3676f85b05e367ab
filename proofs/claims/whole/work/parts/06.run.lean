/-! Calls, ends, throws; and all together: what the pure machine does, the machine does. -/
theorem pw_mono {p : Program} {l : Launch} {e : Env} {R : Room} {s : State} {m : MethodId} {args : Array Value} {below : List Frame} {meth : Method} {c : Code} {H : Heap} {locs : List Loc} {cells slots : Nat} {Q Q' : State → Prop} {g : JFrame} (h : ∀ t, Q t → Q' t) (w : W p l e R s m args below meth c H locs cells slots Q g) : W p l e R s m args below meth c H locs cells slots Q' g := by
  intro T hT X
  obtain ⟨t, a, b⟩ := w T hT X
  exact ⟨t, a, h t b⟩
/-- how a method ended -/
def pw_O (s0 : State) (ad : Nat → Nat) (M : pm_M) (o : Outcome) (t : State) : pm_R → Prop
  | .inl v => o = .returned (v.map (pw_tr ad))
  | .inr x => o = .threw (ad (7 + M.1)) ∧ ∃ cell : Cell, t.heap[ad (7 + M.1)]? = some cell ∧ cell.vm.isStatics = false ∧ s0.vm.findClass (tb_xn x) = some cell.cls
def pw_Q (s0 : State) (D : va_G) (ad : Nat → Nat) (below : List Frame) (s : State) (m0 k0 : Nat) (r : pm_R) (M : pm_M) (t : State) : Prop := ∃ (o : Outcome) (Lc : List Loc), t.status = .running ∧ Ended t below o ∧ s.WarmedH t.vm ∧ s.sameButNew ({ t with vm := s.vm } : State) Lc (M.1 - m0) (M.2.1 - k0) ∧ (∀ y ∈ Lc, s0.heap.size ≤ y.base) ∧ pw_W s0 D ad t.heap M ∧ pw_O s0 ad M o t r
section PWE
variable {p : Program} {l : Launch} {e : Env} {R : Room} {s : State} {m : MethodId} {args : Array Value} {below : List Frame} {meth : Method} {c : Code} {H : Heap} {locs : List Loc} {pc : Nat} {ls : Array Slot} {s0 : State} {D : va_G} {B : Nat → Nat} {M : pm_M} {i : Nat} {m0 k0 : Nat}
theorem pw_end {v : Option Value} {Qc : Array Value → State → Outcome → State → Prop} {g : JFrame} (hW : pw_W s0 D (pw_ad s0 B) H M)
    (w : W p l e R s m args below meth c H locs (M.1 - m0) (M.2.1 - k0) (MQ below (fun _ _ o t => o = .returned (v.map (pw_tr (pw_ad s0 B))) ∧ t.heap = H) args s (M.1 - m0) (M.2.1 - k0) (fun q => s0.heap.size ≤ q)) g) : W p l e R s m args below meth c H locs (M.1 - m0) (M.2.1 - k0) (pw_Q s0 D (pw_ad s0 B) below s m0 k0 (.inl v) M) g := by
  refine pw_mono (fun t ht => ?_) w
  obtain ⟨o, h1, h2, ⟨h3, h4⟩, Lc, ⟨-, h5, h6⟩, h7⟩ := ht
  exact ⟨o, Lc, h1, h2, h5, h6, h7, by rw [h4]; exact hW, h3⟩
theorem pw_reti (hC : pw_C s0 i p s m meth c) (hW : pw_W s0 D (pw_ad s0 B) H M) (hlc : ∀ y ∈ locs, s0.heap.size ≤ y.base) {x : Int32} (hr : tb_rI i x = true) (hd : decode (tb_by i) pc = .ok (.ireturn, 1)) : W p l e R s m args below meth c H locs (M.1 - m0) (M.2.1 - k0) (pw_Q s0 D (pw_ad s0 B) below s m0 k0 (.inl (some (.int x))) M) (F0 m pc ls [.int x]) := by
  obtain ⟨hx, hb, hml, hown, hret, hlk, hname, htab, hW0⟩ := hC
  unfold tb_rI at hr
  split at hr
  · rename_i ty hty
    exact pw_end (Qc := fun _ _ _ _ => True) hW (W.zret hx hb (hret.trans hty) (of_decide_eq_true hr) (fun t ht _ => ⟨rfl, ht⟩) hlc hd hlk)
  · cases hr
theorem pw_retv (hC : pw_C s0 i p s m meth c) (hW : pw_W s0 D (pw_ad s0 B) H M) (hlc : ∀ y ∈ locs, s0.heap.size ≤ y.base) (hr : tb_rV i = true) (hd : decode (tb_by i) pc = .ok (.return_, 1)) : W p l e R s m args below meth c H locs (M.1 - m0) (M.2.1 - k0) (pw_Q s0 D (pw_ad s0 B) below s m0 k0 (.inl none) M) (F0 m pc ls []) := by
  obtain ⟨hx, hb, hml, hown, hret, hlk, hname, htab, hW0⟩ := hC
  unfold tb_rV at hr
  exact pw_end (Qc := fun _ _ _ _ => True) hW (W.vret hx hb (hret.trans (Option.isNone_iff_eq_none.mp hr)) (fun t ht _ => ⟨rfl, ht⟩) hlc hd hlk)
theorem pw_reta (hC : pw_C s0 i p s m meth c) (hW : pw_W s0 D (pw_ad s0 B) H M) (hlc : ∀ y ∈ locs, s0.heap.size ≤ y.base) {x : Nat} (hr : tb_rA i = true) (hd : decode (tb_by i) pc = .ok (.areturn, 1)) : W p l e R s m args below meth c H locs (M.1 - m0) (M.2.1 - k0) (pw_Q s0 D (pw_ad s0 B) below s m0 k0 (.inl (some (.ref x))) M) (F0 m pc ls [.ref (pw_ad s0 B x)]) := by
  obtain ⟨hx, hb, hml, hown, hret, hlk, hname, htab, hW0⟩ := hC
  unfold tb_rA at hr
  split at hr
  · rename_i n hty
    exact pw_end (Qc := fun _ _ _ _ => True) hW (W.aret hx hb (hret.trans hty) (Or.inl ⟨_, rfl⟩) (Or.inr ⟨_, rfl⟩) (fun t ht _ => ⟨rfl, ht⟩) hlc hd hlk)
  · cases hr
end PWE
/-! ## a catch in the method's own table, its classes linked or not yet -/
def pw_ft (e : Env) (s : State) (f : JFrame) (a : Addr) (h : Handler) (vm' : Vm) : Prop := ∀ (Q : Handler → Pre) (E : CtlPost) (d : Bool) (acts : List Action), wp (findHandler f a) Q E e d acts s ↔ Q h d acts (s.setVm vm')
theorem pw_fh1 {Q : Handler → Pre} {E : CtlPost} {e : Env} {d : Bool} {acts : List Action} {s : State} {f : JFrame} {a : Addr} {x : ExceptionTableEntry} {t : List ExceptionTableEntry} {c : ClassId} {cell : Cell} (hx : covers x f.pc = true) (h0 : x.catchType ≠ 0)
    (hl : s.vm.ClassLinks e.platform f.method.cls x.catchType c) (hcell : s.heap[a]? = some cell) (hobj : ∀ k, cell.vm ≠ .statics k) (hk : ∃ k, s.vm.classes[cell.cls]? = some k) (hc : ∃ k, s.vm.classes[c]? = some k) :
    (s.vm.assignable cell.cls c = true → (wp (findHandler.go f a (x :: t)) Q E e d acts s ↔ Q (.found x.handlerPc) d acts (s.setVm (s.vm.noted f.method.cls x.catchType (.cls c))))) ∧
    (s.vm.assignable cell.cls c = false → (wp (findHandler.go f a (x :: t)) Q E e d acts s ↔ wp (findHandler.go f a t) Q E e d acts (s.setVm (s.vm.noted f.method.cls x.catchType (.cls c))))) := by
  simp only [covers] at hx
  obtain ⟨ha, ht⟩ := (resolveClass_links e.toSetting hl).op (op := VmOp.resolveClass f.method.cls x.catchType) rfl
  have hal : s.vm.Alike (s.vm.noted f.method.cls x.catchType (.cls c)) := (Vm.Alike.refl s.vm).noted _ _ _
  obtain ⟨k1, hk1⟩ := hk
  obtain ⟨k2, hk2⟩ := hc
  obtain ⟨k1', hk1', -⟩ := hal.2.2 _ _ hk1
  obtain ⟨k2', hk2', -⟩ := hal.2.2 _ _ hk2
  refine ⟨fun hfit => ?_, fun hfit => ?_⟩
  · have hfit' : (s.vm.noted f.method.cls x.catchType (.cls c)).assignable cell.cls c = true := by rw [hal.assignable]; exact hfit
    simp [findHandler.go, hx, h0, ha, ht, hcell, hobj, hk1', hk2', hfit', VmOp.dirties, VmOp.acts]
  · have hfit' : (s.vm.noted f.method.cls x.catchType (.cls c)).assignable cell.cls c = false := by rw [hal.assignable]; exact hfit
    simp [findHandler.go, hx, h0, ha, ht, hcell, hobj, hk1', hk2', hfit', VmOp.dirties, VmOp.acts]
/-- what the search through a table's rows comes to: the classes that the rows name can be linked; a row that covers the place takes the object, or doesn't -/
def pw_hs (s0 : State) (own xn : String) (pc : Nat) : List ExceptionTableEntry → Nat → Prop
  | [], _ => False
  | y :: t, r => (covers y pc = false ∧ pw_hs s0 own xn pc t r) ∨ (covers y pc = true ∧ y.catchType ≠ 0 ∧ ∃ name, (Cond.classLink own y.catchType name).before #[] s0 = true ∧ (((Cond.castable xn name).before #[] s0 = true ∧ r = y.handlerPc) ∨ ((Cond.not (.castable xn name)).before #[] s0 = true ∧ pw_hs s0 own xn pc t r)))
theorem pw_find {e : Env} {s0 s : State} {f : JFrame} {a : Addr} {cell : Cell} {own xn : String} (hpl : e.platform.magicAccessors = ({} : Platform).magicAccessors) (hW0 : s0.WarmedH s.vm) (hown : s.vm.findClass own = some f.method.cls) (hobj : ∀ k, cell.vm ≠ .statics k) (hcx : s0.vm.findClass xn = some cell.cls) :
    ∀ (tl : List ExceptionTableEntry) (r : Nat), pw_hs s0 own xn f.pc tl r → ∀ S : State, s.WarmedH S.vm → S.heap[a]? = some cell → ∃ vm', s.WarmedH vm' ∧ ∀ (Q : Handler → Pre) (E : CtlPost) (d : Bool) (acts : List Action), wp (findHandler.go f a tl) Q E e d acts S ↔ Q (.found r) d acts (S.setVm vm') := by
  intro tl
  induction tl with
  | nil => intro r h; exact h.elim
  | cons y t ih =>
    intro r h S hW hcell
    obtain ⟨k0, hk0, -⟩ := Vm.findClass_spec hcx
    obtain ⟨k1, hk1, -⟩ := hW0.alike.2.2 _ _ hk0
    obtain ⟨k2, hk2, -⟩ := hW.alike.2.2 _ _ hk1
    rcases h with ⟨h1, h2⟩ | ⟨h1, h2, name, h3, h4⟩
    · obtain ⟨vm', hW', hq⟩ := ih r h2 S hW hcell
      exact ⟨vm', hW', fun Q E d acts => by rw [W.findHandler_go_skip h1]; exact hq Q E d acts⟩
    · have h3' : (Cond.classLink own y.catchType name).before #[] s = true := pw_wd hW0 rfl h3
      obtain ⟨cT, hcT, hcl⟩ := Cond.classLink_spec hown h3' e.platform hpl
      obtain ⟨dk, _, _, kt, hd, _, _, _, _, hkt, _, hopen⟩ := hcl.here
      obtain ⟨kt', hkt', -⟩ := hW.alike.2.2 _ _ hkt
      have hcl' := hW.classLinks hcl
      have hWn : s.WarmedH (S.vm.noted f.method.cls y.catchType (.cls cT)) := hW.noted hd hopen (State.rightAt_cls hcl)
      have hcT0 : s0.vm.findClass name = some cT := by rw [← hW0.alike.findClass]; exact hcT
      rcases h4 with ⟨h5, rfl⟩ | ⟨h5, h6⟩
      · obtain ⟨c3, t3, w1, w2, w3⟩ := Cond.castable_spec h5
        cases hcx.symm.trans w1
        cases hcT0.symm.trans w2
        exact ⟨_, hWn, fun Q E d acts => (pw_fh1 h1 h2 hcl' hcell hobj ⟨k2, hk2⟩ ⟨kt', hkt'⟩).1 (by rw [hW.alike.assignable, hW0.alike.assignable]; exact w3)⟩
      · have hv := Cond.holds_not_iff.mp h5
        simp only [Cond.value, hcx, hcT0] at hv
        have w3 : s0.vm.assignable cell.cls cT = false := Option.some.inj hv
        obtain ⟨vm', hW', hq⟩ := ih r h6 (S.setVm (S.vm.noted f.method.cls y.catchType (.cls cT))) hWn hcell
        exact ⟨vm', hW', fun Q E d acts => by
          rw [(pw_fh1 h1 h2 hcl' hcell hobj ⟨k2, hk2⟩ ⟨kt', hkt'⟩).2 (by rw [hW.alike.assignable, hW0.alike.assignable]; exact w3)]
          exact hq Q E d acts⟩
theorem pw_caught {tb : Tables} {e : Env} {s target : State} {g : JFrame} {c : Code} {below : List Frame} {a : Addr} (h : At s g.method c below) {pc : Nat} {vm' : Vm}
    (hfind : pw_ft e ((s.setTop g).pushFrame (.throwing a)) g a (.found pc) vm') (hrest : Steps tb e below ((s.setVm vm').setTop { g with pc := pc, stack := [.ref a] }) target) :
    Steps tb e below ((s.setTop g).pushFrame (.throwing a)) target := by
  obtain ⟨hgo, hw⟩ := h.throwing a
  have hst : ∀ r : List Frame, (stepThrowing e ((s.setTop g).pushFrame (.throwing a)) a (.java g :: r)).Is ((((s.setTop g).pushFrame (.throwing a)).setVm vm').setFrames (.java { g with pc := pc, stack := [.ref a] } :: r)) [] := by
    intro r
    simp only [stepThrowing, searchFrame, vmDo]
    generalize hr : Sem.go _ e false [] ((s.setTop g).pushFrame (.throwing a)) = res
    obtain ⟨as, rfl, ha⟩ := Sem.eq_ok_of hr (a := Handler.found pc) (s' := ((s.setTop g).pushFrame (.throwing a)).setVm vm') (acts' := []) (by simp [hfind _ _ _ _])
    exact ⟨rfl, ha⟩
  have hsv : ∀ (u : State) (F G : List Frame), ((u.setFrames F).setVm vm').setFrames G = (u.setVm vm').setFrames G := by
    intro u F G
    have h1 : (u.setFrames F).setVm vm' = (u.setVm vm').setFrames F := rfl
    rw [h1, State.setFrames_setFrames]
  refine Steps.head hgo hw ?_
  rw [stepThread_throwing (frames_entered h.top _), (hst _).1]
  obtain ⟨g₀, hg⟩ := Option.isSome_iff_exists.mp h.top
  obtain ⟨r, hr⟩ := State.topJava?_eq_some.mp hg
  have hr' : (s.setVm vm').frames = .java g₀ :: r := hr
  rw [State.setTop_of_frames _ hr'] at hrest
  rw [hr, List.tail_cons, State.pushFrame, hsv, State.setTop_of_frames _ hr, hsv]
  exact hrest
/-! ## calls -/
/-- a method of ours: its code, and what a call of it needs -/
def pw_md (s0 : State) (j : Nat) : Prop := (Cond.codeWith (tb_nm j) (tb_by j) (tb_mL j) (tb_re j) (tb_hh j)).before #[] s0 = true ∧ (Cond.initialized (tb_nm j).cls).before #[] s0 = true ∧ plainName (tb_nm j).cls = true ∧ ((tb_nm j).cls ≠ "java/lang/invoke/MethodHandle" ∧ (tb_nm j).cls ≠ "java/lang/invoke/VarHandle") ∧ tb_mL j ≤ 40
/-- an invocation has been made: the method's own state at its call -/
def pw_iv (p : Program) (l : Launch) (e : Env) (R : Room) (s : State) (m : MethodId) (args : Array Value) (below : List Frame) (meth : Method) (c : Code) (T : State) (locs : List Loc) (cells slots : Nat) (g : JFrame) (rest as : List Value) (j : Nat) : Prop :=
  ∃ (vm₁ : Vm) (mk : MethodId), Stand p l e R s m args below meth c (T.setVm vm₁) locs cells slots ∧ s.methodNamed? (tb_nm j) = some mk ∧ ∀ target, (∀ acts, Steps p.tables e below (doInvoke e ((T.setVm vm₁).setTop { g with stack := rest }) acts mk as.toArray).1 target) → Steps p.tables e below (T.setTop g) target
section PWI
variable {p : Program} {l : Launch} {e : Env} {R : Room} {s : State} {m : MethodId} {args : Array Value} {below : List Frame} {meth : Method} {c : Code} {T : State} {locs : List Loc} {cells slots : Nat} {s0 : State} {own : String} {idx j : Nat} {g : JFrame} {argsL rest : List Value}
theorem pw_ivS (X : Stand p l e R s m args below meth c T locs cells slots) (hx : p.tables.exec = Jvm.exec) (hW0 : s0.WarmedH s.vm) (hown : s.vm.findClass own = some m.cls) (hm : pw_md s0 j) (hst : (Cond.static (tb_nm j)).before #[] s0 = true) (hlk : (Cond.methodLink own idx (tb_nm j)).before #[] s0 = true ∨ ∃ host, (Cond.methodLinkNest own idx (tb_nm j) host).before #[] s0 = true) (hlen : (parseMethodDescriptor (tb_nm j).desc).map (fun d => d.parameters.length) = some argsL.length)
    (hg : g.method = m) (hstack : g.stack = argsL.reverse ++ rest) (hdg : decode c.code g.pc = .ok (.invokestatic idx, 3)) : pw_iv p l e R s m args below meth c T locs cells slots g rest argsL j := by
  obtain ⟨w1, w2, -, w4, -⟩ := hm
  have w1' : (Cond.codeWith (tb_nm j) (tb_by j) (tb_mL j) (tb_re j) (tb_hh j)).before args s = true := pw_wd hW0 rfl w1
  obtain ⟨mk, methM, cM, hnamed, hmethM, -, -, -, -, -, -, hsigM⟩ := Cond.codeWith_spec w1'
  have hstatic : methM.isStatic = true := Cond.static_spec hnamed hmethM (args := args) (pw_wd hW0 rfl hst)
  obtain ⟨kP, hkP, -⟩ := className_of_methodNamed hnamed
  have hinitP : kP.init = .initialized := Cond.initialized_spec (args := args) (findClass_of_methodNamed hnamed) hkP (pw_wd hW0 rfl w2)
  have hl9 : argsL.length = methM.sig.parameters.length := by
    rw [hsigM] at hlen
    exact (Option.some.inj hlen).symm
  rcases hlk with hl | ⟨host, hl⟩
  · obtain ⟨vm₁, X₁, hstep₁⟩ := X.invokestatic hx hown (pw_wd hW0 rfl hl) hnamed hmethM hstatic hkP hinitP w4 (g := g) hg (argsL := argsL) (rest := rest) hl9 hstack hdg
    exact ⟨vm₁, mk, X₁, hnamed, hstep₁⟩
  · obtain ⟨vm₁, X₁, hstep₁⟩ := X.invokestaticNest hx hown (pw_wdM hW0 hl) hnamed hmethM hstatic hkP hinitP w4 (g := g) hg (argsL := argsL) (rest := rest) hl9 hstack hdg
    exact ⟨vm₁, mk, X₁, hnamed, hstep₁⟩
theorem pw_ivV (X : Stand p l e R s m args below meth c T locs cells slots) (hx : p.tables.exec = Jvm.exec) (hW0 : s0.WarmedH s.vm) (hown : s.vm.findClass own = some m.cls) (hm : pw_md s0 j) (hin : (Cond.instanceMethod (tb_nm j)).before #[] s0 = true) (hse : (Cond.selects (tb_nm j).cls (tb_nm j) (tb_nm j)).before #[] s0 = true) (hlk : (Cond.methodLink own idx (tb_nm j)).before #[] s0 = true ∨ ∃ host, (Cond.methodLinkNest own idx (tb_nm j) host).before #[] s0 = true) (hlen : (parseMethodDescriptor (tb_nm j).desc).map (fun d => d.parameters.length) = some argsL.length)
    {b : Addr} {cellB : Cell} (hcell : T.heap[b]? = some cellB) (hobj : cellB.vm = .none) (hcls : s0.vm.findClass (tb_nm j).cls = some cellB.cls)
    (hg : g.method = m) (hstack : g.stack = argsL.reverse ++ .ref b :: rest) (hdg : decode c.code g.pc = .ok (.invokevirtual idx, 3)) : pw_iv p l e R s m args below meth c T locs cells slots g rest (.ref b :: argsL) j := by
  obtain ⟨w1, w2, -, w4, -⟩ := hm
  have w1' : (Cond.codeWith (tb_nm j) (tb_by j) (tb_mL j) (tb_re j) (tb_hh j)).before args s = true := pw_wd hW0 rfl w1
  obtain ⟨mk, methM, cM, hnamed, hmethM, -, -, -, -, -, -, hsigM⟩ := Cond.codeWith_spec w1'
  obtain ⟨mk', methM', hnamed', hmethM', hstM, habM⟩ := Cond.instanceMethod_spec (args := args) (s := s) (pw_wd hW0 rfl hin)
  cases hnamed.symm.trans hnamed'
  cases hmethM.symm.trans hmethM'
  have hcls' : s.vm.findClass (tb_nm j).cls = some cellB.cls := by rw [hW0.alike.findClass]; exact hcls
  obtain ⟨c2, r2, m2, q1, q2, q3, q4, kP, hkP, hkPi⟩ := Cond.selects_spec (args := args) (s := s) (pw_wd hW0 rfl hse)
  cases hcls'.symm.trans q1
  cases (State.methodFound?_of_named hnamed w4).symm.trans q2
  cases hnamed.symm.trans q3
  have hselP : selectMethod e.platform s.vm cellB.cls mk = .method mk := by rw [Launch.admits_selectMethod X.admits]; exact q4
  have hl9 : argsL.length = methM.sig.parameters.length := by
    rw [hsigM] at hlen
    exact (Option.some.inj hlen).symm
  rcases hlk with hl | ⟨host, hl⟩
  · obtain ⟨vm₁, X₁, hstep₁⟩ := X.invokevirtual hx hown (pw_wd hW0 rfl hl) hnamed hmethM hstM hkP hkPi w4 (a := b) (cell := cellB) hcell (fun z h => by rw [hobj] at h; cases h) hselP hmethM habM hkP hkPi (g := g) hg (argsL := argsL) (rest := rest) hl9 hstack hdg
    exact ⟨vm₁, mk, X₁, hnamed, hstep₁⟩
  · obtain ⟨vm₁, X₁, hstep₁⟩ := X.invokevirtualNest hx hown (pw_wdM hW0 hl) hnamed hmethM hstM hkP hkPi w4 (a := b) (cell := cellB) hcell (fun z h => by rw [hobj] at h; cases h) hselP hmethM habM hkP hkPi (g := g) hg (argsL := argsL) (rest := rest) hl9 hstack hdg
    exact ⟨vm₁, mk, X₁, hnamed, hstep₁⟩
theorem pw_ivI (X : Stand p l e R s m args below meth c T locs cells slots) (hx : p.tables.exec = Jvm.exec) (hW0 : s0.WarmedH s.vm) (hown : s.vm.findClass own = some m.cls) (hm : pw_md s0 j) (hh : tb_hh j = []) (hre : tb_re j = none) (hnm : (tb_nm j).name = "<init>") (hin : (Cond.instanceMethod (tb_nm j)).before #[] s0 = true) (hlk : (Cond.methodLink own idx (tb_nm j)).before #[] s0 = true ∨ ∃ host, (Cond.methodLinkNest own idx (tb_nm j) host).before #[] s0 = true) (hlen : (parseMethodDescriptor (tb_nm j).desc).map (fun d => d.parameters.length) = some argsL.length)
    {b : Addr} (hg : g.method = m) (hstack : g.stack = argsL.reverse ++ .ref b :: rest) (hdg : decode c.code g.pc = .ok (.invokespecial idx, 3)) : pw_iv p l e R s m args below meth c T locs cells slots g rest (.ref b :: argsL) j := by
  obtain ⟨w1, w2, -, w4, -⟩ := hm
  rw [hh, hre] at w1
  have w1' : (Cond.code (tb_nm j) (tb_by j) (tb_mL j) none).before args s = true := by
    have h := pw_wd (args := args) hW0 rfl w1
    simp only [Cond.before, Cond.holds] at h ⊢
    rw [Cond.code_iff_codeWith_nil]
    exact h
  have hpl : e.platform.magicAccessors = ({} : Platform).magicAccessors := by rw [X.admits.platform]
  have hl9 : ∀ sig, parseMethodDescriptor (tb_nm j).desc = some sig → argsL.length = sig.parameters.length := by
    intro sig hs
    rw [hs] at hlen
    exact (Option.some.inj hlen).symm
  subst hg
  rcases hlk with hl | ⟨host, hl⟩
  · obtain ⟨mk, methM, cM, kP, vm₁, hnamed, -, -, -, -, -, -, -, hW₁, hstep₁⟩ := Steps.initColdArgs (e := e) X.here hx X.warmed hpl hown hnm w4 (args := args) (pw_wd hW0 rfl hl) (pw_wd hW0 rfl hin) w1' (f := g) rfl hl9 hstack hdg
    exact ⟨vm₁, mk, X.noted hW₁, hnamed, hstep₁⟩
  · obtain ⟨mk, methM, cM, kP, vm₁, hnamed, -, -, -, -, -, -, -, hW₁, hstep₁⟩ := Steps.initColdArgsNest (e := e) X.here hx X.warmed hpl hown hnm w4 (args := args) (pw_wdM hW0 hl) (pw_wd hW0 rfl hin) w1' (f := g) rfl hl9 hstack hdg
    exact ⟨vm₁, mk, X.noted hW₁, hnamed, hstep₁⟩
end PWI
