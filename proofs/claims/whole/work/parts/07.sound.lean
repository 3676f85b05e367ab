theorem pw_weak {tb : Tables} {e : Env} {f : Frame} {below : List Frame} {a b : State} (h : Steps tb e (f :: below) a b) : Steps tb e below a b := by
  obtain ⟨n, hn, w⟩ := h
  exact ⟨n, hn, fun k hk => Within.weaken (mid := [f]) (w k hk)⟩
/-! ## the locals at a method's entry -/
theorem pm_la_len (ad : Nat → Nat) : ∀ as : List Value, (pm_la as).length = (lg_sl (as.map (pw_tr ad))).length
  | [] => rfl
  | v :: t => by
    have ih := pm_la_len ad t
    have h : lg_sl ((v :: t).map (pw_tr ad)) = (if v.category = 2 then [.val (pw_tr ad v), .second] else [.val (pw_tr ad v)]) ++ lg_sl (t.map (pw_tr ad)) := by
      rw [List.map_cons]
      unfold lg_sl
      rw [List.flatMap_cons, pw_tr_cat]
    rw [h]
    cases v <;> simp [pm_la, Value.category, ih]
theorem pm_la_get (ad : Nat → Nat) : ∀ (as : List Value) (off q k : Nat) (v : Value), pm_get (pm_la as ++ List.replicate k none) q = some v → (off + q, pw_tr ad v) ∈ lv_args off (as.map (pw_tr ad))
  | [], off, q, k, v, h => by
    exfalso
    unfold pm_get at h
    simp only [pm_la, List.nil_append] at h
    rw [List.getD_eq_getElem?_getD, List.getElem?_replicate] at h
    split at h <;> cases h
  | x :: t, off, q, k, v, h => by
    rw [List.map_cons, lv_args, pw_tr_cat]
    by_cases hc : x.category = 2
    · have hl : pm_la (x :: t) = some x :: none :: pm_la t := by cases x <;> first | rfl | (simp [Value.category] at hc)
      rw [hl] at h
      rcases q with _ | _ | q
      · have h1 : x = v := by simpa [pm_get] using h
        subst h1
        exact List.mem_cons_self
      · simp [pm_get] at h
      · have h' : pm_get (pm_la t ++ List.replicate k none) q = some v := by simpa [pm_get] using h
        have := pm_la_get ad t (off + 2) q k v h'
        rw [if_pos hc]
        refine List.mem_cons_of_mem _ ?_
        rw [show off + (q + 1 + 1) = off + 2 + q by omega]
        exact this
    · have hl : pm_la (x :: t) = some x :: pm_la t := by cases x <;> first | rfl | (simp [Value.category] at hc)
      rw [hl] at h
      rcases q with _ | q
      · have h1 : x = v := by simpa [pm_get] using h
        subst h1
        exact List.mem_cons_self
      · have h' : pm_get (pm_la t ++ List.replicate k none) q = some v := by simpa [pm_get] using h
        have := pm_la_get ad t (off + 1) q k v h'
        rw [if_neg hc]
        refine List.mem_cons_of_mem _ ?_
        rw [show off + (q + 1) = off + 1 + q by omega]
        exact this
/-- what a method's entry lays -/
theorem pw_ent {ad : Nat → Nat} {j : Nat} {as : List Value} {L : pm_L} (h : pm_en j as = some L) : L.length = tb_mL j ∧ pw_L ad ((lg_sl (as.map (pw_tr ad)) ++ List.replicate (tb_mL j - (lg_sl (as.map (pw_tr ad))).length) Slot.unset).toArray) L := by
  unfold pm_en at h
  split at h
  · rename_i hle
    cases h
    have hlen : (pm_la as ++ List.replicate (tb_mL j - (pm_la as).length) (none : Option Value)).length = tb_mL j := by simp; omega
    refine ⟨hlen, ?_⟩
    obtain ⟨h1, h2, h3⟩ := lv_entry (as.map (pw_tr ad)) (n := tb_mL j) (by rw [← pm_la_len]; exact hle)
    refine ⟨h1.trans hlen.symm, h2, fun q v hq => ?_⟩
    have := h3 _ (pm_la_get ad as 0 q _ v hq)
    simpa using this
  · cases h
/-! ## throws -/
/-- the walk stands as if the method had been called just now -/
theorem pw_rebase {p : Program} {l : Launch} {e : Env} {R R' : Room} {s : State} {m : MethodId} {args : Array Value} {below : List Frame} {meth : Method} {c : Code} {T : State} {locs : List Loc} {cells slots : Nat} (X : Stand p l e R s m args below meth c T locs cells slots) (h1 : R'.frames ≤ R.frames) (h2 : R'.locals ≤ R.locals) (h3 : cells + R'.cells ≤ R.cells) (h4 : slots + R'.slots ≤ R.slots) :
    Stand p l e R' (T.setFrames (.invoking m args :: below)) m args below meth c T [] 0 0 ∧ ∀ U : State, (T.setFrames (.invoking m args :: below)).WarmedH U.vm → ∀ (k n : Nat), (T.setFrames (.invoking m args :: below)).sameButNew ({ U with vm := T.vm } : State) [] k n → s.WarmedH U.vm ∧ s.sameButNew ({ U with vm := s.vm } : State) locs (cells + k) (slots + n) := by
  obtain ⟨g₀, hfr⟩ := X.frames_eq
  have hcur : T.cur < T.threads.size := State.cur_lt_of_frames hfr
  have hF : (T.setFrames (.invoking m args :: below)).frames = .invoking m args :: below := State.frames_setFrames _ hcur
  obtain ⟨t1, ht1, -⟩ := State.frames_cons hF
  have hcur1 : (T.setFrames (.invoking m args :: below)).cur < (T.setFrames (.invoking m args :: below)).threads.size := State.cur_lt_of_frames hF
  have hback : (T.setFrames (.invoking m args :: below)).setFrames (.java g₀ :: below) = T := by
    rw [State.setFrames_setFrames, ← hfr]
    obtain ⟨t2, ht2, -⟩ := State.frames_cons hfr
    exact State.setFrames_self ht2
  refine ⟨⟨X.admits, X.cas, X.clock, hF, ?_, ?_, X.method', X.code, X.here, X.tail, State.WarmedH.refl (T.setFrames (.invoking m args :: below)), by rw [State.stackLimits_setFrames], by rw [State.stackBytes_setFrames], ?_⟩, fun U hU k n hs => ⟨State.WarmedH.trans X.warmed hU, ?_⟩⟩
  · obtain ⟨r1, r2, r3, r4⟩ := State.hasRoom_stack X.room
    have r5 := State.hasRoom_real X.room
    have h := X.room
    simp only [State.hasRoom, Bool.and_eq_true, decide_eq_true_eq] at h
    rw [State.localsInUse_invoking X.frames X.method X.code] at r3 r4 r5
    rw [X.frames, List.length_cons] at r1 r2
    have hUse := State.localsInUse_invoking hF X.method' X.code
    simp only [State.hasRoom, Bool.and_eq_true, decide_eq_true_eq, hF, hUse, List.length_cons, State.stackLimits_setFrames, State.stackBytes_setFrames, X.limits, X.bytes]
    refine ⟨⟨⟨⟨by omega, by omega, by omega, by omega, by omega, h.1.1.1.2.2.2.2.2⟩, ?_⟩, ?_⟩, X.book⟩
    · have := h.1.1.2
      have := X.heapSize
      show T.heap.size + R'.cells ≤ _
      omega
    · have := h.1.2
      have := X.used
      show T.slotsUsed + R'.slots ≤ _
      omega
  · have hh := X.hears
    have hal := X.warmed.alike
    cases below with
    | nil =>
      simp only [State.hears] at hh ⊢
      rw [show (T.setFrames (.invoking m args :: [])).vm = T.vm from rfl, hal.method?]
      exact hh
    | cons f r =>
      cases f <;> simp only [State.hears] at hh ⊢ <;> first | rfl | (rw [State.code?_eq] at hh ⊢; rw [show (T.setFrames (.invoking m args :: _ :: r)).vm = T.vm from rfl, hal.method?]; exact hh) | (rw [show (T.setFrames (.invoking m args :: _ :: r)).vm = T.vm from rfl, hal.method?]; exact hh)
  · have h := (State.sameButNew.refl (T.setFrames (.invoking m args :: below)) ht1).setFrames (.java g₀ :: below) hcur1
    rw [hback] at h
    exact h
  · have h' : T.sameButNew ({ U with vm := T.vm } : State) [] k n := ⟨by have h1 := hs.1; rw [State.setFrames_setFrames] at h1; exact h1, hs.2⟩
    have h9 := X.same.trans (h'.setVm s.vm)
    rw [List.append_nil] at h9
    exact h9
/-- what the tables say of a throw -/
def pk_x (s0 : State) (i pc idx x : Nat) : Prop := ∃ (sidx ic i1 : Nat) (b1 : ByteArray) (tx : String) (sa : Nat), decode (tb_by i) (pc + 3) = .ok (.dup, 1) ∧ decode (tb_by i) (pc + 4) = .ok (.ldc sidx, 2) ∧ decode (tb_by i) (pc + 6) = .ok (.invokespecial ic, 3) ∧ decode (tb_by i) (pc + 9) = .ok (.athrow, 1) ∧ (∀ y ∈ tableOf (tb_hh i), covers y (pc + 9) = false) ∧ (Cond.classLink (tb_nm i).cls idx (tb_xn x)).before #[] s0 = true ∧ (Cond.instantiable (tb_xn x) 6).before #[] s0 = true ∧ (Cond.initialized (tb_xn x)).before #[] s0 = true ∧ vk_R (tb_nm i).cls sidx tx sa s0 ∧ Bundle.fit (tb_xn x) = true ∧ (decode b1 0 = .ok (.aload_n 0, 1) ∧ decode b1 1 = .ok (.aload_n 1, 1) ∧ decode b1 2 = .ok (.invokespecial i1, 3) ∧ decode b1 5 = .ok (.return_, 1)) ∧
  ∀ U : State, s0.WarmedH U.vm → (∀ q : Nat, q < s0.heap.size → U.heap[q]? = s0.heap[q]?) → ∀ (args : Array Value), ∀ w ∈ pw_oA (tb_nm i).cls ic (tb_xn x) i1 b1, w.before args U = true
section PWT
variable {p : Program} {l : Launch} {e : Env} {R : Room} {s : State} {m : MethodId} {args : Array Value} {below : List Frame} {meth : Method} {c : Code} {H : Heap} {locs : List Loc} {pc : Nat} {ls : Array Slot} {s0 : State} {D : va_G} {B : Nat → Nat} {M : pm_M} {i : Nat} {m0 k0 : Nat}
theorem pw_throw (hfl : l.flags = pinnedFlags ++ [noTraceFlag]) (hC : pw_C s0 i p s m meth c) (hG : pw_G s0 D B) {idx x : Nat} (hd : decode (tb_by i) pc = .ok (.new idx, 3)) (hx9 : pk_x s0 i pc idx x) (hls : ls.size = tb_mL i) (hW : pw_W s0 D (pw_ad s0 B) H M) (hlc : ∀ y ∈ locs, s0.heap.size ≤ y.base) (hm : m0 ≤ M.1) (hk : k0 ≤ M.2.1) (hR : 8 ≤ R.frames ∧ 200 ≤ R.locals) (hc1 : M.1 + 1 - m0 ≤ R.cells) (hc2 : M.2.1 + 6 - k0 ≤ R.slots) {st : List Value} (hst : pm_cs st ≤ 8) :
    W p l e R s m args below meth c H locs (M.1 - m0) (M.2.1 - k0) (pw_Q s0 D (pw_ad s0 B) below s m0 k0 (.inr x) (pm_mk M 6 (.inr (1000, [])))) (F0 m pc ls (st.map (pw_tr (pw_ad s0 B)))) := by
  obtain ⟨hx, hb, hml, hown, hret, hlk, hname, htab, hW0⟩ := hC
  obtain ⟨sidx, ic, i1, b1, tx, sa, d3, d4, d6, d9, hcov, w1, w2, w3, hZ, hfit, ⟨g0, g1, g2, g5⟩, hat⟩ := hx9
  intro T hT X
  obtain ⟨X0, back⟩ := pw_rebase (R' := { frames := R.frames, locals := R.locals, cells := 1, slots := 6 }) X (Nat.le_refl _) (Nat.le_refl _) (by show _ + 1 ≤ _; omega) (by show _ + 6 ≤ _; omega)
  generalize hs1 : T.setFrames (.invoking m args :: below) = s1 at X0 back
  have hvm1 : s1.vm = T.vm := by rw [← hs1]; rfl
  have hh1 : s1.heap = H := by rw [← hs1]; exact hT
  have hW1 : s0.WarmedH s1.vm := by rw [hvm1]; exact State.WarmedH.trans hW0 X.warmed
  have hown1 : s1.vm.findClass (tb_nm i).cls = some m.cls := by rw [hvm1, X.warmed.alike.findClass]; exact hown
  have htr : e.platform.stackTraces = false := Launch.traces_off hfl X.admits
  have h8 : s1.heap.size = H.size := by rw [hh1]
  have hat1 : ∀ w ∈ pw_oA (tb_nm i).cls ic (tb_xn x) i1 b1, w.before args s1 = true := hat s1 hW1 (fun q hq => by rw [hh1]; exact hW.2.1 q hq) args
  obtain ⟨cX, kX9, hfX, hkX9, -⟩ := Cond.instantiable_spec (args := args) (s := s1) (pw_wd hW1 rfl w2)
  have key : W p l e { frames := R.frames, locals := R.locals, cells := 1, slots := 6 } s1 m args below meth c H [] 0 0 (fun t => t.status = .running ∧ Ended t below (.threw H.size) ∧ s1.WarmedH t.vm ∧ s1.sameButNew ({ t with vm := s1.vm } : State) [] 1 6 ∧ ∃ ce, t.heap[H.size]? = some ce ∧ ce.vm = .none ∧ s1.vm.findClass (tb_xn x) = some ce.cls) (F0 m pc ls (st.map (pw_tr (pw_ad s0 B)))) := by
    refine W.newcK hx hb hown1 (pw_wd hW1 rfl w1) (pw_wd hW1 rfl w2) (pw_wd hW1 rfl w3) rfl hd (Nat.le_refl _) (Nat.le_refl _) hfX rfl fun H1 kC hkC e1 z1 o1 => ?_
    refine lv_dup hx hb d3 rfl ?_
    refine va_ldcS hx hb hown1 (hZ.warm hW1) d4 ?_
    intro T2 hT2 X2
    obtain ⟨U, hsteps, hrun, hend, hWU, hsame, ce, hce, K1, K2⟩ := pw_ctorT X2 hx htr (own := (tb_nm i).cls) (cls := tb_xn x) (ic := ic) hown1 hfit g0 g1 g2 g5 hat1 (fun y hy => by cases hy) hfX hkC (a := H.size) (by rw [hT2]; exact e1) (by rw [h8]; exact Nat.le_refl _) (msg := .ref sa) rfl
      (g := F0 m (pc + 3 + 1 + 2) ls (.ref sa :: .ref H.size :: .ref H.size :: st.map (pw_tr (pw_ad s0 B)))) rfl (by rw [hml]; exact hls) rfl rfl (rest := st.map (pw_tr (pw_ad s0 B))) rfl (by rw [hb]; exact d6) (by rw [hb]; exact d9) (by rw [htab]; exact hcov) (by show 5 < R.frames; omega) (by
        have : ((Value.ref H.size :: st.map (pw_tr (pw_ad s0 B))).map fun v => v.category).sum = 1 + pm_cs st := by rw [List.map_cons, List.sum_cons, pw_cs]; rfl
        rw [this]
        show 2 * 0 + _ + _ ≤ R.locals
        omega) hlk
    exact ⟨U, hsteps, hrun, hend, hWU, hsame, ce, hce, K1, by rw [K2]; exact hfX⟩
  obtain ⟨t, hsteps, h1, h2, h3, h4, ce, h5, h6, h7⟩ := key T hT X0
  have h4' : s1.sameButNew ({ t with vm := T.vm } : State) [] 1 6 := by rw [← hvm1]; exact h4
  obtain ⟨b1, b2⟩ := back t h3 1 6 h4'
  obtain ⟨-, z2, z3, -, -, z6⟩ := h4
  have z3' : t.heap.size ≤ H.size + 1 := by rw [← h8]; exact z3
  have hlt : H.size < t.heap.size := (Array.getElem?_eq_some_iff.mp h5).1
  have hz : t.heap.size = H.size + 1 := by omega
  have hsame : ∀ q : Nat, q < H.size → t.heap[q]? = H[q]? := by
    intro q hq
    have hq1 : s1.heap[q]? = some s1.heap[q] := Array.getElem?_eq_getElem (by rw [h8]; exact hq)
    obtain ⟨c', g1, g2, g3, g4⟩ := z6 q _ hq1
    have e1 : c' = s1.heap[q] := by
      rw [g2]
      have e2 : c'.slots = (s1.heap[q]'(by rw [h8]; exact hq)).slots := Array.ext_getElem? (fun k => g4 k (fun h => by cases h))
      rw [e2]
    have g1' : t.heap[q]? = some c' := g1
    rw [g1', e1, ← hq1, hh1]
  have hWn : pw_W s0 D (pw_ad s0 B) t.heap (pm_mk M 6 (.inr (1000, []))) := hW.mk hz hsame (fun r hr => by
    exfalso
    have : vwCl.length ≤ 1000 := by decide
    have := (List.getElem?_eq_some_iff.mp hr).1
    omega)
  have e9 : pw_ad s0 B (7 + (M.1 + 1)) = H.size := by
    rw [show 7 + (M.1 + 1) = 8 + M.1 by omega]
    exact pw_ad_new hW
  refine ⟨t, hsteps, .threw H.size, locs, h1, h2, b1, ?_, hlc, hWn, ?_⟩
  · have e1 : M.1 - m0 + 1 = (pm_mk M 6 (.inr (1000, []))).1 - m0 := by show _ = M.1 + 1 - m0; omega
    have e2 : M.2.1 - k0 + 6 = (pm_mk M 6 (.inr (1000, []))).2.1 - k0 := by show _ = M.2.1 + 6 - k0; omega
    rw [← e1, ← e2]
    exact b2
  · show Outcome.threw H.size = .threw (pw_ad s0 B (7 + (M.1 + 1))) ∧ ∃ cell : Cell, t.heap[pw_ad s0 B (7 + (M.1 + 1))]? = some cell ∧ cell.vm.isStatics = false ∧ s0.vm.findClass (tb_xn x) = some cell.cls
    rw [e9]
    exact ⟨rfl, ce, h5, by rw [h6]; rfl, by rw [← hW1.alike.findClass]; exact h7⟩
end PWT
/-- what the tables say of a place where a call may throw -/
def pk_h (s0 : State) (i pc : Nat) : Prop := ∀ x : Nat, match tb_hn i pc x with
  | none => True
  | some none => ∀ y ∈ tableOf (tb_hh i), covers y pc = false
  | some (some h) => pw_hs s0 (tb_nm i).cls (tb_xn x) pc (tableOf (tb_hh i)) h
def pk_l (s0 : State) (i idx a : Nat) : Prop := (Cond.methodLink (tb_nm i).cls idx (tb_nm a)).before #[] s0 = true ∨ ∃ host, (Cond.methodLinkNest (tb_nm i).cls idx (tb_nm a) host).before #[] s0 = true
def pk_c (s0 : State) (i pc : Nat) (ins : Instr) (a b : Nat) : Prop := match ins with
  | .new idx => 1000 ≤ a → pk_x s0 i pc idx a
  | .invokevirtual idx => pw_md s0 a ∧ pk_h s0 i pc ∧ pk_l s0 i idx a ∧ (Cond.instanceMethod (tb_nm a)).before #[] s0 = true ∧ (Cond.selects (tb_nm a).cls (tb_nm a) (tb_nm a)).before #[] s0 = true ∧ tb_cn (tb_rc a) = (tb_nm a).cls ∧ (parseMethodDescriptor (tb_nm a).desc).map (fun d => d.parameters.length + 1) = some b
  | .invokestatic idx => a ≤ 1000 → pw_md s0 a ∧ pk_h s0 i pc ∧ pk_l s0 i idx a ∧ (Cond.static (tb_nm a)).before #[] s0 = true ∧ (parseMethodDescriptor (tb_nm a).desc).map (fun d => d.parameters.length) = some b
  | .invokespecial idx => a < 1000 → pw_md s0 a ∧ pk_h s0 i pc ∧ pk_l s0 i idx a ∧ (Cond.instanceMethod (tb_nm a)).before #[] s0 = true ∧ tb_hh a = [] ∧ tb_re a = none ∧ (tb_nm a).name = "<init>" ∧ (parseMethodDescriptor (tb_nm a).desc).map (fun d => d.parameters.length + 1) = some b
  | _ => True
def pk_T (s0 : State) (B : Nat → Nat) : Prop := ∀ (i pc : Nat) (ins : Instr) (a b : Nat) (v : Int32) (ts : List Nat), tb_in i pc = some (ins, a, b, v, ts) → decode (tb_by i) pc = .ok (ins, pk_len b ins) ∧ pk_w s0 B i pc ins a b v ts ∧ pk_c s0 i pc ins a b
/-- memory only grows -/
theorem pm_nx_grow {ins : Instr} {a b : Nat} {v : Int32} {ts : List Nat} {pc : Nat} {L : pm_L} {st : List Value} {M : pm_M} {F : pm_F} (h : pm_nx ins a b v ts pc L st M = some F) : M.1 ≤ F.2.2.2.1 ∧ M.2.1 ≤ F.2.2.2.2.1 := by
  have g0 : ∀ {A : Nat} {L : pm_L} {st : List Value} {F : pm_F}, some (A, L, st, M) = some F → M.1 ≤ F.2.2.2.1 ∧ M.2.1 ≤ F.2.2.2.2.1 := by
    intro A L st F h
    cases h
    exact ⟨Nat.le_refl _, Nat.le_refl _⟩
  have g1 : ∀ {A : Nat} {L : pm_L} {st : List Value} {F : pm_F} {q : Nat} {e : pm_E}, some (A, L, st, pm_up M q e) = some F → M.1 ≤ F.2.2.2.1 ∧ M.2.1 ≤ F.2.2.2.2.1 := by
    intro A L st F q e h
    cases h
    exact ⟨Nat.le_refl _, Nat.le_refl _⟩
  have g2 : ∀ {A : Nat} {L : pm_L} {st : List Value} {F : pm_F} {q : Nat} {e : pm_E}, some (A, L, st, pm_mk M q e) = some F → M.1 ≤ F.2.2.2.1 ∧ M.2.1 ≤ F.2.2.2.2.1 := by
    intro A L st F q e h
    cases h
    exact ⟨Nat.le_succ _, Nat.le_add_right _ _⟩
  cases ins <;> simp only [pm_nx, pm_i1, pm_i2, pm_l1, pm_l2, pm_li, pm_r1, pm_r2, pm_vr, pm_vir, pm_v1, pm_cp, pm_arr, pm_obj, pm_ld, pm_al, pm_as, pm_ir] at h <;> first | (cases h; done) | exact g0 h | exact g1 h | exact g2 h | skip
  all_goals (repeat' (first | exact g0 h | exact g1 h | exact g2 h | (cases h; done) | split at h))
theorem pm_ex_grow : ∀ (n d i pc : Nat) (L : pm_L) (st : List Value) (M : pm_M) (r : pm_R) (M' : pm_M), pm_ex n d i pc L st M = some (r, M') → M.1 ≤ M'.1 ∧ M.2.1 ≤ M'.2.1 := by
  intro n
  induction n with
  | zero => intro d i pc L st M r M' h; cases h
  | succ n ih =>
    intro d i pc L st M r M' h
    cases hs : pm_st i pc L st M with
    | none => rw [pm_ex, hs] at h; cases h
    | some S =>
      rw [pm_ex, hs] at h
      rcases S with F | ⟨j, as, rest⟩ | ⟨r1, M1⟩
      · have h2 := ih _ _ _ _ _ _ _ _ h
        have h1 : M.1 ≤ F.2.2.2.1 ∧ M.2.1 ≤ F.2.2.2.2.1 := by
          unfold pm_st at hs
          repeat' (first | (cases hs; done) | (obtain ⟨F', hF, hF2⟩ := Option.map_eq_some_iff.mp hs; cases hF2; exact pm_nx_grow hF) | (unfold pm_cl at hs) | split at hs)
        exact ⟨Nat.le_trans h1.1 h2.1, Nat.le_trans h1.2 h2.2⟩
      · simp only at h
        split at h
        · cases h
        · split at h
          · cases h
          · rename_i v M2 he
            have h1 := ih _ _ _ _ _ _ _ _ he
            have h2 := ih _ _ _ _ _ _ _ _ h
            exact ⟨Nat.le_trans h1.1 h2.1, Nat.le_trans h1.2 h2.2⟩
          · rename_i x M2 he
            have h1 := ih _ _ _ _ _ _ _ _ he
            split at h
            · cases h
            · cases h; exact h1
            · have h2 := ih _ _ _ _ _ _ _ _ h
              exact ⟨Nat.le_trans h1.1 h2.1, Nat.le_trans h1.2 h2.2⟩
      · cases h
        unfold pm_st at hs
        repeat' (first | (cases hs; exact ⟨Nat.le_refl _, Nat.le_refl _⟩) | (cases hs; exact ⟨Nat.le_succ _, Nat.le_add_right _ _⟩) | (cases hs; done) | (obtain ⟨F', hF, hF2⟩ := Option.map_eq_some_iff.mp hs; cases hF2; done) | (unfold pm_cl at hs) | split at hs)
