def pm_ca (n d i pc j : Nat) (L L0 : pm_L) (rest : List Value) (M : pm_M) : Option (pm_R × pm_M) := match d with
  | 0 => none
  | d + 1 => match pm_ex n d j 0 L0 [] M with
    | none => none
    | some (.inl v, M') => pm_ex n (d + 1) i (pc + 3) L (v.toList ++ rest) M'
    | some (.inr x, M') => match tb_hn i pc x with
      | none => none
      | some none => some (.inr x, M')
      | some (some h) => pm_ex n (d + 1) i h L [.ref (7 + M'.1)] M'
section PW9
variable {p : Program} {l : Launch} {e : Env} {R : Room} {s : State} {m : MethodId} {args : Array Value} {below : List Frame} {meth : Method} {c : Code} {H : Heap} {T : State} {locs : List Loc} {cells slots : Nat} {pc : Nat} {ls : Array Slot} {s0 : State} {D : va_G} {B : Nat → Nat} {M : pm_M} {i a b idx : Nat} {st : List Value}
theorem pw_split {st : List Value} {b : Nat} (ad : Nat → Nat) : (st.map (pw_tr ad)) = (((st.take b).reverse).map (pw_tr ad)).reverse ++ (st.drop b).map (pw_tr ad) := by
  rw [← List.map_reverse, List.reverse_reverse, ← List.map_append, List.take_append_drop]
theorem pw_head {M : pm_M} {a b : Nat} {st : List Value} (h91 : b ≤ st.length) (h : pm_rc M a (st.take b).reverse = true) : ∃ (q : Nat) (al : List Value) (fs : List Value), (st.take b).reverse = .ref q :: al ∧ al.length + 1 = b ∧ M.2.2 q = .inr (tb_rc a, fs) ∧ tb_rc a < vwCl.length := by
  unfold pm_rc at h
  split at h
  · rename_i q al hq
    split at h
    · rename_i c9 fs hM
      have h9 := of_decide_eq_true h
      refine ⟨q, al, fs, hq, ?_, by rw [← h9.2]; exact hM, by rw [← h9.2]; exact h9.1⟩
      have := congrArg List.length hq
      simp at this
      omega
    · cases h
  · cases h
theorem pw_ivS9 (hC : pw_C s0 i p s m meth c) (X : Stand p l e R s m args below meth c T locs cells slots) (y1 : pw_md s0 a) (y3 : pk_l s0 i idx a) (y4 : (Cond.static (tb_nm a)).before #[] s0 = true) (y5 : (parseMethodDescriptor (tb_nm a).desc).map (fun d => d.parameters.length) = some b) (h91 : b ≤ st.length) (hdg : decode (tb_by i) pc = .ok (.invokestatic idx, 3)) : pw_iv p l e R s m args below meth c T locs cells slots (F0 m pc ls (st.map (pw_tr (pw_ad s0 B)))) ((st.drop b).map (pw_tr (pw_ad s0 B))) (((st.take b).reverse).map (pw_tr (pw_ad s0 B))) a := by
  obtain ⟨hx, hb, hml, hown, hret, hlk, hname, htab, hW0⟩ := hC
  refine pw_ivS X hx hW0 hown y1 y4 y3 ?_ rfl (pw_split _) (by rw [hb]; exact hdg)
  rw [y5]
  simp
  omega
theorem pw_ivV9 (hC : pw_C s0 i p s m meth c) (hG : pw_G s0 D B) (hW : pw_W s0 D (pw_ad s0 B) H M) (hTh : T.heap = H) (X : Stand p l e R s m args below meth c T locs cells slots) (y1 : pw_md s0 a) (y3 : pk_l s0 i idx a) (y4 : (Cond.instanceMethod (tb_nm a)).before #[] s0 = true) (y5 : (Cond.selects (tb_nm a).cls (tb_nm a) (tb_nm a)).before #[] s0 = true) (y6 : tb_cn (tb_rc a) = (tb_nm a).cls) (y7 : (parseMethodDescriptor (tb_nm a).desc).map (fun d => d.parameters.length + 1) = some b) (h91 : b ≤ st.length) (h94 : pm_rc M a (st.take b).reverse = true) (hdg : decode (tb_by i) pc = .ok (.invokevirtual idx, 3)) : pw_iv p l e R s m args below meth c T locs cells slots (F0 m pc ls (st.map (pw_tr (pw_ad s0 B)))) ((st.drop b).map (pw_tr (pw_ad s0 B))) (((st.take b).reverse).map (pw_tr (pw_ad s0 B))) a := by
  obtain ⟨hx, hb, hml, hown, hret, hlk, hname, htab, hW0⟩ := hC
  obtain ⟨hB, hK, hU, hN, hcn⟩ := hG
  obtain ⟨q, al, fs, e1, e2, e3, e4⟩ := pw_head h91 h94
  obtain ⟨r9, hr9⟩ : ∃ r9, vwCl[tb_rc a]? = some r9 := ⟨_, List.getElem?_eq_getElem e4⟩
  have g0 := hW.2.2 q
  rw [e3] at g0
  obtain ⟨cellV, g1, g2, g3, -⟩ := g0 r9 hr9
  have hcls0 := (hK.1 _ r9 hr9).2
  have hsp := pw_split (st := st) (b := b) (pw_ad s0 B)
  rw [e1] at hsp ⊢
  refine pw_ivV (argsL := al.map (pw_tr (pw_ad s0 B))) (b := pw_ad s0 B q) X hx hW0 hown y1 y4 y5 y3 ?_ (by rw [hTh]; exact g1) g3 (by rw [← y6, ← hcn _ r9 hr9, g2]; exact hcls0.1) rfl ?_ (by rw [hb]; exact hdg)
  · cases hp : parseMethodDescriptor (tb_nm a).desc with
    | none => rw [hp] at y7; cases y7
    | some d =>
      rw [hp] at y7
      have h9 : d.parameters.length + 1 = b := Option.some.inj y7
      simp
      omega
  · show st.map (pw_tr (pw_ad s0 B)) = _
    rw [hsp]
    simp [pw_tr]
theorem pw_ivI9 (hC : pw_C s0 i p s m meth c) (X : Stand p l e R s m args below meth c T locs cells slots) (y1 : pw_md s0 a) (y3 : pk_l s0 i idx a) (y4 : (Cond.instanceMethod (tb_nm a)).before #[] s0 = true) (y5 : tb_hh a = []) (y6 : tb_re a = none) (y6' : (tb_nm a).name = "<init>") (y7 : (parseMethodDescriptor (tb_nm a).desc).map (fun d => d.parameters.length + 1) = some b) (h91 : b ≤ st.length) (h94 : pm_rc M a (st.take b).reverse = true) (hdg : decode (tb_by i) pc = .ok (.invokespecial idx, 3)) : pw_iv p l e R s m args below meth c T locs cells slots (F0 m pc ls (st.map (pw_tr (pw_ad s0 B)))) ((st.drop b).map (pw_tr (pw_ad s0 B))) (((st.take b).reverse).map (pw_tr (pw_ad s0 B))) a := by
  obtain ⟨hx, hb, hml, hown, hret, hlk, hname, htab, hW0⟩ := hC
  obtain ⟨q, al, fs, e1, e2, e3, e4⟩ := pw_head h91 h94
  have hsp := pw_split (st := st) (b := b) (pw_ad s0 B)
  rw [e1] at hsp ⊢
  refine pw_ivI (argsL := al.map (pw_tr (pw_ad s0 B))) (b := pw_ad s0 B q) X hx hW0 hown y1 y5 y6 y6' y4 y3 ?_ rfl ?_ (by rw [hb]; exact hdg)
  · cases hp : parseMethodDescriptor (tb_nm a).desc with
    | none => rw [hp] at y7; cases y7
    | some d =>
      rw [hp] at y7
      have h9 : d.parameters.length + 1 = b := Option.some.inj y7
      simp
      omega
  · show st.map (pw_tr (pw_ad s0 B)) = _
    rw [hsp]
    simp [pw_tr]
end PW9
set_option maxHeartbeats 4000000 in
/-- WHAT THE PURE MACHINE DOES, THE MACHINE DOES. -/
theorem pw_sound {s0 : State} {D : va_G} {B : Nat → Nat} {l : Launch} (hfl : l.flags = pinnedFlags ++ [noTraceFlag]) (hG : pw_G s0 D B) (hT : pk_T s0 B) : ∀ (n d i pc : Nat) (L : pm_L) (st : List Value) (M : pm_M) (r : pm_R) (M' : pm_M), pm_ex n d i pc L st M = some (r, M') →
    ∀ {p : Program} {e : Env} {R : Room} {s : State} {m : MethodId} {args : Array Value} {below : List Frame} {meth : Method} {c : Code} {H : Heap} {locs : List Loc} {ls : Array Slot} {m0 k0 : Nat}, pw_C s0 i p s m meth c → L.length = tb_mL i → pw_L (pw_ad s0 B) ls L → pw_W s0 D (pw_ad s0 B) H M → (∀ y ∈ locs, s0.heap.size ≤ y.base) → m0 ≤ M.1 → k0 ≤ M.2.1 → M'.1 - m0 ≤ R.cells → M'.2.1 - k0 ≤ R.slots → d + 8 ≤ R.frames → 100 * d + 200 ≤ R.locals →
    W p l e R s m args below meth c H locs (M.1 - m0) (M.2.1 - k0) (pw_Q s0 D (pw_ad s0 B) below s m0 k0 r M') (F0 m pc ls (st.map (pw_tr (pw_ad s0 B)))) := by
  intro n
  induction n with
  | zero => intro d i pc L st M r M' h; cases h
  | succ n ih =>
    intro d i pc L st M r M' h p e R s m args below meth c H locs ls m0 k0 hC hLn hL hW hlc hm hk hr1 hr2 hr3 hr4
    have hgrow := pm_ex_grow _ _ _ _ _ _ _ _ _ h
    -- the steps that go on in the frame
    have step : ∀ (ins : Instr) (a b : Nat) (v : Int32) (ts : List Nat) (F : pm_F), tb_in i pc = some (ins, a, b, v, ts) → pm_nx ins a b v ts pc L st M = some F → ((∃ k, ins = .new k) → a < 1000) → ((∃ k, ins = .invokespecial k) → 1000 ≤ a) → ((∃ k, ins = .invokestatic k) → 1001 ≤ a) → (((∃ k, ins = .invokespecial k) ∨ ∃ k, ins = .invokestatic k) → pm_cs st ≤ 12) → pm_ex n d i F.1 F.2.1 F.2.2.1 F.2.2.2 = some (r, M') →
        W p l e R s m args below meth c H locs (M.1 - m0) (M.2.1 - k0) (pw_Q s0 D (pw_ad s0 B) below s m0 k0 r M') (F0 m pc ls (st.map (pw_tr (pw_ad s0 B)))) := by
      intro ins a b v ts F ht hF q1 q2 q3 q4 hex
      obtain ⟨t1, t2, -⟩ := hT i pc ins a b v ts ht
      have g1 := pm_nx_grow hF
      have g2 := pm_ex_grow _ _ _ _ _ _ _ _ _ hex
      exact pw_nx hC hG t1 t2 hF q1 q2 q3 q4 hLn hL hW hlc hm hk ⟨by omega, by omega⟩ (by omega) (by omega) (fun ls' H' locs' k1 k2 k3 k4 => ih d i _ _ _ _ r M' hex hC k2 k1 k3 k4 (by omega) (by omega) hr1 hr2 hr3 hr4)
    -- the calls
    have call : ∀ (j : Nat) (as rest : List Value) (L0 : pm_L) (idx : Nat) (ins : Instr), pw_md s0 j → pk_h s0 i pc → pm_en j as = some L0 → pm_cs rest ≤ 8 → decode (tb_by i) pc = .ok (ins, 3) → (∀ T : State, T.heap = H → Stand p l e R s m args below meth c T locs (M.1 - m0) (M.2.1 - k0) → pw_iv p l e R s m args below meth c T locs (M.1 - m0) (M.2.1 - k0) (F0 m pc ls (st.map (pw_tr (pw_ad s0 B)))) (rest.map (pw_tr (pw_ad s0 B))) (as.map (pw_tr (pw_ad s0 B))) j) →
        pm_ca n d i pc j L L0 rest M = some (r, M') →
        W p l e R s m args below meth c H locs (M.1 - m0) (M.2.1 - k0) (pw_Q s0 D (pw_ad s0 B) below s m0 k0 r M') (F0 m pc ls (st.map (pw_tr (pw_ad s0 B)))) := by
      intro j as rest L0 idx ins hmd hph hen hcs hdg hiv hex
      cases d with
      | zero => cases hex
      | succ d =>
        simp only [pm_ca] at hex
        cases hce : pm_ex n d j 0 L0 [] M with
        | none => rw [hce] at hex; cases hex
        | some rm =>
          obtain ⟨rc, M1⟩ := rm
          rw [hce] at hex
          have gc := pm_ex_grow _ _ _ _ _ _ _ _ _ hce
          obtain ⟨hx, hb, hml, hown, hret, hlk, hname, htab, hW0⟩ := id hC
          obtain ⟨w1, w2, w3, w4, w5⟩ := id hmd
          have hM1 : M1.1 ≤ M'.1 ∧ M1.2.1 ≤ M'.2.1 := by
            cases rc with
            | inl v => exact pm_ex_grow _ _ _ _ _ _ _ _ _ hex
            | inr x =>
              simp only at hex
              split at hex
              · cases hex
              · cases hex; exact ⟨Nat.le_refl _, Nat.le_refl _⟩
              · exact pm_ex_grow _ _ _ _ _ _ _ _ _ hex
          intro T hTh X
          obtain ⟨vm₁, mk, X₁, hnamed, hstep⟩ := hiv T hTh X
          have hWU : s0.WarmedH (T.setVm vm₁).vm := State.WarmedH.trans hW0 X₁.warmed
          obtain ⟨mk', methk, ck, hn', hmk, hck, hby, hlo, htb, hre, hlk', hsig⟩ := Cond.codeWith_spec (args := #[]) (pw_wd (s := T.setVm vm₁) hWU rfl w1)
          have hn1 := X₁.named hnamed
          cases hn1.symm.trans hn'
          have hpk : (T.setVm vm₁).plainMethod mk := State.plainMethod.of_name (fun k hk9 => by
            obtain ⟨k', hk', hn9⟩ := className_of_methodNamed hn1
            cases hk9.symm.trans hk'
            rw [hn9]; exact w3)
          have hsz : (F0 m pc ls (rest.map (pw_tr (pw_ad s0 B)))).locals.size = c.maxLocals := by rw [hml, ← hLn]; exact hL.1
          obtain ⟨Y, hin⟩ := X₁.into (g := F0 m pc ls (rest.map (pw_tr (pw_ad s0 B)))) rfl hsz (by rw [hb]; exact hdg) (as.map (pw_tr (pw_ad s0 B))).toArray (R' := { frames := d + 8, locals := 100 * d + 200, cells := M1.1 - M.1, slots := M1.2.1 - M.2.1 }) hmk hck hlk' hpk (by show d + 8 + 1 ≤ _; omega) (by show 2 * 0 + _ + _ + (100 * d + 200) ≤ _; rw [pw_cs, hlo]; omega) (by show _ + (M1.1 - M.1) ≤ _; omega) (by show _ + (M1.2.1 - M.2.1) ≤ _; omega)
          obtain ⟨e1, e2⟩ := pw_ent (ad := pw_ad s0 B) hen
          have hCk : pw_C s0 j p ((T.setVm vm₁).calling (F0 m pc ls (rest.map (pw_tr (pw_ad s0 B)))) mk (as.map (pw_tr (pw_ad s0 B))).toArray) mk methk ck := by
            refine ⟨hx, hby, hlo, findClass_of_methodNamed hn1, hre, hlk', (name_of_methodNamed hn1 hmk).1, ?_, hWU⟩
            rw [← htb, table_eq]
          have wk := ih d j 0 L0 [] M rc M1 hce (p := p) (e := e) (R := { frames := d + 8, locals := 100 * d + 200, cells := M1.1 - M.1, slots := M1.2.1 - M.2.1 }) (args := (as.map (pw_tr (pw_ad s0 B))).toArray) (below := .java (F0 m pc ls (rest.map (pw_tr (pw_ad s0 B)))) :: below) (H := H) (locs := []) (m0 := M.1) (k0 := M.2.1) hCk e1 e2 hW (fun y hy => by cases hy) (Nat.le_refl _) (Nat.le_refl _) (Nat.le_refl _) (Nat.le_refl _) (Nat.le_refl _) (Nat.le_refl _)
          rw [Nat.sub_self, Nat.sub_self] at wk
          obtain ⟨t, hst, o, Lc, h1, h2, h3, h4, h5, h6, h7⟩ := wk (((T.setVm vm₁).setTop (F0 m pc ls (rest.map (pw_tr (pw_ad s0 B))))).pushFrame (.java (entryFrame mk (as.map (pw_tr (pw_ad s0 B))).toArray ck.maxLocals))) (by first | exact hTh | (simp [State.pushFrame, State.setFrames, State.setTop, State.modifyTopJava]; exact hTh)) Y
          rw [hlo] at hin
          have hdo : ∀ acts, Steps p.tables e below (doInvoke e ((T.setVm vm₁).setTop (F0 m pc ls (rest.map (pw_tr (pw_ad s0 B))))) acts mk (as.map (pw_tr (pw_ad s0 B))).toArray).1 t := by
            intro acts
            rw [hin acts]
            refine pw_weak (f := .java (F0 m pc ls (rest.map (pw_tr (pw_ad s0 B))))) ?_
            rw [lg_entry_eq]
            rw [hlo, lg_entry_eq] at hst
            exact hst
          have c1 : M.1 - m0 + (M1.1 - M.1) = M1.1 - m0 := by omega
          have c2 : M.2.1 - k0 + (M1.2.1 - M.2.1) = M1.2.1 - k0 := by omega
          have hlc' : ∀ y ∈ locs ++ Lc, s0.heap.size ≤ y.base := fun y hy => by
            rcases List.mem_append.mp hy with h9 | h9
            · exact hlc y h9
            · exact h5 y h9
          cases rc with
          | inl v =>
            have ho : o = .returned (v.map (pw_tr (pw_ad s0 B))) := h7
            subst ho
            obtain ⟨T', X', -, -, ht⟩ := X₁.outOf (g := F0 m pc ls (rest.map (pw_tr (pw_ad s0 B)))) rfl (by rw [hb]; exact hdg) h2 h3 h4
            rw [c1, c2] at X'
            have hheap : T'.heap = t.heap := by rw [ht]; rfl
            have hstk : (v.map (pw_tr (pw_ad s0 B))).toList ++ rest.map (pw_tr (pw_ad s0 B)) = (v.toList ++ rest).map (pw_tr (pw_ad s0 B)) := by cases v <;> rfl
            have wn := ih (d + 1) i (pc + 3) L (v.toList ++ rest) M1 r M' hex (p := p) (e := e) (R := R) (args := args) (below := below) hC hLn hL h6 hlc' (by omega) (by omega) hr1 hr2 hr3 hr4
            obtain ⟨t2, a1, b1⟩ := wn T' hheap X'
            refine ⟨t2, hstep t2 (fun acts => (hdo acts).trans ?_), b1⟩
            rw [ht]
            show Steps p.tables e below (T'.setTop (F0 m (pc + 3) ls ((v.map (pw_tr (pw_ad s0 B))).toList ++ rest.map (pw_tr (pw_ad s0 B))))) t2
            rw [hstk]
            exact a1
          | inr x =>
            obtain ⟨ho, cell, hc9, hv9, hf9⟩ := h7
            subst ho
            obtain ⟨T', X', -, -, ht⟩ := X₁.outOfThrown (g := F0 m pc ls (rest.map (pw_tr (pw_ad s0 B)))) rfl h2 h3 h4
            rw [c1, c2] at X'
            have hheap : T'.heap = t.heap := by rw [ht, Stand.throwing_heap]
            have hph9 := hph x
            simp only at hex
            split at hex
            · cases hex
            · rename_i htb9
              rw [htb9] at hph9
              cases hex
              obtain ⟨l1, l2, l3, l4, l5⟩ := X'.leaveThrown (pw_ad s0 B (7 + M'.1)) (g := F0 m pc ls (rest.map (pw_tr (pw_ad s0 B)))) rfl rfl rfl (by rw [htab]; exact hph9) hlk
              refine ⟨T'.setFrames (.throwing (pw_ad s0 B (7 + M'.1)) :: below), hstep _ (fun acts => (hdo acts).trans (by rw [ht]; exact l1)), .threw (pw_ad s0 B (7 + M'.1)), locs ++ Lc, l2, l3, l4, l5, hlc', ?_, rfl, cell, ?_, hv9, hf9⟩
              · show pw_W s0 D (pw_ad s0 B) T'.heap M'
                rw [hheap]; exact h6
              · show T'.heap[_]? = _
                rw [hheap]; exact hc9
            · rename_i hh htb9
              rw [htb9] at hph9
              have hpl : e.platform.magicAccessors = ({} : Platform).magicAccessors := by rw [X.admits.platform]
              obtain ⟨vm', hW', hq⟩ := pw_find (e := e) (s := s) (f := F0 m pc ls (rest.map (pw_tr (pw_ad s0 B)))) (a := pw_ad s0 B (7 + M1.1)) (cell := cell) hpl hW0 hown (VmData.ne_statics_of hv9) hf9 _ _ hph9 ((T'.setTop (F0 m pc ls (rest.map (pw_tr (pw_ad s0 B))))).pushFrame (.throwing (pw_ad s0 B (7 + M1.1)))) (by rw [Stand.throwing_vm]; exact X'.warmed) (by rw [Stand.throwing_heap, hheap]; exact hc9)
              have wn := ih (d + 1) i hh L [.ref (7 + M1.1)] M1 r M' hex (p := p) (e := e) (R := R) (args := args) (below := below) hC hLn hL h6 hlc' (by omega) (by omega) hr1 hr2 hr3 hr4
              obtain ⟨t2, a1, b1⟩ := wn (T'.setVm vm') hheap (X'.noted hW')
              refine ⟨t2, hstep t2 (fun acts => (hdo acts).trans ?_), b1⟩
              rw [ht]
              exact pw_caught X'.here (fun Q E d9 acts9 => by rw [W.findHandler_eq (meth := meth) (code := c) (by rw [Stand.throwing_vm]; exact X'.method') X'.code, htab]; exact hq Q E d9 acts9) a1
    cases hs : pm_st i pc L st M with
    | none => rw [pm_ex, hs] at h; cases h
    | some S =>
      rw [pm_ex, hs] at h
      unfold pm_st at hs
      split at hs
      · cases hs
      · rename_i ins a b v ts ht
        obtain ⟨t1, t2, t3⟩ := hT i pc ins a b v ts ht
        split at hs
        · split at hs
          · split at hs
            · rename_i hr9
              cases hs; cases h
              exact pw_reti hC hW hlc hr9 t1
            · cases hs
          · cases hs
        · split at hs
          · split at hs
            · rename_i hr9
              cases hs; cases h
              exact pw_reta hC hW hlc hr9 t1
            · cases hs
          · cases hs
        · split at hs
          · split at hs
            · rename_i hr9
              cases hs; cases h
              exact pw_retv hC hW hlc hr9 t1
            · cases hs
          · cases hs
        · rename_i idx
          split at hs
          · rename_i h9
            split at hs
            · rename_i h8
              cases hs; cases h
              exact pw_throw hfl hC hG t1 (t3 h9) (hL.1.trans hLn) hW hlc hm hk ⟨by omega, by omega⟩ hr1 hr2 h8
            · cases hs
          · rename_i h9
            obtain ⟨F, hF, rfl⟩ := Option.map_eq_some_iff.mp hs
            exact step _ _ _ _ _ F ht hF (fun _ => by omega) (by rintro ⟨k, hk9⟩; cases hk9) (by rintro ⟨k, hk9⟩; cases hk9) (by rintro (⟨k, hk9⟩ | ⟨k, hk9⟩) <;> cases hk9) h
        · rename_i idx
          unfold pm_cl at hs
          split at hs
          · rename_i h9
            obtain ⟨h91, h92, h93, h94⟩ := h9
            cases hs
            obtain ⟨L0, hL0⟩ := Option.isSome_iff_exists.mp h93
            simp only [hL0, Option.getD_some] at h
            obtain ⟨y1, y2, y3, y4, y5, y6, y7⟩ := t3
            refine call a _ _ L0 idx _ y1 y2 hL0 h92 t1 (fun T hTh X => ?_) h
            exact pw_ivV9 hC hG hW hTh X y1 y3 y4 y5 y6 y7 h91 (h94 rfl) t1
          · cases hs
        · rename_i idx
          split at hs
          · rename_i h9
            split at hs
            · rename_i h8
              obtain ⟨F, hF, rfl⟩ := Option.map_eq_some_iff.mp hs
              exact step _ _ _ _ _ F ht hF (by rintro ⟨k, hk9⟩; cases hk9) (by rintro ⟨k, hk9⟩; cases hk9) (fun _ => h9) (fun _ => h8) h
            · cases hs
          · rename_i h9
            unfold pm_cl at hs
            split at hs
            · rename_i h9'
              obtain ⟨h91, h92, h93, h94⟩ := h9'
              cases hs
              obtain ⟨L0, hL0⟩ := Option.isSome_iff_exists.mp h93
              simp only [hL0, Option.getD_some] at h
              obtain ⟨y1, y2, y3, y4, y5⟩ := t3 (by omega)
              refine call a _ _ L0 idx _ y1 y2 hL0 h92 t1 (fun T hTh X => ?_) h
              exact pw_ivS9 hC X y1 y3 y4 y5 h91 t1
            · cases hs
        · rename_i idx
          split at hs
          · rename_i h9
            split at hs
            · rename_i h8
              obtain ⟨F, hF, rfl⟩ := Option.map_eq_some_iff.mp hs
              exact step _ _ _ _ _ F ht hF (by rintro ⟨k, hk9⟩; cases hk9) (fun _ => h9) (by rintro ⟨k, hk9⟩; cases hk9) (fun _ => h8) h
            · cases hs
          · rename_i h9
            unfold pm_cl at hs
            split at hs
            · rename_i h9'
              obtain ⟨h91, h92, h93, h94⟩ := h9'
              cases hs
              obtain ⟨L0, hL0⟩ := Option.isSome_iff_exists.mp h93
              simp only [hL0, Option.getD_some] at h
              obtain ⟨y1, y2, y3, y4, y5, y6, y7, y8⟩ := t3 (by omega)
              refine call a _ _ L0 idx _ y1 y2 hL0 h92 t1 (fun T hTh X => ?_) h
              exact pw_ivI9 hC X y1 y3 y4 y5 y6 y7 y8 h91 (h94 rfl) t1
            · cases hs
        · obtain ⟨F, hF, rfl⟩ := Option.map_eq_some_iff.mp hs
          exact step _ _ _ _ _ F ht hF (by rintro ⟨k, rfl⟩; simp_all) (by rintro ⟨k, rfl⟩; simp_all) (by rintro ⟨k, rfl⟩; simp_all) (by rintro (⟨k, rfl⟩ | ⟨k, rfl⟩) <;> simp_all) h
