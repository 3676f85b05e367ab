/-! What the pure machine's memory says of the machine's heap; a row for each instruction. -/
def pw_ad (s0 : State) (B : Nat → Nat) (p : Nat) : Nat := if p < 8 then B p else s0.heap.size + (p - 8)
def pw_tr (ad : Nat → Nat) : Value → Value
  | .ref p => .ref (ad p)
  | v => v
def pw_at (s0 : State) (D : va_G) (ad : Nat → Nat) (H : Heap) (p : Nat) : pm_E → Prop
  | .inl (ty, n, f) => ∃ cell : Cell, H[ad p]? = some cell ∧ s0.isArrayOf cell ty ∧ cell.vm ≠ .unknown ∧ cell.slots.size = n ∧ (∀ j : Nat, j < n → cell.slots[j]? = some (pw_tr ad (f j))) ∧ (∀ C, ty = .object C → ∃ (k : Class) (comp : ClassId), s0.vm.classes[cell.cls]? = some k ∧ k.kind = .array comp (.object C) ∧ s0.vm.findClass C = some comp)
  | .inr (c, fs) => ∀ r : vw_C, vwCl[c]? = some r → t_OB (ad p) (D.1 c) r.2.2 (D.2 c) H (fun k => pw_tr ad (vp_V fs k))
def pw_W (s0 : State) (D : va_G) (ad : Nat → Nat) (H : Heap) (M : pm_M) : Prop := H.size = s0.heap.size + M.1 ∧ (∀ q : Nat, q < s0.heap.size → H[q]? = s0.heap[q]?) ∧ ∀ p : Nat, pw_at s0 D ad H p (M.2.2 p)
def pw_L (ad : Nat → Nat) (ls : Array Slot) (L : pm_L) : Prop := ls.size = L.length ∧ lv_wf ls ∧ ∀ (j : Nat) (v : Value), pm_get L j = some v → ls[j]? = some (.val (pw_tr ad v))
theorem pw_tr_cat (ad : Nat → Nat) (v : Value) : (pw_tr ad v).category = v.category := by cases v <;> rfl
theorem pw_tr_fits (ad : Nat → Nat) (ty : FieldType) (v : Value) : fits ty (pw_tr ad v) = fits ty v := by cases v <;> cases ty <;> rfl
theorem pw_tr_narrow (ad : Nat → Nat) (ty : FieldType) (v : Value) : narrow ty (pw_tr ad v) = pw_tr ad (narrow ty v) := by cases v <;> cases ty <;> rfl
theorem pw_tr_def (ad : Nat → Nat) (ty : FieldType) : pw_tr ad (defaultValue ty) = defaultValue ty := by cases ty <;> rfl
theorem pw_tr_I {ad : Nat → Nat} {v : Value} (h : pm_isI v = true) : ∃ x, v = .int x := by cases v <;> first | exact ⟨_, rfl⟩ | cases h
theorem pw_tr_J {ad : Nat → Nat} {v : Value} (h : pm_isJ v = true) : ∃ x, v = .long x := by cases v <;> first | exact ⟨_, rfl⟩ | cases h
theorem pw_tr_A {ad : Nat → Nat} {v : Value} (h : pm_isA v = true) : ∃ x, v = .ref x := by cases v <;> first | exact ⟨_, rfl⟩ | cases h
theorem pw_cs (ad : Nat → Nat) (st : List Value) : ((st.map (pw_tr ad)).map fun v => v.category).sum = pm_cs st := by
  unfold pm_cs
  rw [List.map_map]
  congr 1
  exact List.map_congr_left (fun v _ => pw_tr_cat ad v)
theorem pm_set_len : ∀ (L : pm_L) (i : Nat) (v : Value), (pm_set L i v).length = L.length
  | [], _, _ => rfl
  | _ :: t, 0, v => rfl
  | x :: t, 1, v => by simp [pm_set, pm_set_len t 0 v]
  | x :: t, i + 2, v => by simp [pm_set, pm_set_len t (i + 1) v]
/-- what a variable holds behind a store of one word -/
theorem pm_set_get : ∀ (L : pm_L) (i : Nat) (v : Value) (j : Nat) (w : Value), pm_get (pm_set L i v) j = some w → (j = i ∧ w = v ∧ i < L.length) ∨ (j ≠ i ∧ pm_get L j = some w ∧ ¬ (j + 1 = i ∧ w.category = 2))
  | [], _, _, j, w, h => by simp [pm_set, pm_get] at h
  | _ :: t, 0, v, j, w, h => by
    cases j with
    | zero => simp [pm_set, pm_get] at h; exact Or.inl ⟨rfl, h.symm, by simp⟩
    | succ j => exact Or.inr ⟨by omega, by simpa [pm_set, pm_get] using h, by omega⟩
  | x :: t, 1, v, j, w, h => by
    cases j with
    | zero =>
      refine Or.inr ⟨by omega, ?_, ?_⟩
      · simp only [pm_set, pm_get, List.getD_cons_zero] at h ⊢
        split at h
        · cases h
        · cases h
        · exact h
      · simp only [pm_set, pm_get, List.getD_cons_zero] at h
        split at h
        · cases h
        · cases h
        · rintro ⟨-, h2⟩
          rename_i hn1 hn2
          subst h
          cases w with
          | long x => exact hn1 x rfl
          | double x => exact hn2 x rfl
          | _ => simp [Value.category] at h2
    | succ j =>
      have h' : pm_get (pm_set t 0 v) j = some w := by simpa [pm_set, pm_get] using h
      rcases pm_set_get t 0 v j w h' with ⟨a, b, c⟩ | ⟨a, b, c⟩
      · exact Or.inl ⟨by omega, b, by simp; omega⟩
      · exact Or.inr ⟨by omega, by simpa [pm_get] using b, by omega⟩
  | x :: t, i + 2, v, j, w, h => by
    cases j with
    | zero => exact Or.inr ⟨by omega, by simpa [pm_set, pm_get] using h, by omega⟩
    | succ j =>
      have h' : pm_get (pm_set t (i + 1) v) j = some w := by simpa [pm_set, pm_get] using h
      rcases pm_set_get t (i + 1) v j w h' with ⟨a, b, c⟩ | ⟨a, b, c⟩
      · exact Or.inl ⟨by omega, b, by simp; omega⟩
      · exact Or.inr ⟨by omega, by simpa [pm_get] using b, by omega⟩
def pw_ps (ad : Nat → Nat) (L : pm_L) : List (Nat × Value) := (List.range L.length).filterMap (fun j => (pm_get L j).map (fun v => (j, pw_tr ad v)))
theorem pm_get_lt {L : pm_L} {j : Nat} {v : Value} (h : pm_get L j = some v) : j < L.length := by
  unfold pm_get at h
  by_cases hj : j < L.length
  · exact hj
  · rw [List.getD_eq_getElem?_getD, List.getElem?_eq_none (by omega)] at h
    cases h
theorem pw_ps_mem {ad : Nat → Nat} {L : pm_L} {q : Nat × Value} : q ∈ pw_ps ad L ↔ ∃ v, pm_get L q.1 = some v ∧ q.2 = pw_tr ad v := by
  unfold pw_ps
  rw [List.mem_filterMap]
  constructor
  · rintro ⟨j, -, h⟩
    cases hg : pm_get L j with
    | none => rw [hg] at h; cases h
    | some v =>
      rw [hg] at h
      cases h
      exact ⟨v, hg, rfl⟩
  · rintro ⟨v, h1, h2⟩
    refine ⟨q.1, List.mem_range.mpr (pm_get_lt h1), ?_⟩
    rw [h1]
    exact congrArg some (Prod.ext rfl h2.symm)
theorem pw_L.has {ad : Nat → Nat} {ls : Array Slot} {L : pm_L} (h : pw_L ad ls L) : lv_has ls L.length (pw_ps ad L) := by
  refine ⟨h.1, h.2.1, fun q hq => ?_⟩
  obtain ⟨v, h1, h2⟩ := pw_ps_mem.mp hq
  rw [h2]
  exact h.2.2 q.1 v h1
theorem pw_L.st {ad : Nat → Nat} {ls' : Array Slot} {L : pm_L} {i : Nat} {v : Value} (h : lv_has ls' L.length ((i, pw_tr ad v) :: (pw_ps ad L).filter (fun q => !(q.1 == i) && !(q.1 + 1 == i && q.2.category == 2)))) : pw_L ad ls' (pm_set L i v) := by
  refine ⟨by rw [pm_set_len]; exact h.1, h.2.1, fun j w hw => ?_⟩
  rcases pm_set_get L i v j w hw with ⟨a, b, -⟩ | ⟨a, b, c⟩
  · subst a; subst b
    exact h.2.2 _ List.mem_cons_self
  · refine h.2.2 (j, pw_tr ad w) (List.mem_cons_of_mem _ (List.mem_filter.mpr ⟨pw_ps_mem.mpr ⟨w, b, rfl⟩, ?_⟩))
    simp only [pw_tr_cat]
    by_cases h1 : j + 1 = i
    · have h2 : ¬ w.category = 2 := fun z => c ⟨h1, z⟩
      simp [a, h2]
    · simp [a, h1]
/-- old places and new ones are apart -/
def pw_B (s0 : State) (B : Nat → Nat) : Prop := (∀ p, p < 8 → B p < s0.heap.size) ∧ ∀ p q, 1 ≤ p → p ≤ 4 → 1 ≤ q → q ≤ 4 → B p = B q → p = q
theorem pw_ad_ge {s0 : State} {B : Nat → Nat} {p : Nat} (h : 8 ≤ p) : pw_ad s0 B p = s0.heap.size + (p - 8) := by
  unfold pw_ad
  rw [if_neg (by omega)]
theorem pw_ad_ne {s0 : State} {B : Nat → Nat} (hB : pw_B s0 B) {p q : Nat} (hp : 8 ≤ p) (h : q ≠ p) : pw_ad s0 B q ≠ pw_ad s0 B p := by
  rw [pw_ad_ge hp]
  unfold pw_ad
  split
  · rename_i h1
    have := hB.1 q h1
    omega
  · omega
theorem pw_at.kept {s0 : State} {D : va_G} {ad : Nat → Nat} {H H1 : Heap} {p : Nat} {e : pm_E} (h : pw_at s0 D ad H p e) (hq : H1[ad p]? = H[ad p]?) : pw_at s0 D ad H1 p e := by
  rcases e with ⟨ty, n, f⟩ | ⟨c, fs⟩
  · obtain ⟨cell, h1, h2⟩ := h
    exact ⟨cell, by rw [hq]; exact h1, h2⟩
  · exact fun r hr => (h r hr).kept hq
theorem pw_at.keptN {s0 : State} {D : va_G} {ad : Nat → Nat} {H H1 : Heap} {p : Nat} {e : pm_E} (h : pw_at s0 D ad H p e) (hq : ∀ a, a < H.size → H1[a]? = H[a]?) : pw_at s0 D ad H1 p e := by
  rcases e with ⟨ty, n, f⟩ | ⟨c, fs⟩
  · obtain ⟨cell, h1, h2⟩ := h
    exact ⟨cell, by rw [hq _ (Array.getElem?_eq_some_iff.mp h1).1]; exact h1, h2⟩
  · intro r hr
    obtain ⟨cell, h1, h2⟩ := h r hr
    exact ⟨cell, by rw [hq _ (Array.getElem?_eq_some_iff.mp h1).1]; exact h1, h2⟩
/-- one cell is written -/
theorem pw_W.up {s0 : State} {D : va_G} {B : Nat → Nat} {H H1 : Heap} {M : pm_M} {p : Nat} {e : pm_E} (hB : pw_B s0 B) (h : pw_W s0 D (pw_ad s0 B) H M) (hp : 8 ≤ p) (hz : H1.size = H.size) (ho : ∀ q : Nat, q ≠ pw_ad s0 B p → H1[q]? = H[q]?) (he : pw_at s0 D (pw_ad s0 B) H1 p e) : pw_W s0 D (pw_ad s0 B) H1 (pm_up M p e) := by
  refine ⟨hz.trans h.1, fun q hq => (ho q ?_).trans (h.2.1 q hq), fun q => ?_⟩
  · rw [pw_ad_ge hp]; omega
  · show pw_at s0 D (pw_ad s0 B) H1 q (if q = p then e else M.2.2 q)
    by_cases hqp : q = p
    · subst hqp
      rw [if_pos rfl]
      exact he
    · rw [if_neg hqp]
      exact (h.2.2 q).kept (ho _ (pw_ad_ne hB hp hqp))
/-- one cell is made -/
theorem pw_W.mk {s0 : State} {D : va_G} {B : Nat → Nat} {H H1 : Heap} {M : pm_M} {n : Nat} {e : pm_E} (h : pw_W s0 D (pw_ad s0 B) H M) (hz : H1.size = H.size + 1) (ho : ∀ q : Nat, q < H.size → H1[q]? = H[q]?) (he : pw_at s0 D (pw_ad s0 B) H1 (8 + M.1) e) : pw_W s0 D (pw_ad s0 B) H1 (pm_mk M n e) := by
  refine ⟨by rw [hz, h.1]; rfl, fun q hq => (ho q (by rw [h.1]; omega)).trans (h.2.1 q hq), fun q => ?_⟩
  show pw_at s0 D (pw_ad s0 B) H1 q (if q = 8 + M.1 then e else M.2.2 q)
  by_cases hqp : q = 8 + M.1
  · subst hqp
    rw [if_pos rfl]
    exact he
  · rw [if_neg hqp]
    exact (h.2.2 q).keptN ho
theorem pw_ad_new {s0 : State} {D : va_G} {B : Nat → Nat} {H : Heap} {M : pm_M} (h : pw_W s0 D (pw_ad s0 B) H M) : pw_ad s0 B (8 + M.1) = H.size := by
  rw [pw_ad_ge (by omega), h.1]
  omega
/-! words at the start, and later -/
theorem pw_wd {s0 s : State} {w : Cond} {args : Array Value} (hW : s0.WarmedH s.vm) (hg : goodWord w = true) (h : w.before #[] s0 = true) : w.before args s = true := word_at hW (good_of_word hg) h
theorem pw_wdF {s0 s : State} {args : Array Value} {a : String} {i : Nat} {b n d h : String} (hW : s0.WarmedH s.vm) (hz : (Cond.fieldLinkNest a i b n d h).before #[] s0 = true) : (Cond.fieldLinkNest a i b n d h).before args s = true := (va_Nw.warmF hW hz).use rfl
theorem pw_wdM {s0 s : State} {args : Array Value} {a : String} {i : Nat} {x : MethodName} {h : String} (hW : s0.WarmedH s.vm) (hz : (Cond.methodLinkNest a i x h).before #[] s0 = true) : (Cond.methodLinkNest a i x h).before args s = true := (va_Nw.warmM hW hz).use rfl
theorem pw_wdA {s0 s : State} {args : Array Value} {C : String} (hW : s0.WarmedH s.vm) (hz : (Cond.arrayOver (.object C)).before #[] s0 = true) : (Cond.arrayOver (.object C)).before args s = true := (va_AO.moved hW.alike (va_AO.of hz)).use
def pw_U (s0 : State) : Prop := ∀ (c : Nat) (r : vw_C), vwCl[c]? = some r → ∀ w ∈ u_ws r.1 r.2.1 r.2.2, w.before #[] s0 = true
theorem pw_U.ws {s0 s : State} {args : Array Value} (h : pw_U s0) (hW : s0.WarmedH s.vm) {c : Nat} {r : vw_C} (hr : vwCl[c]? = some r) : ∀ w ∈ u_ws r.1 r.2.1 r.2.2, w.before args s = true := by
  intro w hw
  refine pw_wd hW ?_ (h c r hr w hw)
  obtain ⟨k, -, rfl⟩ := List.mem_map.mp hw
  unfold u_lay
  split <;> rfl
/-- the field b of the class a, as the method's own class links it at idx -/
def pw_fl (s0 : State) (own : String) (idx a b : Nat) : Prop := ∃ r : vw_C, vwCl[a]? = some r ∧ b < r.2.2 ∧ parseFieldDescriptor (r.2.1 b).2.2.1 = some (tb_ft a b) ∧ ((Cond.fieldLink own idx (r.2.1 b).1 (r.2.1 b).2.1 (r.2.1 b).2.2.1).before #[] s0 = true ∨ ∃ host, (Cond.fieldLinkNest own idx (r.2.1 b).1 (r.2.1 b).2.1 (r.2.1 b).2.2.1 host).before #[] s0 = true)
def pw_nm : Prop := ∀ (c : Nat) (r : vw_C), vwCl[c]? = some r → (∀ k, k < r.2.2 → parseFieldDescriptor (r.2.1 k).2.2.1 = some (tb_ft c k)) ∧ (∀ a, a < r.2.2 → ∀ b, b < r.2.2 → a ≠ b → (r.2.1 a).2.1 ≠ (r.2.1 b).2.1)
section PWR
variable {p : Program} {l : Launch} {e : Env} {R : Room} {s : State} {m : MethodId} {args : Array Value} {below : List Frame} {meth : Method} {c : Code} {H : Heap} {locs : List Loc} {cells slots : Nat} {Q : State → Prop} {pc : Nat} {ls : Array Slot} {rest : List Value} {s0 : State} {D : va_G} {B : Nat → Nat} {M : pm_M} {cc : ByteArray} {own : String} {idx a b : Nat}
theorem pw_get (hx : p.tables.exec = Jvm.exec) (hb : c.code = cc) (hW0 : s0.WarmedH s.vm) (hK : va_K D vwCl [] s0) (hU : pw_U s0) (hown : s.vm.findClass own = some m.cls) (hf : pw_fl s0 own idx a b) (hdg : decode cc pc = .ok (.getfield idx, 3)) (hW : pw_W s0 D (pw_ad s0 B) H M) {q : Nat} {fs : List Value} (hM : M.2.2 q = .inr (a, fs)) {x : Value} (hv : fs[b]? = some x)
    (kk : W p l e R s m args below meth c H locs cells slots Q (F0 m (pc + 3) ls (pw_tr (pw_ad s0 B) x :: rest))) : W p l e R s m args below meth c H locs cells slots Q (F0 m pc ls (.ref (pw_ad s0 B q) :: rest)) := by
  obtain ⟨r, hr, hbl, -, hlk⟩ := hf
  have hK' := va_K.moved hW0.alike hK
  have h1 := hW.2.2 q
  rw [hM] at h1
  obtain ⟨cell, q1, q2, q3, q4⟩ := h1 r hr
  obtain ⟨hS, hfc, kC, hkC, hkind⟩ := hK'.1 a _ hr
  obtain ⟨cf, kf, fi, f, hi, hsl⟩ := hS b hbl
  have hst := (u_facts (args := args) hfc hkC (u_lays (hU.ws hW0 hr) (fun _ h => h) hbl) hi).1
  have hslot : cell.slots[f.slot]? = some (pw_tr (pw_ad s0 B) x) := by
    rw [hsl, q4 b hbl]
    simp [vp_V, hv]
  rcases hlk with hl | ⟨host, hl⟩
  · exact W.getf hx hb hown (pw_wd hW0 rfl hl) hi hst q1 (by rw [q3]; exact fun h => by cases h) (v := pw_tr (pw_ad s0 B) x) hslot rfl rfl hdg kk
  · exact va_Wgetf hx hb hown (pw_wdF hW0 hl) hi hst q1 (by rw [q3]; exact fun h => by cases h) (v := pw_tr (pw_ad s0 B) x) hslot rfl rfl hdg kk
theorem pw_put (hx : p.tables.exec = Jvm.exec) (hb : c.code = cc) (hW0 : s0.WarmedH s.vm) (hB : pw_B s0 B) (hK : va_K D vwCl [] s0) (hU : pw_U s0) (hN : pw_nm) (hown : s.vm.findClass own = some m.cls) (hf : pw_fl s0 own idx a b) (hfin : ∀ r : vw_C, vwCl[a]? = some r → (r.2.1 b).2.2.2 = false ∨ (meth.name = "<init>" ∧ (r.2.1 b).1 = own)) (hdg : decode cc pc = .ok (.putfield idx, 3)) (hW : pw_W s0 D (pw_ad s0 B) H M) {q : Nat} (hq : 8 ≤ q) {fs : List Value} (hM : M.2.2 q = .inr (a, fs)) {x : Value} (hl : b < fs.length) (hn : narrow (tb_ft a b) x = x) (hv : fits (tb_ft a b) x = true) (hlc : ∀ y ∈ locs, s0.heap.size ≤ y.base)
    (kk : ∀ (H1 : Heap) (locs1 : List Loc), pw_W s0 D (pw_ad s0 B) H1 (pm_up M q (.inr (a, fs.set b x))) → (∀ y ∈ locs1, s0.heap.size ≤ y.base) → W p l e R s m args below meth c H1 locs1 cells slots Q (F0 m (pc + 3) ls rest)) : W p l e R s m args below meth c H locs cells slots Q (F0 m pc ls (pw_tr (pw_ad s0 B) x :: .ref (pw_ad s0 B q) :: rest)) := by
  obtain ⟨r, hr, hbl, hd, hlk⟩ := hf
  obtain ⟨hty, hnm⟩ := hN a r hr
  have hK' := va_K.moved hW0.alike hK
  have hws : ∀ w ∈ u_ws r.1 r.2.1 r.2.2, w.before args s = true := hU.ws hW0 hr
  have h1 := hW.2.2 q
  rw [hM] at h1
  obtain ⟨cell, q1, q2, q3, q4⟩ := h1 r hr
  obtain ⟨hS, hfc, kC, hkC, hkind⟩ := hK'.1 a _ hr
  obtain ⟨cf, kf, fi, f, hi, hsl⟩ := hS b hbl
  have hap := va_apart (own := own) (D := D) (cl := vwCl) (tys := []) (ci := a) hws (fun _ h => h) (tb_ft a) hty hnm hK' hr
  have hst := (u_facts (args := args) hfc hkC (u_lays hws (fun _ h => h) hbl) hi).1
  have hn' : narrow (tb_ft a b) (pw_tr (pw_ad s0 B) x) = pw_tr (pw_ad s0 B) x := by rw [pw_tr_narrow, hn]
  have hv' : fits (tb_ft a b) (pw_tr (pw_ad s0 B) x) = true := by rw [pw_tr_fits, hv]
  have hfit := u_fits (args := args) hfc hkC hkind (u_lays hws (fun _ h => h) hbl) hi hd hn' hv'
  have hlay := hws _ (u_in_lay hbl)
  have hfl : hasFlag f.accessFlags Acc.final = false ∨ (m.cls = cf ∧ meth.name = "<init>") := by
    rcases hfin r hr with h | ⟨h, h2⟩
    · unfold u_lay at hlay
      rw [if_neg (by rw [h]; decide)] at hlay
      exact Or.inl (u_store hfc hkC hkind hlay hi hd hn' hv').1
    · by_cases h3 : (r.2.1 b).2.2.2 = true
      · unfold u_lay at hlay
        rw [if_pos h3] at hlay
        obtain ⟨_, _, c', _, _, _, -, -, hf', -, -, -, hown2, -⟩ := Cond.laysFinal_spec hlay
        have e1 : c' = cf := by have := hi.symm.trans hf'; simp at this; exact this.1.symm
        rw [h2] at hown2
        exact Or.inr ⟨by rw [← e1]; exact Option.some.inj (hown.symm.trans hown2), h⟩
      · unfold u_lay at hlay
        rw [if_neg h3] at hlay
        exact Or.inl (u_store hfc hkC hkind hlay hi hd hn' hv').1
  have hlt : f.slot < cell.slots.size := by rw [hsl]; exact k2_hasslot (q4 b hbl)
  have ha : pw_ad s0 B q < H.size := (Array.getElem?_eq_some_iff.mp q1).1
  have key : W p l e R s m args below meth c (H.setIfInBounds (pw_ad s0 B q) (cell.setSlot f.slot (pw_tr (pw_ad s0 B) x))) (locs ++ [⟨pw_ad s0 B q, f.slot⟩]) cells slots Q (F0 m (pc + 3) ls rest) := by
    refine kk _ _ (hW.up hB hq (by simp) (fun y hy => by simp [Array.getElem?_setIfInBounds, Ne.symm hy]) ?_) ?_
    · intro r' hr'
      cases hr.symm.trans hr'
      refine t_OB.to (V := updV (fun k => pw_tr (pw_ad s0 B) (vp_V fs k)) b (pw_tr (pw_ad s0 B) x)) ⟨cell.setSlot f.slot (pw_tr (pw_ad s0 B) x), by simp [Array.getElem?_setIfInBounds, ha], q2, q3, ?_⟩ (fun j _ => ?_)
      · rw [hsl]
        exact t_set q4 hap hbl _
      · rw [← vp_updV_set hl x j]
        unfold updV
        split <;> rfl
    · intro y hy
      rcases List.mem_append.mp hy with h | h
      · exact hlc y h
      · rw [List.mem_singleton.mp h, pw_ad_ge hq]
        exact Nat.le_add_right _ _
  rcases hlk with hl' | ⟨host, hl'⟩
  · exact W.putf hx hb hown (pw_wd hW0 rfl hl') hi hst hfl q1 (by rw [q3]; exact fun h => by cases h) hlt hfit.1 (by rw [q3, q2]; exact hfit.2) rfl rfl hdg key
  · exact va_Wputf hx hb hown (pw_wdF hW0 hl') hi hst hfl q1 (by rw [q3]; exact fun h => by cases h) hlt hfit.1 (by rw [q3, q2]; exact hfit.2) rfl rfl hdg key
/-- an array's cell, as the rows want it -/
theorem pw_arr (hW0 : s0.WarmedH s.vm) (hW : pw_W s0 D (pw_ad s0 B) H M) {q n : Nat} {ty : FieldType} {f : Nat → Value} (hM : M.2.2 q = .inl (ty, n, f)) : ∃ cell : Cell, H[pw_ad s0 B q]? = some cell ∧ s.isArrayOf cell ty ∧ cell.vm ≠ .unknown ∧ cell.slots.size = n ∧ (∀ j : Nat, j < n → cell.slots[j]? = some (pw_tr (pw_ad s0 B) (f j))) ∧ s0.isArrayOf cell ty ∧ (∀ C, ty = .object C → ∃ (k : Class) (comp : ClassId), s0.vm.classes[cell.cls]? = some k ∧ k.kind = .array comp (.object C) ∧ s0.vm.findClass C = some comp) := by
  have h1 := hW.2.2 q
  rw [hM] at h1
  obtain ⟨cell, h2, h3, h4, h5, h6, h7⟩ := h1
  exact ⟨cell, h2, State.isArrayOf_alike hW0.alike h3, h4, h5, h6, h3, h7⟩
/-- an element is written -/
theorem pw_arrS (hB : pw_B s0 B) (hW : pw_W s0 D (pw_ad s0 B) H M) {q n j : Nat} (hq : 8 ≤ q) {ty : FieldType} {f : Nat → Value} {v : Value} {cell : Cell} (h1 : H[pw_ad s0 B q]? = some cell) (h2 : s0.isArrayOf cell ty) (h3 : cell.vm ≠ .unknown) (h4 : cell.slots.size = n) (h5 : ∀ j : Nat, j < n → cell.slots[j]? = some (pw_tr (pw_ad s0 B) (f j))) (h6 : ∀ C, ty = .object C → ∃ (k : Class) (comp : ClassId), s0.vm.classes[cell.cls]? = some k ∧ k.kind = .array comp (.object C) ∧ s0.vm.findClass C = some comp) {H1 : Heap} (e1 : H1[pw_ad s0 B q]? = some (cell.setSlot j (pw_tr (pw_ad s0 B) v))) (e2 : H1.size = H.size) (e3 : ∀ y, y ≠ pw_ad s0 B q → H1[y]? = H[y]?) : pw_W s0 D (pw_ad s0 B) H1 (pm_up M q (.inl (ty, n, pm_uv f j v))) := by
  refine hW.up hB hq e2 e3 ⟨_, e1, h2, h3, by simp [Cell.setSlot, h4], fun k hk => ?_, h6⟩
  show (cell.slots.setIfInBounds j _)[k]? = some (pw_tr _ (if k = j then v else f k))
  rw [Array.getElem?_setIfInBounds]
  by_cases hkj : j = k
  · subst hkj
    rw [if_pos rfl, if_pos rfl, if_pos (by omega)]
  · rw [if_neg hkj, if_neg (Ne.symm hkj)]
    exact h5 k hk
theorem pw_lc1 {a1 : Nat} {i1 : Nat} (hlc : ∀ y ∈ locs, s0.heap.size ≤ y.base) (h : s0.heap.size ≤ a1) : ∀ y ∈ locs ++ [⟨a1, i1⟩], s0.heap.size ≤ y.base := by
  intro y hy
  rcases List.mem_append.mp hy with h1 | h1
  · exact hlc y h1
  · rw [List.mem_singleton.mp h1]
    exact h
theorem pw_int {v : Value} (h : fits .int v = true) : ∃ x, v = .int x := by cases v <;> first | exact ⟨_, rfl⟩ | cases h
theorem pw_pairs (at_ : Nat) : ∀ (xs : List Value) (i : Nat) (cl : Cell), ((cl.storePairs at_ (xs.zipIdx i)).cls = cl.cls ∧ (cl.storePairs at_ (xs.zipIdx i)).vm = cl.vm ∧ (cl.storePairs at_ (xs.zipIdx i)).slots.size = cl.slots.size) ∧ ∀ k, k < cl.slots.size → (cl.storePairs at_ (xs.zipIdx i)).slots[k]? = if at_ + i ≤ k ∧ k < at_ + i + xs.length then some (xs.getD (k - (at_ + i)) .null) else cl.slots[k]?
  | [], i, cl => by
    refine ⟨⟨rfl, rfl, rfl⟩, fun k hk => ?_⟩
    rw [if_neg (by simp only [List.length_nil]; omega)]
    rfl
  | x :: xs, i, cl => by
    rw [List.zipIdx_cons]
    show (((cl.setSlot (at_ + i) x).storePairs at_ (xs.zipIdx (i + 1))).cls = cl.cls ∧ ((cl.setSlot (at_ + i) x).storePairs at_ (xs.zipIdx (i + 1))).vm = cl.vm ∧ ((cl.setSlot (at_ + i) x).storePairs at_ (xs.zipIdx (i + 1))).slots.size = cl.slots.size) ∧ ∀ k, k < cl.slots.size → ((cl.setSlot (at_ + i) x).storePairs at_ (xs.zipIdx (i + 1))).slots[k]? = _
    obtain ⟨⟨h1, h2, h3⟩, h4⟩ := pw_pairs at_ xs (i + 1) (cl.setSlot (at_ + i) x)
    have hz : (cl.setSlot (at_ + i) x).slots.size = cl.slots.size := by simp [Cell.setSlot]
    refine ⟨⟨h1, h2, h3.trans hz⟩, fun k hk => ?_⟩
    rw [h4 k (by omega)]
    by_cases hki : k = at_ + i
    · subst hki
      rw [if_neg (by omega), if_pos (by simp only [List.length_cons]; omega)]
      simp [Cell.setSlot, hk]
    · by_cases h : at_ + (i + 1) ≤ k ∧ k < at_ + (i + 1) + xs.length
      · rw [if_pos h, if_pos (by simp only [List.length_cons]; omega)]
        rw [show k - (at_ + i) = (k - (at_ + (i + 1))) + 1 by omega, List.getD_cons_succ]
      · rw [if_neg h, if_neg (by simp only [List.length_cons]; omega)]
        simp [Cell.setSlot, Array.getElem?_setIfInBounds, Ne.symm hki]
theorem pw_copied {cs cd : Cell} {ad : Nat → Nat} {f g : Nat → Value} {n0 n1 sp dp n : Nat} (hs : ∀ j : Nat, j < n0 → cs.slots[j]? = some (pw_tr ad (f j))) (hd : ∀ j : Nat, j < n1 → cd.slots[j]? = some (pw_tr ad (g j))) (hz : cd.slots.size = n1) (h : sp + n ≤ n0) : ((cd.storeRun dp (cs.stretch sp n)).cls = cd.cls ∧ (cd.storeRun dp (cs.stretch sp n)).vm = cd.vm ∧ (cd.storeRun dp (cs.stretch sp n)).slots.size = n1) ∧ ∀ k, k < n1 → (cd.storeRun dp (cs.stretch sp n)).slots[k]? = some (pw_tr ad (va_cpy f g sp dp n k)) := by
  have e : cs.stretch sp n = (List.range n).map (fun i => pw_tr ad (f (sp + i))) := by
    unfold Cell.stretch
    apply List.map_congr_left
    intro i hi
    have hi' := List.mem_range.mp hi
    rw [Array.getD_eq_getD_getElem?, hs _ (by omega)]
    rfl
  rw [e, Cell.storeRun]
  obtain ⟨⟨h1, h2, h3⟩, h4⟩ := pw_pairs dp ((List.range n).map (fun i => pw_tr ad (f (sp + i)))) 0 cd
  refine ⟨⟨h1, h2, h3.trans hz⟩, fun k hk => ?_⟩
  rw [h4 k (by omega)]
  simp only [va_cpy, List.length_map, List.length_range, Nat.add_zero]
  by_cases h9 : dp ≤ k ∧ k < dp + n
  · rw [if_pos h9, if_pos h9, List.getD_eq_getElem?_getD, List.getElem?_map, List.getElem?_range (by omega)]
    rfl
  · rw [if_neg h9, if_neg h9]
    exact hd k hk
theorem pw_copy (hx : p.tables.exec = Jvm.exec) (hb : c.code = cc) (hml : c.maxLocals = ls.size) (hW0 : s0.WarmedH s.vm) (hB : pw_B s0 B) (hown : s.vm.findClass own = some m.cls) (hlink : (Cond.methodLink own idx arraycopyName).before args s = true) (hnat : (Cond.native arraycopyName).before args s = true) (hstat : (Cond.static arraycopyName).before args s = true) (hini : (Cond.initialized "java/lang/System").before args s = true) (hW : pw_W s0 D (pw_ad s0 B) H M) {q0 q1 n0 n1 : Nat} {f g : Nat → Value} (hM0 : M.2.2 q0 = .inl (.int, n0, f)) (hM1 : M.2.2 q1 = .inl (.int, n1, g)) (hq : 8 ≤ q1)
    {sp dp n : Int32} (h1 : ¬ sp < 0) (h2 : ¬ dp < 0) (h3 : ¬ n < 0) (h4 : sp.toNatClampNeg + n.toNatClampNeg ≤ n0) (h5 : dp.toNatClampNeg + n.toNatClampNeg ≤ n1) (h6 : ∀ k, k < n.toNatClampNeg → fits .int (f (sp.toNatClampNeg + k)) = true) (hlc : ∀ y ∈ locs, s0.heap.size ≤ y.base)
    (hframes : 1 ≤ R.frames) (hlocals : (rest.map fun v => v.category).sum + (nativeFrameWords "java/lang/System" "arraycopy" 5 + 11) ≤ R.locals) (hdg : decode cc pc = .ok (.invokestatic idx, 3))
    (kk : ∀ (H1 : Heap) (locs1 : List Loc), pw_W s0 D (pw_ad s0 B) H1 (pm_up M q1 (.inl (.int, n1, va_cpy f g sp.toNatClampNeg dp.toNatClampNeg n.toNatClampNeg))) → (∀ y ∈ locs1, s0.heap.size ≤ y.base) → W p l e R s m args below meth c H1 locs1 cells slots Q (F0 m (pc + 3) ls rest)) : W p l e R s m args below meth c H locs cells slots Q (F0 m pc ls (.int n :: .int dp :: .ref (pw_ad s0 B q1) :: .int sp :: .ref (pw_ad s0 B q0) :: rest)) := by
  have nn : ∀ z : Int32, ¬ z < 0 → z.toInt = (z.toNatClampNeg : Int) := by
    intro z hz
    have hz0 : (0 : Int) ≤ z.toInt := by
      have := Int32.not_lt.mp hz
      simpa using Int32.le_iff_toInt_le.mp this
    show z.toInt = ((z.toInt.toNat : Nat) : Int)
    omega
  intro T hT X
  obtain ⟨cs, a1, a2, a3, a4, a5, -⟩ := pw_arr hW0 hW hM0
  obtain ⟨cd, b1, b2, b3, b4, b5, b6, b7⟩ := pw_arr hW0 hW hM1
  obtain ⟨a21, k0, hk0, cm0, hkk0⟩ := a2
  obtain ⟨b21, k1, hk1, cm1, hkk1⟩ := b2
  obtain ⟨vm', X', step⟩ := X.arraycopy hx hown hlink hnat hstat hini (src := pw_ad s0 B q0) (dst := pw_ad s0 B q1) (cs := cs) (cd := cd) (srcPos := sp) (destPos := dp) (n := n) (by rw [hT]; exact a1) (by rw [hT]; exact b1)
    a21 b21 a3 b3 hk0 hk1 hkk0 hkk1 (by simp [refKind]) h1 h2 h3
    (by rw [nn sp h1, nn n h3, a4]; omega)
    (by rw [nn dp h2, nn n h3, b4]; omega)
    (fun vm₁ _ i hi => by
      have e : cs.slots.getD (sp.toNatClampNeg + i) .null = pw_tr (pw_ad s0 B) (f (sp.toNatClampNeg + i)) := by
        rw [Array.getD_eq_getD_getElem?, a5 _ (by omega)]
        rfl
      obtain ⟨x, hx9⟩ := pw_int (h6 i hi)
      rw [hx9] at e
      refine ⟨?_, ?_⟩
      · rw [e]
        rfl
      · rw [e]
        exact trivial)
    (g := F0 m pc ls (.int n :: .int dp :: .ref (pw_ad s0 B q1) :: .int sp :: .ref (pw_ad s0 B q0) :: rest)) rfl (by rw [hml]) (rest := rest) rfl (by rw [hb]; exact hdg) hframes (by show 2 * 0 + _ + _ ≤ _; omega)
  obtain ⟨⟨c1, c2, c3⟩, c4⟩ := pw_copied (dp := dp.toNatClampNeg) a5 b5 b4 h4
  have hl : pw_ad s0 B q1 < H.size := (Array.getElem?_eq_some_iff.mp b1).1
  have hheap : ((T.setVm vm').setCell (pw_ad s0 B q1) (copied cs cd sp dp n)).heap = H.setIfInBounds (pw_ad s0 B q1) (copied cs cd sp dp n) := by rw [← hT]; rfl
  have oq : ∀ q : Nat, q ≠ pw_ad s0 B q1 → (H.setIfInBounds (pw_ad s0 B q1) (copied cs cd sp dp n))[q]? = H[q]? := fun q hq => by simp [Array.getElem?_setIfInBounds, Ne.symm hq]
  have he : pw_at s0 D (pw_ad s0 B) (H.setIfInBounds (pw_ad s0 B q1) (copied cs cd sp dp n)) q1 (.inl (.int, n1, va_cpy f g sp.toNatClampNeg dp.toNatClampNeg n.toNatClampNeg)) := by
    refine ⟨copied cs cd sp dp n, by simp [Array.getElem?_setIfInBounds, hl], ?_, ?_, c3, c4, fun C hC => by cases hC⟩
    · obtain ⟨b61, kd, hkd, cm, hkk⟩ := b6
      exact ⟨fun k => by show (cd.storeRun _ _).vm ≠ _; rw [c2]; exact b61 k, kd, by show s0.vm.classes[(cd.storeRun _ _).cls]? = _; rw [c1]; exact hkd, cm, hkk⟩
    · show (cd.storeRun _ _).vm ≠ _
      rw [c2]
      exact b3
  obtain ⟨t, t1, t2⟩ := kk _ _ (hW.up hB hq (by simp) oq he) (fun y hy => by
      rcases List.mem_append.mp hy with h | h
      · exact hlc y h
      · obtain ⟨z, -, hz⟩ := List.mem_map.mp h
        rw [← hz]
        show _ ≤ pw_ad s0 B q1
        rw [pw_ad_ge hq]
        exact Nat.le_add_right _ _) _ hheap X'
  exact ⟨t, step t t1, t2⟩
end PWR
