/-! The reference: worksOut from its start, and past a read. -/
section MD8
variable {d : Nat} {M : pm_M} {Q : pm_R → pm_M → Prop} {T : Nat → List Nat} {f key : Nat}
theorem m61b (hf : f < 6) (h24 : (T f).length ≤ 24) (h256 : ∀ c ∈ T f, c < 256) (hRs : Rst 1 (T f)) {τ0 : Nat → Nat → Int32} (hX : MX τ0 T) (hM : Mid d M Q (T f) f key τ0 (wgo (T f) key 24 (none, 0, 0, [])) []) : Ev (d + 4) 61 0 [some (.ref 370), some (.int (nI f)), some (.int (nI key)), none, none, none, none] [] (sM M τ0) Q := by
  refine m61s ?_
  intro τ1 p1 p2
  refine m61o hf h24 h256 hX 24 τ1 [] 0 _ _ _ (by omega) p2 p1 (fun e he => by cases he) (Nat.zero_le _) (Nat.zero_le _) hRs ?_
  rw [show cls [] = [] from rfl, wgo_v (v' := 0) 24 0 1 [] _ hRs (by omega) (by omega)]
  exact hM
/-- on, with what a read is worth -/
theorem m61w (hf : f < 6) (h24 : (T f).length ≤ 24) (h256 : ∀ c ∈ T f, c < 256) {τ0 τ : Nat → Nat → Int32} (hX : MX τ0 T) {rd : List Nat} {sm : List SM} {a bf : Nat} {x : Int32} {g o5 : Int32} (hF : FrR τ0 τ) (hW : MW τ sm x rd) (hV : VM sm) (hs : sm.length ≤ a) (ha : a ≤ (T f).length) (hRs : Rst (wgt (cls sm)) ((T f).drop a)) (hb : sm.length < bf) (h9 : bf < 1000) (hM : Mid d M Q (T f) f key τ0 (wgo (T f) key 24 (hnd (T f) (cls sm) a x)) rd) : Ev (d + 4) 61 106 [some (.ref 370), some (.int (nI f)), some (.int (nI key)), some (.int (nI a)), some (.int g), some (.int o5), some (.int (nI bf))] [] (sM M τ) Q :=
  m61h hf h24 h256 hX 24 0 (fun τ2 sm2 a2 v2 o52 o62 _ q1 q2 q3 q4 q5 q6 q7 => m61o hf h24 h256 hX 24 τ2 sm2 a2 v2 o52 o62 (by omega) q1 q2 q3 q4 q5 q6 q7) sm τ a x bf g o5 (Nat.zero_le _) hF hW hV hs ha hRs hb h9 hM
theorem rdb_in {c : Nat} {k : Nat} (h : ow c = 1) (hk : k < 16) (h1 : rdb c k < 100) : 103 ≤ c ∧ c ≤ 105 := by
  have := ow1 h
  unfold rdb at h1
  split at h1 <;> omega
theorem rdb_ce {c : Nat} {k : Nat} (h : ow c = 1) (hk : k < 16) (h1 : 100 ≤ rdb c k) : 65 ≤ c ∧ c ≤ 70 := by
  have := ow1 h
  unfold rdb at h1
  split at h1 <;> omega
variable {τ0 : Nat → Nat → Int32} {w : WS} {rd : List Nat} {r : Nat}
theorem midI (hf : f < 6) (h24 : (T f).length ≤ 24) (h256 : ∀ c ∈ T f, c < 256) (hX : MX τ0 T) (hb : ∀ x ∈ rd, x < 256) (hl : rd.length < 24) (hw : w.1 = some r) (h100 : r < 100) (hM : Mid d M Q (T f) f key τ0 (wgo (T f) key 24 (wtk (T f) w (τ0 374 r))) (nte rd r)) : Mid d M Q (T f) f key τ0 w rd := by
  obtain ⟨w1, v, a, s⟩ := w
  obtain rfl : w1 = some r := hw
  intro τ' c l sm bf g o5 hF hW hc hV h1 hr hRs hs ha hb2 h9
  dsimp only at hF hW hc hV h1 hr hRs hs ha
  have hk := (kOf_lt v).1
  have hcc := rdb_in h1 hk (by omega)
  have ha2 : a < 2 ^ 31 := Nat.lt_of_le_of_lt (Nat.le_trans ha h24) (by decide)
  refine m61i (P := fun τ'' => MW τ'' sm (τ' 374 r) (nte rd r) ∧ FrR τ' τ'') (a' := a) (by simpa using hW.1) hb2 h9 ha2 (m60i hcc hr (by omega) ha2 hb hl hW) ?_
  rintro τ1 ⟨p1, p2⟩
  have e : τ' 374 r = τ0 374 r := by rw [hF.1 374 (by omega) (by omega)]
  rw [e] at p1
  subst hc
  exact m61w hf h24 h256 hX (hF.trans p2) p1 hV (by omega) ha hRs (by omega) (by omega) hM
theorem mid1 {m : Nat} {P : (Nat → Nat → Int32) → Prop} (hf : f < 6) (h24 : (T f).length ≤ 24) (h256 : ∀ c ∈ T f, c < 256) (hb : ∀ x ∈ rd, x < 256) (hl : rd.length < 24) (hw : w.1 = some (100 + m)) (hg : ∀ τ', FrR τ0 τ' → Ev (d + 2) 55 0 [some (.ref 370), some (.int (nI m))] [] (sM M τ') (fun q9 M' => ∃ v9, q9 = .inl v9 ∧ v9 = some (.int 1) ∧ ∃ τ1, M' = sM M τ1 ∧ P τ1 ∧ FrI τ' τ1)) (hM : ∀ τ1, P τ1 → MX τ1 T ∧ Mid d M Q (T f) f key τ1 (wgo (T f) key 24 (wtk (T f) w (τ1 380 m))) (nte rd (100 + m))) : Mid d M Q (T f) f key τ0 w rd := by
  obtain ⟨w1, v, a, s⟩ := w
  obtain rfl : w1 = some (100 + m) := hw
  intro τ' c l sm bf g o5 hF hW hc hV h1 hr hRs hs ha hb2 h9
  dsimp only at hF hW hc hV h1 hr hRs hs ha
  have hk := (kOf_lt v).1
  have hcc := rdb_ce h1 hk (by omega)
  have ha2 : a < 2 ^ 31 := Nat.lt_of_le_of_lt (Nat.le_trans ha h24) (by decide)
  refine m61i (P := fun τ'' => ∃ τ1, P τ1 ∧ FrI τ' τ1 ∧ MW τ'' sm (τ1 380 m) (nte rd (100 + m)) ∧ FrR τ1 τ'') (a' := a) (by simpa using hW.1) hb2 h9 ha2 (m60s hcc hr (by omega) ha2 hb hl hW (hg τ' hF)) ?_
  rintro τ2 ⟨τ1, p1, p2, p3, p4⟩
  obtain ⟨q1, q2⟩ := hM τ1 p1
  subst hc
  exact m61w hf h24 h256 q1 p4 p3 hV (by omega) ha hRs (by omega) (by omega) q2
theorem mid0 {m : Nat} {P : (Nat → Nat → Int32) → Prop} (h24 : (T f).length ≤ 24) (hw : w.1 = some (100 + m)) (hg : ∀ τ', FrR τ0 τ' → Ev (d + 2) 55 0 [some (.ref 370), some (.int (nI m))] [] (sM M τ') (fun q9 M' => ∃ v9, q9 = .inl v9 ∧ v9 = some (.int 0) ∧ ∃ τ1, M' = sM M τ1 ∧ P τ1)) (hM : ∀ τ1, P τ1 → Q (.inl (some (.int 0))) (sM M τ1)) : Mid d M Q (T f) f key τ0 w rd := by
  obtain ⟨w1, v, a, s⟩ := w
  obtain rfl : w1 = some (100 + m) := hw
  intro τ' c l sm bf g o5 hF hW hc hV h1 hr hRs hs ha hb2 h9
  dsimp only at hF hW hc hV h1 hr hRs hs ha
  have hk := (kOf_lt v).1
  have hcc := rdb_ce h1 hk (by omega)
  exact m61x (P := P) (by simpa using hW.1) hb2 h9 (m60n hcc hr (by omega) hW (hg τ' hF)) hM
end MD8
/-! The walk so far, as it would be walked anew. -/
def stf (t : List Nat) (key : Nat) (G : Nat → Nat → Int32) (x : WS × List Nat) : WS × List Nat := match x.1.1 with
  | none => x
  | some r => (wgo t key 24 (wtk t x.1 (vaO G r)), nte x.2 r)
def wkf (t : List Nat) (key : Nat) (G : Nat → Nat → Int32) : Nat → WS × List Nat
  | 0 => (wgo t key 24 (none, 0, 0, []), [])
  | j + 1 => stf t key G (wkf t key G j)
def Hs (u t : List Nat) (key : Nat) (S : SP) (j : Nat) : Prop := ∀ i, i < j → ∃ r, (wkf t key S.1 i).1.1 = some r ∧ GR u S r
theorem GR_kp {u : List Nat} {S S1 : SP} {r : Nat} (h : GR u S r) (hk : Kp u S S1) : GR u S1 r ∧ vaO S1.1 r = vaO S.1 r ∧ chO S1.1 r = chO S.1 r := by
  obtain ⟨h1, h2⟩ := h
  have h3 := h1
  unfold RdOk at h3
  by_cases h9 : r < 100
  · refine ⟨⟨h1, fun h => absurd h9 (by omega)⟩, ?_, ?_⟩
    · unfold vaO; rw [if_pos h9, if_pos h9]; exact hk.1 14 r (by unfold KR; omega)
    · unfold chO; rw [if_pos h9, if_pos h9]; exact hk.1 15 r (by unfold KR; omega)
  · obtain ⟨g1, g2⟩ := h2 (by omega)
    obtain ⟨k1, k2⟩ := hk.2.1 (r - 100) (by omega) g1
    refine ⟨⟨h1, fun _ => ⟨k1, g2⟩⟩, ?_, ?_⟩
    · unfold vaO; rw [if_neg h9, if_neg h9]; exact k2 0
    · unfold chO; rw [if_neg h9, if_neg h9]; exact k2 4
theorem Hs_kp {u t : List Nat} {key : Nat} {S S1 : SP} (hk : Kp u S S1) : ∀ j, Hs u t key S j → wkf t key S1.1 j = wkf t key S.1 j ∧ Hs u t key S1 j := by
  intro j
  induction j with
  | zero => intro _; exact ⟨rfl, fun i hi => absurd hi (Nat.not_lt_zero i)⟩
  | succ j ih =>
    intro h
    obtain ⟨e1, e2⟩ := ih (fun i hi => h i (by omega))
    obtain ⟨r, hr, hg⟩ := h j (by omega)
    obtain ⟨g1, g2, -⟩ := GR_kp hg hk
    refine ⟨?_, fun i hi => ?_⟩
    · show stf t key S1.1 (wkf t key S1.1 j) = stf t key S.1 (wkf t key S.1 j)
      rw [e1]
      unfold stf
      rw [hr]
      dsimp only
      rw [g2]
    · by_cases e : i = j
      · subst e; exact ⟨r, by rw [e1]; exact hr, g1⟩
      · exact e2 i (by omega)
theorem wk_s {t : List Nat} {key j r : Nat} {G : Nat → Nat → Int32} {w : WS} {rd : List Nat} (h : wkf t key G j = (w, rd)) (hr : w.1 = some r) : wkf t key G (j + 1) = (wgo t key 24 (wtk t w (vaO G r)), nte rd r) := by
  show stf t key G (wkf t key G j) = _
  rw [h]
  unfold stf
  dsimp only
  rw [hr]
theorem Hs_s {u t : List Nat} {key j r : Nat} {S : SP} (h : Hs u t key S j) (hr : (wkf t key S.1 j).1.1 = some r) (hg : GR u S r) : Hs u t key S (j + 1) := fun i hi => by
  by_cases e : i = j
  · subst e; exact ⟨r, hr, hg⟩
  · exact h i (by omega)
theorem wk_ok {u t : List Nat} {key : Nat} {S : SP} (hv9 : ∀ c ∈ t, ow c ≠ 9) : ∀ j, Hs u t key S j → WI t j (wkf t key S.1 j).1 ∧ (wkf t key S.1 j).2.length ≤ j ∧ ∀ r ∈ (wkf t key S.1 j).2, GR u S r := by
  intro j
  induction j with
  | zero => intro _; exact ⟨wgo_inv hv9 24 _ (WI0 t 0), Nat.le_refl _, fun r hr => by cases hr⟩
  | succ j ih =>
    intro h
    obtain ⟨h1, h2, h3⟩ := ih (fun i hi => h i (by omega))
    obtain ⟨r, hr, hg⟩ := h j (by omega)
    rw [wk_s (w := (wkf t key S.1 j).1) (rd := (wkf t key S.1 j).2) rfl hr]
    refine ⟨wgo_inv hv9 24 _ (wtk_inv h1 hr), Nat.le_trans (nte_len _ _) (by omega), fun x hx => ?_⟩
    unfold nte at hx
    dsimp only at hx
    split at hx
    · exact h3 x hx
    · rcases List.mem_append.mp hx with h9 | h9
      · exact h3 x h9
      · rw [List.mem_singleton] at h9; subst h9; exact hg
