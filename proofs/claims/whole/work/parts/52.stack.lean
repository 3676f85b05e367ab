/-! The reference's working out, as it is spoken of: its stack beside the class's. -/
abbrev SM : Type := Nat × Nat × Int32
def MRl (τ : Nat → Nat → Int32) : List SM → Prop
  | [] => True
  | e :: s => τ 390 s.length = nI e.1 ∧ τ 391 s.length = nI e.2.1 ∧ (e.2.1 = 1 → ¬ e.1 = 63 → τ 392 s.length = e.2.2) ∧ MRl τ s
def cls : List SM → List SE
  | [] => []
  | e :: s => if e.1 = 63 then (if e.2.1 = 0 then (63, none) :: cls s else if e.2.1 = 1 then (58, none) :: cls s else cls s) else if e.2.1 = 0 then (e.1, none) :: cls s else (e.1, some e.2.2) :: cls s
def VE (e : SM) : Prop := e.1 < 256 ∧ ow e.1 ≠ 9 ∧ ow e.1 ≠ 0 ∧ e.2.1 ≤ 2 ∧ (¬ e.1 = 63 → e.2.1 ≤ 1) ∧ (ow e.1 = 1 → e.2.1 = 0)
def VM (sm : List SM) : Prop := ∀ e ∈ sm, VE e
def wgt : List SE → Nat
  | [] => 0
  | (c, o) :: s => (if c = 58 then 1 else match o with
    | some _ => 0
    | none => ow c - 1) + wgt s
def RdL (τ : Nat → Nat → Int32) (rd : List Nat) : Prop := τ 370 34 = nI rd.length ∧ ∀ i, i < rd.length → τ 393 i = nI (rd.getD i 0)
def MW (τ : Nat → Nat → Int32) (sm : List SM) (v : Int32) (rd : List Nat) : Prop := τ 370 30 = nI sm.length ∧ MRl τ sm ∧ τ 370 36 = v ∧ RdL τ rd
/-- what a working out leaves alone -/
def FrR (τ τ' : Nat → Nat → Int32) : Prop := (∀ q, q ≠ 370 → ¬ (390 ≤ q ∧ q ≤ 393) → τ' q = τ q) ∧ ∀ k, k ≠ 30 → k ≠ 34 → k ≠ 36 → τ' 370 k = τ 370 k
theorem FrR.rfl {τ : Nat → Nat → Int32} : FrR τ τ := ⟨fun _ _ _ => Eq.refl _, fun _ _ _ _ => Eq.refl _⟩
theorem FrR.trans {τ τ' τ'' : Nat → Nat → Int32} (h : FrR τ τ') (h' : FrR τ' τ'') : FrR τ τ'' := ⟨fun q h1 h2 => (h'.1 q h1 h2).trans (h.1 q h1 h2), fun k h1 h2 h3 => (h'.2 k h1 h2 h3).trans (h.2 k h1 h2 h3)⟩
theorem FrR.u {τ : Nat → Nat → Int32} {q k : Nat} {x : Int32} (h : (390 ≤ q ∧ q ≤ 393) ∨ (q = 370 ∧ (k = 30 ∨ k = 34 ∨ k = 36))) : FrR τ (u2 τ q k x) := ⟨fun p h1 h2 => u2_ne (by omega), fun j h1 h2 h3 => u2_off (by omega)⟩
theorem MS_fr {τ τ' G : Nat → Nat → Int32} (h : FrR τ τ') (hS : MS τ G) : MS τ' G := by
  obtain ⟨⟨a1, a2, a3, a4, a5, a6⟩, b, c, e⟩ := hS
  obtain ⟨h1, h2⟩ := h
  refine ⟨⟨?_, ?_, ?_, ?_, ?_, ?_⟩, fun k hk => ⟨?_, ?_⟩, fun k hk => ⟨?_, ?_⟩, fun k hk => ?_⟩
  · rw [h2 _ (by omega) (by omega) (by omega)]; exact a1
  · rw [h2 _ (by omega) (by omega) (by omega)]; exact a2
  · rw [h2 _ (by omega) (by omega) (by omega)]; exact a3
  · rw [h2 _ (by omega) (by omega) (by omega)]; exact a4
  · rw [h2 _ (by omega) (by omega) (by omega)]; exact a5
  · rw [h2 _ (by omega) (by omega) (by omega)]; exact a6
  · rw [h1 _ (by omega) (by omega)]; exact (b k hk).1
  · rw [h1 _ (by omega) (by omega)]; exact (b k hk).2
  · rw [h1 _ (by omega) (by omega)]; exact (c k hk).1
  · rw [h1 _ (by omega) (by omega)]; exact (c k hk).2
  · rw [h1 _ (by omega) (by omega)]; exact e k hk
theorem RM_fr {τ τ' : Nat → Nat → Int32} {S : SP} {ck : Nat} (h : FrR τ τ') (hR : RM τ S ck) : RM τ' S ck := by
  obtain ⟨g1, g2, g3, ⟨st, s1, s2, s3⟩, g5⟩ := hR
  refine ⟨MS_fr h g1, fun n hn => ?_, fun n hn => ?_, ⟨st, ?_, fun n hn => ?_, s3⟩, g5⟩
  · rw [h.1 _ (by omega) (by omega)]; exact g2 n hn
  · have := g3 n hn
    unfold MC at this ⊢
    rw [h.1 380 (by omega) (by omega), h.1 381 (by omega) (by omega), h.1 382 (by omega) (by omega), h.1 383 (by omega) (by omega), h.1 384 (by omega) (by omega), h.1 385 (by omega) (by omega), h.1 386 (by omega) (by omega)]
    exact this
  · rw [h.2 _ (by omega) (by omega) (by omega)]; exact s1
  · rw [h.1 387 (by omega) (by omega)]; exact s2 n hn
theorem MU_frR {τ τ' : Nat → Nat → Int32} {u : List Nat} {rf : Nat → Bool} (h : FrR τ τ') (hu : MU τ u rf) : MU τ' u rf := MU_fr (h.2 _ (by omega) (by omega) (by omega)) (h.1 _ (by omega) (by omega)) (h.1 _ (by omega) (by omega)) hu
theorem MX_q {τ τ' : Nat → Nat → Int32} {T : Nat → List Nat} (h2 : τ' 372 = τ 372) (h3 : τ' 373 = τ 373) (h : MX τ T) : MX τ' T := fun f hf => by rw [h2, h3]; exact h f hf
theorem MX_u {τ : Nat → Nat → Int32} {T : Nat → List Nat} {q k : Nat} {x : Int32} (hq : q ≠ 372 ∧ q ≠ 373) (h : MX τ T) : MX (u2 τ q k x) T := MX_q (u2_ne (by omega)) (u2_ne (by omega)) h
theorem MX_frR {τ τ' : Nat → Nat → Int32} {T : Nat → List Nat} (h : FrR τ τ') (hX : MX τ T) : MX τ' T := MX_q (h.1 _ (by omega) (by omega)) (h.1 _ (by omega) (by omega)) hX
theorem MRl_fr {τ τ' : Nat → Nat → Int32} : ∀ (s : List SM), (∀ j, j < s.length → τ' 390 j = τ 390 j ∧ τ' 391 j = τ 391 j ∧ τ' 392 j = τ 392 j) → MRl τ s → MRl τ' s := by
  intro s
  induction s with
  | nil => intro _ _; trivial
  | cons e s ih =>
    intro h hs
    obtain ⟨h1, h2, h3, h4⟩ := hs
    obtain ⟨k1, k2, k3⟩ := h s.length (by simp)
    exact ⟨k1.trans h1, k2.trans h2, fun a b => k3.trans (h3 a b), ih (fun j hj => h j (by simp; omega)) h4⟩
theorem RdL_fr {τ τ' : Nat → Nat → Int32} {rd : List Nat} (h1 : τ' 370 34 = τ 370 34) (h2 : τ' 393 = τ 393) (h : RdL τ rd) : RdL τ' rd := ⟨h1.trans h.1, fun i hi => by rw [h2]; exact h.2 i hi⟩
section MWs
variable {τ : Nat → Nat → Int32} {s : List SM} {c : Nat} {v l : Int32} {rd : List Nat}
theorem MW_a (h : MW τ ((c, 0, l) :: s) v rd) : MW (u2 (u2 τ 391 s.length 1) 392 s.length v) ((c, 1, v) :: s) v rd := by
  obtain ⟨h1, ⟨h2, h3, h4, h5⟩, h6, h7⟩ := h
  refine ⟨?_, ⟨?_, ?_, fun _ _ => u2_at, MRl_fr s (fun j hj => ⟨?_, ?_, ?_⟩) h5⟩, ?_, RdL_fr ?_ ?_ h7⟩
  · rw [u2_off (by omega), u2_off (by omega)]; exact h1
  · rw [u2_off (by omega), u2_off (by omega)]; exact h2
  · rw [u2_off (by omega)]; exact u2_at
  · rw [u2_off (by omega), u2_off (by omega)]
  · rw [u2_off (by omega), u2_off (by omega)]
  · rw [u2_off (by omega), u2_off (by omega)]
  · rw [u2_off (by omega), u2_off (by omega)]; exact h6
  · rw [u2_off (by omega), u2_off (by omega)]
  · rw [u2_ne (by omega), u2_ne (by omega)]
theorem MW_k {k : Nat} {x : Int32} (hx : x = nI k) (h : MW τ ((63, 0, l) :: s) v rd) : MW (u2 τ 391 s.length x) ((63, k, l) :: s) v rd := by
  obtain ⟨h1, ⟨h2, h3, h4, h5⟩, h6, h7⟩ := h
  refine ⟨?_, ⟨?_, ?_, fun _ e => absurd rfl e, MRl_fr s (fun j hj => ⟨?_, ?_, ?_⟩) h5⟩, ?_, RdL_fr ?_ ?_ h7⟩
  · rw [u2_off (by omega)]; exact h1
  · rw [u2_off (by omega)]; exact h2
  · rw [u2_at]; exact hx
  · rw [u2_off (by omega)]
  · rw [u2_off (by omega)]
  · rw [u2_off (by omega)]
  · rw [u2_off (by omega)]; exact h6
  · rw [u2_off (by omega)]
  · rw [u2_ne (by omega)]
theorem MW_p {e : SM} (h : MW τ (e :: s) v rd) : MW (u2 τ 370 30 (nI s.length)) s v rd := by
  obtain ⟨h1, ⟨h2, h3, h4, h5⟩, h6, h7⟩ := h
  refine ⟨u2_at, MRl_fr s (fun j hj => ⟨?_, ?_, ?_⟩) h5, ?_, RdL_fr ?_ ?_ h7⟩
  · rw [u2_off (by omega)]
  · rw [u2_off (by omega)]
  · rw [u2_off (by omega)]
  · rw [u2_off (by omega)]; exact h6
  · rw [u2_off (by omega)]
  · rw [u2_ne (by omega)]
theorem MW_v {sm : List SM} {x : Int32} (h : MW τ sm v rd) : MW (u2 τ 370 36 x) sm x rd := by
  obtain ⟨h1, h5, h6, h7⟩ := h
  refine ⟨?_, MRl_fr sm (fun j hj => ⟨?_, ?_, ?_⟩) h5, u2_at, RdL_fr ?_ ?_ h7⟩
  · rw [u2_off (by omega)]; exact h1
  · rw [u2_off (by omega)]
  · rw [u2_off (by omega)]
  · rw [u2_off (by omega)]
  · rw [u2_off (by omega)]
  · rw [u2_ne (by omega)]
theorem MW_push {sm : List SM} (h : MW τ sm v rd) : MW (u2 (u2 (u2 τ 390 sm.length (nI c)) 391 sm.length 0) 370 30 (nI (sm.length + 1))) ((c, 0, l) :: sm) v rd := by
  obtain ⟨h1, h5, h6, h7⟩ := h
  refine ⟨u2_at, ⟨?_, ?_, fun e => (by cases e), MRl_fr sm (fun j hj => ⟨?_, ?_, ?_⟩) h5⟩, ?_, RdL_fr ?_ ?_ h7⟩
  · rw [u2_off (by omega), u2_off (by omega)]; exact u2_at
  · rw [u2_off (by omega)]; exact u2_at
  · rw [u2_off (by omega), u2_off (by omega), u2_off (by omega)]
  · rw [u2_off (by omega), u2_off (by omega), u2_off (by omega)]
  · rw [u2_off (by omega), u2_off (by omega), u2_off (by omega)]
  · rw [u2_off (by omega), u2_off (by omega), u2_off (by omega)]; exact h6
  · rw [u2_off (by omega), u2_off (by omega), u2_off (by omega)]
  · rw [u2_ne (by omega), u2_ne (by omega), u2_ne (by omega)]
/-- isGood leaves a working out alone -/
theorem MW_fI {sm : List SM} {τ' : Nat → Nat → Int32} (hF : FrI τ τ') (h : MW τ sm v rd) : MW τ' sm v rd := by
  obtain ⟨h1, h5, h6, h7⟩ := h
  refine ⟨?_, MRl_fr sm (fun j hj => ⟨?_, ?_, ?_⟩) h5, ?_, RdL_fr ?_ ?_ h7⟩
  · rw [hF.2 30 (by omega)]; exact h1
  · rw [hF.1 _ (by omega)]
  · rw [hF.1 _ (by omega)]
  · rw [hF.1 _ (by omega)]
  · rw [hF.2 36 (by omega)]; exact h6
  · rw [hF.2 34 (by omega)]
  · rw [hF.1 _ (by omega)]
/-- a read is noted -/
theorem MW_n {sm : List SM} {r : Nat} (h : MW τ sm v rd) : MW (if r ∈ rd then τ else u2 (u2 τ 393 rd.length (nI r)) 370 34 (nI (rd.length + 1))) sm v (nte rd r) ∧ FrR τ (if r ∈ rd then τ else u2 (u2 τ 393 rd.length (nI r)) 370 34 (nI (rd.length + 1))) := by
  unfold nte
  split
  · exact ⟨h, FrR.rfl⟩
  · obtain ⟨h1, h5, h6, h7, h8⟩ := h
    refine ⟨⟨?_, MRl_fr sm (fun j hj => ⟨?_, ?_, ?_⟩) h5, ?_, ?_, fun i hi => ?_⟩, (FrR.u (by omega)).trans (FrR.u (by omega))⟩
    · rw [u2_off (by omega), u2_off (by omega)]; exact h1
    · rw [u2_off (by omega), u2_off (by omega)]
    · rw [u2_off (by omega), u2_off (by omega)]
    · rw [u2_off (by omega), u2_off (by omega)]
    · rw [u2_off (by omega), u2_off (by omega)]; exact h6
    · rw [u2_at]; simp
    · rw [u2_off (by omega)]
      by_cases e : i = rd.length
      · subst e; rw [u2_at]; simp [List.getD_eq_getElem?_getD]
      · have hi' : i < rd.length := by simp at hi; omega
        rw [u2_off (by omega), h8 i hi']
        simp only [List.getD_eq_getElem?_getD]
        rw [List.getElem?_append_left hi']
end MWs
theorem Rst_bhd {t : List Nat} : ∀ (l : List Nat) (due p D : Nat), t.drop p = l → Rst D l → due ≤ D → Rst (D - due) (t.drop (bhd l due p)) := by
  intro l
  induction l with
  | nil =>
    intro due p D hp h hd
    have hD : D = 0 := h
    show Rst (D - due) (t.drop p)
    rw [hp]
    show D - due = 0
    omega
  | cons c l ih =>
    intro due p D hp h hd
    simp only [bhd]
    split
    · rename_i e
      subst e
      rw [hp]; exact h
    · obtain ⟨h1, h2, h3⟩ := h
      have hp1 : t.drop (p + 1) = l := by rw [← List.drop_drop, hp]; rfl
      have := ih (due + ow c - 1) (p + 1) (D + ow c - 1) hp1 h3 (by omega)
      rw [show D - due = D + ow c - 1 - (due + ow c - 1) by omega]
      exact this
theorem Rst_0 {l : List Nat} (h : Rst 0 l) : l = [] := by
  cases l with
  | nil => rfl
  | cons c l => exact absurd rfl h.1
