/-! Workings: how they go on. -/
abbrev WS : Type := Option Nat × Int32 × Nat × List SE
/-- the next character -/
def stp (t : List Nat) (key : Nat) (w : WS) : WS := if ow (t.getD w.2.2.1 0) = 0 then hnd t w.2.2.2 (w.2.2.1 + 1) (if t.getD w.2.2.1 0 = 107 then nI key else nI (t.getD w.2.2.1 0) - nI 48) else (none, w.2.1, w.2.2.1 + 1, (t.getD w.2.2.1 0, none) :: w.2.2.2)
def wgo (t : List Nat) (key : Nat) : Nat → WS → WS
  | 0, w => w
  | n + 1, w => if w.1 = none ∧ w.2.2.1 < t.length then wgo t key n (stp t key w) else w
def RdOk (r : Nat) : Prop := r < 48 ∨ (100 ≤ r ∧ r < 196)
def WI (t : List Nat) (i : Nat) (w : WS) : Prop := w.2.2.2.length + i + (match w.1 with
  | none => 0
  | some _ => 1) ≤ w.2.2.1 ∧ w.2.2.1 ≤ t.length ∧ VS w.2.2.2 ∧ ∀ r, w.1 = some r → RdOk r
theorem ow1 {c : Nat} (h : ow c = 1) : (103 ≤ c ∧ c ≤ 105) ∨ (65 ≤ c ∧ c ≤ 70) := by
  unfold ow at h
  (repeat' split at h) <;> omega
theorem rdb_ok {c : Nat} (h : ow c = 1) (v : Int32) : RdOk (rdb c (kOf v)) := by
  have h1 := ow1 h
  have h2 := (kOf_lt v).1
  unfold rdb RdOk
  split <;> omega
theorem tkf_inv {t : List Nat} {i c a : Nat} {s : List SE} {v : Int32} (h1 : s.length + 1 + i ≤ a) (h2 : a ≤ t.length) (h3 : VS s) (hc : ow c ≠ 9 ∧ ow c ≠ 0) : WI t i (tkf t c s a v) := by
  have hb := bhd_le (t.drop a) 1 a
  rw [List.length_drop] at hb
  unfold tkf
  split
  · rename_i h
    exact ⟨by dsimp only; omega, h2, h3, fun r hr => by cases hr; exact rdb_ok h v⟩
  · split
    · refine ⟨by simp; omega, h2, ?_, fun r hr => by cases hr⟩
      intro e he
      rcases List.mem_cons.mp he with rfl | he
      · exact Or.inr hc
      · exact h3 e he
    · split
      · refine ⟨by simp; omega, h2, ?_, fun r hr => by cases hr⟩
        intro e he
        rcases List.mem_cons.mp he with rfl | he
        · exact Or.inl rfl
        · exact h3 e he
      · exact ⟨by dsimp only; omega, by dsimp only; omega, h3, fun r hr => by cases hr⟩
theorem hnd_inv {t : List Nat} {i : Nat} : ∀ (s : List SE) (a : Nat) (v : Int32), s.length + i ≤ a → a ≤ t.length → VS s → WI t i (hnd t s a v) := by
  intro s
  induction s with
  | nil => intro a v h1 h2 h3; exact ⟨by simpa [hnd] using h1, h2, h3, fun r hr => by cases hr⟩
  | cons e s ih =>
    obtain ⟨c, o⟩ := e
    intro a v h1 h2 h3
    have h3' : VS s := fun e he => h3 e (List.mem_cons_of_mem _ he)
    have hb := bhd_le (t.drop a) 1 a
    rw [List.length_drop] at hb
    simp only [List.length_cons] at h1
    simp only [hnd]
    split
    · exact ih _ _ (by omega) (by omega) h3'
    · rename_i h58
      cases o with
      | some l => exact ih _ _ (by omega) h2 h3'
      | none =>
        refine tkf_inv h1 h2 h3' ?_
        rcases h3 (c, none) (by simp) with h | h
        · exact absurd h h58
        · exact h
theorem stp_inv {t : List Nat} {key i : Nat} {w : WS} (hv9 : ∀ c ∈ t, ow c ≠ 9) (h0 : w.1 = none) (hl : w.2.2.1 < t.length) (h : WI t i w) : WI t i (stp t key w) := by
  obtain ⟨wd, v, a, s⟩ := w
  dsimp only at h0 hl
  subst h0
  obtain ⟨h1, h2, h3, -⟩ := h
  dsimp only at h1 h2 h3
  have hg : t.getD a 0 = t[a] := by simp [List.getD_eq_getElem?_getD, hl]
  unfold stp
  dsimp only
  split
  · exact hnd_inv s (a + 1) _ (by omega) (by omega) h3
  · rename_i h
    refine ⟨by simp; omega, hl, ?_, fun r hr => by cases hr⟩
    intro e he
    rcases List.mem_cons.mp he with rfl | he
    · exact Or.inr ⟨by dsimp only; rw [hg]; exact hv9 _ (List.getElem_mem hl), h⟩
    · exact h3 e he
theorem wgo_inv {t : List Nat} {key i : Nat} (hv9 : ∀ c ∈ t, ow c ≠ 9) : ∀ (n : Nat) (w : WS), WI t i w → WI t i (wgo t key n w) := by
  intro n
  induction n with
  | zero => intro w h; exact h
  | succ n ih =>
    intro w h
    simp only [wgo]
    split
    · rename_i hc
      exact ih _ (stp_inv hv9 hc.1 hc.2 h)
    · exact h
theorem nI_m1 {r : Nat} (h : r < 2 ^ 31) : nI r ≠ -1 := fun e => by
  have h1 := nI_pos h
  rw [e] at h1
  exact h1 (by decide)
theorem RdOk.lt {r : Nat} (h : RdOk r) : r < 256 := by unfold RdOk at h; omega
section WG
variable {d : Nat} {M : pm_M} {σ : Nat → Nat → Int32} {p : Nat}
def WKs (σ : Nat → Nat → Int32) (p tp : Nat) (rd : List Nat) (key : Nat) (w : WS) : Prop := WK σ p tp w.1 w.2.1 rd key w.2.2.1 w.2.2.2
theorem c95l (hp : isWo p) {tp : Nat} (htp : isTx tp) (hlt : tp + 1 < p) {t : List Nat} (hv9 : ∀ c ∈ t, ow c ≠ 9) {rd : List Nat} {key j : Nat} : ∀ (n i : Nat) (w : WS) (σ : Nat → Nat → Int32) (o2 : Option Value), i + n = 24 → Txt σ tp t → WKs σ p tp rd key w → WI t j w → Ev (d + 4) 95 2 [some (.ref p), some (.int (nI i)), o2] [] (sC M σ) (fun q9 M' => ∃ v9, q9 = .inl v9 ∧ v9 = none ∧ ∃ σ', M' = sC M σ' ∧ FrW p σ σ' ∧ WKs σ' p tp rd key (wgo t key n w)) := by
  have hpw : p < 370 := by obtain ⟨w, hw, rfl⟩ := hp; omega
  have htl : tp < 370 := by omega
  intro n
  induction n with
  | zero =>
    intro i w σ o2 hi hT hK hI
    obtain rfl : i = 24 := by omega
    refine ev_iload_n t_95_2 rfl ?_
    refine ev_bipush t_95_3 ?_
    change Ev _ _ _ _ ([.int (nI (24)), .int (nI (24))]) _ _
    refine ev_icmp_geN t_95_5 (by omega) (by omega) (fun h_5 => ?_) (fun h_5 => ?_)
    · exact ev_retv t_95_95 rfl ⟨none, rfl, rfl, _, rfl, (fun _ _ => rfl), hK⟩
    · omega
  | succ n ih =>
    intro i w σ o2 hi hT hK hI
    obtain ⟨wd, v, a, s⟩ := w
    have hI1 := hI.1
    have hI2 := hI.2.1
    dsimp only at hI1 hI2
    have h24 := hT.2.1
    have h0 := hK.2.1
    have h4 := hK.1
    have h5 := hK.2.2.2.2.1
    have h6 := hK.2.2.2.2.2.1
    have h10 := hK.2.2.2.2.2.2.1
    dsimp only at h0 h4 h5 h6 h10
    have hTl := hT.1
    cases wd with
    | some r =>
      have hr := (hI.2.2.2 r rfl).lt
      refine ev_iload_n t_95_2 rfl ?_
      refine ev_bipush t_95_3 ?_
      change Ev _ _ _ _ ([.int (nI (24)), .int (nI (i))]) _ _
      refine ev_icmp_geN t_95_5 (by omega) (by omega) (fun h_5 => ?_) (fun h_5 => ?_)
      · omega
      · refine ev_aload_n t_95_8 rfl ?_
        refine es_get (x := .int (σ (p) 0)) (o_Wop hp) t_95_9 rfl ?_
        refine ev_top (y := (nI r)) (by exact h0) ?_
        refine ev_iconst t_95_12 ?_
        change Ev _ _ _ _ ([.int (-1), .int (nI r)]) _ _
        refine ev_icmp_ne t_95_13 (fun h_13 => ?_) (fun h_13 => ?_)
        · exact ev_retv t_95_95 rfl ⟨none, rfl, rfl, _, rfl, (fun _ _ => rfl), by simp only [wgo]; rw [if_neg (fun h => by cases h.1)]; exact hK⟩
        · exact absurd (fun e => nI_m1 (by omega) e) h_13
    | none =>
      by_cases hal : a < t.length
      · have hsl : s.length < 24 := by omega
        obtain ⟨g1, g2⟩ := hT.at hal
        have hg : t.getD a 0 = t[a] := by simp [List.getD_eq_getElem?_getD, hal]
        have hg9 : ow (t.getD a 0) ≠ 9 := by rw [hg]; exact hv9 _ (List.getElem_mem hal)
        have hg3 := ow_le hg9
        have hI' := stp_inv (key := key) hv9 rfl hal hI
        have hF1 : FrW p σ (u2 σ p 6 (nI (a + 1))) := fun q hq => u2_ne (by omega)
        have hK1 := WK_a (a' := a + 1) hK
        have hgo : wgo t key (n + 1) (none, v, a, s) = wgo t key n (stp t key (none, v, a, s)) := by rw [wgo]; exact if_pos ⟨rfl, hal⟩
        rw [hgo]
        have key9 : ∀ (σ2 : Nat → Nat → Int32) (o9 : Option Value), FrW p σ σ2 → WKs σ2 p tp rd key (stp t key (none, v, a, s)) → Ev (d + 4) 95 2 [some (.ref p), some (.int (nI (i + 1))), o9] [] (sC M σ2) (fun q9 M' => ∃ v9, q9 = .inl v9 ∧ v9 = none ∧ ∃ σ', M' = sC M σ' ∧ FrW p σ σ' ∧ WKs σ' p tp rd key (wgo t key n (stp t key (none, v, a, s)))) := by
          intro σ2 o9 hF hK9
          refine ev_mono (ih (i + 1) _ σ2 o9 (by omega) (hF.txt hlt hT) hK9 hI') ?_
          rintro r M' ⟨v9, e1, e2, σ', e3, h1, h2⟩
          exact ⟨v9, e1, e2, σ', e3, hF.trans h1, h2⟩
        refine ev_iload_n t_95_2 rfl ?_
        refine ev_bipush t_95_3 ?_
        change Ev _ _ _ _ ([.int (nI (24)), .int (nI (i))]) _ _
        refine ev_icmp_geN t_95_5 (by omega) (by omega) (fun h_5 => ?_) (fun h_5 => ?_)
        · omega
        · refine ev_aload_n t_95_8 rfl ?_
          refine es_get (x := .int (σ (p) 0)) (o_Wop hp) t_95_9 rfl ?_
          refine ev_top (y := (-1)) (by exact h0) ?_
          refine ev_iconst t_95_12 ?_
          change Ev _ _ _ _ ([.int (-1), .int (-1)]) _ _
          refine ev_icmp_ne t_95_13 (fun h_13 => ?_) (fun h_13 => ?_)
          · exact absurd rfl h_13
          · refine ev_aload_n t_95_16 rfl ?_
            refine es_get (x := .int (σ (p) 6)) (o_Wop hp) t_95_17 rfl ?_
            refine ev_top (y := (nI (a))) (by simp [u2, upd, h6]) ?_
            refine ev_aload_n t_95_20 rfl ?_
            refine es_get (x := .ref tp) (o_Wop hp) t_95_21 (wo_tx (by simp [u2, upd, h4]) htl) ?_
            refine es_get (x := .int (σ (tp) 1)) (o_Tx htp) t_95_24 rfl ?_
            refine ev_top (y := (nI (t.length))) (by first | exact hTl | (rw [u2_ne (by omega)]; exact hTl)) ?_
            refine ev_icmp_geN t_95_27 (by omega) (by omega) (fun h_27 => ?_) (fun h_27 => ?_)
            · omega
            · refine ev_aload_n t_95_30 rfl ?_
              refine es_get (x := .ref tp) (o_Wop hp) t_95_31 (wo_tx (by simp [u2, upd, h4]) htl) ?_
              refine es_get (x := .ref (tp + 1)) (o_Tx htp) t_95_34 rfl ?_
              refine ev_aload_n t_95_37 rfl ?_
              refine es_get (x := .int (σ (p) 6)) (o_Wop hp) t_95_38 rfl ?_
              refine ev_top (y := (nI (a))) (by simp [u2, upd, h6]) ?_
              refine es_cald (k := a) (a_ch htp) t_95_41 (by omega) ?_
              refine ev_top g1 ?_
              refine ev_istore_n (L' := [some (.ref p), some (.int (nI (i))), some (.int (nI (t.getD a 0)))]) t_95_42 (Nat.le_of_ble_eq_true rfl) rfl ?_
              refine ev_aload_n t_95_43 rfl ?_
              refine ev_dup t_95_44 rfl ?_
              refine es_get (x := .int (σ (p) 6)) (o_Wop hp) t_95_45 rfl ?_
              refine ev_top (y := (nI (a))) (by simp [u2, upd, h6]) ?_
              refine ev_iconst t_95_48 ?_
              change Ev _ _ _ _ ([.int (nI (1)), .int (nI (a)), .ref p]) _ _
              refine ev_iaddN t_95_49 ?_
              refine es_put (o_Wop hp) t_95_50 rfl (Nat.le_of_ble_eq_true rfl) rfl ?_
              refine ev_iload_n t_95_53 rfl ?_
              refine ev_cl (pm_st_S t_95_54 (Nat.le_of_ble_eq_true rfl) (as := [.int (nI (t.getD a 0))]) (rest := []) (L0 := [some (.int (nI (t.getD a 0)))]) rfl rfl (Nat.le_of_ble_eq_true rfl) (Nat.le_of_ble_eq_true rfl) rfl) rfl (c88 (by omega)) ?_
              rintro _ _ ⟨rfl, rfl⟩
              change Ev _ _ _ _ ([.int (owI (t.getD a 0))]) _ _
              refine ev_top (owI_k rfl hg9) ?_
              refine ev_if_leN t_95_57 (by omega) (fun h_57 => ?_) (fun h_57 => ?_)
              · refine ev_aload_n t_95_68 rfl ?_
                refine ev_iload_n t_95_69 rfl ?_
                refine ev_bipush t_95_70 ?_
                change Ev _ _ _ _ ([.int (nI (107)), .int (nI (t.getD a 0)), .ref p]) _ _
                refine ev_icmp_neN t_95_72 (by omega) (by omega) (fun h_72 => ?_) (fun h_72 => ?_)
                · refine ev_iload_n t_95_82 rfl ?_
                  refine ev_bipush t_95_83 ?_
                  change Ev _ _ _ _ ([.int (nI (48)), .int (nI (t.getD a 0)), .ref p]) _ _
                  refine ev_isub t_95_85 ?_
                  refine ev_cl (pm_st_V t_95_86 (as := [.ref p, .int ((nI (t.getD a 0)) - (nI (48)))]) (rest := []) (L0 := [some (.ref p), some (.int ((nI (t.getD a 0)) - (nI (48)))), none, none]) rfl rfl (Nat.le_of_ble_eq_true rfl) (Nat.le_of_ble_eq_true rfl) rfl (es_rc (o_Wop hp) rfl (Nat.le_of_ble_eq_true rfl))) rfl (c99 (s := s) (a := a + 1) (v := ((nI (t.getD a 0)) - (nI (48)))) hp htp hlt hv9 (hF1.txt hlt hT) hK1 (by omega) (by omega) hI.2.2.1) ?_
                  rintro _ _ ⟨rfl, σ2, rfl, hF2, hK2⟩
                  change Ev _ _ _ _ ([]) _ _
                  refine ev_iincN (L' := [some (.ref p), some (.int (nI (i + 1))), some (.int (nI (t.getD a 0)))]) t_95_89 rfl (Nat.le_of_ble_eq_true rfl) rfl ?_
                  refine ev_goto t_95_92 ?_
                  refine key9 _ _ (hF1.trans hF2) ?_
                  unfold stp
                  dsimp only
                  rw [if_pos h_57]
                  rw [if_neg (by omega)]
                  exact hK2
                · refine ev_aload_n t_95_75 rfl ?_
                  refine es_get (x := .int ((u2 σ (p) 6 (nI ((a) + (1)))) (p) 5)) (o_Wop hp) t_95_76 rfl ?_
                  refine ev_top (y := (nI (key))) (by simp [u2, upd, h5]) ?_
                  refine ev_goto t_95_79 ?_
                  refine ev_cl (pm_st_V t_95_86 (as := [.ref p, .int (nI (key))]) (rest := []) (L0 := [some (.ref p), some (.int (nI (key))), none, none]) rfl rfl (Nat.le_of_ble_eq_true rfl) (Nat.le_of_ble_eq_true rfl) rfl (es_rc (o_Wop hp) rfl (Nat.le_of_ble_eq_true rfl))) rfl (c99 (s := s) (a := a + 1) (v := (nI (key))) hp htp hlt hv9 (hF1.txt hlt hT) hK1 (by omega) (by omega) hI.2.2.1) ?_
                  rintro _ _ ⟨rfl, σ2, rfl, hF2, hK2⟩
                  change Ev _ _ _ _ ([]) _ _
                  refine ev_iincN (L' := [some (.ref p), some (.int (nI (i + 1))), some (.int (nI (t.getD a 0)))]) t_95_89 rfl (Nat.le_of_ble_eq_true rfl) rfl ?_
                  refine ev_goto t_95_92 ?_
                  refine key9 _ _ (hF1.trans hF2) ?_
                  unfold stp
                  dsimp only
                  rw [if_pos h_57]
                  rw [if_pos (by omega)]
                  exact hK2
              · refine ev_aload_n t_95_60 rfl ?_
                refine ev_iload_n t_95_61 rfl ?_
                refine ev_cl (pm_st_V t_95_62 (as := [.ref p, .int (nI (t.getD a 0))]) (rest := []) (L0 := [some (.ref p), some (.int (nI (t.getD a 0)))]) rfl rfl (Nat.le_of_ble_eq_true rfl) (Nat.le_of_ble_eq_true rfl) rfl (es_rc (o_Wop hp) rfl (Nat.le_of_ble_eq_true rfl))) rfl (c98 hp (by simp [u2, upd, h10]) hsl (by omega)) ?_
                rintro _ _ ⟨rfl, rfl⟩
                change Ev _ _ _ _ ([]) _ _
                refine ev_goto t_95_65 ?_
                refine ev_iincN (L' := [some (.ref p), some (.int (nI (i + 1))), some (.int (nI (t.getD a 0)))]) t_95_89 rfl (Nat.le_of_ble_eq_true rfl) rfl ?_
                refine ev_goto t_95_92 ?_
                refine key9 _ _ (hF1.trans w_let_fr) ?_
                unfold stp
                dsimp only
                rw [if_neg h_57]
                exact w_let_ok (by omega) hK1
      · have hgo : wgo t key (n + 1) (none, v, a, s) = (none, v, a, s) := by simp only [wgo]; rw [if_neg (fun h => hal h.2)]
        rw [hgo]
        refine ev_iload_n t_95_2 rfl ?_
        refine ev_bipush t_95_3 ?_
        change Ev _ _ _ _ ([.int (nI (24)), .int (nI (i))]) _ _
        refine ev_icmp_geN t_95_5 (by omega) (by omega) (fun h_5 => ?_) (fun h_5 => ?_)
        · omega
        · refine ev_aload_n t_95_8 rfl ?_
          refine es_get (x := .int (σ (p) 0)) (o_Wop hp) t_95_9 rfl ?_
          refine ev_top (y := (-1)) (by exact h0) ?_
          refine ev_iconst t_95_12 ?_
          change Ev _ _ _ _ ([.int (-1), .int (-1)]) _ _
          refine ev_icmp_ne t_95_13 (fun h_13 => ?_) (fun h_13 => ?_)
          · exact absurd rfl h_13
          · refine ev_aload_n t_95_16 rfl ?_
            refine es_get (x := .int (σ (p) 6)) (o_Wop hp) t_95_17 rfl ?_
            refine ev_top (y := (nI (a))) (by simp [u2, upd, h6]) ?_
            refine ev_aload_n t_95_20 rfl ?_
            refine es_get (x := .ref tp) (o_Wop hp) t_95_21 (wo_tx (by simp [u2, upd, h4]) htl) ?_
            refine es_get (x := .int (σ (tp) 1)) (o_Tx htp) t_95_24 rfl ?_
            refine ev_top (y := (nI (t.length))) (by first | exact hTl | (rw [u2_ne (by omega)]; exact hTl)) ?_
            refine ev_icmp_geN t_95_27 (by omega) (by omega) (fun h_27 => ?_) (fun h_27 => ?_)
            · exact ev_retv t_95_95 rfl ⟨none, rfl, rfl, _, rfl, (fun _ _ => rfl), hK⟩
            · omega
theorem c95 (hp : isWo p) {tp : Nat} (htp : isTx tp) (hlt : tp + 1 < p) {t : List Nat} (hv9 : ∀ c ∈ t, ow c ≠ 9) {rd : List Nat} {key j : Nat} {w : WS} (hT : Txt σ tp t) (hK : WKs σ p tp rd key w) (hI : WI t j w) : Ev (d + 4) 95 0 [some (.ref p), none, none] [] (sC M σ) (fun q9 M' => ∃ v9, q9 = .inl v9 ∧ v9 = none ∧ ∃ σ', M' = sC M σ' ∧ FrW p σ σ' ∧ WKs σ' p tp rd key (wgo t key 24 w)) := by
  refine ev_iconst t_95_0 ?_
  change Ev _ _ _ _ ([.int (nI (0))]) _ _
  refine ev_istore_n (L' := [some (.ref p), some (.int (nI (0))), none]) t_95_1 (Nat.le_of_ble_eq_true rfl) rfl ?_
  exact c95l hp htp hlt hv9 24 0 w σ none rfl hT hK hI
theorem WK_r {tp : Nat} {w : Option Nat} {v : Int32} {rd : List Nat} {key a r : Nat} {s : List SE} (h : WK σ p tp w v rd key a s) : WK (if r ∈ rd then σ else u2 (u2 σ (p + 1) rd.length (nI r)) p 3 (nI (rd.length + 1))) p tp w v (nte rd r) key a s := by
  unfold nte
  by_cases hm : r ∈ rd
  · rw [if_pos hm, if_pos hm]; exact h
  · rw [if_neg hm, if_neg hm]
    obtain ⟨h1, h2, h3, h4, h5, h6, h7, h8⟩ := h
    refine ⟨?_, ?_, ?_, ⟨?_, fun i hi => ?_⟩, ?_, ?_, ?_, SR_fr s (fun j hj => ?_) h8⟩
    · simp [u2, upd, h1]
    · simp [u2, upd, h2]
    · simp [u2, upd, h3]
    · simp [u2, upd]
    · by_cases e : i = rd.length
      · subst e; simp [u2, upd, List.getD_eq_getElem?_getD]
      · have hi' : i < rd.length := by simp at hi; omega
        have := h4.2 i hi'
        simp only [List.getD_eq_getElem?_getD] at this ⊢
        rw [List.getElem?_append_left hi', ← this]
        simp [u2, upd, e]
    · simp [u2, upd, h5]
    · simp [u2, upd, h6]
    · simp [u2, upd, h7]
    · simp [u2]
/-- a worth is taken -/
def wtk (t : List Nat) (w : WS) (x : Int32) : WS := hnd t w.2.2.2 w.2.2.1 x
theorem c96 (hp : isWo p) {tp : Nat} (htp : isTx tp) (hlt : tp + 1 < p) {t : List Nat} (hv9 : ∀ c ∈ t, ow c ≠ 9) {rd : List Nat} {key j r : Nat} {w : WS} {x : Int32} (hT : Txt σ tp t) (hK : WKs σ p tp rd key w) (hI : WI t j w) (hw : w.1 = some r) (hb : ∀ x ∈ rd, x < 256) (h24 : rd.length < 24) : Ev (d + 4) 96 0 [some (.ref p), some (.int x)] [] (sC M σ) (fun q9 M' => ∃ v9, q9 = .inl v9 ∧ v9 = none ∧ ∃ σ', M' = sC M σ' ∧ FrW p σ σ' ∧ WKs σ' p tp (nte rd r) key (wtk t w x)) := by
  have hr := (hI.2.2.2 r hw).lt
  obtain ⟨wd, v, a, s⟩ := w
  dsimp only at hw
  subst hw
  have h0 := hK.2.1
  have hI1 := hI.1
  have hI2 := hI.2.1
  have hl24 := hT.2.1
  dsimp only at h0 hI1 hI2
  have h3 := hK.2.2.2.1
  have hK1 := WK_w (w' := none) (WK_r (r := r) hK)
  have hF0 : FrW p σ (if r ∈ rd then σ else u2 (u2 σ (p + 1) rd.length (nI r)) p 3 (nI (rd.length + 1))) := fun q hq => by
    split
    · rfl
    · rw [u2_ne (by omega), u2_ne (by omega)]
  have hF1 : FrW p σ (u2 (if r ∈ rd then σ else u2 (u2 σ (p + 1) rd.length (nI r)) p 3 (nI (rd.length + 1))) p 0 (-1)) := fun q hq => (u2_ne (by omega)).trans (hF0 q hq)
  refine ev_aload_n t_96_0 rfl ?_
  refine ev_aload_n t_96_1 rfl ?_
  refine es_get (x := .int (σ (p) 0)) (o_Wop hp) t_96_2 rfl ?_
  refine ev_top (y := (nI (r))) (by exact h0) ?_
  refine ev_cl (pm_st_V t_96_5 (as := [.ref p, .int (nI (r))]) (rest := []) (L0 := [some (.ref p), some (.int (nI (r))), none]) rfl rfl (Nat.le_of_ble_eq_true rfl) (Nat.le_of_ble_eq_true rfl) rfl (es_rc (o_Wop hp) rfl (Nat.le_of_ble_eq_true rfl))) rfl (c97 hp hr hb h24 h3.1 h3.2) ?_
  rintro _ _ ⟨rfl, rfl⟩
  change Ev _ _ _ _ ([]) _ _
  refine ev_aload_n t_96_8 rfl ?_
  refine ev_iconst t_96_9 ?_
  change Ev _ _ _ _ ([.int (-1), .ref p]) _ _
  refine es_put (o_Wop hp) t_96_10 rfl (Nat.le_of_ble_eq_true rfl) rfl ?_
  refine ev_aload_n t_96_13 rfl ?_
  refine ev_iload_n t_96_14 rfl ?_
  refine ev_cl (pm_st_V t_96_15 (as := [.ref p, .int x]) (rest := []) (L0 := [some (.ref p), some (.int x), none, none]) rfl rfl (Nat.le_of_ble_eq_true rfl) (Nat.le_of_ble_eq_true rfl) rfl (es_rc (o_Wop hp) rfl (Nat.le_of_ble_eq_true rfl))) rfl (c99 (s := s) (a := a) (v := x) hp htp hlt hv9 (hF1.txt hlt hT) hK1 (by omega) (by omega) hI.2.2.1) ?_
  rintro _ _ ⟨rfl, σ2, rfl, hF2, hK2⟩
  change Ev _ _ _ _ ([]) _ _
  exact ev_retv t_96_18 rfl ⟨none, rfl, rfl, _, rfl, hF1.trans hF2, hK2⟩
/-- a working begins -/
theorem c94 (hp : isWo p) {tp : Nat} (htl : tp < 370) {key : Nat} : Ev d 94 0 [some (.ref p), some (.ref tp), some (.int (nI key))] [] (sC M σ) (fun q9 M' => ∃ v9, q9 = .inl v9 ∧ v9 = none ∧ ∃ σ', M' = sC M σ' ∧ FrW p σ σ' ∧ WKs σ' p tp [] key (none, σ p 1, 0, [])) := by
  refine ev_aload_n t_94_0 rfl ?_
  refine ev_iconst t_94_1 ?_
  change Ev _ _ _ _ ([.int (-1), .ref p]) _ _
  refine es_put (o_Wop hp) t_94_2 rfl (Nat.le_of_ble_eq_true rfl) rfl ?_
  refine ev_aload_n t_94_5 rfl ?_
  refine ev_iconst t_94_6 ?_
  change Ev _ _ _ _ ([.int (nI (0)), .ref p]) _ _
  refine es_put (o_Wop hp) t_94_7 rfl (Nat.le_of_ble_eq_true rfl) rfl ?_
  refine ev_aload_n t_94_10 rfl ?_
  refine ev_aload_n t_94_11 rfl ?_
  refine es_putV (y := nI (tp)) (o_Wop hp) t_94_12 (Nat.le_of_ble_eq_true rfl) rfl rfl (wo_set htl) ?_
  refine ev_aload_n t_94_15 rfl ?_
  refine ev_iload_n t_94_16 rfl ?_
  refine es_put (o_Wop hp) t_94_17 rfl (Nat.le_of_ble_eq_true rfl) rfl ?_
  refine ev_aload_n t_94_20 rfl ?_
  refine ev_iconst t_94_21 ?_
  change Ev _ _ _ _ ([.int (nI (0)), .ref p]) _ _
  refine es_put (o_Wop hp) t_94_22 rfl (Nat.le_of_ble_eq_true rfl) rfl ?_
  refine ev_aload_n t_94_25 rfl ?_
  refine ev_iconst t_94_26 ?_
  change Ev _ _ _ _ ([.int (nI (0)), .ref p]) _ _
  refine es_put (o_Wop hp) t_94_27 rfl (Nat.le_of_ble_eq_true rfl) rfl ?_
  exact ev_retv t_94_30 rfl ⟨none, rfl, rfl, _, rfl, (fun q hq => by first | rfl | (repeat rw [u2_ne (by omega)])), by refine ⟨?_, ?_, ?_, ⟨?_, fun i hi => absurd hi (by simp)⟩, ?_, ?_, ?_, trivial⟩ <;> simp [u2, upd, wI]⟩
end WG
