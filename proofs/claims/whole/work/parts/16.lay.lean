/-! The class's objects as they lie behind its constructor: pointers 8 .. 369. -/
def fMR (r : Nat → Int32) : List Value := [.ref 9, .ref 11, .ref 12, .ref 13, .ref 17, .ref 19, .ref 20, .int (r 7), .ref 24, .ref 25, .int (r 10), .int (r 11), .int (r 12), .int (r 13), .int (r 14)]
def fTx (p : Nat) (r : Nat → Int32) : List Value := [.ref (p + 1), .int (r 1)]
def fCe (p : Nat) (r : Nat → Int32) : List Value := [.int (r 0), .ref (p + 1), .int (r 2), .int (r 3), .int (r 4), .int (r 5), .int (r 6)]
def fIn (_ : Nat → Int32) : List Value := [.ref 14, .ref 15, .ref 16]
def fEd (r : Nat → Int32) : List Value := [.int (r 0), .ref 18]
def fRO (r : Nat → Int32) : List Value := [.int (r 0), .ref 21, .ref 22, .ref 23]
def fWo (p : Nat) (r : Nat → Int32) : List Value := [.int (r 0), .int (r 1), .ref (p + 1), .int (r 3), .ref (r 4).toNatClampNeg, .int (r 5), .int (r 6), .ref (p + 4), .ref (p + 5), .ref (p + 6), .int (r 10)]
def aI (n : Nat) (r : Nat → Int32) : pm_E := .inl (.int, n, fun j => .int (r j))
def aC (n : Nat) (r : Nat → Int32) : pm_E := .inl (.char, n, fun j => .int (r j))
def aZ (n : Nat) (r : Nat → Int32) : pm_E := .inl (.boolean, n, fun j => .int (r j))
def sh0 : Nat → (Nat → Int32) → pm_E
  | 8, r => .inr (6, fMR r)
  | 9, r => .inr (4, fTx 9 r)
  | 10, r => aC 24 r
  | 11, _ => .inl (.object "MemoRuntime$Text", 6, fun f => if f < 6 then .ref (26 + 2 * f) else .null)
  | 12, r => aI 6 r
  | 13, r => .inr (2, fIn r)
  | 14, r => aI 48 r
  | 15, r => aI 48 r
  | 16, r => aI 3 r
  | 17, r => .inr (1, fEd r)
  | 18, r => aI 3 r
  | 19, _ => .inl (.object "MemoRuntime$Cell", 96, fun n => if n < 96 then .ref (38 + 2 * n) else .null)
  | 20, r => .inr (3, fRO r)
  | 21, r => aZ 96 r
  | 22, r => aI 97 r
  | 23, r => aI 97 r
  | 24, r => aI 20 r
  | 25, _ => .inl (.object "MemoRuntime$Working", 20, fun w => if w < 20 then .ref (230 + 7 * w) else .null)
  | _, r => aI 0 r
def shW (p : Nat) (r : Nat → Int32) : Nat → pm_E
  | 0 => .inr (5, fWo p r)
  | 1 => aI 24 r
  | 2 => .inr (4, fTx p r)
  | 3 => aC 24 r
  | 4 => aC 24 r
  | 5 => aZ 24 r
  | _ => aI 24 r
def shC (p : Nat) (r : Nat → Int32) : pm_E :=
  if p < 26 then sh0 p r
  else if p < 38 then (if p % 2 = 0 then .inr (4, fTx p r) else aC 24 r)
  else if p < 230 then (if p % 2 = 0 then .inr (0, fCe p r) else aI 24 r)
  else shW p r ((p - 230) % 7)
abbrev sC (M : pm_M) (σ : Nat → Nat → Int32) : pm_M := sl 8 370 shC M σ
/-- a text's place, its characters behind it -/
def isTx (p : Nat) : Prop := p = 9 ∨ (∃ f, f < 6 ∧ p = 26 + 2 * f) ∨ ∃ w, w < 20 ∧ p = 232 + 7 * w
theorem o_MR : ob 8 370 shC 8 6 fMR := ⟨by decide, fun _ => rfl⟩
theorem o_In : ob 8 370 shC 13 2 fIn := ⟨by decide, fun _ => rfl⟩
theorem o_Ed : ob 8 370 shC 17 1 fEd := ⟨by decide, fun _ => rfl⟩
theorem o_RO : ob 8 370 shC 20 3 fRO := ⟨by decide, fun _ => rfl⟩
theorem r_TA : rr 8 370 shC 11 (.object "MemoRuntime$Text") 6 (fun f => .ref (26 + 2 * f)) := ⟨by decide, by decide, fun _ => rfl⟩
theorem r_CA : rr 8 370 shC 19 (.object "MemoRuntime$Cell") 96 (fun n => .ref (38 + 2 * n)) := ⟨by decide, by decide, fun _ => rfl⟩
theorem r_WA : rr 8 370 shC 25 (.object "MemoRuntime$Working") 20 (fun w => .ref (230 + 7 * w)) := ⟨by decide, by decide, fun _ => rfl⟩
theorem a_CV : ar 8 370 shC 12 .int 6 := ⟨by decide, by decide, fun _ => rfl⟩
theorem a_iv : ar 8 370 shC 14 .int 48 := ⟨by decide, by decide, fun _ => rfl⟩
theorem a_ic : ar 8 370 shC 15 .int 48 := ⟨by decide, by decide, fun _ => rfl⟩
theorem a_ik : ar 8 370 shC 16 .int 3 := ⟨by decide, by decide, fun _ => rfl⟩
theorem a_el : ar 8 370 shC 18 .int 3 := ⟨by decide, by decide, fun _ => rfl⟩
theorem a_he : ar 8 370 shC 21 .boolean 96 := ⟨by decide, by decide, fun _ => rfl⟩
theorem a_be : ar 8 370 shC 22 .int 97 := ⟨by decide, by decide, fun _ => rfl⟩
theorem a_af : ar 8 370 shC 23 .int 97 := ⟨by decide, by decide, fun _ => rfl⟩
theorem a_uw : ar 8 370 shC 24 .int 20 := ⟨by decide, by decide, fun _ => rfl⟩
theorem o_Ce {n : Nat} (h : n < 96) : ob 8 370 shC (38 + 2 * n) 0 (fCe (38 + 2 * n)) := ⟨⟨by omega, by omega, by omega⟩, fun r => by
  unfold shC
  rw [if_neg (by omega), if_neg (by omega), if_pos (by omega), if_pos (by omega)]⟩
theorem a_rd {n : Nat} (h : n < 96) : ar 8 370 shC (38 + 2 * n + 1) .int 24 := ⟨⟨by omega, by omega, by omega⟩, by decide, fun r => by
  unfold shC
  rw [if_neg (by omega), if_neg (by omega), if_pos (by omega), if_neg (by omega)]
  rfl⟩
theorem o_Tx {p : Nat} (h : isTx p) : ob 8 370 shC p 4 (fTx p) := by
  rcases h with rfl | ⟨f, hf, rfl⟩ | ⟨w, hw, rfl⟩
  · exact ⟨by decide, fun _ => rfl⟩
  · exact ⟨⟨by omega, by omega, by omega⟩, fun r => by
      unfold shC
      rw [if_neg (by omega), if_pos (by omega), if_pos (by omega)]⟩
  · exact ⟨⟨by omega, by omega, by omega⟩, fun r => by
      unfold shC
      rw [if_neg (by omega), if_neg (by omega), if_neg (by omega), show (232 + 7 * w - 230) % 7 = 2 by omega]
      rfl⟩
theorem a_ch {p : Nat} (h : isTx p) : ar 8 370 shC (p + 1) .char 24 := by
  rcases h with rfl | ⟨f, hf, rfl⟩ | ⟨w, hw, rfl⟩
  · exact ⟨by decide, by decide, fun _ => rfl⟩
  · exact ⟨⟨by omega, by omega, by omega⟩, by decide, fun r => by
      unfold shC
      rw [if_neg (by omega), if_pos (by omega), if_neg (by omega)]
      rfl⟩
  · exact ⟨⟨by omega, by omega, by omega⟩, by decide, fun r => by
      unfold shC
      rw [if_neg (by omega), if_neg (by omega), if_neg (by omega), show (232 + 7 * w + 1 - 230) % 7 = 3 by omega]
      rfl⟩
theorem o_Wo {w : Nat} (h : w < 20) : ob 8 370 shC (230 + 7 * w) 5 (fWo (230 + 7 * w)) := ⟨⟨by omega, by omega, by omega⟩, fun r => by
  unfold shC
  rw [if_neg (by omega), if_neg (by omega), if_neg (by omega), show (230 + 7 * w - 230) % 7 = 0 by omega]
  rfl⟩
theorem a_wr {w : Nat} (h : w < 20) : ar 8 370 shC (230 + 7 * w + 1) .int 24 := ⟨⟨by omega, by omega, by omega⟩, by decide, fun r => by
  unfold shC
  rw [if_neg (by omega), if_neg (by omega), if_neg (by omega), show (230 + 7 * w + 1 - 230) % 7 = 1 by omega]
  rfl⟩
theorem a_ww {w : Nat} (h : w < 20) : ar 8 370 shC (230 + 7 * w + 4) .char 24 := ⟨⟨by omega, by omega, by omega⟩, by decide, fun r => by
  unfold shC
  rw [if_neg (by omega), if_neg (by omega), if_neg (by omega), show (230 + 7 * w + 4 - 230) % 7 = 4 by omega]
  rfl⟩
theorem a_wh {w : Nat} (h : w < 20) : ar 8 370 shC (230 + 7 * w + 5) .boolean 24 := ⟨⟨by omega, by omega, by omega⟩, by decide, fun r => by
  unfold shC
  rw [if_neg (by omega), if_neg (by omega), if_neg (by omega), show (230 + 7 * w + 5 - 230) % 7 = 5 by omega]
  rfl⟩
theorem a_wl {w : Nat} (h : w < 20) : ar 8 370 shC (230 + 7 * w + 6) .int 24 := ⟨⟨by omega, by omega, by omega⟩, by decide, fun r => by
  unfold shC
  rw [if_neg (by omega), if_neg (by omega), if_neg (by omega), show (230 + 7 * w + 6 - 230) % 7 = 6 by omega]
  rfl⟩
