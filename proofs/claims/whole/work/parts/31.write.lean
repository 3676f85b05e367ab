/-! The characters of a long; write. -/
def byt (x : Int64) (i : Nat) : Nat := x.toUInt64.toNat / 2 ^ (8 * i) % 256
theorem byt_lt (x : Int64) (i : Nat) : byt x i < 256 := Nat.mod_lt _ (by decide)
theorem andB (y : UInt64) : y.toInt64 &&& Int64.ofNat 255 = Int64.ofNat (y.toNat % 256) := by
  apply Int64.toBitVec_inj.mp
  apply BitVec.eq_of_toNat_eq
  have h : (y.toInt64 &&& Int64.ofNat 255).toBitVec = y.toBitVec &&& 255#64 := rfl
  rw [h, BitVec.toNat_and]
  have h2 : (255#64).toNat = 2 ^ 8 - 1 := rfl
  rw [h2, Nat.and_two_pow_sub_one_eq_mod]
  have h3 : (Int64.ofNat (y.toNat % 256)).toBitVec = BitVec.ofNat 64 (y.toNat % 256) := rfl
  rw [h3, BitVec.toNat_ofNat]
  have h4 : y.toBitVec.toNat = y.toNat := rfl
  rw [h4]
  omega
theorem bytU (x : Int64) {i : Nat} (hi : i < 8) : ((x.toUInt64 >>> ((nI (8 * i)).toInt64.toUInt64 &&& Int64.toUInt64 63)).toInt64 &&& Int64.ofNat 255).toInt32 = nI (byt x i) := by
  have hs : ((nI (8 * i)).toInt64.toUInt64 &&& Int64.toUInt64 63) = UInt64.ofNat (8 * i) := by
    have : ∀ i, i < 8 → ((nI (8 * i)).toInt64.toUInt64 &&& Int64.toUInt64 63) = UInt64.ofNat (8 * i) := by decide
    exact this i hi
  rw [hs, andB]
  have h1 : (x.toUInt64 >>> UInt64.ofNat (8 * i)).toNat = x.toUInt64.toNat / 2 ^ (8 * i) := by
    rw [UInt64.toNat_shiftRight, Nat.shiftRight_eq_div_pow]
    congr 2
    have : (UInt64.ofNat (8 * i)).toNat = 8 * i := by
      have : ∀ i, i < 8 → (UInt64.ofNat (8 * i)).toNat = 8 * i := by decide
      exact this i hi
    rw [this]
    omega
  rw [h1]
  exact Int64.toInt32_ofNat
def chl (x : Int64) (i : Nat) : List Nat := ((List.range i).map (byt x)).filter (fun c => decide (¬ c = 0))
theorem chl_s (x : Int64) (i : Nat) : chl x (i + 1) = chl x i ++ (if byt x i = 0 then [] else [byt x i]) := by
  unfold chl
  rw [List.range_succ, List.map_append, List.filter_append]
  congr 1
  by_cases h : byt x i = 0 <;> simp [h]
theorem chl_le (x : Int64) {i : Nat} : ∀ j, i ≤ j → (chl x i).length ≤ (chl x j).length := by
  intro j
  induction j with
  | zero => intro h; obtain rfl : i = 0 := by omega
            exact Nat.le_refl _
  | succ j ih =>
    intro h
    by_cases e : i = j + 1
    · rw [e]; exact Nat.le_refl _
    · have := ih (by omega)
      rw [chl_s, List.length_append]
      omega
theorem chl_mem (x : Int64) (i : Nat) : ∀ c ∈ chl x i, c < 256 := by
  intro c hc
  unfold chl at hc
  obtain ⟨h, -⟩ := List.mem_filter.mp hc
  obtain ⟨k, -, rfl⟩ := List.mem_map.mp h
  exact byt_lt x k
section WR
variable {d : Nat} {M : pm_M} {σ : Nat → Nat → Int32}
theorem c21 {x : Int64} {i : Nat} (hi : i < 8) : Ev d 21 0 [some (.long x), none, some (.int (nI i))] [] (sC M σ) (fun q9 M' => ∃ v9, q9 = .inl v9 ∧ v9 = some (.int (nI (byt x i))) ∧ M' = sC M σ) := by
  refine ev_lload_n t_21_0 rfl ?_
  refine ev_bipush t_21_1 ?_
  refine ev_iload_n t_21_3 rfl ?_
  refine ev_imulN (m := 8) (n := i) t_21_4 ?_
  refine ev_lushr t_21_5 ?_
  refine ev_ldc2 t_21_6 ?_
  refine ev_land t_21_9 ?_
  refine ev_l2i t_21_10 ?_
  rw [bytU x hi]
  refine ev_i2c t_21_11 ?_
  have hb := byt_lt x i
  have e : ((nI (byt x i)).toUInt32 % 65536).toInt32 = nI (byt x i) := Value.int.inj (narC (c := byt x i) (by omega))
  rw [e]
  exact ev_reti t_21_12 (by unfold tb_rI; rw [show tb_re 21 = some .char from rfl]; exact decide_eq_true (narC (by omega))) ⟨_, rfl, rfl, rfl⟩
theorem c22l {x : Int64} : ∀ (k i : Nat), i + k = 8 → Ev (d + 1) 22 4 [some (.long x), none, some (.int (nI (chl x i).length)), some (.int (nI i))] [] (sC M σ) (fun q9 M' => ∃ v9, q9 = .inl v9 ∧ v9 = some (.int (nI (chl x 8).length)) ∧ M' = sC M σ) := by
  intro k
  induction k with
  | zero =>
    intro i hi
    obtain rfl : i = 8 := by omega
    refine ev_iload_n t_22_4 rfl ?_
    refine ev_bipush t_22_5 ?_
    change Ev _ _ _ _ ([.int (nI (8)), .int (nI (8))]) _ _
    refine ev_icmp_geN t_22_7 (by omega) (by omega) (fun h_7 => ?_) (fun h_7 => ?_)
    · refine ev_iload_n t_22_27 rfl ?_
      exact ev_reti t_22_28 (ri rfl) ⟨_, rfl, rfl, rfl⟩
    · omega
  | succ k ih =>
    intro i hi
    have hb := byt_lt x i
    have c9 := ih (i + 1) (by omega)
    rw [chl_s] at c9
    refine ev_iload_n t_22_4 rfl ?_
    refine ev_bipush t_22_5 ?_
    change Ev _ _ _ _ ([.int (nI (8)), .int (nI (i))]) _ _
    refine ev_icmp_geN t_22_7 (by omega) (by omega) (fun h_7 => ?_) (fun h_7 => ?_)
    · omega
    · refine ev_lload_n t_22_10 rfl ?_
      refine ev_iload_n t_22_11 rfl ?_
      refine ev_cl (pm_st_S t_22_12 (Nat.le_of_ble_eq_true rfl) (as := [.long x, .int (nI (i))]) (rest := []) (L0 := [some (.long x), none, some (.int (nI (i)))]) rfl rfl (Nat.le_of_ble_eq_true rfl) (Nat.le_of_ble_eq_true rfl) rfl) rfl (c21 (by omega)) ?_
      rintro _ _ ⟨rfl, rfl⟩
      change Ev _ _ _ _ ([.int (nI (byt x i))]) _ _
      refine ev_if_eqN t_22_15 (by omega) (fun h_15 => ?_) (fun h_15 => ?_)
      · refine ev_iincN (L' := [some (.long x), none, some (.int (nI ((chl x i).length))), some (.int (nI (i + 1)))]) t_22_21 rfl (Nat.le_of_ble_eq_true rfl) rfl ?_
        refine ev_goto t_22_24 ?_
        rw [if_pos h_15, List.length_append] at c9
        exact c9
      · refine ev_iincN (L' := [some (.long x), none, some (.int (nI ((chl x i).length + 1))), some (.int (nI (i)))]) t_22_18 rfl (Nat.le_of_ble_eq_true rfl) rfl ?_
        refine ev_iincN (L' := [some (.long x), none, some (.int (nI ((chl x i).length + 1))), some (.int (nI (i + 1)))]) t_22_21 rfl (Nat.le_of_ble_eq_true rfl) rfl ?_
        refine ev_goto t_22_24 ?_
        rw [if_neg h_15, List.length_append] at c9
        exact c9
theorem c22 {x : Int64} : Ev (d + 1) 22 0 [some (.long x), none, none, none] [] (sC M σ) (fun q9 M' => ∃ v9, q9 = .inl v9 ∧ v9 = some (.int (nI (chl x 8).length)) ∧ M' = sC M σ) := by
  refine ev_iconst t_22_0 ?_
  change Ev _ _ _ _ ([.int (nI (0))]) _ _
  refine ev_istore_n (L' := [some (.long x), none, some (.int (nI (0))), none]) t_22_1 (Nat.le_of_ble_eq_true rfl) rfl ?_
  refine ev_iconst t_22_2 ?_
  change Ev _ _ _ _ ([.int (nI (0))]) _ _
  refine ev_istore_n (L' := [some (.long x), none, some (.int (nI (0))), some (.int (nI (0)))]) t_22_3 (Nat.le_of_ble_eq_true rfl) rfl ?_
  exact c22l 8 0 rfl
theorem c1l {x : Int64} {dr od : List Nat} {rs : Nat → List Nat} (h24 : dr.length + (chl x 8).length ≤ 24) : ∀ (k i : Nat) (G σ : Nat → Nat → Int32) (o4 : Option Value), i + k = 8 → RC σ (G, od, rs) → Txt G 9 (dr ++ chl x i) → Ev (d + 1) 1 21 [some (.ref 8), some (.long x), none, some (.int (nI i)), o4] [] (sC M σ) (fun q9 M' => ∃ v9, q9 = .inl v9 ∧ v9 = some (.int (nI (dr ++ chl x 8).length)) ∧ ∃ σ', M' = sC M σ' ∧ ∃ G', (∀ q, q ≠ 9 → q ≠ 10 → G' q = G q) ∧ Txt G' 9 (dr ++ chl x 8) ∧ RC σ' (G', od, rs)) := by
  intro k
  induction k with
  | zero =>
    intro i G σ o4 hi hR hT
    obtain rfl : i = 8 := by omega
    have e9 := (RC_draft hR hT).1
    refine ev_iload_n t_1_21 rfl ?_
    refine ev_bipush t_1_22 ?_
    change Ev _ _ _ _ ([.int (nI (8)), .int (nI (8))]) _ _
    refine ev_icmp_geN t_1_24 (by omega) (by omega) (fun h_24 => ?_) (fun h_24 => ?_)
    · refine ev_aload_n t_1_54 rfl ?_
      refine es_get (x := .ref 9) o_MR t_1_55 rfl ?_
      refine es_get (x := .int (σ (9) 1)) (o_Tx (Or.inl rfl)) t_1_58 rfl ?_
      refine ev_top (y := (nI ((dr ++ chl x 8).length))) (by exact e9) ?_
      exact ev_reti t_1_61 (ri rfl) ⟨_, rfl, rfl, _, rfl, G, (fun _ _ _ => rfl), hT, hR⟩
    · omega
  | succ k ih =>
    intro i G σ o4 hi hR hT
    have hb := byt_lt x i
    have hle := chl_le x (i := i + 1) 8 (by omega)
    have hs := chl_s x i
    refine ev_iload_n t_1_21 rfl ?_
    refine ev_bipush t_1_22 ?_
    change Ev _ _ _ _ ([.int (nI (8)), .int (nI (i))]) _ _
    refine ev_icmp_geN t_1_24 (by omega) (by omega) (fun h_24 => ?_) (fun h_24 => ?_)
    · omega
    · refine ev_lload_n t_1_27 rfl ?_
      refine ev_iload_n t_1_28 rfl ?_
      refine ev_cl (pm_st_S t_1_29 (Nat.le_of_ble_eq_true rfl) (as := [.long x, .int (nI (i))]) (rest := []) (L0 := [some (.long x), none, some (.int (nI (i)))]) rfl rfl (Nat.le_of_ble_eq_true rfl) (Nat.le_of_ble_eq_true rfl) rfl) rfl (c21 (by omega)) ?_
      rintro _ _ ⟨rfl, rfl⟩
      change Ev _ _ _ _ ([.int (nI (byt x i))]) _ _
      refine ev_istore (L' := [some (.ref 8), some (.long x), none, some (.int (nI (i))), some (.int (nI (byt x i)))]) t_1_32 (Nat.le_of_ble_eq_true rfl) rfl ?_
      refine ev_iload t_1_34 rfl ?_
      refine ev_if_eqN t_1_36 (by omega) (fun h_36 => ?_) (fun h_36 => ?_)
      · refine ev_iincN (L' := [some (.ref 8), some (.long x), none, some (.int (nI (i + 1))), some (.int (nI (byt x i)))]) t_1_48 rfl (Nat.le_of_ble_eq_true rfl) rfl ?_
        refine ev_goto t_1_51 ?_
        rw [if_pos h_36, List.append_nil] at hs
        exact ih (i + 1) G σ _ (by omega) hR (by rw [hs]; exact hT)
      · rw [if_neg h_36] at hs
        have hl24 : (dr ++ chl x i).length < 24 := by rw [hs] at hle; simp at hle ⊢; omega
        refine ev_aload_n t_1_39 rfl ?_
        refine es_get (x := .ref 9) o_MR t_1_40 rfl ?_
        refine ev_iload t_1_43 rfl ?_
        refine ev_cl (pm_st_V t_1_45 (as := [.ref 9, .int (nI (byt x i))]) (rest := []) (L0 := [some (.ref 9), some (.int (nI (byt x i)))]) rfl rfl (Nat.le_of_ble_eq_true rfl) (Nat.le_of_ble_eq_true rfl) rfl (es_rc (o_Tx (Or.inl rfl)) rfl (Nat.le_of_ble_eq_true rfl))) rfl (c89 (Or.inl rfl) (RC_draft hR hT).1 hl24 (by omega)) ?_
        rintro _ _ ⟨rfl, rfl⟩
        change Ev _ _ _ _ ([]) _ _
        refine ev_iincN (L' := [some (.ref 8), some (.long x), none, some (.int (nI (i + 1))), some (.int (nI (byt x i)))]) t_1_48 rfl (Nat.le_of_ble_eq_true rfl) rfl ?_
        refine ev_goto t_1_51 ?_
        have hR2 : RC (tx_app σ 9 (dr ++ chl x i).length (byt x i)) (tx_app G 9 (dr ++ chl x i).length (byt x i), od, rs) := RC_u (by unfold Dk; omega) (RC_u (by unfold Dk; omega) hR)
        have hT2 := tx_app_ok hT hl24 hb
        rw [List.append_assoc, ← hs] at hT2
        refine ev_mono (ih (i + 1) _ _ _ (by omega) hR2 hT2) ?_
        rintro r9 M9 ⟨v9, e1, e2, σ', e3, G', k1, k2, k3⟩
        exact ⟨v9, e1, e2, σ', e3, G', fun q h1 h2 => (k1 q h1 h2).trans (tx_app_fr h1 h2), k2, k3⟩
variable {S : SP}
theorem c1 {x : Int64} {dr : List Nat} (hD : Txt S.1 9 dr) (hR : RC σ S) : Ev (d + 2) 1 0 [some (.ref 8), some (.long x), none, none, none] [] (sC M σ) (fun q9 M' => ∃ v9, q9 = .inl v9 ∧ v9 = some (.int (if 24 < dr.length + (chl x 8).length then -1 else nI (dr ++ chl x 8).length)) ∧ ∃ σ', M' = sC M σ' ∧ ∃ G', (∀ q, q ≠ 9 → q ≠ 10 → G' q = S.1 q) ∧ Txt G' 9 (if 24 < dr.length + (chl x 8).length then dr else dr ++ chl x 8) ∧ RC σ' (G', S.2.1, S.2.2)) := by
  have e9 := (RC_draft hR hD).1
  have hl := hD.2.1
  have hc8 : (chl x 8).length ≤ 8 := by
    have := List.length_filter_le (fun c => decide (¬ c = 0)) ((List.range 8).map (byt x))
    simpa [chl] using this
  refine ev_aload_n t_1_0 rfl ?_
  refine es_get (x := .ref 9) o_MR t_1_1 rfl ?_
  refine es_get (x := .int (σ (9) 1)) (o_Tx (Or.inl rfl)) t_1_4 rfl ?_
  refine ev_top (y := (nI (dr.length))) (by exact e9) ?_
  refine ev_lload_n t_1_7 rfl ?_
  refine ev_cl (pm_st_S t_1_8 (Nat.le_of_ble_eq_true rfl) (as := [.long x]) (rest := [.int (nI (dr.length))]) (L0 := [some (.long x), none, none, none]) rfl rfl (Nat.le_of_ble_eq_true rfl) (Nat.le_of_ble_eq_true rfl) rfl) rfl (c22) ?_
  rintro _ _ ⟨rfl, rfl⟩
  change Ev _ _ _ _ ([.int (nI ((chl x 8).length)), .int (nI (dr.length))]) _ _
  refine ev_iaddN t_1_11 ?_
  refine ev_bipush t_1_12 ?_
  change Ev _ _ _ _ ([.int (nI (24)), .int (nI ((dr.length) + ((chl x 8).length)))]) _ _
  refine ev_icmp_leN t_1_14 (by omega) (by omega) (fun h_14 => ?_) (fun h_14 => ?_)
  · refine ev_iconst t_1_19 ?_
    change Ev _ _ _ _ ([.int (nI (0))]) _ _
    refine ev_istore_n (L' := [some (.ref 8), some (.long x), none, some (.int (nI (0))), none]) t_1_20 (Nat.le_of_ble_eq_true rfl) rfl ?_
    rw [if_neg (by omega), if_neg (by omega)]
    exact ev_deep 1 (c1l (d := d) (M := M) (by omega) 8 0 S.1 σ none rfl hR (by simpa [chl] using hD))
  · refine ev_iconst t_1_17 ?_
    change Ev _ _ _ _ ([.int (-1)]) _ _
    exact ev_reti t_1_18 (ri rfl) ⟨_, rfl, by rw [if_pos (by omega)], _, rfl, S.1, (fun _ _ _ => rfl), (by rw [if_pos (by omega)]; exact hD), hR⟩
end WR
