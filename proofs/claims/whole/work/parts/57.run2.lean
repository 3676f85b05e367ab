/-! The reference: run, piece by piece. -/
section RN
variable {d : Nat} {M : pm_M} {τ : Nat → Nat → Int32} {Q : pm_R → pm_M → Prop} {S : SP} {ck : Nat} {u : List Nat} {rf : Nat → Bool} {n : Nat}
theorem m62s (hn : n < 96) (h20 : u.length < 20) (hu : MU τ (u ++ [n]) rf) (h61 : Ev d 61 0 [some (.ref 370), some (.int (nI (n / 16))), some (.int (nI (n % 16))), none, none, none, none] [] (sM M τ) (fun q9 M' => ∃ v9, q9 = .inl v9 ∧ ((v9 = some (.int 1) ∧ Ev (d + 1) 62 28 [some (.ref 370), some (.int (nI n)), none, none] [] M' Q) ∨ (v9 = some (.int 0) ∧ Q (.inl none) M')))) : Ev (d + 1) 62 0 [some (.ref 370), none, none, none] [] (sM M τ) Q := by
  obtain ⟨h26, h88, -⟩ := MU_top hu
  refine ev_aload_n t_62_0 rfl ?_
  refine es_get (x := .ref 388) o_MO t_62_1 rfl ?_
  refine ev_aload_n t_62_4 rfl ?_
  refine es_get (x := .int (τ (370) 26)) o_MO t_62_5 rfl ?_
  refine ev_top (y := (nI (u.length + 1))) (by exact h26) ?_
  refine ev_iconst t_62_8 ?_
  change Ev _ _ _ _ ([.int (nI (1)), .int (nI (u.length + 1)), .ref 388]) _ _
  refine ev_isubN t_62_9 (by omega) ?_
  change Ev _ _ _ _ ([.int (nI (u.length)), .ref 388]) _ _
  refine es_iald (k := u.length) a_m388 t_62_10 (by omega) ?_
  refine ev_top (y := nI (n)) h88 ?_
  refine ev_istore_n (L' := [some (.ref 370), some (.int (nI (n))), none, none]) t_62_11 (Nat.le_of_ble_eq_true rfl) rfl ?_
  refine ev_aload_n t_62_12 rfl ?_
  refine ev_iload_n t_62_13 rfl ?_
  refine ev_bipush t_62_14 ?_
  change Ev _ _ _ _ ([.int (nI (16)), .int (nI (n)), .ref 370]) _ _
  refine ev_idivN t_62_16 (by omega) (by omega) (by omega) ?_
  refine ev_iload_n t_62_17 rfl ?_
  refine ev_bipush t_62_18 ?_
  change Ev _ _ _ _ ([.int (nI (16)), .int (nI (n)), .int (nI ((n) / (16))), .ref 370]) _ _
  refine ev_iremN t_62_20 (by omega) (by omega) (by omega) ?_
  refine ev_cl (pm_st_V t_62_21 (as := [.ref 370, .int (nI (n / 16)), .int (nI (n % 16))]) (rest := []) (L0 := [some (.ref 370), some (.int (nI (n / 16))), some (.int (nI (n % 16))), none, none, none, none]) rfl rfl (Nat.le_of_ble_eq_true rfl) (Nat.le_of_ble_eq_true rfl) rfl (es_rc o_MO rfl (Nat.le_of_ble_eq_true rfl))) rfl h61 ?_
  rintro _ M9 (⟨rfl, k1⟩ | ⟨rfl, k0⟩)
  · change Ev _ _ _ _ ([.int (nI 1)]) _ _
    refine ev_if_neN t_62_24 (by omega) (fun h_24 => ?_) (fun h_24 => ?_)
    · exact k1
    · omega
  · change Ev _ _ _ _ ([.int (nI 0)]) _ _
    refine ev_if_neN t_62_24 (by omega) (fun h_24 => ?_) (fun h_24 => ?_)
    · exact absurd rfl h_24
    · exact ev_retv t_62_27 rfl k0
theorem m62l {rd : List Nat} (hn : n < 96) (hR : RM τ S ck) (h24 : rd.length ≤ 24) (hrd : ∀ r ∈ rd, RdOk r ∧ (100 ≤ r → r - 100 ∈ S.2.1)) (hL : RdL τ rd) : ∀ (k i : Nat) (τ1 : Nat → Nat → Int32), i + k = rd.length → (∀ q, q ≠ 385 → τ1 q = τ q) → (∀ j, j < i → τ1 385 (24 * n + j) = nI (rd.getD j 0)) → (∀ m j, m ≠ n → j < 24 → τ1 385 (24 * m + j) = τ 385 (24 * m + j)) → (∀ τ2, (∀ q, q ≠ 385 → τ2 q = τ q) → (∀ j, j < rd.length → τ2 385 (24 * n + j) = nI (rd.getD j 0)) → (∀ m j, m ≠ n → j < 24 → τ2 385 (24 * m + j) = τ 385 (24 * m + j)) → Ev (d + 1) 62 92 [some (.ref 370), some (.int (nI n)), some (.int (lcl S.1 rd 2)), some (.int (nI (rd.length)))] [] (sM M τ2) Q) → Ev (d + 1) 62 32 [some (.ref 370), some (.int (nI n)), some (.int (lcl S.1 (rd.take i) 2)), some (.int (nI (i)))] [] (sM M τ1) Q := by
  intro k
  induction k with
  | zero =>
    intro i τ1 hi t1 t2 t3 kk
    obtain rfl : i = rd.length := by omega
    have e34 : τ1 370 34 = nI rd.length := by rw [t1 _ (by omega)]; exact hL.1
    rw [List.take_length]
    refine ev_iload_n t_62_32 rfl ?_
    refine ev_aload_n t_62_33 rfl ?_
    refine es_get (x := .int (τ1 (370) 34)) o_MO t_62_34 rfl ?_
    refine ev_top (y := (nI (rd.length))) (by (repeat rw [u2_off (by omega)]); exact e34) ?_
    refine ev_icmp_geN t_62_37 (by omega) (by omega) (fun h_37 => ?_) (fun h_37 => ?_)
    · exact kk τ1 t1 t2 t3
    · omega
  | succ k ih =>
    intro i τ1 hi t1 t2 t3 kk
    have hil : i < rd.length := by omega
    have hx : rd.getD i 0 = rd[i] := by simp [List.getD_eq_getElem?_getD, hil]
    obtain ⟨hr, hk⟩ := hrd (rd.getD i 0) (by rw [hx]; exact List.getElem_mem hil)
    have e34 : τ1 370 34 = nI rd.length := by rw [t1 _ (by omega)]; exact hL.1
    have e93 : τ1 393 i = nI (rd.getD i 0) := by rw [t1 _ (by omega)]; exact hL.2 i hil
    have hMS : MS (u2 τ1 (385) ((24) * (n) + (i)) (nI (rd.getD i 0))) S.1 := by
      refine MS_q (fun q hq => ?_) hR.1
      rw [u2_ne (by omega), t1 _ (by omega)]
    have h383 : 100 ≤ rd.getD i 0 → (u2 τ1 (385) ((24) * (n) + (i)) (nI (rd.getD i 0))) 383 (rd.getD i 0 - 100) = S.1 (38 + 2 * (rd.getD i 0 - 100)) 5 := fun h => by
      rw [u2_off (by omega), t1 _ (by omega)]
      exact (hR.2.2.1 _ (hk h)).1.2.2.2.1
    have hr2 := hr.lt
    have hnext := ih (i + 1) (u2 τ1 (385) ((24) * (n) + (i)) (nI (rd.getD i 0))) (by omega) (fun q hq => by rw [u2_ne (by omega)]; exact t1 q hq) (fun j hj => by
      by_cases e : j = i
      · subst e; exact u2_at
      · rw [u2_off (by omega)]; exact t2 j (by omega)) (fun m j hm hj => by rw [u2_off (by omega)]; exact t3 m j hm hj) kk
    rw [lcl_take hil] at hnext
    refine ev_iload_n t_62_32 rfl ?_
    refine ev_aload_n t_62_33 rfl ?_
    refine es_get (x := .int (τ1 (370) 34)) o_MO t_62_34 rfl ?_
    refine ev_top (y := (nI (rd.length))) (by (repeat rw [u2_off (by omega)]); exact e34) ?_
    refine ev_icmp_geN t_62_37 (by omega) (by omega) (fun h_37 => ?_) (fun h_37 => ?_)
    · omega
    · refine ev_aload_n t_62_40 rfl ?_
      refine es_get (x := .ref 385) o_MO t_62_41 rfl ?_
      refine ev_bipush t_62_44 ?_
      change Ev _ _ _ _ ([.int (nI (24)), .ref 385]) _ _
      refine ev_iload_n t_62_46 rfl ?_
      refine ev_imulN t_62_47 ?_
      refine ev_iload_n t_62_48 rfl ?_
      refine ev_iaddN t_62_49 ?_
      refine ev_aload_n t_62_50 rfl ?_
      refine es_get (x := .ref 393) o_MO t_62_51 rfl ?_
      refine ev_iload_n t_62_54 rfl ?_
      refine es_iald (k := i) a_m393 t_62_55 (by omega) ?_
      refine ev_top (y := nI (rd.getD i 0)) (by (repeat rw [u2_off (by omega)]); exact e93) ?_
      refine es_iast (k := ((24) * (n)) + (i)) a_m385 t_62_56 (by omega) ?_
      refine ev_aload_n t_62_57 rfl ?_
      refine ev_aload_n t_62_58 rfl ?_
      refine es_get (x := .ref 393) o_MO t_62_59 rfl ?_
      refine ev_iload_n t_62_62 rfl ?_
      refine es_iald (k := i) a_m393 t_62_63 (by omega) ?_
      refine ev_top (y := nI (rd.getD i 0)) (by (repeat rw [u2_off (by omega)]); exact e93) ?_
      refine ev_cl (pm_st_V t_62_64 (as := [.ref 370, .int (nI (rd.getD i 0))]) (rest := []) (L0 := [some (.ref 370), some (.int (nI (rd.getD i 0)))]) rfl rfl (Nat.le_of_ble_eq_true rfl) (Nat.le_of_ble_eq_true rfl) rfl (es_rc o_MO rfl (Nat.le_of_ble_eq_true rfl))) rfl (m56 hr hMS h383) ?_
      rintro _ _ ⟨rfl, rfl⟩
      change Ev _ _ _ _ ([.int (clO S.1 (rd.getD i 0))]) _ _
      refine ev_iload_n t_62_67 rfl ?_
      refine ev_icmp_ge t_62_68 (fun h_68 => ?_) (fun h_68 => ?_)
      · refine ev_iload_n t_62_84 rfl ?_
        refine ev_istore_n (L' := [some (.ref 370), some (.int (nI (n))), some (.int (lcl S.1 (rd.take i) 2)), some (.int (nI (i)))]) t_62_85 (Nat.le_of_ble_eq_true rfl) rfl ?_
        refine ev_iincN (L' := [some (.ref 370), some (.int (nI (n))), some (.int (lcl S.1 (rd.take i) 2)), some (.int (nI (i + 1)))]) t_62_86 rfl (Nat.le_of_ble_eq_true rfl) rfl ?_
        refine ev_goto t_62_89 ?_
        first | (rw [if_pos (Int32.not_le.mp h_68)] at hnext; exact hnext) | (rw [if_neg (Int32.not_lt.mpr h_68)] at hnext; exact hnext)
      · refine ev_aload_n t_62_71 rfl ?_
        refine ev_aload_n t_62_72 rfl ?_
        refine es_get (x := .ref 393) o_MO t_62_73 rfl ?_
        refine ev_iload_n t_62_76 rfl ?_
        refine es_iald (k := i) a_m393 t_62_77 (by omega) ?_
        refine ev_top (y := nI (rd.getD i 0)) (by (repeat rw [u2_off (by omega)]); exact e93) ?_
        refine ev_cl (pm_st_V t_62_78 (as := [.ref 370, .int (nI (rd.getD i 0))]) (rest := []) (L0 := [some (.ref 370), some (.int (nI (rd.getD i 0)))]) rfl rfl (Nat.le_of_ble_eq_true rfl) (Nat.le_of_ble_eq_true rfl) rfl (es_rc o_MO rfl (Nat.le_of_ble_eq_true rfl))) rfl (m56 hr hMS h383) ?_
        rintro _ _ ⟨rfl, rfl⟩
        change Ev _ _ _ _ ([.int (clO S.1 (rd.getD i 0))]) _ _
        refine ev_goto t_62_81 ?_
        refine ev_istore_n (L' := [some (.ref 370), some (.int (nI (n))), some (.int (clO S.1 (rd.getD i 0))), some (.int (nI (i)))]) t_62_85 (Nat.le_of_ble_eq_true rfl) rfl ?_
        refine ev_iincN (L' := [some (.ref 370), some (.int (nI (n))), some (.int (clO S.1 (rd.getD i 0))), some (.int (nI (i + 1)))]) t_62_86 rfl (Nat.le_of_ble_eq_true rfl) rfl ?_
        refine ev_goto t_62_89 ?_
        first | (rw [if_pos (Int32.not_le.mp h_68)] at hnext; exact hnext) | (rw [if_neg (Int32.not_lt.mpr h_68)] at hnext; exact hnext)
theorem m62e {rd : List Nat} {v : Int32} (hn : n < 96) (hR : RM τ S ck) (hl : ∀ m, m < 96 → (S.2.2 m).length ≤ 24) (hu : MU τ (u ++ [n]) rf) (h20 : u.length < 20) (h24 : rd.length ≤ 24) (hrd : ∀ r ∈ rd, RdOk r ∧ (100 ≤ r → r - 100 ∈ S.2.1 ∧ r - 100 ≠ n)) (hL : RdL τ rd) (hv : τ 370 36 = v) (kk : ∀ τ', RM τ' ((kpE S n v rd).1, put S.2.1 n, (kpE S n v rd).2.2) (ck + 1) → MU τ' u rf → (∀ q, 371 ≤ q → q ≤ 373 → τ' q = τ q) → (∀ k, k = 0 ∨ k = 2 ∨ k = 29 → τ' 370 k = τ 370 k) → Q (.inl none) (sM M τ')) : Ev (d + 1) 62 28 [some (.ref 370), some (.int (nI n)), none, none] [] (sM M τ) Q := by
  have c92 : ∀ τ2, (∀ q, q ≠ 385 → τ2 q = τ q) → (∀ j, j < rd.length → τ2 385 (24 * n + j) = nI (rd.getD j 0)) → (∀ m j, m ≠ n → j < 24 → τ2 385 (24 * m + j) = τ 385 (24 * m + j)) → Ev (d + 1) 62 92 [some (.ref 370), some (.int (nI n)), some (.int (lcl S.1 rd 2)), some (.int (nI (rd.length)))] [] (sM M τ2) Q := by
    intro τ2 t1 t2 t3
    have hq : ∀ q k, q ≠ 385 → τ2 q k = τ q k := fun q k h => by rw [t1 q h]
    have e5 : τ2 370 5 = S.1 17 0 := by rw [hq _ _ (by omega)]; exact hR.1.1.1
    have e22 : τ2 370 22 = S.1 8 11 := by rw [hq _ _ (by omega)]; exact hR.1.1.2.2.1
    have e34 : τ2 370 34 = nI rd.length := by rw [hq _ _ (by omega)]; exact hL.1
    have e36 : τ2 370 36 = v := by rw [hq _ _ (by omega)]; exact hv
    have e26 : τ2 370 26 = nI (u.length + 1) := by rw [hq _ _ (by omega)]; exact (MU_top hu).1
    have eh : τ2 379 n = bI (decide (n ∈ S.2.1)) := by rw [hq _ _ (by omega)]; exact hR.2.1 n hn
    obtain ⟨st9, s20, -, -⟩ := hR.2.2.2.1
    have e20 : τ2 370 20 = nI ck := by rw [hq _ _ (by omega)]; exact s20
    have e80 : n ∈ S.2.1 → τ2 380 n = S.1 (38 + 2 * n) 0 := fun h => by rw [hq _ _ (by omega)]; exact (hR.2.2.1 n h).1.1
    have hrd2 : ∀ r ∈ rd, n < 96 ∧ (100 ≤ r → r - 100 ≠ n) := fun r hr => ⟨hn, fun h => ((hrd r hr).2 h).2⟩
    have hu2 : MU τ2 (u ++ [n]) rf := MU_fr (hq _ _ (by omega)) (t1 _ (by omega)) (t1 _ (by omega)) hu
    refine ev_aload_n t_62_92 rfl ?_
    refine es_get (x := .ref 382) o_MO t_62_93 rfl ?_
    refine ev_iload_n t_62_96 rfl ?_
    refine ev_aload_n t_62_97 rfl ?_
    refine es_get (x := .ref 379) o_MO t_62_98 rfl ?_
    refine ev_iload_n t_62_101 rfl ?_
    refine es_zald (k := n) a_m379 t_62_102 (by omega) ?_
    refine ev_top (y := (bI (decide (n ∈ S.2.1)))) eh ?_
    refine ev_if_eq (y := 0) t_62_103 (fun h_103 => ?_) (fun h_103 => ?_)
    · refine ev_aload_n t_62_128 rfl ?_
      refine es_get (x := .int (τ2 (370) 5)) o_MO t_62_129 rfl ?_
      refine ev_top (y := (S.1 17 0)) (by (repeat rw [u2_off (by omega)]); exact e5) ?_
      refine es_iast (k := n) a_m382 t_62_132 (by omega) ?_
      refine ev_aload_n t_62_133 rfl ?_
      refine es_get (x := .ref 379) o_MO t_62_134 rfl ?_
      refine ev_iload_n t_62_137 rfl ?_
      refine ev_iconst t_62_138 ?_
      change Ev _ _ _ _ ([.int (nI (1)), .int (nI (n)), .ref 379]) _ _
      refine es_zast (k := n) (y := (nI (1))) a_m379 t_62_139 (by omega) (rfl) ?_
      refine ev_aload_n t_62_140 rfl ?_
      refine es_get (x := .ref 380) o_MO t_62_141 rfl ?_
      refine ev_iload_n t_62_144 rfl ?_
      refine ev_aload_n t_62_145 rfl ?_
      refine es_get (x := .int ((u2 (u2 τ2 (382) (n) (S.1 17 0)) (379) (n) (nI (1))) (370) 36)) o_MO t_62_146 rfl ?_
      refine ev_top (y := v) (by (repeat rw [u2_off (by omega)]); exact e36) ?_
      refine es_iast (k := n) a_m380 t_62_149 (by omega) ?_
      refine ev_aload_n t_62_150 rfl ?_
      refine es_get (x := .ref 386) o_MO t_62_151 rfl ?_
      refine ev_iload_n t_62_154 rfl ?_
      refine ev_aload_n t_62_155 rfl ?_
      refine es_get (x := .int ((u2 (u2 (u2 τ2 (382) (n) (S.1 17 0)) (379) (n) (nI (1))) (380) (n) v) (370) 34)) o_MO t_62_156 rfl ?_
      refine ev_top (y := (nI (rd.length))) (by (repeat rw [u2_off (by omega)]); exact e34) ?_
      refine es_iast (k := n) a_m386 t_62_159 (by omega) ?_
      refine ev_aload_n t_62_160 rfl ?_
      refine es_get (x := .ref 381) o_MO t_62_161 rfl ?_
      refine ev_iload_n t_62_164 rfl ?_
      refine ev_aload_n t_62_165 rfl ?_
      refine es_get (x := .int ((u2 (u2 (u2 (u2 τ2 (382) (n) (S.1 17 0)) (379) (n) (nI (1))) (380) (n) v) (386) (n) (nI (rd.length))) (370) 5)) o_MO t_62_166 rfl ?_
      refine ev_top (y := (S.1 17 0)) (by (repeat rw [u2_off (by omega)]); exact e5) ?_
      refine es_iast (k := n) a_m381 t_62_169 (by omega) ?_
      refine ev_aload_n t_62_170 rfl ?_
      refine es_get (x := .ref 383) o_MO t_62_171 rfl ?_
      refine ev_iload_n t_62_174 rfl ?_
      refine ev_iload_n t_62_175 rfl ?_
      refine es_iast (k := n) a_m383 t_62_176 (by omega) ?_
      refine ev_aload_n t_62_177 rfl ?_
      refine es_get (x := .ref 384) o_MO t_62_178 rfl ?_
      refine ev_iload_n t_62_181 rfl ?_
      refine ev_iconst t_62_182 ?_
      change Ev _ _ _ _ ([.int (nI (0)), .int (nI (n)), .ref 384]) _ _
      refine es_zast (k := n) (y := (nI (0))) a_m384 t_62_183 (by omega) (rfl) ?_
      refine ev_aload_n t_62_184 rfl ?_
      refine ev_dup t_62_185 rfl ?_
      refine es_get (x := .int ((u2 (u2 (u2 (u2 (u2 (u2 (u2 τ2 (382) (n) (S.1 17 0)) (379) (n) (nI (1))) (380) (n) v) (386) (n) (nI (rd.length))) (381) (n) (S.1 17 0)) (383) (n) (lcl S.1 rd 2)) (384) (n) (nI (0))) (370) 22)) o_MO t_62_186 rfl ?_
      refine ev_top (y := (S.1 8 11)) (by (repeat rw [u2_off (by omega)]); exact e22) ?_
      refine ev_iconst t_62_189 ?_
      change Ev _ _ _ _ ([.int (nI (1)), .int (S.1 8 11), .ref 370]) _ _
      refine ev_iadd t_62_190 ?_
      refine es_put o_MO t_62_191 rfl (Nat.le_of_ble_eq_true rfl) rfl ?_
      refine ev_aload_n t_62_194 rfl ?_
      refine ev_iload_n t_62_195 rfl ?_
      refine ev_cl (pm_st_V t_62_196 (as := [.ref 370, .int (nI (n))]) (rest := []) (L0 := [some (.ref 370), some (.int (nI (n)))]) rfl rfl (Nat.le_of_ble_eq_true rfl) (Nat.le_of_ble_eq_true rfl) rfl (es_rc o_MO rfl (Nat.le_of_ble_eq_true rfl))) rfl (m51 (ck := ck) hn (by (repeat rw [u2_off (by omega)]); exact e20)) ?_
      rintro _ _ ⟨rfl, rfl⟩
      change Ev _ _ _ _ ([]) _ _
      refine ev_aload_n t_62_199 rfl ?_
      refine ev_dup t_62_200 rfl ?_
      refine es_get (x := .int ((m_end (u2 (u2 (u2 (u2 (u2 (u2 (u2 (u2 τ2 (382) (n) (S.1 17 0)) (379) (n) (nI (1))) (380) (n) v) (386) (n) (nI (rd.length))) (381) (n) (S.1 17 0)) (383) (n) (lcl S.1 rd 2)) (384) (n) (nI (0))) (370) 22 ((S.1 8 11) + (nI (1)))) n ck) (370) 26)) o_MO t_62_201 rfl ?_
      refine ev_top (y := (nI (u.length + 1))) (by unfold m_end; (repeat rw [u2_off (by omega)]); exact e26) ?_
      refine ev_iconst t_62_204 ?_
      change Ev _ _ _ _ ([.int (nI (1)), .int (nI (u.length + 1)), .ref 370]) _ _
      refine ev_isubN t_62_205 (by omega) ?_
      change Ev _ _ _ _ ([.int (nI (u.length)), .ref 370]) _ _
      refine es_put o_MO t_62_206 rfl (Nat.le_of_ble_eq_true rfl) rfl ?_
      exact ev_retv t_62_209 rfl (kk _ (RM_n (RM_kp2 hR hn hl h24 hrd2 t1 t2 t3 (fun h => bI_d0.mp h_103 h.1)) (by omega) (by omega)) (MU_pop (MU_fr (by unfold m_end; (repeat rw [u2_off (by omega)])) (by unfold m_end; (repeat rw [u2_ne (by omega)])) (by unfold m_end; (repeat rw [u2_ne (by omega)])) hu2)) (fun q h1 h2 => (by unfold m_end; (repeat rw [u2_ne (by omega)]); exact t1 q (by omega))) (fun k hk => (by unfold m_end; (repeat rw [u2_off (by omega)]); exact hq _ _ (by omega))))
    · refine ev_aload_n t_62_106 rfl ?_
      refine es_get (x := .ref 380) o_MO t_62_107 rfl ?_
      refine ev_iload_n t_62_110 rfl ?_
      refine es_iald (k := n) a_m380 t_62_111 (by omega) ?_
      refine ev_aload_n t_62_112 rfl ?_
      refine es_get (x := .int (τ2 (370) 36)) o_MO t_62_113 rfl ?_
      refine ev_top (y := v) (by (repeat rw [u2_off (by omega)]); exact e36) ?_
      refine ev_icmp_ne t_62_116 (fun h_116 => ?_) (fun h_116 => ?_)
      · refine ev_aload_n t_62_128 rfl ?_
        refine es_get (x := .int (τ2 (370) 5)) o_MO t_62_129 rfl ?_
        refine ev_top (y := (S.1 17 0)) (by (repeat rw [u2_off (by omega)]); exact e5) ?_
        refine es_iast (k := n) a_m382 t_62_132 (by omega) ?_
        refine ev_aload_n t_62_133 rfl ?_
        refine es_get (x := .ref 379) o_MO t_62_134 rfl ?_
        refine ev_iload_n t_62_137 rfl ?_
        refine ev_iconst t_62_138 ?_
        change Ev _ _ _ _ ([.int (nI (1)), .int (nI (n)), .ref 379]) _ _
        refine es_zast (k := n) (y := (nI (1))) a_m379 t_62_139 (by omega) (rfl) ?_
        refine ev_aload_n t_62_140 rfl ?_
        refine es_get (x := .ref 380) o_MO t_62_141 rfl ?_
        refine ev_iload_n t_62_144 rfl ?_
        refine ev_aload_n t_62_145 rfl ?_
        refine es_get (x := .int ((u2 (u2 τ2 (382) (n) (S.1 17 0)) (379) (n) (nI (1))) (370) 36)) o_MO t_62_146 rfl ?_
        refine ev_top (y := v) (by (repeat rw [u2_off (by omega)]); exact e36) ?_
        refine es_iast (k := n) a_m380 t_62_149 (by omega) ?_
        refine ev_aload_n t_62_150 rfl ?_
        refine es_get (x := .ref 386) o_MO t_62_151 rfl ?_
        refine ev_iload_n t_62_154 rfl ?_
        refine ev_aload_n t_62_155 rfl ?_
        refine es_get (x := .int ((u2 (u2 (u2 τ2 (382) (n) (S.1 17 0)) (379) (n) (nI (1))) (380) (n) v) (370) 34)) o_MO t_62_156 rfl ?_
        refine ev_top (y := (nI (rd.length))) (by (repeat rw [u2_off (by omega)]); exact e34) ?_
        refine es_iast (k := n) a_m386 t_62_159 (by omega) ?_
        refine ev_aload_n t_62_160 rfl ?_
        refine es_get (x := .ref 381) o_MO t_62_161 rfl ?_
        refine ev_iload_n t_62_164 rfl ?_
        refine ev_aload_n t_62_165 rfl ?_
        refine es_get (x := .int ((u2 (u2 (u2 (u2 τ2 (382) (n) (S.1 17 0)) (379) (n) (nI (1))) (380) (n) v) (386) (n) (nI (rd.length))) (370) 5)) o_MO t_62_166 rfl ?_
        refine ev_top (y := (S.1 17 0)) (by (repeat rw [u2_off (by omega)]); exact e5) ?_
        refine es_iast (k := n) a_m381 t_62_169 (by omega) ?_
        refine ev_aload_n t_62_170 rfl ?_
        refine es_get (x := .ref 383) o_MO t_62_171 rfl ?_
        refine ev_iload_n t_62_174 rfl ?_
        refine ev_iload_n t_62_175 rfl ?_
        refine es_iast (k := n) a_m383 t_62_176 (by omega) ?_
        refine ev_aload_n t_62_177 rfl ?_
        refine es_get (x := .ref 384) o_MO t_62_178 rfl ?_
        refine ev_iload_n t_62_181 rfl ?_
        refine ev_iconst t_62_182 ?_
        change Ev _ _ _ _ ([.int (nI (0)), .int (nI (n)), .ref 384]) _ _
        refine es_zast (k := n) (y := (nI (0))) a_m384 t_62_183 (by omega) (rfl) ?_
        refine ev_aload_n t_62_184 rfl ?_
        refine ev_dup t_62_185 rfl ?_
        refine es_get (x := .int ((u2 (u2 (u2 (u2 (u2 (u2 (u2 τ2 (382) (n) (S.1 17 0)) (379) (n) (nI (1))) (380) (n) v) (386) (n) (nI (rd.length))) (381) (n) (S.1 17 0)) (383) (n) (lcl S.1 rd 2)) (384) (n) (nI (0))) (370) 22)) o_MO t_62_186 rfl ?_
        refine ev_top (y := (S.1 8 11)) (by (repeat rw [u2_off (by omega)]); exact e22) ?_
        refine ev_iconst t_62_189 ?_
        change Ev _ _ _ _ ([.int (nI (1)), .int (S.1 8 11), .ref 370]) _ _
        refine ev_iadd t_62_190 ?_
        refine es_put o_MO t_62_191 rfl (Nat.le_of_ble_eq_true rfl) rfl ?_
        refine ev_aload_n t_62_194 rfl ?_
        refine ev_iload_n t_62_195 rfl ?_
        refine ev_cl (pm_st_V t_62_196 (as := [.ref 370, .int (nI (n))]) (rest := []) (L0 := [some (.ref 370), some (.int (nI (n)))]) rfl rfl (Nat.le_of_ble_eq_true rfl) (Nat.le_of_ble_eq_true rfl) rfl (es_rc o_MO rfl (Nat.le_of_ble_eq_true rfl))) rfl (m51 (ck := ck) hn (by (repeat rw [u2_off (by omega)]); exact e20)) ?_
        rintro _ _ ⟨rfl, rfl⟩
        change Ev _ _ _ _ ([]) _ _
        refine ev_aload_n t_62_199 rfl ?_
        refine ev_dup t_62_200 rfl ?_
        refine es_get (x := .int ((m_end (u2 (u2 (u2 (u2 (u2 (u2 (u2 (u2 τ2 (382) (n) (S.1 17 0)) (379) (n) (nI (1))) (380) (n) v) (386) (n) (nI (rd.length))) (381) (n) (S.1 17 0)) (383) (n) (lcl S.1 rd 2)) (384) (n) (nI (0))) (370) 22 ((S.1 8 11) + (nI (1)))) n ck) (370) 26)) o_MO t_62_201 rfl ?_
        refine ev_top (y := (nI (u.length + 1))) (by unfold m_end; (repeat rw [u2_off (by omega)]); exact e26) ?_
        refine ev_iconst t_62_204 ?_
        change Ev _ _ _ _ ([.int (nI (1)), .int (nI (u.length + 1)), .ref 370]) _ _
        refine ev_isubN t_62_205 (by omega) ?_
        change Ev _ _ _ _ ([.int (nI (u.length)), .ref 370]) _ _
        refine es_put o_MO t_62_206 rfl (Nat.le_of_ble_eq_true rfl) rfl ?_
        exact ev_retv t_62_209 rfl (kk _ (RM_n (RM_kp2 hR hn hl h24 hrd2 t1 t2 t3 (fun h => h_116 ((e80 h.1).trans h.2))) (by omega) (by omega)) (MU_pop (MU_fr (by unfold m_end; (repeat rw [u2_off (by omega)])) (by unfold m_end; (repeat rw [u2_ne (by omega)])) (by unfold m_end; (repeat rw [u2_ne (by omega)])) hu2)) (fun q h1 h2 => (by unfold m_end; (repeat rw [u2_ne (by omega)]); exact t1 q (by omega))) (fun k hk => (by unfold m_end; (repeat rw [u2_off (by omega)]); exact hq _ _ (by omega))))
      · refine ev_aload_n t_62_119 rfl ?_
        refine es_get (x := .ref 382) o_MO t_62_120 rfl ?_
        refine ev_iload_n t_62_123 rfl ?_
        refine es_iald (k := n) a_m382 t_62_124 (by omega) ?_
        refine ev_goto t_62_125 ?_
        refine es_iast (k := n) a_m382 t_62_132 (by omega) ?_
        refine ev_aload_n t_62_133 rfl ?_
        refine es_get (x := .ref 379) o_MO t_62_134 rfl ?_
        refine ev_iload_n t_62_137 rfl ?_
        refine ev_iconst t_62_138 ?_
        change Ev _ _ _ _ ([.int (nI (1)), .int (nI (n)), .ref 379]) _ _
        refine es_zast (k := n) (y := (nI (1))) a_m379 t_62_139 (by omega) (rfl) ?_
        refine ev_aload_n t_62_140 rfl ?_
        refine es_get (x := .ref 380) o_MO t_62_141 rfl ?_
        refine ev_iload_n t_62_144 rfl ?_
        refine ev_aload_n t_62_145 rfl ?_
        refine es_get (x := .int ((u2 (u2 τ2 (382) (n) (τ2 (382) (n))) (379) (n) (nI (1))) (370) 36)) o_MO t_62_146 rfl ?_
        refine ev_top (y := v) (by (repeat rw [u2_off (by omega)]); exact e36) ?_
        refine es_iast (k := n) a_m380 t_62_149 (by omega) ?_
        refine ev_aload_n t_62_150 rfl ?_
        refine es_get (x := .ref 386) o_MO t_62_151 rfl ?_
        refine ev_iload_n t_62_154 rfl ?_
        refine ev_aload_n t_62_155 rfl ?_
        refine es_get (x := .int ((u2 (u2 (u2 τ2 (382) (n) (τ2 (382) (n))) (379) (n) (nI (1))) (380) (n) v) (370) 34)) o_MO t_62_156 rfl ?_
        refine ev_top (y := (nI (rd.length))) (by (repeat rw [u2_off (by omega)]); exact e34) ?_
        refine es_iast (k := n) a_m386 t_62_159 (by omega) ?_
        refine ev_aload_n t_62_160 rfl ?_
        refine es_get (x := .ref 381) o_MO t_62_161 rfl ?_
        refine ev_iload_n t_62_164 rfl ?_
        refine ev_aload_n t_62_165 rfl ?_
        refine es_get (x := .int ((u2 (u2 (u2 (u2 τ2 (382) (n) (τ2 (382) (n))) (379) (n) (nI (1))) (380) (n) v) (386) (n) (nI (rd.length))) (370) 5)) o_MO t_62_166 rfl ?_
        refine ev_top (y := (S.1 17 0)) (by (repeat rw [u2_off (by omega)]); exact e5) ?_
        refine es_iast (k := n) a_m381 t_62_169 (by omega) ?_
        refine ev_aload_n t_62_170 rfl ?_
        refine es_get (x := .ref 383) o_MO t_62_171 rfl ?_
        refine ev_iload_n t_62_174 rfl ?_
        refine ev_iload_n t_62_175 rfl ?_
        refine es_iast (k := n) a_m383 t_62_176 (by omega) ?_
        refine ev_aload_n t_62_177 rfl ?_
        refine es_get (x := .ref 384) o_MO t_62_178 rfl ?_
        refine ev_iload_n t_62_181 rfl ?_
        refine ev_iconst t_62_182 ?_
        change Ev _ _ _ _ ([.int (nI (0)), .int (nI (n)), .ref 384]) _ _
        refine es_zast (k := n) (y := (nI (0))) a_m384 t_62_183 (by omega) (rfl) ?_
        refine ev_aload_n t_62_184 rfl ?_
        refine ev_dup t_62_185 rfl ?_
        refine es_get (x := .int ((u2 (u2 (u2 (u2 (u2 (u2 (u2 τ2 (382) (n) (τ2 (382) (n))) (379) (n) (nI (1))) (380) (n) v) (386) (n) (nI (rd.length))) (381) (n) (S.1 17 0)) (383) (n) (lcl S.1 rd 2)) (384) (n) (nI (0))) (370) 22)) o_MO t_62_186 rfl ?_
        refine ev_top (y := (S.1 8 11)) (by (repeat rw [u2_off (by omega)]); exact e22) ?_
        refine ev_iconst t_62_189 ?_
        change Ev _ _ _ _ ([.int (nI (1)), .int (S.1 8 11), .ref 370]) _ _
        refine ev_iadd t_62_190 ?_
        refine es_put o_MO t_62_191 rfl (Nat.le_of_ble_eq_true rfl) rfl ?_
        refine ev_aload_n t_62_194 rfl ?_
        refine ev_iload_n t_62_195 rfl ?_
        refine ev_cl (pm_st_V t_62_196 (as := [.ref 370, .int (nI (n))]) (rest := []) (L0 := [some (.ref 370), some (.int (nI (n)))]) rfl rfl (Nat.le_of_ble_eq_true rfl) (Nat.le_of_ble_eq_true rfl) rfl (es_rc o_MO rfl (Nat.le_of_ble_eq_true rfl))) rfl (m51 (ck := ck) hn (by (repeat rw [u2_off (by omega)]); exact e20)) ?_
        rintro _ _ ⟨rfl, rfl⟩
        change Ev _ _ _ _ ([]) _ _
        refine ev_aload_n t_62_199 rfl ?_
        refine ev_dup t_62_200 rfl ?_
        refine es_get (x := .int ((m_end (u2 (u2 (u2 (u2 (u2 (u2 (u2 (u2 τ2 (382) (n) (τ2 (382) (n))) (379) (n) (nI (1))) (380) (n) v) (386) (n) (nI (rd.length))) (381) (n) (S.1 17 0)) (383) (n) (lcl S.1 rd 2)) (384) (n) (nI (0))) (370) 22 ((S.1 8 11) + (nI (1)))) n ck) (370) 26)) o_MO t_62_201 rfl ?_
        refine ev_top (y := (nI (u.length + 1))) (by unfold m_end; (repeat rw [u2_off (by omega)]); exact e26) ?_
        refine ev_iconst t_62_204 ?_
        change Ev _ _ _ _ ([.int (nI (1)), .int (nI (u.length + 1)), .ref 370]) _ _
        refine ev_isubN t_62_205 (by omega) ?_
        change Ev _ _ _ _ ([.int (nI (u.length)), .ref 370]) _ _
        refine es_put o_MO t_62_206 rfl (Nat.le_of_ble_eq_true rfl) rfl ?_
        exact ev_retv t_62_209 rfl (kk _ (RM_n (RM_kp1 hR hn hl h24 hrd2 t1 t2 t3 ⟨bI_d0n h_103, (e80 (bI_d0n h_103)).symm.trans (Decidable.byContradiction h_116)⟩) (by omega) (by omega)) (MU_pop (MU_fr (by unfold m_end; (repeat rw [u2_off (by omega)])) (by unfold m_end; (repeat rw [u2_ne (by omega)])) (by unfold m_end; (repeat rw [u2_ne (by omega)])) hu2)) (fun q h1 h2 => (by unfold m_end; (repeat rw [u2_ne (by omega)]); exact t1 q (by omega))) (fun k hk => (by unfold m_end; (repeat rw [u2_off (by omega)]); exact hq _ _ (by omega))))
  refine ev_iconst t_62_28 ?_
  change Ev _ _ _ _ ([.int (nI (2))]) _ _
  refine ev_istore_n (L' := [some (.ref 370), some (.int (nI (n))), some (.int (nI (2))), none]) t_62_29 (Nat.le_of_ble_eq_true rfl) rfl ?_
  refine ev_iconst t_62_30 ?_
  change Ev _ _ _ _ ([.int (nI (0))]) _ _
  refine ev_istore_n (L' := [some (.ref 370), some (.int (nI (n))), some (.int (nI (2))), some (.int (nI (0)))]) t_62_31 (Nat.le_of_ble_eq_true rfl) rfl ?_
  exact m62l hn hR h24 (fun r hr => ⟨(hrd r hr).1, fun h => ((hrd r hr).2 h).1⟩) hL rd.length 0 τ (by omega) (fun _ _ => rfl) (fun j hj => absurd hj (Nat.not_lt_zero j)) (fun _ _ _ _ => rfl) c92
end RN
