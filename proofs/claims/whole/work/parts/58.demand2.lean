/-! The reference: demand, piece by piece. -/
theorem RM_st {τ : Nat → Nat → Int32} {S : SP} {ck n : Nat} (h : RM τ S ck) (hn : n ∈ S.2.1) (hl : ∀ m, m < 96 → (S.2.2 m).length ≤ 24) : RM (m_end τ n ck) (S.1, put S.2.1 n, S.2.2) (ck + 1) := by
  obtain ⟨⟨⟨a1, a2, a3, a4, a5, a6⟩, b, c, e⟩, g2, g3, -, g7, g8⟩ := id h
  have hn9 := g8 n hn
  obtain ⟨⟨k1, k2, k3, k4, k5⟩, k6, k7⟩ := g3 n hn
  refine RM_put h hn9 (fun q m h1 h2 h3 h4 _ => ?_) (fun m i h1 h2 h3 => ?_) (fun m k h1 h2 => ?_) (fun m _ _ => rfl) hl ⟨⟨?_, ?_, ?_, ?_, ?_, ?_⟩, fun k hk => ⟨?_, ?_⟩, fun k hk => ⟨?_, ?_⟩, fun k hk => ?_⟩ ?_ ⟨⟨?_, ?_, ?_, ?_, ?_⟩, ?_, fun i hi => ?_⟩ ?_ ?_ <;> try unfold m_end
  · rw [u2_off (by omega), u2_off (by omega)]
  · rw [u2_off (by omega), u2_off (by omega)]
  · rfl
  · rw [u2_off (by omega), u2_off (by omega)]; exact a1
  · rw [u2_off (by omega), u2_off (by omega)]; exact a2
  · rw [u2_off (by omega), u2_off (by omega)]; exact a3
  · rw [u2_off (by omega), u2_off (by omega)]; exact a4
  · rw [u2_off (by omega), u2_off (by omega)]; exact a5
  · rw [u2_off (by omega), u2_off (by omega)]; exact a6
  · rw [u2_off (by omega), u2_off (by omega)]; exact (b k hk).1
  · rw [u2_off (by omega), u2_off (by omega)]; exact (b k hk).2
  · rw [u2_off (by omega), u2_off (by omega)]; exact (c k hk).1
  · rw [u2_off (by omega), u2_off (by omega)]; exact (c k hk).2
  · rw [u2_off (by omega), u2_off (by omega)]; exact e k hk
  · rw [u2_off (by omega), u2_off (by omega), g2 n hn9, decide_eq_true hn]; rfl
  · dsimp only; rw [u2_off (by omega), u2_off (by omega)]; exact k1
  · dsimp only; rw [u2_off (by omega), u2_off (by omega)]; exact k2
  · dsimp only; rw [u2_off (by omega), u2_off (by omega)]; exact k3
  · dsimp only; rw [u2_off (by omega), u2_off (by omega)]; exact k4
  · dsimp only; rw [u2_off (by omega), u2_off (by omega)]; exact k5
  · rw [u2_off (by omega), u2_off (by omega)]; exact k6
  · rw [u2_off (by omega), u2_off (by omega)]; exact k7 i hi
  · rw [u2_off (by omega), u2_at]
  · exact u2_at
/-- draft, texts, and what was thrown are left alone -/
def FrD (τ τ' : Nat → Nat → Int32) : Prop := (∀ q, 371 ≤ q → q ≤ 373 → τ' q = τ q) ∧ ∀ k, k = 0 ∨ k = 2 → τ' 370 k = τ 370 k
theorem FrD.rfl {τ : Nat → Nat → Int32} : FrD τ τ := ⟨fun _ _ _ => Eq.refl _, fun _ _ => Eq.refl _⟩
theorem FrD.trans {τ τ' τ'' : Nat → Nat → Int32} (h : FrD τ τ') (h' : FrD τ' τ'') : FrD τ τ'' := ⟨fun q h1 h2 => (h'.1 q h1 h2).trans (h.1 q h1 h2), fun k h1 => (h'.2 k h1).trans (h.2 k h1)⟩
theorem FrI.d {τ τ' : Nat → Nat → Int32} (h : FrI τ τ') : FrD τ τ' := ⟨fun q h1 h2 => h.1 q (by omega), fun k hk => h.2 k (by omega)⟩
theorem FrR.d {τ τ' : Nat → Nat → Int32} (h : FrR τ τ') : FrD τ τ' := ⟨fun q h1 h2 => h.1 q (by omega) (by omega), fun k hk => h.2 k (by omega) (by omega) (by omega)⟩
theorem MX_frD {τ τ' : Nat → Nat → Int32} {T : Nat → List Nat} (h : FrD τ τ') (hX : MX τ T) : MX τ' T := MX_q (h.1 _ (by omega) (by omega)) (h.1 _ (by omega) (by omega)) hX
section DE
variable {d : Nat} {M : pm_M} {τ : Nat → Nat → Int32} {Q : pm_R → pm_M → Prop} {S : SP} {ck : Nat} {u : List Nat} {rf : Nat → Bool} {n : Nat} {x1 x2 : Int32}
theorem m67a {k : Nat} (hk : k < 1000) (hg : τ 370 29 = 0) (hd : τ 370 26 = nI (k + 1)) (kk : Ev d 67 65 [some (.ref 370), some (.int x1), some (.int x2), some (.int (nI n)), none] [] (sM M τ) Q) : Ev d 67 43 [some (.ref 370), some (.int x1), some (.int x2), some (.int (nI n)), none] [] (sM M τ) Q := by
  refine ev_aload_n t_67_43 rfl ?_
  refine es_get (x := .int (τ (370) 29)) o_MO t_67_44 rfl ?_
  refine ev_top (y := (nI (0))) (by exact hg) ?_
  refine ev_if_neN t_67_47 (by omega) (fun h_47 => ?_) (fun h_47 => ?_)
  · exact absurd rfl h_47
  · refine ev_aload_n t_67_50 rfl ?_
    refine es_get (x := .int (τ (370) 26)) o_MO t_67_51 rfl ?_
    refine ev_top (y := (nI (k + 1))) (by exact hd) ?_
    refine ev_if_gtN t_67_54 (by omega) (fun h_54 => ?_) (fun h_54 => ?_)
    · exact kk
    · omega
theorem m67g (hg : τ 370 29 = 1) (kk : Ev d 67 107 [some (.ref 370), some (.int x1), some (.int x2), some (.int (nI n)), none] [] (sM M τ) Q) : Ev d 67 43 [some (.ref 370), some (.int x1), some (.int x2), some (.int (nI n)), none] [] (sM M τ) Q := by
  refine ev_aload_n t_67_43 rfl ?_
  refine es_get (x := .int (τ (370) 29)) o_MO t_67_44 rfl ?_
  refine ev_top (y := (nI (1))) (by exact hg) ?_
  refine ev_if_neN t_67_47 (by omega) (fun h_47 => ?_) (fun h_47 => ?_)
  · exact kk
  · omega
theorem m67r {m : Nat} (h20 : u.length < 20) (hu : MU τ (u ++ [m]) rf) (hr : rf u.length = true) (hc : Ev d 62 0 [some (.ref 370), none, none, none] [] (sM M τ) (fun q9 M' => ∃ v9, q9 = .inl v9 ∧ v9 = none ∧ Ev (d + 1) 67 43 [some (.ref 370), some (.int x1), some (.int x2), some (.int (nI n)), none] [] M' Q)) : Ev (d + 1) 67 65 [some (.ref 370), some (.int x1), some (.int x2), some (.int (nI n)), none] [] (sM M τ) Q := by
  obtain ⟨h26, -, h89⟩ := MU_top hu
  rw [hr] at h89
  have h89 : τ 389 u.length = nI 1 := h89
  refine ev_aload_n t_67_65 rfl ?_
  refine es_get (x := .int (τ (370) 26)) o_MO t_67_66 rfl ?_
  refine ev_top (y := (nI (u.length + 1))) (by exact h26) ?_
  refine ev_if_leN t_67_69 (by omega) (fun h_69 => ?_) (fun h_69 => ?_)
  · omega
  · refine ev_aload_n t_67_72 rfl ?_
    refine es_get (x := .ref 389) o_MO t_67_73 rfl ?_
    refine ev_aload_n t_67_76 rfl ?_
    refine es_get (x := .int (τ (370) 26)) o_MO t_67_77 rfl ?_
    refine ev_top (y := (nI (u.length + 1))) (by exact h26) ?_
    refine ev_iconst t_67_80 ?_
    change Ev _ _ _ _ ([.int (nI (1)), .int (nI (u.length + 1)), .ref 389]) _ _
    refine ev_isubN t_67_81 (by omega) ?_
    change Ev _ _ _ _ ([.int (nI (u.length)), .ref 389]) _ _
    refine es_zald (k := u.length) a_m389 t_67_82 (by omega) ?_
    refine ev_top (y := nI (1)) h89 ?_
    refine ev_if_eqN t_67_83 (by omega) (fun h_83 => ?_) (fun h_83 => ?_)
    · omega
    · refine ev_aload_n t_67_86 rfl ?_
      refine ev_cl (pm_st_V t_67_87 (as := [.ref 370]) (rest := []) (L0 := [some (.ref 370), none, none, none]) rfl rfl (Nat.le_of_ble_eq_true rfl) (Nat.le_of_ble_eq_true rfl) rfl (es_rc o_MO rfl (Nat.le_of_ble_eq_true rfl))) rfl (hc) ?_
      rintro _ M9 ⟨rfl, k1⟩
      change Ev _ _ _ _ ([]) _ _
      refine ev_goto t_67_90 ?_
      exact k1
theorem m67v {m : Nat} (h20 : u.length < 20) (hu : MU τ (u ++ [m]) rf) (hr : rf u.length = false) (hc : Ev d 57 0 [some (.ref 370), none, none, none, none, none] [] (sM M τ) (fun q9 M' => ∃ v9, q9 = .inl v9 ∧ v9 = none ∧ Ev (d + 1) 67 43 [some (.ref 370), some (.int x1), some (.int x2), some (.int (nI n)), none] [] M' Q)) : Ev (d + 1) 67 65 [some (.ref 370), some (.int x1), some (.int x2), some (.int (nI n)), none] [] (sM M τ) Q := by
  obtain ⟨h26, -, h89⟩ := MU_top hu
  rw [hr] at h89
  have h89 : τ 389 u.length = nI 0 := h89
  refine ev_aload_n t_67_65 rfl ?_
  refine es_get (x := .int (τ (370) 26)) o_MO t_67_66 rfl ?_
  refine ev_top (y := (nI (u.length + 1))) (by exact h26) ?_
  refine ev_if_leN t_67_69 (by omega) (fun h_69 => ?_) (fun h_69 => ?_)
  · omega
  · refine ev_aload_n t_67_72 rfl ?_
    refine es_get (x := .ref 389) o_MO t_67_73 rfl ?_
    refine ev_aload_n t_67_76 rfl ?_
    refine es_get (x := .int (τ (370) 26)) o_MO t_67_77 rfl ?_
    refine ev_top (y := (nI (u.length + 1))) (by exact h26) ?_
    refine ev_iconst t_67_80 ?_
    change Ev _ _ _ _ ([.int (nI (1)), .int (nI (u.length + 1)), .ref 389]) _ _
    refine ev_isubN t_67_81 (by omega) ?_
    change Ev _ _ _ _ ([.int (nI (u.length)), .ref 389]) _ _
    refine es_zald (k := u.length) a_m389 t_67_82 (by omega) ?_
    refine ev_top (y := nI (0)) h89 ?_
    refine ev_if_eqN t_67_83 (by omega) (fun h_83 => ?_) (fun h_83 => ?_)
    · refine ev_aload_n t_67_93 rfl ?_
      refine es_get (x := .int (τ (370) 26)) o_MO t_67_94 rfl ?_
      refine ev_top (y := (nI (u.length + 1))) (by exact h26) ?_
      refine ev_if_leN t_67_97 (by omega) (fun h_97 => ?_) (fun h_97 => ?_)
      · omega
      · refine ev_aload_n t_67_100 rfl ?_
        refine ev_cl (pm_st_V t_67_101 (as := [.ref 370]) (rest := []) (L0 := [some (.ref 370), none, none, none, none, none]) rfl rfl (Nat.le_of_ble_eq_true rfl) (Nat.le_of_ble_eq_true rfl) rfl (es_rc o_MO rfl (Nat.le_of_ble_eq_true rfl))) rfl (hc) ?_
        rintro _ M9 ⟨rfl, k1⟩
        change Ev _ _ _ _ ([]) _ _
        refine ev_goto t_67_104 ?_
        exact k1
    · exact absurd rfl h_83
theorem m67i {P : (Nat → Nat → Int32) → Prop} (hn : n < 96) (hg : τ 370 29 = 0) (hd : τ 370 26 = nI 0) (hc : Ev d 55 0 [some (.ref 370), some (.int (nI n))] [] (sM M τ) (fun q9 M' => ∃ v9, q9 = .inl v9 ∧ v9 = some (.int 1) ∧ ∃ τ', M' = sM M τ' ∧ P τ')) (kk : ∀ τ', P τ' → Ev (d + 1) 67 107 [some (.ref 370), some (.int x1), some (.int x2), some (.int (nI n)), none] [] (sM M τ') Q) : Ev (d + 1) 67 43 [some (.ref 370), some (.int x1), some (.int x2), some (.int (nI n)), none] [] (sM M τ) Q := by
  refine ev_aload_n t_67_43 rfl ?_
  refine es_get (x := .int (τ (370) 29)) o_MO t_67_44 rfl ?_
  refine ev_top (y := (nI (0))) (by exact hg) ?_
  refine ev_if_neN t_67_47 (by omega) (fun h_47 => ?_) (fun h_47 => ?_)
  · exact absurd rfl h_47
  · refine ev_aload_n t_67_50 rfl ?_
    refine es_get (x := .int (τ (370) 26)) o_MO t_67_51 rfl ?_
    refine ev_top (y := (nI (0))) (by exact hd) ?_
    refine ev_if_gtN t_67_54 (by omega) (fun h_54 => ?_) (fun h_54 => ?_)
    · omega
    · refine ev_aload_n t_67_57 rfl ?_
      refine ev_iload_n t_67_58 rfl ?_
      refine ev_cl (pm_st_V t_67_59 (as := [.ref 370, .int (nI (n))]) (rest := []) (L0 := [some (.ref 370), some (.int (nI (n)))]) rfl rfl (Nat.le_of_ble_eq_true rfl) (Nat.le_of_ble_eq_true rfl) rfl (es_rc o_MO rfl (Nat.le_of_ble_eq_true rfl))) rfl (hc) ?_
      rintro _ _ ⟨rfl, τ1, rfl, p1⟩
      change Ev _ _ _ _ ([.int (nI (1))]) _ _
      refine ev_if_neN t_67_62 (by omega) (fun h_62 => ?_) (fun h_62 => ?_)
      · exact kk τ1 p1
      · omega
theorem m67j {P : (Nat → Nat → Int32) → Prop} (hn : n < 96) (hg : τ 370 29 = 0) (hd : τ 370 26 = nI 0) (hc : Ev d 55 0 [some (.ref 370), some (.int (nI n))] [] (sM M τ) (fun q9 M' => ∃ v9, q9 = .inl v9 ∧ v9 = some (.int 0) ∧ ∃ τ', M' = sM M τ' ∧ P τ')) (kk : ∀ τ', P τ' → Ev (d + 1) 67 65 [some (.ref 370), some (.int x1), some (.int x2), some (.int (nI n)), none] [] (sM M τ') Q) : Ev (d + 1) 67 43 [some (.ref 370), some (.int x1), some (.int x2), some (.int (nI n)), none] [] (sM M τ) Q := by
  refine ev_aload_n t_67_43 rfl ?_
  refine es_get (x := .int (τ (370) 29)) o_MO t_67_44 rfl ?_
  refine ev_top (y := (nI (0))) (by exact hg) ?_
  refine ev_if_neN t_67_47 (by omega) (fun h_47 => ?_) (fun h_47 => ?_)
  · exact absurd rfl h_47
  · refine ev_aload_n t_67_50 rfl ?_
    refine es_get (x := .int (τ (370) 26)) o_MO t_67_51 rfl ?_
    refine ev_top (y := (nI (0))) (by exact hd) ?_
    refine ev_if_gtN t_67_54 (by omega) (fun h_54 => ?_) (fun h_54 => ?_)
    · omega
    · refine ev_aload_n t_67_57 rfl ?_
      refine ev_iload_n t_67_58 rfl ?_
      refine ev_cl (pm_st_V t_67_59 (as := [.ref 370, .int (nI (n))]) (rest := []) (L0 := [some (.ref 370), some (.int (nI (n)))]) rfl rfl (Nat.le_of_ble_eq_true rfl) (Nat.le_of_ble_eq_true rfl) rfl (es_rc o_MO rfl (Nat.le_of_ble_eq_true rfl))) rfl (hc) ?_
      rintro _ _ ⟨rfl, τ1, rfl, p1⟩
      change Ev _ _ _ _ ([.int (nI (0))]) _ _
      refine ev_if_neN t_67_62 (by omega) (fun h_62 => ?_) (fun h_62 => ?_)
      · exact absurd rfl h_62
      · exact kk τ1 p1
theorem m67u (hg : τ 370 29 = 1) (kk : Q (.inl (some (.int 0))) (sM M (u2 (u2 τ 370 26 0) 370 0 2))) : Ev d 67 107 [some (.ref 370), some (.int x1), some (.int x2), some (.int (nI n)), none] [] (sM M τ) Q := by
  refine ev_aload_n t_67_107 rfl ?_
  refine ev_iconst t_67_108 ?_
  change Ev _ _ _ _ ([.int (nI (0)), .ref 370]) _ _
  refine es_put o_MO t_67_109 rfl (Nat.le_of_ble_eq_true rfl) rfl ?_
  refine ev_aload_n t_67_112 rfl ?_
  refine es_get (x := .int ((u2 τ (370) 26 (nI (0))) (370) 29)) o_MO t_67_113 rfl ?_
  refine ev_top (y := (nI (1))) (by rw [u2_off (by omega)]; exact hg) ?_
  refine ev_if_eqN t_67_116 (by omega) (fun h_116 => ?_) (fun h_116 => ?_)
  · omega
  · refine ev_aload_n t_67_119 rfl ?_
    refine ev_iconst t_67_120 ?_
    change Ev _ _ _ _ ([.int (nI (2)), .ref 370]) _ _
    refine es_put o_MO t_67_121 rfl (Nat.le_of_ble_eq_true rfl) rfl ?_
    refine ev_iconst t_67_124 ?_
    change Ev _ _ _ _ ([.int (nI (0))]) _ _
    exact ev_reti t_67_125 (ri rfl) kk
theorem m67e {b : Nat} (hg : τ 370 29 = 0) (hR : RM τ S ck) (hn : n ∈ S.2.1) (hl : ∀ m, m < 96 → (S.2.2 m).length ≤ 24) (hb : b < 97) (hck : ck + 1 < 2 ^ 31) (eb : S.1 8 7 = nI b) (kk : ∀ τ', RM τ' (S.1, (put S.2.1 n).drop ((put S.2.1 n).length - b), S.2.2) (ck + 1) → FrD τ τ' → Q (.inl (some (.int (S.1 (38 + 2 * n) 0)))) (sM M τ')) : Ev (d + 2) 67 107 [some (.ref 370), some (.int x1), some (.int x2), some (.int (nI n)), none] [] (sM M τ) Q := by
  have hn9 := hR.2.2.2.2.2 n hn
  have e80 := (hR.2.2.1 n hn).1.1
  obtain ⟨st9, s20, -, -⟩ := hR.2.2.2.1
  have hR1 : RM (u2 τ (370) 26 (nI (0))) S ck := RM_n hR (by omega) (by omega)
  have hR2 := RM_st hR1 hn hl
  have c66 := m66 (d := d) (M := M) (S := (S.1, put S.2.1 n, S.2.2)) hb hck eb hR2
  refine ev_aload_n t_67_107 rfl ?_
  refine ev_iconst t_67_108 ?_
  change Ev _ _ _ _ ([.int (nI (0)), .ref 370]) _ _
  refine es_put o_MO t_67_109 rfl (Nat.le_of_ble_eq_true rfl) rfl ?_
  refine ev_aload_n t_67_112 rfl ?_
  refine es_get (x := .int ((u2 τ (370) 26 (nI (0))) (370) 29)) o_MO t_67_113 rfl ?_
  refine ev_top (y := (nI (0))) (by rw [u2_off (by omega)]; exact hg) ?_
  refine ev_if_eqN t_67_116 (by omega) (fun h_116 => ?_) (fun h_116 => ?_)
  · refine ev_aload_n t_67_126 rfl ?_
    refine ev_iload_n t_67_127 rfl ?_
    refine ev_cl (pm_st_V t_67_128 (as := [.ref 370, .int (nI (n))]) (rest := []) (L0 := [some (.ref 370), some (.int (nI (n)))]) rfl rfl (Nat.le_of_ble_eq_true rfl) (Nat.le_of_ble_eq_true rfl) rfl (es_rc o_MO rfl (Nat.le_of_ble_eq_true rfl))) rfl (m51 (ck := ck) hn9 (by (repeat rw [u2_off (by omega)]); exact s20)) ?_
    rintro _ _ ⟨rfl, rfl⟩
    change Ev _ _ _ _ ([]) _ _
    refine ev_aload_n t_67_131 rfl ?_
    refine ev_cl (pm_st_V t_67_132 (as := [.ref 370]) (rest := []) (L0 := [some (.ref 370), none]) rfl rfl (Nat.le_of_ble_eq_true rfl) (Nat.le_of_ble_eq_true rfl) rfl (es_rc o_MO rfl (Nat.le_of_ble_eq_true rfl))) rfl (c66) ?_
    rintro _ _ ⟨rfl, τ1, rfl, j1, j2⟩; have e801 : τ1 380 n = S.1 (38 + 2 * n) 0 := (by rw [j2 380 (by omega)]; unfold m_end; (repeat rw [u2_off (by omega)]); exact e80)
    change Ev _ _ _ _ ([.int (nI ((put S.2.1 n).length - b))]) _ _
    refine ev_istore (L' := [some (.ref 370), some (.int x1), some (.int x2), some (.int (nI (n))), some (.int (nI ((put S.2.1 n).length - b)))]) t_67_135 (Nat.le_of_ble_eq_true rfl) rfl ?_
    refine ev_aload_n t_67_137 rfl ?_
    refine es_get (x := .ref 380) o_MO t_67_138 rfl ?_
    refine ev_iload_n t_67_141 rfl ?_
    refine es_iald (k := n) a_m380 t_67_142 (by omega) ?_
    refine ev_top (y := (S.1 (38 + 2 * n) 0)) e801 ?_
    exact ev_reti t_67_143 (ri rfl) (kk τ1 j1 ⟨fun q h1 h2 => (by rw [j2 q (by omega)]; unfold m_end; (repeat rw [u2_ne (by omega)])), fun k hk => (by rw [j2 370 (by omega)]; unfold m_end; (repeat rw [u2_off (by omega)]))⟩)
  · exact absurd rfl h_116
theorem m67s {f k : Nat} (hf : f < 6) (hk : k < 16) (hR : RM τ S ck) (kk : ∀ τ', RM τ' S ck → MU τ' [] rf → τ' 370 29 = 0 → τ' 370 0 = 0 → τ' 370 2 = τ 370 2 → (∀ q, 371 ≤ q → q ≤ 373 → τ' q = τ q) → Ev (d + 2) 67 43 [some (.ref 370), some (.int (nI f)), some (.int (nI k)), some (.int (nI (16 * f + k))), none] [] (sM M τ') Q) : Ev (d + 2) 67 0 [some (.ref 370), some (.int (nI f)), some (.int (nI k)), none, none] [] (sM M τ) Q := by
  refine ev_aload_n t_67_0 rfl ?_
  refine ev_iload_n t_67_1 rfl ?_
  refine ev_iload_n t_67_2 rfl ?_
  refine ev_cl (pm_st_S t_67_3 (Nat.le_of_ble_eq_true rfl) (as := [.int (nI (f)), .int (nI (k))]) (rest := [.ref 370]) (L0 := [some (.int (nI (f))), some (.int (nI (k)))]) rfl rfl (Nat.le_of_ble_eq_true rfl) (Nat.le_of_ble_eq_true rfl) rfl) rfl (m63o hf hk) ?_
  rintro _ _ ⟨rfl, rfl⟩
  change Ev _ _ _ _ ([.int (nI (0)), .ref 370]) _ _
  refine ev_if_eqN t_67_6 (by omega) (fun h_6 => ?_) (fun h_6 => ?_)
  · refine ev_iconst t_67_13 ?_
    change Ev _ _ _ _ ([.int (nI (0)), .ref 370]) _ _
    refine es_put o_MO t_67_14 rfl (Nat.le_of_ble_eq_true rfl) rfl ?_
    refine ev_aload_n t_67_17 rfl ?_
    refine es_get (x := .int ((u2 τ (370) 0 (nI (0))) (370) 0)) o_MO t_67_18 rfl ?_
    refine ev_top (y := (nI (0))) (by first | exact u2_at) ?_
    refine ev_if_leN t_67_21 (by omega) (fun h_21 => ?_) (fun h_21 => ?_)
    · refine ev_bipush t_67_26 ?_
      change Ev _ _ _ _ ([.int (nI (16))]) _ _
      refine ev_iload_n t_67_28 rfl ?_
      refine ev_imulN t_67_29 ?_
      refine ev_iload_n t_67_30 rfl ?_
      refine ev_iaddN t_67_31 ?_
      refine ev_istore_n (L' := [some (.ref 370), some (.int (nI (f))), some (.int (nI (k))), some (.int (nI (((16) * (f)) + (k)))), none]) t_67_32 (Nat.le_of_ble_eq_true rfl) rfl ?_
      refine ev_aload_n t_67_33 rfl ?_
      refine ev_iconst t_67_34 ?_
      change Ev _ _ _ _ ([.int (nI (0)), .ref 370]) _ _
      refine es_put o_MO t_67_35 rfl (Nat.le_of_ble_eq_true rfl) rfl ?_
      refine ev_aload_n t_67_38 rfl ?_
      refine ev_iconst t_67_39 ?_
      change Ev _ _ _ _ ([.int (nI (0)), .ref 370]) _ _
      refine es_putV (y := (nI (0))) o_MO t_67_40 (Nat.le_of_ble_eq_true rfl) rfl rfl rfl ?_
      exact kk _ (RM_n (RM_n (RM_t hR) (by omega) (by omega)) (by omega) (by omega)) ⟨by rw [u2_off (by omega), u2_at]; rfl, fun i hi => absurd hi (Nat.not_lt_zero i)⟩ (by rw [u2_at]; rfl) (by rw [u2_off (by omega), u2_off (by omega), u2_at]; rfl) (by rw [u2_off (by omega), u2_off (by omega), u2_off (by omega)]) (fun q h1 h2 => by rw [u2_ne (by omega), u2_ne (by omega), u2_ne (by omega)])
    · omega
  · exact absurd rfl h_6
theorem m67t {x y : Int32} (h : BAD 6 x ∨ BAD 16 y) (hR : RM τ S ck) : Ev (d + 2) 67 0 [some (.ref 370), some (.int x), some (.int y), none, none] [] (sM M τ) (fun q9 M' => ∃ v9, q9 = .inl v9 ∧ v9 = some (.int 0) ∧ ∃ τ', M' = sM M τ' ∧ RM τ' S ck ∧ τ' 370 0 = 1 ∧ FrJ τ τ') := by
  refine ev_aload_n t_67_0 rfl ?_
  refine ev_iload_n t_67_1 rfl ?_
  refine ev_iload_n t_67_2 rfl ?_
  refine ev_cl (pm_st_S t_67_3 (Nat.le_of_ble_eq_true rfl) (as := [.int x, .int y]) (rest := [.ref 370]) (L0 := [some (.int x), some (.int y)]) rfl rfl (Nat.le_of_ble_eq_true rfl) (Nat.le_of_ble_eq_true rfl) rfl) rfl (m63t h) ?_
  rintro _ _ ⟨rfl, rfl⟩
  change Ev _ _ _ _ ([.int (nI (1)), .ref 370]) _ _
  refine ev_if_eqN t_67_6 (by omega) (fun h_6 => ?_) (fun h_6 => ?_)
  · omega
  · refine ev_iconst t_67_9 ?_
    change Ev _ _ _ _ ([.int (nI (1)), .ref 370]) _ _
    refine ev_goto t_67_10 ?_
    refine es_put o_MO t_67_14 rfl (Nat.le_of_ble_eq_true rfl) rfl ?_
    refine ev_aload_n t_67_17 rfl ?_
    refine es_get (x := .int ((u2 τ (370) 0 (nI (1))) (370) 0)) o_MO t_67_18 rfl ?_
    refine ev_top (y := (nI (1))) (by first | exact u2_at) ?_
    refine ev_if_leN t_67_21 (by omega) (fun h_21 => ?_) (fun h_21 => ?_)
    · omega
    · refine ev_iconst t_67_24 ?_
      change Ev _ _ _ _ ([.int (nI (0))]) _ _
      exact ev_reti t_67_25 (ri rfl) ⟨_, rfl, rfl, _, rfl, RM_t hR, u2_at, FrJ.u (by omega) (by omega)⟩
end DE
