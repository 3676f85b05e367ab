/-! The reference: a value is handed over. -/
section HA2
variable {d : Nat} {M : pm_M} {τ : Nat → Nat → Int32} {s : List SM} {v l : Int32} {rd : List Nat} {f a : Nat}
theorem ow2 {c : Nat} (h : ow c = 2) : c = 43 ∨ c = 45 ∨ c = 42 := by
  unfold ow at h
  (repeat' split at h) <;> omega
theorem m60a {c : Nat} (hc : ow c = 2) (hs : s.length < 24) (ha : a < 2 ^ 31) (hW : MW τ ((c, 0, l) :: s) v rd) : Ev (d + 3) 60 0 [some (.ref 370), some (.int (nI f)), some (.int (nI a)), none, none, none, none] [] (sM M τ) (fun q9 M' => ∃ v9, q9 = .inl v9 ∧ v9 = some (.int (nI a)) ∧ ∃ τ', M' = sM M τ' ∧ MW τ' ((c, 1, v) :: s) v rd ∧ FrR τ τ') := by
  obtain ⟨h30, ⟨h90, h91, h92, -⟩, h36, -⟩ := id hW
  have hc2 := ow2 hc
  refine ev_aload_n t_60_0 rfl ?_
  refine es_get (x := .int (τ (370) 30)) o_MO t_60_1 rfl ?_
  refine ev_top (y := (nI (s.length + 1))) (by (repeat rw [u2_off (by omega)]); exact h30) ?_
  refine ev_iconst t_60_4 ?_
  change Ev _ _ _ _ ([.int (nI (1)), .int (nI (s.length + 1))]) _ _
  refine ev_isubN t_60_5 (by omega) ?_
  change Ev _ _ _ _ ([.int (nI (s.length))]) _ _
  refine ev_istore_n (L' := [some (.ref 370), some (.int (nI (f))), some (.int (nI (a))), some (.int (nI (s.length))), none, none, none]) t_60_6 (Nat.le_of_ble_eq_true rfl) rfl ?_
  refine ev_aload_n t_60_7 rfl ?_
  refine es_get (x := .ref 390) o_MO t_60_8 rfl ?_
  refine ev_iload_n t_60_11 rfl ?_
  refine es_iald (k := s.length) a_m390 t_60_12 (by omega) ?_
  refine ev_top (y := nI (c)) h90 ?_
  refine ev_istore (L' := [some (.ref 370), some (.int (nI (f))), some (.int (nI (a))), some (.int (nI (s.length))), some (.int (nI (c))), none, none]) t_60_13 (Nat.le_of_ble_eq_true rfl) rfl ?_
  refine ev_iload t_60_15 rfl ?_
  refine ev_bipush t_60_17 ?_
  change Ev _ _ _ _ ([.int (nI (103)), .int (nI (c))]) _ _
  refine ev_icmp_ltN t_60_19 (by omega) (by omega) (fun h_19 => ?_) (fun h_19 => ?_)
  · refine ev_iload t_60_29 rfl ?_
    refine ev_bipush t_60_31 ?_
    change Ev _ _ _ _ ([.int (nI (65)), .int (nI (c))]) _ _
    refine ev_icmp_ltN t_60_33 (by omega) (by omega) (fun h_33 => ?_) (fun h_33 => ?_)
    · refine ev_iload t_60_172 rfl ?_
      refine ev_bipush t_60_174 ?_
      change Ev _ _ _ _ ([.int (nI (63)), .int (nI (c))]) _ _
      refine ev_icmp_neN t_60_176 (by omega) (by omega) (fun h_176 => ?_) (fun h_176 => ?_)
      · refine ev_iload t_60_224 rfl ?_
        refine ev_bipush t_60_226 ?_
        change Ev _ _ _ _ ([.int (nI (63)), .int (nI (c))]) _ _
        refine ev_icmp_neN t_60_228 (by omega) (by omega) (fun h_228 => ?_) (fun h_228 => ?_)
        · refine ev_aload_n t_60_262 rfl ?_
          refine es_get (x := .ref 391) o_MO t_60_263 rfl ?_
          refine ev_iload_n t_60_266 rfl ?_
          refine es_iald (k := s.length) a_m391 t_60_267 (by omega) ?_
          refine ev_top (y := nI (0)) h91 ?_
          refine ev_if_neN t_60_268 (by omega) (fun h_268 => ?_) (fun h_268 => ?_)
          · exact absurd rfl h_268
          · refine ev_aload_n t_60_271 rfl ?_
            refine es_get (x := .ref 391) o_MO t_60_272 rfl ?_
            refine ev_iload_n t_60_275 rfl ?_
            refine ev_iconst t_60_276 ?_
            change Ev _ _ _ _ ([.int (nI (1)), .int (nI (s.length)), .ref 391]) _ _
            refine es_iast (k := s.length) a_m391 t_60_277 (by omega) ?_
            refine ev_aload_n t_60_278 rfl ?_
            refine es_get (x := .ref 392) o_MO t_60_279 rfl ?_
            refine ev_iload_n t_60_282 rfl ?_
            refine ev_aload_n t_60_283 rfl ?_
            refine es_get (x := .int ((u2 τ (391) (s.length) (nI (1))) (370) 36)) o_MO t_60_284 rfl ?_
            refine ev_top (y := v) (by (repeat rw [u2_off (by omega)]); exact h36) ?_
            refine es_iast (k := s.length) a_m392 t_60_287 (by omega) ?_
            refine ev_iload_n t_60_288 rfl ?_
            exact ev_reti t_60_289 (ri rfl) ⟨_, rfl, rfl, _, rfl, MW_a hW, (FrR.u (by omega)).trans (FrR.u (by omega))⟩
        · omega
      · omega
    · omega
  · omega
theorem m60b {c : Nat} (hc : ow c = 2) (hs : s.length < 24) (ha : a < 2 ^ 31) (hW : MW τ ((c, 1, l) :: s) v rd) : Ev (d + 3) 60 0 [some (.ref 370), some (.int (nI f)), some (.int (nI a)), none, none, none, none] [] (sM M τ) (fun q9 M' => ∃ v9, q9 = .inl v9 ∧ v9 = some (.int (nI a)) ∧ ∃ τ', M' = sM M τ' ∧ MW τ' s (tgt c l v) rd ∧ FrR τ τ') := by
  obtain ⟨h30, ⟨h90, h91, h92, -⟩, h36, -⟩ := id hW
  have hc2 := ow2 hc
  have hl : τ 392 s.length = l := h92 rfl (by omega)
  refine ev_aload_n t_60_0 rfl ?_
  refine es_get (x := .int (τ (370) 30)) o_MO t_60_1 rfl ?_
  refine ev_top (y := (nI (s.length + 1))) (by (repeat rw [u2_off (by omega)]); exact h30) ?_
  refine ev_iconst t_60_4 ?_
  change Ev _ _ _ _ ([.int (nI (1)), .int (nI (s.length + 1))]) _ _
  refine ev_isubN t_60_5 (by omega) ?_
  change Ev _ _ _ _ ([.int (nI (s.length))]) _ _
  refine ev_istore_n (L' := [some (.ref 370), some (.int (nI (f))), some (.int (nI (a))), some (.int (nI (s.length))), none, none, none]) t_60_6 (Nat.le_of_ble_eq_true rfl) rfl ?_
  refine ev_aload_n t_60_7 rfl ?_
  refine es_get (x := .ref 390) o_MO t_60_8 rfl ?_
  refine ev_iload_n t_60_11 rfl ?_
  refine es_iald (k := s.length) a_m390 t_60_12 (by omega) ?_
  refine ev_top (y := nI (c)) h90 ?_
  refine ev_istore (L' := [some (.ref 370), some (.int (nI (f))), some (.int (nI (a))), some (.int (nI (s.length))), some (.int (nI (c))), none, none]) t_60_13 (Nat.le_of_ble_eq_true rfl) rfl ?_
  refine ev_iload t_60_15 rfl ?_
  refine ev_bipush t_60_17 ?_
  change Ev _ _ _ _ ([.int (nI (103)), .int (nI (c))]) _ _
  refine ev_icmp_ltN t_60_19 (by omega) (by omega) (fun h_19 => ?_) (fun h_19 => ?_)
  · refine ev_iload t_60_29 rfl ?_
    refine ev_bipush t_60_31 ?_
    change Ev _ _ _ _ ([.int (nI (65)), .int (nI (c))]) _ _
    refine ev_icmp_ltN t_60_33 (by omega) (by omega) (fun h_33 => ?_) (fun h_33 => ?_)
    · refine ev_iload t_60_172 rfl ?_
      refine ev_bipush t_60_174 ?_
      change Ev _ _ _ _ ([.int (nI (63)), .int (nI (c))]) _ _
      refine ev_icmp_neN t_60_176 (by omega) (by omega) (fun h_176 => ?_) (fun h_176 => ?_)
      · refine ev_iload t_60_224 rfl ?_
        refine ev_bipush t_60_226 ?_
        change Ev _ _ _ _ ([.int (nI (63)), .int (nI (c))]) _ _
        refine ev_icmp_neN t_60_228 (by omega) (by omega) (fun h_228 => ?_) (fun h_228 => ?_)
        · refine ev_aload_n t_60_262 rfl ?_
          refine es_get (x := .ref 391) o_MO t_60_263 rfl ?_
          refine ev_iload_n t_60_266 rfl ?_
          refine es_iald (k := s.length) a_m391 t_60_267 (by omega) ?_
          refine ev_top (y := nI (1)) h91 ?_
          refine ev_if_neN t_60_268 (by omega) (fun h_268 => ?_) (fun h_268 => ?_)
          · refine ev_aload_n t_60_290 rfl ?_
            refine ev_iload t_60_291 rfl ?_
            refine ev_bipush t_60_293 ?_
            change Ev _ _ _ _ ([.int (nI (43)), .int (nI (c)), .ref 370]) _ _
            refine ev_icmp_neN t_60_295 (by omega) (by omega) (fun h_295 => ?_) (fun h_295 => ?_)
            · refine ev_iload t_60_312 rfl ?_
              refine ev_bipush t_60_314 ?_
              change Ev _ _ _ _ ([.int (nI (45)), .int (nI (c)), .ref 370]) _ _
              refine ev_icmp_neN t_60_316 (by omega) (by omega) (fun h_316 => ?_) (fun h_316 => ?_)
              · refine ev_aload_n t_60_333 rfl ?_
                refine es_get (x := .ref 392) o_MO t_60_334 rfl ?_
                refine ev_iload_n t_60_337 rfl ?_
                refine es_iald (k := s.length) a_m392 t_60_338 (by omega) ?_
                refine ev_top (y := l) hl ?_
                refine ev_aload_n t_60_339 rfl ?_
                refine es_get (x := .int (τ (370) 36)) o_MO t_60_340 rfl ?_
                refine ev_top (y := v) (by (repeat rw [u2_off (by omega)]); exact h36) ?_
                refine ev_imul t_60_343 ?_
                refine es_put o_MO t_60_344 rfl (Nat.le_of_ble_eq_true rfl) rfl ?_
                refine ev_aload_n t_60_347 rfl ?_
                refine ev_dup t_60_348 rfl ?_
                refine es_get (x := .int ((u2 τ (370) 36 (l * v)) (370) 30)) o_MO t_60_349 rfl ?_
                refine ev_top (y := (nI (s.length + 1))) (by (repeat rw [u2_off (by omega)]); exact h30) ?_
                refine ev_iconst t_60_352 ?_
                change Ev _ _ _ _ ([.int (nI (1)), .int (nI (s.length + 1)), .ref 370]) _ _
                refine ev_isubN t_60_353 (by omega) ?_
                change Ev _ _ _ _ ([.int (nI (s.length)), .ref 370]) _ _
                refine es_put o_MO t_60_354 rfl (Nat.le_of_ble_eq_true rfl) rfl ?_
                refine ev_iload_n t_60_357 rfl ?_
                exact ev_reti t_60_358 (ri rfl) ⟨_, rfl, rfl, _, rfl, (by first | (rw [show tgt c l v = l + v by unfold tgt; rw [if_pos (by omega)]]; exact MW_p (MW_v hW)) | (rw [show tgt c l v = l - v by unfold tgt; rw [if_neg (by omega), if_pos (by omega)]]; exact MW_p (MW_v hW)) | (rw [show tgt c l v = l * v by unfold tgt; rw [if_neg (by omega), if_neg (by omega)]]; exact MW_p (MW_v hW))), (FrR.u (by omega)).trans (FrR.u (by omega))⟩
              · refine ev_aload_n t_60_319 rfl ?_
                refine es_get (x := .ref 392) o_MO t_60_320 rfl ?_
                refine ev_iload_n t_60_323 rfl ?_
                refine es_iald (k := s.length) a_m392 t_60_324 (by omega) ?_
                refine ev_top (y := l) hl ?_
                refine ev_aload_n t_60_325 rfl ?_
                refine es_get (x := .int (τ (370) 36)) o_MO t_60_326 rfl ?_
                refine ev_top (y := v) (by (repeat rw [u2_off (by omega)]); exact h36) ?_
                refine ev_isub t_60_329 ?_
                refine ev_goto t_60_330 ?_
                refine es_put o_MO t_60_344 rfl (Nat.le_of_ble_eq_true rfl) rfl ?_
                refine ev_aload_n t_60_347 rfl ?_
                refine ev_dup t_60_348 rfl ?_
                refine es_get (x := .int ((u2 τ (370) 36 (l - v)) (370) 30)) o_MO t_60_349 rfl ?_
                refine ev_top (y := (nI (s.length + 1))) (by (repeat rw [u2_off (by omega)]); exact h30) ?_
                refine ev_iconst t_60_352 ?_
                change Ev _ _ _ _ ([.int (nI (1)), .int (nI (s.length + 1)), .ref 370]) _ _
                refine ev_isubN t_60_353 (by omega) ?_
                change Ev _ _ _ _ ([.int (nI (s.length)), .ref 370]) _ _
                refine es_put o_MO t_60_354 rfl (Nat.le_of_ble_eq_true rfl) rfl ?_
                refine ev_iload_n t_60_357 rfl ?_
                exact ev_reti t_60_358 (ri rfl) ⟨_, rfl, rfl, _, rfl, (by first | (rw [show tgt c l v = l + v by unfold tgt; rw [if_pos (by omega)]]; exact MW_p (MW_v hW)) | (rw [show tgt c l v = l - v by unfold tgt; rw [if_neg (by omega), if_pos (by omega)]]; exact MW_p (MW_v hW)) | (rw [show tgt c l v = l * v by unfold tgt; rw [if_neg (by omega), if_neg (by omega)]]; exact MW_p (MW_v hW))), (FrR.u (by omega)).trans (FrR.u (by omega))⟩
            · refine ev_aload_n t_60_298 rfl ?_
              refine es_get (x := .ref 392) o_MO t_60_299 rfl ?_
              refine ev_iload_n t_60_302 rfl ?_
              refine es_iald (k := s.length) a_m392 t_60_303 (by omega) ?_
              refine ev_top (y := l) hl ?_
              refine ev_aload_n t_60_304 rfl ?_
              refine es_get (x := .int (τ (370) 36)) o_MO t_60_305 rfl ?_
              refine ev_top (y := v) (by (repeat rw [u2_off (by omega)]); exact h36) ?_
              refine ev_iadd t_60_308 ?_
              refine ev_goto t_60_309 ?_
              refine es_put o_MO t_60_344 rfl (Nat.le_of_ble_eq_true rfl) rfl ?_
              refine ev_aload_n t_60_347 rfl ?_
              refine ev_dup t_60_348 rfl ?_
              refine es_get (x := .int ((u2 τ (370) 36 (l + v)) (370) 30)) o_MO t_60_349 rfl ?_
              refine ev_top (y := (nI (s.length + 1))) (by (repeat rw [u2_off (by omega)]); exact h30) ?_
              refine ev_iconst t_60_352 ?_
              change Ev _ _ _ _ ([.int (nI (1)), .int (nI (s.length + 1)), .ref 370]) _ _
              refine ev_isubN t_60_353 (by omega) ?_
              change Ev _ _ _ _ ([.int (nI (s.length)), .ref 370]) _ _
              refine es_put o_MO t_60_354 rfl (Nat.le_of_ble_eq_true rfl) rfl ?_
              refine ev_iload_n t_60_357 rfl ?_
              exact ev_reti t_60_358 (ri rfl) ⟨_, rfl, rfl, _, rfl, (by first | (rw [show tgt c l v = l + v by unfold tgt; rw [if_pos (by omega)]]; exact MW_p (MW_v hW)) | (rw [show tgt c l v = l - v by unfold tgt; rw [if_neg (by omega), if_pos (by omega)]]; exact MW_p (MW_v hW)) | (rw [show tgt c l v = l * v by unfold tgt; rw [if_neg (by omega), if_neg (by omega)]]; exact MW_p (MW_v hW))), (FrR.u (by omega)).trans (FrR.u (by omega))⟩
          · omega
        · omega
      · omega
    · omega
  · omega
theorem m60c (hs : s.length < 24) (ha : a < 2 ^ 31) (hv : ¬ v = 0) (hW : MW τ ((63, 0, l) :: s) v rd) : Ev (d + 3) 60 0 [some (.ref 370), some (.int (nI f)), some (.int (nI a)), none, none, none, none] [] (sM M τ) (fun q9 M' => ∃ v9, q9 = .inl v9 ∧ v9 = some (.int (nI a)) ∧ ∃ τ', M' = sM M τ' ∧ MW τ' ((63, 1, l) :: s) v rd ∧ FrR τ τ') := by
  obtain ⟨h30, ⟨h90, h91, h92, -⟩, h36, -⟩ := id hW
  refine ev_aload_n t_60_0 rfl ?_
  refine es_get (x := .int (τ (370) 30)) o_MO t_60_1 rfl ?_
  refine ev_top (y := (nI (s.length + 1))) (by (repeat rw [u2_off (by omega)]); exact h30) ?_
  refine ev_iconst t_60_4 ?_
  change Ev _ _ _ _ ([.int (nI (1)), .int (nI (s.length + 1))]) _ _
  refine ev_isubN t_60_5 (by omega) ?_
  change Ev _ _ _ _ ([.int (nI (s.length))]) _ _
  refine ev_istore_n (L' := [some (.ref 370), some (.int (nI (f))), some (.int (nI (a))), some (.int (nI (s.length))), none, none, none]) t_60_6 (Nat.le_of_ble_eq_true rfl) rfl ?_
  refine ev_aload_n t_60_7 rfl ?_
  refine es_get (x := .ref 390) o_MO t_60_8 rfl ?_
  refine ev_iload_n t_60_11 rfl ?_
  refine es_iald (k := s.length) a_m390 t_60_12 (by omega) ?_
  refine ev_top (y := nI (63)) h90 ?_
  refine ev_istore (L' := [some (.ref 370), some (.int (nI (f))), some (.int (nI (a))), some (.int (nI (s.length))), some (.int (nI (63))), none, none]) t_60_13 (Nat.le_of_ble_eq_true rfl) rfl ?_
  refine ev_iload t_60_15 rfl ?_
  refine ev_bipush t_60_17 ?_
  change Ev _ _ _ _ ([.int (nI (103)), .int (nI (63))]) _ _
  refine ev_icmp_ltN t_60_19 (by omega) (by omega) (fun h_19 => ?_) (fun h_19 => ?_)
  · refine ev_iload t_60_29 rfl ?_
    refine ev_bipush t_60_31 ?_
    change Ev _ _ _ _ ([.int (nI (65)), .int (nI (63))]) _ _
    refine ev_icmp_ltN t_60_33 (by omega) (by omega) (fun h_33 => ?_) (fun h_33 => ?_)
    · refine ev_iload t_60_172 rfl ?_
      refine ev_bipush t_60_174 ?_
      change Ev _ _ _ _ ([.int (nI (63)), .int (nI (63))]) _ _
      refine ev_icmp_neN t_60_176 (by omega) (by omega) (fun h_176 => ?_) (fun h_176 => ?_)
      · omega
      · refine ev_aload_n t_60_179 rfl ?_
        refine es_get (x := .ref 391) o_MO t_60_180 rfl ?_
        refine ev_iload_n t_60_183 rfl ?_
        refine es_iald (k := s.length) a_m391 t_60_184 (by omega) ?_
        refine ev_top (y := nI (0)) h91 ?_
        refine ev_if_neN t_60_185 (by omega) (fun h_185 => ?_) (fun h_185 => ?_)
        · exact absurd rfl h_185
        · refine ev_aload_n t_60_188 rfl ?_
          refine es_get (x := .ref 391) o_MO t_60_189 rfl ?_
          refine ev_iload_n t_60_192 rfl ?_
          refine ev_aload_n t_60_193 rfl ?_
          refine es_get (x := .int (τ (370) 36)) o_MO t_60_194 rfl ?_
          refine ev_top (y := v) (by (repeat rw [u2_off (by omega)]); exact h36) ?_
          refine ev_if_eq (y := 0) t_60_197 (fun h_197 => ?_) (fun h_197 => ?_)
          · exact absurd h_197 hv
          · refine ev_iconst t_60_200 ?_
            change Ev _ _ _ _ ([.int (nI (1)), .int (nI (s.length)), .ref 391]) _ _
            refine ev_goto t_60_201 ?_
            refine es_iast (k := s.length) a_m391 t_60_205 (by omega) ?_
            refine ev_aload_n t_60_206 rfl ?_
            refine es_get (x := .int ((u2 τ (391) (s.length) (nI (1))) (370) 36)) o_MO t_60_207 rfl ?_
            refine ev_top (y := v) (by (repeat rw [u2_off (by omega)]); exact h36) ?_
            refine ev_if_eq (y := 0) t_60_210 (fun h_210 => ?_) (fun h_210 => ?_)
            · exact absurd h_210 hv
            · refine ev_iload_n t_60_213 rfl ?_
              refine ev_goto t_60_214 ?_
              exact ev_reti t_60_223 (ri rfl) ⟨_, rfl, rfl, _, rfl, MW_k rfl hW, FrR.u (by omega)⟩
    · omega
  · omega
theorem m60d (hs : s.length < 24) (hf : f < 6) {T : Nat → List Nat} (hX : MX τ T) (h24 : (T f).length ≤ 24) (h256 : ∀ c ∈ T f, c < 256) {D : Nat} (hi : a ≤ (T f).length) (hRs : Rst D ((T f).drop a)) (hD : 1 ≤ D) (hW : MW τ ((63, 0, l) :: s) 0 rd) : Ev (d + 3) 60 0 [some (.ref 370), some (.int (nI f)), some (.int (nI a)), none, none, none, none] [] (sM M τ) (fun q9 M' => ∃ v9, q9 = .inl v9 ∧ v9 = some (.int (nI (bhd ((T f).drop a) 1 a))) ∧ ∃ τ', M' = sM M τ' ∧ MW τ' ((63, 2, l) :: s) 0 rd ∧ FrR τ τ') := by
  obtain ⟨h30, ⟨h90, h91, h92, -⟩, h36, -⟩ := id hW
  refine ev_aload_n t_60_0 rfl ?_
  refine es_get (x := .int (τ (370) 30)) o_MO t_60_1 rfl ?_
  refine ev_top (y := (nI (s.length + 1))) (by (repeat rw [u2_off (by omega)]); exact h30) ?_
  refine ev_iconst t_60_4 ?_
  change Ev _ _ _ _ ([.int (nI (1)), .int (nI (s.length + 1))]) _ _
  refine ev_isubN t_60_5 (by omega) ?_
  change Ev _ _ _ _ ([.int (nI (s.length))]) _ _
  refine ev_istore_n (L' := [some (.ref 370), some (.int (nI (f))), some (.int (nI (a))), some (.int (nI (s.length))), none, none, none]) t_60_6 (Nat.le_of_ble_eq_true rfl) rfl ?_
  refine ev_aload_n t_60_7 rfl ?_
  refine es_get (x := .ref 390) o_MO t_60_8 rfl ?_
  refine ev_iload_n t_60_11 rfl ?_
  refine es_iald (k := s.length) a_m390 t_60_12 (by omega) ?_
  refine ev_top (y := nI (63)) h90 ?_
  refine ev_istore (L' := [some (.ref 370), some (.int (nI (f))), some (.int (nI (a))), some (.int (nI (s.length))), some (.int (nI (63))), none, none]) t_60_13 (Nat.le_of_ble_eq_true rfl) rfl ?_
  refine ev_iload t_60_15 rfl ?_
  refine ev_bipush t_60_17 ?_
  change Ev _ _ _ _ ([.int (nI (103)), .int (nI (63))]) _ _
  refine ev_icmp_ltN t_60_19 (by omega) (by omega) (fun h_19 => ?_) (fun h_19 => ?_)
  · refine ev_iload t_60_29 rfl ?_
    refine ev_bipush t_60_31 ?_
    change Ev _ _ _ _ ([.int (nI (65)), .int (nI (63))]) _ _
    refine ev_icmp_ltN t_60_33 (by omega) (by omega) (fun h_33 => ?_) (fun h_33 => ?_)
    · refine ev_iload t_60_172 rfl ?_
      refine ev_bipush t_60_174 ?_
      change Ev _ _ _ _ ([.int (nI (63)), .int (nI (63))]) _ _
      refine ev_icmp_neN t_60_176 (by omega) (by omega) (fun h_176 => ?_) (fun h_176 => ?_)
      · omega
      · refine ev_aload_n t_60_179 rfl ?_
        refine es_get (x := .ref 391) o_MO t_60_180 rfl ?_
        refine ev_iload_n t_60_183 rfl ?_
        refine es_iald (k := s.length) a_m391 t_60_184 (by omega) ?_
        refine ev_top (y := nI (0)) h91 ?_
        refine ev_if_neN t_60_185 (by omega) (fun h_185 => ?_) (fun h_185 => ?_)
        · exact absurd rfl h_185
        · refine ev_aload_n t_60_188 rfl ?_
          refine es_get (x := .ref 391) o_MO t_60_189 rfl ?_
          refine ev_iload_n t_60_192 rfl ?_
          refine ev_aload_n t_60_193 rfl ?_
          refine es_get (x := .int (τ (370) 36)) o_MO t_60_194 rfl ?_
          refine ev_top (y := (nI (0))) (by (repeat rw [u2_off (by omega)]); exact h36) ?_
          refine ev_if_eqN t_60_197 (by omega) (fun h_197 => ?_) (fun h_197 => ?_)
          · refine ev_iconst t_60_204 ?_
            change Ev _ _ _ _ ([.int (nI (2)), .int (nI (s.length)), .ref 391]) _ _
            refine es_iast (k := s.length) a_m391 t_60_205 (by omega) ?_
            refine ev_aload_n t_60_206 rfl ?_
            refine es_get (x := .int ((u2 τ (391) (s.length) (nI (2))) (370) 36)) o_MO t_60_207 rfl ?_
            refine ev_top (y := (nI (0))) (by (repeat rw [u2_off (by omega)]); exact h36) ?_
            refine ev_if_eqN t_60_210 (by omega) (fun h_210 => ?_) (fun h_210 => ?_)
            · refine ev_aload_n t_60_217 rfl ?_
              refine ev_iload_n t_60_218 rfl ?_
              refine ev_iload_n t_60_219 rfl ?_
              refine ev_cl (pm_st_V t_60_220 (as := [.ref 370, .int (nI (f)), .int (nI (a))]) (rest := []) (L0 := [some (.ref 370), some (.int (nI (f))), some (.int (nI (a))), none, none]) rfl rfl (Nat.le_of_ble_eq_true rfl) (Nat.le_of_ble_eq_true rfl) rfl (es_rc o_MO rfl (Nat.le_of_ble_eq_true rfl))) rfl (m59 hf (MX_u (by omega) hX) h24 h256 hi hRs hD) ?_
              rintro _ _ ⟨rfl, rfl⟩
              change Ev _ _ _ _ ([.int (nI (bhd ((T f).drop a) 1 a))]) _ _
              exact ev_reti t_60_223 (ri rfl) ⟨_, rfl, rfl, _, rfl, MW_k rfl hW, FrR.u (by omega)⟩
            · exact absurd rfl h_210
          · exact absurd rfl h_197
    · omega
  · omega
theorem m60e (hs : s.length < 24) (hf : f < 6) {T : Nat → List Nat} (hX : MX τ T) (h24 : (T f).length ≤ 24) (h256 : ∀ c ∈ T f, c < 256) {D : Nat} (hi : a ≤ (T f).length) (hRs : Rst D ((T f).drop a)) (hD : 1 ≤ D) (hW : MW τ ((63, 1, l) :: s) v rd) : Ev (d + 3) 60 0 [some (.ref 370), some (.int (nI f)), some (.int (nI a)), none, none, none, none] [] (sM M τ) (fun q9 M' => ∃ v9, q9 = .inl v9 ∧ v9 = some (.int (nI (bhd ((T f).drop a) 1 a))) ∧ ∃ τ', M' = sM M τ' ∧ MW τ' s v rd ∧ FrR τ τ') := by
  obtain ⟨h30, ⟨h90, h91, h92, -⟩, h36, -⟩ := id hW
  refine ev_aload_n t_60_0 rfl ?_
  refine es_get (x := .int (τ (370) 30)) o_MO t_60_1 rfl ?_
  refine ev_top (y := (nI (s.length + 1))) (by (repeat rw [u2_off (by omega)]); exact h30) ?_
  refine ev_iconst t_60_4 ?_
  change Ev _ _ _ _ ([.int (nI (1)), .int (nI (s.length + 1))]) _ _
  refine ev_isubN t_60_5 (by omega) ?_
  change Ev _ _ _ _ ([.int (nI (s.length))]) _ _
  refine ev_istore_n (L' := [some (.ref 370), some (.int (nI (f))), some (.int (nI (a))), some (.int (nI (s.length))), none, none, none]) t_60_6 (Nat.le_of_ble_eq_true rfl) rfl ?_
  refine ev_aload_n t_60_7 rfl ?_
  refine es_get (x := .ref 390) o_MO t_60_8 rfl ?_
  refine ev_iload_n t_60_11 rfl ?_
  refine es_iald (k := s.length) a_m390 t_60_12 (by omega) ?_
  refine ev_top (y := nI (63)) h90 ?_
  refine ev_istore (L' := [some (.ref 370), some (.int (nI (f))), some (.int (nI (a))), some (.int (nI (s.length))), some (.int (nI (63))), none, none]) t_60_13 (Nat.le_of_ble_eq_true rfl) rfl ?_
  refine ev_iload t_60_15 rfl ?_
  refine ev_bipush t_60_17 ?_
  change Ev _ _ _ _ ([.int (nI (103)), .int (nI (63))]) _ _
  refine ev_icmp_ltN t_60_19 (by omega) (by omega) (fun h_19 => ?_) (fun h_19 => ?_)
  · refine ev_iload t_60_29 rfl ?_
    refine ev_bipush t_60_31 ?_
    change Ev _ _ _ _ ([.int (nI (65)), .int (nI (63))]) _ _
    refine ev_icmp_ltN t_60_33 (by omega) (by omega) (fun h_33 => ?_) (fun h_33 => ?_)
    · refine ev_iload t_60_172 rfl ?_
      refine ev_bipush t_60_174 ?_
      change Ev _ _ _ _ ([.int (nI (63)), .int (nI (63))]) _ _
      refine ev_icmp_neN t_60_176 (by omega) (by omega) (fun h_176 => ?_) (fun h_176 => ?_)
      · omega
      · refine ev_aload_n t_60_179 rfl ?_
        refine es_get (x := .ref 391) o_MO t_60_180 rfl ?_
        refine ev_iload_n t_60_183 rfl ?_
        refine es_iald (k := s.length) a_m391 t_60_184 (by omega) ?_
        refine ev_top (y := nI (1)) h91 ?_
        refine ev_if_neN t_60_185 (by omega) (fun h_185 => ?_) (fun h_185 => ?_)
        · refine ev_iload t_60_224 rfl ?_
          refine ev_bipush t_60_226 ?_
          change Ev _ _ _ _ ([.int (nI (63)), .int (nI (63))]) _ _
          refine ev_icmp_neN t_60_228 (by omega) (by omega) (fun h_228 => ?_) (fun h_228 => ?_)
          · omega
          · refine ev_aload_n t_60_231 rfl ?_
            refine ev_dup t_60_232 rfl ?_
            refine es_get (x := .int (τ (370) 30)) o_MO t_60_233 rfl ?_
            refine ev_top (y := (nI (s.length + 1))) (by (repeat rw [u2_off (by omega)]); exact h30) ?_
            refine ev_iconst t_60_236 ?_
            change Ev _ _ _ _ ([.int (nI (1)), .int (nI (s.length + 1)), .ref 370]) _ _
            refine ev_isubN t_60_237 (by omega) ?_
            change Ev _ _ _ _ ([.int (nI (s.length)), .ref 370]) _ _
            refine es_put o_MO t_60_238 rfl (Nat.le_of_ble_eq_true rfl) rfl ?_
            refine ev_aload_n t_60_241 rfl ?_
            refine es_get (x := .ref 391) o_MO t_60_242 rfl ?_
            refine ev_iload_n t_60_245 rfl ?_
            refine es_iald (k := s.length) a_m391 t_60_246 (by omega) ?_
            refine ev_top (y := nI (1)) (by rw [u2_off (by omega)]; exact h91) ?_
            refine ev_iconst t_60_247 ?_
            change Ev _ _ _ _ ([.int (nI (1)), .int (nI (1))]) _ _
            refine ev_icmp_neN t_60_248 (by omega) (by omega) (fun h_248 => ?_) (fun h_248 => ?_)
            · omega
            · refine ev_aload_n t_60_251 rfl ?_
              refine ev_iload_n t_60_252 rfl ?_
              refine ev_iload_n t_60_253 rfl ?_
              refine ev_cl (pm_st_V t_60_254 (as := [.ref 370, .int (nI (f)), .int (nI (a))]) (rest := []) (L0 := [some (.ref 370), some (.int (nI (f))), some (.int (nI (a))), none, none]) rfl rfl (Nat.le_of_ble_eq_true rfl) (Nat.le_of_ble_eq_true rfl) rfl (es_rc o_MO rfl (Nat.le_of_ble_eq_true rfl))) rfl (m59 hf (MX_u (by omega) hX) h24 h256 hi hRs hD) ?_
              rintro _ _ ⟨rfl, rfl⟩
              change Ev _ _ _ _ ([.int (nI (bhd ((T f).drop a) 1 a))]) _ _
              refine ev_goto t_60_257 ?_
              exact ev_reti t_60_261 (ri rfl) ⟨_, rfl, rfl, _, rfl, MW_p hW, FrR.u (by omega)⟩
        · omega
    · omega
  · omega
theorem m60f (hs : s.length < 24) (ha : a < 2 ^ 31) (hW : MW τ ((63, 2, l) :: s) v rd) : Ev (d + 3) 60 0 [some (.ref 370), some (.int (nI f)), some (.int (nI a)), none, none, none, none] [] (sM M τ) (fun q9 M' => ∃ v9, q9 = .inl v9 ∧ v9 = some (.int (nI a)) ∧ ∃ τ', M' = sM M τ' ∧ MW τ' s v rd ∧ FrR τ τ') := by
  obtain ⟨h30, ⟨h90, h91, h92, -⟩, h36, -⟩ := id hW
  refine ev_aload_n t_60_0 rfl ?_
  refine es_get (x := .int (τ (370) 30)) o_MO t_60_1 rfl ?_
  refine ev_top (y := (nI (s.length + 1))) (by (repeat rw [u2_off (by omega)]); exact h30) ?_
  refine ev_iconst t_60_4 ?_
  change Ev _ _ _ _ ([.int (nI (1)), .int (nI (s.length + 1))]) _ _
  refine ev_isubN t_60_5 (by omega) ?_
  change Ev _ _ _ _ ([.int (nI (s.length))]) _ _
  refine ev_istore_n (L' := [some (.ref 370), some (.int (nI (f))), some (.int (nI (a))), some (.int (nI (s.length))), none, none, none]) t_60_6 (Nat.le_of_ble_eq_true rfl) rfl ?_
  refine ev_aload_n t_60_7 rfl ?_
  refine es_get (x := .ref 390) o_MO t_60_8 rfl ?_
  refine ev_iload_n t_60_11 rfl ?_
  refine es_iald (k := s.length) a_m390 t_60_12 (by omega) ?_
  refine ev_top (y := nI (63)) h90 ?_
  refine ev_istore (L' := [some (.ref 370), some (.int (nI (f))), some (.int (nI (a))), some (.int (nI (s.length))), some (.int (nI (63))), none, none]) t_60_13 (Nat.le_of_ble_eq_true rfl) rfl ?_
  refine ev_iload t_60_15 rfl ?_
  refine ev_bipush t_60_17 ?_
  change Ev _ _ _ _ ([.int (nI (103)), .int (nI (63))]) _ _
  refine ev_icmp_ltN t_60_19 (by omega) (by omega) (fun h_19 => ?_) (fun h_19 => ?_)
  · refine ev_iload t_60_29 rfl ?_
    refine ev_bipush t_60_31 ?_
    change Ev _ _ _ _ ([.int (nI (65)), .int (nI (63))]) _ _
    refine ev_icmp_ltN t_60_33 (by omega) (by omega) (fun h_33 => ?_) (fun h_33 => ?_)
    · refine ev_iload t_60_172 rfl ?_
      refine ev_bipush t_60_174 ?_
      change Ev _ _ _ _ ([.int (nI (63)), .int (nI (63))]) _ _
      refine ev_icmp_neN t_60_176 (by omega) (by omega) (fun h_176 => ?_) (fun h_176 => ?_)
      · omega
      · refine ev_aload_n t_60_179 rfl ?_
        refine es_get (x := .ref 391) o_MO t_60_180 rfl ?_
        refine ev_iload_n t_60_183 rfl ?_
        refine es_iald (k := s.length) a_m391 t_60_184 (by omega) ?_
        refine ev_top (y := nI (2)) h91 ?_
        refine ev_if_neN t_60_185 (by omega) (fun h_185 => ?_) (fun h_185 => ?_)
        · refine ev_iload t_60_224 rfl ?_
          refine ev_bipush t_60_226 ?_
          change Ev _ _ _ _ ([.int (nI (63)), .int (nI (63))]) _ _
          refine ev_icmp_neN t_60_228 (by omega) (by omega) (fun h_228 => ?_) (fun h_228 => ?_)
          · omega
          · refine ev_aload_n t_60_231 rfl ?_
            refine ev_dup t_60_232 rfl ?_
            refine es_get (x := .int (τ (370) 30)) o_MO t_60_233 rfl ?_
            refine ev_top (y := (nI (s.length + 1))) (by (repeat rw [u2_off (by omega)]); exact h30) ?_
            refine ev_iconst t_60_236 ?_
            change Ev _ _ _ _ ([.int (nI (1)), .int (nI (s.length + 1)), .ref 370]) _ _
            refine ev_isubN t_60_237 (by omega) ?_
            change Ev _ _ _ _ ([.int (nI (s.length)), .ref 370]) _ _
            refine es_put o_MO t_60_238 rfl (Nat.le_of_ble_eq_true rfl) rfl ?_
            refine ev_aload_n t_60_241 rfl ?_
            refine es_get (x := .ref 391) o_MO t_60_242 rfl ?_
            refine ev_iload_n t_60_245 rfl ?_
            refine es_iald (k := s.length) a_m391 t_60_246 (by omega) ?_
            refine ev_top (y := nI (2)) (by rw [u2_off (by omega)]; exact h91) ?_
            refine ev_iconst t_60_247 ?_
            change Ev _ _ _ _ ([.int (nI (1)), .int (nI (2))]) _ _
            refine ev_icmp_neN t_60_248 (by omega) (by omega) (fun h_248 => ?_) (fun h_248 => ?_)
            · refine ev_iload_n t_60_260 rfl ?_
              exact ev_reti t_60_261 (ri rfl) ⟨_, rfl, rfl, _, rfl, MW_p hW, FrR.u (by omega)⟩
            · omega
        · omega
    · omega
  · omega
theorem m58n {sm : List SM} {r : Nat} (hr : r < 256) (hb : ∀ x ∈ rd, x < 256) (h24 : rd.length < 24) (hW : MW τ sm v rd) : Ev d 58 0 [some (.ref 370), some (.int (nI r)), none] [] (sM M τ) (fun q9 M' => ∃ v9, q9 = .inl v9 ∧ v9 = none ∧ ∃ τ', M' = sM M τ' ∧ MW τ' sm v (nte rd r) ∧ FrR τ τ') := by
  refine ev_mono (m58 hr hb h24 hW.2.2.2.1 hW.2.2.2.2) ?_
  rintro _ _ ⟨v9, e1, e2, e3⟩
  exact ⟨v9, e1, e2, _, e3, (MW_n hW).1, (MW_n hW).2⟩
theorem m60i {c r : Nat} (hc : 103 ≤ c ∧ c ≤ 105) (hr : r = rdb c (kOf v)) (hs : s.length < 24) (ha : a < 2 ^ 31) (hb : ∀ x ∈ rd, x < 256) (h24 : rd.length < 24) (hW : MW τ ((c, 0, l) :: s) v rd) : Ev (d + 3) 60 0 [some (.ref 370), some (.int (nI f)), some (.int (nI a)), none, none, none, none] [] (sM M τ) (fun q9 M' => ∃ v9, q9 = .inl v9 ∧ v9 = some (.int (nI a)) ∧ ∃ τ', M' = sM M τ' ∧ MW τ' s (τ 374 r) (nte rd r) ∧ FrR τ τ') := by
  obtain ⟨h30, ⟨h90, h91, h92, -⟩, h36, -⟩ := id hW
  have hk := kOf_lt v
  have hw : (16) * ((c) - (103)) + (kOf v) = r := by rw [hr]; unfold rdb; rw [if_neg (by omega)]; omega
  have hr2 : r < 48 := by omega
  refine ev_aload_n t_60_0 rfl ?_
  refine es_get (x := .int (τ (370) 30)) o_MO t_60_1 rfl ?_
  refine ev_top (y := (nI (s.length + 1))) (by (repeat rw [u2_off (by omega)]); first | exact h30 | exact j30) ?_
  refine ev_iconst t_60_4 ?_
  change Ev _ _ _ _ ([.int (nI (1)), .int (nI (s.length + 1))]) _ _
  refine ev_isubN t_60_5 (by omega) ?_
  change Ev _ _ _ _ ([.int (nI (s.length))]) _ _
  refine ev_istore_n (L' := [some (.ref 370), some (.int (nI (f))), some (.int (nI (a))), some (.int (nI (s.length))), none, none, none]) t_60_6 (Nat.le_of_ble_eq_true rfl) rfl ?_
  refine ev_aload_n t_60_7 rfl ?_
  refine es_get (x := .ref 390) o_MO t_60_8 rfl ?_
  refine ev_iload_n t_60_11 rfl ?_
  refine es_iald (k := s.length) a_m390 t_60_12 (by omega) ?_
  refine ev_top (y := nI (c)) h90 ?_
  refine ev_istore (L' := [some (.ref 370), some (.int (nI (f))), some (.int (nI (a))), some (.int (nI (s.length))), some (.int (nI (c))), none, none]) t_60_13 (Nat.le_of_ble_eq_true rfl) rfl ?_
  refine ev_iload t_60_15 rfl ?_
  refine ev_bipush t_60_17 ?_
  change Ev _ _ _ _ ([.int (nI (103)), .int (nI (c))]) _ _
  refine ev_icmp_ltN t_60_19 (by omega) (by omega) (fun h_19 => ?_) (fun h_19 => ?_)
  · omega
  · refine ev_iload t_60_22 rfl ?_
    refine ev_bipush t_60_24 ?_
    change Ev _ _ _ _ ([.int (nI (105)), .int (nI (c))]) _ _
    refine ev_icmp_leN t_60_26 (by omega) (by omega) (fun h_26 => ?_) (fun h_26 => ?_)
    · refine ev_iload t_60_43 rfl ?_
      refine ev_bipush t_60_45 ?_
      change Ev _ _ _ _ ([.int (nI (70)), .int (nI (c))]) _ _
      refine ev_icmp_gtN t_60_47 (by omega) (by omega) (fun h_47 => ?_) (fun h_47 => ?_)
      · refine ev_iconst t_60_54 ?_
        change Ev _ _ _ _ ([.int (nI (0))]) _ _
        refine ev_istore (L' := [some (.ref 370), some (.int (nI (f))), some (.int (nI (a))), some (.int (nI (s.length))), some (.int (nI (c))), some (.int (nI (0))), none]) t_60_55 (Nat.le_of_ble_eq_true rfl) rfl ?_
        refine ev_iload t_60_57 rfl ?_
        refine ev_if_eqN t_60_59 (by omega) (fun h_59 => ?_) (fun h_59 => ?_)
        · refine ev_bipush t_60_81 ?_
          change Ev _ _ _ _ ([.int (nI (16))]) _ _
          refine ev_iload t_60_83 rfl ?_
          refine ev_bipush t_60_85 ?_
          change Ev _ _ _ _ ([.int (nI (103)), .int (nI (c)), .int (nI (16))]) _ _
          refine ev_isubN t_60_87 (by omega) ?_
          refine ev_imulN t_60_88 ?_
          refine ev_aload_n t_60_89 rfl ?_
          refine es_get (x := .int (τ (370) 36)) o_MO t_60_90 rfl ?_
          refine ev_top (y := v) (by (repeat rw [u2_off (by omega)]); exact h36) ?_
          refine ev_bipush t_60_93 ?_
          change Ev _ _ _ _ ([.int (nI (15)), .int v, .int (nI ((16) * ((c) - (103))))]) _ _
          refine ev_iand t_60_95 ?_
          refine ev_top (y := nI (kOf v)) hk.2 ?_
          refine ev_iaddN t_60_96 ?_
          refine ev_top (y := nI (r)) (by rw [hw]) ?_
          refine ev_istore (L' := [some (.ref 370), some (.int (nI (f))), some (.int (nI (a))), some (.int (nI (s.length))), some (.int (nI (c))), some (.int (nI (0))), some (.int (nI (r)))]) t_60_97 (Nat.le_of_ble_eq_true rfl) rfl ?_
          refine ev_iload t_60_99 rfl ?_
          refine ev_if_eqN t_60_101 (by omega) (fun h_101 => ?_) (fun h_101 => ?_)
          · refine ev_aload_n t_60_115 rfl ?_
            refine ev_iload t_60_116 rfl ?_
            refine ev_if_eqN t_60_118 (by omega) (fun h_118 => ?_) (fun h_118 => ?_)
            · refine ev_iload t_60_129 rfl ?_
              refine ev_cl (pm_st_V t_60_131 (as := [.ref 370, .int (nI (r))]) (rest := []) (L0 := [some (.ref 370), some (.int (nI (r))), none]) rfl rfl (Nat.le_of_ble_eq_true rfl) (Nat.le_of_ble_eq_true rfl) rfl (es_rc o_MO rfl (Nat.le_of_ble_eq_true rfl))) rfl (m58n (by omega) hb h24 hW) ?_
              rintro _ _ ⟨rfl, τ1, rfl, j1, j2⟩; have j30 := j1.1; have j74 : τ1 374 r = τ 374 r := (by rw [j2.1 374 (by omega) (by omega)])
              change Ev _ _ _ _ ([]) _ _
              refine ev_aload_n t_60_134 rfl ?_
              refine ev_iload t_60_135 rfl ?_
              refine ev_if_eqN t_60_137 (by omega) (fun h_137 => ?_) (fun h_137 => ?_)
              · refine ev_aload_n t_60_150 rfl ?_
                refine es_get (x := .ref 374) o_MO t_60_151 rfl ?_
                refine ev_iload t_60_154 rfl ?_
                refine es_iald (k := r) a_m374 t_60_156 (by omega) ?_
                refine ev_top (y := (τ 374 r)) j74 ?_
                refine es_put o_MO t_60_157 rfl (Nat.le_of_ble_eq_true rfl) rfl ?_
                refine ev_aload_n t_60_160 rfl ?_
                refine ev_dup t_60_161 rfl ?_
                refine es_get (x := .int ((u2 τ1 (370) 36 (τ 374 r)) (370) 30)) o_MO t_60_162 rfl ?_
                refine ev_top (y := (nI (s.length + 1))) (by (repeat rw [u2_off (by omega)]); first | exact h30 | exact j30) ?_
                refine ev_iconst t_60_165 ?_
                change Ev _ _ _ _ ([.int (nI (1)), .int (nI (s.length + 1)), .ref 370]) _ _
                refine ev_isubN t_60_166 (by omega) ?_
                change Ev _ _ _ _ ([.int (nI (s.length)), .ref 370]) _ _
                refine es_put o_MO t_60_167 rfl (Nat.le_of_ble_eq_true rfl) rfl ?_
                refine ev_iload_n t_60_170 rfl ?_
                exact ev_reti t_60_171 (ri rfl) ⟨_, rfl, rfl, _, rfl, MW_p (MW_v j1), j2.trans ((FrR.u (by omega)).trans (FrR.u (by omega)))⟩
              · exact absurd rfl h_137
            · exact absurd rfl h_118
          · exact absurd rfl h_101
        · exact absurd rfl h_59
      · omega
    · omega
theorem m60s {c m : Nat} {P : (Nat → Nat → Int32) → Prop} (hc : 65 ≤ c ∧ c ≤ 70) (hr : 100 + m = rdb c (kOf v)) (hs : s.length < 24) (ha : a < 2 ^ 31) (hb : ∀ x ∈ rd, x < 256) (h24 : rd.length < 24) (hW : MW τ ((c, 0, l) :: s) v rd) (hg : Ev (d + 2) 55 0 [some (.ref 370), some (.int (nI m))] [] (sM M τ) (fun q9 M' => ∃ v9, q9 = .inl v9 ∧ v9 = some (.int 1) ∧ ∃ τ', M' = sM M τ' ∧ P τ' ∧ FrI τ τ')) : Ev (d + 3) 60 0 [some (.ref 370), some (.int (nI f)), some (.int (nI a)), none, none, none, none] [] (sM M τ) (fun q9 M' => ∃ v9, q9 = .inl v9 ∧ v9 = some (.int (nI a)) ∧ ∃ τ', M' = sM M τ' ∧ ∃ τ1, P τ1 ∧ FrI τ τ1 ∧ MW τ' s (τ1 380 m) (nte rd (100 + m)) ∧ FrR τ1 τ') := by
  obtain ⟨h30, ⟨h90, h91, h92, -⟩, h36, -⟩ := id hW
  have hk := kOf_lt v
  have hw : (16) * ((c) - (65)) + (kOf v) = m := by (unfold rdb at hr; rw [if_pos (by omega)] at hr; omega)
  have hm : m < 96 := by omega
  refine ev_aload_n t_60_0 rfl ?_
  refine es_get (x := .int (τ (370) 30)) o_MO t_60_1 rfl ?_
  refine ev_top (y := (nI (s.length + 1))) (by (repeat rw [u2_off (by omega)]); first | exact h30 | exact j30) ?_
  refine ev_iconst t_60_4 ?_
  change Ev _ _ _ _ ([.int (nI (1)), .int (nI (s.length + 1))]) _ _
  refine ev_isubN t_60_5 (by omega) ?_
  change Ev _ _ _ _ ([.int (nI (s.length))]) _ _
  refine ev_istore_n (L' := [some (.ref 370), some (.int (nI (f))), some (.int (nI (a))), some (.int (nI (s.length))), none, none, none]) t_60_6 (Nat.le_of_ble_eq_true rfl) rfl ?_
  refine ev_aload_n t_60_7 rfl ?_
  refine es_get (x := .ref 390) o_MO t_60_8 rfl ?_
  refine ev_iload_n t_60_11 rfl ?_
  refine es_iald (k := s.length) a_m390 t_60_12 (by omega) ?_
  refine ev_top (y := nI (c)) h90 ?_
  refine ev_istore (L' := [some (.ref 370), some (.int (nI (f))), some (.int (nI (a))), some (.int (nI (s.length))), some (.int (nI (c))), none, none]) t_60_13 (Nat.le_of_ble_eq_true rfl) rfl ?_
  refine ev_iload t_60_15 rfl ?_
  refine ev_bipush t_60_17 ?_
  change Ev _ _ _ _ ([.int (nI (103)), .int (nI (c))]) _ _
  refine ev_icmp_ltN t_60_19 (by omega) (by omega) (fun h_19 => ?_) (fun h_19 => ?_)
  · refine ev_iload t_60_29 rfl ?_
    refine ev_bipush t_60_31 ?_
    change Ev _ _ _ _ ([.int (nI (65)), .int (nI (c))]) _ _
    refine ev_icmp_ltN t_60_33 (by omega) (by omega) (fun h_33 => ?_) (fun h_33 => ?_)
    · omega
    · refine ev_iload t_60_36 rfl ?_
      refine ev_bipush t_60_38 ?_
      change Ev _ _ _ _ ([.int (nI (70)), .int (nI (c))]) _ _
      refine ev_icmp_gtN t_60_40 (by omega) (by omega) (fun h_40 => ?_) (fun h_40 => ?_)
      · omega
      · refine ev_iload t_60_43 rfl ?_
        refine ev_bipush t_60_45 ?_
        change Ev _ _ _ _ ([.int (nI (70)), .int (nI (c))]) _ _
        refine ev_icmp_gtN t_60_47 (by omega) (by omega) (fun h_47 => ?_) (fun h_47 => ?_)
        · omega
        · refine ev_iconst t_60_50 ?_
          change Ev _ _ _ _ ([.int (nI (1))]) _ _
          refine ev_goto t_60_51 ?_
          refine ev_istore (L' := [some (.ref 370), some (.int (nI (f))), some (.int (nI (a))), some (.int (nI (s.length))), some (.int (nI (c))), some (.int (nI (1))), none]) t_60_55 (Nat.le_of_ble_eq_true rfl) rfl ?_
          refine ev_iload t_60_57 rfl ?_
          refine ev_if_eqN t_60_59 (by omega) (fun h_59 => ?_) (fun h_59 => ?_)
          · omega
          · refine ev_bipush t_60_62 ?_
            change Ev _ _ _ _ ([.int (nI (16))]) _ _
            refine ev_iload t_60_64 rfl ?_
            refine ev_bipush t_60_66 ?_
            change Ev _ _ _ _ ([.int (nI (65)), .int (nI (c)), .int (nI (16))]) _ _
            refine ev_isubN t_60_68 (by omega) ?_
            refine ev_imulN t_60_69 ?_
            refine ev_aload_n t_60_70 rfl ?_
            refine es_get (x := .int (τ (370) 36)) o_MO t_60_71 rfl ?_
            refine ev_top (y := v) (by (repeat rw [u2_off (by omega)]); exact h36) ?_
            refine ev_bipush t_60_74 ?_
            change Ev _ _ _ _ ([.int (nI (15)), .int v, .int (nI ((16) * ((c) - (65))))]) _ _
            refine ev_iand t_60_76 ?_
            refine ev_top (y := nI (kOf v)) hk.2 ?_
            refine ev_iaddN t_60_77 ?_
            refine ev_goto t_60_78 ?_
            refine ev_top (y := nI (m)) (by rw [hw]) ?_
            refine ev_istore (L' := [some (.ref 370), some (.int (nI (f))), some (.int (nI (a))), some (.int (nI (s.length))), some (.int (nI (c))), some (.int (nI (1))), some (.int (nI (m)))]) t_60_97 (Nat.le_of_ble_eq_true rfl) rfl ?_
            refine ev_iload t_60_99 rfl ?_
            refine ev_if_eqN t_60_101 (by omega) (fun h_101 => ?_) (fun h_101 => ?_)
            · omega
            · refine ev_aload_n t_60_104 rfl ?_
              refine ev_iload t_60_105 rfl ?_
              refine ev_cl (pm_st_V t_60_107 (as := [.ref 370, .int (nI (m))]) (rest := []) (L0 := [some (.ref 370), some (.int (nI (m)))]) rfl rfl (Nat.le_of_ble_eq_true rfl) (Nat.le_of_ble_eq_true rfl) rfl (es_rc o_MO rfl (Nat.le_of_ble_eq_true rfl))) rfl (hg) ?_
              rintro _ _ ⟨rfl, τ1, rfl, p1, p2⟩; have hW1 := MW_fI p2 hW
              change Ev _ _ _ _ ([.int (nI (1))]) _ _
              refine ev_if_neN t_60_110 (by omega) (fun h_110 => ?_) (fun h_110 => ?_)
              · refine ev_aload_n t_60_115 rfl ?_
                refine ev_iload t_60_116 rfl ?_
                refine ev_if_eqN t_60_118 (by omega) (fun h_118 => ?_) (fun h_118 => ?_)
                · omega
                · refine ev_bipush t_60_121 ?_
                  change Ev _ _ _ _ ([.int (nI (100)), .ref 370]) _ _
                  refine ev_iload t_60_123 rfl ?_
                  refine ev_iaddN t_60_125 ?_
                  refine ev_goto t_60_126 ?_
                  refine ev_cl (pm_st_V t_60_131 (as := [.ref 370, .int (nI ((100) + (m)))]) (rest := []) (L0 := [some (.ref 370), some (.int (nI ((100) + (m)))), none]) rfl rfl (Nat.le_of_ble_eq_true rfl) (Nat.le_of_ble_eq_true rfl) rfl (es_rc o_MO rfl (Nat.le_of_ble_eq_true rfl))) rfl (m58n (by omega) hb h24 hW1) ?_
                  rintro _ _ ⟨rfl, τ2, rfl, j1, j2⟩; have j30 := j1.1; have j80 : τ2 380 m = τ1 380 m := (by rw [j2.1 380 (by omega) (by omega)])
                  change Ev _ _ _ _ ([]) _ _
                  refine ev_aload_n t_60_134 rfl ?_
                  refine ev_iload t_60_135 rfl ?_
                  refine ev_if_eqN t_60_137 (by omega) (fun h_137 => ?_) (fun h_137 => ?_)
                  · omega
                  · refine ev_aload_n t_60_140 rfl ?_
                    refine es_get (x := .ref 380) o_MO t_60_141 rfl ?_
                    refine ev_iload t_60_144 rfl ?_
                    refine es_iald (k := m) a_m380 t_60_146 (by omega) ?_
                    refine ev_goto t_60_147 ?_
                    refine ev_top (y := (τ1 380 m)) j80 ?_
                    refine es_put o_MO t_60_157 rfl (Nat.le_of_ble_eq_true rfl) rfl ?_
                    refine ev_aload_n t_60_160 rfl ?_
                    refine ev_dup t_60_161 rfl ?_
                    refine es_get (x := .int ((u2 τ2 (370) 36 (τ1 380 m)) (370) 30)) o_MO t_60_162 rfl ?_
                    refine ev_top (y := (nI (s.length + 1))) (by (repeat rw [u2_off (by omega)]); first | exact h30 | exact j30) ?_
                    refine ev_iconst t_60_165 ?_
                    change Ev _ _ _ _ ([.int (nI (1)), .int (nI (s.length + 1)), .ref 370]) _ _
                    refine ev_isubN t_60_166 (by omega) ?_
                    change Ev _ _ _ _ ([.int (nI (s.length)), .ref 370]) _ _
                    refine es_put o_MO t_60_167 rfl (Nat.le_of_ble_eq_true rfl) rfl ?_
                    refine ev_iload_n t_60_170 rfl ?_
                    exact ev_reti t_60_171 (ri rfl) ⟨_, rfl, rfl, _, rfl, τ1, p1, p2, MW_p (MW_v j1), j2.trans ((FrR.u (by omega)).trans (FrR.u (by omega)))⟩
              · omega
  · omega
theorem m60n {c m : Nat} {P : (Nat → Nat → Int32) → Prop} (hc : 65 ≤ c ∧ c ≤ 70) (hr : 100 + m = rdb c (kOf v)) (hs : s.length < 24) (hW : MW τ ((c, 0, l) :: s) v rd) (hg : Ev (d + 2) 55 0 [some (.ref 370), some (.int (nI m))] [] (sM M τ) (fun q9 M' => ∃ v9, q9 = .inl v9 ∧ v9 = some (.int 0) ∧ ∃ τ', M' = sM M τ' ∧ P τ')) : Ev (d + 3) 60 0 [some (.ref 370), some (.int (nI f)), some (.int (nI a)), none, none, none, none] [] (sM M τ) (fun q9 M' => ∃ v9, q9 = .inl v9 ∧ v9 = some (.int (-1)) ∧ ∃ τ', M' = sM M τ' ∧ P τ') := by
  obtain ⟨h30, ⟨h90, h91, h92, -⟩, h36, -⟩ := id hW
  have hk := kOf_lt v
  have hw : (16) * ((c) - (65)) + (kOf v) = m := by (unfold rdb at hr; rw [if_pos (by omega)] at hr; omega)
  have hm : m < 96 := by omega
  refine ev_aload_n t_60_0 rfl ?_
  refine es_get (x := .int (τ (370) 30)) o_MO t_60_1 rfl ?_
  refine ev_top (y := (nI (s.length + 1))) (by (repeat rw [u2_off (by omega)]); first | exact h30 | exact j30) ?_
  refine ev_iconst t_60_4 ?_
  change Ev _ _ _ _ ([.int (nI (1)), .int (nI (s.length + 1))]) _ _
  refine ev_isubN t_60_5 (by omega) ?_
  change Ev _ _ _ _ ([.int (nI (s.length))]) _ _
  refine ev_istore_n (L' := [some (.ref 370), some (.int (nI (f))), some (.int (nI (a))), some (.int (nI (s.length))), none, none, none]) t_60_6 (Nat.le_of_ble_eq_true rfl) rfl ?_
  refine ev_aload_n t_60_7 rfl ?_
  refine es_get (x := .ref 390) o_MO t_60_8 rfl ?_
  refine ev_iload_n t_60_11 rfl ?_
  refine es_iald (k := s.length) a_m390 t_60_12 (by omega) ?_
  refine ev_top (y := nI (c)) h90 ?_
  refine ev_istore (L' := [some (.ref 370), some (.int (nI (f))), some (.int (nI (a))), some (.int (nI (s.length))), some (.int (nI (c))), none, none]) t_60_13 (Nat.le_of_ble_eq_true rfl) rfl ?_
  refine ev_iload t_60_15 rfl ?_
  refine ev_bipush t_60_17 ?_
  change Ev _ _ _ _ ([.int (nI (103)), .int (nI (c))]) _ _
  refine ev_icmp_ltN t_60_19 (by omega) (by omega) (fun h_19 => ?_) (fun h_19 => ?_)
  · refine ev_iload t_60_29 rfl ?_
    refine ev_bipush t_60_31 ?_
    change Ev _ _ _ _ ([.int (nI (65)), .int (nI (c))]) _ _
    refine ev_icmp_ltN t_60_33 (by omega) (by omega) (fun h_33 => ?_) (fun h_33 => ?_)
    · omega
    · refine ev_iload t_60_36 rfl ?_
      refine ev_bipush t_60_38 ?_
      change Ev _ _ _ _ ([.int (nI (70)), .int (nI (c))]) _ _
      refine ev_icmp_gtN t_60_40 (by omega) (by omega) (fun h_40 => ?_) (fun h_40 => ?_)
      · omega
      · refine ev_iload t_60_43 rfl ?_
        refine ev_bipush t_60_45 ?_
        change Ev _ _ _ _ ([.int (nI (70)), .int (nI (c))]) _ _
        refine ev_icmp_gtN t_60_47 (by omega) (by omega) (fun h_47 => ?_) (fun h_47 => ?_)
        · omega
        · refine ev_iconst t_60_50 ?_
          change Ev _ _ _ _ ([.int (nI (1))]) _ _
          refine ev_goto t_60_51 ?_
          refine ev_istore (L' := [some (.ref 370), some (.int (nI (f))), some (.int (nI (a))), some (.int (nI (s.length))), some (.int (nI (c))), some (.int (nI (1))), none]) t_60_55 (Nat.le_of_ble_eq_true rfl) rfl ?_
          refine ev_iload t_60_57 rfl ?_
          refine ev_if_eqN t_60_59 (by omega) (fun h_59 => ?_) (fun h_59 => ?_)
          · omega
          · refine ev_bipush t_60_62 ?_
            change Ev _ _ _ _ ([.int (nI (16))]) _ _
            refine ev_iload t_60_64 rfl ?_
            refine ev_bipush t_60_66 ?_
            change Ev _ _ _ _ ([.int (nI (65)), .int (nI (c)), .int (nI (16))]) _ _
            refine ev_isubN t_60_68 (by omega) ?_
            refine ev_imulN t_60_69 ?_
            refine ev_aload_n t_60_70 rfl ?_
            refine es_get (x := .int (τ (370) 36)) o_MO t_60_71 rfl ?_
            refine ev_top (y := v) (by (repeat rw [u2_off (by omega)]); exact h36) ?_
            refine ev_bipush t_60_74 ?_
            change Ev _ _ _ _ ([.int (nI (15)), .int v, .int (nI ((16) * ((c) - (65))))]) _ _
            refine ev_iand t_60_76 ?_
            refine ev_top (y := nI (kOf v)) hk.2 ?_
            refine ev_iaddN t_60_77 ?_
            refine ev_goto t_60_78 ?_
            refine ev_top (y := nI (m)) (by rw [hw]) ?_
            refine ev_istore (L' := [some (.ref 370), some (.int (nI (f))), some (.int (nI (a))), some (.int (nI (s.length))), some (.int (nI (c))), some (.int (nI (1))), some (.int (nI (m)))]) t_60_97 (Nat.le_of_ble_eq_true rfl) rfl ?_
            refine ev_iload t_60_99 rfl ?_
            refine ev_if_eqN t_60_101 (by omega) (fun h_101 => ?_) (fun h_101 => ?_)
            · omega
            · refine ev_aload_n t_60_104 rfl ?_
              refine ev_iload t_60_105 rfl ?_
              refine ev_cl (pm_st_V t_60_107 (as := [.ref 370, .int (nI (m))]) (rest := []) (L0 := [some (.ref 370), some (.int (nI (m)))]) rfl rfl (Nat.le_of_ble_eq_true rfl) (Nat.le_of_ble_eq_true rfl) rfl (es_rc o_MO rfl (Nat.le_of_ble_eq_true rfl))) rfl (hg) ?_
              rintro _ _ ⟨rfl, τ1, rfl, p1⟩
              change Ev _ _ _ _ ([.int (nI (0))]) _ _
              refine ev_if_neN t_60_110 (by omega) (fun h_110 => ?_) (fun h_110 => ?_)
              · exact absurd rfl h_110
              · refine ev_iconst t_60_113 ?_
                change Ev _ _ _ _ ([.int (-1)]) _ _
                exact ev_reti t_60_114 (ri rfl) ⟨_, rfl, rfl, _, rfl, p1⟩
  · omega
end HA2
