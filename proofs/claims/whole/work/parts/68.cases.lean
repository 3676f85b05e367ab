/-! The law's cases. -/
section LW
variable {n Ls : Nat} {xs : Nat → Int32} {M M1 : pm_M} {σ σ1 τ τ1 : Nat → Nat → Int32} {Q : pm_R → pm_M → Prop} {o5 o6 : Option Value} {k b v : Int32} {f : Nat → Value} {y : Int64}
theorem l2 (hn : 4 * n + 4 ≤ Ls) (hL : Ls ≤ 2048) (h0 : M.2.2 0 = .inl (.int, Ls, fun j => .int (xs j))) (h1 : M1.2.2 0 = .inl (.int, Ls, fun j => .int (xs j))) (ho : M1.2.2 394 = .inl (.long, 1, f)) (hf : f 0 = .long y) (hy : k = 0 → y = b.toInt64) (hH : Ev 126 103 0 [some (.ref 8), some (.int (xs (4 * n + 1))), some (.ref 394), none] [] (LBB M σ τ) (fun q9 M' => ∃ v9, q9 = .inl v9 ∧ v9 = some (.int k) ∧ M' = LBB M1 σ1 τ)) (hM : Ev 126 45 0 [some (.ref 370), some (.int (xs (4 * n + 1))), none, none] [] (LBB M1 σ1 τ) (fun q9 M' => ∃ v9, q9 = .inl v9 ∧ v9 = some (.int b) ∧ M' = LBB M1 σ1 τ1)) (hk : Ev 126 40 0 [some (.ref 370)] [] (LBB M1 σ1 τ1) (fun q9 M' => ∃ v9, q9 = .inl v9 ∧ v9 = some (.int k) ∧ M' = LBB M1 σ1 τ1)) (kk : ∀ p5 p6, Ev 127 113 928 [some (.ref 0), some (.ref 8), some (.ref 370), some (.ref 394), some (.int (nI (4 * n))), p5, p6] [] (LBB M1 σ1 τ1) Q) : Ev 127 113 178 [some (.ref 0), some (.ref 8), some (.ref 370), some (.ref 394), some (.int (nI (4 * n))), o5, o6] [] (LBB M σ τ) Q := by
  refine ev_aload_n t_113_178 rfl ?_
  refine ev_aload_n t_113_179 rfl ?_
  refine ev_iload t_113_180 rfl ?_
  refine ev_iconst t_113_182 ?_
  change Ev _ _ _ _ ([.int (nI 1), .int (nI (4 * n)), .ref 0, .ref 8]) _ _
  refine ev_iaddN t_113_183 ?_
  refine es_al (k := 4 * n + 1) (ok := fun ty => ty == .int) (f := fun j => .int (xs j)) t_113_184 rfl (fun _ _ _ => rfl) (by rw [ls_at (by omega)]; exact h0) rfl (by omega) (by omega) ?_
  change Ev _ _ _ _ ([.int (xs (4 * n + 1)), .ref 8]) _ _
  refine ev_aload_n t_113_185 rfl ?_
  refine ev_cl (pm_st_S t_113_186 (Nat.le_of_ble_eq_true rfl) (as := [.ref 8, .int (xs (4 * n + 1)), .ref 394]) (rest := []) (L0 := [some (.ref 8), some (.int (xs (4 * n + 1))), some (.ref 394), none]) rfl rfl (Nat.le_of_ble_eq_true rfl) (Nat.le_of_ble_eq_true rfl) rfl) rfl hH ?_
  rintro _ _ ⟨rfl, rfl⟩
  change Ev _ _ _ _ ([.int k]) _ _
  refine ev_istore (L' := [some (.ref 0), some (.ref 8), some (.ref 370), some (.ref 394), some (.int (nI (4 * n))), some (.int k), o6]) t_113_189 (Nat.le_of_ble_eq_true rfl) rfl ?_
  refine ev_aload_n t_113_191 rfl ?_
  refine ev_aload_n t_113_192 rfl ?_
  refine ev_iload t_113_193 rfl ?_
  refine ev_iconst t_113_195 ?_
  change Ev _ _ _ _ ([.int (nI 1), .int (nI (4 * n)), .ref 0, .ref 370]) _ _
  refine ev_iaddN t_113_196 ?_
  refine es_al (k := 4 * n + 1) (ok := fun ty => ty == .int) (f := fun j => .int (xs j)) t_113_197 rfl (fun _ _ _ => rfl) (by rw [ls_at (by omega)]; exact h1) rfl (by omega) (by omega) ?_
  change Ev _ _ _ _ ([.int (xs (4 * n + 1)), .ref 370]) _ _
  refine ev_cl (pm_st_V t_113_198 (as := [.ref 370, .int (xs (4 * n + 1))]) (rest := []) (L0 := [some (.ref 370), some (.int (xs (4 * n + 1))), none, none]) rfl rfl (Nat.le_of_ble_eq_true rfl) (Nat.le_of_ble_eq_true rfl) rfl (ls_rm rfl)) rfl hM ?_
  rintro _ _ ⟨rfl, rfl⟩
  change Ev _ _ _ _ ([.int b]) _ _
  refine ev_istore (L' := [some (.ref 0), some (.ref 8), some (.ref 370), some (.ref 394), some (.int (nI (4 * n))), some (.int k), some (.int b)]) t_113_201 (Nat.le_of_ble_eq_true rfl) rfl ?_
  refine ev_aload_n t_113_203 rfl ?_
  refine ev_cl (pm_st_V t_113_204 (as := [.ref 370]) (rest := []) (L0 := [some (.ref 370)]) rfl rfl (Nat.le_of_ble_eq_true rfl) (Nat.le_of_ble_eq_true rfl) rfl (ls_rm rfl)) rfl hk ?_
  rintro _ _ ⟨rfl, rfl⟩
  change Ev _ _ _ _ ([.int k]) _ _
  refine ev_iload t_113_207 rfl ?_
  refine ev_icmp_eq t_113_209 (fun h9 => ?_) (fun h9 => absurd rfl h9)
  refine ev_iload t_113_214 rfl ?_
  refine ev_if_ne (y := 0) t_113_216 (fun h216 => ?_) (fun h216 => ?_)
  · refine ev_goto t_113_231 ?_
    exact kk _ _
  · refine ev_aload_n t_113_219 rfl ?_
    refine ev_iconst t_113_220 ?_
    change Ev _ _ _ _ ([.int (nI 0), .ref 394]) _ _
    refine es_al (k := 0) (ok := fun ty => ty == .long) (f := f) t_113_221 rfl (fun _ _ _ => rfl) (by rw [ls_at (by omega)]; exact ho) rfl (by omega) (by omega) ?_
    rw [hf]
    refine ev_iload t_113_222 rfl ?_
    refine ev_i2l t_113_224 ?_
    refine ev_lcmp t_113_225 ?_
    refine ev_top (y := nI 0) (by rw [hy (Decidable.byContradiction h216)]; exact lg_self _) ?_
    refine ev_if_eq (y := 0) t_113_226 (fun h9 => ?_) (fun h9 => absurd rfl h9)
    refine ev_goto t_113_231 ?_
    exact kk _ _
theorem l3 (hn : 4 * n + 4 ≤ Ls) (hL : Ls ≤ 2048) (h0 : M.2.2 0 = .inl (.int, Ls, fun j => .int (xs j))) (h1 : M1.2.2 0 = .inl (.int, Ls, fun j => .int (xs j))) (ho : M1.2.2 394 = .inl (.long, 1, f)) (hf : f 0 = .long y) (hy : k = 0 → y = blI b) (hH : Ev 126 104 0 [some (.ref 8), some (.int (xs (4 * n + 1))), some (.int (xs (4 * n + 2))), some (.int (xs (4 * n + 3))), some (.ref 394), none] [] (LBB M σ τ) (fun q9 M' => ∃ v9, q9 = .inl v9 ∧ v9 = some (.int k) ∧ M' = LBB M1 σ1 τ)) (hM : Ev 126 48 0 [some (.ref 370), some (.int (xs (4 * n + 1))), some (.int (xs (4 * n + 2))), some (.int (xs (4 * n + 3)))] [] (LBB M1 σ1 τ) (fun q9 M' => ∃ v9, q9 = .inl v9 ∧ v9 = some (.int b) ∧ M' = LBB M1 σ1 τ1)) (hk : Ev 126 40 0 [some (.ref 370)] [] (LBB M1 σ1 τ1) (fun q9 M' => ∃ v9, q9 = .inl v9 ∧ v9 = some (.int k) ∧ M' = LBB M1 σ1 τ1)) (kk : ∀ p5 p6, Ev 127 113 928 [some (.ref 0), some (.ref 8), some (.ref 370), some (.ref 394), some (.int (nI (4 * n))), p5, p6] [] (LBB M1 σ1 τ1) Q) : Ev 127 113 234 [some (.ref 0), some (.ref 8), some (.ref 370), some (.ref 394), some (.int (nI (4 * n))), o5, o6] [] (LBB M σ τ) Q := by
  refine ev_aload_n t_113_234 rfl ?_
  refine ev_aload_n t_113_235 rfl ?_
  refine ev_iload t_113_236 rfl ?_
  refine ev_iconst t_113_238 ?_
  change Ev _ _ _ _ ([.int (nI 1), .int (nI (4 * n)), .ref 0, .ref 8]) _ _
  refine ev_iaddN t_113_239 ?_
  refine es_al (k := 4 * n + 1) (ok := fun ty => ty == .int) (f := fun j => .int (xs j)) t_113_240 rfl (fun _ _ _ => rfl) (by rw [ls_at (by omega)]; exact h0) rfl (by omega) (by omega) ?_
  change Ev _ _ _ _ ([.int (xs (4 * n + 1)), .ref 8]) _ _
  refine ev_aload_n t_113_241 rfl ?_
  refine ev_iload t_113_242 rfl ?_
  refine ev_iconst t_113_244 ?_
  change Ev _ _ _ _ ([.int (nI 2), .int (nI (4 * n)), .ref 0, .int (xs (4 * n + 1)), .ref 8]) _ _
  refine ev_iaddN t_113_245 ?_
  refine es_al (k := 4 * n + 2) (ok := fun ty => ty == .int) (f := fun j => .int (xs j)) t_113_246 rfl (fun _ _ _ => rfl) (by rw [ls_at (by omega)]; exact h0) rfl (by omega) (by omega) ?_
  change Ev _ _ _ _ ([.int (xs (4 * n + 2)), .int (xs (4 * n + 1)), .ref 8]) _ _
  refine ev_aload_n t_113_247 rfl ?_
  refine ev_iload t_113_248 rfl ?_
  refine ev_iconst t_113_250 ?_
  change Ev _ _ _ _ ([.int (nI 3), .int (nI (4 * n)), .ref 0, .int (xs (4 * n + 2)), .int (xs (4 * n + 1)), .ref 8]) _ _
  refine ev_iaddN t_113_251 ?_
  refine es_al (k := 4 * n + 3) (ok := fun ty => ty == .int) (f := fun j => .int (xs j)) t_113_252 rfl (fun _ _ _ => rfl) (by rw [ls_at (by omega)]; exact h0) rfl (by omega) (by omega) ?_
  change Ev _ _ _ _ ([.int (xs (4 * n + 3)), .int (xs (4 * n + 2)), .int (xs (4 * n + 1)), .ref 8]) _ _
  refine ev_aload_n t_113_253 rfl ?_
  refine ev_cl (pm_st_S t_113_254 (Nat.le_of_ble_eq_true rfl) (as := [.ref 8, .int (xs (4 * n + 1)), .int (xs (4 * n + 2)), .int (xs (4 * n + 3)), .ref 394]) (rest := []) (L0 := [some (.ref 8), some (.int (xs (4 * n + 1))), some (.int (xs (4 * n + 2))), some (.int (xs (4 * n + 3))), some (.ref 394), none]) rfl rfl (Nat.le_of_ble_eq_true rfl) (Nat.le_of_ble_eq_true rfl) rfl) rfl hH ?_
  rintro _ _ ⟨rfl, rfl⟩
  change Ev _ _ _ _ ([.int k]) _ _
  refine ev_istore (L' := [some (.ref 0), some (.ref 8), some (.ref 370), some (.ref 394), some (.int (nI (4 * n))), some (.int k), o6]) t_113_257 (Nat.le_of_ble_eq_true rfl) rfl ?_
  refine ev_aload_n t_113_259 rfl ?_
  refine ev_aload_n t_113_260 rfl ?_
  refine ev_iload t_113_261 rfl ?_
  refine ev_iconst t_113_263 ?_
  change Ev _ _ _ _ ([.int (nI 1), .int (nI (4 * n)), .ref 0, .ref 370]) _ _
  refine ev_iaddN t_113_264 ?_
  refine es_al (k := 4 * n + 1) (ok := fun ty => ty == .int) (f := fun j => .int (xs j)) t_113_265 rfl (fun _ _ _ => rfl) (by rw [ls_at (by omega)]; exact h1) rfl (by omega) (by omega) ?_
  change Ev _ _ _ _ ([.int (xs (4 * n + 1)), .ref 370]) _ _
  refine ev_aload_n t_113_266 rfl ?_
  refine ev_iload t_113_267 rfl ?_
  refine ev_iconst t_113_269 ?_
  change Ev _ _ _ _ ([.int (nI 2), .int (nI (4 * n)), .ref 0, .int (xs (4 * n + 1)), .ref 370]) _ _
  refine ev_iaddN t_113_270 ?_
  refine es_al (k := 4 * n + 2) (ok := fun ty => ty == .int) (f := fun j => .int (xs j)) t_113_271 rfl (fun _ _ _ => rfl) (by rw [ls_at (by omega)]; exact h1) rfl (by omega) (by omega) ?_
  change Ev _ _ _ _ ([.int (xs (4 * n + 2)), .int (xs (4 * n + 1)), .ref 370]) _ _
  refine ev_aload_n t_113_272 rfl ?_
  refine ev_iload t_113_273 rfl ?_
  refine ev_iconst t_113_275 ?_
  change Ev _ _ _ _ ([.int (nI 3), .int (nI (4 * n)), .ref 0, .int (xs (4 * n + 2)), .int (xs (4 * n + 1)), .ref 370]) _ _
  refine ev_iaddN t_113_276 ?_
  refine es_al (k := 4 * n + 3) (ok := fun ty => ty == .int) (f := fun j => .int (xs j)) t_113_277 rfl (fun _ _ _ => rfl) (by rw [ls_at (by omega)]; exact h1) rfl (by omega) (by omega) ?_
  change Ev _ _ _ _ ([.int (xs (4 * n + 3)), .int (xs (4 * n + 2)), .int (xs (4 * n + 1)), .ref 370]) _ _
  refine ev_cl (pm_st_V t_113_278 (as := [.ref 370, .int (xs (4 * n + 1)), .int (xs (4 * n + 2)), .int (xs (4 * n + 3))]) (rest := []) (L0 := [some (.ref 370), some (.int (xs (4 * n + 1))), some (.int (xs (4 * n + 2))), some (.int (xs (4 * n + 3)))]) rfl rfl (Nat.le_of_ble_eq_true rfl) (Nat.le_of_ble_eq_true rfl) rfl (ls_rm rfl)) rfl hM ?_
  rintro _ _ ⟨rfl, rfl⟩
  change Ev _ _ _ _ ([.int b]) _ _
  refine ev_istore (L' := [some (.ref 0), some (.ref 8), some (.ref 370), some (.ref 394), some (.int (nI (4 * n))), some (.int k), some (.int b)]) t_113_281 (Nat.le_of_ble_eq_true rfl) rfl ?_
  refine ev_aload_n t_113_283 rfl ?_
  refine ev_cl (pm_st_V t_113_284 (as := [.ref 370]) (rest := []) (L0 := [some (.ref 370)]) rfl rfl (Nat.le_of_ble_eq_true rfl) (Nat.le_of_ble_eq_true rfl) rfl (ls_rm rfl)) rfl hk ?_
  rintro _ _ ⟨rfl, rfl⟩
  change Ev _ _ _ _ ([.int k]) _ _
  refine ev_iload t_113_287 rfl ?_
  refine ev_icmp_eq t_113_289 (fun h9 => ?_) (fun h9 => absurd rfl h9)
  refine ev_iload t_113_294 rfl ?_
  refine ev_if_ne (y := 0) t_113_296 (fun h296 => ?_) (fun h296 => ?_)
  · refine ev_goto t_113_318 ?_
    exact kk _ _
  · refine ev_aload_n t_113_299 rfl ?_
    refine ev_iconst t_113_300 ?_
    change Ev _ _ _ _ ([.int (nI 0), .ref 394]) _ _
    refine es_al (k := 0) (ok := fun ty => ty == .long) (f := f) t_113_301 rfl (fun _ _ _ => rfl) (by rw [ls_at (by omega)]; exact ho) rfl (by omega) (by omega) ?_
    rw [hf]
    refine ev_iload t_113_302 rfl ?_
    refine ev_if_eq (y := 0) t_113_304 (fun h304 => ?_) (fun h304 => ?_)
    · refine ev_lconst t_113_311 ?_
      refine ev_lcmp t_113_312 ?_
      refine ev_top (y := nI 0) (by rw [hy (Decidable.byContradiction h296)]; unfold blI; first | (rw [if_pos h304]; exact lg_self _) | (rw [if_neg h304]; exact lg_self _)) ?_
      refine ev_if_eq (y := 0) t_113_313 (fun h9 => ?_) (fun h9 => absurd rfl h9)
      refine ev_goto t_113_318 ?_
      exact kk _ _
    · refine ev_lconst t_113_307 ?_
      refine ev_goto t_113_308 ?_
      refine ev_lcmp t_113_312 ?_
      refine ev_top (y := nI 0) (by rw [hy (Decidable.byContradiction h296)]; unfold blI; first | (rw [if_pos h304]; exact lg_self _) | (rw [if_neg h304]; exact lg_self _)) ?_
      refine ev_if_eq (y := 0) t_113_313 (fun h9 => ?_) (fun h9 => absurd rfl h9)
      refine ev_goto t_113_318 ?_
      exact kk _ _
theorem l4 (hn : 4 * n + 4 ≤ Ls) (hL : Ls ≤ 2048) (h0 : M.2.2 0 = .inl (.int, Ls, fun j => .int (xs j))) (h1 : M1.2.2 0 = .inl (.int, Ls, fun j => .int (xs j))) (ho : M1.2.2 394 = .inl (.long, 1, f)) (hf : f 0 = .long y) (hy : k = 0 → y = blI b) (hH : Ev 126 105 0 [some (.ref 8), some (.int (xs (4 * n + 1))), some (.int (xs (4 * n + 2))), some (.ref 394), none] [] (LBB M σ τ) (fun q9 M' => ∃ v9, q9 = .inl v9 ∧ v9 = some (.int k) ∧ M' = LBB M1 σ1 τ)) (hM : Ev 126 49 0 [some (.ref 370), some (.int (xs (4 * n + 1))), some (.int (xs (4 * n + 2)))] [] (LBB M1 σ1 τ) (fun q9 M' => ∃ v9, q9 = .inl v9 ∧ v9 = some (.int b) ∧ M' = LBB M1 σ1 τ1)) (hk : Ev 126 40 0 [some (.ref 370)] [] (LBB M1 σ1 τ1) (fun q9 M' => ∃ v9, q9 = .inl v9 ∧ v9 = some (.int k) ∧ M' = LBB M1 σ1 τ1)) (kk : ∀ p5 p6, Ev 127 113 928 [some (.ref 0), some (.ref 8), some (.ref 370), some (.ref 394), some (.int (nI (4 * n))), p5, p6] [] (LBB M1 σ1 τ1) Q) : Ev 127 113 321 [some (.ref 0), some (.ref 8), some (.ref 370), some (.ref 394), some (.int (nI (4 * n))), o5, o6] [] (LBB M σ τ) Q := by
  refine ev_aload_n t_113_321 rfl ?_
  refine ev_aload_n t_113_322 rfl ?_
  refine ev_iload t_113_323 rfl ?_
  refine ev_iconst t_113_325 ?_
  change Ev _ _ _ _ ([.int (nI 1), .int (nI (4 * n)), .ref 0, .ref 8]) _ _
  refine ev_iaddN t_113_326 ?_
  refine es_al (k := 4 * n + 1) (ok := fun ty => ty == .int) (f := fun j => .int (xs j)) t_113_327 rfl (fun _ _ _ => rfl) (by rw [ls_at (by omega)]; exact h0) rfl (by omega) (by omega) ?_
  change Ev _ _ _ _ ([.int (xs (4 * n + 1)), .ref 8]) _ _
  refine ev_aload_n t_113_328 rfl ?_
  refine ev_iload t_113_329 rfl ?_
  refine ev_iconst t_113_331 ?_
  change Ev _ _ _ _ ([.int (nI 2), .int (nI (4 * n)), .ref 0, .int (xs (4 * n + 1)), .ref 8]) _ _
  refine ev_iaddN t_113_332 ?_
  refine es_al (k := 4 * n + 2) (ok := fun ty => ty == .int) (f := fun j => .int (xs j)) t_113_333 rfl (fun _ _ _ => rfl) (by rw [ls_at (by omega)]; exact h0) rfl (by omega) (by omega) ?_
  change Ev _ _ _ _ ([.int (xs (4 * n + 2)), .int (xs (4 * n + 1)), .ref 8]) _ _
  refine ev_aload_n t_113_334 rfl ?_
  refine ev_cl (pm_st_S t_113_335 (Nat.le_of_ble_eq_true rfl) (as := [.ref 8, .int (xs (4 * n + 1)), .int (xs (4 * n + 2)), .ref 394]) (rest := []) (L0 := [some (.ref 8), some (.int (xs (4 * n + 1))), some (.int (xs (4 * n + 2))), some (.ref 394), none]) rfl rfl (Nat.le_of_ble_eq_true rfl) (Nat.le_of_ble_eq_true rfl) rfl) rfl hH ?_
  rintro _ _ ⟨rfl, rfl⟩
  change Ev _ _ _ _ ([.int k]) _ _
  refine ev_istore (L' := [some (.ref 0), some (.ref 8), some (.ref 370), some (.ref 394), some (.int (nI (4 * n))), some (.int k), o6]) t_113_338 (Nat.le_of_ble_eq_true rfl) rfl ?_
  refine ev_aload_n t_113_340 rfl ?_
  refine ev_aload_n t_113_341 rfl ?_
  refine ev_iload t_113_342 rfl ?_
  refine ev_iconst t_113_344 ?_
  change Ev _ _ _ _ ([.int (nI 1), .int (nI (4 * n)), .ref 0, .ref 370]) _ _
  refine ev_iaddN t_113_345 ?_
  refine es_al (k := 4 * n + 1) (ok := fun ty => ty == .int) (f := fun j => .int (xs j)) t_113_346 rfl (fun _ _ _ => rfl) (by rw [ls_at (by omega)]; exact h1) rfl (by omega) (by omega) ?_
  change Ev _ _ _ _ ([.int (xs (4 * n + 1)), .ref 370]) _ _
  refine ev_aload_n t_113_347 rfl ?_
  refine ev_iload t_113_348 rfl ?_
  refine ev_iconst t_113_350 ?_
  change Ev _ _ _ _ ([.int (nI 2), .int (nI (4 * n)), .ref 0, .int (xs (4 * n + 1)), .ref 370]) _ _
  refine ev_iaddN t_113_351 ?_
  refine es_al (k := 4 * n + 2) (ok := fun ty => ty == .int) (f := fun j => .int (xs j)) t_113_352 rfl (fun _ _ _ => rfl) (by rw [ls_at (by omega)]; exact h1) rfl (by omega) (by omega) ?_
  change Ev _ _ _ _ ([.int (xs (4 * n + 2)), .int (xs (4 * n + 1)), .ref 370]) _ _
  refine ev_cl (pm_st_V t_113_353 (as := [.ref 370, .int (xs (4 * n + 1)), .int (xs (4 * n + 2))]) (rest := []) (L0 := [some (.ref 370), some (.int (xs (4 * n + 1))), some (.int (xs (4 * n + 2)))]) rfl rfl (Nat.le_of_ble_eq_true rfl) (Nat.le_of_ble_eq_true rfl) rfl (ls_rm rfl)) rfl hM ?_
  rintro _ _ ⟨rfl, rfl⟩
  change Ev _ _ _ _ ([.int b]) _ _
  refine ev_istore (L' := [some (.ref 0), some (.ref 8), some (.ref 370), some (.ref 394), some (.int (nI (4 * n))), some (.int k), some (.int b)]) t_113_356 (Nat.le_of_ble_eq_true rfl) rfl ?_
  refine ev_aload_n t_113_358 rfl ?_
  refine ev_cl (pm_st_V t_113_359 (as := [.ref 370]) (rest := []) (L0 := [some (.ref 370)]) rfl rfl (Nat.le_of_ble_eq_true rfl) (Nat.le_of_ble_eq_true rfl) rfl (ls_rm rfl)) rfl hk ?_
  rintro _ _ ⟨rfl, rfl⟩
  change Ev _ _ _ _ ([.int k]) _ _
  refine ev_iload t_113_362 rfl ?_
  refine ev_icmp_eq t_113_364 (fun h9 => ?_) (fun h9 => absurd rfl h9)
  refine ev_iload t_113_369 rfl ?_
  refine ev_if_ne (y := 0) t_113_371 (fun h371 => ?_) (fun h371 => ?_)
  · refine ev_goto t_113_393 ?_
    exact kk _ _
  · refine ev_aload_n t_113_374 rfl ?_
    refine ev_iconst t_113_375 ?_
    change Ev _ _ _ _ ([.int (nI 0), .ref 394]) _ _
    refine es_al (k := 0) (ok := fun ty => ty == .long) (f := f) t_113_376 rfl (fun _ _ _ => rfl) (by rw [ls_at (by omega)]; exact ho) rfl (by omega) (by omega) ?_
    rw [hf]
    refine ev_iload t_113_377 rfl ?_
    refine ev_if_eq (y := 0) t_113_379 (fun h379 => ?_) (fun h379 => ?_)
    · refine ev_lconst t_113_386 ?_
      refine ev_lcmp t_113_387 ?_
      refine ev_top (y := nI 0) (by rw [hy (Decidable.byContradiction h371)]; unfold blI; first | (rw [if_pos h379]; exact lg_self _) | (rw [if_neg h379]; exact lg_self _)) ?_
      refine ev_if_eq (y := 0) t_113_388 (fun h9 => ?_) (fun h9 => absurd rfl h9)
      refine ev_goto t_113_393 ?_
      exact kk _ _
    · refine ev_lconst t_113_382 ?_
      refine ev_goto t_113_383 ?_
      refine ev_lcmp t_113_387 ?_
      refine ev_top (y := nI 0) (by rw [hy (Decidable.byContradiction h371)]; unfold blI; first | (rw [if_pos h379]; exact lg_self _) | (rw [if_neg h379]; exact lg_self _)) ?_
      refine ev_if_eq (y := 0) t_113_388 (fun h9 => ?_) (fun h9 => absurd rfl h9)
      refine ev_goto t_113_393 ?_
      exact kk _ _
theorem l5 (hn : 4 * n + 4 ≤ Ls) (hL : Ls ≤ 2048) (h0 : M.2.2 0 = .inl (.int, Ls, fun j => .int (xs j))) (h1 : M1.2.2 0 = .inl (.int, Ls, fun j => .int (xs j))) (hH : Ev 126 106 0 [some (.ref 8), some (.int (xs (4 * n + 1))), some (.int (xs (4 * n + 2))), none] [] (LBB M σ τ) (fun q9 M' => ∃ v9, q9 = .inl v9 ∧ v9 = some (.int k) ∧ M' = LBB M1 σ1 τ)) (hM : Ev 126 50 0 [some (.ref 370), some (.int (xs (4 * n + 1))), some (.int (xs (4 * n + 2)))] [] (LBB M1 σ1 τ) (fun q9 M' => ∃ v9, q9 = .inl v9 ∧ v9 = none ∧ M' = LBB M1 σ1 τ1)) (hk : Ev 126 40 0 [some (.ref 370)] [] (LBB M1 σ1 τ1) (fun q9 M' => ∃ v9, q9 = .inl v9 ∧ v9 = some (.int k) ∧ M' = LBB M1 σ1 τ1)) (kk : ∀ p5 p6, Ev 127 113 928 [some (.ref 0), some (.ref 8), some (.ref 370), some (.ref 394), some (.int (nI (4 * n))), p5, p6] [] (LBB M1 σ1 τ1) Q) : Ev 127 113 396 [some (.ref 0), some (.ref 8), some (.ref 370), some (.ref 394), some (.int (nI (4 * n))), o5, o6] [] (LBB M σ τ) Q := by
  refine ev_aload_n t_113_396 rfl ?_
  refine ev_aload_n t_113_397 rfl ?_
  refine ev_iload t_113_398 rfl ?_
  refine ev_iconst t_113_400 ?_
  change Ev _ _ _ _ ([.int (nI 1), .int (nI (4 * n)), .ref 0, .ref 8]) _ _
  refine ev_iaddN t_113_401 ?_
  refine es_al (k := 4 * n + 1) (ok := fun ty => ty == .int) (f := fun j => .int (xs j)) t_113_402 rfl (fun _ _ _ => rfl) (by rw [ls_at (by omega)]; exact h0) rfl (by omega) (by omega) ?_
  change Ev _ _ _ _ ([.int (xs (4 * n + 1)), .ref 8]) _ _
  refine ev_aload_n t_113_403 rfl ?_
  refine ev_iload t_113_404 rfl ?_
  refine ev_iconst t_113_406 ?_
  change Ev _ _ _ _ ([.int (nI 2), .int (nI (4 * n)), .ref 0, .int (xs (4 * n + 1)), .ref 8]) _ _
  refine ev_iaddN t_113_407 ?_
  refine es_al (k := 4 * n + 2) (ok := fun ty => ty == .int) (f := fun j => .int (xs j)) t_113_408 rfl (fun _ _ _ => rfl) (by rw [ls_at (by omega)]; exact h0) rfl (by omega) (by omega) ?_
  change Ev _ _ _ _ ([.int (xs (4 * n + 2)), .int (xs (4 * n + 1)), .ref 8]) _ _
  refine ev_cl (pm_st_S t_113_409 (Nat.le_of_ble_eq_true rfl) (as := [.ref 8, .int (xs (4 * n + 1)), .int (xs (4 * n + 2))]) (rest := []) (L0 := [some (.ref 8), some (.int (xs (4 * n + 1))), some (.int (xs (4 * n + 2))), none]) rfl rfl (Nat.le_of_ble_eq_true rfl) (Nat.le_of_ble_eq_true rfl) rfl) rfl hH ?_
  rintro _ _ ⟨rfl, rfl⟩
  change Ev _ _ _ _ ([.int k]) _ _
  refine ev_istore (L' := [some (.ref 0), some (.ref 8), some (.ref 370), some (.ref 394), some (.int (nI (4 * n))), some (.int k), o6]) t_113_412 (Nat.le_of_ble_eq_true rfl) rfl ?_
  refine ev_aload_n t_113_414 rfl ?_
  refine ev_aload_n t_113_415 rfl ?_
  refine ev_iload t_113_416 rfl ?_
  refine ev_iconst t_113_418 ?_
  change Ev _ _ _ _ ([.int (nI 1), .int (nI (4 * n)), .ref 0, .ref 370]) _ _
  refine ev_iaddN t_113_419 ?_
  refine es_al (k := 4 * n + 1) (ok := fun ty => ty == .int) (f := fun j => .int (xs j)) t_113_420 rfl (fun _ _ _ => rfl) (by rw [ls_at (by omega)]; exact h1) rfl (by omega) (by omega) ?_
  change Ev _ _ _ _ ([.int (xs (4 * n + 1)), .ref 370]) _ _
  refine ev_aload_n t_113_421 rfl ?_
  refine ev_iload t_113_422 rfl ?_
  refine ev_iconst t_113_424 ?_
  change Ev _ _ _ _ ([.int (nI 2), .int (nI (4 * n)), .ref 0, .int (xs (4 * n + 1)), .ref 370]) _ _
  refine ev_iaddN t_113_425 ?_
  refine es_al (k := 4 * n + 2) (ok := fun ty => ty == .int) (f := fun j => .int (xs j)) t_113_426 rfl (fun _ _ _ => rfl) (by rw [ls_at (by omega)]; exact h1) rfl (by omega) (by omega) ?_
  change Ev _ _ _ _ ([.int (xs (4 * n + 2)), .int (xs (4 * n + 1)), .ref 370]) _ _
  refine ev_cl (pm_st_V t_113_427 (as := [.ref 370, .int (xs (4 * n + 1)), .int (xs (4 * n + 2))]) (rest := []) (L0 := [some (.ref 370), some (.int (xs (4 * n + 1))), some (.int (xs (4 * n + 2)))]) rfl rfl (Nat.le_of_ble_eq_true rfl) (Nat.le_of_ble_eq_true rfl) rfl (ls_rm rfl)) rfl hM ?_
  rintro _ _ ⟨rfl, rfl⟩
  change Ev _ _ _ _ ([]) _ _
  refine ev_aload_n t_113_430 rfl ?_
  refine ev_cl (pm_st_V t_113_431 (as := [.ref 370]) (rest := []) (L0 := [some (.ref 370)]) rfl rfl (Nat.le_of_ble_eq_true rfl) (Nat.le_of_ble_eq_true rfl) rfl (ls_rm rfl)) rfl hk ?_
  rintro _ _ ⟨rfl, rfl⟩
  change Ev _ _ _ _ ([.int k]) _ _
  refine ev_iload t_113_434 rfl ?_
  refine ev_icmp_eq t_113_436 (fun h9 => ?_) (fun h9 => absurd rfl h9)
  refine ev_goto t_113_441 ?_
  exact kk _ _
theorem l6 (hn : 4 * n + 4 ≤ Ls) (hL : Ls ≤ 2048) (h0 : M.2.2 0 = .inl (.int, Ls, fun j => .int (xs j))) (h1 : M1.2.2 0 = .inl (.int, Ls, fun j => .int (xs j))) (ho : M1.2.2 394 = .inl (.long, 1, f)) (hf : f 0 = .long y) (hy : k = 0 → y = b.toInt64) (hH : Ev 126 107 0 [some (.ref 8), some (.int (xs (4 * n + 1))), some (.int (xs (4 * n + 2))), some (.ref 394), none] [] (LBB M σ τ) (fun q9 M' => ∃ v9, q9 = .inl v9 ∧ v9 = some (.int k) ∧ M' = LBB M1 σ1 τ)) (hM : Ev 126 67 0 [some (.ref 370), some (.int (xs (4 * n + 1))), some (.int (xs (4 * n + 2))), none, none] [] (LBB M1 σ1 τ) (fun q9 M' => ∃ v9, q9 = .inl v9 ∧ v9 = some (.int b) ∧ M' = LBB M1 σ1 τ1)) (hk : Ev 126 40 0 [some (.ref 370)] [] (LBB M1 σ1 τ1) (fun q9 M' => ∃ v9, q9 = .inl v9 ∧ v9 = some (.int k) ∧ M' = LBB M1 σ1 τ1)) (kk : ∀ p5 p6, Ev 127 113 928 [some (.ref 0), some (.ref 8), some (.ref 370), some (.ref 394), some (.int (nI (4 * n))), p5, p6] [] (LBB M1 σ1 τ1) Q) : Ev 127 113 444 [some (.ref 0), some (.ref 8), some (.ref 370), some (.ref 394), some (.int (nI (4 * n))), o5, o6] [] (LBB M σ τ) Q := by
  refine ev_aload_n t_113_444 rfl ?_
  refine ev_aload_n t_113_445 rfl ?_
  refine ev_iload t_113_446 rfl ?_
  refine ev_iconst t_113_448 ?_
  change Ev _ _ _ _ ([.int (nI 1), .int (nI (4 * n)), .ref 0, .ref 8]) _ _
  refine ev_iaddN t_113_449 ?_
  refine es_al (k := 4 * n + 1) (ok := fun ty => ty == .int) (f := fun j => .int (xs j)) t_113_450 rfl (fun _ _ _ => rfl) (by rw [ls_at (by omega)]; exact h0) rfl (by omega) (by omega) ?_
  change Ev _ _ _ _ ([.int (xs (4 * n + 1)), .ref 8]) _ _
  refine ev_aload_n t_113_451 rfl ?_
  refine ev_iload t_113_452 rfl ?_
  refine ev_iconst t_113_454 ?_
  change Ev _ _ _ _ ([.int (nI 2), .int (nI (4 * n)), .ref 0, .int (xs (4 * n + 1)), .ref 8]) _ _
  refine ev_iaddN t_113_455 ?_
  refine es_al (k := 4 * n + 2) (ok := fun ty => ty == .int) (f := fun j => .int (xs j)) t_113_456 rfl (fun _ _ _ => rfl) (by rw [ls_at (by omega)]; exact h0) rfl (by omega) (by omega) ?_
  change Ev _ _ _ _ ([.int (xs (4 * n + 2)), .int (xs (4 * n + 1)), .ref 8]) _ _
  refine ev_aload_n t_113_457 rfl ?_
  refine ev_cl (pm_st_S t_113_458 (Nat.le_of_ble_eq_true rfl) (as := [.ref 8, .int (xs (4 * n + 1)), .int (xs (4 * n + 2)), .ref 394]) (rest := []) (L0 := [some (.ref 8), some (.int (xs (4 * n + 1))), some (.int (xs (4 * n + 2))), some (.ref 394), none]) rfl rfl (Nat.le_of_ble_eq_true rfl) (Nat.le_of_ble_eq_true rfl) rfl) rfl hH ?_
  rintro _ _ ⟨rfl, rfl⟩
  change Ev _ _ _ _ ([.int k]) _ _
  refine ev_istore (L' := [some (.ref 0), some (.ref 8), some (.ref 370), some (.ref 394), some (.int (nI (4 * n))), some (.int k), o6]) t_113_461 (Nat.le_of_ble_eq_true rfl) rfl ?_
  refine ev_aload_n t_113_463 rfl ?_
  refine ev_aload_n t_113_464 rfl ?_
  refine ev_iload t_113_465 rfl ?_
  refine ev_iconst t_113_467 ?_
  change Ev _ _ _ _ ([.int (nI 1), .int (nI (4 * n)), .ref 0, .ref 370]) _ _
  refine ev_iaddN t_113_468 ?_
  refine es_al (k := 4 * n + 1) (ok := fun ty => ty == .int) (f := fun j => .int (xs j)) t_113_469 rfl (fun _ _ _ => rfl) (by rw [ls_at (by omega)]; exact h1) rfl (by omega) (by omega) ?_
  change Ev _ _ _ _ ([.int (xs (4 * n + 1)), .ref 370]) _ _
  refine ev_aload_n t_113_470 rfl ?_
  refine ev_iload t_113_471 rfl ?_
  refine ev_iconst t_113_473 ?_
  change Ev _ _ _ _ ([.int (nI 2), .int (nI (4 * n)), .ref 0, .int (xs (4 * n + 1)), .ref 370]) _ _
  refine ev_iaddN t_113_474 ?_
  refine es_al (k := 4 * n + 2) (ok := fun ty => ty == .int) (f := fun j => .int (xs j)) t_113_475 rfl (fun _ _ _ => rfl) (by rw [ls_at (by omega)]; exact h1) rfl (by omega) (by omega) ?_
  change Ev _ _ _ _ ([.int (xs (4 * n + 2)), .int (xs (4 * n + 1)), .ref 370]) _ _
  refine ev_cl (pm_st_V t_113_476 (as := [.ref 370, .int (xs (4 * n + 1)), .int (xs (4 * n + 2))]) (rest := []) (L0 := [some (.ref 370), some (.int (xs (4 * n + 1))), some (.int (xs (4 * n + 2))), none, none]) rfl rfl (Nat.le_of_ble_eq_true rfl) (Nat.le_of_ble_eq_true rfl) rfl (ls_rm rfl)) rfl hM ?_
  rintro _ _ ⟨rfl, rfl⟩
  change Ev _ _ _ _ ([.int b]) _ _
  refine ev_istore (L' := [some (.ref 0), some (.ref 8), some (.ref 370), some (.ref 394), some (.int (nI (4 * n))), some (.int k), some (.int b)]) t_113_479 (Nat.le_of_ble_eq_true rfl) rfl ?_
  refine ev_aload_n t_113_481 rfl ?_
  refine ev_cl (pm_st_V t_113_482 (as := [.ref 370]) (rest := []) (L0 := [some (.ref 370)]) rfl rfl (Nat.le_of_ble_eq_true rfl) (Nat.le_of_ble_eq_true rfl) rfl (ls_rm rfl)) rfl hk ?_
  rintro _ _ ⟨rfl, rfl⟩
  change Ev _ _ _ _ ([.int k]) _ _
  refine ev_iload t_113_485 rfl ?_
  refine ev_icmp_eq t_113_487 (fun h9 => ?_) (fun h9 => absurd rfl h9)
  refine ev_iload t_113_492 rfl ?_
  refine ev_if_ne (y := 0) t_113_494 (fun h494 => ?_) (fun h494 => ?_)
  · refine ev_goto t_113_509 ?_
    exact kk _ _
  · refine ev_aload_n t_113_497 rfl ?_
    refine ev_iconst t_113_498 ?_
    change Ev _ _ _ _ ([.int (nI 0), .ref 394]) _ _
    refine es_al (k := 0) (ok := fun ty => ty == .long) (f := f) t_113_499 rfl (fun _ _ _ => rfl) (by rw [ls_at (by omega)]; exact ho) rfl (by omega) (by omega) ?_
    rw [hf]
    refine ev_iload t_113_500 rfl ?_
    refine ev_i2l t_113_502 ?_
    refine ev_lcmp t_113_503 ?_
    refine ev_top (y := nI 0) (by rw [hy (Decidable.byContradiction h494)]; exact lg_self _) ?_
    refine ev_if_eq (y := 0) t_113_504 (fun h9 => ?_) (fun h9 => absurd rfl h9)
    refine ev_goto t_113_509 ?_
    exact kk _ _
theorem l8 (hn : 4 * n + 4 ≤ Ls) (hL : Ls ≤ 2048) (h0 : M.2.2 0 = .inl (.int, Ls, fun j => .int (xs j))) (h1 : M1.2.2 0 = .inl (.int, Ls, fun j => .int (xs j))) (ho : M1.2.2 394 = .inl (.long, 1, f)) (hf : f 0 = .long y) (hy : k = 0 → y = blI b) (hH : Ev 126 108 0 [some (.ref 8), some (.int (xs (4 * n + 1))), some (.int (xs (4 * n + 2))), some (.ref 394), none] [] (LBB M σ τ) (fun q9 M' => ∃ v9, q9 = .inl v9 ∧ v9 = some (.int k) ∧ M' = LBB M1 σ1 τ)) (hM : Ev 126 69 0 [some (.ref 370), some (.int (xs (4 * n + 1))), some (.int (xs (4 * n + 2)))] [] (LBB M1 σ1 τ) (fun q9 M' => ∃ v9, q9 = .inl v9 ∧ v9 = some (.int b) ∧ M' = LBB M1 σ1 τ1)) (hk : Ev 126 40 0 [some (.ref 370)] [] (LBB M1 σ1 τ1) (fun q9 M' => ∃ v9, q9 = .inl v9 ∧ v9 = some (.int k) ∧ M' = LBB M1 σ1 τ1)) (kk : ∀ p5 p6, Ev 127 113 928 [some (.ref 0), some (.ref 8), some (.ref 370), some (.ref 394), some (.int (nI (4 * n))), p5, p6] [] (LBB M1 σ1 τ1) Q) : Ev 127 113 537 [some (.ref 0), some (.ref 8), some (.ref 370), some (.ref 394), some (.int (nI (4 * n))), o5, o6] [] (LBB M σ τ) Q := by
  refine ev_aload_n t_113_537 rfl ?_
  refine ev_aload_n t_113_538 rfl ?_
  refine ev_iload t_113_539 rfl ?_
  refine ev_iconst t_113_541 ?_
  change Ev _ _ _ _ ([.int (nI 1), .int (nI (4 * n)), .ref 0, .ref 8]) _ _
  refine ev_iaddN t_113_542 ?_
  refine es_al (k := 4 * n + 1) (ok := fun ty => ty == .int) (f := fun j => .int (xs j)) t_113_543 rfl (fun _ _ _ => rfl) (by rw [ls_at (by omega)]; exact h0) rfl (by omega) (by omega) ?_
  change Ev _ _ _ _ ([.int (xs (4 * n + 1)), .ref 8]) _ _
  refine ev_aload_n t_113_544 rfl ?_
  refine ev_iload t_113_545 rfl ?_
  refine ev_iconst t_113_547 ?_
  change Ev _ _ _ _ ([.int (nI 2), .int (nI (4 * n)), .ref 0, .int (xs (4 * n + 1)), .ref 8]) _ _
  refine ev_iaddN t_113_548 ?_
  refine es_al (k := 4 * n + 2) (ok := fun ty => ty == .int) (f := fun j => .int (xs j)) t_113_549 rfl (fun _ _ _ => rfl) (by rw [ls_at (by omega)]; exact h0) rfl (by omega) (by omega) ?_
  change Ev _ _ _ _ ([.int (xs (4 * n + 2)), .int (xs (4 * n + 1)), .ref 8]) _ _
  refine ev_aload_n t_113_550 rfl ?_
  refine ev_cl (pm_st_S t_113_551 (Nat.le_of_ble_eq_true rfl) (as := [.ref 8, .int (xs (4 * n + 1)), .int (xs (4 * n + 2)), .ref 394]) (rest := []) (L0 := [some (.ref 8), some (.int (xs (4 * n + 1))), some (.int (xs (4 * n + 2))), some (.ref 394), none]) rfl rfl (Nat.le_of_ble_eq_true rfl) (Nat.le_of_ble_eq_true rfl) rfl) rfl hH ?_
  rintro _ _ ⟨rfl, rfl⟩
  change Ev _ _ _ _ ([.int k]) _ _
  refine ev_istore (L' := [some (.ref 0), some (.ref 8), some (.ref 370), some (.ref 394), some (.int (nI (4 * n))), some (.int k), o6]) t_113_554 (Nat.le_of_ble_eq_true rfl) rfl ?_
  refine ev_aload_n t_113_556 rfl ?_
  refine ev_aload_n t_113_557 rfl ?_
  refine ev_iload t_113_558 rfl ?_
  refine ev_iconst t_113_560 ?_
  change Ev _ _ _ _ ([.int (nI 1), .int (nI (4 * n)), .ref 0, .ref 370]) _ _
  refine ev_iaddN t_113_561 ?_
  refine es_al (k := 4 * n + 1) (ok := fun ty => ty == .int) (f := fun j => .int (xs j)) t_113_562 rfl (fun _ _ _ => rfl) (by rw [ls_at (by omega)]; exact h1) rfl (by omega) (by omega) ?_
  change Ev _ _ _ _ ([.int (xs (4 * n + 1)), .ref 370]) _ _
  refine ev_aload_n t_113_563 rfl ?_
  refine ev_iload t_113_564 rfl ?_
  refine ev_iconst t_113_566 ?_
  change Ev _ _ _ _ ([.int (nI 2), .int (nI (4 * n)), .ref 0, .int (xs (4 * n + 1)), .ref 370]) _ _
  refine ev_iaddN t_113_567 ?_
  refine es_al (k := 4 * n + 2) (ok := fun ty => ty == .int) (f := fun j => .int (xs j)) t_113_568 rfl (fun _ _ _ => rfl) (by rw [ls_at (by omega)]; exact h1) rfl (by omega) (by omega) ?_
  change Ev _ _ _ _ ([.int (xs (4 * n + 2)), .int (xs (4 * n + 1)), .ref 370]) _ _
  refine ev_cl (pm_st_V t_113_569 (as := [.ref 370, .int (xs (4 * n + 1)), .int (xs (4 * n + 2))]) (rest := []) (L0 := [some (.ref 370), some (.int (xs (4 * n + 1))), some (.int (xs (4 * n + 2)))]) rfl rfl (Nat.le_of_ble_eq_true rfl) (Nat.le_of_ble_eq_true rfl) rfl (ls_rm rfl)) rfl hM ?_
  rintro _ _ ⟨rfl, rfl⟩
  change Ev _ _ _ _ ([.int b]) _ _
  refine ev_istore (L' := [some (.ref 0), some (.ref 8), some (.ref 370), some (.ref 394), some (.int (nI (4 * n))), some (.int k), some (.int b)]) t_113_572 (Nat.le_of_ble_eq_true rfl) rfl ?_
  refine ev_aload_n t_113_574 rfl ?_
  refine ev_cl (pm_st_V t_113_575 (as := [.ref 370]) (rest := []) (L0 := [some (.ref 370)]) rfl rfl (Nat.le_of_ble_eq_true rfl) (Nat.le_of_ble_eq_true rfl) rfl (ls_rm rfl)) rfl hk ?_
  rintro _ _ ⟨rfl, rfl⟩
  change Ev _ _ _ _ ([.int k]) _ _
  refine ev_iload t_113_578 rfl ?_
  refine ev_icmp_eq t_113_580 (fun h9 => ?_) (fun h9 => absurd rfl h9)
  refine ev_iload t_113_585 rfl ?_
  refine ev_if_ne (y := 0) t_113_587 (fun h587 => ?_) (fun h587 => ?_)
  · refine ev_goto t_113_609 ?_
    exact kk _ _
  · refine ev_aload_n t_113_590 rfl ?_
    refine ev_iconst t_113_591 ?_
    change Ev _ _ _ _ ([.int (nI 0), .ref 394]) _ _
    refine es_al (k := 0) (ok := fun ty => ty == .long) (f := f) t_113_592 rfl (fun _ _ _ => rfl) (by rw [ls_at (by omega)]; exact ho) rfl (by omega) (by omega) ?_
    rw [hf]
    refine ev_iload t_113_593 rfl ?_
    refine ev_if_eq (y := 0) t_113_595 (fun h595 => ?_) (fun h595 => ?_)
    · refine ev_lconst t_113_602 ?_
      refine ev_lcmp t_113_603 ?_
      refine ev_top (y := nI 0) (by rw [hy (Decidable.byContradiction h587)]; unfold blI; first | (rw [if_pos h595]; exact lg_self _) | (rw [if_neg h595]; exact lg_self _)) ?_
      refine ev_if_eq (y := 0) t_113_604 (fun h9 => ?_) (fun h9 => absurd rfl h9)
      refine ev_goto t_113_609 ?_
      exact kk _ _
    · refine ev_lconst t_113_598 ?_
      refine ev_goto t_113_599 ?_
      refine ev_lcmp t_113_603 ?_
      refine ev_top (y := nI 0) (by rw [hy (Decidable.byContradiction h587)]; unfold blI; first | (rw [if_pos h595]; exact lg_self _) | (rw [if_neg h595]; exact lg_self _)) ?_
      refine ev_if_eq (y := 0) t_113_604 (fun h9 => ?_) (fun h9 => absurd rfl h9)
      refine ev_goto t_113_609 ?_
      exact kk _ _
theorem l9 (hn : 4 * n + 4 ≤ Ls) (hL : Ls ≤ 2048) (h0 : M.2.2 0 = .inl (.int, Ls, fun j => .int (xs j))) (h1 : M1.2.2 0 = .inl (.int, Ls, fun j => .int (xs j))) (ho : M1.2.2 394 = .inl (.long, 1, f)) (hf : f 0 = .long y) (hy : k = 0 → y = b.toInt64) (hH : Ev 126 109 0 [some (.ref 8), some (.int (xs (4 * n + 1))), some (.int (xs (4 * n + 2))), some (.int (xs (4 * n + 3))), some (.ref 394), none] [] (LBB M σ τ) (fun q9 M' => ∃ v9, q9 = .inl v9 ∧ v9 = some (.int k) ∧ M' = LBB M1 σ1 τ)) (hM : Ev 126 70 0 [some (.ref 370), some (.int (xs (4 * n + 1))), some (.int (xs (4 * n + 2))), some (.int (xs (4 * n + 3))), none] [] (LBB M1 σ1 τ) (fun q9 M' => ∃ v9, q9 = .inl v9 ∧ v9 = some (.int b) ∧ M' = LBB M1 σ1 τ1)) (hk : Ev 126 40 0 [some (.ref 370)] [] (LBB M1 σ1 τ1) (fun q9 M' => ∃ v9, q9 = .inl v9 ∧ v9 = some (.int k) ∧ M' = LBB M1 σ1 τ1)) (kk : ∀ p5 p6, Ev 127 113 928 [some (.ref 0), some (.ref 8), some (.ref 370), some (.ref 394), some (.int (nI (4 * n))), p5, p6] [] (LBB M1 σ1 τ1) Q) : Ev 127 113 612 [some (.ref 0), some (.ref 8), some (.ref 370), some (.ref 394), some (.int (nI (4 * n))), o5, o6] [] (LBB M σ τ) Q := by
  refine ev_aload_n t_113_612 rfl ?_
  refine ev_aload_n t_113_613 rfl ?_
  refine ev_iload t_113_614 rfl ?_
  refine ev_iconst t_113_616 ?_
  change Ev _ _ _ _ ([.int (nI 1), .int (nI (4 * n)), .ref 0, .ref 8]) _ _
  refine ev_iaddN t_113_617 ?_
  refine es_al (k := 4 * n + 1) (ok := fun ty => ty == .int) (f := fun j => .int (xs j)) t_113_618 rfl (fun _ _ _ => rfl) (by rw [ls_at (by omega)]; exact h0) rfl (by omega) (by omega) ?_
  change Ev _ _ _ _ ([.int (xs (4 * n + 1)), .ref 8]) _ _
  refine ev_aload_n t_113_619 rfl ?_
  refine ev_iload t_113_620 rfl ?_
  refine ev_iconst t_113_622 ?_
  change Ev _ _ _ _ ([.int (nI 2), .int (nI (4 * n)), .ref 0, .int (xs (4 * n + 1)), .ref 8]) _ _
  refine ev_iaddN t_113_623 ?_
  refine es_al (k := 4 * n + 2) (ok := fun ty => ty == .int) (f := fun j => .int (xs j)) t_113_624 rfl (fun _ _ _ => rfl) (by rw [ls_at (by omega)]; exact h0) rfl (by omega) (by omega) ?_
  change Ev _ _ _ _ ([.int (xs (4 * n + 2)), .int (xs (4 * n + 1)), .ref 8]) _ _
  refine ev_aload_n t_113_625 rfl ?_
  refine ev_iload t_113_626 rfl ?_
  refine ev_iconst t_113_628 ?_
  change Ev _ _ _ _ ([.int (nI 3), .int (nI (4 * n)), .ref 0, .int (xs (4 * n + 2)), .int (xs (4 * n + 1)), .ref 8]) _ _
  refine ev_iaddN t_113_629 ?_
  refine es_al (k := 4 * n + 3) (ok := fun ty => ty == .int) (f := fun j => .int (xs j)) t_113_630 rfl (fun _ _ _ => rfl) (by rw [ls_at (by omega)]; exact h0) rfl (by omega) (by omega) ?_
  change Ev _ _ _ _ ([.int (xs (4 * n + 3)), .int (xs (4 * n + 2)), .int (xs (4 * n + 1)), .ref 8]) _ _
  refine ev_aload_n t_113_631 rfl ?_
  refine ev_cl (pm_st_S t_113_632 (Nat.le_of_ble_eq_true rfl) (as := [.ref 8, .int (xs (4 * n + 1)), .int (xs (4 * n + 2)), .int (xs (4 * n + 3)), .ref 394]) (rest := []) (L0 := [some (.ref 8), some (.int (xs (4 * n + 1))), some (.int (xs (4 * n + 2))), some (.int (xs (4 * n + 3))), some (.ref 394), none]) rfl rfl (Nat.le_of_ble_eq_true rfl) (Nat.le_of_ble_eq_true rfl) rfl) rfl hH ?_
  rintro _ _ ⟨rfl, rfl⟩
  change Ev _ _ _ _ ([.int k]) _ _
  refine ev_istore (L' := [some (.ref 0), some (.ref 8), some (.ref 370), some (.ref 394), some (.int (nI (4 * n))), some (.int k), o6]) t_113_635 (Nat.le_of_ble_eq_true rfl) rfl ?_
  refine ev_aload_n t_113_637 rfl ?_
  refine ev_aload_n t_113_638 rfl ?_
  refine ev_iload t_113_639 rfl ?_
  refine ev_iconst t_113_641 ?_
  change Ev _ _ _ _ ([.int (nI 1), .int (nI (4 * n)), .ref 0, .ref 370]) _ _
  refine ev_iaddN t_113_642 ?_
  refine es_al (k := 4 * n + 1) (ok := fun ty => ty == .int) (f := fun j => .int (xs j)) t_113_643 rfl (fun _ _ _ => rfl) (by rw [ls_at (by omega)]; exact h1) rfl (by omega) (by omega) ?_
  change Ev _ _ _ _ ([.int (xs (4 * n + 1)), .ref 370]) _ _
  refine ev_aload_n t_113_644 rfl ?_
  refine ev_iload t_113_645 rfl ?_
  refine ev_iconst t_113_647 ?_
  change Ev _ _ _ _ ([.int (nI 2), .int (nI (4 * n)), .ref 0, .int (xs (4 * n + 1)), .ref 370]) _ _
  refine ev_iaddN t_113_648 ?_
  refine es_al (k := 4 * n + 2) (ok := fun ty => ty == .int) (f := fun j => .int (xs j)) t_113_649 rfl (fun _ _ _ => rfl) (by rw [ls_at (by omega)]; exact h1) rfl (by omega) (by omega) ?_
  change Ev _ _ _ _ ([.int (xs (4 * n + 2)), .int (xs (4 * n + 1)), .ref 370]) _ _
  refine ev_aload_n t_113_650 rfl ?_
  refine ev_iload t_113_651 rfl ?_
  refine ev_iconst t_113_653 ?_
  change Ev _ _ _ _ ([.int (nI 3), .int (nI (4 * n)), .ref 0, .int (xs (4 * n + 2)), .int (xs (4 * n + 1)), .ref 370]) _ _
  refine ev_iaddN t_113_654 ?_
  refine es_al (k := 4 * n + 3) (ok := fun ty => ty == .int) (f := fun j => .int (xs j)) t_113_655 rfl (fun _ _ _ => rfl) (by rw [ls_at (by omega)]; exact h1) rfl (by omega) (by omega) ?_
  change Ev _ _ _ _ ([.int (xs (4 * n + 3)), .int (xs (4 * n + 2)), .int (xs (4 * n + 1)), .ref 370]) _ _
  refine ev_cl (pm_st_V t_113_656 (as := [.ref 370, .int (xs (4 * n + 1)), .int (xs (4 * n + 2)), .int (xs (4 * n + 3))]) (rest := []) (L0 := [some (.ref 370), some (.int (xs (4 * n + 1))), some (.int (xs (4 * n + 2))), some (.int (xs (4 * n + 3))), none]) rfl rfl (Nat.le_of_ble_eq_true rfl) (Nat.le_of_ble_eq_true rfl) rfl (ls_rm rfl)) rfl hM ?_
  rintro _ _ ⟨rfl, rfl⟩
  change Ev _ _ _ _ ([.int b]) _ _
  refine ev_istore (L' := [some (.ref 0), some (.ref 8), some (.ref 370), some (.ref 394), some (.int (nI (4 * n))), some (.int k), some (.int b)]) t_113_659 (Nat.le_of_ble_eq_true rfl) rfl ?_
  refine ev_aload_n t_113_661 rfl ?_
  refine ev_cl (pm_st_V t_113_662 (as := [.ref 370]) (rest := []) (L0 := [some (.ref 370)]) rfl rfl (Nat.le_of_ble_eq_true rfl) (Nat.le_of_ble_eq_true rfl) rfl (ls_rm rfl)) rfl hk ?_
  rintro _ _ ⟨rfl, rfl⟩
  change Ev _ _ _ _ ([.int k]) _ _
  refine ev_iload t_113_665 rfl ?_
  refine ev_icmp_eq t_113_667 (fun h9 => ?_) (fun h9 => absurd rfl h9)
  refine ev_iload t_113_672 rfl ?_
  refine ev_if_ne (y := 0) t_113_674 (fun h674 => ?_) (fun h674 => ?_)
  · refine ev_goto t_113_689 ?_
    exact kk _ _
  · refine ev_aload_n t_113_677 rfl ?_
    refine ev_iconst t_113_678 ?_
    change Ev _ _ _ _ ([.int (nI 0), .ref 394]) _ _
    refine es_al (k := 0) (ok := fun ty => ty == .long) (f := f) t_113_679 rfl (fun _ _ _ => rfl) (by rw [ls_at (by omega)]; exact ho) rfl (by omega) (by omega) ?_
    rw [hf]
    refine ev_iload t_113_680 rfl ?_
    refine ev_i2l t_113_682 ?_
    refine ev_lcmp t_113_683 ?_
    refine ev_top (y := nI 0) (by rw [hy (Decidable.byContradiction h674)]; exact lg_self _) ?_
    refine ev_if_eq (y := 0) t_113_684 (fun h9 => ?_) (fun h9 => absurd rfl h9)
    refine ev_goto t_113_689 ?_
    exact kk _ _
theorem l10 (hn : 4 * n + 4 ≤ Ls) (hL : Ls ≤ 2048) (h0 : M.2.2 0 = .inl (.int, Ls, fun j => .int (xs j))) (h1 : M1.2.2 0 = .inl (.int, Ls, fun j => .int (xs j))) (ho : M1.2.2 394 = .inl (.long, 1, f)) (hf : f 0 = .long y) (hy : k = 0 → y = b.toInt64) (hH : Ev 126 110 0 [some (.ref 8), some (.int (xs (4 * n + 1))), some (.int (xs (4 * n + 2))), some (.int (xs (4 * n + 3))), some (.ref 394), none] [] (LBB M σ τ) (fun q9 M' => ∃ v9, q9 = .inl v9 ∧ v9 = some (.int k) ∧ M' = LBB M1 σ1 τ)) (hM : Ev 126 71 0 [some (.ref 370), some (.int (xs (4 * n + 1))), some (.int (xs (4 * n + 2))), some (.int (xs (4 * n + 3))), none] [] (LBB M1 σ1 τ) (fun q9 M' => ∃ v9, q9 = .inl v9 ∧ v9 = some (.int b) ∧ M' = LBB M1 σ1 τ1)) (hk : Ev 126 40 0 [some (.ref 370)] [] (LBB M1 σ1 τ1) (fun q9 M' => ∃ v9, q9 = .inl v9 ∧ v9 = some (.int k) ∧ M' = LBB M1 σ1 τ1)) (kk : ∀ p5 p6, Ev 127 113 928 [some (.ref 0), some (.ref 8), some (.ref 370), some (.ref 394), some (.int (nI (4 * n))), p5, p6] [] (LBB M1 σ1 τ1) Q) : Ev 127 113 692 [some (.ref 0), some (.ref 8), some (.ref 370), some (.ref 394), some (.int (nI (4 * n))), o5, o6] [] (LBB M σ τ) Q := by
  refine ev_aload_n t_113_692 rfl ?_
  refine ev_aload_n t_113_693 rfl ?_
  refine ev_iload t_113_694 rfl ?_
  refine ev_iconst t_113_696 ?_
  change Ev _ _ _ _ ([.int (nI 1), .int (nI (4 * n)), .ref 0, .ref 8]) _ _
  refine ev_iaddN t_113_697 ?_
  refine es_al (k := 4 * n + 1) (ok := fun ty => ty == .int) (f := fun j => .int (xs j)) t_113_698 rfl (fun _ _ _ => rfl) (by rw [ls_at (by omega)]; exact h0) rfl (by omega) (by omega) ?_
  change Ev _ _ _ _ ([.int (xs (4 * n + 1)), .ref 8]) _ _
  refine ev_aload_n t_113_699 rfl ?_
  refine ev_iload t_113_700 rfl ?_
  refine ev_iconst t_113_702 ?_
  change Ev _ _ _ _ ([.int (nI 2), .int (nI (4 * n)), .ref 0, .int (xs (4 * n + 1)), .ref 8]) _ _
  refine ev_iaddN t_113_703 ?_
  refine es_al (k := 4 * n + 2) (ok := fun ty => ty == .int) (f := fun j => .int (xs j)) t_113_704 rfl (fun _ _ _ => rfl) (by rw [ls_at (by omega)]; exact h0) rfl (by omega) (by omega) ?_
  change Ev _ _ _ _ ([.int (xs (4 * n + 2)), .int (xs (4 * n + 1)), .ref 8]) _ _
  refine ev_aload_n t_113_705 rfl ?_
  refine ev_iload t_113_706 rfl ?_
  refine ev_iconst t_113_708 ?_
  change Ev _ _ _ _ ([.int (nI 3), .int (nI (4 * n)), .ref 0, .int (xs (4 * n + 2)), .int (xs (4 * n + 1)), .ref 8]) _ _
  refine ev_iaddN t_113_709 ?_
  refine es_al (k := 4 * n + 3) (ok := fun ty => ty == .int) (f := fun j => .int (xs j)) t_113_710 rfl (fun _ _ _ => rfl) (by rw [ls_at (by omega)]; exact h0) rfl (by omega) (by omega) ?_
  change Ev _ _ _ _ ([.int (xs (4 * n + 3)), .int (xs (4 * n + 2)), .int (xs (4 * n + 1)), .ref 8]) _ _
  refine ev_aload_n t_113_711 rfl ?_
  refine ev_cl (pm_st_S t_113_712 (Nat.le_of_ble_eq_true rfl) (as := [.ref 8, .int (xs (4 * n + 1)), .int (xs (4 * n + 2)), .int (xs (4 * n + 3)), .ref 394]) (rest := []) (L0 := [some (.ref 8), some (.int (xs (4 * n + 1))), some (.int (xs (4 * n + 2))), some (.int (xs (4 * n + 3))), some (.ref 394), none]) rfl rfl (Nat.le_of_ble_eq_true rfl) (Nat.le_of_ble_eq_true rfl) rfl) rfl hH ?_
  rintro _ _ ⟨rfl, rfl⟩
  change Ev _ _ _ _ ([.int k]) _ _
  refine ev_istore (L' := [some (.ref 0), some (.ref 8), some (.ref 370), some (.ref 394), some (.int (nI (4 * n))), some (.int k), o6]) t_113_715 (Nat.le_of_ble_eq_true rfl) rfl ?_
  refine ev_aload_n t_113_717 rfl ?_
  refine ev_aload_n t_113_718 rfl ?_
  refine ev_iload t_113_719 rfl ?_
  refine ev_iconst t_113_721 ?_
  change Ev _ _ _ _ ([.int (nI 1), .int (nI (4 * n)), .ref 0, .ref 370]) _ _
  refine ev_iaddN t_113_722 ?_
  refine es_al (k := 4 * n + 1) (ok := fun ty => ty == .int) (f := fun j => .int (xs j)) t_113_723 rfl (fun _ _ _ => rfl) (by rw [ls_at (by omega)]; exact h1) rfl (by omega) (by omega) ?_
  change Ev _ _ _ _ ([.int (xs (4 * n + 1)), .ref 370]) _ _
  refine ev_aload_n t_113_724 rfl ?_
  refine ev_iload t_113_725 rfl ?_
  refine ev_iconst t_113_727 ?_
  change Ev _ _ _ _ ([.int (nI 2), .int (nI (4 * n)), .ref 0, .int (xs (4 * n + 1)), .ref 370]) _ _
  refine ev_iaddN t_113_728 ?_
  refine es_al (k := 4 * n + 2) (ok := fun ty => ty == .int) (f := fun j => .int (xs j)) t_113_729 rfl (fun _ _ _ => rfl) (by rw [ls_at (by omega)]; exact h1) rfl (by omega) (by omega) ?_
  change Ev _ _ _ _ ([.int (xs (4 * n + 2)), .int (xs (4 * n + 1)), .ref 370]) _ _
  refine ev_aload_n t_113_730 rfl ?_
  refine ev_iload t_113_731 rfl ?_
  refine ev_iconst t_113_733 ?_
  change Ev _ _ _ _ ([.int (nI 3), .int (nI (4 * n)), .ref 0, .int (xs (4 * n + 2)), .int (xs (4 * n + 1)), .ref 370]) _ _
  refine ev_iaddN t_113_734 ?_
  refine es_al (k := 4 * n + 3) (ok := fun ty => ty == .int) (f := fun j => .int (xs j)) t_113_735 rfl (fun _ _ _ => rfl) (by rw [ls_at (by omega)]; exact h1) rfl (by omega) (by omega) ?_
  change Ev _ _ _ _ ([.int (xs (4 * n + 3)), .int (xs (4 * n + 2)), .int (xs (4 * n + 1)), .ref 370]) _ _
  refine ev_cl (pm_st_V t_113_736 (as := [.ref 370, .int (xs (4 * n + 1)), .int (xs (4 * n + 2)), .int (xs (4 * n + 3))]) (rest := []) (L0 := [some (.ref 370), some (.int (xs (4 * n + 1))), some (.int (xs (4 * n + 2))), some (.int (xs (4 * n + 3))), none]) rfl rfl (Nat.le_of_ble_eq_true rfl) (Nat.le_of_ble_eq_true rfl) rfl (ls_rm rfl)) rfl hM ?_
  rintro _ _ ⟨rfl, rfl⟩
  change Ev _ _ _ _ ([.int b]) _ _
  refine ev_istore (L' := [some (.ref 0), some (.ref 8), some (.ref 370), some (.ref 394), some (.int (nI (4 * n))), some (.int k), some (.int b)]) t_113_739 (Nat.le_of_ble_eq_true rfl) rfl ?_
  refine ev_aload_n t_113_741 rfl ?_
  refine ev_cl (pm_st_V t_113_742 (as := [.ref 370]) (rest := []) (L0 := [some (.ref 370)]) rfl rfl (Nat.le_of_ble_eq_true rfl) (Nat.le_of_ble_eq_true rfl) rfl (ls_rm rfl)) rfl hk ?_
  rintro _ _ ⟨rfl, rfl⟩
  change Ev _ _ _ _ ([.int k]) _ _
  refine ev_iload t_113_745 rfl ?_
  refine ev_icmp_eq t_113_747 (fun h9 => ?_) (fun h9 => absurd rfl h9)
  refine ev_iload t_113_752 rfl ?_
  refine ev_if_ne (y := 0) t_113_754 (fun h754 => ?_) (fun h754 => ?_)
  · refine ev_goto t_113_769 ?_
    exact kk _ _
  · refine ev_aload_n t_113_757 rfl ?_
    refine ev_iconst t_113_758 ?_
    change Ev _ _ _ _ ([.int (nI 0), .ref 394]) _ _
    refine es_al (k := 0) (ok := fun ty => ty == .long) (f := f) t_113_759 rfl (fun _ _ _ => rfl) (by rw [ls_at (by omega)]; exact ho) rfl (by omega) (by omega) ?_
    rw [hf]
    refine ev_iload t_113_760 rfl ?_
    refine ev_i2l t_113_762 ?_
    refine ev_lcmp t_113_763 ?_
    refine ev_top (y := nI 0) (by rw [hy (Decidable.byContradiction h754)]; exact lg_self _) ?_
    refine ev_if_eq (y := 0) t_113_764 (fun h9 => ?_) (fun h9 => absurd rfl h9)
    refine ev_goto t_113_769 ?_
    exact kk _ _
theorem l12 (hn : 4 * n + 4 ≤ Ls) (hL : Ls ≤ 2048) (h0 : M.2.2 0 = .inl (.int, Ls, fun j => .int (xs j))) (h1 : M1.2.2 0 = .inl (.int, Ls, fun j => .int (xs j))) (ho : M1.2.2 394 = .inl (.long, 1, f)) (hf : f 0 = .long y) (hy : k = 0 → y = b.toInt64) (hH : Ev 126 111 0 [some (.ref 8), some (.int (xs (4 * n + 1))), some (.ref 394), none] [] (LBB M σ τ) (fun q9 M' => ∃ v9, q9 = .inl v9 ∧ v9 = some (.int k) ∧ M' = LBB M1 σ1 τ)) (hM : Ev 126 73 0 [some (.ref 370), some (.int (xs (4 * n + 1)))] [] (LBB M1 σ1 τ) (fun q9 M' => ∃ v9, q9 = .inl v9 ∧ v9 = some (.int b) ∧ M' = LBB M1 σ1 τ1)) (hk : Ev 126 40 0 [some (.ref 370)] [] (LBB M1 σ1 τ1) (fun q9 M' => ∃ v9, q9 = .inl v9 ∧ v9 = some (.int k) ∧ M' = LBB M1 σ1 τ1)) (kk : ∀ p5 p6, Ev 127 113 928 [some (.ref 0), some (.ref 8), some (.ref 370), some (.ref 394), some (.int (nI (4 * n))), p5, p6] [] (LBB M1 σ1 τ1) Q) : Ev 127 113 797 [some (.ref 0), some (.ref 8), some (.ref 370), some (.ref 394), some (.int (nI (4 * n))), o5, o6] [] (LBB M σ τ) Q := by
  refine ev_aload_n t_113_797 rfl ?_
  refine ev_aload_n t_113_798 rfl ?_
  refine ev_iload t_113_799 rfl ?_
  refine ev_iconst t_113_801 ?_
  change Ev _ _ _ _ ([.int (nI 1), .int (nI (4 * n)), .ref 0, .ref 8]) _ _
  refine ev_iaddN t_113_802 ?_
  refine es_al (k := 4 * n + 1) (ok := fun ty => ty == .int) (f := fun j => .int (xs j)) t_113_803 rfl (fun _ _ _ => rfl) (by rw [ls_at (by omega)]; exact h0) rfl (by omega) (by omega) ?_
  change Ev _ _ _ _ ([.int (xs (4 * n + 1)), .ref 8]) _ _
  refine ev_aload_n t_113_804 rfl ?_
  refine ev_cl (pm_st_S t_113_805 (Nat.le_of_ble_eq_true rfl) (as := [.ref 8, .int (xs (4 * n + 1)), .ref 394]) (rest := []) (L0 := [some (.ref 8), some (.int (xs (4 * n + 1))), some (.ref 394), none]) rfl rfl (Nat.le_of_ble_eq_true rfl) (Nat.le_of_ble_eq_true rfl) rfl) rfl hH ?_
  rintro _ _ ⟨rfl, rfl⟩
  change Ev _ _ _ _ ([.int k]) _ _
  refine ev_istore (L' := [some (.ref 0), some (.ref 8), some (.ref 370), some (.ref 394), some (.int (nI (4 * n))), some (.int k), o6]) t_113_808 (Nat.le_of_ble_eq_true rfl) rfl ?_
  refine ev_aload_n t_113_810 rfl ?_
  refine ev_aload_n t_113_811 rfl ?_
  refine ev_iload t_113_812 rfl ?_
  refine ev_iconst t_113_814 ?_
  change Ev _ _ _ _ ([.int (nI 1), .int (nI (4 * n)), .ref 0, .ref 370]) _ _
  refine ev_iaddN t_113_815 ?_
  refine es_al (k := 4 * n + 1) (ok := fun ty => ty == .int) (f := fun j => .int (xs j)) t_113_816 rfl (fun _ _ _ => rfl) (by rw [ls_at (by omega)]; exact h1) rfl (by omega) (by omega) ?_
  change Ev _ _ _ _ ([.int (xs (4 * n + 1)), .ref 370]) _ _
  refine ev_cl (pm_st_V t_113_817 (as := [.ref 370, .int (xs (4 * n + 1))]) (rest := []) (L0 := [some (.ref 370), some (.int (xs (4 * n + 1)))]) rfl rfl (Nat.le_of_ble_eq_true rfl) (Nat.le_of_ble_eq_true rfl) rfl (ls_rm rfl)) rfl hM ?_
  rintro _ _ ⟨rfl, rfl⟩
  change Ev _ _ _ _ ([.int b]) _ _
  refine ev_istore (L' := [some (.ref 0), some (.ref 8), some (.ref 370), some (.ref 394), some (.int (nI (4 * n))), some (.int k), some (.int b)]) t_113_820 (Nat.le_of_ble_eq_true rfl) rfl ?_
  refine ev_aload_n t_113_822 rfl ?_
  refine ev_cl (pm_st_V t_113_823 (as := [.ref 370]) (rest := []) (L0 := [some (.ref 370)]) rfl rfl (Nat.le_of_ble_eq_true rfl) (Nat.le_of_ble_eq_true rfl) rfl (ls_rm rfl)) rfl hk ?_
  rintro _ _ ⟨rfl, rfl⟩
  change Ev _ _ _ _ ([.int k]) _ _
  refine ev_iload t_113_826 rfl ?_
  refine ev_icmp_eq t_113_828 (fun h9 => ?_) (fun h9 => absurd rfl h9)
  refine ev_iload t_113_833 rfl ?_
  refine ev_if_ne (y := 0) t_113_835 (fun h835 => ?_) (fun h835 => ?_)
  · refine ev_goto t_113_850 ?_
    exact kk _ _
  · refine ev_aload_n t_113_838 rfl ?_
    refine ev_iconst t_113_839 ?_
    change Ev _ _ _ _ ([.int (nI 0), .ref 394]) _ _
    refine es_al (k := 0) (ok := fun ty => ty == .long) (f := f) t_113_840 rfl (fun _ _ _ => rfl) (by rw [ls_at (by omega)]; exact ho) rfl (by omega) (by omega) ?_
    rw [hf]
    refine ev_iload t_113_841 rfl ?_
    refine ev_i2l t_113_843 ?_
    refine ev_lcmp t_113_844 ?_
    refine ev_top (y := nI 0) (by rw [hy (Decidable.byContradiction h835)]; exact lg_self _) ?_
    refine ev_if_eq (y := 0) t_113_845 (fun h9 => ?_) (fun h9 => absurd rfl h9)
    refine ev_goto t_113_850 ?_
    exact kk _ _
theorem l13 (hn : 4 * n + 4 ≤ Ls) (hL : Ls ≤ 2048) (h0 : M.2.2 0 = .inl (.int, Ls, fun j => .int (xs j))) (h1 : M1.2.2 0 = .inl (.int, Ls, fun j => .int (xs j))) (ho : M1.2.2 394 = .inl (.long, 1, f)) (hf : f 0 = .long y) (hy : k = 0 → y = blI b) (hH : Ev 126 112 0 [some (.ref 8), some (.int (xs (4 * n + 1))), some (.int (xs (4 * n + 2))), some (.ref 394), none] [] (LBB M σ τ) (fun q9 M' => ∃ v9, q9 = .inl v9 ∧ v9 = some (.int k) ∧ M' = LBB M1 σ1 τ)) (hM : Ev 126 74 0 [some (.ref 370), some (.int (xs (4 * n + 1))), some (.int (xs (4 * n + 2))), none] [] (LBB M1 σ1 τ) (fun q9 M' => ∃ v9, q9 = .inl v9 ∧ v9 = some (.int b) ∧ M' = LBB M1 σ1 τ1)) (hk : Ev 126 40 0 [some (.ref 370)] [] (LBB M1 σ1 τ1) (fun q9 M' => ∃ v9, q9 = .inl v9 ∧ v9 = some (.int k) ∧ M' = LBB M1 σ1 τ1)) (kk : ∀ p5 p6, Ev 127 113 928 [some (.ref 0), some (.ref 8), some (.ref 370), some (.ref 394), some (.int (nI (4 * n))), p5, p6] [] (LBB M1 σ1 τ1) Q) : Ev 127 113 853 [some (.ref 0), some (.ref 8), some (.ref 370), some (.ref 394), some (.int (nI (4 * n))), o5, o6] [] (LBB M σ τ) Q := by
  refine ev_aload_n t_113_853 rfl ?_
  refine ev_aload_n t_113_854 rfl ?_
  refine ev_iload t_113_855 rfl ?_
  refine ev_iconst t_113_857 ?_
  change Ev _ _ _ _ ([.int (nI 1), .int (nI (4 * n)), .ref 0, .ref 8]) _ _
  refine ev_iaddN t_113_858 ?_
  refine es_al (k := 4 * n + 1) (ok := fun ty => ty == .int) (f := fun j => .int (xs j)) t_113_859 rfl (fun _ _ _ => rfl) (by rw [ls_at (by omega)]; exact h0) rfl (by omega) (by omega) ?_
  change Ev _ _ _ _ ([.int (xs (4 * n + 1)), .ref 8]) _ _
  refine ev_aload_n t_113_860 rfl ?_
  refine ev_iload t_113_861 rfl ?_
  refine ev_iconst t_113_863 ?_
  change Ev _ _ _ _ ([.int (nI 2), .int (nI (4 * n)), .ref 0, .int (xs (4 * n + 1)), .ref 8]) _ _
  refine ev_iaddN t_113_864 ?_
  refine es_al (k := 4 * n + 2) (ok := fun ty => ty == .int) (f := fun j => .int (xs j)) t_113_865 rfl (fun _ _ _ => rfl) (by rw [ls_at (by omega)]; exact h0) rfl (by omega) (by omega) ?_
  change Ev _ _ _ _ ([.int (xs (4 * n + 2)), .int (xs (4 * n + 1)), .ref 8]) _ _
  refine ev_aload_n t_113_866 rfl ?_
  refine ev_cl (pm_st_S t_113_867 (Nat.le_of_ble_eq_true rfl) (as := [.ref 8, .int (xs (4 * n + 1)), .int (xs (4 * n + 2)), .ref 394]) (rest := []) (L0 := [some (.ref 8), some (.int (xs (4 * n + 1))), some (.int (xs (4 * n + 2))), some (.ref 394), none]) rfl rfl (Nat.le_of_ble_eq_true rfl) (Nat.le_of_ble_eq_true rfl) rfl) rfl hH ?_
  rintro _ _ ⟨rfl, rfl⟩
  change Ev _ _ _ _ ([.int k]) _ _
  refine ev_istore (L' := [some (.ref 0), some (.ref 8), some (.ref 370), some (.ref 394), some (.int (nI (4 * n))), some (.int k), o6]) t_113_870 (Nat.le_of_ble_eq_true rfl) rfl ?_
  refine ev_aload_n t_113_872 rfl ?_
  refine ev_aload_n t_113_873 rfl ?_
  refine ev_iload t_113_874 rfl ?_
  refine ev_iconst t_113_876 ?_
  change Ev _ _ _ _ ([.int (nI 1), .int (nI (4 * n)), .ref 0, .ref 370]) _ _
  refine ev_iaddN t_113_877 ?_
  refine es_al (k := 4 * n + 1) (ok := fun ty => ty == .int) (f := fun j => .int (xs j)) t_113_878 rfl (fun _ _ _ => rfl) (by rw [ls_at (by omega)]; exact h1) rfl (by omega) (by omega) ?_
  change Ev _ _ _ _ ([.int (xs (4 * n + 1)), .ref 370]) _ _
  refine ev_aload_n t_113_879 rfl ?_
  refine ev_iload t_113_880 rfl ?_
  refine ev_iconst t_113_882 ?_
  change Ev _ _ _ _ ([.int (nI 2), .int (nI (4 * n)), .ref 0, .int (xs (4 * n + 1)), .ref 370]) _ _
  refine ev_iaddN t_113_883 ?_
  refine es_al (k := 4 * n + 2) (ok := fun ty => ty == .int) (f := fun j => .int (xs j)) t_113_884 rfl (fun _ _ _ => rfl) (by rw [ls_at (by omega)]; exact h1) rfl (by omega) (by omega) ?_
  change Ev _ _ _ _ ([.int (xs (4 * n + 2)), .int (xs (4 * n + 1)), .ref 370]) _ _
  refine ev_cl (pm_st_V t_113_885 (as := [.ref 370, .int (xs (4 * n + 1)), .int (xs (4 * n + 2))]) (rest := []) (L0 := [some (.ref 370), some (.int (xs (4 * n + 1))), some (.int (xs (4 * n + 2))), none]) rfl rfl (Nat.le_of_ble_eq_true rfl) (Nat.le_of_ble_eq_true rfl) rfl (ls_rm rfl)) rfl hM ?_
  rintro _ _ ⟨rfl, rfl⟩
  change Ev _ _ _ _ ([.int b]) _ _
  refine ev_istore (L' := [some (.ref 0), some (.ref 8), some (.ref 370), some (.ref 394), some (.int (nI (4 * n))), some (.int k), some (.int b)]) t_113_888 (Nat.le_of_ble_eq_true rfl) rfl ?_
  refine ev_aload_n t_113_890 rfl ?_
  refine ev_cl (pm_st_V t_113_891 (as := [.ref 370]) (rest := []) (L0 := [some (.ref 370)]) rfl rfl (Nat.le_of_ble_eq_true rfl) (Nat.le_of_ble_eq_true rfl) rfl (ls_rm rfl)) rfl hk ?_
  rintro _ _ ⟨rfl, rfl⟩
  change Ev _ _ _ _ ([.int k]) _ _
  refine ev_iload t_113_894 rfl ?_
  refine ev_icmp_eq t_113_896 (fun h9 => ?_) (fun h9 => absurd rfl h9)
  refine ev_iload t_113_901 rfl ?_
  refine ev_if_ne (y := 0) t_113_903 (fun h903 => ?_) (fun h903 => ?_)
  · refine ev_goto t_113_925 ?_
    exact kk _ _
  · refine ev_aload_n t_113_906 rfl ?_
    refine ev_iconst t_113_907 ?_
    change Ev _ _ _ _ ([.int (nI 0), .ref 394]) _ _
    refine es_al (k := 0) (ok := fun ty => ty == .long) (f := f) t_113_908 rfl (fun _ _ _ => rfl) (by rw [ls_at (by omega)]; exact ho) rfl (by omega) (by omega) ?_
    rw [hf]
    refine ev_iload t_113_909 rfl ?_
    refine ev_if_eq (y := 0) t_113_911 (fun h911 => ?_) (fun h911 => ?_)
    · refine ev_lconst t_113_918 ?_
      refine ev_lcmp t_113_919 ?_
      refine ev_top (y := nI 0) (by rw [hy (Decidable.byContradiction h903)]; unfold blI; first | (rw [if_pos h911]; exact lg_self _) | (rw [if_neg h911]; exact lg_self _)) ?_
      refine ev_if_eq (y := 0) t_113_920 (fun h9 => ?_) (fun h9 => absurd rfl h9)
      refine ev_goto t_113_925 ?_
      exact kk _ _
    · refine ev_lconst t_113_914 ?_
      refine ev_goto t_113_915 ?_
      refine ev_lcmp t_113_919 ?_
      refine ev_top (y := nI 0) (by rw [hy (Decidable.byContradiction h903)]; unfold blI; first | (rw [if_pos h911]; exact lg_self _) | (rw [if_neg h911]; exact lg_self _)) ?_
      refine ev_if_eq (y := 0) t_113_920 (fun h9 => ?_) (fun h9 => absurd rfl h9)
      refine ev_goto t_113_925 ?_
      exact kk _ _
theorem l0 (hn : 4 * n + 4 ≤ Ls) (hL : Ls ≤ 2048) (h0 : M.2.2 0 = .inl (.int, Ls, fun j => .int (xs j))) (h1 : M.2.2 0 = .inl (.int, Ls, fun j => .int (xs j))) (hH : Ev 126 1 0 [some (.ref 8), some (.long ((xs (4 * n + 1)).toInt64 <<< ((nI 32).toInt64 &&& 63) ||| (xs (4 * n + 2)).toInt64 &&& Int64.ofNat 4294967295)), none, none, none] [] (LBB M σ τ) (fun q9 M' => ∃ v9, q9 = .inl v9 ∧ v9 = some (.int b) ∧ M' = LBB M σ1 τ)) (hM : Ev 126 41 0 [some (.ref 370), some (.long ((xs (4 * n + 1)).toInt64 <<< ((nI 32).toInt64 &&& 63) ||| (xs (4 * n + 2)).toInt64 &&& Int64.ofNat 4294967295)), none, none, none, none] [] (LBB M σ1 τ) (fun q9 M' => ∃ v9, q9 = .inl v9 ∧ v9 = some (.int b) ∧ M' = LBB M σ1 τ1)) (kk : ∀ p5 p6, Ev 127 113 928 [some (.ref 0), some (.ref 8), some (.ref 370), some (.ref 394), some (.int (nI (4 * n))), p5, p6] [] (LBB M σ1 τ1) Q) : Ev 127 113 108 [some (.ref 0), some (.ref 8), some (.ref 370), some (.ref 394), some (.int (nI (4 * n))), o5, o6] [] (LBB M σ τ) Q := by
  refine ev_aload_n t_113_108 rfl ?_
  refine ev_aload_n t_113_109 rfl ?_
  refine ev_iload t_113_110 rfl ?_
  refine ev_iconst t_113_112 ?_
  change Ev _ _ _ _ ([.int (nI 1), .int (nI (4 * n)), .ref 0, .ref 8]) _ _
  refine ev_iaddN t_113_113 ?_
  refine es_al (k := 4 * n + 1) (ok := fun ty => ty == .int) (f := fun j => .int (xs j)) t_113_114 rfl (fun _ _ _ => rfl) (by rw [ls_at (by omega)]; exact h0) rfl (by omega) (by omega) ?_
  change Ev _ _ _ _ ([.int (xs (4 * n + 1)), .ref 8]) _ _
  refine ev_i2l t_113_115 ?_
  refine ev_bipush t_113_116 ?_
  change Ev _ _ _ _ ([.int (nI 32), .long ((xs (4 * n + 1))).toInt64, .ref 8]) _ _
  refine ev_lshl t_113_118 ?_
  refine ev_aload_n t_113_119 rfl ?_
  refine ev_iload t_113_120 rfl ?_
  refine ev_iconst t_113_122 ?_
  change Ev _ _ _ _ ([.int (nI 2), .int (nI (4 * n)), .ref 0, .long (((xs (4 * n + 1))).toInt64 <<< ((nI 32).toInt64 &&& 63)), .ref 8]) _ _
  refine ev_iaddN t_113_123 ?_
  refine es_al (k := 4 * n + 2) (ok := fun ty => ty == .int) (f := fun j => .int (xs j)) t_113_124 rfl (fun _ _ _ => rfl) (by rw [ls_at (by omega)]; exact h0) rfl (by omega) (by omega) ?_
  change Ev _ _ _ _ ([.int (xs (4 * n + 2)), .long (((xs (4 * n + 1))).toInt64 <<< ((nI 32).toInt64 &&& 63)), .ref 8]) _ _
  refine ev_i2l t_113_125 ?_
  refine ev_ldc2 t_113_126 ?_
  refine ev_land t_113_129 ?_
  refine ev_lor t_113_130 ?_
  refine ev_cl (pm_st_V t_113_131 (as := [.ref 8, .long ((((xs (4 * n + 1))).toInt64 <<< ((nI 32).toInt64 &&& 63)) ||| (((xs (4 * n + 2))).toInt64 &&& (Int64.ofNat 4294967295)))]) (rest := []) (L0 := [some (.ref 8), some (.long ((((xs (4 * n + 1))).toInt64 <<< ((nI 32).toInt64 &&& 63)) ||| (((xs (4 * n + 2))).toInt64 &&& (Int64.ofNat 4294967295)))), none, none, none]) rfl rfl (Nat.le_of_ble_eq_true rfl) (Nat.le_of_ble_eq_true rfl) rfl (es_rc o_MR rfl (Nat.le_of_ble_eq_true rfl))) rfl hH ?_
  rintro _ _ ⟨rfl, rfl⟩
  change Ev _ _ _ _ ([.int b]) _ _
  refine ev_aload_n t_113_134 rfl ?_
  refine ev_aload_n t_113_135 rfl ?_
  refine ev_iload t_113_136 rfl ?_
  refine ev_iconst t_113_138 ?_
  change Ev _ _ _ _ ([.int (nI 1), .int (nI (4 * n)), .ref 0, .ref 370, .int b]) _ _
  refine ev_iaddN t_113_139 ?_
  refine es_al (k := 4 * n + 1) (ok := fun ty => ty == .int) (f := fun j => .int (xs j)) t_113_140 rfl (fun _ _ _ => rfl) (by rw [ls_at (by omega)]; exact h0) rfl (by omega) (by omega) ?_
  change Ev _ _ _ _ ([.int (xs (4 * n + 1)), .ref 370, .int b]) _ _
  refine ev_i2l t_113_141 ?_
  refine ev_bipush t_113_142 ?_
  change Ev _ _ _ _ ([.int (nI 32), .long ((xs (4 * n + 1))).toInt64, .ref 370, .int b]) _ _
  refine ev_lshl t_113_144 ?_
  refine ev_aload_n t_113_145 rfl ?_
  refine ev_iload t_113_146 rfl ?_
  refine ev_iconst t_113_148 ?_
  change Ev _ _ _ _ ([.int (nI 2), .int (nI (4 * n)), .ref 0, .long (((xs (4 * n + 1))).toInt64 <<< ((nI 32).toInt64 &&& 63)), .ref 370, .int b]) _ _
  refine ev_iaddN t_113_149 ?_
  refine es_al (k := 4 * n + 2) (ok := fun ty => ty == .int) (f := fun j => .int (xs j)) t_113_150 rfl (fun _ _ _ => rfl) (by rw [ls_at (by omega)]; exact h0) rfl (by omega) (by omega) ?_
  change Ev _ _ _ _ ([.int (xs (4 * n + 2)), .long (((xs (4 * n + 1))).toInt64 <<< ((nI 32).toInt64 &&& 63)), .ref 370, .int b]) _ _
  refine ev_i2l t_113_151 ?_
  refine ev_ldc2 t_113_152 ?_
  refine ev_land t_113_155 ?_
  refine ev_lor t_113_156 ?_
  refine ev_cl (pm_st_V t_113_157 (as := [.ref 370, .long ((((xs (4 * n + 1))).toInt64 <<< ((nI 32).toInt64 &&& 63)) ||| (((xs (4 * n + 2))).toInt64 &&& (Int64.ofNat 4294967295)))]) (rest := [.int b]) (L0 := [some (.ref 370), some (.long ((((xs (4 * n + 1))).toInt64 <<< ((nI 32).toInt64 &&& 63)) ||| (((xs (4 * n + 2))).toInt64 &&& (Int64.ofNat 4294967295)))), none, none, none, none]) rfl rfl (Nat.le_of_ble_eq_true rfl) (Nat.le_of_ble_eq_true rfl) rfl (ls_rm rfl)) rfl hM ?_
  rintro _ _ ⟨rfl, rfl⟩
  change Ev _ _ _ _ ([.int b, .int b]) _ _
  refine ev_icmp_eq t_113_160 (fun h9 => ?_) (fun h9 => absurd rfl h9)
  exact kk _ _
theorem l1 (hn : 4 * n + 4 ≤ Ls) (hL : Ls ≤ 2048) (h0 : M.2.2 0 = .inl (.int, Ls, fun j => .int (xs j))) (h1 : M.2.2 0 = .inl (.int, Ls, fun j => .int (xs j))) (hH : Ev 126 2 0 [some (.ref 8), none] [] (LBB M σ τ) (fun q9 M' => ∃ v9, q9 = .inl v9 ∧ v9 = some (.int b) ∧ M' = LBB M σ1 τ)) (hM : Ev 126 42 0 [some (.ref 370), none] [] (LBB M σ1 τ) (fun q9 M' => ∃ v9, q9 = .inl v9 ∧ v9 = some (.int b) ∧ M' = LBB M σ1 τ1)) (kk : ∀ p5 p6, Ev 127 113 928 [some (.ref 0), some (.ref 8), some (.ref 370), some (.ref 394), some (.int (nI (4 * n))), p5, p6] [] (LBB M σ1 τ1) Q) : Ev 127 113 165 [some (.ref 0), some (.ref 8), some (.ref 370), some (.ref 394), some (.int (nI (4 * n))), o5, o6] [] (LBB M σ τ) Q := by
  refine ev_aload_n t_113_165 rfl ?_
  refine ev_cl (pm_st_V t_113_166 (as := [.ref 8]) (rest := []) (L0 := [some (.ref 8), none]) rfl rfl (Nat.le_of_ble_eq_true rfl) (Nat.le_of_ble_eq_true rfl) rfl (es_rc o_MR rfl (Nat.le_of_ble_eq_true rfl))) rfl hH ?_
  rintro _ _ ⟨rfl, rfl⟩
  change Ev _ _ _ _ ([.int b]) _ _
  refine ev_aload_n t_113_169 rfl ?_
  refine ev_cl (pm_st_V t_113_170 (as := [.ref 370]) (rest := [.int b]) (L0 := [some (.ref 370), none]) rfl rfl (Nat.le_of_ble_eq_true rfl) (Nat.le_of_ble_eq_true rfl) rfl (ls_rm rfl)) rfl hM ?_
  rintro _ _ ⟨rfl, rfl⟩
  change Ev _ _ _ _ ([.int b, .int b]) _ _
  refine ev_icmp_eq t_113_173 (fun h9 => ?_) (fun h9 => absurd rfl h9)
  exact kk _ _
theorem l7 (hn : 4 * n + 4 ≤ Ls) (hL : Ls ≤ 2048) (h0 : M.2.2 0 = .inl (.int, Ls, fun j => .int (xs j))) (h1 : M.2.2 0 = .inl (.int, Ls, fun j => .int (xs j))) (hH : Ev 126 8 0 [some (.ref 8), some (.int (xs (4 * n + 1)))] [] (LBB M σ τ) (fun q9 M' => ∃ v9, q9 = .inl v9 ∧ v9 = some (.int b) ∧ M' = LBB M σ1 τ)) (hM : Ev 126 68 0 [some (.ref 370), some (.int (xs (4 * n + 1)))] [] (LBB M σ1 τ) (fun q9 M' => ∃ v9, q9 = .inl v9 ∧ v9 = some (.int b) ∧ M' = LBB M σ1 τ1)) (kk : ∀ p5 p6, Ev 127 113 928 [some (.ref 0), some (.ref 8), some (.ref 370), some (.ref 394), some (.int (nI (4 * n))), p5, p6] [] (LBB M σ1 τ1) Q) : Ev 127 113 512 [some (.ref 0), some (.ref 8), some (.ref 370), some (.ref 394), some (.int (nI (4 * n))), o5, o6] [] (LBB M σ τ) Q := by
  refine ev_aload_n t_113_512 rfl ?_
  refine ev_aload_n t_113_513 rfl ?_
  refine ev_iload t_113_514 rfl ?_
  refine ev_iconst t_113_516 ?_
  change Ev _ _ _ _ ([.int (nI 1), .int (nI (4 * n)), .ref 0, .ref 8]) _ _
  refine ev_iaddN t_113_517 ?_
  refine es_al (k := 4 * n + 1) (ok := fun ty => ty == .int) (f := fun j => .int (xs j)) t_113_518 rfl (fun _ _ _ => rfl) (by rw [ls_at (by omega)]; exact h0) rfl (by omega) (by omega) ?_
  change Ev _ _ _ _ ([.int (xs (4 * n + 1)), .ref 8]) _ _
  refine ev_cl (pm_st_V t_113_519 (as := [.ref 8, .int (xs (4 * n + 1))]) (rest := []) (L0 := [some (.ref 8), some (.int (xs (4 * n + 1)))]) rfl rfl (Nat.le_of_ble_eq_true rfl) (Nat.le_of_ble_eq_true rfl) rfl (es_rc o_MR rfl (Nat.le_of_ble_eq_true rfl))) rfl hH ?_
  rintro _ _ ⟨rfl, rfl⟩
  change Ev _ _ _ _ ([.int b]) _ _
  refine ev_aload_n t_113_522 rfl ?_
  refine ev_aload_n t_113_523 rfl ?_
  refine ev_iload t_113_524 rfl ?_
  refine ev_iconst t_113_526 ?_
  change Ev _ _ _ _ ([.int (nI 1), .int (nI (4 * n)), .ref 0, .ref 370, .int b]) _ _
  refine ev_iaddN t_113_527 ?_
  refine es_al (k := 4 * n + 1) (ok := fun ty => ty == .int) (f := fun j => .int (xs j)) t_113_528 rfl (fun _ _ _ => rfl) (by rw [ls_at (by omega)]; exact h0) rfl (by omega) (by omega) ?_
  change Ev _ _ _ _ ([.int (xs (4 * n + 1)), .ref 370, .int b]) _ _
  refine ev_cl (pm_st_V t_113_529 (as := [.ref 370, .int (xs (4 * n + 1))]) (rest := [.int b]) (L0 := [some (.ref 370), some (.int (xs (4 * n + 1)))]) rfl rfl (Nat.le_of_ble_eq_true rfl) (Nat.le_of_ble_eq_true rfl) rfl (ls_rm rfl)) rfl hM ?_
  rintro _ _ ⟨rfl, rfl⟩
  change Ev _ _ _ _ ([.int b, .int b]) _ _
  refine ev_icmp_eq t_113_532 (fun h9 => ?_) (fun h9 => absurd rfl h9)
  exact kk _ _
theorem l11 (hn : 4 * n + 4 ≤ Ls) (hL : Ls ≤ 2048) (h0 : M.2.2 0 = .inl (.int, Ls, fun j => .int (xs j))) (h1 : M.2.2 0 = .inl (.int, Ls, fun j => .int (xs j))) (hH : Ev 126 12 0 [some (.ref 8), some (.int (xs (4 * n + 1)))] [] (LBB M σ τ) (fun q9 M' => ∃ v9, q9 = .inl v9 ∧ v9 = some (.int b) ∧ M' = LBB M σ1 τ)) (hM : Ev 126 72 0 [some (.ref 370), some (.int (xs (4 * n + 1)))] [] (LBB M σ1 τ) (fun q9 M' => ∃ v9, q9 = .inl v9 ∧ v9 = some (.int b) ∧ M' = LBB M σ1 τ1)) (kk : ∀ p5 p6, Ev 127 113 928 [some (.ref 0), some (.ref 8), some (.ref 370), some (.ref 394), some (.int (nI (4 * n))), p5, p6] [] (LBB M σ1 τ1) Q) : Ev 127 113 772 [some (.ref 0), some (.ref 8), some (.ref 370), some (.ref 394), some (.int (nI (4 * n))), o5, o6] [] (LBB M σ τ) Q := by
  refine ev_aload_n t_113_772 rfl ?_
  refine ev_aload_n t_113_773 rfl ?_
  refine ev_iload t_113_774 rfl ?_
  refine ev_iconst t_113_776 ?_
  change Ev _ _ _ _ ([.int (nI 1), .int (nI (4 * n)), .ref 0, .ref 8]) _ _
  refine ev_iaddN t_113_777 ?_
  refine es_al (k := 4 * n + 1) (ok := fun ty => ty == .int) (f := fun j => .int (xs j)) t_113_778 rfl (fun _ _ _ => rfl) (by rw [ls_at (by omega)]; exact h0) rfl (by omega) (by omega) ?_
  change Ev _ _ _ _ ([.int (xs (4 * n + 1)), .ref 8]) _ _
  refine ev_cl (pm_st_V t_113_779 (as := [.ref 8, .int (xs (4 * n + 1))]) (rest := []) (L0 := [some (.ref 8), some (.int (xs (4 * n + 1)))]) rfl rfl (Nat.le_of_ble_eq_true rfl) (Nat.le_of_ble_eq_true rfl) rfl (es_rc o_MR rfl (Nat.le_of_ble_eq_true rfl))) rfl hH ?_
  rintro _ _ ⟨rfl, rfl⟩
  change Ev _ _ _ _ ([.int b]) _ _
  refine ev_aload_n t_113_782 rfl ?_
  refine ev_aload_n t_113_783 rfl ?_
  refine ev_iload t_113_784 rfl ?_
  refine ev_iconst t_113_786 ?_
  change Ev _ _ _ _ ([.int (nI 1), .int (nI (4 * n)), .ref 0, .ref 370, .int b]) _ _
  refine ev_iaddN t_113_787 ?_
  refine es_al (k := 4 * n + 1) (ok := fun ty => ty == .int) (f := fun j => .int (xs j)) t_113_788 rfl (fun _ _ _ => rfl) (by rw [ls_at (by omega)]; exact h0) rfl (by omega) (by omega) ?_
  change Ev _ _ _ _ ([.int (xs (4 * n + 1)), .ref 370, .int b]) _ _
  refine ev_cl (pm_st_V t_113_789 (as := [.ref 370, .int (xs (4 * n + 1))]) (rest := [.int b]) (L0 := [some (.ref 370), some (.int (xs (4 * n + 1)))]) rfl rfl (Nat.le_of_ble_eq_true rfl) (Nat.le_of_ble_eq_true rfl) rfl (ls_rm rfl)) rfl hM ?_
  rintro _ _ ⟨rfl, rfl⟩
  change Ev _ _ _ _ ([.int b, .int b]) _ _
  refine ev_icmp_eq t_113_792 (fun h9 => ?_) (fun h9 => absurd rfl h9)
  exact kk _ _
end LW
