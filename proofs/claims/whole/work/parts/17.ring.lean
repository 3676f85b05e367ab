/-! The recent order: its ring. -/
def ro_join (σ : Nat → Nat → Int32) (l r : Nat) : Nat → Nat → Int32 := u2 (u2 σ 23 l (nI r)) 22 r (nI l)
def ro_rm (σ : Nat → Nat → Int32) (n a b k : Nat) : Nat → Nat → Int32 := u2 (u2 (ro_join σ a b) 21 n 0) 20 0 (nI k)
def ro_put (σ : Nat → Nat → Int32) (n a k : Nat) : Nat → Nat → Int32 := u2 (u2 (ro_join (ro_join σ a n) n 96) 21 n 1) 20 0 (nI (k + 1))
theorem ri {i : Nat} {x : Int32} (h : tb_re i = some .int) : tb_rI i x = true := by
  unfold tb_rI
  rw [h]
  exact decide_eq_true rfl
theorem rz {i : Nat} {x : Int32} (h : tb_re i = some .boolean) (hx : x = 0 ∨ x = 1) : tb_rI i x = true := by
  unfold tb_rI
  rw [h]
  rcases hx with rfl | rfl <;> rfl
section RO
variable {d : Nat} {M : pm_M} {σ : Nat → Nat → Int32}
theorem c86 {l r : Nat} (hl : l < 97) (hr : r < 97) : Ev d 86 0 [some (.ref 20), some (.int (nI l)), some (.int (nI r))] [] (sC M σ) (fun q9 M' => ∃ v9, q9 = .inl v9 ∧ v9 = none ∧ M' = sC M (ro_join σ l r)) := by
  refine ev_aload_n t_86_0 rfl ?_
  refine es_get (x := .ref 23) o_RO t_86_1 rfl ?_
  refine ev_iload_n t_86_4 rfl ?_
  refine ev_iload_n t_86_5 rfl ?_
  refine es_iast (k := l) a_af t_86_6 (by omega) ?_
  refine ev_aload_n t_86_7 rfl ?_
  refine es_get (x := .ref 22) o_RO t_86_8 rfl ?_
  refine ev_iload_n t_86_11 rfl ?_
  refine ev_iload_n t_86_12 rfl ?_
  refine es_iast (k := r) a_be t_86_13 (by omega) ?_
  exact ev_retv t_86_14 rfl ⟨none, rfl, rfl, rfl⟩
theorem c81 {n : Nat} (hn : n < 96) {z : Int32} (hz : σ 21 n = z) (hz1 : z = 0 ∨ z = 1) : Ev d 81 0 [some (.ref 20), some (.int (nI n))] [] (sC M σ) (fun q9 M' => ∃ v9, q9 = .inl v9 ∧ v9 = some (.int z) ∧ M' = sC M σ) := by
  refine ev_aload_n t_81_0 rfl ?_
  refine es_get (x := .ref 21) o_RO t_81_1 rfl ?_
  refine ev_iload_n t_81_4 rfl ?_
  refine es_zald (k := n) a_he t_81_5 (by omega) ?_
  rw [hz]
  exact ev_reti t_81_6 (by rcases hz1 with rfl | rfl <;> rfl) ⟨_, rfl, rfl, rfl⟩
theorem c83o {n : Nat} (hn : n < 96) (h0 : σ 21 n = 0) : Ev d 83 0 [some (.ref 20), some (.int (nI n))] [] (sC M σ) (fun q9 M' => ∃ v9, q9 = .inl v9 ∧ v9 = none ∧ M' = sC M σ) := by
  refine ev_aload_n t_83_0 rfl ?_
  refine es_get (x := .ref 21) o_RO t_83_1 rfl ?_
  refine ev_iload_n t_83_4 rfl ?_
  refine es_zald (k := n) a_he t_83_5 (by omega) ?_
  refine ev_if_eq (y := 0) t_83_6 (fun h_6 => ?_) (fun h_6 => ?_)
  · exact ev_retv t_83_42 rfl ⟨none, rfl, rfl, rfl⟩
  · exact absurd h0 h_6
theorem c83i {n a b k : Nat} (hn : n < 96) (h1 : σ 21 n = 1) (ha : a < 97) (hb : b < 97) (hB : σ 22 n = nI a) (hA : σ 23 n = nI b) (hk : σ 20 0 = nI (k + 1)) : Ev (d + 1) 83 0 [some (.ref 20), some (.int (nI n))] [] (sC M σ) (fun q9 M' => ∃ v9, q9 = .inl v9 ∧ v9 = none ∧ M' = sC M (ro_rm σ n a b k)) := by
  refine ev_aload_n t_83_0 rfl ?_
  refine es_get (x := .ref 21) o_RO t_83_1 rfl ?_
  refine ev_iload_n t_83_4 rfl ?_
  refine es_zald (k := n) a_he t_83_5 (by omega) ?_
  refine ev_if_eq (y := 0) t_83_6 (fun h_6 => ?_) (fun h_6 => ?_)
  · rw [h1] at h_6
    exact absurd h_6 (by decide)
  · refine ev_aload_n t_83_9 rfl ?_
    refine ev_aload_n t_83_10 rfl ?_
    refine es_get (x := .ref 22) o_RO t_83_11 rfl ?_
    refine ev_iload_n t_83_14 rfl ?_
    refine es_iald (k := n) a_be t_83_15 (by omega) ?_
    refine ev_top hB ?_
    refine ev_aload_n t_83_16 rfl ?_
    refine es_get (x := .ref 23) o_RO t_83_17 rfl ?_
    refine ev_iload_n t_83_20 rfl ?_
    refine es_iald (k := n) a_af t_83_21 (by omega) ?_
    refine ev_top hA ?_
    refine ev_cl (pm_st_V t_83_22 (as := [.ref 20, .int (nI (a)), .int (nI (b))]) (rest := []) (L0 := [some (.ref 20), some (.int (nI (a))), some (.int (nI (b)))]) rfl rfl (Nat.le_of_ble_eq_true rfl) (Nat.le_of_ble_eq_true rfl) rfl (es_rc o_RO rfl (Nat.le_of_ble_eq_true rfl))) rfl (c86 (by omega) (by omega)) ?_
    rintro _ _ ⟨rfl, rfl⟩
    change Ev _ _ _ _ ([]) _ _
    refine ev_aload_n t_83_25 rfl ?_
    refine es_get (x := .ref 21) o_RO t_83_26 rfl ?_
    refine ev_iload_n t_83_29 rfl ?_
    refine ev_iconst t_83_30 ?_
    change Ev _ _ _ _ ([.int (nI (0)), .int (nI (n)), .ref 21]) _ _
    refine es_zast (k := n) (y := 0) a_he t_83_31 (by omega) (rfl) ?_
    refine ev_aload_n t_83_32 rfl ?_
    refine ev_dup t_83_33 rfl ?_
    refine es_get (x := .int ((u2 (ro_join σ a b) (21) (n) 0) (20) 0)) o_RO t_83_34 rfl ?_
    refine ev_top (show (u2 (ro_join σ a b) 21 n 0) 20 0 = nI (k + 1) from hk) ?_
    refine ev_iconst t_83_37 ?_
    change Ev _ _ _ _ ([.int (nI (1)), .int (nI (k + 1)), .ref 20]) _ _
    refine ev_isubN t_83_38 (by omega) ?_
    refine es_put o_RO t_83_39 rfl (Nat.le_of_ble_eq_true rfl) rfl ?_
    exact ev_retv t_83_42 rfl ⟨none, rfl, rfl, rfl⟩
theorem c82e {σ1 : Nat → Nat → Int32} {n a k : Nat} (hn : n < 96) (h9 : Ev (d + 1) 83 0 [some (.ref 20), some (.int (nI n))] [] (sC M σ) (fun q9 M' => ∃ v9, q9 = .inl v9 ∧ v9 = none ∧ M' = sC M σ1)) (ha : a < 97) (hB : σ1 22 96 = nI a) (hk : σ1 20 0 = nI k) : Ev (d + 2) 82 0 [some (.ref 20), some (.int (nI n)), none] [] (sC M σ) (fun q9 M' => ∃ v9, q9 = .inl v9 ∧ v9 = none ∧ M' = sC M (ro_put σ1 n a k)) := by
  refine ev_aload_n t_82_0 rfl ?_
  refine ev_iload_n t_82_1 rfl ?_
  refine ev_cl (pm_st_V t_82_2 (as := [.ref 20, .int (nI (n))]) (rest := []) (L0 := [some (.ref 20), some (.int (nI (n)))]) rfl rfl (Nat.le_of_ble_eq_true rfl) (Nat.le_of_ble_eq_true rfl) rfl (es_rc o_RO rfl (Nat.le_of_ble_eq_true rfl))) rfl (h9) ?_
  rintro _ _ ⟨rfl, rfl⟩
  change Ev _ _ _ _ ([]) _ _
  refine ev_aload_n t_82_5 rfl ?_
  refine es_get (x := .ref 22) o_RO t_82_6 rfl ?_
  refine ev_bipush t_82_9 ?_
  change Ev _ _ _ _ ([.int (nI (96)), .ref 22]) _ _
  refine es_iald (k := 96) a_be t_82_11 (by omega) ?_
  refine ev_top hB ?_
  refine ev_istore_n (L' := [some (.ref 20), some (.int (nI (n))), some (.int (nI (a)))]) t_82_12 (Nat.le_of_ble_eq_true rfl) rfl ?_
  refine ev_aload_n t_82_13 rfl ?_
  refine ev_iload_n t_82_14 rfl ?_
  refine ev_iload_n t_82_15 rfl ?_
  refine ev_cl (pm_st_V t_82_16 (as := [.ref 20, .int (nI (a)), .int (nI (n))]) (rest := []) (L0 := [some (.ref 20), some (.int (nI (a))), some (.int (nI (n)))]) rfl rfl (Nat.le_of_ble_eq_true rfl) (Nat.le_of_ble_eq_true rfl) rfl (es_rc o_RO rfl (Nat.le_of_ble_eq_true rfl))) rfl (c86 (by omega) (by omega)) ?_
  rintro _ _ ⟨rfl, rfl⟩
  change Ev _ _ _ _ ([]) _ _
  refine ev_aload_n t_82_19 rfl ?_
  refine ev_iload_n t_82_20 rfl ?_
  refine ev_bipush t_82_21 ?_
  change Ev _ _ _ _ ([.int (nI (96)), .int (nI (n)), .ref 20]) _ _
  refine ev_cl (pm_st_V t_82_23 (as := [.ref 20, .int (nI (n)), .int (nI (96))]) (rest := []) (L0 := [some (.ref 20), some (.int (nI (n))), some (.int (nI (96)))]) rfl rfl (Nat.le_of_ble_eq_true rfl) (Nat.le_of_ble_eq_true rfl) rfl (es_rc o_RO rfl (Nat.le_of_ble_eq_true rfl))) rfl (c86 (by omega) (by omega)) ?_
  rintro _ _ ⟨rfl, rfl⟩
  change Ev _ _ _ _ ([]) _ _
  refine ev_aload_n t_82_26 rfl ?_
  refine es_get (x := .ref 21) o_RO t_82_27 rfl ?_
  refine ev_iload_n t_82_30 rfl ?_
  refine ev_iconst t_82_31 ?_
  change Ev _ _ _ _ ([.int (nI (1)), .int (nI (n)), .ref 21]) _ _
  refine es_zast (k := n) (y := 1) a_he t_82_32 (by omega) (rfl) ?_
  refine ev_aload_n t_82_33 rfl ?_
  refine ev_dup t_82_34 rfl ?_
  refine es_get (x := .int ((u2 (ro_join (ro_join σ1 a n) n 96) (21) (n) 1) (20) 0)) o_RO t_82_35 rfl ?_
  refine ev_top (show (u2 (ro_join (ro_join σ1 a n) n 96) 21 n 1) 20 0 = nI k from hk) ?_
  refine ev_iconst t_82_38 ?_
  change Ev _ _ _ _ ([.int (nI (1)), .int (nI (k)), .ref 20]) _ _
  refine ev_iaddN t_82_39 ?_
  refine es_put o_RO t_82_40 rfl (Nat.le_of_ble_eq_true rfl) rfl ?_
  exact ev_retv t_82_43 rfl ⟨none, rfl, rfl, rfl⟩
def Lk (σ : Nat → Nat → Int32) : List Nat → Prop
  | [] => True
  | a :: t => (match t with
    | [] => True
    | b :: _ => σ 23 a = nI b ∧ σ 22 b = nI a) ∧ Lk σ t
theorem Lk_app {σ : Nat → Nat → Int32} : ∀ (s : List Nat) (a : Nat) (t : List Nat), Lk σ (s ++ a :: t) ↔ Lk σ (s ++ [a]) ∧ Lk σ (a :: t) := by
  intro s
  induction s with
  | nil => intro a t; simp [Lk]
  | cons x s ih =>
    intro a t
    cases s with
    | nil => simp [Lk]
    | cons y s =>
      have h := ih a t
      simp only [List.cons_append, Lk] at h ⊢
      constructor
      · rintro ⟨h1, h2⟩; exact ⟨⟨h1, (h.mp h2).1⟩, (h.mp h2).2⟩
      · rintro ⟨⟨h1, h2⟩, h3⟩; exact ⟨h1, h.mpr ⟨h2, h3⟩⟩
theorem Lk_fr {σ σ' : Nat → Nat → Int32} : ∀ (a : Nat) (t : List Nat), (∀ x ∈ (a :: t).dropLast, σ' 23 x = σ 23 x) → (∀ x ∈ t, σ' 22 x = σ 22 x) → Lk σ (a :: t) → Lk σ' (a :: t) := by
  intro a t
  induction t generalizing a with
  | nil => intro _ _ _; simp [Lk]
  | cons b t ih =>
    intro h1 h2 h
    refine ⟨⟨?_, ?_⟩, ih b (fun x hx => h1 x (List.mem_cons_of_mem _ hx)) (fun x hx => h2 x (List.mem_cons_of_mem _ hx)) h.2⟩
    · rw [h1 a (by simp)]; exact h.1.1
    · rw [h2 b (by simp)]; exact h.1.2
theorem Lk_get {σ : Nat → Nat → Int32} : ∀ (L : List Nat) (j : Nat), j + 1 < L.length → Lk σ L → σ 23 (L.getD j 0) = nI (L.getD (j + 1) 0) := by
  intro L
  induction L with
  | nil => intro j h _; simp at h
  | cons a t ih =>
    intro j hj h
    cases t with
    | nil => simp at hj
    | cons b t =>
      cases j with
      | zero => exact h.1.1
      | succ j => exact ih j (by simpa using hj) h.2
/-- the ring holds these cells, in this order -/
def Ring (σ : Nat → Nat → Int32) (l : List Nat) : Prop := l.Nodup ∧ (∀ x ∈ l, x < 96) ∧ σ 20 0 = nI l.length ∧ (∀ n, n < 96 → σ 21 n = if n ∈ l then 1 else 0) ∧ Lk σ (96 :: (l ++ [96]))
def Fr (σ σ' : Nat → Nat → Int32) : Prop := ∀ p, p < 20 ∨ 23 < p → σ' p = σ p
theorem u2_ne {σ : Nat → Nat → Int32} {p k q : Nat} {x : Int32} (h : q ≠ p) : u2 σ p k x q = σ q := by unfold u2; rw [if_neg h]
theorem u2_eq {σ : Nat → Nat → Int32} {p k : Nat} {x : Int32} : u2 σ p k x p = upd (σ p) k x := by unfold u2; rw [if_pos rfl]
theorem u2_at {σ : Nat → Nat → Int32} {p k : Nat} {x : Int32} : u2 σ p k x p k = x := by unfold u2 upd; rw [if_pos rfl, if_pos rfl]
theorem u2_off {σ : Nat → Nat → Int32} {p k q j : Nat} {x : Int32} (h : q ≠ p ∨ j ≠ k) : u2 σ p k x q j = σ q j := by
  unfold u2
  split
  · rename_i e; subst e
    unfold upd
    rw [if_neg (by rcases h with h | h; exact absurd rfl h; exact h)]
  · rfl
theorem Fr.trans {σ σ' σ'' : Nat → Nat → Int32} (h : Fr σ σ') (h' : Fr σ' σ'') : Fr σ σ'' := fun p hp => (h' p hp).trans (h p hp)
theorem Fr.rfl {σ : Nat → Nat → Int32} : Fr σ σ := fun _ _ => Eq.refl _
theorem Ring.held {l : List Nat} (h : Ring σ l) {n : Nat} (hn : n < 96) : σ 21 n = (if n ∈ l then 1 else 0) := h.2.2.2.1 n hn
theorem nd_len : ∀ (N : Nat) (l : List Nat), l.Nodup → (∀ x ∈ l, x < N) → l.length ≤ N := by
  intro N
  induction N with
  | zero =>
    intro l _ h
    cases l with
    | nil => simp
    | cons a t => exact absurd (h a (by simp)) (by omega)
  | succ N ih =>
    intro l hd h
    by_cases hm : N ∈ l
    · have := ih (l.erase N) (hd.erase N) (fun x hx => by
        have h1 := (hd.mem_erase_iff).mp hx
        have := h x h1.2
        have := h1.1
        omega)
      rw [List.length_erase_of_mem hm] at this
      omega
    · have := ih l hd (fun x hx => by
        have := h x hx
        have : x ≠ N := fun e => hm (e ▸ hx)
        omega)
      omega
theorem Ring.short {l : List Nat} (h : Ring σ l) : l.length ≤ 96 := by
  exact nd_len 96 l h.1 h.2.1
theorem ring_rm {s t : List Nat} {n : Nat} (h : Ring σ (s ++ n :: t)) : ∃ a b, a < 97 ∧ b < 97 ∧ σ 22 n = nI a ∧ σ 23 n = nI b ∧ Ring (ro_rm σ n a b (s ++ t).length) (s ++ t) := by
  obtain ⟨h1, h2, h3, h4, h5⟩ := h
  have hA : ∃ A a, (96 :: s) = A ++ [a] := ⟨(96 :: s).dropLast, (96 :: s).getLast (by simp), (List.dropLast_concat_getLast (by simp)).symm⟩
  have hB : ∃ b B, (t ++ [96]) = b :: B := by
    cases t with
    | nil => exact ⟨96, [], rfl⟩
    | cons b t => exact ⟨b, t ++ [96], rfl⟩
  obtain ⟨A, a, hA⟩ := hA
  obtain ⟨b, B, hB⟩ := hB
  have e1 : 96 :: ((s ++ n :: t) ++ [96]) = A ++ a :: n :: b :: B := by
    have : 96 :: ((s ++ n :: t) ++ [96]) = (96 :: s) ++ n :: (t ++ [96]) := by simp
    rw [this, hA, hB]; simp
  have e2 : 96 :: ((s ++ t) ++ [96]) = A ++ a :: b :: B := by
    have : 96 :: ((s ++ t) ++ [96]) = (96 :: s) ++ (t ++ [96]) := by simp
    rw [this, hA, hB]; simp
  have hnd := List.nodup_append.mp h1
  have hnd2 := List.nodup_cons.mp hnd.2.1
  have mA : ∀ x, x ∈ A ++ [a] ↔ x = 96 ∨ x ∈ s := fun x => by rw [← hA]; simp
  have mB : ∀ x, x ∈ b :: B ↔ x ∈ t ∨ x = 96 := fun x => by rw [← hB]; simp
  have l1 : ∀ x ∈ s, x < 96 := fun x hx => h2 x (by simp [hx])
  have l2 : ∀ x ∈ t, x < 96 := fun x hx => h2 x (by simp [hx])
  have l3 : n < 96 := h2 n (by simp)
  have ha : a < 97 := by
    rcases (mA a).mp (by simp) with h | h
    · omega
    · have := l1 a h; omega
  have hb : b < 97 := by
    rcases (mB b).mp (by simp) with h | h
    · have := l2 b h; omega
    · omega
  have ndA : (A ++ [a]).Nodup := by
    rw [← hA]
    exact List.nodup_cons.mpr ⟨fun h => by have := l1 _ h; omega, hnd.1⟩
  have ndB : (b :: B).Nodup := by
    rw [← hB]
    exact List.nodup_append.mpr ⟨hnd2.2, by simp, fun x hx y hy => by have := l2 x hx; simp at hy; omega⟩
  rw [e1, Lk_app] at h5
  obtain ⟨h6, h7⟩ := h5
  refine ⟨a, b, ha, hb, h7.1.2, h7.2.1.1, ?_, ?_, ?_, ?_, ?_⟩
  · refine List.nodup_append.mpr ⟨hnd.1, hnd2.2, fun x hx y hy => hnd.2.2 x hx y (List.mem_cons_of_mem _ hy)⟩
  · intro x hx
    rcases List.mem_append.mp hx with h | h
    · exact l1 x h
    · exact l2 x h
  · exact u2_at
  · intro m hm
    show u2 (u2 (ro_join σ a b) 21 n 0) 20 0 _ 21 m = _
    rw [u2_off (Or.inl (by decide))]
    by_cases e : m = n
    · subst e
      rw [u2_at, if_neg]
      intro h
      rcases List.mem_append.mp h with h | h
      · exact hnd.2.2 m h m (by simp) rfl
      · exact hnd2.1 h
    · rw [u2_off (Or.inr e)]
      show u2 (u2 σ 23 a (nI b)) 22 b (nI a) 21 m = _
      rw [u2_off (Or.inl (by decide)), u2_off (Or.inl (by decide)), h4 m hm]
      simp [e]
  · have q1 : ∀ x, x ≠ a → ro_rm σ n a b (s ++ t).length 23 x = σ 23 x := fun x hx => by
      show u2 (u2 (u2 (u2 σ 23 a (nI b)) 22 b (nI a)) 21 n 0) 20 0 _ 23 x = _
      rw [u2_off (Or.inl (by decide)), u2_off (Or.inl (by decide)), u2_off (Or.inl (by decide)), u2_off (Or.inr hx)]
    have q2 : ∀ x, x ≠ b → ro_rm σ n a b (s ++ t).length 22 x = σ 22 x := fun x hx => by
      show u2 (u2 (u2 (u2 σ 23 a (nI b)) 22 b (nI a)) 21 n 0) 20 0 _ 22 x = _
      rw [u2_off (Or.inl (by decide)), u2_off (Or.inl (by decide)), u2_off (Or.inr hx), u2_off (Or.inl (by decide))]
    have q3 : ro_rm σ n a b (s ++ t).length 23 a = nI b := by
      show u2 (u2 (u2 (u2 σ 23 a (nI b)) 22 b (nI a)) 21 n 0) 20 0 _ 23 a = _
      rw [u2_off (Or.inl (by decide)), u2_off (Or.inl (by decide)), u2_off (Or.inl (by decide)), u2_at]
    have q4 : ro_rm σ n a b (s ++ t).length 22 b = nI a := by
      show u2 (u2 (u2 (u2 σ 23 a (nI b)) 22 b (nI a)) 21 n 0) 20 0 _ 22 b = _
      rw [u2_off (Or.inl (by decide)), u2_off (Or.inl (by decide)), u2_at]
    rw [e2, Lk_app]
    have ndA' := List.nodup_append.mp ndA
    have ndB' := List.nodup_cons.mp ndB
    refine ⟨?_, ⟨q3, q4⟩, ?_⟩
    · cases A with
      | nil => simp [Lk]
      | cons x A =>
        have hx : s = A ++ [a] := (List.cons.inj (hA.trans (List.cons_append ..))).2
        refine Lk_fr x (A ++ [a]) (fun y hy => q1 y ?_) (fun y hy => q2 y ?_) h6
        · rw [← List.cons_append, List.dropLast_concat] at hy
          exact fun e => ndA'.2.2 y hy a (by simp) e
        · rw [← hx] at hy
          intro e
          subst e
          rcases (mB y).mp (by simp) with h | h
          · exact hnd.2.2 y hy y (List.mem_cons_of_mem _ h) rfl
          · have := l1 y hy; omega
    · refine Lk_fr b B (fun y hy => q1 y ?_) (fun y hy => q2 y (fun e => ndB'.1 (e ▸ hy))) h7.2.2
      rw [← hB, List.dropLast_concat] at hy
      intro e
      subst e
      rcases (mA y).mp (by simp) with h | h
      · have := l2 y hy; omega
      · exact hnd.2.2 y h y (List.mem_cons_of_mem _ hy) rfl
theorem ro_rm_fr {n a b k : Nat} : Fr σ (ro_rm σ n a b k) := fun p hp => by
  unfold ro_rm ro_join
  rw [u2_ne (by omega), u2_ne (by omega), u2_ne (by omega), u2_ne (by omega)]
theorem ro_put_fr {n a k : Nat} : Fr σ (ro_put σ n a k) := fun p hp => by
  unfold ro_put ro_join
  rw [u2_ne (by omega), u2_ne (by omega), u2_ne (by omega), u2_ne (by omega), u2_ne (by omega), u2_ne (by omega)]
theorem ring_put {l : List Nat} {n : Nat} (hn : n < 96) (hm : n ∉ l) (h : Ring σ l) : ∃ a, a < 97 ∧ σ 22 96 = nI a ∧ Ring (ro_put σ n a l.length) (l ++ [n]) := by
  obtain ⟨h1, h2, h3, h4, h5⟩ := h
  have hA : ∃ A a, (96 :: l) = A ++ [a] := ⟨(96 :: l).dropLast, (96 :: l).getLast (by simp), (List.dropLast_concat_getLast (by simp)).symm⟩
  obtain ⟨A, a, hA⟩ := hA
  have mA : ∀ x, x ∈ A ++ [a] ↔ x = 96 ∨ x ∈ l := fun x => by rw [← hA]; simp
  have ha : a < 97 := by
    rcases (mA a).mp (by simp) with h | h
    · omega
    · have := h2 a h; omega
  have hna : n ≠ a := by
    intro e
    rcases (mA a).mp (by simp) with h | h
    · omega
    · exact hm (e ▸ h)
  have e1 : 96 :: (l ++ [96]) = A ++ a :: [96] := by
    rw [← List.cons_append, hA]; simp
  have e2 : 96 :: ((l ++ [n]) ++ [96]) = A ++ a :: n :: [96] := by
    have : 96 :: ((l ++ [n]) ++ [96]) = (96 :: l) ++ n :: [96] := by simp
    rw [this, hA]; simp
  have ndA : (A ++ [a]).Nodup := by
    rw [← hA]
    exact List.nodup_cons.mpr ⟨fun h => by have := h2 _ h; omega, h1⟩
  rw [e1, Lk_app] at h5
  obtain ⟨h6, h7⟩ := h5
  refine ⟨a, ha, h7.1.2, ?_, ?_, ?_, ?_, ?_⟩
  · exact List.nodup_append.mpr ⟨h1, by simp, fun x hx y hy => by simp at hy; subst hy; exact fun e => hm (e ▸ hx)⟩
  · intro x hx
    rcases List.mem_append.mp hx with h | h
    · exact h2 x h
    · simp at h; omega
  · show u2 _ 20 0 _ 20 0 = _
    rw [u2_at]; simp
  · intro m hm'
    show u2 (u2 (ro_join (ro_join σ a n) n 96) 21 n 1) 20 0 _ 21 m = _
    rw [u2_off (Or.inl (by decide))]
    by_cases e : m = n
    · subst e
      rw [u2_at, if_pos (by simp)]
    · rw [u2_off (Or.inr e)]
      unfold ro_join
      rw [u2_off (Or.inl (by decide)), u2_off (Or.inl (by decide)), u2_off (Or.inl (by decide)), u2_off (Or.inl (by decide)), h4 m hm']
      simp [e]
  · have q1 : ∀ x, x ≠ a → x ≠ n → ro_put σ n a l.length 23 x = σ 23 x := fun x h h' => by
      unfold ro_put ro_join
      rw [u2_off (Or.inl (by decide)), u2_off (Or.inl (by decide)), u2_off (Or.inl (by decide)), u2_off (Or.inr h'), u2_off (Or.inl (by decide)), u2_off (Or.inr h)]
    have q2 : ∀ x, x ≠ n → x ≠ 96 → ro_put σ n a l.length 22 x = σ 22 x := fun x h h' => by
      unfold ro_put ro_join
      rw [u2_off (Or.inl (by decide)), u2_off (Or.inl (by decide)), u2_off (Or.inr h'), u2_off (Or.inl (by decide)), u2_off (Or.inr h), u2_off (Or.inl (by decide))]
    have q3 : ro_put σ n a l.length 23 a = nI n := by
      unfold ro_put ro_join
      rw [u2_off (Or.inl (by decide)), u2_off (Or.inl (by decide)), u2_off (Or.inl (by decide)), u2_off (Or.inr (fun e => hna e.symm)), u2_off (Or.inl (by decide)), u2_at]
    have q4 : ro_put σ n a l.length 22 n = nI a := by
      unfold ro_put ro_join
      rw [u2_off (Or.inl (by decide)), u2_off (Or.inl (by decide)), u2_off (Or.inr (by omega)), u2_off (Or.inl (by decide)), u2_at]
    have q5 : ro_put σ n a l.length 23 n = nI 96 := by
      unfold ro_put ro_join
      rw [u2_off (Or.inl (by decide)), u2_off (Or.inl (by decide)), u2_off (Or.inl (by decide)), u2_at]
    have q6 : ro_put σ n a l.length 22 96 = nI n := by
      unfold ro_put ro_join
      rw [u2_off (Or.inl (by decide)), u2_off (Or.inl (by decide)), u2_at]
    rw [e2, Lk_app]
    have ndA' := List.nodup_append.mp ndA
    refine ⟨?_, ⟨q3, q4⟩, ⟨q5, q6⟩, trivial, trivial⟩
    cases A with
    | nil => simp [Lk]
    | cons x A =>
      have hx : l = A ++ [a] := (List.cons.inj (hA.trans (List.cons_append ..))).2
      refine Lk_fr x (A ++ [a]) (fun y hy => ?_) (fun y hy => ?_) h6
      · rw [← List.cons_append, List.dropLast_concat] at hy
        refine q1 y (fun e => ndA'.2.2 y hy a (by simp) e) (fun e => ?_)
        subst e
        rcases (mA y).mp (List.mem_append.mpr (Or.inl hy)) with h | h
        · omega
        · exact hm h
      · rw [← hx] at hy
        have := h2 y hy
        exact q2 y (fun e => hm (e ▸ hy)) (by omega)
/-- taken out of the order -/
theorem c83 {l : List Nat} {n : Nat} (hn : n < 96) (hR : Ring σ l) : ∃ σ', Ev (d + 1) 83 0 [some (.ref 20), some (.int (nI n))] [] (sC M σ) (fun q9 M' => ∃ v9, q9 = .inl v9 ∧ v9 = none ∧ M' = sC M σ') ∧ Ring σ' (l.erase n) ∧ Fr σ σ' := by
  by_cases hm : n ∈ l
  · obtain ⟨s, t, rfl⟩ := List.append_of_mem hm
    have hs : n ∉ s := fun h => (List.nodup_append.mp hR.1).2.2 n h n (by simp) rfl
    obtain ⟨a, b, ha, hb, hB, hA, hR'⟩ := ring_rm hR
    refine ⟨_, c83i (k := (s ++ t).length) hn (by rw [hR.held hn, if_pos hm]) ha hb hB hA (by rw [hR.2.2.1]; congr 1; simp; omega), ?_, ro_rm_fr⟩
    rw [List.erase_append_right _ hs, List.erase_cons_head]
    exact hR'
  · refine ⟨σ, c83o hn (by rw [hR.held hn, if_neg hm]), ?_, Fr.rfl⟩
    rw [List.erase_of_not_mem hm]
    exact hR
/-- put last -/
theorem c82 {l : List Nat} {n : Nat} (hn : n < 96) (hR : Ring σ l) : ∃ σ', Ev (d + 2) 82 0 [some (.ref 20), some (.int (nI n)), none] [] (sC M σ) (fun q9 M' => ∃ v9, q9 = .inl v9 ∧ v9 = none ∧ M' = sC M σ') ∧ Ring σ' (l.erase n ++ [n]) ∧ Fr σ σ' := by
  obtain ⟨σ1, h1, hR1, hF⟩ := c83 (d := d) (M := M) hn hR
  obtain ⟨a, ha, hB, hR2⟩ := ring_put hn (fun h => ((hR.1.mem_erase_iff).mp h).1 rfl) hR1
  exact ⟨_, c82e hn h1 ha hB hR1.2.2.1, hR2, hF.trans ro_put_fr⟩
theorem c84l : ∀ (k i : Nat) (l : List Nat) (σ : Nat → Nat → Int32), i + k = 96 → Ring σ l → (∀ x ∈ l, i ≤ x) → ∃ σ', Ev (d + 2) 84 2 [some (.ref 20), some (.int (nI i))] [] (sC M σ) (fun q9 M' => ∃ v9, q9 = .inl v9 ∧ v9 = none ∧ M' = sC M σ') ∧ Ring σ' [] ∧ Fr σ σ' := by
  intro k
  induction k with
  | zero =>
    intro i l σ hi hR hl
    obtain rfl : i = 96 := by omega
    obtain rfl : l = [] := by
      cases l with
      | nil => rfl
      | cons a t => exact absurd (hR.2.1 a (by simp)) (by have := hl a (by simp); omega)
    refine ⟨σ, ?_, hR, Fr.rfl⟩
    refine ev_iload_n t_84_2 rfl ?_
    refine ev_bipush t_84_3 ?_
    change Ev _ _ _ _ ([.int (nI (96)), .int (nI (96))]) _ _
    refine ev_icmp_geN t_84_5 (by omega) (by omega) (fun h_5 => ?_) (fun h_5 => ?_)
    · exact ev_retv t_84_19 rfl ⟨none, rfl, rfl, rfl⟩
    · omega
  | succ k ih =>
    intro i l σ hi hR hl
    obtain ⟨σ1, h1, hR1, hF1⟩ := c83 (d := d) (M := M) (show i < 96 by omega) hR
    obtain ⟨σ2, h2, hR2, hF2⟩ := ih (i + 1) (l.erase i) σ1 (by omega) hR1 (fun x hx => by
      have := (hR.1.mem_erase_iff).mp hx
      have := hl x this.2
      omega)
    refine ⟨σ2, ?_, hR2, hF1.trans hF2⟩
    refine ev_iload_n t_84_2 rfl ?_
    refine ev_bipush t_84_3 ?_
    change Ev _ _ _ _ ([.int (nI (96)), .int (nI (i))]) _ _
    refine ev_icmp_geN t_84_5 (by omega) (by omega) (fun h_5 => ?_) (fun h_5 => ?_)
    · omega
    · refine ev_aload_n t_84_8 rfl ?_
      refine ev_iload_n t_84_9 rfl ?_
      refine ev_cl (pm_st_V t_84_10 (as := [.ref 20, .int (nI (i))]) (rest := []) (L0 := [some (.ref 20), some (.int (nI (i)))]) rfl rfl (Nat.le_of_ble_eq_true rfl) (Nat.le_of_ble_eq_true rfl) rfl (es_rc o_RO rfl (Nat.le_of_ble_eq_true rfl))) rfl (h1) ?_
      rintro _ _ ⟨rfl, rfl⟩
      change Ev _ _ _ _ ([]) _ _
      refine ev_iincN (L' := [some (.ref 20), some (.int (nI (i + 1)))]) t_84_13 rfl (Nat.le_of_ble_eq_true rfl) rfl ?_
      refine ev_goto t_84_16 ?_
      exact h2
theorem c84 {l : List Nat} (hR : Ring σ l) : ∃ σ', Ev (d + 2) 84 0 [some (.ref 20), none] [] (sC M σ) (fun q9 M' => ∃ v9, q9 = .inl v9 ∧ v9 = none ∧ M' = sC M σ') ∧ Ring σ' [] ∧ Fr σ σ' := by
  obtain ⟨σ1, h1, hR1, hF1⟩ := c84l (d := d) (M := M) 96 0 l σ rfl hR (fun _ _ => Nat.zero_le _)
  refine ⟨σ1, ?_, hR1, hF1⟩
  refine ev_iconst t_84_0 ?_
  change Ev _ _ _ _ ([.int (nI (0))]) _ _
  refine ev_istore_n (L' := [some (.ref 20), some (.int (nI (0)))]) t_84_1 (Nat.le_of_ble_eq_true rfl) rfl ?_
  exact h1
theorem Ring.aft {l : List Nat} (h : Ring σ l) {j : Nat} (hj : j < l.length) : σ 23 ((96 :: l).getD j 0) = nI (l.getD j 0) := by
  have h1 := Lk_get (96 :: (l ++ [96])) j (by simp; omega) h.2.2.2.2
  have e1 : (96 :: (l ++ [96])).getD j 0 = (96 :: l).getD j 0 := by
    rw [← List.cons_append]
    simp only [List.getD_eq_getElem?_getD]
    rw [List.getElem?_append_left (by simp; omega)]
  have e2 : (96 :: (l ++ [96])).getD (j + 1) 0 = l.getD j 0 := by
    simp only [List.getD_eq_getElem?_getD, List.getElem?_cons_succ]
    rw [List.getElem?_append_left hj]
  rw [e1, e2] at h1
  exact h1
theorem Ring.getD {l : List Nat} (h : Ring σ l) {j : Nat} (hj : j < l.length) : l.getD j 0 < 96 := by
  have : l.getD j 0 = l[j] := by simp [List.getD_eq_getElem?_getD, hj]
  rw [this]
  exact h.2.1 _ (List.getElem_mem hj)
theorem c85l {l : List Nat} (hR : Ring σ l) : ∀ (k j pl : Nat), j + k = pl → pl < l.length → Ev d 85 10 [some (.ref 20), some (.int (nI pl)), some (.int (nI (l.getD j 0))), some (.int (nI j))] [] (sC M σ) (fun q9 M' => ∃ v9, q9 = .inl v9 ∧ v9 = some (.int (nI (l.getD pl 0))) ∧ M' = sC M σ) := by
  intro k
  induction k with
  | zero =>
    intro j pl hj hp
    obtain rfl : j = pl := by omega
    have hs := hR.short
    refine ev_iload_n t_85_10 rfl ?_
    refine ev_iload_n t_85_11 rfl ?_
    refine ev_icmp_geN t_85_12 (by omega) (by omega) (fun h_12 => ?_) (fun h_12 => ?_)
    · refine ev_iload_n t_85_28 rfl ?_
      exact ev_reti t_85_29 (ri rfl) ⟨_, rfl, rfl, rfl⟩
    · omega
  | succ k ih =>
    intro j pl hj hp
    have hs := hR.short
    have h1 := hR.getD (show j < l.length by omega)
    have h2 := hR.aft (show j + 1 < l.length by omega)
    refine ev_iload_n t_85_10 rfl ?_
    refine ev_iload_n t_85_11 rfl ?_
    refine ev_icmp_geN t_85_12 (by omega) (by omega) (fun h_12 => ?_) (fun h_12 => ?_)
    · omega
    · refine ev_aload_n t_85_15 rfl ?_
      refine es_get (x := .ref 23) o_RO t_85_16 rfl ?_
      refine ev_iload_n t_85_19 rfl ?_
      refine es_iald (k := l.getD j 0) a_af t_85_20 (by omega) ?_
      refine ev_top h2 ?_
      refine ev_istore_n (L' := [some (.ref 20), some (.int (nI (pl))), some (.int (nI (l.getD (j + 1) 0))), some (.int (nI (j)))]) t_85_21 (Nat.le_of_ble_eq_true rfl) rfl ?_
      refine ev_iincN (L' := [some (.ref 20), some (.int (nI (pl))), some (.int (nI (l.getD (j + 1) 0))), some (.int (nI (j + 1)))]) t_85_22 rfl (Nat.le_of_ble_eq_true rfl) rfl ?_
      refine ev_goto t_85_25 ?_
      exact ih (j + 1) pl (by omega) hp
theorem c85 {l : List Nat} (hR : Ring σ l) {pl : Nat} (hp : pl < l.length) : Ev d 85 0 [some (.ref 20), some (.int (nI pl)), none, none] [] (sC M σ) (fun q9 M' => ∃ v9, q9 = .inl v9 ∧ v9 = some (.int (nI (l.getD pl 0))) ∧ M' = sC M σ) := by
  have h2 := hR.aft (show 0 < l.length by omega)
  refine ev_aload_n t_85_0 rfl ?_
  refine es_get (x := .ref 23) o_RO t_85_1 rfl ?_
  refine ev_bipush t_85_4 ?_
  change Ev _ _ _ _ ([.int (nI (96)), .ref 23]) _ _
  refine es_iald (k := 96) a_af t_85_6 (by omega) ?_
  refine ev_top h2 ?_
  refine ev_istore_n (L' := [some (.ref 20), some (.int (nI (pl))), some (.int (nI (l.getD 0 0))), none]) t_85_7 (Nat.le_of_ble_eq_true rfl) rfl ?_
  refine ev_iconst t_85_8 ?_
  change Ev _ _ _ _ ([.int (nI (0))]) _ _
  refine ev_istore_n (L' := [some (.ref 20), some (.int (nI (pl))), some (.int (nI (l.getD 0 0))), some (.int (nI (0)))]) t_85_9 (Nat.le_of_ble_eq_true rfl) rfl ?_
  exact c85l hR pl 0 pl (by omega) hp
end RO
