/-! Texts. -/
/-- how many expressions follow a character; 9: it stands in no text -/
def ow (c : Nat) : Nat := if (48 ≤ c ∧ c ≤ 57) ∨ c = 107 then 0 else if (103 ≤ c ∧ c ≤ 105) ∨ (65 ≤ c ∧ c ≤ 70) then 1 else if c = 43 ∨ c = 45 ∨ c = 42 then 2 else if c = 63 then 3 else 9
def owI (c : Nat) : Int32 := if ow c = 9 then -1 else nI (ow c)
theorem owI_k {c k : Nat} (h : ow c = k) (hk : k ≠ 9) : owI c = nI k := by unfold owI; rw [h, if_neg hk]
theorem owI_9 {c : Nat} (h : ow c = 9) : owI c = -1 := by unfold owI; rw [if_pos h]
theorem ow_le {c : Nat} (h : ow c ≠ 9) : ow c ≤ 3 := by
  unfold ow at h ⊢
  repeat' split
  all_goals first | omega | (exfalso; apply h; simp_all)
theorem dueE {a w : Nat} (h : 1 ≤ a + w) : nI a + (nI w - nI 1) = nI (a + w - 1) := by
  rw [← pk_sub h, ← nI_add]
  rw [Int32.sub_eq_add_neg, Int32.sub_eq_add_neg, Int32.add_assoc]
section EVN
variable {d i pc : Nat} {L : pm_L} {st : List Value} {M : pm_M} {Q : pm_R → pm_M → Prop} {a b : Nat} {v : Int32} {ts : List Nat}
theorem nI_00 : (0 : Int32) = nI 0 := rfl
theorem ev_if_eqN {n : Int} {x : Nat} (ht : tb_in i pc = some (.ifCond .eq n, a, b, v, ts)) (hx : x < 2 ^ 31) (kt : x = 0 → Ev d i a L st M Q) (kf : ¬ x = 0 → Ev d i (pc + 3) L st M Q) : Ev d i pc L (.int (nI x) :: st) M Q := ev_if_eq (y := 0) ht (fun h => kt ((nI_eq hx (by decide)).mp h)) (fun h => kf (fun z => h (by rw [z]; rfl)))
theorem ev_if_neN {n : Int} {x : Nat} (ht : tb_in i pc = some (.ifCond .ne n, a, b, v, ts)) (hx : x < 2 ^ 31) (kt : ¬ x = 0 → Ev d i a L st M Q) (kf : x = 0 → Ev d i (pc + 3) L st M Q) : Ev d i pc L (.int (nI x) :: st) M Q := ev_if_ne (y := 0) ht (fun h => kt (fun z => h (by rw [z]; rfl))) (fun h => kf (Decidable.byContradiction fun z => h (fun w => z ((nI_eq hx (by decide)).mp w))))
theorem ev_if_leN {n : Int} {x : Nat} (ht : tb_in i pc = some (.ifCond .le n, a, b, v, ts)) (hx : x < 2 ^ 31) (kt : x = 0 → Ev d i a L st M Q) (kf : ¬ x = 0 → Ev d i (pc + 3) L st M Q) : Ev d i pc L (.int (nI x) :: st) M Q := ev_if_le (y := 0) ht (fun h => kt (by have := (nI_leI hx (show 0 < 2 ^ 31 by decide)).mp h; omega)) (fun h => kf (fun z => h ((nI_leI hx (show 0 < 2 ^ 31 by decide)).mpr (by omega))))
theorem ev_if_gtN {n : Int} {x : Nat} (ht : tb_in i pc = some (.ifCond .gt n, a, b, v, ts)) (hx : x < 2 ^ 31) (kt : ¬ x = 0 → Ev d i a L st M Q) (kf : x = 0 → Ev d i (pc + 3) L st M Q) : Ev d i pc L (.int (nI x) :: st) M Q := ev_if_gt (y := 0) ht (fun h => kt (by have := (nI_ltI (show 0 < 2 ^ 31 by decide) hx).mp h; omega)) (fun h => kf (Decidable.byContradiction fun z => h ((nI_ltI (show 0 < 2 ^ 31 by decide) hx).mpr (by omega))))
theorem ev_if_ltN {n : Int} {x : Nat} (ht : tb_in i pc = some (.ifCond .lt n, a, b, v, ts)) (hx : x < 2 ^ 31) (kt : False → Ev d i a L st M Q) (kf : True → Ev d i (pc + 3) L st M Q) : Ev d i pc L (.int (nI x) :: st) M Q := ev_if_lt (y := 0) ht (fun h => absurd h (nI_pos hx)) (fun _ => kf trivial)
theorem ev_if_geN {n : Int} {x : Nat} (ht : tb_in i pc = some (.ifCond .ge n, a, b, v, ts)) (hx : x < 2 ^ 31) (kt : True → Ev d i a L st M Q) (kf : False → Ev d i (pc + 3) L st M Q) : Ev d i pc L (.int (nI x) :: st) M Q := ev_if_ge (y := 0) ht (fun _ => kt trivial) (fun h => absurd ((nI_leI (show 0 < 2 ^ 31 by decide) hx).mpr (Nat.zero_le _)) h)
end EVN
theorem owI_p {c : Nat} (h : ¬ owI c = -1) : ow c ≠ 9 := fun e => h (owI_9 e)
theorem owI_m {c : Nat} (h : ¬ ¬ owI c = -1) : ow c = 9 := by
  refine Decidable.byContradiction fun e => h fun z => ?_
  have h3 := ow_le e
  rw [owI_k rfl e] at z
  have : ow c = 0 ∨ ow c = 1 ∨ ow c = 2 ∨ ow c = 3 := by omega
  rcases this with w | w | w | w <;> rw [w] at z <;> revert z <;> decide
/-- a text lies at a place -/
def Txt (σ : Nat → Nat → Int32) (p : Nat) (t : List Nat) : Prop := σ p 1 = nI t.length ∧ t.length ≤ 24 ∧ (∀ c ∈ t, c < 256) ∧ ∀ i, i < t.length → σ (p + 1) i = nI (t.getD i 0)
theorem Txt.at {σ : Nat → Nat → Int32} {p : Nat} {t : List Nat} (h : Txt σ p t) {i : Nat} (hi : i < t.length) : σ (p + 1) i = nI (t.getD i 0) ∧ t.getD i 0 < 256 := by
  refine ⟨h.2.2.2 i hi, ?_⟩
  have : t.getD i 0 = t[i] := by simp [List.getD_eq_getElem?_getD, hi]
  rw [this]
  exact h.2.2.1 _ (List.getElem_mem hi)
theorem drop_at {t : List Nat} {i : Nat} (hi : i < t.length) : t.drop i = t.getD i 0 :: t.drop (i + 1) := by
  rw [List.drop_eq_getElem_cons hi]
  simp [List.getD_eq_getElem?_getD, hi]
def tx_app (σ : Nat → Nat → Int32) (p n c : Nat) : Nat → Nat → Int32 := u2 (u2 σ (p + 1) n (nI c)) p 1 (nI (n + 1))
theorem narC {c : Nat} (h : c < 65536) : narrow .char (.int (nI c)) = .int (nI c) := by
  show Value.int ((nI c).toUInt32 % 65536).toInt32 = _
  congr 1
  apply Int32.toBitVec_inj.mp
  unfold nI
  apply BitVec.eq_of_toNat_eq
  simp
  omega
def flt : List Nat → Nat → Nat → Option Nat
  | [], due, i => if due = 0 then none else some i
  | c :: t, due, i => if due = 0 ∨ ow c = 9 then some i else flt t (due + ow c - 1) (i + 1)
def fltI (x : Option Nat) : Int32 := match x with
  | none => -1
  | some i => nI i
def bhd : List Nat → Nat → Nat → Nat
  | [], _, p => p
  | c :: t, due, p => if due = 0 then p else bhd t (due + ow c - 1) (p + 1)
section TX
variable {d : Nat} {M : pm_M} {σ : Nat → Nat → Int32} {p : Nat}
theorem c88 {c : Nat} (hc : c < 65536) : Ev d 88 0 [some (.int (nI c))] [] (sC M σ) (fun q9 M' => ∃ v9, q9 = .inl v9 ∧ v9 = some (.int (owI c)) ∧ M' = sC M σ) := by
  refine ev_iload_n t_88_0 rfl ?_
  refine ev_bipush t_88_1 ?_
  change Ev _ _ _ _ ([.int (nI (48)), .int (nI (c))]) _ _
  refine ev_icmp_ltN t_88_3 (by omega) (by omega) (fun h_3 => ?_) (fun h_3 => ?_)
  · refine ev_iload_n t_88_12 rfl ?_
    refine ev_bipush t_88_13 ?_
    change Ev _ _ _ _ ([.int (nI (107)), .int (nI (c))]) _ _
    refine ev_icmp_neN t_88_15 (by omega) (by omega) (fun h_15 => ?_) (fun h_15 => ?_)
    · refine ev_iload_n t_88_20 rfl ?_
      refine ev_bipush t_88_21 ?_
      change Ev _ _ _ _ ([.int (nI (103)), .int (nI (c))]) _ _
      refine ev_icmp_ltN t_88_23 (by omega) (by omega) (fun h_23 => ?_) (fun h_23 => ?_)
      · refine ev_iload_n t_88_32 rfl ?_
        refine ev_bipush t_88_33 ?_
        change Ev _ _ _ _ ([.int (nI (65)), .int (nI (c))]) _ _
        refine ev_icmp_ltN t_88_35 (by omega) (by omega) (fun h_35 => ?_) (fun h_35 => ?_)
        · refine ev_iload_n t_88_46 rfl ?_
          refine ev_bipush t_88_47 ?_
          change Ev _ _ _ _ ([.int (nI (43)), .int (nI (c))]) _ _
          refine ev_icmp_eqN t_88_49 (by omega) (by omega) (fun h_49 => ?_) (fun h_49 => ?_)
          · refine ev_iconst t_88_64 ?_
            change Ev _ _ _ _ ([.int (nI (2))]) _ _
            exact ev_reti t_88_65 (ri rfl) ⟨_, rfl, by rw [owI_k (k := 2) (by unfold ow; (repeat' split) <;> omega) (by decide)], rfl⟩
          · refine ev_iload_n t_88_52 rfl ?_
            refine ev_bipush t_88_53 ?_
            change Ev _ _ _ _ ([.int (nI (45)), .int (nI (c))]) _ _
            refine ev_icmp_eqN t_88_55 (by omega) (by omega) (fun h_55 => ?_) (fun h_55 => ?_)
            · refine ev_iconst t_88_64 ?_
              change Ev _ _ _ _ ([.int (nI (2))]) _ _
              exact ev_reti t_88_65 (ri rfl) ⟨_, rfl, by rw [owI_k (k := 2) (by unfold ow; (repeat' split) <;> omega) (by decide)], rfl⟩
            · refine ev_iload_n t_88_58 rfl ?_
              refine ev_bipush t_88_59 ?_
              change Ev _ _ _ _ ([.int (nI (42)), .int (nI (c))]) _ _
              refine ev_icmp_neN t_88_61 (by omega) (by omega) (fun h_61 => ?_) (fun h_61 => ?_)
              · refine ev_iload_n t_88_66 rfl ?_
                refine ev_bipush t_88_67 ?_
                change Ev _ _ _ _ ([.int (nI (63)), .int (nI (c))]) _ _
                refine ev_icmp_neN t_88_69 (by omega) (by omega) (fun h_69 => ?_) (fun h_69 => ?_)
                · refine ev_iconst t_88_76 ?_
                  change Ev _ _ _ _ ([.int (-1)]) _ _
                  exact ev_reti t_88_77 (ri rfl) ⟨_, rfl, by rw [owI_9 (by unfold ow; (repeat' split) <;> omega)], rfl⟩
                · refine ev_iconst t_88_72 ?_
                  change Ev _ _ _ _ ([.int (nI (3))]) _ _
                  refine ev_goto t_88_73 ?_
                  exact ev_reti t_88_77 (ri rfl) ⟨_, rfl, by rw [owI_k (k := 3) (by unfold ow; (repeat' split) <;> omega) (by decide)], rfl⟩
              · refine ev_iconst t_88_64 ?_
                change Ev _ _ _ _ ([.int (nI (2))]) _ _
                exact ev_reti t_88_65 (ri rfl) ⟨_, rfl, by rw [owI_k (k := 2) (by unfold ow; (repeat' split) <;> omega) (by decide)], rfl⟩
        · refine ev_iload_n t_88_38 rfl ?_
          refine ev_bipush t_88_39 ?_
          change Ev _ _ _ _ ([.int (nI (70)), .int (nI (c))]) _ _
          refine ev_icmp_gtN t_88_41 (by omega) (by omega) (fun h_41 => ?_) (fun h_41 => ?_)
          · refine ev_iload_n t_88_46 rfl ?_
            refine ev_bipush t_88_47 ?_
            change Ev _ _ _ _ ([.int (nI (43)), .int (nI (c))]) _ _
            refine ev_icmp_eqN t_88_49 (by omega) (by omega) (fun h_49 => ?_) (fun h_49 => ?_)
            · refine ev_iconst t_88_64 ?_
              change Ev _ _ _ _ ([.int (nI (2))]) _ _
              exact ev_reti t_88_65 (ri rfl) ⟨_, rfl, by rw [owI_k (k := 2) (by unfold ow; (repeat' split) <;> omega) (by decide)], rfl⟩
            · refine ev_iload_n t_88_52 rfl ?_
              refine ev_bipush t_88_53 ?_
              change Ev _ _ _ _ ([.int (nI (45)), .int (nI (c))]) _ _
              refine ev_icmp_eqN t_88_55 (by omega) (by omega) (fun h_55 => ?_) (fun h_55 => ?_)
              · refine ev_iconst t_88_64 ?_
                change Ev _ _ _ _ ([.int (nI (2))]) _ _
                exact ev_reti t_88_65 (ri rfl) ⟨_, rfl, by rw [owI_k (k := 2) (by unfold ow; (repeat' split) <;> omega) (by decide)], rfl⟩
              · refine ev_iload_n t_88_58 rfl ?_
                refine ev_bipush t_88_59 ?_
                change Ev _ _ _ _ ([.int (nI (42)), .int (nI (c))]) _ _
                refine ev_icmp_neN t_88_61 (by omega) (by omega) (fun h_61 => ?_) (fun h_61 => ?_)
                · refine ev_iload_n t_88_66 rfl ?_
                  refine ev_bipush t_88_67 ?_
                  change Ev _ _ _ _ ([.int (nI (63)), .int (nI (c))]) _ _
                  refine ev_icmp_neN t_88_69 (by omega) (by omega) (fun h_69 => ?_) (fun h_69 => ?_)
                  · refine ev_iconst t_88_76 ?_
                    change Ev _ _ _ _ ([.int (-1)]) _ _
                    exact ev_reti t_88_77 (ri rfl) ⟨_, rfl, by rw [owI_9 (by unfold ow; (repeat' split) <;> omega)], rfl⟩
                  · refine ev_iconst t_88_72 ?_
                    change Ev _ _ _ _ ([.int (nI (3))]) _ _
                    refine ev_goto t_88_73 ?_
                    exact ev_reti t_88_77 (ri rfl) ⟨_, rfl, by rw [owI_k (k := 3) (by unfold ow; (repeat' split) <;> omega) (by decide)], rfl⟩
                · refine ev_iconst t_88_64 ?_
                  change Ev _ _ _ _ ([.int (nI (2))]) _ _
                  exact ev_reti t_88_65 (ri rfl) ⟨_, rfl, by rw [owI_k (k := 2) (by unfold ow; (repeat' split) <;> omega) (by decide)], rfl⟩
          · refine ev_iconst t_88_44 ?_
            change Ev _ _ _ _ ([.int (nI (1))]) _ _
            exact ev_reti t_88_45 (ri rfl) ⟨_, rfl, by rw [owI_k (k := 1) (by unfold ow; (repeat' split) <;> omega) (by decide)], rfl⟩
      · refine ev_iload_n t_88_26 rfl ?_
        refine ev_bipush t_88_27 ?_
        change Ev _ _ _ _ ([.int (nI (105)), .int (nI (c))]) _ _
        refine ev_icmp_leN t_88_29 (by omega) (by omega) (fun h_29 => ?_) (fun h_29 => ?_)
        · refine ev_iconst t_88_44 ?_
          change Ev _ _ _ _ ([.int (nI (1))]) _ _
          exact ev_reti t_88_45 (ri rfl) ⟨_, rfl, by rw [owI_k (k := 1) (by unfold ow; (repeat' split) <;> omega) (by decide)], rfl⟩
        · refine ev_iload_n t_88_32 rfl ?_
          refine ev_bipush t_88_33 ?_
          change Ev _ _ _ _ ([.int (nI (65)), .int (nI (c))]) _ _
          refine ev_icmp_ltN t_88_35 (by omega) (by omega) (fun h_35 => ?_) (fun h_35 => ?_)
          · refine ev_iload_n t_88_46 rfl ?_
            refine ev_bipush t_88_47 ?_
            change Ev _ _ _ _ ([.int (nI (43)), .int (nI (c))]) _ _
            refine ev_icmp_eqN t_88_49 (by omega) (by omega) (fun h_49 => ?_) (fun h_49 => ?_)
            · refine ev_iconst t_88_64 ?_
              change Ev _ _ _ _ ([.int (nI (2))]) _ _
              exact ev_reti t_88_65 (ri rfl) ⟨_, rfl, by rw [owI_k (k := 2) (by unfold ow; (repeat' split) <;> omega) (by decide)], rfl⟩
            · refine ev_iload_n t_88_52 rfl ?_
              refine ev_bipush t_88_53 ?_
              change Ev _ _ _ _ ([.int (nI (45)), .int (nI (c))]) _ _
              refine ev_icmp_eqN t_88_55 (by omega) (by omega) (fun h_55 => ?_) (fun h_55 => ?_)
              · refine ev_iconst t_88_64 ?_
                change Ev _ _ _ _ ([.int (nI (2))]) _ _
                exact ev_reti t_88_65 (ri rfl) ⟨_, rfl, by rw [owI_k (k := 2) (by unfold ow; (repeat' split) <;> omega) (by decide)], rfl⟩
              · refine ev_iload_n t_88_58 rfl ?_
                refine ev_bipush t_88_59 ?_
                change Ev _ _ _ _ ([.int (nI (42)), .int (nI (c))]) _ _
                refine ev_icmp_neN t_88_61 (by omega) (by omega) (fun h_61 => ?_) (fun h_61 => ?_)
                · refine ev_iload_n t_88_66 rfl ?_
                  refine ev_bipush t_88_67 ?_
                  change Ev _ _ _ _ ([.int (nI (63)), .int (nI (c))]) _ _
                  refine ev_icmp_neN t_88_69 (by omega) (by omega) (fun h_69 => ?_) (fun h_69 => ?_)
                  · refine ev_iconst t_88_76 ?_
                    change Ev _ _ _ _ ([.int (-1)]) _ _
                    exact ev_reti t_88_77 (ri rfl) ⟨_, rfl, by rw [owI_9 (by unfold ow; (repeat' split) <;> omega)], rfl⟩
                  · refine ev_iconst t_88_72 ?_
                    change Ev _ _ _ _ ([.int (nI (3))]) _ _
                    refine ev_goto t_88_73 ?_
                    exact ev_reti t_88_77 (ri rfl) ⟨_, rfl, by rw [owI_k (k := 3) (by unfold ow; (repeat' split) <;> omega) (by decide)], rfl⟩
                · refine ev_iconst t_88_64 ?_
                  change Ev _ _ _ _ ([.int (nI (2))]) _ _
                  exact ev_reti t_88_65 (ri rfl) ⟨_, rfl, by rw [owI_k (k := 2) (by unfold ow; (repeat' split) <;> omega) (by decide)], rfl⟩
          · refine ev_iload_n t_88_38 rfl ?_
            refine ev_bipush t_88_39 ?_
            change Ev _ _ _ _ ([.int (nI (70)), .int (nI (c))]) _ _
            refine ev_icmp_gtN t_88_41 (by omega) (by omega) (fun h_41 => ?_) (fun h_41 => ?_)
            · refine ev_iload_n t_88_46 rfl ?_
              refine ev_bipush t_88_47 ?_
              change Ev _ _ _ _ ([.int (nI (43)), .int (nI (c))]) _ _
              refine ev_icmp_eqN t_88_49 (by omega) (by omega) (fun h_49 => ?_) (fun h_49 => ?_)
              · refine ev_iconst t_88_64 ?_
                change Ev _ _ _ _ ([.int (nI (2))]) _ _
                exact ev_reti t_88_65 (ri rfl) ⟨_, rfl, by rw [owI_k (k := 2) (by unfold ow; (repeat' split) <;> omega) (by decide)], rfl⟩
              · refine ev_iload_n t_88_52 rfl ?_
                refine ev_bipush t_88_53 ?_
                change Ev _ _ _ _ ([.int (nI (45)), .int (nI (c))]) _ _
                refine ev_icmp_eqN t_88_55 (by omega) (by omega) (fun h_55 => ?_) (fun h_55 => ?_)
                · refine ev_iconst t_88_64 ?_
                  change Ev _ _ _ _ ([.int (nI (2))]) _ _
                  exact ev_reti t_88_65 (ri rfl) ⟨_, rfl, by rw [owI_k (k := 2) (by unfold ow; (repeat' split) <;> omega) (by decide)], rfl⟩
                · refine ev_iload_n t_88_58 rfl ?_
                  refine ev_bipush t_88_59 ?_
                  change Ev _ _ _ _ ([.int (nI (42)), .int (nI (c))]) _ _
                  refine ev_icmp_neN t_88_61 (by omega) (by omega) (fun h_61 => ?_) (fun h_61 => ?_)
                  · refine ev_iload_n t_88_66 rfl ?_
                    refine ev_bipush t_88_67 ?_
                    change Ev _ _ _ _ ([.int (nI (63)), .int (nI (c))]) _ _
                    refine ev_icmp_neN t_88_69 (by omega) (by omega) (fun h_69 => ?_) (fun h_69 => ?_)
                    · refine ev_iconst t_88_76 ?_
                      change Ev _ _ _ _ ([.int (-1)]) _ _
                      exact ev_reti t_88_77 (ri rfl) ⟨_, rfl, by rw [owI_9 (by unfold ow; (repeat' split) <;> omega)], rfl⟩
                    · refine ev_iconst t_88_72 ?_
                      change Ev _ _ _ _ ([.int (nI (3))]) _ _
                      refine ev_goto t_88_73 ?_
                      exact ev_reti t_88_77 (ri rfl) ⟨_, rfl, by rw [owI_k (k := 3) (by unfold ow; (repeat' split) <;> omega) (by decide)], rfl⟩
                  · refine ev_iconst t_88_64 ?_
                    change Ev _ _ _ _ ([.int (nI (2))]) _ _
                    exact ev_reti t_88_65 (ri rfl) ⟨_, rfl, by rw [owI_k (k := 2) (by unfold ow; (repeat' split) <;> omega) (by decide)], rfl⟩
            · refine ev_iconst t_88_44 ?_
              change Ev _ _ _ _ ([.int (nI (1))]) _ _
              exact ev_reti t_88_45 (ri rfl) ⟨_, rfl, by rw [owI_k (k := 1) (by unfold ow; (repeat' split) <;> omega) (by decide)], rfl⟩
    · refine ev_iconst t_88_18 ?_
      change Ev _ _ _ _ ([.int (nI (0))]) _ _
      exact ev_reti t_88_19 (ri rfl) ⟨_, rfl, by rw [owI_k (k := 0) (by unfold ow; (repeat' split) <;> omega) (by decide)], rfl⟩
  · refine ev_iload_n t_88_6 rfl ?_
    refine ev_bipush t_88_7 ?_
    change Ev _ _ _ _ ([.int (nI (57)), .int (nI (c))]) _ _
    refine ev_icmp_leN t_88_9 (by omega) (by omega) (fun h_9 => ?_) (fun h_9 => ?_)
    · refine ev_iconst t_88_18 ?_
      change Ev _ _ _ _ ([.int (nI (0))]) _ _
      exact ev_reti t_88_19 (ri rfl) ⟨_, rfl, by rw [owI_k (k := 0) (by unfold ow; (repeat' split) <;> omega) (by decide)], rfl⟩
    · refine ev_iload_n t_88_12 rfl ?_
      refine ev_bipush t_88_13 ?_
      change Ev _ _ _ _ ([.int (nI (107)), .int (nI (c))]) _ _
      refine ev_icmp_neN t_88_15 (by omega) (by omega) (fun h_15 => ?_) (fun h_15 => ?_)
      · refine ev_iload_n t_88_20 rfl ?_
        refine ev_bipush t_88_21 ?_
        change Ev _ _ _ _ ([.int (nI (103)), .int (nI (c))]) _ _
        refine ev_icmp_ltN t_88_23 (by omega) (by omega) (fun h_23 => ?_) (fun h_23 => ?_)
        · refine ev_iload_n t_88_32 rfl ?_
          refine ev_bipush t_88_33 ?_
          change Ev _ _ _ _ ([.int (nI (65)), .int (nI (c))]) _ _
          refine ev_icmp_ltN t_88_35 (by omega) (by omega) (fun h_35 => ?_) (fun h_35 => ?_)
          · refine ev_iload_n t_88_46 rfl ?_
            refine ev_bipush t_88_47 ?_
            change Ev _ _ _ _ ([.int (nI (43)), .int (nI (c))]) _ _
            refine ev_icmp_eqN t_88_49 (by omega) (by omega) (fun h_49 => ?_) (fun h_49 => ?_)
            · refine ev_iconst t_88_64 ?_
              change Ev _ _ _ _ ([.int (nI (2))]) _ _
              exact ev_reti t_88_65 (ri rfl) ⟨_, rfl, by rw [owI_k (k := 2) (by unfold ow; (repeat' split) <;> omega) (by decide)], rfl⟩
            · refine ev_iload_n t_88_52 rfl ?_
              refine ev_bipush t_88_53 ?_
              change Ev _ _ _ _ ([.int (nI (45)), .int (nI (c))]) _ _
              refine ev_icmp_eqN t_88_55 (by omega) (by omega) (fun h_55 => ?_) (fun h_55 => ?_)
              · refine ev_iconst t_88_64 ?_
                change Ev _ _ _ _ ([.int (nI (2))]) _ _
                exact ev_reti t_88_65 (ri rfl) ⟨_, rfl, by rw [owI_k (k := 2) (by unfold ow; (repeat' split) <;> omega) (by decide)], rfl⟩
              · refine ev_iload_n t_88_58 rfl ?_
                refine ev_bipush t_88_59 ?_
                change Ev _ _ _ _ ([.int (nI (42)), .int (nI (c))]) _ _
                refine ev_icmp_neN t_88_61 (by omega) (by omega) (fun h_61 => ?_) (fun h_61 => ?_)
                · refine ev_iload_n t_88_66 rfl ?_
                  refine ev_bipush t_88_67 ?_
                  change Ev _ _ _ _ ([.int (nI (63)), .int (nI (c))]) _ _
                  refine ev_icmp_neN t_88_69 (by omega) (by omega) (fun h_69 => ?_) (fun h_69 => ?_)
                  · refine ev_iconst t_88_76 ?_
                    change Ev _ _ _ _ ([.int (-1)]) _ _
                    exact ev_reti t_88_77 (ri rfl) ⟨_, rfl, by rw [owI_9 (by unfold ow; (repeat' split) <;> omega)], rfl⟩
                  · refine ev_iconst t_88_72 ?_
                    change Ev _ _ _ _ ([.int (nI (3))]) _ _
                    refine ev_goto t_88_73 ?_
                    exact ev_reti t_88_77 (ri rfl) ⟨_, rfl, by rw [owI_k (k := 3) (by unfold ow; (repeat' split) <;> omega) (by decide)], rfl⟩
                · refine ev_iconst t_88_64 ?_
                  change Ev _ _ _ _ ([.int (nI (2))]) _ _
                  exact ev_reti t_88_65 (ri rfl) ⟨_, rfl, by rw [owI_k (k := 2) (by unfold ow; (repeat' split) <;> omega) (by decide)], rfl⟩
          · refine ev_iload_n t_88_38 rfl ?_
            refine ev_bipush t_88_39 ?_
            change Ev _ _ _ _ ([.int (nI (70)), .int (nI (c))]) _ _
            refine ev_icmp_gtN t_88_41 (by omega) (by omega) (fun h_41 => ?_) (fun h_41 => ?_)
            · refine ev_iload_n t_88_46 rfl ?_
              refine ev_bipush t_88_47 ?_
              change Ev _ _ _ _ ([.int (nI (43)), .int (nI (c))]) _ _
              refine ev_icmp_eqN t_88_49 (by omega) (by omega) (fun h_49 => ?_) (fun h_49 => ?_)
              · refine ev_iconst t_88_64 ?_
                change Ev _ _ _ _ ([.int (nI (2))]) _ _
                exact ev_reti t_88_65 (ri rfl) ⟨_, rfl, by rw [owI_k (k := 2) (by unfold ow; (repeat' split) <;> omega) (by decide)], rfl⟩
              · refine ev_iload_n t_88_52 rfl ?_
                refine ev_bipush t_88_53 ?_
                change Ev _ _ _ _ ([.int (nI (45)), .int (nI (c))]) _ _
                refine ev_icmp_eqN t_88_55 (by omega) (by omega) (fun h_55 => ?_) (fun h_55 => ?_)
                · refine ev_iconst t_88_64 ?_
                  change Ev _ _ _ _ ([.int (nI (2))]) _ _
                  exact ev_reti t_88_65 (ri rfl) ⟨_, rfl, by rw [owI_k (k := 2) (by unfold ow; (repeat' split) <;> omega) (by decide)], rfl⟩
                · refine ev_iload_n t_88_58 rfl ?_
                  refine ev_bipush t_88_59 ?_
                  change Ev _ _ _ _ ([.int (nI (42)), .int (nI (c))]) _ _
                  refine ev_icmp_neN t_88_61 (by omega) (by omega) (fun h_61 => ?_) (fun h_61 => ?_)
                  · refine ev_iload_n t_88_66 rfl ?_
                    refine ev_bipush t_88_67 ?_
                    change Ev _ _ _ _ ([.int (nI (63)), .int (nI (c))]) _ _
                    refine ev_icmp_neN t_88_69 (by omega) (by omega) (fun h_69 => ?_) (fun h_69 => ?_)
                    · refine ev_iconst t_88_76 ?_
                      change Ev _ _ _ _ ([.int (-1)]) _ _
                      exact ev_reti t_88_77 (ri rfl) ⟨_, rfl, by rw [owI_9 (by unfold ow; (repeat' split) <;> omega)], rfl⟩
                    · refine ev_iconst t_88_72 ?_
                      change Ev _ _ _ _ ([.int (nI (3))]) _ _
                      refine ev_goto t_88_73 ?_
                      exact ev_reti t_88_77 (ri rfl) ⟨_, rfl, by rw [owI_k (k := 3) (by unfold ow; (repeat' split) <;> omega) (by decide)], rfl⟩
                  · refine ev_iconst t_88_64 ?_
                    change Ev _ _ _ _ ([.int (nI (2))]) _ _
                    exact ev_reti t_88_65 (ri rfl) ⟨_, rfl, by rw [owI_k (k := 2) (by unfold ow; (repeat' split) <;> omega) (by decide)], rfl⟩
            · refine ev_iconst t_88_44 ?_
              change Ev _ _ _ _ ([.int (nI (1))]) _ _
              exact ev_reti t_88_45 (ri rfl) ⟨_, rfl, by rw [owI_k (k := 1) (by unfold ow; (repeat' split) <;> omega) (by decide)], rfl⟩
        · refine ev_iload_n t_88_26 rfl ?_
          refine ev_bipush t_88_27 ?_
          change Ev _ _ _ _ ([.int (nI (105)), .int (nI (c))]) _ _
          refine ev_icmp_leN t_88_29 (by omega) (by omega) (fun h_29 => ?_) (fun h_29 => ?_)
          · refine ev_iconst t_88_44 ?_
            change Ev _ _ _ _ ([.int (nI (1))]) _ _
            exact ev_reti t_88_45 (ri rfl) ⟨_, rfl, by rw [owI_k (k := 1) (by unfold ow; (repeat' split) <;> omega) (by decide)], rfl⟩
          · refine ev_iload_n t_88_32 rfl ?_
            refine ev_bipush t_88_33 ?_
            change Ev _ _ _ _ ([.int (nI (65)), .int (nI (c))]) _ _
            refine ev_icmp_ltN t_88_35 (by omega) (by omega) (fun h_35 => ?_) (fun h_35 => ?_)
            · refine ev_iload_n t_88_46 rfl ?_
              refine ev_bipush t_88_47 ?_
              change Ev _ _ _ _ ([.int (nI (43)), .int (nI (c))]) _ _
              refine ev_icmp_eqN t_88_49 (by omega) (by omega) (fun h_49 => ?_) (fun h_49 => ?_)
              · refine ev_iconst t_88_64 ?_
                change Ev _ _ _ _ ([.int (nI (2))]) _ _
                exact ev_reti t_88_65 (ri rfl) ⟨_, rfl, by rw [owI_k (k := 2) (by unfold ow; (repeat' split) <;> omega) (by decide)], rfl⟩
              · refine ev_iload_n t_88_52 rfl ?_
                refine ev_bipush t_88_53 ?_
                change Ev _ _ _ _ ([.int (nI (45)), .int (nI (c))]) _ _
                refine ev_icmp_eqN t_88_55 (by omega) (by omega) (fun h_55 => ?_) (fun h_55 => ?_)
                · refine ev_iconst t_88_64 ?_
                  change Ev _ _ _ _ ([.int (nI (2))]) _ _
                  exact ev_reti t_88_65 (ri rfl) ⟨_, rfl, by rw [owI_k (k := 2) (by unfold ow; (repeat' split) <;> omega) (by decide)], rfl⟩
                · refine ev_iload_n t_88_58 rfl ?_
                  refine ev_bipush t_88_59 ?_
                  change Ev _ _ _ _ ([.int (nI (42)), .int (nI (c))]) _ _
                  refine ev_icmp_neN t_88_61 (by omega) (by omega) (fun h_61 => ?_) (fun h_61 => ?_)
                  · refine ev_iload_n t_88_66 rfl ?_
                    refine ev_bipush t_88_67 ?_
                    change Ev _ _ _ _ ([.int (nI (63)), .int (nI (c))]) _ _
                    refine ev_icmp_neN t_88_69 (by omega) (by omega) (fun h_69 => ?_) (fun h_69 => ?_)
                    · refine ev_iconst t_88_76 ?_
                      change Ev _ _ _ _ ([.int (-1)]) _ _
                      exact ev_reti t_88_77 (ri rfl) ⟨_, rfl, by rw [owI_9 (by unfold ow; (repeat' split) <;> omega)], rfl⟩
                    · refine ev_iconst t_88_72 ?_
                      change Ev _ _ _ _ ([.int (nI (3))]) _ _
                      refine ev_goto t_88_73 ?_
                      exact ev_reti t_88_77 (ri rfl) ⟨_, rfl, by rw [owI_k (k := 3) (by unfold ow; (repeat' split) <;> omega) (by decide)], rfl⟩
                  · refine ev_iconst t_88_64 ?_
                    change Ev _ _ _ _ ([.int (nI (2))]) _ _
                    exact ev_reti t_88_65 (ri rfl) ⟨_, rfl, by rw [owI_k (k := 2) (by unfold ow; (repeat' split) <;> omega) (by decide)], rfl⟩
            · refine ev_iload_n t_88_38 rfl ?_
              refine ev_bipush t_88_39 ?_
              change Ev _ _ _ _ ([.int (nI (70)), .int (nI (c))]) _ _
              refine ev_icmp_gtN t_88_41 (by omega) (by omega) (fun h_41 => ?_) (fun h_41 => ?_)
              · refine ev_iload_n t_88_46 rfl ?_
                refine ev_bipush t_88_47 ?_
                change Ev _ _ _ _ ([.int (nI (43)), .int (nI (c))]) _ _
                refine ev_icmp_eqN t_88_49 (by omega) (by omega) (fun h_49 => ?_) (fun h_49 => ?_)
                · refine ev_iconst t_88_64 ?_
                  change Ev _ _ _ _ ([.int (nI (2))]) _ _
                  exact ev_reti t_88_65 (ri rfl) ⟨_, rfl, by rw [owI_k (k := 2) (by unfold ow; (repeat' split) <;> omega) (by decide)], rfl⟩
                · refine ev_iload_n t_88_52 rfl ?_
                  refine ev_bipush t_88_53 ?_
                  change Ev _ _ _ _ ([.int (nI (45)), .int (nI (c))]) _ _
                  refine ev_icmp_eqN t_88_55 (by omega) (by omega) (fun h_55 => ?_) (fun h_55 => ?_)
                  · refine ev_iconst t_88_64 ?_
                    change Ev _ _ _ _ ([.int (nI (2))]) _ _
                    exact ev_reti t_88_65 (ri rfl) ⟨_, rfl, by rw [owI_k (k := 2) (by unfold ow; (repeat' split) <;> omega) (by decide)], rfl⟩
                  · refine ev_iload_n t_88_58 rfl ?_
                    refine ev_bipush t_88_59 ?_
                    change Ev _ _ _ _ ([.int (nI (42)), .int (nI (c))]) _ _
                    refine ev_icmp_neN t_88_61 (by omega) (by omega) (fun h_61 => ?_) (fun h_61 => ?_)
                    · refine ev_iload_n t_88_66 rfl ?_
                      refine ev_bipush t_88_67 ?_
                      change Ev _ _ _ _ ([.int (nI (63)), .int (nI (c))]) _ _
                      refine ev_icmp_neN t_88_69 (by omega) (by omega) (fun h_69 => ?_) (fun h_69 => ?_)
                      · refine ev_iconst t_88_76 ?_
                        change Ev _ _ _ _ ([.int (-1)]) _ _
                        exact ev_reti t_88_77 (ri rfl) ⟨_, rfl, by rw [owI_9 (by unfold ow; (repeat' split) <;> omega)], rfl⟩
                      · refine ev_iconst t_88_72 ?_
                        change Ev _ _ _ _ ([.int (nI (3))]) _ _
                        refine ev_goto t_88_73 ?_
                        exact ev_reti t_88_77 (ri rfl) ⟨_, rfl, by rw [owI_k (k := 3) (by unfold ow; (repeat' split) <;> omega) (by decide)], rfl⟩
                    · refine ev_iconst t_88_64 ?_
                      change Ev _ _ _ _ ([.int (nI (2))]) _ _
                      exact ev_reti t_88_65 (ri rfl) ⟨_, rfl, by rw [owI_k (k := 2) (by unfold ow; (repeat' split) <;> omega) (by decide)], rfl⟩
              · refine ev_iconst t_88_44 ?_
                change Ev _ _ _ _ ([.int (nI (1))]) _ _
                exact ev_reti t_88_45 (ri rfl) ⟨_, rfl, by rw [owI_k (k := 1) (by unfold ow; (repeat' split) <;> omega) (by decide)], rfl⟩
      · refine ev_iconst t_88_18 ?_
        change Ev _ _ _ _ ([.int (nI (0))]) _ _
        exact ev_reti t_88_19 (ri rfl) ⟨_, rfl, by rw [owI_k (k := 0) (by unfold ow; (repeat' split) <;> omega) (by decide)], rfl⟩
theorem c89 (hp : isTx p) {n c : Nat} (hn : σ p 1 = nI n) (h24 : n < 24) (hc : c < 65536) : Ev d 89 0 [some (.ref p), some (.int (nI c))] [] (sC M σ) (fun q9 M' => ∃ v9, q9 = .inl v9 ∧ v9 = none ∧ M' = sC M (tx_app σ p n c)) := by
  refine ev_aload_n t_89_0 rfl ?_
  refine es_get (x := .int (σ (p) 1)) (o_Tx hp) t_89_1 rfl ?_
  refine ev_top hn ?_
  refine ev_bipush t_89_4 ?_
  change Ev _ _ _ _ ([.int (nI (24)), .int (nI (n))]) _ _
  refine ev_icmp_geN t_89_6 (by omega) (by omega) (fun h_6 => ?_) (fun h_6 => ?_)
  · omega
  · refine ev_aload_n t_89_9 rfl ?_
    refine es_get (x := .ref (p + 1)) (o_Tx hp) t_89_10 rfl ?_
    refine ev_aload_n t_89_13 rfl ?_
    refine es_get (x := .int (σ (p) 1)) (o_Tx hp) t_89_14 rfl ?_
    refine ev_top hn ?_
    refine ev_iload_n t_89_17 rfl ?_
    refine es_cast (k := n) (y := (nI (c))) (a_ch hp) t_89_18 (by omega) (narC hc) ?_
    refine ev_aload_n t_89_19 rfl ?_
    refine ev_dup t_89_20 rfl ?_
    refine es_get (x := .int ((u2 σ (p + 1) (n) (nI (c))) (p) 1)) (o_Tx hp) t_89_21 rfl ?_
    refine ev_top (show u2 σ (p + 1) n (nI c) p 1 = nI n by rw [u2_ne (by omega), hn]) ?_
    refine ev_iconst t_89_24 ?_
    change Ev _ _ _ _ ([.int (nI (1)), .int (nI (n)), .ref p]) _ _
    refine ev_iaddN t_89_25 ?_
    refine es_put (o_Tx hp) t_89_26 rfl (Nat.le_of_ble_eq_true rfl) rfl ?_
    exact ev_retv t_89_29 rfl ⟨none, rfl, rfl, rfl⟩
theorem tx_app_fr {n c q : Nat} (h : q ≠ p) (h' : q ≠ p + 1) : tx_app σ p n c q = σ q := by
  unfold tx_app
  rw [u2_ne h, u2_ne h']
theorem tx_app_ok {t : List Nat} {c : Nat} (h : Txt σ p t) (h24 : t.length < 24) (hc : c < 256) : Txt (tx_app σ p t.length c) p (t ++ [c]) := by
  obtain ⟨h1, h2, h3, h4⟩ := h
  refine ⟨?_, by simp; omega, ?_, ?_⟩
  · unfold tx_app
    rw [u2_at]
    simp
  · intro x hx
    rcases List.mem_append.mp hx with h | h
    · exact h3 x h
    · simp at h; omega
  · intro i hi
    unfold tx_app
    rw [u2_ne (by omega)]
    by_cases e : i = t.length
    · subst e
      rw [u2_at]
      simp [List.getD_eq_getElem?_getD]
    · have hi' : i < t.length := by simp at hi; omega
      rw [u2_off (Or.inr e), h4 i hi']
      simp only [List.getD_eq_getElem?_getD]
      rw [List.getElem?_append_left hi']
/-- a text becomes another -/
theorem c90l (hp : isTx p) {q : Nat} (hq : isTx q) (h1 : q ≠ p) (h2 : q ≠ p + 1) (h3 : q + 1 ≠ p) {t : List Nat} : ∀ (k i : Nat) (σ : Nat → Nat → Int32), i + k = t.length → Txt σ q t → Txt σ p (t.take i) → ∃ σ', Ev (d + 1) 90 7 [some (.ref p), some (.ref q), some (.int (nI i))] [] (sC M σ) (fun q9 M' => ∃ v9, q9 = .inl v9 ∧ v9 = none ∧ M' = sC M σ') ∧ Txt σ' p t ∧ ∀ x, x ≠ p → x ≠ p + 1 → σ' x = σ x := by
  intro k
  induction k with
  | zero =>
    intro i σ hi hT hP
    obtain rfl : i = t.length := by omega
    rw [List.take_length] at hP
    have h24 := hT.2.1
    refine ⟨σ, ?_, hP, fun _ _ _ => rfl⟩
    refine ev_iload_n t_90_7 rfl ?_
    refine ev_aload_n t_90_8 rfl ?_
    refine es_get (x := .int (σ (q) 1)) (o_Tx hq) t_90_9 rfl ?_
    refine ev_top hT.1 ?_
    refine ev_icmp_geN t_90_12 (by omega) (by omega) (fun h_12 => ?_) (fun h_12 => ?_)
    · exact ev_retv t_90_31 rfl ⟨none, rfl, rfl, rfl⟩
    · omega
  | succ k ih =>
    intro i σ hi hT hP
    have h24 := hT.2.1
    have hil : i < t.length := by omega
    obtain ⟨g1, g2⟩ := hT.at hil
    have hl : (t.take i).length = i := by rw [List.length_take]; omega
    have hA := tx_app_ok hP (by omega) g2
    have hA1 := c89 (d := d) (M := M) hp hP.1 (by omega) (show t.getD i 0 < 65536 by omega)
    have hT' : Txt (tx_app σ p (t.take i).length (t.getD i 0)) q t := by
      unfold Txt
      rw [tx_app_fr h1 h2, tx_app_fr h3 (by omega)]
      exact hT
    have e : t.take i ++ [t.getD i 0] = t.take (i + 1) := by
      rw [List.take_add_one]
      simp [List.getD_eq_getElem?_getD, hil]
    rw [e] at hA
    obtain ⟨σ2, k1, k2, k3⟩ := ih (i + 1) _ (by omega) hT' hA
    refine ⟨σ2, ?_, k2, fun x hx hx' => by rw [k3 x hx hx', tx_app_fr hx hx']⟩
    refine ev_iload_n t_90_7 rfl ?_
    refine ev_aload_n t_90_8 rfl ?_
    refine es_get (x := .int (σ (q) 1)) (o_Tx hq) t_90_9 rfl ?_
    refine ev_top hT.1 ?_
    refine ev_icmp_geN t_90_12 (by omega) (by omega) (fun h_12 => ?_) (fun h_12 => ?_)
    · omega
    · refine ev_aload_n t_90_15 rfl ?_
      refine ev_aload_n t_90_16 rfl ?_
      refine es_get (x := .ref (q + 1)) (o_Tx hq) t_90_17 rfl ?_
      refine ev_iload_n t_90_20 rfl ?_
      refine es_cald (k := i) (a_ch hq) t_90_21 (by omega) ?_
      refine ev_top g1 ?_
      refine ev_cl (pm_st_V t_90_22 (as := [.ref p, .int (nI (t.getD i 0))]) (rest := []) (L0 := [some (.ref p), some (.int (nI (t.getD i 0)))]) rfl rfl (Nat.le_of_ble_eq_true rfl) (Nat.le_of_ble_eq_true rfl) rfl (es_rc (o_Tx hp) rfl (Nat.le_of_ble_eq_true rfl))) rfl (hA1) ?_
      rintro _ _ ⟨rfl, rfl⟩
      change Ev _ _ _ _ ([]) _ _
      refine ev_iincN (L' := [some (.ref p), some (.ref q), some (.int (nI (i + 1)))]) t_90_25 rfl (Nat.le_of_ble_eq_true rfl) rfl ?_
      refine ev_goto t_90_28 ?_
      exact k1
theorem c90 (hp : isTx p) {q : Nat} (hq : isTx q) (h1 : q ≠ p) (h2 : q ≠ p + 1) (h3 : q + 1 ≠ p) {t : List Nat} (hT : Txt σ q t) : ∃ σ', Ev (d + 1) 90 0 [some (.ref p), some (.ref q), none] [] (sC M σ) (fun q9 M' => ∃ v9, q9 = .inl v9 ∧ v9 = none ∧ M' = sC M σ') ∧ Txt σ' p t ∧ ∀ x, x ≠ p → x ≠ p + 1 → σ' x = σ x := by
  obtain ⟨σ2, k1, k2, k3⟩ := c90l (d := d) (M := M) hp hq h1 h2 h3 t.length 0 (u2 σ p 1 (nI 0)) (by omega) (show Txt _ q t by unfold Txt; rw [u2_ne h1, u2_ne h3]; exact hT) (show Txt _ p (t.take 0) from ⟨u2_at, by simp, by simp, by simp⟩)
  refine ⟨σ2, ?_, k2, fun x hx hx' => by rw [k3 x hx hx', u2_ne hx]⟩
  refine ev_aload_n t_90_0 rfl ?_
  refine ev_iconst t_90_1 ?_
  change Ev _ _ _ _ ([.int (nI (0)), .ref p]) _ _
  refine es_put (o_Tx hp) t_90_2 rfl (Nat.le_of_ble_eq_true rfl) rfl ?_
  refine ev_iconst t_90_5 ?_
  change Ev _ _ _ _ ([.int (nI (0))]) _ _
  refine ev_istore_n (L' := [some (.ref p), some (.ref q), some (.int (nI (0)))]) t_90_6 (Nat.le_of_ble_eq_true rfl) rfl ?_
  exact k1
theorem c91l (hp : isTx p) {t : List Nat} (hT : Txt σ p t) : ∀ (k i due : Nat), i + k = t.length → due ≤ 1 + 2 * i → ∀ x, Ev (d + 1) 91 4 [some (.ref p), some (.int (nI due)), some (.int (nI i)), x] [] (sC M σ) (fun q9 M' => ∃ v9, q9 = .inl v9 ∧ v9 = some (.int (fltI (flt (t.drop i) due i))) ∧ M' = sC M σ) := by
  have h24 := hT.2.1
  intro k
  induction k with
  | zero =>
    intro i due hi hd x
    obtain rfl : i = t.length := by omega
    rw [List.drop_length]
    refine ev_iload_n t_91_4 rfl ?_
    refine ev_aload_n t_91_5 rfl ?_
    refine es_get (x := .int (σ (p) 1)) (o_Tx hp) t_91_6 rfl ?_
    refine ev_top hT.1 ?_
    refine ev_icmp_geN t_91_9 (by omega) (by omega) (fun h_9 => ?_) (fun h_9 => ?_)
    · refine ev_iload_n t_91_45 rfl ?_
      refine ev_if_neN t_91_46 (by omega) (fun h_46 => ?_) (fun h_46 => ?_)
      · refine ev_aload_n t_91_53 rfl ?_
        refine es_get (x := .int (σ (p) 1)) (o_Tx hp) t_91_54 rfl ?_
        refine ev_top hT.1 ?_
        exact ev_reti t_91_57 (ri rfl) ⟨_, rfl, by simp only [flt]; rw [if_neg (by omega)]; rfl, rfl⟩
      · refine ev_iconst t_91_49 ?_
        change Ev _ _ _ _ ([.int (-1)]) _ _
        refine ev_goto t_91_50 ?_
        exact ev_reti t_91_57 (ri rfl) ⟨_, rfl, by simp only [flt]; rw [if_pos (by omega)]; rfl, rfl⟩
    · omega
  | succ k ih =>
    intro i due hi hd x
    have hil : i < t.length := by omega
    obtain ⟨g1, g2⟩ := hT.at hil
    rw [drop_at hil]
    refine ev_iload_n t_91_4 rfl ?_
    refine ev_aload_n t_91_5 rfl ?_
    refine es_get (x := .int (σ (p) 1)) (o_Tx hp) t_91_6 rfl ?_
    refine ev_top hT.1 ?_
    refine ev_icmp_geN t_91_9 (by omega) (by omega) (fun h_9 => ?_) (fun h_9 => ?_)
    · omega
    · refine ev_aload_n t_91_12 rfl ?_
      refine es_get (x := .ref (p + 1)) (o_Tx hp) t_91_13 rfl ?_
      refine ev_iload_n t_91_16 rfl ?_
      refine es_cald (k := i) (a_ch hp) t_91_17 (by omega) ?_
      refine ev_top g1 ?_
      refine ev_cl (pm_st_S t_91_18 (Nat.le_of_ble_eq_true rfl) (as := [.int (nI (t.getD i 0))]) (rest := []) (L0 := [some (.int (nI (t.getD i 0)))]) rfl rfl (Nat.le_of_ble_eq_true rfl) (Nat.le_of_ble_eq_true rfl) rfl) rfl (c88 (by omega)) ?_
      rintro _ _ ⟨rfl, rfl⟩
      change Ev _ _ _ _ ([.int (owI (t.getD i 0))]) _ _
      refine ev_istore_n (L' := [some (.ref p), some (.int (nI (due))), some (.int (nI (i))), some (.int (owI (t.getD i 0)))]) t_91_21 (Nat.le_of_ble_eq_true rfl) rfl ?_
      refine ev_iload_n t_91_22 rfl ?_
      refine ev_if_eqN t_91_23 (by omega) (fun h_23 => ?_) (fun h_23 => ?_)
      · refine ev_iload_n t_91_31 rfl ?_
        exact ev_reti t_91_32 (ri rfl) ⟨_, rfl, by simp only [flt]; rw [if_pos (by omega)]; rfl, rfl⟩
      · refine ev_iload_n t_91_26 rfl ?_
        refine ev_iconst t_91_27 ?_
        change Ev _ _ _ _ ([.int (-1), .int (owI (t.getD i 0))]) _ _
        refine ev_icmp_ne t_91_28 (fun h_28 => ?_) (fun h_28 => ?_)
        · have h9 : ow (t.getD i 0) ≠ 9 := owI_p h_28
          have h8 := ow_le h9
          refine ev_iload_n t_91_33 rfl ?_
          refine ev_iload_n t_91_34 rfl ?_
          refine ev_iconst t_91_35 ?_
          change Ev _ _ _ _ ([.int (nI (1)), .int (owI (t.getD i 0)), .int (nI (due))]) _ _
          refine ev_isub t_91_36 ?_
          refine ev_iadd t_91_37 ?_
          refine ev_top (show _ = nI (due + ow (t.getD i 0) - 1) by rw [owI_k rfl h9]; exact dueE (by omega)) ?_
          refine ev_istore_n (L' := [some (.ref p), some (.int (nI (due + ow (t.getD i 0) - 1))), some (.int (nI (i))), some (.int (owI (t.getD i 0)))]) t_91_38 (Nat.le_of_ble_eq_true rfl) rfl ?_
          refine ev_iincN (L' := [some (.ref p), some (.int (nI (due + ow (t.getD i 0) - 1))), some (.int (nI (i + 1))), some (.int (owI (t.getD i 0)))]) t_91_39 rfl (Nat.le_of_ble_eq_true rfl) rfl ?_
          refine ev_goto t_91_42 ?_
          have h7 : flt (t.getD i 0 :: t.drop (i + 1)) due i = flt (t.drop (i + 1)) (due + ow (t.getD i 0) - 1) (i + 1) := by simp only [flt]; rw [if_neg (by omega)]
          rw [h7]
          exact ih (i + 1) _ (by omega) (by omega) _
        · have h9 : ow (t.getD i 0) = 9 := owI_m h_28
          exact ev_iload_n t_91_31 rfl (ev_reti t_91_32 (ri rfl) ⟨_, rfl, by simp only [flt]; rw [if_pos (Or.inr h9)]; rfl, rfl⟩)
theorem c91 (hp : isTx p) {t : List Nat} (hT : Txt σ p t) : Ev (d + 1) 91 0 [some (.ref p), none, none, none] [] (sC M σ) (fun q9 M' => ∃ v9, q9 = .inl v9 ∧ v9 = some (.int (fltI (flt t 1 0))) ∧ M' = sC M σ) := by
  refine ev_iconst t_91_0 ?_
  change Ev _ _ _ _ ([.int (nI (1))]) _ _
  refine ev_istore_n (L' := [some (.ref p), some (.int (nI (1))), none, none]) t_91_1 (Nat.le_of_ble_eq_true rfl) rfl ?_
  refine ev_iconst t_91_2 ?_
  change Ev _ _ _ _ ([.int (nI (0))]) _ _
  refine ev_istore_n (L' := [some (.ref p), some (.int (nI (1))), some (.int (nI (0))), none]) t_91_3 (Nat.le_of_ble_eq_true rfl) rfl ?_
  exact c91l hp hT t.length 0 1 (by omega) (by omega) none
theorem c92l (hp : isTx p) {t : List Nat} (hT : Txt σ p t) (hv : ∀ c ∈ t, ow c ≠ 9) : ∀ (k i due : Nat) (s : Int32), i + k = t.length → due ≤ 1 + 2 * i → Ev (d + 1) 92 4 [some (.ref p), some (.int s), some (.int (nI due)), some (.int (nI i))] [] (sC M σ) (fun q9 M' => ∃ v9, q9 = .inl v9 ∧ v9 = some (.int (nI (bhd (t.drop i) due i))) ∧ M' = sC M σ) := by
  have h24 := hT.2.1
  intro k
  induction k with
  | zero =>
    intro i due s hi hd
    obtain rfl : i = t.length := by omega
    rw [List.drop_length]
    refine ev_iload_n t_92_4 rfl ?_
    refine ev_if_leN t_92_5 (by omega) (fun h_5 => ?_) (fun h_5 => ?_)
    · refine ev_iload_n t_92_36 rfl ?_
      exact ev_reti t_92_37 (ri rfl) ⟨_, rfl, rfl, rfl⟩
    · refine ev_iload_n t_92_8 rfl ?_
      refine ev_aload_n t_92_9 rfl ?_
      refine es_get (x := .int (σ (p) 1)) (o_Tx hp) t_92_10 rfl ?_
      refine ev_top hT.1 ?_
      refine ev_icmp_geN t_92_13 (by omega) (by omega) (fun h_13 => ?_) (fun h_13 => ?_)
      · refine ev_iload_n t_92_36 rfl ?_
        exact ev_reti t_92_37 (ri rfl) ⟨_, rfl, rfl, rfl⟩
      · omega
  | succ k ih =>
    intro i due s hi hd
    have hil : i < t.length := by omega
    obtain ⟨g1, g2⟩ := hT.at hil
    have h9 : ow (t.getD i 0) ≠ 9 := hv _ (by
      have : t.getD i 0 = t[i] := by simp [List.getD_eq_getElem?_getD, hil]
      rw [this]
      exact List.getElem_mem hil)
    have h8 := ow_le h9
    rw [drop_at hil]
    refine ev_iload_n t_92_4 rfl ?_
    refine ev_if_leN t_92_5 (by omega) (fun h_5 => ?_) (fun h_5 => ?_)
    · refine ev_iload_n t_92_36 rfl ?_
      exact ev_reti t_92_37 (ri rfl) ⟨_, rfl, by simp only [bhd]; rw [if_pos h_5], rfl⟩
    · refine ev_iload_n t_92_8 rfl ?_
      refine ev_aload_n t_92_9 rfl ?_
      refine es_get (x := .int (σ (p) 1)) (o_Tx hp) t_92_10 rfl ?_
      refine ev_top hT.1 ?_
      refine ev_icmp_geN t_92_13 (by omega) (by omega) (fun h_13 => ?_) (fun h_13 => ?_)
      · omega
      · refine ev_iload_n t_92_16 rfl ?_
        refine ev_aload_n t_92_17 rfl ?_
        refine es_get (x := .ref (p + 1)) (o_Tx hp) t_92_18 rfl ?_
        refine ev_iload_n t_92_21 rfl ?_
        refine es_cald (k := i) (a_ch hp) t_92_22 (by omega) ?_
        refine ev_top g1 ?_
        refine ev_cl (pm_st_S t_92_23 (Nat.le_of_ble_eq_true rfl) (as := [.int (nI (t.getD i 0))]) (rest := [.int (nI (due))]) (L0 := [some (.int (nI (t.getD i 0)))]) rfl rfl (Nat.le_of_ble_eq_true rfl) (Nat.le_of_ble_eq_true rfl) rfl) rfl (c88 (by omega)) ?_
        rintro _ _ ⟨rfl, rfl⟩
        change Ev _ _ _ _ ([.int (owI (t.getD i 0)), .int (nI (due))]) _ _
        refine ev_iconst t_92_26 ?_
        change Ev _ _ _ _ ([.int (nI (1)), .int (owI (t.getD i 0)), .int (nI (due))]) _ _
        refine ev_isub t_92_27 ?_
        refine ev_iadd t_92_28 ?_
        refine ev_top (show _ = nI (due + ow (t.getD i 0) - 1) by rw [owI_k rfl h9]; exact dueE (by omega)) ?_
        refine ev_istore_n (L' := [some (.ref p), some (.int s), some (.int (nI (due + ow (t.getD i 0) - 1))), some (.int (nI (i)))]) t_92_29 (Nat.le_of_ble_eq_true rfl) rfl ?_
        refine ev_iincN (L' := [some (.ref p), some (.int s), some (.int (nI (due + ow (t.getD i 0) - 1))), some (.int (nI (i + 1)))]) t_92_30 rfl (Nat.le_of_ble_eq_true rfl) rfl ?_
        refine ev_goto t_92_33 ?_
        have h7 : bhd (t.getD i 0 :: t.drop (i + 1)) due i = bhd (t.drop (i + 1)) (due + ow (t.getD i 0) - 1) (i + 1) := by simp only [bhd]; rw [if_neg h_5]
        rw [h7]
        exact ih (i + 1) _ _ (by omega) (by omega)
theorem c92 (hp : isTx p) {t : List Nat} (hT : Txt σ p t) (hv : ∀ c ∈ t, ow c ≠ 9) {i : Nat} (hi : i ≤ t.length) : Ev (d + 1) 92 0 [some (.ref p), some (.int (nI i)), none, none] [] (sC M σ) (fun q9 M' => ∃ v9, q9 = .inl v9 ∧ v9 = some (.int (nI (bhd (t.drop i) 1 i))) ∧ M' = sC M σ) := by
  refine ev_iconst t_92_0 ?_
  change Ev _ _ _ _ ([.int (nI (1))]) _ _
  refine ev_istore_n (L' := [some (.ref p), some (.int (nI (i))), some (.int (nI (1))), none]) t_92_1 (Nat.le_of_ble_eq_true rfl) rfl ?_
  refine ev_iload_n t_92_2 rfl ?_
  refine ev_istore_n (L' := [some (.ref p), some (.int (nI (i))), some (.int (nI (1))), some (.int (nI (i)))]) t_92_3 (Nat.le_of_ble_eq_true rfl) rfl ?_
  exact c92l hp hT hv (t.length - i) i 1 _ (by omega) (by omega)
end TX
