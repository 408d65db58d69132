/-! the class: frosts -/
def FB (N : GV) (P : Nat) : Prop := N 1 P 2 ≤ 6 ∧ ∀ k, k < N 1 P 2 → N 8 P k < 2 ^ 28 ∧ N 9 P k < 2 ^ 28
def mtC (N : GV) (P a b : Nat) : Bool := anyN (N 1 P 2) fun k => decide (a ≤ N 9 P k) && decide (N 8 P k ≤ b)
theorem anyN_t {p : Nat → Bool} {k : Nat} (h : p k = true) : ∀ {n : Nat}, k < n → anyN n p = true := by
  intro n
  induction n with
  | zero => intro q; omega
  | succ n ih =>
    intro q
    unfold anyN
    by_cases e : k = n
    · subst e; rw [h]; simp
    · rw [ih (by omega)]; simp
theorem anyN_s {p : Nat → Bool} {n : Nat} : anyN (n + 1) p = (anyN n p || p n) := rfl
theorem t8 {X : XS} {N : GV} {R : GR} {L : GL} {Z : Nat × Nat × Bool} (hR : Rok R) {P a b : Nat} (hP : P < 8) (h : FB N P) (ha : a < 2 ^ 28) (hb : b < 2 ^ 28) : exec X 8 [vR 1 P, vI (nI a), vI (nI b)] (gg (nW N) R L Z) = some (.inl (some (vI (nI (bN (mtC N P a b))))), (gg (nW N) R L Z)) := by
  have h6 := h.1
  unfold mtC
  have key : ∀ k, k ≤ N 1 P 2 → anyN k (fun k => decide (a ≤ N 9 P k) && decide (N 8 P k ≤ b)) = false → ex X 8 2 [vR 1 P, vI (nI a), vI (nI b), vI (nI k)] [] (gg (nW N) R L Z) = some (.inl (some (vI (nI (bN (anyN (N 1 P 2) fun k => decide (a ≤ N 9 P k) && decide (N 8 P k ≤ b)))))), (gg (nW N) R L Z)) := by
    refine down _ ?_ ?_
    · intro hf
      rw [hf, x8_2]
      simp (disch := first | assumption | omega | exact nI_or0 | exact nI_or1 | exact bN_or _) only [x8_3, x8_4, x8_7, x8_10, x8_11, x8_12, x8_15, x8_16, x8_17, x8_20, x8_21, x8_24, x8_25, x8_26, x8_27, x8_30, x8_31, x8_32, x8_35, x8_38, x8_39, reduceIte, Nat.reduceLT, nW_ap, nW_up, nI_add, pk_mul, nI_ltI, nI_eq, if_true, if_false, kont_r, kont_v, Nat.reduceAdd, Nat.reduceMul, Nat.not_lt, not_true_eq_false, not_false_eq_true, Nat.one_ne_zero, Nat.reduceEqDiff, Nat.lt_irrefl, reduceCtorEq, nI_or0, nI_or1, bN, Bool.false_eq_true]
    · intro k hk ih hf
      have hb2 := h.2 k hk
      rw [x8_2]
      by_cases q1 : N 9 P k < a
      · have ih := ih (by rw [anyN_s, hf, decide_eq_false (show ¬ a ≤ N 9 P k by omega)]; rfl)
        simp (disch := first | assumption | omega | exact nI_or0 | exact nI_or1 | exact bN_or _) only [x8_3, x8_4, x8_7, x8_10, x8_11, x8_12, x8_15, x8_16, x8_17, x8_20, x8_21, x8_24, x8_25, x8_26, x8_27, x8_30, x8_31, x8_32, x8_35, reduceIte, Nat.reduceLT, nW_ap, nW_up, nI_add, pk_mul, nI_ltI, nI_eq, if_true, if_false, kont_r, kont_v, Nat.reduceAdd, Nat.reduceMul, Nat.not_lt, not_true_eq_false, not_false_eq_true, Nat.one_ne_zero, Nat.reduceEqDiff, Nat.lt_irrefl, reduceCtorEq, nI_or0, nI_or1, hk, q1]
        exact ih
      · by_cases q2 : b < N 8 P k
        · have ih := ih (by rw [anyN_s, hf, decide_eq_false (show ¬ N 8 P k ≤ b by omega)]; simp)
          simp (disch := first | assumption | omega | exact nI_or0 | exact nI_or1 | exact bN_or _) only [x8_3, x8_4, x8_7, x8_10, x8_11, x8_12, x8_15, x8_16, x8_17, x8_20, x8_21, x8_24, x8_25, x8_26, x8_27, x8_30, x8_31, x8_32, x8_35, reduceIte, Nat.reduceLT, nW_ap, nW_up, nI_add, pk_mul, nI_ltI, nI_eq, if_true, if_false, kont_r, kont_v, Nat.reduceAdd, Nat.reduceMul, Nat.not_lt, not_true_eq_false, not_false_eq_true, Nat.one_ne_zero, Nat.reduceEqDiff, Nat.lt_irrefl, reduceCtorEq, nI_or0, nI_or1, hk, q1, q2]
          exact ih
        · rw [anyN_t (k := k) (by rw [decide_eq_true (show a ≤ N 9 P k by omega), decide_eq_true (show N 8 P k ≤ b by omega)]; rfl) hk]
          simp (disch := first | assumption | omega | exact nI_or0 | exact nI_or1 | exact bN_or _) only [x8_3, x8_4, x8_7, x8_10, x8_11, x8_12, x8_15, x8_16, x8_17, x8_20, x8_21, x8_24, x8_25, x8_26, x8_27, x8_30, x8_31, x8_32, x8_35, reduceIte, Nat.reduceLT, nW_ap, nW_up, nI_add, pk_mul, nI_ltI, nI_eq, if_true, if_false, kont_r, kont_v, Nat.reduceAdd, Nat.reduceMul, Nat.not_lt, not_true_eq_false, not_false_eq_true, Nat.one_ne_zero, Nat.reduceEqDiff, Nat.lt_irrefl, reduceCtorEq, nI_or0, nI_or1, hk, q1, q2, bN]
  simp (disch := first | assumption | omega | exact nI_or0 | exact nI_or1 | exact bN_or _) only [in8, x8_0, x8_1, reduceIte, Nat.reduceLT, nW_ap, nW_up, nI_add, pk_mul, nI_ltI, nI_eq, if_true, if_false, kont_r, kont_v, Nat.reduceAdd, Nat.reduceMul, Nat.not_lt, not_true_eq_false, not_false_eq_true, Nat.one_ne_zero, Nat.reduceEqDiff, Nat.lt_irrefl, reduceCtorEq, nI_or0, nI_or1]
  exact key 0 (Nat.zero_le _) rfl
theorem t9_s {X : XS} {N : GV} {R : GR} {L : GL} {Z : Nat × Nat × Bool} (hR : Rok R) {P i : Nat} {a : Int32} (hP : P < 8) (h : N 1 P 2 ≤ 6) (hi : i < N 1 P 2) (h1 : nI (N 8 P i) = a) (h2 : ∀ j, j < i → ¬ nI (N 8 P j) = a) : exec X 9 [vR 1 P, vI a] (gg (nW N) R L Z) = some (.inl (some (vI (nI i))), (gg (nW N) R L Z)) := by
  have key : ∀ k, k ≤ i → ex X 9 2 [vR 1 P, vI a, vI (nI k)] [] (gg (nW N) R L Z) = some (.inl (some (vI (nI i))), (gg (nW N) R L Z)) := by
    refine down _ ?_ ?_
    · rw [x9_2]
      simp (disch := first | assumption | omega | exact nI_or0 | exact nI_or1 | exact bN_or _) only [x9_3, x9_4, x9_7, x9_10, x9_11, x9_14, x9_15, x9_16, x9_17, x9_20, x9_21, reduceIte, Nat.reduceLT, nW_ap, nW_up, nI_add, pk_mul, nI_ltI, nI_eq, if_true, if_false, kont_r, kont_v, Nat.reduceAdd, Nat.reduceMul, Nat.not_lt, not_true_eq_false, not_false_eq_true, Nat.one_ne_zero, Nat.reduceEqDiff, Nat.lt_irrefl, reduceCtorEq, nI_or0, nI_or1, hi, h1]
    · intro k hk ih
      have q := h2 k hk
      have hk' : k < N 1 P 2 := by omega
      rw [x9_2]
      simp (disch := first | assumption | omega | exact nI_or0 | exact nI_or1 | exact bN_or _) only [x9_3, x9_4, x9_7, x9_10, x9_11, x9_14, x9_15, x9_16, x9_17, x9_20, x9_21, x9_22, x9_25, reduceIte, Nat.reduceLT, nW_ap, nW_up, nI_add, pk_mul, nI_ltI, nI_eq, if_true, if_false, kont_r, kont_v, Nat.reduceAdd, Nat.reduceMul, Nat.not_lt, not_true_eq_false, not_false_eq_true, Nat.one_ne_zero, Nat.reduceEqDiff, Nat.lt_irrefl, reduceCtorEq, nI_or0, nI_or1, hk', q]
      exact ih
  simp (disch := first | assumption | omega | exact nI_or0 | exact nI_or1 | exact bN_or _) only [in9, x9_0, x9_1, reduceIte, Nat.reduceLT, nW_ap, nW_up, nI_add, pk_mul, nI_ltI, nI_eq, if_true, if_false, kont_r, kont_v, Nat.reduceAdd, Nat.reduceMul, Nat.not_lt, not_true_eq_false, not_false_eq_true, Nat.one_ne_zero, Nat.reduceEqDiff, Nat.lt_irrefl, reduceCtorEq, nI_or0, nI_or1]
  exact key 0 (Nat.zero_le _)
theorem t9_n {X : XS} {N : GV} {R : GR} {L : GL} {Z : Nat × Nat × Bool} (hR : Rok R) {P : Nat} {a : Int32} (hP : P < 8) (h : N 1 P 2 ≤ 6) (h2 : ∀ j, j < N 1 P 2 → ¬ nI (N 8 P j) = a) : exec X 9 [vR 1 P, vI a] (gg (nW N) R L Z) = some (.inl (some (vI (-1))), (gg (nW N) R L Z)) := by
  have key : ∀ k, k ≤ N 1 P 2 → ex X 9 2 [vR 1 P, vI a, vI (nI k)] [] (gg (nW N) R L Z) = some (.inl (some (vI (-1))), (gg (nW N) R L Z)) := by
    refine down _ ?_ ?_
    · rw [x9_2]
      simp (disch := first | assumption | omega | exact nI_or0 | exact nI_or1 | exact bN_or _) only [x9_3, x9_4, x9_7, x9_10, x9_11, x9_14, x9_15, x9_16, x9_17, x9_20, x9_21, x9_22, x9_25, x9_28, x9_29, reduceIte, Nat.reduceLT, nW_ap, nW_up, nI_add, pk_mul, nI_ltI, nI_eq, if_true, if_false, kont_r, kont_v, Nat.reduceAdd, Nat.reduceMul, Nat.not_lt, not_true_eq_false, not_false_eq_true, Nat.one_ne_zero, Nat.reduceEqDiff, Nat.lt_irrefl, reduceCtorEq, nI_or0, nI_or1]
    · intro k hk ih
      have q := h2 k hk
      rw [x9_2]
      simp (disch := first | assumption | omega | exact nI_or0 | exact nI_or1 | exact bN_or _) only [x9_3, x9_4, x9_7, x9_10, x9_11, x9_14, x9_15, x9_16, x9_17, x9_20, x9_21, x9_22, x9_25, reduceIte, Nat.reduceLT, nW_ap, nW_up, nI_add, pk_mul, nI_ltI, nI_eq, if_true, if_false, kont_r, kont_v, Nat.reduceAdd, Nat.reduceMul, Nat.not_lt, not_true_eq_false, not_false_eq_true, Nat.one_ne_zero, Nat.reduceEqDiff, Nat.lt_irrefl, reduceCtorEq, nI_or0, nI_or1, hk, q]
      exact ih
  simp (disch := first | assumption | omega | exact nI_or0 | exact nI_or1 | exact bN_or _) only [in9, x9_0, x9_1, reduceIte, Nat.reduceLT, nW_ap, nW_up, nI_add, pk_mul, nI_ltI, nI_eq, if_true, if_false, kont_r, kont_v, Nat.reduceAdd, Nat.reduceMul, Nat.not_lt, not_true_eq_false, not_false_eq_true, Nat.one_ne_zero, Nat.reduceEqDiff, Nat.lt_irrefl, reduceCtorEq, nI_or0, nI_or1]
  exact key 0 (Nat.zero_le _)
/-- rows are shifted up (from a on, n long), down -/
def shU (ks : Nat → Bool) (N : GV) (P a n : Nat) : GV := fun k i s => if ks k = true ∧ i = P ∧ a < s ∧ s ≤ n then N k i (s - 1) else N k i s
def shD (ks : Nat → Bool) (N : GV) (P a n : Nat) : GV := fun k i s => if ks k = true ∧ i = P ∧ a ≤ s ∧ s + 1 < n then N k i (s + 1) else N k i s
def kFr (k : Nat) : Bool := decide (k = 8 ∨ k = 9)
def kU (k : Nat) : Bool := decide (k = 14 ∨ k = 15 ∨ k = 16)
theorem shU_0 {ks : Nat → Bool} {N : GV} {P n : Nat} : shU ks N P n n = N := by
  funext k i s
  exact if_neg fun q => by omega
theorem shU_F {N : GV} {P a n : Nat} (h : a < n) : up3 (up3 (shU kFr N P (a + 1) n) 8 P (a + 1) (N 8 P a)) 9 P (a + 1) (N 9 P a) = shU kFr N P a n := by
  funext k i s
  unfold up3 shU kFr
  by_cases q1 : k = 9 ∧ i = P ∧ s = a + 1
  · obtain ⟨e1, e2, e3⟩ := q1
    subst e1 e2 e3
    rw [if_pos ⟨rfl, rfl, rfl⟩, if_pos ⟨by decide, rfl, by omega, by omega⟩]; rfl
  · rw [if_neg q1]
    by_cases q2 : k = 8 ∧ i = P ∧ s = a + 1
    · obtain ⟨e1, e2, e3⟩ := q2
      subst e1 e2 e3
      rw [if_pos ⟨rfl, rfl, rfl⟩, if_pos ⟨by decide, rfl, by omega, by omega⟩]; rfl
    · rw [if_neg q2]
      by_cases q3 : decide (k = 8 ∨ k = 9) = true ∧ i = P ∧ a + 1 < s ∧ s ≤ n
      · rw [if_pos q3, if_pos ⟨q3.1, q3.2.1, by omega, q3.2.2.2⟩]
      · rw [if_neg q3, if_neg fun q => by
          have := of_decide_eq_true q.1
          have hs : s = a + 1 := by
            by_cases e : s = a + 1
            · exact e
            · exact absurd ⟨q.1, q.2.1, by omega, q.2.2.2⟩ q3
          rcases this with e | e
          · exact q2 ⟨e, q.2.1, hs⟩
          · exact q1 ⟨e, q.2.1, hs⟩]
/-- a frost comes in at a place -/
def fiN (N : GV) (P at' a b : Nat) : GV := up3 (up3 (up3 (shU kFr N P at' (N 1 P 2)) 8 P at' a) 9 P at' b) 1 P 2 (N 1 P 2 + 1)
theorem t10 {X : XS} {N : GV} {R : GR} {L : GL} {Z : Nat × Nat × Bool} (hR : Rok R) {P a b at' : Nat} (hP : P < 8) (h : N 1 P 2 < 6) (hF : FB N P) (hat : at' ≤ N 1 P 2) (ha : a < 2 ^ 28) (h1 : ∀ j, at' ≤ j → j < N 1 P 2 → a < N 8 P j) (h2 : ∀ j, j < at' → N 8 P j ≤ a) : exec X 10 [vR 1 P, vI (nI a), vI (nI b)] (gg (nW N) R L Z) = some (.inl none, (gg (nW (fiN N P at' a b)) R L Z)) := by
  have key : ∀ m, m ≤ N 1 P 2 - at' → ex X 10 15 [vR 1 P, vI (nI a), vI (nI b), vI (nI (N 1 P 2 - m))] [] (gg (nW (shU kFr N P (N 1 P 2 - m) (N 1 P 2))) R L Z) = some (.inl none, (gg (nW (fiN N P at' a b)) R L Z)) := by
    refine down _ ?_ ?_
    · have e1 : N 1 P 2 - (N 1 P 2 - at') = at' := by omega
      rw [e1, x10_15]
      unfold fiN
      generalize hM : shU kFr N P at' (N 1 P 2) = M
      have e12 : M 1 P 2 = N 1 P 2 := by rw [← hM]; exact if_neg fun q => absurd q.1 (by decide)
      by_cases q : 0 < at'
      · obtain ⟨x, hx⟩ : ∃ x, at' = x + 1 := ⟨at' - 1, by omega⟩
        subst hx
        have q2 := h2 x (by omega)
        have e8 : M 8 P x = N 8 P x := by rw [← hM]; exact if_neg fun q => by omega
        have hb := (hF.2 x (by omega)).1
        have ps : nI (x + 1) - nI 1 = nI x := by rw [pk_sub (by omega)]; rfl
        have nq2 : ¬ a < N 8 P x := by omega
        have k1 : ∀ v, up3 M 8 P (x + 1) v 1 P 2 = N 1 P 2 := fun v => by rw [up3_k _ _ (by decide), e12]
        have k2 : ∀ v w, up3 (up3 M 8 P (x + 1) v) 9 P (x + 1) w 1 P 2 = N 1 P 2 := fun v w => by rw [up3_k _ _ (by decide), k1]
        simp (disch := first | assumption | omega | exact nI_or0 | exact nI_or1 | exact bN_or _) only [x10_16, x10_19, x10_20, x10_23, x10_24, x10_25, x10_26, x10_27, x10_28, x10_31, x10_32, x10_35, x10_36, x10_37, x10_40, x10_41, x10_42, x10_43, x10_44, x10_45, x10_46, x10_49, x10_50, x10_51, x10_54, x10_55, x10_56, x10_57, x10_58, x10_59, x10_62, x10_65, x10_66, x10_69, x10_70, x10_71, x10_72, x10_73, x10_76, x10_77, x10_78, x10_79, x10_80, x10_81, x10_84, x10_85, x10_86, x10_89, reduceIte, Nat.reduceLT, nW_ap, nW_up, nI_add, pk_mul, nI_ltI, nI_eq, if_true, if_false, kont_r, kont_v, Nat.reduceAdd, Nat.reduceMul, Nat.not_lt, not_true_eq_false, not_false_eq_true, Nat.one_ne_zero, Nat.reduceEqDiff, Nat.lt_irrefl, reduceCtorEq, nI_or0, nI_or1, q, ps, e8, nq2, k2]
      · have e0 : at' = 0 := by omega
        subst e0
        have k2 : ∀ v w, up3 (up3 M 8 P 0 v) 9 P 0 w 1 P 2 = N 1 P 2 := fun v w => by rw [up3_k _ _ (by decide), up3_k _ _ (by decide), e12]
        simp (disch := first | assumption | omega | exact nI_or0 | exact nI_or1 | exact bN_or _) only [x10_16, x10_19, x10_20, x10_23, x10_24, x10_25, x10_26, x10_27, x10_28, x10_31, x10_32, x10_35, x10_36, x10_37, x10_40, x10_41, x10_42, x10_43, x10_44, x10_45, x10_46, x10_49, x10_50, x10_51, x10_54, x10_55, x10_56, x10_57, x10_58, x10_59, x10_62, x10_65, x10_66, x10_69, x10_70, x10_71, x10_72, x10_73, x10_76, x10_77, x10_78, x10_79, x10_80, x10_81, x10_84, x10_85, x10_86, x10_89, reduceIte, Nat.reduceLT, nW_ap, nW_up, nI_add, pk_mul, nI_ltI, nI_eq, if_true, if_false, kont_r, kont_v, Nat.reduceAdd, Nat.reduceMul, Nat.not_lt, not_true_eq_false, not_false_eq_true, Nat.one_ne_zero, Nat.reduceEqDiff, Nat.lt_irrefl, reduceCtorEq, nI_or0, nI_or1, k2]
    · intro m hm ih
      obtain ⟨x, hx⟩ : ∃ x, N 1 P 2 - m = x + 1 := ⟨N 1 P 2 - m - 1, by omega⟩
      have hx2 : N 1 P 2 - (m + 1) = x := by omega
      rw [hx]
      rw [hx2] at ih
      have q := h1 x (by omega) (by omega)
      have hb := (hF.2 x (by omega)).1
      have su := shU_F (N := N) (P := P) (a := x) (n := N 1 P 2) (by omega)
      generalize hM : shU kFr N P (x + 1) (N 1 P 2) = M at su ⊢
      have e8 : M 8 P x = N 8 P x := by rw [← hM]; exact if_neg fun q => by omega
      have e9 : M 9 P x = N 9 P x := by rw [← hM]; exact if_neg fun q => by omega
      have e9' : ∀ v, up3 M 8 P (x + 1) v 9 P x = N 9 P x := fun v => by rw [up3_k _ _ (by decide), e9]
      have ps : nI (x + 1) - nI 1 = nI x := by rw [pk_sub (by omega)]; rfl
      rw [x10_15]
      have q0 : 0 < x + 1 := by omega
      simp (disch := first | assumption | omega | exact nI_or0 | exact nI_or1 | exact bN_or _) only [x10_16, x10_19, x10_20, x10_23, x10_24, x10_25, x10_26, x10_27, x10_28, x10_31, x10_32, x10_35, x10_36, x10_37, x10_40, x10_41, x10_42, x10_43, x10_44, x10_45, x10_46, x10_49, x10_50, x10_51, x10_54, x10_55, x10_56, x10_57, x10_58, x10_59, x10_62, reduceIte, Nat.reduceLT, nW_ap, nW_up, nI_add, pk_mul, nI_ltI, nI_eq, if_true, if_false, kont_r, kont_v, Nat.reduceAdd, Nat.reduceMul, Nat.not_lt, not_true_eq_false, not_false_eq_true, Nat.one_ne_zero, Nat.reduceEqDiff, Nat.lt_irrefl, reduceCtorEq, nI_or0, nI_or1, q0, ps, e8, e9', q, pk_m1, su]
      exact ih
  have h0 := key 0 (Nat.zero_le _)
  rw [Nat.sub_zero, shU_0] at h0
  simp (disch := first | assumption | omega | exact nI_or0 | exact nI_or1 | exact bN_or _) only [in10, x10_0, x10_1, x10_4, x10_6, x10_9, x10_10, x10_11, x10_14, reduceIte, Nat.reduceLT, nW_ap, nW_up, nI_add, pk_mul, nI_ltI, nI_eq, if_true, if_false, kont_r, kont_v, Nat.reduceAdd, Nat.reduceMul, Nat.not_lt, not_true_eq_false, not_false_eq_true, Nat.one_ne_zero, Nat.reduceEqDiff, Nat.lt_irrefl, reduceCtorEq, nI_or0, nI_or1, h]
  exact h0
theorem shD_0 {ks : Nat → Bool} {N : GV} {P a : Nat} : shD ks N P a (a + 1) = N := by
  funext k i s
  exact if_neg fun q => by omega
theorem shD_F {N : GV} {P a m : Nat} (h : a < m) : up3 (up3 (shD kFr N P a m) 8 P (m - 1) (N 8 P m)) 9 P (m - 1) (N 9 P m) = shD kFr N P a (m + 1) := by
  obtain ⟨x, hx⟩ : ∃ x, m = x + 1 := ⟨m - 1, by omega⟩
  subst hx
  funext k i s
  unfold up3 shD kFr
  rw [Nat.add_sub_cancel]
  by_cases q1 : k = 9 ∧ i = P ∧ s = x
  · obtain ⟨e1, e2, e3⟩ := q1
    subst e1 e2 e3
    rw [if_pos ⟨rfl, rfl, rfl⟩, if_pos ⟨by decide, rfl, by omega, by omega⟩]
  · rw [if_neg q1]
    by_cases q2 : k = 8 ∧ i = P ∧ s = x
    · obtain ⟨e1, e2, e3⟩ := q2
      subst e1 e2 e3
      rw [if_pos ⟨rfl, rfl, rfl⟩, if_pos ⟨by decide, rfl, by omega, by omega⟩]
    · rw [if_neg q2]
      by_cases q3 : decide (k = 8 ∨ k = 9) = true ∧ i = P ∧ a ≤ s ∧ s + 1 < x + 1
      · rw [if_pos q3, if_pos ⟨q3.1, q3.2.1, q3.2.2.1, by omega⟩]
      · rw [if_neg q3, if_neg fun q => by
          have := of_decide_eq_true q.1
          have hs : s = x := by
            by_cases e : s = x
            · exact e
            · exact absurd ⟨q.1, q.2.1, q.2.2.1, by omega⟩ q3
          rcases this with e | e
          · exact q2 ⟨e, q.2.1, hs⟩
          · exact q1 ⟨e, q.2.1, hs⟩]
def fdN (N : GV) (P i : Nat) : GV := up3 (shD kFr N P i (N 1 P 2)) 1 P 2 (N 1 P 2 - 1)
theorem t11 {X : XS} {N : GV} {R : GR} {L : GL} {Z : Nat × Nat × Bool} (hR : Rok R) {P i : Nat} (hP : P < 8) (h : N 1 P 2 ≤ 6) (hi : i < N 1 P 2) : exec X 11 [vR 1 P, vI (nI i)] (gg (nW N) R L Z) = some (.inl none, (gg (nW (fdN N P i)) R L Z)) := by
  have key : ∀ m, m ≤ N 1 P 2 → i < m → ex X 11 4 [vR 1 P, vI (nI i), vI (nI m)] [] (gg (nW (shD kFr N P i m)) R L Z) = some (.inl none, (gg (nW (fdN N P i)) R L Z)) := by
    refine down _ ?_ ?_
    · intro _
      unfold fdN
      generalize hM : shD kFr N P i (N 1 P 2) = M
      have e12 : M 1 P 2 = N 1 P 2 := by rw [← hM]; exact if_neg fun q => absurd q.1 (by decide)
      have q1 : 1 ≤ N 1 P 2 := by omega
      rw [x11_4]
      simp (disch := first | assumption | omega | exact nI_or0 | exact nI_or1 | exact bN_or _) only [x11_5, x11_6, x11_9, x11_12, x11_13, x11_16, x11_17, x11_18, x11_19, x11_20, x11_23, x11_24, x11_25, x11_26, x11_27, x11_30, x11_31, x11_32, x11_33, x11_34, x11_37, x11_38, x11_39, x11_40, x11_43, x11_46, x11_47, x11_48, x11_51, x11_52, x11_53, x11_56, reduceIte, Nat.reduceLT, nW_ap, nW_up, nI_add, pk_mul, nI_ltI, nI_eq, if_true, if_false, kont_r, kont_v, Nat.reduceAdd, Nat.reduceMul, Nat.not_lt, not_true_eq_false, not_false_eq_true, Nat.one_ne_zero, Nat.reduceEqDiff, Nat.lt_irrefl, reduceCtorEq, nI_or0, nI_or1, e12, pk_sub]
    · intro m hm ih hlt
      have ih := ih (by omega)
      have sd := shD_F (N := N) (P := P) (a := i) (m := m) hlt
      generalize hM : shD kFr N P i m = M at sd ⊢
      have e12 : M 1 P 2 = N 1 P 2 := by rw [← hM]; exact if_neg fun q => absurd q.1 (by decide)
      have e8 : M 8 P m = N 8 P m := by rw [← hM]; exact if_neg fun q => by omega
      have e9 : M 9 P m = N 9 P m := by rw [← hM]; exact if_neg fun q => by omega
      have e9' : ∀ v, up3 M 8 P (m - 1) v 9 P m = N 9 P m := fun v => by rw [up3_k _ _ (by decide), e9]
      have q1 : 1 ≤ m := by omega
      rw [x11_4]
      simp (disch := first | assumption | omega | exact nI_or0 | exact nI_or1 | exact bN_or _) only [x11_5, x11_6, x11_9, x11_12, x11_13, x11_16, x11_17, x11_18, x11_19, x11_20, x11_23, x11_24, x11_25, x11_26, x11_27, x11_30, x11_31, x11_32, x11_33, x11_34, x11_37, x11_38, x11_39, x11_40, x11_43, reduceIte, Nat.reduceLT, nW_ap, nW_up, nI_add, pk_mul, nI_ltI, nI_eq, if_true, if_false, kont_r, kont_v, Nat.reduceAdd, Nat.reduceMul, Nat.not_lt, not_true_eq_false, not_false_eq_true, Nat.one_ne_zero, Nat.reduceEqDiff, Nat.lt_irrefl, reduceCtorEq, nI_or0, nI_or1, e12, hm, pk_sub, e8, e9', sd]
      exact ih
  have h0 := key (i + 1) hi (by omega)
  rw [shD_0] at h0
  simp (disch := first | assumption | omega | exact nI_or0 | exact nI_or1 | exact bN_or _) only [in11, x11_0, x11_1, x11_2, x11_3, reduceIte, Nat.reduceLT, nW_ap, nW_up, nI_add, pk_mul, nI_ltI, nI_eq, if_true, if_false, kont_r, kont_v, Nat.reduceAdd, Nat.reduceMul, Nat.not_lt, not_true_eq_false, not_false_eq_true, Nat.one_ne_zero, Nat.reduceEqDiff, Nat.lt_irrefl, reduceCtorEq, nI_or0, nI_or1]
  exact h0
/-- rows are copied -/
def cpR (ks : Nat → Bool) (N : GV) (P Q n : Nat) : GV := fun k i s => if ks k = true ∧ i = P ∧ s < n then N k Q s else N k i s
theorem cpR_0 {ks : Nat → Bool} {N : GV} {P Q : Nat} : cpR ks N P Q 0 = N := by
  funext k i s
  exact if_neg fun q => by omega
theorem cpR_F {N : GV} {P Q m : Nat} : up3 (up3 (cpR kFr N P Q m) 8 P m (N 8 Q m)) 9 P m (N 9 Q m) = cpR kFr N P Q (m + 1) := by
  funext k i s
  unfold up3 cpR kFr
  by_cases q1 : k = 9 ∧ i = P ∧ s = m
  · obtain ⟨e1, e2, e3⟩ := q1
    subst e1 e2 e3
    rw [if_pos ⟨rfl, rfl, rfl⟩, if_pos ⟨by decide, rfl, by omega⟩]
  · rw [if_neg q1]
    by_cases q2 : k = 8 ∧ i = P ∧ s = m
    · obtain ⟨e1, e2, e3⟩ := q2
      subst e1 e2 e3
      rw [if_pos ⟨rfl, rfl, rfl⟩, if_pos ⟨by decide, rfl, by omega⟩]
    · rw [if_neg q2]
      by_cases q3 : decide (k = 8 ∨ k = 9) = true ∧ i = P ∧ s < m
      · rw [if_pos q3, if_pos ⟨q3.1, q3.2.1, by omega⟩]
      · rw [if_neg q3, if_neg fun q => by
          have := of_decide_eq_true q.1
          have hs : s = m := by
            by_cases e : s = m
            · exact e
            · exact absurd ⟨q.1, q.2.1, by omega⟩ q3
          rcases this with e | e
          · exact q2 ⟨e, q.2.1, hs⟩
          · exact q1 ⟨e, q.2.1, hs⟩]
def fcpN (N : GV) (P Q : Nat) : GV := cpR kFr (up3 N 1 P 2 (N 1 Q 2)) P Q (N 1 Q 2)
theorem t12 {X : XS} {N : GV} {R : GR} {L : GL} {Z : Nat × Nat × Bool} (hR : Rok R) {P Q : Nat} (hP : P < 8) (hQ : Q < 8) (hne : ¬ P = Q) (h : N 1 Q 2 ≤ 6) : exec X 12 [vR 1 P, vR 1 Q] (gg (nW N) R L Z) = some (.inl none, (gg (nW (fcpN N P Q)) R L Z)) := by
  unfold fcpN
  generalize hW : up3 N 1 P 2 (N 1 Q 2) = W
  have w1 : W 1 P 2 = N 1 Q 2 := by rw [← hW, up3_self]
  have key : ∀ m, m ≤ N 1 Q 2 → ex X 12 10 [vR 1 P, vR 1 Q, vI (nI m)] [] (gg (nW (cpR kFr W P Q m)) R L Z) = some (.inl none, (gg (nW (cpR kFr W P Q (N 1 Q 2))) R L Z)) := by
    refine down _ ?_ ?_
    · have e12 : (cpR kFr W P Q (N 1 Q 2)) 1 P 2 = N 1 Q 2 := by rw [← w1]; exact if_neg fun q => absurd q.1 (by decide)
      rw [x12_10]
      simp (disch := first | assumption | omega | exact nI_or0 | exact nI_or1 | exact bN_or _) only [x12_11, x12_12, x12_15, x12_18, x12_19, x12_22, x12_23, x12_24, x12_27, x12_28, x12_29, x12_30, x12_31, x12_34, x12_35, x12_36, x12_39, x12_40, x12_41, x12_42, x12_45, x12_48, reduceIte, Nat.reduceLT, nW_ap, nW_up, nI_add, pk_mul, nI_ltI, nI_eq, if_true, if_false, kont_r, kont_v, Nat.reduceAdd, Nat.reduceMul, Nat.not_lt, not_true_eq_false, not_false_eq_true, Nat.one_ne_zero, Nat.reduceEqDiff, Nat.lt_irrefl, reduceCtorEq, nI_or0, nI_or1, e12]
    · intro m hm ih
      rw [← cpR_F] at ih
      generalize hM : cpR kFr W P Q m = M at ih ⊢
      have e12 : M 1 P 2 = N 1 Q 2 := by rw [← w1, ← hM]; exact if_neg fun q => absurd q.1 (by decide)
      have e8 : M 8 Q m = W 8 Q m := by rw [← hM]; exact if_neg fun q => by omega
      have e9 : ∀ v, up3 M 8 P m v 9 Q m = W 9 Q m := fun v => by rw [up3_k _ _ (by decide), ← hM]; exact if_neg fun q => by omega
      rw [x12_10]
      simp (disch := first | assumption | omega | exact nI_or0 | exact nI_or1 | exact bN_or _) only [x12_11, x12_12, x12_15, x12_18, x12_19, x12_22, x12_23, x12_24, x12_27, x12_28, x12_29, x12_30, x12_31, x12_34, x12_35, x12_36, x12_39, x12_40, x12_41, x12_42, x12_45, reduceIte, Nat.reduceLT, nW_ap, nW_up, nI_add, pk_mul, nI_ltI, nI_eq, if_true, if_false, kont_r, kont_v, Nat.reduceAdd, Nat.reduceMul, Nat.not_lt, not_true_eq_false, not_false_eq_true, Nat.one_ne_zero, Nat.reduceEqDiff, Nat.lt_irrefl, reduceCtorEq, nI_or0, nI_or1, e12, hm, e8, e9]
      exact ih
  have h0 := key 0 (Nat.zero_le _)
  rw [cpR_0] at h0
  simp (disch := first | assumption | omega | exact nI_or0 | exact nI_or1 | exact bN_or _) only [in12, x12_0, x12_1, x12_2, x12_5, x12_8, x12_9, reduceIte, Nat.reduceLT, nW_ap, nW_up, nI_add, pk_mul, nI_ltI, nI_eq, if_true, if_false, kont_r, kont_v, Nat.reduceAdd, Nat.reduceMul, Nat.not_lt, not_true_eq_false, not_false_eq_true, Nat.one_ne_zero, Nat.reduceEqDiff, Nat.lt_irrefl, reduceCtorEq, nI_or0, nI_or1, hW]
  exact h0
