/-! the reference's saved states; checks of its public methods -/
def rowAt (N : GV) (k i a n : Nat) (f : Nat → Nat) : GV := fun k' i' s => if k' = k ∧ i' = i ∧ a ≤ s ∧ s < a + n then f (s - a) else N k' i' s
theorem rowAt_0 (N : GV) (k i a : Nat) (f : Nat → Nat) : rowAt N k i a 0 f = N := by
  funext k' i' s
  exact if_neg fun h => by omega
theorem rowAt_s (N : GV) (k i a n : Nat) (f : Nat → Nat) : up3 (rowAt N k i a n f) k i (a + n) (f n) = rowAt N k i a (n + 1) f := by
  funext k' i' s
  unfold up3 rowAt
  by_cases h1 : k' = k ∧ i' = i ∧ s = a + n
  · rw [if_pos h1, if_pos ⟨h1.1, h1.2.1, by omega, by omega⟩]
    congr 1
    omega
  · rw [if_neg h1]
    by_cases h2 : k' = k ∧ i' = i ∧ a ≤ s ∧ s < a + n
    · rw [if_pos h2, if_pos ⟨h2.1, h2.2.1, h2.2.2.1, by omega⟩]
    · rw [if_neg h2, if_neg fun q => h2 ⟨q.1, q.2.1, q.2.2.1, by
        have := q.2.2.2
        by_cases e : s = a + n
        · exact absurd ⟨q.1, q.2.1, e⟩ h1
        · omega⟩]
theorem rowAt_in {N : GV} {k i a n s : Nat} {f : Nat → Nat} (h : a ≤ s ∧ s < a + n) : rowAt N k i a n f k i s = f (s - a) := if_pos ⟨rfl, rfl, h.1, h.2⟩
theorem rowAt_out {N : GV} {k i a n k' i' s : Nat} {f : Nat → Nat} (h : k' = k → i' = i → ¬ (a ≤ s ∧ s < a + n)) : rowAt N k i a n f k' i' s = N k' i' s := if_neg fun q => h q.1 q.2.1 ⟨q.2.2.1, q.2.2.2⟩
theorem t95 {X : XS} {N : GV} {R : GR} {L : GL} {Z : Nat × Nat × Bool} (hR : Rok R) : exec X 95 [vR 7 0] (gg (nW N) R L Z) = some (.inl none, (gg (nW (rowTo N 23 0 204 fun s => N 22 0 s)) R L Z)) := by
  have key : ∀ k, k ≤ 204 → ex X 95 2 [vR 7 0, vI (nI k)] [] (gg (nW (rowTo N 23 0 k fun s => N 22 0 s)) R L Z) = some (.inl none, (gg (nW (rowTo N 23 0 204 fun s => N 22 0 s)) R L Z)) := by
    refine down _ ?_ ?_
    · rw [x95_2]
      simp (disch := first | assumption | omega | exact nI_or0 | exact nI_or1) only [x95_3, x95_6, x95_9, x95_10, x95_13, x95_14, x95_15, x95_18, x95_19, x95_20, x95_21, x95_24, x95_27, reduceIte, Nat.reduceLT, nW_ap, nW_up, nI_add, pk_mul, nI_ltI, nI_eq, if_true, if_false, kont_r, kont_v, Nat.reduceAdd, Nat.reduceMul, Nat.not_lt, not_true_eq_false, not_false_eq_true, Nat.one_ne_zero, Nat.reduceEqDiff, Nat.lt_irrefl, reduceCtorEq, nI_or0, nI_or1]
    · intro k hk ih
      rw [← rowTo_s] at ih
      have e : (rowTo N 23 0 k fun s => N 22 0 s) 22 0 k = N 22 0 k := rowTo_k (by decide)
      rw [x95_2]
      simp (disch := first | assumption | omega | exact nI_or0 | exact nI_or1) only [x95_3, x95_6, x95_9, x95_10, x95_13, x95_14, x95_15, x95_18, x95_19, x95_20, x95_21, x95_24, reduceIte, Nat.reduceLT, nW_ap, nW_up, nI_add, pk_mul, nI_ltI, nI_eq, if_true, if_false, kont_r, kont_v, Nat.reduceAdd, Nat.reduceMul, Nat.not_lt, not_true_eq_false, not_false_eq_true, Nat.one_ne_zero, Nat.reduceEqDiff, Nat.lt_irrefl, reduceCtorEq, nI_or0, nI_or1, hk, e]
      exact ih
  have h := key 0 (Nat.zero_le _)
  rw [rowTo_0] at h
  simp (disch := first | assumption | omega | exact nI_or0 | exact nI_or1) only [in95, x95_0, x95_1]
  exact h
theorem t96 {X : XS} {N : GV} {R : GR} {L : GL} {Z : Nat × Nat × Bool} (hR : Rok R) : exec X 96 [vR 7 0] (gg (nW N) R L Z) = some (.inl none, (gg (nW (rowTo N 22 0 204 fun s => N 23 0 s)) R L Z)) := by
  have key : ∀ k, k ≤ 204 → ex X 96 2 [vR 7 0, vI (nI k)] [] (gg (nW (rowTo N 22 0 k fun s => N 23 0 s)) R L Z) = some (.inl none, (gg (nW (rowTo N 22 0 204 fun s => N 23 0 s)) R L Z)) := by
    refine down _ ?_ ?_
    · rw [x96_2]
      simp (disch := first | assumption | omega | exact nI_or0 | exact nI_or1) only [x96_3, x96_6, x96_9, x96_10, x96_13, x96_14, x96_15, x96_18, x96_19, x96_20, x96_21, x96_24, x96_27, reduceIte, Nat.reduceLT, nW_ap, nW_up, nI_add, pk_mul, nI_ltI, nI_eq, if_true, if_false, kont_r, kont_v, Nat.reduceAdd, Nat.reduceMul, Nat.not_lt, not_true_eq_false, not_false_eq_true, Nat.one_ne_zero, Nat.reduceEqDiff, Nat.lt_irrefl, reduceCtorEq, nI_or0, nI_or1]
    · intro k hk ih
      rw [← rowTo_s] at ih
      have e : (rowTo N 22 0 k fun s => N 23 0 s) 23 0 k = N 23 0 k := rowTo_k (by decide)
      rw [x96_2]
      simp (disch := first | assumption | omega | exact nI_or0 | exact nI_or1) only [x96_3, x96_6, x96_9, x96_10, x96_13, x96_14, x96_15, x96_18, x96_19, x96_20, x96_21, x96_24, reduceIte, Nat.reduceLT, nW_ap, nW_up, nI_add, pk_mul, nI_ltI, nI_eq, if_true, if_false, kont_r, kont_v, Nat.reduceAdd, Nat.reduceMul, Nat.not_lt, not_true_eq_false, not_false_eq_true, Nat.one_ne_zero, Nat.reduceEqDiff, Nat.lt_irrefl, reduceCtorEq, nI_or0, nI_or1, hk, e]
      exact ih
  have h := key 0 (Nat.zero_le _)
  rw [rowTo_0] at h
  simp (disch := first | assumption | omega | exact nI_or0 | exact nI_or1) only [in96, x96_0, x96_1]
  exact h
/-- the oldest of six states goes -/
def shfN (N : GV) : GV := if N 7 0 4 = 6 then up3 (rowTo N 24 0 1020 fun s => N 24 0 (s + 204)) 7 0 4 5 else N
def savN (N : GV) : GV := up3 (rowAt (shfN N) 24 0 (204 * (shfN N) 7 0 4) 204 fun s => N 22 0 s) 7 0 4 ((shfN N) 7 0 4 + 1)
theorem t94 {X : XS} {N : GV} {R : GR} {L : GL} {Z : Nat × Nat × Bool} (hR : Rok R) (h : N 7 0 4 ≤ 6) : exec X 94 [vR 7 0] (gg (nW N) R L Z) = some (.inl none, (gg (nW (savN N)) R L Z)) := by
  have s1 : ∃ l1 : AV, exec X 94 [vR 7 0] (gg (nW N) R L Z) = ex X 94 50 [vR 7 0, l1] [] (gg (nW (shfN N)) R L Z) := by
    by_cases q : N 7 0 4 = 6
    · have key : ∀ k, k ≤ 1020 → ex X 94 11 [vR 7 0, vI (nI k)] [] (gg (nW (rowTo N 24 0 k fun s => N 24 0 (s + 204))) R L Z) = ex X 94 40 [vR 7 0, vI (nI 1020)] [] (gg (nW (rowTo N 24 0 1020 fun s => N 24 0 (s + 204))) R L Z) := by
        refine down _ ?_ ?_
        · rw [x94_11]
          simp (disch := first | assumption | omega | exact nI_or0 | exact nI_or1) only [x94_12, x94_15, reduceIte, Nat.reduceLT, nW_ap, nW_up, nI_add, pk_mul, nI_ltI, nI_eq, if_true, if_false, kont_r, kont_v, Nat.reduceAdd, Nat.reduceMul, Nat.not_lt, not_true_eq_false, not_false_eq_true, Nat.one_ne_zero, Nat.reduceEqDiff, Nat.lt_irrefl, reduceCtorEq, nI_or0, nI_or1]
        · intro k hk ih
          rw [← rowTo_s] at ih
          have e : (rowTo N 24 0 k fun s => N 24 0 (s + 204)) 24 0 (k + 204) = N 24 0 (k + 204) := rowTo_out (by omega)
          rw [x94_11]
          simp (disch := first | assumption | omega | exact nI_or0 | exact nI_or1) only [x94_12, x94_15, x94_18, x94_19, x94_22, x94_23, x94_24, x94_27, x94_28, x94_31, x94_32, x94_33, x94_34, x94_37, reduceIte, Nat.reduceLT, nW_ap, nW_up, nI_add, pk_mul, nI_ltI, nI_eq, if_true, if_false, kont_r, kont_v, Nat.reduceAdd, Nat.reduceMul, Nat.not_lt, not_true_eq_false, not_false_eq_true, Nat.one_ne_zero, Nat.reduceEqDiff, Nat.lt_irrefl, reduceCtorEq, nI_or0, nI_or1, hk, e]
          exact ih
      have h0 := key 0 (Nat.zero_le _)
      rw [rowTo_0] at h0
      refine ⟨vI (nI 1020), ?_⟩
      unfold shfN
      rw [if_pos q]
      have e : (rowTo N 24 0 1020 fun s => N 24 0 (s + 204)) 7 0 4 = N 7 0 4 := rowTo_k (by decide)
      simp (disch := first | assumption | omega | exact nI_or0 | exact nI_or1) only [in94, x94_0, x94_1, x94_4, x94_6, x94_9, x94_10, reduceIte, Nat.reduceLT, nW_ap, nW_up, nI_add, pk_mul, nI_ltI, nI_eq, if_true, if_false, kont_r, kont_v, Nat.reduceAdd, Nat.reduceMul, Nat.not_lt, not_true_eq_false, not_false_eq_true, Nat.one_ne_zero, Nat.reduceEqDiff, Nat.lt_irrefl, reduceCtorEq, nI_or0, nI_or1, q, h0, x94_40, x94_41, x94_42, x94_45, x94_46, x94_47, e, pk_sub, Nat.reduceSub]
    · refine ⟨vU, ?_⟩
      unfold shfN
      rw [if_neg q]
      simp (disch := first | assumption | omega | exact nI_or0 | exact nI_or1) only [in94, x94_0, x94_1, x94_4, x94_6, x94_9, x94_10, reduceIte, Nat.reduceLT, nW_ap, nW_up, nI_add, pk_mul, nI_ltI, nI_eq, if_true, if_false, kont_r, kont_v, Nat.reduceAdd, Nat.reduceMul, Nat.not_lt, not_true_eq_false, not_false_eq_true, Nat.one_ne_zero, Nat.reduceEqDiff, Nat.lt_irrefl, reduceCtorEq, nI_or0, nI_or1, q]
  obtain ⟨l1, s1⟩ := s1
  have e22 : ∀ s, (shfN N) 22 0 s = N 22 0 s := fun s => by
    unfold shfN
    split
    · rw [up3_k _ _ (by decide), rowTo_k (by decide)]
    · rfl
  have b : (shfN N) 7 0 4 ≤ 5 := by
    unfold shfN
    split
    · rw [up3_self]; omega
    · omega
  rw [s1]
  unfold savN
  generalize shfN N = M at e22 b
  have key : ∀ k, k ≤ 204 → ex X 94 52 [vR 7 0, vI (nI k)] [] (gg (nW (rowAt M 24 0 (204 * M 7 0 4) k fun s => N 22 0 s)) R L Z) = ex X 94 86 [vR 7 0, vI (nI 204)] [] (gg (nW (rowAt M 24 0 (204 * M 7 0 4) 204 fun s => N 22 0 s)) R L Z) := by
    refine down _ ?_ ?_
    · rw [x94_52]
      simp (disch := first | assumption | omega | exact nI_or0 | exact nI_or1) only [x94_53, x94_56, reduceIte, Nat.reduceLT, nW_ap, nW_up, nI_add, pk_mul, nI_ltI, nI_eq, if_true, if_false, kont_r, kont_v, Nat.reduceAdd, Nat.reduceMul, Nat.not_lt, not_true_eq_false, not_false_eq_true, Nat.one_ne_zero, Nat.reduceEqDiff, Nat.lt_irrefl, reduceCtorEq, nI_or0, nI_or1]
    · intro k hk ih
      rw [← rowAt_s] at ih
      have e : (rowAt M 24 0 (204 * M 7 0 4) k fun s => N 22 0 s) 22 0 k = N 22 0 k := by rw [rowAt_out fun q => absurd q (by decide), e22]
      have e4 : (rowAt M 24 0 (204 * M 7 0 4) k fun s => N 22 0 s) 7 0 4 = M 7 0 4 := rowAt_out fun q => absurd q (by decide)
      rw [x94_52]
      simp (disch := first | assumption | omega | exact nI_or0 | exact nI_or1) only [x94_53, x94_56, x94_59, x94_60, x94_63, x94_66, x94_67, x94_70, x94_71, x94_72, x94_73, x94_74, x94_77, x94_78, x94_79, x94_80, x94_83, reduceIte, Nat.reduceLT, nW_ap, nW_up, nI_add, pk_mul, nI_ltI, nI_eq, if_true, if_false, kont_r, kont_v, Nat.reduceAdd, Nat.reduceMul, Nat.not_lt, not_true_eq_false, not_false_eq_true, Nat.one_ne_zero, Nat.reduceEqDiff, Nat.lt_irrefl, reduceCtorEq, nI_or0, nI_or1, hk, e, e4]
      exact ih
  have h0 := key 0 (Nat.zero_le _)
  rw [rowAt_0] at h0
  have e4 : (rowAt M 24 0 (204 * M 7 0 4) 204 fun s => N 22 0 s) 7 0 4 = M 7 0 4 := rowAt_out fun q => absurd q (by decide)
  simp (disch := first | assumption | omega | exact nI_or0 | exact nI_or1) only [x94_50, x94_51, h0, x94_86, x94_87, x94_88, x94_91, x94_92, x94_93, x94_96, reduceIte, Nat.reduceLT, nW_ap, nW_up, nI_add, pk_mul, nI_ltI, nI_eq, if_true, if_false, kont_r, kont_v, Nat.reduceAdd, Nat.reduceMul, Nat.not_lt, not_true_eq_false, not_false_eq_true, Nat.one_ne_zero, Nat.reduceEqDiff, Nat.lt_irrefl, reduceCtorEq, nI_or0, nI_or1, e4]
theorem t122 {X : XS} {N : GV} {R : GR} {L : GL} {Z : Nat × Nat × Bool} (hR : Rok R) : exec X 122 [vR 7 0] (gg (nW N) R L Z) = some (.inl (some (vI (nI (sumN 8 fun p => N 22 0 (13 + 10 * p + 6))))), (gg (nW N) R L Z)) := by
  generalize hr : (some (.inl (some (vI (nI (sumN 8 fun p => N 22 0 (13 + 10 * p + 6))))), (gg (nW N) R L Z)) : Option RS) = r
  have key : ∀ k, k ≤ 8 → ex X 122 4 [vR 7 0, vI (nI (sumN k fun p => N 22 0 (13 + 10 * p + 6))), vI (nI k)] [] (gg (nW N) R L Z) = r := by
    refine down _ ?_ ?_
    · rw [x122_4]
      simp (disch := first | assumption | omega | exact nI_or0 | exact nI_or1) only [x122_5, x122_7, x122_10, x122_11, x122_12, x122_13, x122_15, x122_18, x122_19, x122_20, x122_23, x122_26, x122_27, reduceIte, Nat.reduceLT, nW_ap, nW_up, nI_add, pk_mul, nI_ltI, nI_eq, if_true, if_false, kont_r, kont_v, Nat.reduceAdd, Nat.reduceMul, Nat.not_lt, not_true_eq_false, not_false_eq_true, Nat.one_ne_zero, Nat.reduceEqDiff, Nat.lt_irrefl, reduceCtorEq, nI_or0, nI_or1]
      exact hr
    · intro k hk ih
      simp only [sumN] at ih
      rw [x122_4]
      simp (disch := first | assumption | omega | exact nI_or0 | exact nI_or1) only [x122_5, x122_7, x122_10, x122_11, x122_12, x122_13, x122_15, x122_18, x122_19, x122_20, x122_23, reduceIte, Nat.reduceLT, nW_ap, nW_up, nI_add, pk_mul, nI_ltI, nI_eq, if_true, if_false, kont_r, kont_v, Nat.reduceAdd, Nat.reduceMul, Nat.not_lt, not_true_eq_false, not_false_eq_true, Nat.one_ne_zero, Nat.reduceEqDiff, Nat.lt_irrefl, reduceCtorEq, nI_or0, nI_or1, hk, t97]
      exact ih
  simp (disch := first | assumption | omega | exact nI_or0 | exact nI_or1) only [in122, x122_0, x122_1, x122_2, x122_3]
  exact key 0 (Nat.zero_le _)
