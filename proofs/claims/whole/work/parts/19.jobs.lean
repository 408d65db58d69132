/-! the reference's jobs -/
theorem Lt31_up {N : GV} {j v : Nat} (hB : Lt31 (N 22 0)) (h : (j < 8 ∨ (13 ≤ j ∧ j < 93 ∧ (j - 13) % 10 < 7) ∨ (93 ≤ j ∧ j < 204)) → v < 2 ^ 28) : Lt31 ((up3 N 22 0 j v) 22 0) := by
  intro k hk
  by_cases q : k = j
  · subst q; rw [up3_self]; exact h hk
  · rw [up3_s _ _ q]; exact hB k hk
theorem nI_m1 {n : Nat} (h : n < 2 ^ 31) : ¬ nI n = -1 := fun q => nI_pos h (by rw [q]; decide)
theorem dif_p {a b : Nat} (ha : a < 2 ^ 28) (hb : b < 2 ^ 28) : nI 0 < nI a - nI b ↔ b < a := by
  rw [Int32.lt_iff_toInt_lt, pk_sub_toInt (by omega) (by omega), nI_toInt (by omega)]
  omega
theorem dif_z {a b : Nat} (ha : a < 2 ^ 28) (hb : b < 2 ^ 28) : nI a - nI b = nI 0 ↔ a = b := by
  rw [← Int32.toInt_inj, pk_sub_toInt (by omega) (by omega), nI_toInt (by omega)]
  omega
/-- whether the job a is ahead of b -/
def ahd (S : Nat → Nat) (a b : Nat) : Bool :=
  if S 1 < 2 ∧ ¬ a % 2 = b % 2 then decide (a % 2 = S 1)
  else decide (S (93 + 3 * a + 1) < S (93 + 3 * b + 1)) || (decide (S (93 + 3 * b + 1) = S (93 + 3 * a + 1)) && decide (a < b))
theorem bN_or (c : Bool) : nI (bN c) = 0 ∨ nI (bN c) = 1 := by cases c <;> decide
theorem t108 {X : XS} {N : GV} {R : GR} {L : GL} {Z : Nat × Nat × Bool} (hR : Rok R) (hB : Lt31 (N 22 0)) {a b : Nat} (ha : a < 16) (hb : b < 16) : exec X 108 [vR 7 0, vI (nI a), vI (nI b)] (gg (nW N) R L Z) = some (.inl (some (vI (nI (bN (ahd (N 22 0) a b))))), (gg (nW N) R L Z)) := by
  have h2 : ¬ nI 2 = 0 := by decide
  have b1 := hB 1 (by omega)
  have ba := hB (93 + 3 * a + 1) (by omega)
  have bb := hB (93 + 3 * b + 1) (by omega)
  unfold ahd
  by_cases q1 : N 22 0 1 < 2
  · by_cases q2 : a % 2 = b % 2
    · by_cases q3 : N 22 0 (93 + 3 * a + 1) < N 22 0 (93 + 3 * b + 1) <;> by_cases q4 : N 22 0 (93 + 3 * b + 1) = N 22 0 (93 + 3 * a + 1) <;> by_cases q5 : a < b <;>
        simp (disch := first | assumption | omega | exact nI_or0 | exact nI_or1) only [x108_0, x108_1, x108_4, x108_5, x108_6, x108_7, x108_10, x108_11, x108_12, x108_13, x108_14, x108_15, x108_16, x108_19, x108_20, x108_21, x108_22, x108_23, x108_26, x108_27, x108_28, x108_31, x108_32, x108_35, x108_36, x108_37, x108_38, x108_39, x108_40, x108_43, x108_44, x108_45, x108_46, x108_49, x108_50, x108_51, x108_52, x108_55, x108_56, x108_59, x108_60, x108_61, x108_64, x108_65, x108_68, x108_69, in108, reduceIte, Nat.reduceLT, nW_ap, nW_up, nI_add, pk_mul, nI_ltI, nI_eq, if_true, if_false, kont_r, kont_v, Nat.reduceAdd, Nat.reduceMul, Nat.not_lt, not_true_eq_false, not_false_eq_true, Nat.one_ne_zero, Nat.reduceEqDiff, Nat.lt_irrefl, reduceCtorEq, nI_or0, nI_or1, t99, pk_rem, q1, q2, q3, q4, q5, dif_p, dif_z, and_false, and_true, decide_true, decide_false, Bool.or_true, Bool.or_false, Bool.true_or, Bool.false_or, Bool.and_true, Bool.and_false, Bool.true_and, Bool.false_and, bN, Bool.false_eq_true]
    · by_cases q3 : a % 2 = N 22 0 1
      · have q4 : ¬ N 22 0 1 = b % 2 := fun h => q2 (q3.trans h)
        simp (disch := first | assumption | omega | exact nI_or0 | exact nI_or1) only [x108_0, x108_1, x108_4, x108_5, x108_6, x108_7, x108_10, x108_11, x108_12, x108_13, x108_14, x108_15, x108_16, x108_19, x108_20, x108_21, x108_22, x108_23, x108_26, x108_27, x108_28, x108_31, x108_32, x108_35, x108_36, x108_37, x108_38, x108_39, x108_40, x108_43, x108_44, x108_45, x108_46, x108_49, x108_50, x108_51, x108_52, x108_55, x108_56, x108_59, x108_60, x108_61, x108_64, x108_65, x108_68, x108_69, in108, reduceIte, Nat.reduceLT, nW_ap, nW_up, nI_add, pk_mul, nI_ltI, nI_eq, if_true, if_false, kont_r, kont_v, Nat.reduceAdd, Nat.reduceMul, Nat.not_lt, not_true_eq_false, not_false_eq_true, Nat.one_ne_zero, Nat.reduceEqDiff, Nat.lt_irrefl, reduceCtorEq, nI_or0, nI_or1, t99, pk_rem, q1, q4, q3, and_true, decide_true, decide_false, bN, Bool.false_eq_true]
      · simp (disch := first | assumption | omega | exact nI_or0 | exact nI_or1) only [x108_0, x108_1, x108_4, x108_5, x108_6, x108_7, x108_10, x108_11, x108_12, x108_13, x108_14, x108_15, x108_16, x108_19, x108_20, x108_21, x108_22, x108_23, x108_26, x108_27, x108_28, x108_31, x108_32, x108_35, x108_36, x108_37, x108_38, x108_39, x108_40, x108_43, x108_44, x108_45, x108_46, x108_49, x108_50, x108_51, x108_52, x108_55, x108_56, x108_59, x108_60, x108_61, x108_64, x108_65, x108_68, x108_69, in108, reduceIte, Nat.reduceLT, nW_ap, nW_up, nI_add, pk_mul, nI_ltI, nI_eq, if_true, if_false, kont_r, kont_v, Nat.reduceAdd, Nat.reduceMul, Nat.not_lt, not_true_eq_false, not_false_eq_true, Nat.one_ne_zero, Nat.reduceEqDiff, Nat.lt_irrefl, reduceCtorEq, nI_or0, nI_or1, t99, pk_rem, q1, q2, q3, and_true, decide_true, decide_false, bN, Bool.false_eq_true]
  · by_cases q3 : N 22 0 (93 + 3 * a + 1) < N 22 0 (93 + 3 * b + 1) <;> by_cases q4 : N 22 0 (93 + 3 * b + 1) = N 22 0 (93 + 3 * a + 1) <;> by_cases q5 : a < b <;>
      simp (disch := first | assumption | omega | exact nI_or0 | exact nI_or1) only [x108_0, x108_1, x108_4, x108_5, x108_6, x108_7, x108_10, x108_11, x108_12, x108_13, x108_14, x108_15, x108_16, x108_19, x108_20, x108_21, x108_22, x108_23, x108_26, x108_27, x108_28, x108_31, x108_32, x108_35, x108_36, x108_37, x108_38, x108_39, x108_40, x108_43, x108_44, x108_45, x108_46, x108_49, x108_50, x108_51, x108_52, x108_55, x108_56, x108_59, x108_60, x108_61, x108_64, x108_65, x108_68, x108_69, in108, reduceIte, Nat.reduceLT, nW_ap, nW_up, nI_add, pk_mul, nI_ltI, nI_eq, if_true, if_false, kont_r, kont_v, Nat.reduceAdd, Nat.reduceMul, Nat.not_lt, not_true_eq_false, not_false_eq_true, Nat.one_ne_zero, Nat.reduceEqDiff, Nat.lt_irrefl, reduceCtorEq, nI_or0, nI_or1, t99, pk_rem, q1, q3, q4, q5, dif_p, dif_z, false_and, decide_true, decide_false, Bool.or_true, Bool.or_false, Bool.true_or, Bool.false_or, Bool.and_true, Bool.and_false, Bool.true_and, Bool.false_and, bN, Bool.false_eq_true]
/-- a number or none -/
def oI : Option Nat → Int32
  | none => -1
  | some j => nI j
/-- the first job not gone through among those below k -/
def nxtJ (S D : Nat → Nat) : Nat → Option Nat
  | 0 => none
  | k + 1 => if S (93 + 3 * k) = 1 ∧ D k = 0 ∧ (match nxtJ S D k with | none => true | some b => ahd S k b) = true then some k else nxtJ S D k
theorem nxtJ_lt {S D : Nat → Nat} : ∀ {k j : Nat}, nxtJ S D k = some j → j < k := by
  intro k
  induction k with
  | zero => intro j h; simp [nxtJ] at h
  | succ k ih =>
    intro j h
    have e : nxtJ S D (k + 1) = some k ∨ nxtJ S D (k + 1) = nxtJ S D k := (Decidable.em _).elim (fun q => Or.inl (if_pos q)) (fun q => Or.inr (if_neg q))
    rcases e with e | e
    · rw [e] at h; cases h; omega
    · rw [e] at h; have := ih h; omega
theorem l109 {X : XS} {N : GV} {R : GR} {L : GL} {Z : Nat × Nat × Bool} (hR : Rok R) (hB : Lt31 (N 22 0)) (hD : ∀ j, j < 16 → N 27 0 j ≤ 1) {r : Option RS} (hr : ex X 109 55 [vR 7 0, vI (oI (nxtJ (N 22 0) (N 27 0) 16)), vI (nI 16)] [] (gg (nW N) R L Z) = r) : ∀ k, k ≤ 16 → ex X 109 4 [vR 7 0, vI (oI (nxtJ (N 22 0) (N 27 0) k)), vI (nI k)] [] (gg (nW N) R L Z) = r := by
  refine down _ ?_ ?_
  · rw [x109_4]
    simp (disch := first | assumption | omega | exact nI_or0 | exact nI_or1) only [x109_5, x109_7, x109_10, x109_11, x109_12, x109_13, x109_16, x109_17, x109_20, x109_21, x109_24, x109_25, x109_26, x109_29, x109_30, x109_31, x109_34, x109_35, x109_36, x109_37, x109_40, x109_43, x109_44, x109_47, x109_48, x109_49, x109_52, reduceIte, Nat.reduceLT, nW_ap, nW_up, nI_add, pk_mul, nI_ltI, nI_eq, if_true, if_false, kont_r, kont_v, Nat.reduceAdd, Nat.reduceMul, Nat.not_lt, not_true_eq_false, not_false_eq_true, Nat.one_ne_zero, Nat.reduceEqDiff, Nat.lt_irrefl, reduceCtorEq, nI_or0, nI_or1]
    exact hr
  · intro k hk ih
    have b1 := hB (93 + 3 * k) (by omega)
    have b2 := hD k hk
    rw [x109_4]
    simp only [nxtJ] at ih
    by_cases q1 : N 22 0 (93 + 3 * k) = 1 <;> by_cases q2 : N 27 0 k = 0
    · cases hn : nxtJ (N 22 0) (N 27 0) k with
      | none =>
        simp only [hn, q1, q2, and_self, if_true] at ih
        simp (disch := first | assumption | omega | exact nI_or0 | exact nI_or1) only [x109_5, x109_7, x109_10, x109_11, x109_12, x109_13, x109_16, x109_17, x109_20, x109_21, x109_24, x109_25, x109_26, x109_29, x109_30, x109_31, x109_34, x109_35, x109_36, x109_37, x109_40, x109_43, x109_44, x109_47, x109_48, x109_49, x109_52, reduceIte, Nat.reduceLT, nW_ap, nW_up, nI_add, pk_mul, nI_ltI, nI_eq, if_true, if_false, kont_r, kont_v, Nat.reduceAdd, Nat.reduceMul, Nat.not_lt, not_true_eq_false, not_false_eq_true, Nat.one_ne_zero, Nat.reduceEqDiff, Nat.lt_irrefl, reduceCtorEq, nI_or0, nI_or1, hk, t99, Nat.add_zero, q1, q2, oI]
        exact ih
      | some b =>
        have hb := nxtJ_lt hn
        have hb1 := nI_m1 (n := b) (by omega)
        cases hq : ahd (N 22 0) k b <;>
          simp only [hn, q1, q2, hq, and_self, and_true, and_false, true_and, if_true, if_false, Bool.false_eq_true] at ih <;>
          simp (disch := first | assumption | omega | exact nI_or0 | exact nI_or1) only [x109_5, x109_7, x109_10, x109_11, x109_12, x109_13, x109_16, x109_17, x109_20, x109_21, x109_24, x109_25, x109_26, x109_29, x109_30, x109_31, x109_34, x109_35, x109_36, x109_37, x109_40, x109_43, x109_44, x109_47, x109_48, x109_49, x109_52, reduceIte, Nat.reduceLT, nW_ap, nW_up, nI_add, pk_mul, nI_ltI, nI_eq, if_true, if_false, kont_r, kont_v, Nat.reduceAdd, Nat.reduceMul, Nat.not_lt, not_true_eq_false, not_false_eq_true, Nat.one_ne_zero, Nat.reduceEqDiff, Nat.lt_irrefl, reduceCtorEq, nI_or0, nI_or1, hk, t99, Nat.add_zero, q1, q2, oI, hb1, t108, hq, bN, Bool.false_eq_true] <;> exact ih
    · simp only [q1, q2, false_and, and_false, if_false] at ih
      generalize oI (nxtJ (N 22 0) (N 27 0) k) = o at ih ⊢
      simp (disch := first | assumption | omega | exact nI_or0 | exact nI_or1) only [x109_5, x109_7, x109_10, x109_11, x109_12, x109_13, x109_16, x109_17, x109_20, x109_21, x109_24, x109_25, x109_26, x109_29, x109_30, x109_31, x109_34, x109_35, x109_36, x109_37, x109_40, x109_43, x109_44, x109_47, x109_48, x109_49, x109_52, reduceIte, Nat.reduceLT, nW_ap, nW_up, nI_add, pk_mul, nI_ltI, nI_eq, if_true, if_false, kont_r, kont_v, Nat.reduceAdd, Nat.reduceMul, Nat.not_lt, not_true_eq_false, not_false_eq_true, Nat.one_ne_zero, Nat.reduceEqDiff, Nat.lt_irrefl, reduceCtorEq, nI_or0, nI_or1, hk, t99, Nat.add_zero, q1, q2]
      exact ih
    · simp only [q1, q2, false_and, and_false, if_false] at ih
      generalize oI (nxtJ (N 22 0) (N 27 0) k) = o at ih ⊢
      simp (disch := first | assumption | omega | exact nI_or0 | exact nI_or1) only [x109_5, x109_7, x109_10, x109_11, x109_12, x109_13, x109_16, x109_17, x109_20, x109_21, x109_24, x109_25, x109_26, x109_29, x109_30, x109_31, x109_34, x109_35, x109_36, x109_37, x109_40, x109_43, x109_44, x109_47, x109_48, x109_49, x109_52, reduceIte, Nat.reduceLT, nW_ap, nW_up, nI_add, pk_mul, nI_ltI, nI_eq, if_true, if_false, kont_r, kont_v, Nat.reduceAdd, Nat.reduceMul, Nat.not_lt, not_true_eq_false, not_false_eq_true, Nat.one_ne_zero, Nat.reduceEqDiff, Nat.lt_irrefl, reduceCtorEq, nI_or0, nI_or1, hk, t99, Nat.add_zero, q1, q2]
      exact ih
    · simp only [q1, q2, false_and, and_false, if_false] at ih
      generalize oI (nxtJ (N 22 0) (N 27 0) k) = o at ih ⊢
      simp (disch := first | assumption | omega | exact nI_or0 | exact nI_or1) only [x109_5, x109_7, x109_10, x109_11, x109_12, x109_13, x109_16, x109_17, x109_20, x109_21, x109_24, x109_25, x109_26, x109_29, x109_30, x109_31, x109_34, x109_35, x109_36, x109_37, x109_40, x109_43, x109_44, x109_47, x109_48, x109_49, x109_52, reduceIte, Nat.reduceLT, nW_ap, nW_up, nI_add, pk_mul, nI_ltI, nI_eq, if_true, if_false, kont_r, kont_v, Nat.reduceAdd, Nat.reduceMul, Nat.not_lt, not_true_eq_false, not_false_eq_true, Nat.one_ne_zero, Nat.reduceEqDiff, Nat.lt_irrefl, reduceCtorEq, nI_or0, nI_or1, hk, t99, Nat.add_zero, q1, q2]
      exact ih
theorem t109 {X : XS} {N : GV} {R : GR} {L : GL} {Z : Nat × Nat × Bool} (hR : Rok R) (hB : Lt31 (N 22 0)) (hD : ∀ j, j < 16 → N 27 0 j ≤ 1) : exec X 109 [vR 7 0] (gg (nW N) R L Z) = some (.inl (some (vI (oI (nxtJ (N 22 0) (N 27 0) 16)))), (gg (nW N) R L Z)) := by
  simp (disch := first | assumption | omega | exact nI_or0 | exact nI_or1) only [in109, x109_0, x109_1, x109_2, x109_3]
  exact l109 hR hB hD (by rw [x109_55]; exact x109_56) 0 (Nat.zero_le _)
/-- the first n of a row are f -/
def rowTo (N : GV) (k i n : Nat) (f : Nat → Nat) : GV := fun k' i' s => if k' = k ∧ i' = i ∧ s < n then f s else N k' i' s
theorem rowTo_0 (N : GV) (k i : Nat) (f : Nat → Nat) : rowTo N k i 0 f = N := by
  funext k' i' s
  exact if_neg fun h => absurd h.2.2 (Nat.not_lt_zero _)
theorem rowTo_s (N : GV) (k i n : Nat) (f : Nat → Nat) : up3 (rowTo N k i n f) k i n (f n) = rowTo N k i (n + 1) f := by
  funext k' i' s
  unfold up3 rowTo
  by_cases h1 : k' = k <;> by_cases h2 : i' = i <;> by_cases h3 : s = n
  · subst h1 h2 h3; simp
  · subst h1 h2
    have : s < n ↔ s < n + 1 := by omega
    simp [h3, this]
  all_goals simp [h1, h2]
theorem rowTo_in {N : GV} {k i n s : Nat} {f : Nat → Nat} (h : s < n) : rowTo N k i n f k i s = f s := if_pos ⟨rfl, rfl, h⟩
theorem rowTo_out {N : GV} {k i n s : Nat} {f : Nat → Nat} (h : ¬ s < n) : rowTo N k i n f k i s = N k i s := if_neg fun q => h q.2.2
theorem rowTo_k {N : GV} {k i n : Nat} {f : Nat → Nat} {k' i' s : Nat} (h : ¬ k' = k) : rowTo N k i n f k' i' s = N k' i' s := if_neg fun q => h q.1
theorem t110 {X : XS} {N : GV} {R : GR} {L : GL} {Z : Nat × Nat × Bool} (hR : Rok R) : exec X 110 [vR 7 0] (gg (nW N) R L Z) = some (.inl none, (gg (nW (rowTo N 27 0 17 fun _ => 0)) R L Z)) := by
  have key : ∀ k, k ≤ 17 → ex X 110 2 [vR 7 0, vI (nI k)] [] (gg (nW (rowTo N 27 0 k fun _ => 0)) R L Z) = some (.inl none, (gg (nW (rowTo N 27 0 17 fun _ => 0)) R L Z)) := by
    refine down _ ?_ ?_
    · rw [x110_2]
      simp (disch := first | assumption | omega | exact nI_or0 | exact nI_or1) only [x110_3, x110_5, x110_8, x110_9, x110_12, x110_13, x110_14, x110_15, x110_18, x110_21, reduceIte, Nat.reduceLT, nW_ap, nW_up, nI_add, pk_mul, nI_ltI, nI_eq, if_true, if_false, kont_r, kont_v, Nat.reduceAdd, Nat.reduceMul, Nat.not_lt, not_true_eq_false, not_false_eq_true, Nat.one_ne_zero, Nat.reduceEqDiff, Nat.lt_irrefl, reduceCtorEq, nI_or0, nI_or1]
    · intro k hk ih
      rw [x110_2]
      simp (disch := first | assumption | omega | exact nI_or0 | exact nI_or1) only [x110_3, x110_5, x110_8, x110_9, x110_12, x110_13, x110_14, x110_15, x110_18, reduceIte, Nat.reduceLT, nW_ap, nW_up, nI_add, pk_mul, nI_ltI, nI_eq, if_true, if_false, kont_r, kont_v, Nat.reduceAdd, Nat.reduceMul, Nat.not_lt, not_true_eq_false, not_false_eq_true, Nat.one_ne_zero, Nat.reduceEqDiff, Nat.lt_irrefl, reduceCtorEq, nI_or0, nI_or1, hk, rowTo_s]
      exact ih
  have h := key 0 (Nat.zero_le _)
  rw [rowTo_0] at h
  simp (disch := first | assumption | omega | exact nI_or0 | exact nI_or1) only [in110, x110_0, x110_1]
  exact h
