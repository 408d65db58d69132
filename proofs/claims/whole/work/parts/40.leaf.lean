/-! the class: jobs, fountains -/
theorem u_ne {N : GV} {k i s v k' i' s' : Nat} (h : ¬ (k' = k ∧ i' = i ∧ s' = s)) : up3 N k i s v k' i' s' = N k' i' s' := if_neg h
theorem u_eq {N : GV} {k i s v k' i' s' : Nat} (h : k' = k ∧ i' = i ∧ s' = s) : up3 N k i s v k' i' s' = v := if_pos h
theorem t84 {X : XS} {N : GV} {R : GR} {L : GL} {Z : Nat × Nat × Bool} {b : Nat} (hb : b ≤ 1) : exec X 84 [vI (nI b)] (gg (nW N) R L Z) = some (.inl (some (vI (nI b))), (gg (nW N) R L Z)) := by
  have : b = 0 ∨ b = 1 := by omega
  rcases this with e | e
  · subst e; simp (disch := first | assumption | omega | exact nI_or0 | exact nI_or1 | exact bN_or _) only [in84, x84_0, x84_1, x84_4, x84_5, x84_8, x84_9, in84, reduceIte, Nat.reduceLT, nW_ap, nW_up, nI_add, pk_mul, nI_ltI, nI_eq, if_true, if_false, kont_r, kont_v, Nat.reduceAdd, Nat.reduceMul, Nat.not_lt, not_true_eq_false, not_false_eq_true, Nat.one_ne_zero, Nat.reduceEqDiff, Nat.lt_irrefl, reduceCtorEq, nI_or0, nI_or1]
  · subst e; simp (disch := first | assumption | omega | exact nI_or0 | exact nI_or1 | exact bN_or _) only [in84, x84_0, x84_1, x84_4, x84_5, x84_8, x84_9, in84, reduceIte, Nat.reduceLT, nW_ap, nW_up, nI_add, pk_mul, nI_ltI, nI_eq, if_true, if_false, kont_r, kont_v, Nat.reduceAdd, Nat.reduceMul, Nat.not_lt, not_true_eq_false, not_false_eq_true, Nat.one_ne_zero, Nat.reduceEqDiff, Nat.lt_irrefl, reduceCtorEq, nI_or0, nI_or1]
theorem bz {b : Nat} (hb : b ≤ 1) : nI b = 0 ∨ nI b = 1 := by
  have : b = 0 ∨ b = 1 := by omega
  rcases this with e | e
  · subst e; exact Or.inl rfl
  · subst e; exact Or.inr rfl
theorem t3 {X : XS} {N : GV} {R : GR} {L : GL} {Z : Nat × Nat × Bool} (hR : Rok R) {f : Nat} (hf : f < 64) (h1 : N 2 (2 * f) 2 ≤ 1) (h2 : N 2 (2 * f + 1) 2 ≤ 1) : exec X 3 [vR 0 f] (gg (nW N) R L Z) = some (.inl (some (vI (nI (N 2 (2 * f) 2 + N 2 (2 * f + 1) 2)))), (gg (nW N) R L Z)) := by
  simp (disch := first | assumption | omega | exact nI_or0 | exact nI_or1 | exact bN_or _) only [in3, x3_0, x3_1, x3_4, x3_7, x3_10, x3_11, x3_14, x3_17, x3_20, x3_21, in3, reduceIte, Nat.reduceLT, nW_ap, nW_up, nI_add, pk_mul, nI_ltI, nI_eq, if_true, if_false, kont_r, kont_v, Nat.reduceAdd, Nat.reduceMul, Nat.not_lt, not_true_eq_false, not_false_eq_true, Nat.one_ne_zero, Nat.reduceEqDiff, Nat.lt_irrefl, reduceCtorEq, nI_or0, nI_or1, t84]
/-- why a fountain is closed -/
def cbN (N : GV) (c : Bool) (f : Nat) : Nat :=
  if N 0 f 2 = 0 then 1
  else if N 2 (2 * f) 2 = 1 then 2
  else if N 0 f 4 = 1 then 3
  else if c = true ∧ N 0 f 3 = 0 then 4
  else if N 2 (2 * f + 1) 2 = 1 then 5 else 0
def fB (N : GV) (f : Nat) : Prop := N 0 f 2 ≤ 1 ∧ (¬ N 0 f 2 = 0 → N 0 f 3 ≤ 1 ∧ N 0 f 4 ≤ 1 ∧ N 2 (2 * f) 2 ≤ 1 ∧ N 2 (2 * f + 1) 2 ≤ 1)
theorem t4 {X : XS} {N : GV} {R : GR} {L : GL} {Z : Nat × Nat × Bool} (hR : Rok R) {f : Nat} {c : Bool} (hf : f < 64) (hb : fB N f) : exec X 4 [vR 0 f, vI (nI (bN c))] (gg (nW N) R L Z) = some (.inl (some (vI (nI (cbN N c f)))), (gg (nW N) R L Z)) := by
  obtain ⟨b0, b1⟩ := hb
  unfold cbN
  by_cases q1 : N 0 f 2 = 0
  · simp (disch := first | assumption | omega | exact nI_or0 | exact nI_or1 | exact bN_or _) only [in4, x4_0, x4_1, x4_4, x4_7, x4_8, x4_9, x4_10, x4_13, x4_16, x4_19, x4_20, x4_21, x4_22, x4_25, x4_28, x4_29, x4_30, x4_31, x4_34, x4_35, x4_38, x4_41, x4_42, x4_43, x4_44, x4_47, x4_50, x4_53, x4_54, x4_57, x4_58, in4, reduceIte, Nat.reduceLT, nW_ap, nW_up, nI_add, pk_mul, nI_ltI, nI_eq, if_true, if_false, kont_r, kont_v, Nat.reduceAdd, Nat.reduceMul, Nat.not_lt, not_true_eq_false, not_false_eq_true, Nat.one_ne_zero, Nat.reduceEqDiff, Nat.lt_irrefl, reduceCtorEq, nI_or0, nI_or1, q1]
  · obtain ⟨c1, c2, c3, c4⟩ := b1 q1
    by_cases q2 : N 2 (2 * f) 2 = 1
    · simp (disch := first | assumption | omega | exact nI_or0 | exact nI_or1 | exact bN_or _) only [in4, x4_0, x4_1, x4_4, x4_7, x4_8, x4_9, x4_10, x4_13, x4_16, x4_19, x4_20, x4_21, x4_22, x4_25, x4_28, x4_29, x4_30, x4_31, x4_34, x4_35, x4_38, x4_41, x4_42, x4_43, x4_44, x4_47, x4_50, x4_53, x4_54, x4_57, x4_58, in4, reduceIte, Nat.reduceLT, nW_ap, nW_up, nI_add, pk_mul, nI_ltI, nI_eq, if_true, if_false, kont_r, kont_v, Nat.reduceAdd, Nat.reduceMul, Nat.not_lt, not_true_eq_false, not_false_eq_true, Nat.one_ne_zero, Nat.reduceEqDiff, Nat.lt_irrefl, reduceCtorEq, nI_or0, nI_or1, q1, q2]
    · have q2' : N 2 (2 * f) 2 = 0 := by omega
      by_cases q3 : N 0 f 4 = 1
      · simp (disch := first | assumption | omega | exact nI_or0 | exact nI_or1 | exact bN_or _) only [in4, x4_0, x4_1, x4_4, x4_7, x4_8, x4_9, x4_10, x4_13, x4_16, x4_19, x4_20, x4_21, x4_22, x4_25, x4_28, x4_29, x4_30, x4_31, x4_34, x4_35, x4_38, x4_41, x4_42, x4_43, x4_44, x4_47, x4_50, x4_53, x4_54, x4_57, x4_58, in4, reduceIte, Nat.reduceLT, nW_ap, nW_up, nI_add, pk_mul, nI_ltI, nI_eq, if_true, if_false, kont_r, kont_v, Nat.reduceAdd, Nat.reduceMul, Nat.not_lt, not_true_eq_false, not_false_eq_true, Nat.one_ne_zero, Nat.reduceEqDiff, Nat.lt_irrefl, reduceCtorEq, nI_or0, nI_or1, q1, q2', q3]
      · have q3' : N 0 f 4 = 0 := by omega
        cases c with
        | false =>
          by_cases q5 : N 2 (2 * f + 1) 2 = 1
          · simp (disch := first | assumption | omega | exact nI_or0 | exact nI_or1 | exact bN_or _) only [in4, x4_0, x4_1, x4_4, x4_7, x4_8, x4_9, x4_10, x4_13, x4_16, x4_19, x4_20, x4_21, x4_22, x4_25, x4_28, x4_29, x4_30, x4_31, x4_34, x4_35, x4_38, x4_41, x4_42, x4_43, x4_44, x4_47, x4_50, x4_53, x4_54, x4_57, x4_58, in4, reduceIte, Nat.reduceLT, nW_ap, nW_up, nI_add, pk_mul, nI_ltI, nI_eq, if_true, if_false, kont_r, kont_v, Nat.reduceAdd, Nat.reduceMul, Nat.not_lt, not_true_eq_false, not_false_eq_true, Nat.one_ne_zero, Nat.reduceEqDiff, Nat.lt_irrefl, reduceCtorEq, nI_or0, nI_or1, q1, q2', q3', q5, bN, Bool.false_eq_true, false_and]
          · have q5' : N 2 (2 * f + 1) 2 = 0 := by omega
            simp (disch := first | assumption | omega | exact nI_or0 | exact nI_or1 | exact bN_or _) only [in4, x4_0, x4_1, x4_4, x4_7, x4_8, x4_9, x4_10, x4_13, x4_16, x4_19, x4_20, x4_21, x4_22, x4_25, x4_28, x4_29, x4_30, x4_31, x4_34, x4_35, x4_38, x4_41, x4_42, x4_43, x4_44, x4_47, x4_50, x4_53, x4_54, x4_57, x4_58, in4, reduceIte, Nat.reduceLT, nW_ap, nW_up, nI_add, pk_mul, nI_ltI, nI_eq, if_true, if_false, kont_r, kont_v, Nat.reduceAdd, Nat.reduceMul, Nat.not_lt, not_true_eq_false, not_false_eq_true, Nat.one_ne_zero, Nat.reduceEqDiff, Nat.lt_irrefl, reduceCtorEq, nI_or0, nI_or1, q1, q2', q3', q5', bN, Bool.false_eq_true, false_and]
        | true =>
          by_cases q4 : N 0 f 3 = 0
          · simp (disch := first | assumption | omega | exact nI_or0 | exact nI_or1 | exact bN_or _) only [in4, x4_0, x4_1, x4_4, x4_7, x4_8, x4_9, x4_10, x4_13, x4_16, x4_19, x4_20, x4_21, x4_22, x4_25, x4_28, x4_29, x4_30, x4_31, x4_34, x4_35, x4_38, x4_41, x4_42, x4_43, x4_44, x4_47, x4_50, x4_53, x4_54, x4_57, x4_58, in4, reduceIte, Nat.reduceLT, nW_ap, nW_up, nI_add, pk_mul, nI_ltI, nI_eq, if_true, if_false, kont_r, kont_v, Nat.reduceAdd, Nat.reduceMul, Nat.not_lt, not_true_eq_false, not_false_eq_true, Nat.one_ne_zero, Nat.reduceEqDiff, Nat.lt_irrefl, reduceCtorEq, nI_or0, nI_or1, q1, q2', q3', q4, bN, and_self]
          · by_cases q5 : N 2 (2 * f + 1) 2 = 1
            · simp (disch := first | assumption | omega | exact nI_or0 | exact nI_or1 | exact bN_or _) only [in4, x4_0, x4_1, x4_4, x4_7, x4_8, x4_9, x4_10, x4_13, x4_16, x4_19, x4_20, x4_21, x4_22, x4_25, x4_28, x4_29, x4_30, x4_31, x4_34, x4_35, x4_38, x4_41, x4_42, x4_43, x4_44, x4_47, x4_50, x4_53, x4_54, x4_57, x4_58, in4, reduceIte, Nat.reduceLT, nW_ap, nW_up, nI_add, pk_mul, nI_ltI, nI_eq, if_true, if_false, kont_r, kont_v, Nat.reduceAdd, Nat.reduceMul, Nat.not_lt, not_true_eq_false, not_false_eq_true, Nat.one_ne_zero, Nat.reduceEqDiff, Nat.lt_irrefl, reduceCtorEq, nI_or0, nI_or1, q1, q2', q3', q4, q5, bN, and_false]
            · have q5' : N 2 (2 * f + 1) 2 = 0 := by omega
              simp (disch := first | assumption | omega | exact nI_or0 | exact nI_or1 | exact bN_or _) only [in4, x4_0, x4_1, x4_4, x4_7, x4_8, x4_9, x4_10, x4_13, x4_16, x4_19, x4_20, x4_21, x4_22, x4_25, x4_28, x4_29, x4_30, x4_31, x4_34, x4_35, x4_38, x4_41, x4_42, x4_43, x4_44, x4_47, x4_50, x4_53, x4_54, x4_57, x4_58, in4, reduceIte, Nat.reduceLT, nW_ap, nW_up, nI_add, pk_mul, nI_ltI, nI_eq, if_true, if_false, kont_r, kont_v, Nat.reduceAdd, Nat.reduceMul, Nat.not_lt, not_true_eq_false, not_false_eq_true, Nat.one_ne_zero, Nat.reduceEqDiff, Nat.lt_irrefl, reduceCtorEq, nI_or0, nI_or1, q1, q2', q3', q4, q5', bN, and_false]
/-- a job is reported -/
def jrN (N : GV) (b d : Nat) : GV := up3 (up3 (up3 N 2 b 2 1) 2 b 3 d) 2 b 4 0
theorem t14 {X : XS} {N : GV} {R : GR} {L : GL} {Z : Nat × Nat × Bool} (hR : Rok R) {b d : Nat} (hb : b < 128) : exec X 14 [vR 2 b, vI (nI d)] (gg (nW N) R L Z) = some (.inl none, (gg (nW (jrN N b d)) R L Z)) := by
  unfold jrN
  simp (disch := first | assumption | omega | exact nI_or0 | exact nI_or1 | exact bN_or _) only [in14, x14_0, x14_1, x14_2, x14_5, x14_6, x14_7, x14_10, x14_11, x14_12, x14_15, in14, reduceIte, Nat.reduceLT, nW_ap, nW_up, nI_add, pk_mul, nI_ltI, nI_eq, if_true, if_false, kont_r, kont_v, Nat.reduceAdd, Nat.reduceMul, Nat.not_lt, not_true_eq_false, not_false_eq_true, Nat.one_ne_zero, Nat.reduceEqDiff, Nat.lt_irrefl, reduceCtorEq, nI_or0, nI_or1]
theorem t15 {X : XS} {N : GV} {R : GR} {L : GL} {Z : Nat × Nat × Bool} (hR : Rok R) {b : Nat} (hb : b < 128) (hk : N 2 b 1 = b % 2) (hw : N 2 b 4 ≤ if b % 2 = 0 then 6 else 2) : exec X 15 [vR 2 b] (gg (nW N) R L Z) = some (.inl (some (vI (nI ((if b % 2 = 0 then 6 else 2) - N 2 b 4)))), (gg (nW N) R L Z)) := by
  by_cases q : b % 2 = 0
  · rw [if_pos q] at hw
    rw [q] at hk
    simp (disch := first | assumption | omega | exact nI_or0 | exact nI_or1 | exact bN_or _) only [in15, x15_0, x15_1, x15_4, x15_7, x15_9, x15_12, x15_13, x15_14, x15_17, x15_18, in15, reduceIte, Nat.reduceLT, nW_ap, nW_up, nI_add, pk_mul, nI_ltI, nI_eq, if_true, if_false, kont_r, kont_v, Nat.reduceAdd, Nat.reduceMul, Nat.not_lt, not_true_eq_false, not_false_eq_true, Nat.one_ne_zero, Nat.reduceEqDiff, Nat.lt_irrefl, reduceCtorEq, nI_or0, nI_or1, hk, pk_sub, q]
  · rw [if_neg q] at hw
    have q' : b % 2 = 1 := by omega
    rw [q'] at hk
    simp (disch := first | assumption | omega | exact nI_or0 | exact nI_or1 | exact bN_or _) only [in15, x15_0, x15_1, x15_4, x15_7, x15_9, x15_12, x15_13, x15_14, x15_17, x15_18, in15, reduceIte, Nat.reduceLT, nW_ap, nW_up, nI_add, pk_mul, nI_ltI, nI_eq, if_true, if_false, kont_r, kont_v, Nat.reduceAdd, Nat.reduceMul, Nat.not_lt, not_true_eq_false, not_false_eq_true, Nat.one_ne_zero, Nat.reduceEqDiff, Nat.lt_irrefl, reduceCtorEq, nI_or0, nI_or1, hk, pk_sub, q']
/-- the rank of a job of the class -/
def rkC (N : GV) (o b : Nat) : Nat := ((if o < 2 ∧ ¬ b % 2 = o then 1059 + N 2 b 3 else N 2 b 3) * 8 + b / 2 % 8) * 2 + b % 2
theorem t16 {X : XS} {N : GV} {R : GR} {L : GL} {Z : Nat × Nat × Bool} (hR : Rok R) {b o : Nat} (hb : b < 128) (ho : o ≤ 2) (hk : N 2 b 1 = b % 2) (hp : N 2 b 0 = b / 2 % 8) : exec X 16 [vR 2 b, vI (nI o)] (gg (nW N) R L Z) = some (.inl none, (gg (nW (up3 N 2 b 5 (rkC N o b))) R L Z)) := by
  unfold rkC
  have hb2 : b % 2 < 2 := Nat.mod_lt _ (by omega)
  by_cases q1 : o < 2
  · by_cases q2 : b % 2 = o
    · rw [if_neg fun e => e.2 q2]
      simp (disch := first | assumption | omega | exact nI_or0 | exact nI_or1 | exact bN_or _) only [in16, x16_0, x16_1, x16_2, x16_5, x16_6, x16_9, x16_10, x16_13, x16_14, x16_17, x16_18, x16_19, x16_20, x16_23, x16_26, x16_27, x16_30, x16_31, x16_34, x16_35, x16_38, x16_39, x16_40, x16_41, x16_43, x16_44, x16_45, x16_48, x16_49, x16_50, x16_51, x16_52, x16_55, x16_56, x16_59, in16, reduceIte, Nat.reduceLT, nW_ap, nW_up, nI_add, pk_mul, nI_ltI, nI_eq, if_true, if_false, kont_r, kont_v, Nat.reduceAdd, Nat.reduceMul, Nat.not_lt, not_true_eq_false, not_false_eq_true, Nat.one_ne_zero, Nat.reduceEqDiff, Nat.lt_irrefl, reduceCtorEq, nI_or0, nI_or1, hk, hp, q1, q2]
    · rw [if_pos ⟨q1, q2⟩]
      simp (disch := first | assumption | omega | exact nI_or0 | exact nI_or1 | exact bN_or _) only [in16, x16_0, x16_1, x16_2, x16_5, x16_6, x16_9, x16_10, x16_13, x16_14, x16_17, x16_18, x16_19, x16_20, x16_23, x16_26, x16_27, x16_30, x16_31, x16_34, x16_35, x16_38, x16_39, x16_40, x16_41, x16_43, x16_44, x16_45, x16_48, x16_49, x16_50, x16_51, x16_52, x16_55, x16_56, x16_59, in16, reduceIte, Nat.reduceLT, nW_ap, nW_up, nI_add, pk_mul, nI_ltI, nI_eq, if_true, if_false, kont_r, kont_v, Nat.reduceAdd, Nat.reduceMul, Nat.not_lt, not_true_eq_false, not_false_eq_true, Nat.one_ne_zero, Nat.reduceEqDiff, Nat.lt_irrefl, reduceCtorEq, nI_or0, nI_or1, hk, hp, q1, q2]
  · rw [if_neg fun e => q1 e.1]
    simp (disch := first | assumption | omega | exact nI_or0 | exact nI_or1 | exact bN_or _) only [in16, x16_0, x16_1, x16_2, x16_5, x16_6, x16_9, x16_10, x16_13, x16_14, x16_17, x16_18, x16_19, x16_20, x16_23, x16_26, x16_27, x16_30, x16_31, x16_34, x16_35, x16_38, x16_39, x16_40, x16_41, x16_43, x16_44, x16_45, x16_48, x16_49, x16_50, x16_51, x16_52, x16_55, x16_56, x16_59, in16, reduceIte, Nat.reduceLT, nW_ap, nW_up, nI_add, pk_mul, nI_ltI, nI_eq, if_true, if_false, kont_r, kont_v, Nat.reduceAdd, Nat.reduceMul, Nat.not_lt, not_true_eq_false, not_false_eq_true, Nat.one_ne_zero, Nat.reduceEqDiff, Nat.lt_irrefl, reduceCtorEq, nI_or0, nI_or1, hk, hp, q1]
theorem t17 {X : XS} {N : GV} {R : GR} {L : GL} {Z : Nat × Nat × Bool} (hR : Rok R) {b w : Nat} (hb : b < 128) (hk : N 2 b 1 = b % 2) (hp : N 2 b 0 = b / 2 % 8) (hw : N 2 b 4 ≤ if b % 2 = 0 then 6 else 2) (h4 : w < 4) : exec X 17 [vR 2 b, vI (nI w)] (gg (nW N) R L Z) = some (.inl (some (vI (nI (if w = 0 then b / 2 % 8 else if w = 1 then b % 2 else if w = 2 then N 2 b 3 else (if b % 2 = 0 then 6 else 2) - N 2 b 4)))), (gg (nW N) R L Z)) := by
  have s1 := t15 (X := X) (N := N) (L := L) (Z := Z) hR hb hk hw
  match w, h4 with
  | 0, _ => simp (disch := first | assumption | omega | exact nI_or0 | exact nI_or1 | exact bN_or _) only [in17, x17_0, x17_1_v0, x17_1_v1, x17_1_v2, x17_1_d, x17_28, x17_29, x17_32, x17_33, x17_34, x17_37, x17_38, x17_39, x17_42, x17_43, x17_44, x17_47, in17, reduceIte, Nat.reduceLT, nW_ap, nW_up, nI_add, pk_mul, nI_ltI, nI_eq, if_true, if_false, kont_r, kont_v, Nat.reduceAdd, Nat.reduceMul, Nat.not_lt, not_true_eq_false, not_false_eq_true, Nat.one_ne_zero, Nat.reduceEqDiff, Nat.lt_irrefl, reduceCtorEq, nI_or0, nI_or1, hp]
  | 1, _ => simp (disch := first | assumption | omega | exact nI_or0 | exact nI_or1 | exact bN_or _) only [in17, x17_0, x17_1_v0, x17_1_v1, x17_1_v2, x17_1_d, x17_28, x17_29, x17_32, x17_33, x17_34, x17_37, x17_38, x17_39, x17_42, x17_43, x17_44, x17_47, in17, reduceIte, Nat.reduceLT, nW_ap, nW_up, nI_add, pk_mul, nI_ltI, nI_eq, if_true, if_false, kont_r, kont_v, Nat.reduceAdd, Nat.reduceMul, Nat.not_lt, not_true_eq_false, not_false_eq_true, Nat.one_ne_zero, Nat.reduceEqDiff, Nat.lt_irrefl, reduceCtorEq, nI_or0, nI_or1, hk]
  | 2, _ => simp (disch := first | assumption | omega | exact nI_or0 | exact nI_or1 | exact bN_or _) only [in17, x17_0, x17_1_v0, x17_1_v1, x17_1_v2, x17_1_d, x17_28, x17_29, x17_32, x17_33, x17_34, x17_37, x17_38, x17_39, x17_42, x17_43, x17_44, x17_47, in17, reduceIte, Nat.reduceLT, nW_ap, nW_up, nI_add, pk_mul, nI_ltI, nI_eq, if_true, if_false, kont_r, kont_v, Nat.reduceAdd, Nat.reduceMul, Nat.not_lt, not_true_eq_false, not_false_eq_true, Nat.one_ne_zero, Nat.reduceEqDiff, Nat.lt_irrefl, reduceCtorEq, nI_or0, nI_or1]
  | 3, _ =>
    have hx : (nI 3).toInt < 0 ∨ 2 < (nI 3).toInt := Or.inr (by decide)
    simp (disch := first | assumption | omega | exact nI_or0 | exact nI_or1 | exact bN_or _) only [in17, x17_0, x17_1_v0, x17_1_v1, x17_1_v2, x17_1_d, x17_28, x17_29, x17_32, x17_33, x17_34, x17_37, x17_38, x17_39, x17_42, x17_43, x17_44, x17_47, in17, reduceIte, Nat.reduceLT, nW_ap, nW_up, nI_add, pk_mul, nI_ltI, nI_eq, if_true, if_false, kont_r, kont_v, Nat.reduceAdd, Nat.reduceMul, Nat.not_lt, not_true_eq_false, not_false_eq_true, Nat.one_ne_zero, Nat.reduceEqDiff, Nat.lt_irrefl, reduceCtorEq, nI_or0, nI_or1, s1]
/-- a job is copied -/
def jcN (N : GV) (a b : Nat) : GV := up3 (up3 (up3 N 2 a 2 (N 2 b 2)) 2 a 3 (N 2 b 3)) 2 a 4 (N 2 b 4)
theorem t18 {X : XS} {N : GV} {R : GR} {L : GL} {Z : Nat × Nat × Bool} (hR : Rok R) {a b : Nat} (ha : a < 128) (hb : b < 128) (hn : N 2 b 2 ≤ 1) : exec X 18 [vR 2 a, vR 2 b] (gg (nW N) R L Z) = some (.inl none, (gg (nW (jcN N a b)) R L Z)) := by
  have hz := bz hn
  have g1 : ∀ v, up3 N 2 a 2 v 2 b 3 = N 2 b 3 := fun v => up3_s _ _ (by omega)
  have g2 : ∀ v w, up3 (up3 N 2 a 2 v) 2 a 3 w 2 b 4 = N 2 b 4 := fun v w => by rw [up3_s _ _ (by omega), up3_s _ _ (by omega)]
  unfold jcN
  simp (disch := first | assumption | omega | exact nI_or0 | exact nI_or1 | exact bN_or _) only [in18, x18_0, x18_1, x18_2, x18_5, x18_8, x18_9, x18_10, x18_13, x18_16, x18_17, x18_18, x18_21, x18_24, in18, reduceIte, Nat.reduceLT, nW_ap, nW_up, nI_add, pk_mul, nI_ltI, nI_eq, if_true, if_false, kont_r, kont_v, Nat.reduceAdd, Nat.reduceMul, Nat.not_lt, not_true_eq_false, not_false_eq_true, Nat.one_ne_zero, Nat.reduceEqDiff, Nat.lt_irrefl, reduceCtorEq, nI_or0, nI_or1, g1, g2]
/-- a fountain begins, ends -/
def bgN (N : GV) (f a b : Nat) (c : Bool) : GV := up3 (up3 (up3 (up3 (up3 (up3 (up3 (up3 (up3 N 0 f 2 1) 0 f 3 (bN c)) 0 f 4 0) 0 f 5 a) 0 f 6 b) 0 f 7 0) 0 f 8 0) 0 f 9 0) 0 f 10 0
theorem t1 {X : XS} {N : GV} {R : GR} {L : GL} {Z : Nat × Nat × Bool} (hR : Rok R) {f a b : Nat} {c : Bool} (hf : f < 64) : exec X 1 [vR 0 f, vI (nI a), vI (nI b), vI (nI (bN c))] (gg (nW N) R L Z) = some (.inl none, (gg (nW (bgN N f a b c)) R L Z)) := by
  have hz := bN_or c
  unfold bgN
  simp (disch := first | assumption | omega | exact nI_or0 | exact nI_or1 | exact bN_or _) only [in1, x1_0, x1_1, x1_2, x1_5, x1_6, x1_7, x1_10, x1_11, x1_12, x1_15, x1_16, x1_17, x1_20, x1_21, x1_22, x1_25, x1_26, x1_27, x1_30, x1_31, x1_32, x1_35, x1_36, x1_37, x1_40, x1_41, x1_42, x1_45, in1, reduceIte, Nat.reduceLT, nW_ap, nW_up, nI_add, pk_mul, nI_ltI, nI_eq, if_true, if_false, kont_r, kont_v, Nat.reduceAdd, Nat.reduceMul, Nat.not_lt, not_true_eq_false, not_false_eq_true, Nat.one_ne_zero, Nat.reduceEqDiff, Nat.lt_irrefl, reduceCtorEq, nI_or0, nI_or1]
def edN (N : GV) (f : Nat) : GV := up3 (up3 (up3 N 0 f 2 0) 2 (2 * f) 2 0) 2 (2 * f + 1) 2 0
theorem t2 {X : XS} {N : GV} {R : GR} {L : GL} {Z : Nat × Nat × Bool} (hR : Rok R) {f : Nat} (hf : f < 64) (h1 : N 2 (2 * f) 2 ≤ 1) (h2 : N 2 (2 * f + 1) 2 ≤ 1) : exec X 2 [vR 0 f] (gg (nW N) R L Z) = some (.inl (some (vI (nI (N 2 (2 * f) 2 + N 2 (2 * f + 1) 2)))), (gg (nW (edN N f)) R L Z)) := by
  have s1 := t3 (X := X) (N := N) (L := L) (Z := Z) hR hf h1 h2
  unfold edN
  simp (disch := first | assumption | omega | exact nI_or0 | exact nI_or1 | exact bN_or _) only [in2, x2_0, x2_1, x2_4, x2_5, x2_6, x2_7, x2_10, x2_11, x2_14, x2_15, x2_18, x2_19, x2_22, x2_23, x2_26, x2_27, in2, reduceIte, Nat.reduceLT, nW_ap, nW_up, nI_add, pk_mul, nI_ltI, nI_eq, if_true, if_false, kont_r, kont_v, Nat.reduceAdd, Nat.reduceMul, Nat.not_lt, not_true_eq_false, not_false_eq_true, Nat.one_ne_zero, Nat.reduceEqDiff, Nat.lt_irrefl, reduceCtorEq, nI_or0, nI_or1, s1]
/-- a property of a fountain: flow, filter, through, heated, drained, broken, given, changes, bursts -/
def prN (N : GV) (f w : Nat) : Nat := match w with
  | 0 => N 0 f 5
  | 1 => N 0 f 6
  | 2 => N 0 f 7
  | 3 => N 0 f 3
  | 4 => N 0 f 4
  | 5 => N 2 (2 * f) 2
  | 7 => N 0 f 8
  | 8 => N 0 f 9
  | _ => N 0 f 10
theorem t5 {X : XS} {N : GV} {R : GR} {L : GL} {Z : Nat × Nat × Bool} (hR : Rok R) {f w : Nat} (hf : f < 64) (h3 : N 0 f 3 ≤ 1) (h4 : N 0 f 4 ≤ 1) (h5 : N 2 (2 * f) 2 ≤ 1) (hw : w < 10) (h6 : ¬ w = 6) : exec X 5 [vR 0 f, vI (nI w)] (gg (nW N) R L Z) = some (.inl (some (vI (nI (prN N f w)))), (gg (nW N) R L Z)) := by
  unfold prN
  match w, hw with
  | 0, _ => simp (disch := first | assumption | omega | exact nI_or0 | exact nI_or1 | exact bN_or _) only [in5, x5_0, x5_1_v0, x5_1_v1, x5_1_v2, x5_1_v3, x5_1_v4, x5_1_v5, x5_1_v6, x5_1_v7, x5_1_v8, x5_1_d, x5_52, x5_53, x5_56, x5_57, x5_58, x5_61, x5_62, x5_63, x5_66, x5_67, x5_68, x5_71, x5_74, x5_75, x5_76, x5_79, x5_82, x5_83, x5_84, x5_87, x5_90, x5_93, x5_94, x5_95, x5_98, x5_99, x5_100, x5_103, x5_104, x5_105, x5_108, in5, reduceIte, Nat.reduceLT, nW_ap, nW_up, nI_add, pk_mul, nI_ltI, nI_eq, if_true, if_false, kont_r, kont_v, Nat.reduceAdd, Nat.reduceMul, Nat.not_lt, not_true_eq_false, not_false_eq_true, Nat.one_ne_zero, Nat.reduceEqDiff, Nat.lt_irrefl, reduceCtorEq, nI_or0, nI_or1]
  | 1, _ => simp (disch := first | assumption | omega | exact nI_or0 | exact nI_or1 | exact bN_or _) only [in5, x5_0, x5_1_v0, x5_1_v1, x5_1_v2, x5_1_v3, x5_1_v4, x5_1_v5, x5_1_v6, x5_1_v7, x5_1_v8, x5_1_d, x5_52, x5_53, x5_56, x5_57, x5_58, x5_61, x5_62, x5_63, x5_66, x5_67, x5_68, x5_71, x5_74, x5_75, x5_76, x5_79, x5_82, x5_83, x5_84, x5_87, x5_90, x5_93, x5_94, x5_95, x5_98, x5_99, x5_100, x5_103, x5_104, x5_105, x5_108, in5, reduceIte, Nat.reduceLT, nW_ap, nW_up, nI_add, pk_mul, nI_ltI, nI_eq, if_true, if_false, kont_r, kont_v, Nat.reduceAdd, Nat.reduceMul, Nat.not_lt, not_true_eq_false, not_false_eq_true, Nat.one_ne_zero, Nat.reduceEqDiff, Nat.lt_irrefl, reduceCtorEq, nI_or0, nI_or1]
  | 2, _ => simp (disch := first | assumption | omega | exact nI_or0 | exact nI_or1 | exact bN_or _) only [in5, x5_0, x5_1_v0, x5_1_v1, x5_1_v2, x5_1_v3, x5_1_v4, x5_1_v5, x5_1_v6, x5_1_v7, x5_1_v8, x5_1_d, x5_52, x5_53, x5_56, x5_57, x5_58, x5_61, x5_62, x5_63, x5_66, x5_67, x5_68, x5_71, x5_74, x5_75, x5_76, x5_79, x5_82, x5_83, x5_84, x5_87, x5_90, x5_93, x5_94, x5_95, x5_98, x5_99, x5_100, x5_103, x5_104, x5_105, x5_108, in5, reduceIte, Nat.reduceLT, nW_ap, nW_up, nI_add, pk_mul, nI_ltI, nI_eq, if_true, if_false, kont_r, kont_v, Nat.reduceAdd, Nat.reduceMul, Nat.not_lt, not_true_eq_false, not_false_eq_true, Nat.one_ne_zero, Nat.reduceEqDiff, Nat.lt_irrefl, reduceCtorEq, nI_or0, nI_or1]
  | 3, _ => simp (disch := first | assumption | omega | exact nI_or0 | exact nI_or1 | exact bN_or _) only [in5, x5_0, x5_1_v0, x5_1_v1, x5_1_v2, x5_1_v3, x5_1_v4, x5_1_v5, x5_1_v6, x5_1_v7, x5_1_v8, x5_1_d, x5_52, x5_53, x5_56, x5_57, x5_58, x5_61, x5_62, x5_63, x5_66, x5_67, x5_68, x5_71, x5_74, x5_75, x5_76, x5_79, x5_82, x5_83, x5_84, x5_87, x5_90, x5_93, x5_94, x5_95, x5_98, x5_99, x5_100, x5_103, x5_104, x5_105, x5_108, in5, reduceIte, Nat.reduceLT, nW_ap, nW_up, nI_add, pk_mul, nI_ltI, nI_eq, if_true, if_false, kont_r, kont_v, Nat.reduceAdd, Nat.reduceMul, Nat.not_lt, not_true_eq_false, not_false_eq_true, Nat.one_ne_zero, Nat.reduceEqDiff, Nat.lt_irrefl, reduceCtorEq, nI_or0, nI_or1, t84]
  | 4, _ => simp (disch := first | assumption | omega | exact nI_or0 | exact nI_or1 | exact bN_or _) only [in5, x5_0, x5_1_v0, x5_1_v1, x5_1_v2, x5_1_v3, x5_1_v4, x5_1_v5, x5_1_v6, x5_1_v7, x5_1_v8, x5_1_d, x5_52, x5_53, x5_56, x5_57, x5_58, x5_61, x5_62, x5_63, x5_66, x5_67, x5_68, x5_71, x5_74, x5_75, x5_76, x5_79, x5_82, x5_83, x5_84, x5_87, x5_90, x5_93, x5_94, x5_95, x5_98, x5_99, x5_100, x5_103, x5_104, x5_105, x5_108, in5, reduceIte, Nat.reduceLT, nW_ap, nW_up, nI_add, pk_mul, nI_ltI, nI_eq, if_true, if_false, kont_r, kont_v, Nat.reduceAdd, Nat.reduceMul, Nat.not_lt, not_true_eq_false, not_false_eq_true, Nat.one_ne_zero, Nat.reduceEqDiff, Nat.lt_irrefl, reduceCtorEq, nI_or0, nI_or1, t84]
  | 5, _ => simp (disch := first | assumption | omega | exact nI_or0 | exact nI_or1 | exact bN_or _) only [in5, x5_0, x5_1_v0, x5_1_v1, x5_1_v2, x5_1_v3, x5_1_v4, x5_1_v5, x5_1_v6, x5_1_v7, x5_1_v8, x5_1_d, x5_52, x5_53, x5_56, x5_57, x5_58, x5_61, x5_62, x5_63, x5_66, x5_67, x5_68, x5_71, x5_74, x5_75, x5_76, x5_79, x5_82, x5_83, x5_84, x5_87, x5_90, x5_93, x5_94, x5_95, x5_98, x5_99, x5_100, x5_103, x5_104, x5_105, x5_108, in5, reduceIte, Nat.reduceLT, nW_ap, nW_up, nI_add, pk_mul, nI_ltI, nI_eq, if_true, if_false, kont_r, kont_v, Nat.reduceAdd, Nat.reduceMul, Nat.not_lt, not_true_eq_false, not_false_eq_true, Nat.one_ne_zero, Nat.reduceEqDiff, Nat.lt_irrefl, reduceCtorEq, nI_or0, nI_or1, t84]
  | 6, _ => exact absurd rfl h6
  | 7, _ => simp (disch := first | assumption | omega | exact nI_or0 | exact nI_or1 | exact bN_or _) only [in5, x5_0, x5_1_v0, x5_1_v1, x5_1_v2, x5_1_v3, x5_1_v4, x5_1_v5, x5_1_v6, x5_1_v7, x5_1_v8, x5_1_d, x5_52, x5_53, x5_56, x5_57, x5_58, x5_61, x5_62, x5_63, x5_66, x5_67, x5_68, x5_71, x5_74, x5_75, x5_76, x5_79, x5_82, x5_83, x5_84, x5_87, x5_90, x5_93, x5_94, x5_95, x5_98, x5_99, x5_100, x5_103, x5_104, x5_105, x5_108, in5, reduceIte, Nat.reduceLT, nW_ap, nW_up, nI_add, pk_mul, nI_ltI, nI_eq, if_true, if_false, kont_r, kont_v, Nat.reduceAdd, Nat.reduceMul, Nat.not_lt, not_true_eq_false, not_false_eq_true, Nat.one_ne_zero, Nat.reduceEqDiff, Nat.lt_irrefl, reduceCtorEq, nI_or0, nI_or1]
  | 8, _ => simp (disch := first | assumption | omega | exact nI_or0 | exact nI_or1 | exact bN_or _) only [in5, x5_0, x5_1_v0, x5_1_v1, x5_1_v2, x5_1_v3, x5_1_v4, x5_1_v5, x5_1_v6, x5_1_v7, x5_1_v8, x5_1_d, x5_52, x5_53, x5_56, x5_57, x5_58, x5_61, x5_62, x5_63, x5_66, x5_67, x5_68, x5_71, x5_74, x5_75, x5_76, x5_79, x5_82, x5_83, x5_84, x5_87, x5_90, x5_93, x5_94, x5_95, x5_98, x5_99, x5_100, x5_103, x5_104, x5_105, x5_108, in5, reduceIte, Nat.reduceLT, nW_ap, nW_up, nI_add, pk_mul, nI_ltI, nI_eq, if_true, if_false, kont_r, kont_v, Nat.reduceAdd, Nat.reduceMul, Nat.not_lt, not_true_eq_false, not_false_eq_true, Nat.one_ne_zero, Nat.reduceEqDiff, Nat.lt_irrefl, reduceCtorEq, nI_or0, nI_or1]
  | 9, _ =>
    have hx : (nI 9).toInt < 0 ∨ 8 < (nI 9).toInt := Or.inr (by decide)
    simp (disch := first | assumption | omega | exact nI_or0 | exact nI_or1 | exact bN_or _) only [in5, x5_0, x5_1_v0, x5_1_v1, x5_1_v2, x5_1_v3, x5_1_v4, x5_1_v5, x5_1_v6, x5_1_v7, x5_1_v8, x5_1_d, x5_52, x5_53, x5_56, x5_57, x5_58, x5_61, x5_62, x5_63, x5_66, x5_67, x5_68, x5_71, x5_74, x5_75, x5_76, x5_79, x5_82, x5_83, x5_84, x5_87, x5_90, x5_93, x5_94, x5_95, x5_98, x5_99, x5_100, x5_103, x5_104, x5_105, x5_108, in5, reduceIte, Nat.reduceLT, nW_ap, nW_up, nI_add, pk_mul, nI_ltI, nI_eq, if_true, if_false, kont_r, kont_v, Nat.reduceAdd, Nat.reduceMul, Nat.not_lt, not_true_eq_false, not_false_eq_true, Nat.one_ne_zero, Nat.reduceEqDiff, Nat.lt_irrefl, reduceCtorEq, nI_or0, nI_or1]
/-- a fountain is copied -/
def fcN (N : GV) (f g : Nat) : GV :=
  let M := jcN (jcN N (2 * f) (2 * g)) (2 * f + 1) (2 * g + 1)
  up3 (up3 (up3 (up3 (up3 (up3 (up3 (up3 (up3 M 0 f 2 (N 0 g 2)) 0 f 3 (N 0 g 3)) 0 f 4 (N 0 g 4)) 0 f 5 (N 0 g 5)) 0 f 6 (N 0 g 6)) 0 f 7 (N 0 g 7)) 0 f 8 (N 0 g 8)) 0 f 9 (N 0 g 9)) 0 f 10 (N 0 g 10)
theorem jc_k {N : GV} {a b k i s : Nat} (h : ¬ k = 2) : jcN N a b k i s = N k i s := by
  unfold jcN
  rw [up3_k _ _ h, up3_k _ _ h, up3_k _ _ h]
theorem t6 {X : XS} {N : GV} {R : GR} {L : GL} {Z : Nat × Nat × Bool} (hR : Rok R) {f g : Nat} (hf : f < 64) (hg : g < 64) (hne : ¬ f = g) (h1 : N 2 (2 * g) 2 ≤ 1) (h2 : N 2 (2 * g + 1) 2 ≤ 1) (h3 : N 0 g 2 ≤ 1 ∧ N 0 g 3 ≤ 1 ∧ N 0 g 4 ≤ 1) : exec X 6 [vR 0 f, vR 0 g] (gg (nW N) R L Z) = some (.inl none, (gg (nW (fcN N f g)) R L Z)) := by
  have z1 := bz h3.1
  have z2 := bz h3.2.1
  have z3 := bz h3.2.2
  have s1 := t18 (X := X) (N := N) (L := L) (Z := Z) (a := 2 * f) (b := 2 * g) hR (by omega) (by omega) h1
  have e2 : (jcN N (2 * f) (2 * g)) 2 (2 * g + 1) 2 ≤ 1 := by
    unfold jcN
    rw [up3_i _ _ (by omega), up3_i _ _ (by omega), up3_i _ _ (by omega)]
    exact h2
  have s2 := t18 (X := X) (N := jcN N (2 * f) (2 * g)) (L := L) (Z := Z) (a := 2 * f + 1) (b := 2 * g + 1) hR (by omega) (by omega) e2
  unfold fcN
  have hM : ∀ i s, (jcN (jcN N (2 * f) (2 * g)) (2 * f + 1) (2 * g + 1)) 0 i s = N 0 i s := fun i s => by rw [jc_k (by decide), jc_k (by decide)]
  generalize jcN (jcN N (2 * f) (2 * g)) (2 * f + 1) (2 * g + 1) = M at s2 hM
  have gi : ∀ {N : GV} {s v s' : Nat}, up3 N 0 f s v 0 g s' = N 0 g s' := up3_i _ _ fun e => hne e.symm
  simp (disch := first | assumption | omega | exact nI_or0 | exact nI_or1 | exact bN_or _) only [in6, x6_0, x6_1, x6_4, x6_5, x6_8, x6_11, x6_12, x6_15, x6_16, x6_19, x6_22, x6_23, x6_24, x6_27, x6_30, x6_31, x6_32, x6_35, x6_38, x6_39, x6_40, x6_43, x6_46, x6_47, x6_48, x6_51, x6_54, x6_55, x6_56, x6_59, x6_62, x6_63, x6_64, x6_67, x6_70, x6_71, x6_72, x6_75, x6_78, x6_79, x6_80, x6_83, x6_86, x6_87, x6_88, x6_91, x6_94, in6, reduceIte, Nat.reduceLT, nW_ap, nW_up, nI_add, pk_mul, nI_ltI, nI_eq, if_true, if_false, kont_r, kont_v, Nat.reduceAdd, Nat.reduceMul, Nat.not_lt, not_true_eq_false, not_false_eq_true, Nat.one_ne_zero, Nat.reduceEqDiff, Nat.lt_irrefl, reduceCtorEq, nI_or0, nI_or1, s1, s2, gi, hM]
