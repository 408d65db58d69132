/-! the class gives water -/
theorem mI_n {a b : Nat} (ha : a < 2 ^ 31) (hb : b < 2 ^ 31) : mI (nI a) (nI b) = nI (min a b) := by
  unfold mI
  by_cases h : a ≤ b
  · rw [Nat.min_eq_left h]
    first
    | (rw [if_pos ((nI_leI ha hb).2 h)])
    | (rw [if_neg (by rw [nI_ltI hb ha]; omega)])
    | (by_cases e : a = b
       · subst e; simp
       · rw [if_pos ((nI_ltI ha hb).2 (by omega))])
  · rw [Nat.min_eq_right (by omega)]
    first
    | (rw [if_neg (by rw [nI_leI ha hb]; omega)])
    | (rw [if_pos ((nI_ltI hb ha).2 (by omega))])
    | (rw [if_neg (by rw [nI_ltI ha hb]; omega)])
theorem t44_o {X : XS} {N : GV} {R : GR} {L : GL} {Z : Nat × Nat × Bool} (hR : Rok R) {P : Nat} {x w c : Int32} (hx : x < nI 0 ∨ ¬ x < nI 8) : exec X 44 [vR 5 P, vI x, vI w, vI c] (gg (nW N) R L Z) = some (.inl (some (vI (nI 0))), (gg (nW N) R L Z)) := by
  by_cases q : x < nI 0
  · simp (disch := first | assumption | omega | exact nI_or0 | exact nI_or1 | exact bN_or _) only [in44, x44_0, x44_1, x44_4, x44_5, x44_7, x44_10, x44_11, x44_14, x44_15, x44_16, x44_17, x44_20, x44_23, x44_24, reduceIte, Nat.reduceLT, nW_ap, nW_up, nI_add, pk_mul, nI_ltI, nI_eq, if_true, if_false, kont_r, kont_v, Nat.reduceAdd, Nat.reduceMul, Nat.not_lt, not_true_eq_false, not_false_eq_true, Nat.one_ne_zero, Nat.reduceEqDiff, Nat.lt_irrefl, reduceCtorEq, nI_or0, nI_or1, q]
  · have q2 : ¬ x < nI 8 := by
      rcases hx with h | h
      · exact absurd h q
      · exact h
    simp (disch := first | assumption | omega | exact nI_or0 | exact nI_or1 | exact bN_or _) only [in44, x44_0, x44_1, x44_4, x44_5, x44_7, x44_10, x44_11, x44_14, x44_15, x44_16, x44_17, x44_20, x44_23, x44_24, reduceIte, Nat.reduceLT, nW_ap, nW_up, nI_add, pk_mul, nI_ltI, nI_eq, if_true, if_false, kont_r, kont_v, Nat.reduceAdd, Nat.reduceMul, Nat.not_lt, not_true_eq_false, not_false_eq_true, Nat.one_ne_zero, Nat.reduceEqDiff, Nat.lt_irrefl, reduceCtorEq, nI_or0, nI_or1, q, q2]
theorem t44_c {X : XS} {N : GV} {R : GR} {L : GL} {Z : Nat × Nat × Bool} (hR : Rok R) {P p : Nat} {w : Int32} {c : Bool} (hP : P < 8) (hp : p < 8) (hS : SB N) (hc : ¬ cbN N c (8 * P + p) = 0) : exec X 44 [vR 5 P, vI (nI p), vI w, vI (nI (bN c))] (gg (nW N) R L Z) = some (.inl (some (vI (nI 0))), (gg (nW N) R L Z)) := by
  have s1 := t4 (X := X) (N := N) (L := L) (Z := Z) (f := 8 * P + p) (c := c) hR (by omega) (hS.fb (by omega))
  have hl := cb_lt (N := N) (c := c) (f := 8 * P + p)
  have n0 := lt0_nI (n := p) (by omega)
  simp (disch := first | assumption | omega | exact nI_or0 | exact nI_or1 | exact bN_or _) only [in44, x44_0, x44_1, x44_4, x44_5, x44_7, x44_10, x44_11, x44_14, x44_15, x44_16, x44_17, x44_20, x44_23, x44_24, reduceIte, Nat.reduceLT, nW_ap, nW_up, nI_add, pk_mul, nI_ltI, nI_eq, if_true, if_false, kont_r, kont_v, Nat.reduceAdd, Nat.reduceMul, Nat.not_lt, not_true_eq_false, not_false_eq_true, Nat.one_ne_zero, Nat.reduceEqDiff, Nat.lt_irrefl, reduceCtorEq, nI_or0, nI_or1, n0, hp, s1, hc]
theorem t44_g {X : XS} {N : GV} {R : GR} {L : GL} {Z : Nat × Nat × Bool} (hR : Rok R) {P p w i : Nat} {c : Bool} (hP : P < 8) (hp : p < 8) (hS : SB N) (hc : cbN N c (8 * P + p) = 0) (hw : w < 2 ^ 28) (hf : N 0 (8 * P + p) 6 ≤ 900) (hl : N 0 (8 * P + p) 7 ≤ 4 * N 0 (8 * P + p) 6) (h11 : N 0 (8 * P + p) 11 < 2 ^ 28) (hi : i = min w (min (N 0 (8 * P + p) 11) (4 * N 0 (8 * P + p) 6 - N 0 (8 * P + p) 7))) : exec X 44 [vR 5 P, vI (nI p), vI (nI w), vI (nI (bN c))] (gg (nW N) R L Z) = some (.inl (some (vI (nI i))), (gg (nW (gvC N P p i)) R L Z)) := by
  have s1 := t4 (X := X) (N := N) (L := L) (Z := Z) (f := 8 * P + p) (c := c) hR (by omega) (hS.fb (by omega))
  rw [hc] at s1
  have n0 := lt0_nI (n := p) (by omega)
  have hi1 : i ≤ N 0 (8 * P + p) 11 := by omega
  have hi2 : i < 2 ^ 28 := by omega
  have g1 : ¬ 7 = 11 := by decide
  have g2 : ¬ 8 = 7 := by decide
  have g3 : ¬ 8 = 11 := by decide
  have g4 : ¬ 5 = 0 := by decide
  have g5 : ¬ 0 = 11 := by decide
  have i1 : 2 * (8 * P + p) + 1 = 16 * P + (2 * p + 1) := by omega
  have m1 := mI_n (a := N 0 (8 * P + p) 11) (b := 4 * N 0 (8 * P + p) 6 - N 0 (8 * P + p) 7) (by omega) (by omega)
  have m2 := mI_n (a := w) (b := min (N 0 (8 * P + p) 11) (4 * N 0 (8 * P + p) 6 - N 0 (8 * P + p) 7)) (by omega) (by omega)
  rw [← hi] at m2
  unfold gvC
  by_cases q : i = 4 * N 0 (8 * P + p) 6 - N 0 (8 * P + p) 7
  · simp (disch := first | assumption | omega | exact nI_or0 | exact nI_or1 | exact bN_or _) only [in44, x44_0, x44_1, x44_4, x44_5, x44_7, x44_10, x44_11, x44_14, x44_15, x44_16, x44_17, x44_20, x44_23, x44_24, x44_25, x44_26, x44_29, x44_30, x44_31, x44_33, x44_34, x44_36, x44_39, x44_40, x44_42, x44_45, x44_46, x44_48, x44_49, x44_51, x44_54, x44_56, x44_59, x44_62, x44_64, x44_66, x44_67, x44_70, x44_72, x44_73, x44_76, x44_78, x44_79, x44_82, x44_84, x44_85, x44_88, x44_90, x44_91, x44_94, x44_96, x44_97, x44_100, x44_101, x44_102, x44_105, x44_107, x44_108, x44_111, x44_113, x44_115, x44_118, x44_120, x44_123, x44_124, x44_127, x44_130, x44_132, in44, reduceIte, Nat.reduceLT, nW_ap, nW_up, nI_add, pk_mul, nI_ltI, nI_eq, if_true, if_false, kont_r, kont_v, Nat.reduceAdd, Nat.reduceMul, Nat.not_lt, not_true_eq_false, not_false_eq_true, Nat.one_ne_zero, Nat.reduceEqDiff, Nat.lt_irrefl, reduceCtorEq, nI_or0, nI_or1, n0, hp, s1, pk_sub, m1, m2, q, i1, t14, up3_s _ _ g1, up3_s _ _ g2, up3_s _ _ g3, up3_s _ _ g5, up3_k _ _ g4]
  · simp (disch := first | assumption | omega | exact nI_or0 | exact nI_or1 | exact bN_or _) only [in44, x44_0, x44_1, x44_4, x44_5, x44_7, x44_10, x44_11, x44_14, x44_15, x44_16, x44_17, x44_20, x44_23, x44_24, x44_25, x44_26, x44_29, x44_30, x44_31, x44_33, x44_34, x44_36, x44_39, x44_40, x44_42, x44_45, x44_46, x44_48, x44_49, x44_51, x44_54, x44_56, x44_59, x44_62, x44_64, x44_66, x44_67, x44_70, x44_72, x44_73, x44_76, x44_78, x44_79, x44_82, x44_84, x44_85, x44_88, x44_90, x44_91, x44_94, x44_96, x44_97, x44_100, x44_101, x44_102, x44_105, x44_107, x44_108, x44_111, x44_113, x44_115, x44_118, x44_120, x44_123, x44_124, x44_127, x44_130, x44_132, in44, reduceIte, Nat.reduceLT, nW_ap, nW_up, nI_add, pk_mul, nI_ltI, nI_eq, if_true, if_false, kont_r, kont_v, Nat.reduceAdd, Nat.reduceMul, Nat.not_lt, not_true_eq_false, not_false_eq_true, Nat.one_ne_zero, Nat.reduceEqDiff, Nat.lt_irrefl, reduceCtorEq, nI_or0, nI_or1, n0, hp, s1, pk_sub, m1, m2, q, i1, t14, up3_s _ _ g1, up3_s _ _ g2, up3_s _ _ g3, up3_s _ _ g5, up3_k _ _ g4]
