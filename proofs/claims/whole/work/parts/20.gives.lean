/-! the reference: it freezes, jobs end, water is given -/
/-- nothing but the row (k, i) differs -/
def Only (k : Nat → Bool) (N N' : GV) : Prop := ∀ k' i s, k k' = false → N' k' i s = N k' i s
theorem Only.rf {k : Nat → Bool} {N : GV} : Only k N N := fun _ _ _ _ => rfl
theorem Only.tr {k : Nat → Bool} {N1 N2 N3 : GV} (h1 : Only k N1 N2) (h2 : Only k N2 N3) : Only k N1 N3 := fun k' i s h => (h2 k' i s h).trans (h1 k' i s h)
theorem Only.up {k : Nat → Bool} {N N' : GV} {a i s v : Nat} (h : k a = true) (h1 : Only k N N') : Only k N (up3 N' a i s v) := fun k' i' s' h' => by
  have : ¬ k' = a := fun q => by rw [q, h] at h'; cases h'
  rw [up3_k _ _ this]
  exact h1 k' i' s' h'
theorem t112 {X : XS} {N : GV} {R : GR} {L : GL} {Z : Nat × Nat × Bool} (hR : Rok R) {j : Nat} (hj : j < 16) : exec X 112 [vR 7 0, vI (nI j)] (gg (nW N) R L Z) = some (.inl none, (gg (nW (if j % 2 = 0 then endN (up3 N 22 0 (13 + 10 * (j / 2) + 5) 0) j else endN (up3 (up3 N 22 0 (13 + 10 * (j / 2) + 2) 0) 22 0 (13 + 10 * (j / 2) + 8) (N 22 0 (13 + 10 * (j / 2) + 8) + 1)) j)) R L Z)) := by
  have h2 : ¬ nI 2 = 0 := by decide
  have h3 : j / 2 < 8 := by omega
  have h4 : ¬ 13 + 10 * (j / 2) + 8 = 13 + 10 * (j / 2) + 2 := by omega
  have e2 : nI j - nI (j / 2 * 2) = nI (j % 2) := by rw [pk_sub (by omega)]; congr 1; omega
  by_cases q : j % 2 = 0
  · simp (disch := first | assumption | omega | exact nI_or0 | exact nI_or1) only [x112_0, x112_1, x112_2, x112_3, x112_4, x112_5, x112_6, x112_7, x112_10, x112_11, x112_12, x112_13, x112_14, x112_17, x112_20, x112_21, x112_22, x112_23, x112_24, x112_27, x112_28, x112_29, x112_31, x112_32, x112_33, x112_35, x112_38, x112_39, x112_40, x112_43, x112_44, x112_45, x112_48, in112, reduceIte, Nat.reduceLT, nW_ap, nW_up, nI_add, pk_mul, nI_ltI, nI_eq, if_true, if_false, kont_r, kont_v, Nat.reduceAdd, Nat.reduceMul, Nat.not_lt, not_true_eq_false, not_false_eq_true, Nat.one_ne_zero, Nat.reduceEqDiff, Nat.lt_irrefl, reduceCtorEq, nI_or0, nI_or1, pk_div, e2, q, t97, t98, t105]
  · simp (disch := first | assumption | omega | exact nI_or0 | exact nI_or1) only [x112_0, x112_1, x112_2, x112_3, x112_4, x112_5, x112_6, x112_7, x112_10, x112_11, x112_12, x112_13, x112_14, x112_17, x112_20, x112_21, x112_22, x112_23, x112_24, x112_27, x112_28, x112_29, x112_31, x112_32, x112_33, x112_35, x112_38, x112_39, x112_40, x112_43, x112_44, x112_45, x112_48, in112, reduceIte, Nat.reduceLT, nW_ap, nW_up, nI_add, pk_mul, nI_ltI, nI_eq, if_true, if_false, kont_r, kont_v, Nat.reduceAdd, Nat.reduceMul, Nat.not_lt, not_true_eq_false, not_false_eq_true, Nat.one_ne_zero, Nat.reduceEqDiff, Nat.lt_irrefl, reduceCtorEq, nI_or0, nI_or1, pk_div, e2, q, t97, t98, t105, up3_s _ _ h4]
/-- it freezes at the place p -/
def frzN (N : GV) (p : Nat) : GV := if N 22 0 (13 + 10 * p + 6) = 1 ∧ N 22 0 (13 + 10 * p + 3) + N 22 0 (13 + 10 * p + 4) + N 22 0 (13 + 10 * p + 5) = 0 then repN (up3 (up3 N 22 0 (13 + 10 * p + 5) 1) 22 0 (13 + 10 * p + 9) (N 22 0 (13 + 10 * p + 9) + 1)) (2 * p) else N
theorem frzN_p {N : GV} {p : Nat} (h1 : N 22 0 (13 + 10 * p + 6) = 1) (h2 : N 22 0 (13 + 10 * p + 3) + N 22 0 (13 + 10 * p + 4) + N 22 0 (13 + 10 * p + 5) = 0) : frzN N p = repN (up3 (up3 N 22 0 (13 + 10 * p + 5) 1) 22 0 (13 + 10 * p + 9) (N 22 0 (13 + 10 * p + 9) + 1)) (2 * p) := if_pos ⟨h1, h2⟩
theorem frzN_1 {N : GV} {p : Nat} (h1 : ¬ N 22 0 (13 + 10 * p + 6) = 1) : frzN N p = N := if_neg fun h => h1 h.1
theorem frzN_2 {N : GV} {p : Nat} (h2 : ¬ N 22 0 (13 + 10 * p + 3) + N 22 0 (13 + 10 * p + 4) + N 22 0 (13 + 10 * p + 5) = 0) : frzN N p = N := if_neg fun h => h2 h.2
def itN (f : GV → Nat → GV) : Nat → GV → GV
  | 0, N => N
  | k + 1, N => f (itN f k N) k
theorem itN_s (f : GV → Nat → GV) (k : Nat) (N : GV) : itN f (k + 1) N = f (itN f k N) k := rfl
theorem Lt31_rep {N : GV} {j : Nat} (hB : Lt31 (N 22 0)) : Lt31 ((repN N j) 22 0) := by
  have h5 := hB 5 (by omega)
  exact Lt31_up (Lt31_up (Lt31_up hB fun _ => by omega) fun _ => h5) fun _ => by omega
theorem Lt31_end {N : GV} {j : Nat} (hB : Lt31 (N 22 0)) : Lt31 ((endN N j) 22 0) := Lt31_up (Lt31_up (Lt31_up hB fun _ => by omega) fun _ => by omega) fun _ => by omega
theorem Lt31_frz {N : GV} {p : Nat} (hp : p < 8) (hB : Lt31 (N 22 0)) : Lt31 ((frzN N p) 22 0) := by
  unfold frzN
  split
  · exact Lt31_rep (Lt31_up (Lt31_up hB fun _ => by omega) fun h => by omega)
  · exact hB
theorem Lt31_frzs {N : GV} (hB : Lt31 (N 22 0)) : ∀ k, k ≤ 8 → Lt31 ((itN frzN k N) 22 0)
  | 0, _ => hB
  | k + 1, h => Lt31_frz (by omega) (Lt31_frzs hB k (by omega))
theorem t111 {X : XS} {N : GV} {R : GR} {L : GL} {Z : Nat × Nat × Bool} (hR : Rok R) (hB : Lt31 (N 22 0)) : exec X 111 [vR 7 0] (gg (nW N) R L Z) = some (.inl none, (gg (nW (itN frzN 8 N)) R L Z)) := by
  have key : ∀ k, k ≤ 8 → ex X 111 2 [vR 7 0, vI (nI k)] [] (gg (nW (itN frzN k N)) R L Z) = some (.inl none, (gg (nW (itN frzN 8 N)) R L Z)) := by
    refine down _ ?_ ?_
    · rw [x111_2]
      simp (disch := first | assumption | omega | exact nI_or0 | exact nI_or1) only [x111_3, x111_5, x111_8, x111_9, x111_10, x111_12, x111_15, x111_16, x111_19, x111_20, x111_21, x111_22, x111_25, x111_26, x111_27, x111_28, x111_31, x111_32, x111_33, x111_34, x111_35, x111_38, x111_39, x111_42, x111_43, x111_44, x111_45, x111_46, x111_49, x111_50, x111_51, x111_53, x111_54, x111_55, x111_57, x111_60, x111_61, x111_62, x111_65, x111_66, x111_67, x111_68, x111_69, x111_72, x111_75, x111_78, reduceIte, Nat.reduceLT, nW_ap, nW_up, nI_add, pk_mul, nI_ltI, nI_eq, if_true, if_false, kont_r, kont_v, Nat.reduceAdd, Nat.reduceMul, Nat.not_lt, not_true_eq_false, not_false_eq_true, Nat.one_ne_zero, Nat.reduceEqDiff, Nat.lt_irrefl, reduceCtorEq, nI_or0, nI_or1]
    · intro k hk ih
      have hC := Lt31_frzs hB k (by omega)
      rw [itN_s frzN k] at ih
      generalize itN frzN k N = M at ih hC ⊢
      have b6 := hC (13 + 10 * k + 6) (by omega)
      have b3 := hC (13 + 10 * k + 3) (by omega)
      have b4 := hC (13 + 10 * k + 4) (by omega)
      have b5 := hC (13 + 10 * k + 5) (by omega)
      have h4 : ¬ 13 + 10 * k + 9 = 13 + 10 * k + 5 := by omega
      rw [x111_2]
      by_cases q1 : M 22 0 (13 + 10 * k + 6) = 1 <;> by_cases q2 : M 22 0 (13 + 10 * k + 3) + M 22 0 (13 + 10 * k + 4) + M 22 0 (13 + 10 * k + 5) = 0
      · rw [frzN_p q1 q2] at ih
        simp (disch := first | assumption | omega | exact nI_or0 | exact nI_or1) only [x111_3, x111_5, x111_8, x111_9, x111_10, x111_12, x111_15, x111_16, x111_19, x111_20, x111_21, x111_22, x111_25, x111_26, x111_27, x111_28, x111_31, x111_32, x111_33, x111_34, x111_35, x111_38, x111_39, x111_42, x111_43, x111_44, x111_45, x111_46, x111_49, x111_50, x111_51, x111_53, x111_54, x111_55, x111_57, x111_60, x111_61, x111_62, x111_65, x111_66, x111_67, x111_68, x111_69, x111_72, x111_75, reduceIte, Nat.reduceLT, nW_ap, nW_up, nI_add, pk_mul, nI_ltI, nI_eq, if_true, if_false, kont_r, kont_v, Nat.reduceAdd, Nat.reduceMul, Nat.not_lt, not_true_eq_false, not_false_eq_true, Nat.one_ne_zero, Nat.reduceEqDiff, Nat.lt_irrefl, reduceCtorEq, nI_or0, nI_or1, hk, t97, t98, t104, q1, q2, up3_s _ _ h4]
        exact ih
      · rw [frzN_2 q2] at ih
        simp (disch := first | assumption | omega | exact nI_or0 | exact nI_or1) only [x111_3, x111_5, x111_8, x111_9, x111_10, x111_12, x111_15, x111_16, x111_19, x111_20, x111_21, x111_22, x111_25, x111_26, x111_27, x111_28, x111_31, x111_32, x111_33, x111_34, x111_35, x111_38, x111_39, x111_42, x111_43, x111_44, x111_45, x111_46, x111_49, x111_50, x111_51, x111_53, x111_54, x111_55, x111_57, x111_60, x111_61, x111_62, x111_65, x111_66, x111_67, x111_68, x111_69, x111_72, x111_75, reduceIte, Nat.reduceLT, nW_ap, nW_up, nI_add, pk_mul, nI_ltI, nI_eq, if_true, if_false, kont_r, kont_v, Nat.reduceAdd, Nat.reduceMul, Nat.not_lt, not_true_eq_false, not_false_eq_true, Nat.one_ne_zero, Nat.reduceEqDiff, Nat.lt_irrefl, reduceCtorEq, nI_or0, nI_or1, hk, t97, t98, t104, q1, q2]
        exact ih
      · rw [frzN_1 q1] at ih
        simp (disch := first | assumption | omega | exact nI_or0 | exact nI_or1) only [x111_3, x111_5, x111_8, x111_9, x111_10, x111_12, x111_15, x111_16, x111_19, x111_20, x111_21, x111_22, x111_25, x111_26, x111_27, x111_28, x111_31, x111_32, x111_33, x111_34, x111_35, x111_38, x111_39, x111_42, x111_43, x111_44, x111_45, x111_46, x111_49, x111_50, x111_51, x111_53, x111_54, x111_55, x111_57, x111_60, x111_61, x111_62, x111_65, x111_66, x111_67, x111_68, x111_69, x111_72, x111_75, reduceIte, Nat.reduceLT, nW_ap, nW_up, nI_add, pk_mul, nI_ltI, nI_eq, if_true, if_false, kont_r, kont_v, Nat.reduceAdd, Nat.reduceMul, Nat.not_lt, not_true_eq_false, not_false_eq_true, Nat.one_ne_zero, Nat.reduceEqDiff, Nat.lt_irrefl, reduceCtorEq, nI_or0, nI_or1, hk, t97, t98, t104, q1]
        exact ih
      · rw [frzN_1 q1] at ih
        simp (disch := first | assumption | omega | exact nI_or0 | exact nI_or1) only [x111_3, x111_5, x111_8, x111_9, x111_10, x111_12, x111_15, x111_16, x111_19, x111_20, x111_21, x111_22, x111_25, x111_26, x111_27, x111_28, x111_31, x111_32, x111_33, x111_34, x111_35, x111_38, x111_39, x111_42, x111_43, x111_44, x111_45, x111_46, x111_49, x111_50, x111_51, x111_53, x111_54, x111_55, x111_57, x111_60, x111_61, x111_62, x111_65, x111_66, x111_67, x111_68, x111_69, x111_72, x111_75, reduceIte, Nat.reduceLT, nW_ap, nW_up, nI_add, pk_mul, nI_ltI, nI_eq, if_true, if_false, kont_r, kont_v, Nat.reduceAdd, Nat.reduceMul, Nat.not_lt, not_true_eq_false, not_false_eq_true, Nat.one_ne_zero, Nat.reduceEqDiff, Nat.lt_irrefl, reduceCtorEq, nI_or0, nI_or1, hk, t97, t98, t104, q1]
        exact ih
  have h := key 0 (Nat.zero_le _)
  simp (disch := first | assumption | omega | exact nI_or0 | exact nI_or1) only [in111, x111_0, x111_1]
  exact h
/-- a fountain gives i -/
def givN (N : GV) (p i : Nat) : GV :=
  let M := up3 (up3 (up3 (up3 N 26 0 p (N 26 0 p - i)) 22 0 (13 + 10 * p + 2) (N 22 0 (13 + 10 * p + 2) + i)) 22 0 (13 + 10 * p + 7) (N 22 0 (13 + 10 * p + 7) + i)) 22 0 12 (N 22 0 12 + i)
  if i = 4 * N 22 0 (13 + 10 * p + 1) - N 22 0 (13 + 10 * p + 2) then repN M (2 * p + 1) else M
def givA (N : GV) (p w : Nat) : Nat := min (min w (N 26 0 p)) (4 * N 22 0 (13 + 10 * p + 1) - N 22 0 (13 + 10 * p + 2))
theorem t114 {X : XS} {N : GV} {R : GR} {L : GL} {Z : Nat × Nat × Bool} (hR : Rok R) (hB : Lt31 (N 22 0)) {p w : Nat} (hp : p < 8) (hw : w < 2 ^ 28) (hf : N 26 0 p < 2 ^ 28) (hl : N 22 0 (13 + 10 * p + 2) ≤ 4 * N 22 0 (13 + 10 * p + 1)) : exec X 114 [vR 7 0, vI (nI p), vI (nI w)] (gg (nW N) R L Z) = some (.inl (some (vI (nI (givA N p w)))), (gg (nW (givN N p (givA N p w))) R L Z)) := by
  have b1 := hB (13 + 10 * p + 1) (by omega)
  have b2 := hB (13 + 10 * p + 2) (by omega)
  have h1 : ¬ 13 + 10 * p + 7 = 13 + 10 * p + 2 := by omega
  have h2 : ¬ 12 = 13 + 10 * p + 7 := by omega
  have h3 : ¬ 12 = 13 + 10 * p + 2 := by omega
  have h4 : ¬ 22 = 26 := by omega
  generalize hi : givA N p w = i
  unfold givA at hi
  have hi1 : i ≤ N 26 0 p := by omega
  have hi2 : i < 2 ^ 28 := by omega
  unfold givN
  by_cases q1 : w < N 26 0 p
  · by_cases q2 : w < 4 * N 22 0 (13 + 10 * p + 1) - N 22 0 (13 + 10 * p + 2)
    · have e : i = w := by omega
      subst e
      have q3 : ¬ i = 4 * N 22 0 (13 + 10 * p + 1) - N 22 0 (13 + 10 * p + 2) := by omega
      simp (disch := first | assumption | omega | exact nI_or0 | exact nI_or1) only [x114_0, x114_1, x114_2, x114_3, x114_4, x114_7, x114_8, x114_9, x114_10, x114_11, x114_14, x114_15, x114_16, x114_17, x114_18, x114_21, x114_22, x114_23, x114_26, x114_27, x114_30, x114_31, x114_34, x114_35, x114_36, x114_38, x114_40, x114_41, x114_44, x114_46, x114_49, x114_50, x114_52, x114_53, x114_56, x114_57, x114_58, x114_59, x114_61, x114_62, x114_63, x114_64, x114_65, x114_66, x114_67, x114_68, x114_69, x114_72, x114_74, x114_75, x114_78, x114_79, x114_80, x114_82, x114_83, x114_84, x114_86, x114_89, x114_91, x114_92, x114_95, x114_96, x114_99, x114_101, x114_102, x114_103, x114_105, x114_106, x114_107, x114_109, x114_110, x114_113, x114_114, x114_115, x114_116, x114_117, x114_118, x114_119, x114_122, x114_124, in114, reduceIte, Nat.reduceLT, nW_ap, nW_up, nI_add, pk_mul, nI_ltI, nI_eq, if_true, if_false, kont_r, kont_v, Nat.reduceAdd, Nat.reduceMul, Nat.not_lt, not_true_eq_false, not_false_eq_true, Nat.one_ne_zero, Nat.reduceEqDiff, Nat.lt_irrefl, reduceCtorEq, nI_or0, nI_or1, t97, t98, t104, pk_sub, q1, q2, q3, up3_s _ _ h1, up3_s _ _ h2, up3_s _ _ h3, up3_k _ _ h4]
    · have e : 4 * N 22 0 (13 + 10 * p + 1) - N 22 0 (13 + 10 * p + 2) = i := by omega
      rw [e] at q2
      simp (disch := first | assumption | omega | exact nI_or0 | exact nI_or1) only [x114_0, x114_1, x114_2, x114_3, x114_4, x114_7, x114_8, x114_9, x114_10, x114_11, x114_14, x114_15, x114_16, x114_17, x114_18, x114_21, x114_22, x114_23, x114_26, x114_27, x114_30, x114_31, x114_34, x114_35, x114_36, x114_38, x114_40, x114_41, x114_44, x114_46, x114_49, x114_50, x114_52, x114_53, x114_56, x114_57, x114_58, x114_59, x114_61, x114_62, x114_63, x114_64, x114_65, x114_66, x114_67, x114_68, x114_69, x114_72, x114_74, x114_75, x114_78, x114_79, x114_80, x114_82, x114_83, x114_84, x114_86, x114_89, x114_91, x114_92, x114_95, x114_96, x114_99, x114_101, x114_102, x114_103, x114_105, x114_106, x114_107, x114_109, x114_110, x114_113, x114_114, x114_115, x114_116, x114_117, x114_118, x114_119, x114_122, x114_124, in114, reduceIte, Nat.reduceLT, nW_ap, nW_up, nI_add, pk_mul, nI_ltI, nI_eq, if_true, if_false, kont_r, kont_v, Nat.reduceAdd, Nat.reduceMul, Nat.not_lt, not_true_eq_false, not_false_eq_true, Nat.one_ne_zero, Nat.reduceEqDiff, Nat.lt_irrefl, reduceCtorEq, nI_or0, nI_or1, t97, t98, t104, pk_sub, q1, q2, e, up3_s _ _ h1, up3_s _ _ h2, up3_s _ _ h3, up3_k _ _ h4]
  · by_cases q2 : N 26 0 p < 4 * N 22 0 (13 + 10 * p + 1) - N 22 0 (13 + 10 * p + 2)
    · have e : N 26 0 p = i := by omega
      have q3 : ¬ i = 4 * N 22 0 (13 + 10 * p + 1) - N 22 0 (13 + 10 * p + 2) := by omega
      have q4 : i < 4 * N 22 0 (13 + 10 * p + 1) - N 22 0 (13 + 10 * p + 2) := by omega
      rw [e] at q1
      simp (disch := first | assumption | omega | exact nI_or0 | exact nI_or1) only [x114_0, x114_1, x114_2, x114_3, x114_4, x114_7, x114_8, x114_9, x114_10, x114_11, x114_14, x114_15, x114_16, x114_17, x114_18, x114_21, x114_22, x114_23, x114_26, x114_27, x114_30, x114_31, x114_34, x114_35, x114_36, x114_38, x114_40, x114_41, x114_44, x114_46, x114_49, x114_50, x114_52, x114_53, x114_56, x114_57, x114_58, x114_59, x114_61, x114_62, x114_63, x114_64, x114_65, x114_66, x114_67, x114_68, x114_69, x114_72, x114_74, x114_75, x114_78, x114_79, x114_80, x114_82, x114_83, x114_84, x114_86, x114_89, x114_91, x114_92, x114_95, x114_96, x114_99, x114_101, x114_102, x114_103, x114_105, x114_106, x114_107, x114_109, x114_110, x114_113, x114_114, x114_115, x114_116, x114_117, x114_118, x114_119, x114_122, x114_124, in114, reduceIte, Nat.reduceLT, nW_ap, nW_up, nI_add, pk_mul, nI_ltI, nI_eq, if_true, if_false, kont_r, kont_v, Nat.reduceAdd, Nat.reduceMul, Nat.not_lt, not_true_eq_false, not_false_eq_true, Nat.one_ne_zero, Nat.reduceEqDiff, Nat.lt_irrefl, reduceCtorEq, nI_or0, nI_or1, t97, t98, t104, pk_sub, q1, q4, q3, e, up3_s _ _ h1, up3_s _ _ h2, up3_s _ _ h3, up3_k _ _ h4]
    · have e : 4 * N 22 0 (13 + 10 * p + 1) - N 22 0 (13 + 10 * p + 2) = i := by omega
      rw [e] at q2
      simp (disch := first | assumption | omega | exact nI_or0 | exact nI_or1) only [x114_0, x114_1, x114_2, x114_3, x114_4, x114_7, x114_8, x114_9, x114_10, x114_11, x114_14, x114_15, x114_16, x114_17, x114_18, x114_21, x114_22, x114_23, x114_26, x114_27, x114_30, x114_31, x114_34, x114_35, x114_36, x114_38, x114_40, x114_41, x114_44, x114_46, x114_49, x114_50, x114_52, x114_53, x114_56, x114_57, x114_58, x114_59, x114_61, x114_62, x114_63, x114_64, x114_65, x114_66, x114_67, x114_68, x114_69, x114_72, x114_74, x114_75, x114_78, x114_79, x114_80, x114_82, x114_83, x114_84, x114_86, x114_89, x114_91, x114_92, x114_95, x114_96, x114_99, x114_101, x114_102, x114_103, x114_105, x114_106, x114_107, x114_109, x114_110, x114_113, x114_114, x114_115, x114_116, x114_117, x114_118, x114_119, x114_122, x114_124, in114, reduceIte, Nat.reduceLT, nW_ap, nW_up, nI_add, pk_mul, nI_ltI, nI_eq, if_true, if_false, kont_r, kont_v, Nat.reduceAdd, Nat.reduceMul, Nat.not_lt, not_true_eq_false, not_false_eq_true, Nat.one_ne_zero, Nat.reduceEqDiff, Nat.lt_irrefl, reduceCtorEq, nI_or0, nI_or1, t97, t98, t104, pk_sub, q1, q2, e, up3_s _ _ h1, up3_s _ _ h2, up3_s _ _ h3, up3_k _ _ h4]
