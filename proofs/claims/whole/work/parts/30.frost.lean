/-! the reference's frosts -/
def meetB (S : Nat → Nat) (a b : Nat) : Bool := anyN (S 6) fun k => decide (a ≤ S (141 + 2 * k + 1)) && decide (S (141 + 2 * k) ≤ b)
def atF (S : Nat → Nat) (a : Nat) : Nat := sumN (S 6) fun k => bN (decide (S (141 + 2 * k) < a))
/-- one less, also of 0 -/
def pdI : Nat → Int32
  | 0 => -1
  | n + 1 => nI n
theorem pdI_sub {n : Nat} : nI n - nI 1 = pdI n := by
  cases n with
  | zero => decide
  | succ n => rw [pk_sub (by omega)]; rfl
theorem pdI_m1 {n : Nat} : nI n + (-1) = pdI n := by
  cases n with
  | zero => decide
  | succ n => exact pk_m1 n
theorem pdI_lt {n m : Nat} (hn : n < 2 ^ 28) (hm : m < 2 ^ 28) : pdI n < nI m ↔ n ≤ m := by
  cases n with
  | zero =>
    refine ⟨fun _ => Nat.zero_le _, fun _ => ?_⟩
    show (-1 : Int32) < nI m
    rw [Int32.lt_iff_toInt_lt]
    have := pk_sub_toInt (a := m) (b := 0) (by omega) (by omega)
    rw [pk_sub (by omega), Nat.sub_zero] at this
    rw [this]
    show (-1 : Int) < _
    omega
  | succ n =>
    show nI n < nI m ↔ _
    rw [nI_ltI (by omega) (by omega)]
    omega
theorem sumN_b {f : Nat → Bool} : ∀ {n : Nat}, sumN n (fun k => bN (f k)) ≤ n
  | 0 => Nat.le_refl _
  | n + 1 => by have := sumN_b (f := f) (n := n); have := bN_le (f n); simp only [sumN]; omega
theorem atF_le {S : Nat → Nat} {a : Nat} : atF S a ≤ S 6 := sumN_b
def frsN (N : GV) (at' a b : Nat) : GV :=
  let M := rowAt N 22 0 (141 + 2 * at' + 2) (2 * (N 22 0 6 - at')) fun j => N 22 0 (141 + 2 * at' + j)
  up3 (up3 (up3 M 22 0 (141 + 2 * at') a) 22 0 (141 + 2 * at' + 1) b) 22 0 6 (N 22 0 6 + 1)
theorem t128_1 {X : XS} {N : GV} {R : GR} {L : GL} {Z : Nat × Nat × Bool} (hR : Rok R) {K : Nat} (h : DI K N) {a b : Int32} (h1 : inb (N 22 0 5) 999 a = false) : exec X 128 [vR 7 0, vI a, vI b] (gg (nW N) R L Z) = some (.inl (some (vI (nI 0))), (gg (nW (er N 1)) R L Z)) := by
  have e : (er N 0) 22 0 5 = N 22 0 5 := by rw [er_22]
  simp (disch := first | assumption | omega | exact nI_or0 | exact nI_or1 | exact bN_or _) only [in128, x128_0, x128_1, x128_2, x128_5, x128_6, x128_7, x128_10, x128_11, x128_12, x128_15, x128_18, x128_21, x128_22, x128_23, x128_26, x128_29, x128_32, x128_33, x128_34, x128_37, reduceIte, Nat.reduceLT, nW_ap, nW_up, nI_add, pk_mul, nI_ltI, nI_eq, if_true, if_false, kont_r, kont_v, Nat.reduceAdd, Nat.reduceMul, Nat.not_lt, not_true_eq_false, not_false_eq_true, Nat.one_ne_zero, Nat.reduceEqDiff, Nat.lt_irrefl, reduceCtorEq, nI_or0, nI_or1, up3_er, e, t91i, t92e, h1, bN, Bool.false_eq_true, er_er']
theorem t128_2 {X : XS} {N : GV} {R : GR} {L : GL} {Z : Nat × Nat × Bool} (hR : Rok R) {K : Nat} (h : DI K N) {a : Nat} {b : Int32} (h1 : N 22 0 5 ≤ a ∧ a ≤ 999) (h2 : inb a 999 b = false) : exec X 128 [vR 7 0, vI (nI a), vI b] (gg (nW N) R L Z) = some (.inl (some (vI (nI 0))), (gg (nW (er N 1)) R L Z)) := by
  have e : (er N 0) 22 0 5 = N 22 0 5 := by rw [er_22]
  have i1 : inb (N 22 0 5) 999 (nI a) = true := by rw [inb_t (by omega) (by omega) (by omega)]; exact decide_eq_true (by omega)
  simp (disch := first | assumption | omega | exact nI_or0 | exact nI_or1 | exact bN_or _) only [in128, x128_0, x128_1, x128_2, x128_5, x128_6, x128_7, x128_10, x128_11, x128_12, x128_15, x128_18, x128_21, x128_22, x128_23, x128_26, x128_29, x128_32, x128_33, x128_34, x128_37, reduceIte, Nat.reduceLT, nW_ap, nW_up, nI_add, pk_mul, nI_ltI, nI_eq, if_true, if_false, kont_r, kont_v, Nat.reduceAdd, Nat.reduceMul, Nat.not_lt, not_true_eq_false, not_false_eq_true, Nat.one_ne_zero, Nat.reduceEqDiff, Nat.lt_irrefl, reduceCtorEq, nI_or0, nI_or1, up3_er, e, t91i, t92e, i1, h2, bN, Bool.false_eq_true, er_er']
theorem l128 {X : XS} {N : GV} {R : GR} {L : GL} {Z : Nat × Nat × Bool} (hR : Rok R) {K : Nat} (h : DI K N) {a b : Nat} (h1 : N 22 0 5 ≤ a ∧ a ≤ 999) (h2 : a ≤ b ∧ b ≤ 999) {r : Option RS} (hr : ex X 128 153 [vR 7 0, vI (nI a), vI (nI b), vI (nI (bN (decide (N 22 0 6 = 6) || meetB (N 22 0) a b))), vI (nI (atF (N 22 0) a)), vI (nI (N 22 0 6))] [] (gg (nW (er N 0)) R L Z) = r) : exec X 128 [vR 7 0, vI (nI a), vI (nI b)] (gg (nW N) R L Z) = r := by
  have e : ∀ s, (er N 0) 22 0 s = N 22 0 s := fun s => by rw [er_22]
  have i1 : inb (N 22 0 5) 999 (nI a) = true := by rw [inb_t (by omega) (by omega) (by omega)]; exact decide_eq_true (by omega)
  have i2 : inb a 999 (nI b) = true := by rw [inb_t (by omega) (by omega) (by omega)]; exact decide_eq_true (by omega)
  have h6 := h.h6
  have key : ∀ k, k ≤ N 22 0 6 → ex X 128 62 [vR 7 0, vI (nI a), vI (nI b), vI (nI (bN (decide (N 22 0 6 = 6) || anyN k fun k => decide (a ≤ N 22 0 (141 + 2 * k + 1)) && decide (N 22 0 (141 + 2 * k) ≤ b)))), vI (nI (sumN k fun k => bN (decide (N 22 0 (141 + 2 * k) < a)))), vI (nI k)] [] (gg (nW (er N 0)) R L Z) = r := by
    refine down _ ?_ ?_
    · rw [x128_62]
      simp (disch := first | assumption | omega | exact nI_or0 | exact nI_or1 | exact bN_or _) only [x128_64, x128_65, x128_68, x128_70, x128_71, reduceIte, Nat.reduceLT, nW_ap, nW_up, nI_add, pk_mul, nI_ltI, nI_eq, if_true, if_false, kont_r, kont_v, Nat.reduceAdd, Nat.reduceMul, Nat.not_lt, not_true_eq_false, not_false_eq_true, Nat.one_ne_zero, Nat.reduceEqDiff, Nat.lt_irrefl, reduceCtorEq, nI_or0, nI_or1, e]
      exact hr
    · intro k hk ih
      have b1 := h.fr (k := 2 * k) (by omega)
      have b2 := h.fr (k := 2 * k + 1) (by omega)
      have b2' : N 22 0 (141 + 2 * k + 1) ≤ 999 := b2
      simp only [sumN, anyN] at ih
      rw [x128_62]
      generalize hA : (anyN k fun k => decide (a ≤ N 22 0 (141 + 2 * k + 1)) && decide (N 22 0 (141 + 2 * k) ≤ b)) = A at ih ⊢
      generalize (sumN k fun k => bN (decide (N 22 0 (141 + 2 * k) < a))) = s at ih ⊢
      generalize decide (N 22 0 6 = 6) = f at ih ⊢
      by_cases q3 : N 22 0 (141 + 2 * k) < a
      · cases q : f || A with
        | true =>
          have e1 : (f || (A || (decide (a ≤ N 22 0 (141 + 2 * k + 1)) && decide (N 22 0 (141 + 2 * k) ≤ b)))) = true := by rw [← Bool.or_assoc, q, Bool.true_or]
          rw [e1, decide_eq_true q3] at ih
          simp (disch := first | assumption | omega | exact nI_or0 | exact nI_or1 | exact bN_or _) only [x128_64, x128_65, x128_68, x128_70, x128_71, x128_74, x128_75, x128_78, x128_79, x128_80, x128_83, x128_86, x128_87, x128_89, x128_90, x128_91, x128_92, x128_93, x128_94, x128_97, x128_98, x128_99, x128_102, x128_105, x128_106, x128_108, x128_109, x128_110, x128_111, x128_114, x128_115, x128_118, x128_119, x128_120, x128_122, x128_123, x128_126, x128_129, x128_130, x128_132, x128_133, x128_134, x128_135, x128_136, x128_139, x128_140, x128_143, x128_144, x128_145, x128_147, x128_150, reduceIte, Nat.reduceLT, nW_ap, nW_up, nI_add, pk_mul, nI_ltI, nI_eq, if_true, if_false, kont_r, kont_v, Nat.reduceAdd, Nat.reduceMul, Nat.not_lt, not_true_eq_false, not_false_eq_true, Nat.one_ne_zero, Nat.reduceEqDiff, Nat.lt_irrefl, reduceCtorEq, nI_or0, nI_or1, e, hk, q3, bN]
          exact ih
        | false =>
          rw [← Bool.or_assoc, q, Bool.false_or, decide_eq_true q3] at ih
          by_cases q1 : N 22 0 (141 + 2 * k + 1) < a
          · rw [decide_eq_false (show ¬ a ≤ _ by omega), Bool.false_and] at ih
            simp (disch := first | assumption | omega | exact nI_or0 | exact nI_or1 | exact bN_or _) only [x128_64, x128_65, x128_68, x128_70, x128_71, x128_74, x128_75, x128_78, x128_79, x128_80, x128_83, x128_86, x128_87, x128_89, x128_90, x128_91, x128_92, x128_93, x128_94, x128_97, x128_98, x128_99, x128_102, x128_105, x128_106, x128_108, x128_109, x128_110, x128_111, x128_114, x128_115, x128_118, x128_119, x128_120, x128_122, x128_123, x128_126, x128_129, x128_130, x128_132, x128_133, x128_134, x128_135, x128_136, x128_139, x128_140, x128_143, x128_144, x128_145, x128_147, x128_150, reduceIte, Nat.reduceLT, nW_ap, nW_up, nI_add, pk_mul, nI_ltI, nI_eq, if_true, if_false, kont_r, kont_v, Nat.reduceAdd, Nat.reduceMul, Nat.not_lt, not_true_eq_false, not_false_eq_true, Nat.one_ne_zero, Nat.reduceEqDiff, Nat.lt_irrefl, reduceCtorEq, nI_or0, nI_or1, e, hk, q3, q1, bN, Bool.false_eq_true]
            exact ih
          · rw [decide_eq_true (show a ≤ _ by omega), Bool.true_and] at ih
            by_cases q2 : b < N 22 0 (141 + 2 * k)
            · rw [decide_eq_false (show ¬ _ ≤ b by omega)] at ih
              simp (disch := first | assumption | omega | exact nI_or0 | exact nI_or1 | exact bN_or _) only [x128_64, x128_65, x128_68, x128_70, x128_71, x128_74, x128_75, x128_78, x128_79, x128_80, x128_83, x128_86, x128_87, x128_89, x128_90, x128_91, x128_92, x128_93, x128_94, x128_97, x128_98, x128_99, x128_102, x128_105, x128_106, x128_108, x128_109, x128_110, x128_111, x128_114, x128_115, x128_118, x128_119, x128_120, x128_122, x128_123, x128_126, x128_129, x128_130, x128_132, x128_133, x128_134, x128_135, x128_136, x128_139, x128_140, x128_143, x128_144, x128_145, x128_147, x128_150, reduceIte, Nat.reduceLT, nW_ap, nW_up, nI_add, pk_mul, nI_ltI, nI_eq, if_true, if_false, kont_r, kont_v, Nat.reduceAdd, Nat.reduceMul, Nat.not_lt, not_true_eq_false, not_false_eq_true, Nat.one_ne_zero, Nat.reduceEqDiff, Nat.lt_irrefl, reduceCtorEq, nI_or0, nI_or1, e, hk, q3, q1, q2, bN, Bool.false_eq_true]
              exact ih
            · rw [decide_eq_true (show _ ≤ b by omega)] at ih
              simp (disch := first | assumption | omega | exact nI_or0 | exact nI_or1 | exact bN_or _) only [x128_64, x128_65, x128_68, x128_70, x128_71, x128_74, x128_75, x128_78, x128_79, x128_80, x128_83, x128_86, x128_87, x128_89, x128_90, x128_91, x128_92, x128_93, x128_94, x128_97, x128_98, x128_99, x128_102, x128_105, x128_106, x128_108, x128_109, x128_110, x128_111, x128_114, x128_115, x128_118, x128_119, x128_120, x128_122, x128_123, x128_126, x128_129, x128_130, x128_132, x128_133, x128_134, x128_135, x128_136, x128_139, x128_140, x128_143, x128_144, x128_145, x128_147, x128_150, reduceIte, Nat.reduceLT, nW_ap, nW_up, nI_add, pk_mul, nI_ltI, nI_eq, if_true, if_false, kont_r, kont_v, Nat.reduceAdd, Nat.reduceMul, Nat.not_lt, not_true_eq_false, not_false_eq_true, Nat.one_ne_zero, Nat.reduceEqDiff, Nat.lt_irrefl, reduceCtorEq, nI_or0, nI_or1, e, hk, q3, q1, q2, bN, Bool.false_eq_true]
              exact ih
      · cases q : f || A with
        | true =>
          have e1 : (f || (A || (decide (a ≤ N 22 0 (141 + 2 * k + 1)) && decide (N 22 0 (141 + 2 * k) ≤ b)))) = true := by rw [← Bool.or_assoc, q, Bool.true_or]
          rw [e1, decide_eq_false q3] at ih
          simp (disch := first | assumption | omega | exact nI_or0 | exact nI_or1 | exact bN_or _) only [x128_64, x128_65, x128_68, x128_70, x128_71, x128_74, x128_75, x128_78, x128_79, x128_80, x128_83, x128_86, x128_87, x128_89, x128_90, x128_91, x128_92, x128_93, x128_94, x128_97, x128_98, x128_99, x128_102, x128_105, x128_106, x128_108, x128_109, x128_110, x128_111, x128_114, x128_115, x128_118, x128_119, x128_120, x128_122, x128_123, x128_126, x128_129, x128_130, x128_132, x128_133, x128_134, x128_135, x128_136, x128_139, x128_140, x128_143, x128_144, x128_145, x128_147, x128_150, reduceIte, Nat.reduceLT, nW_ap, nW_up, nI_add, pk_mul, nI_ltI, nI_eq, if_true, if_false, kont_r, kont_v, Nat.reduceAdd, Nat.reduceMul, Nat.not_lt, not_true_eq_false, not_false_eq_true, Nat.one_ne_zero, Nat.reduceEqDiff, Nat.lt_irrefl, reduceCtorEq, nI_or0, nI_or1, e, hk, q3, bN]
          exact ih
        | false =>
          rw [← Bool.or_assoc, q, Bool.false_or, decide_eq_false q3] at ih
          by_cases q1 : N 22 0 (141 + 2 * k + 1) < a
          · rw [decide_eq_false (show ¬ a ≤ _ by omega), Bool.false_and] at ih
            simp (disch := first | assumption | omega | exact nI_or0 | exact nI_or1 | exact bN_or _) only [x128_64, x128_65, x128_68, x128_70, x128_71, x128_74, x128_75, x128_78, x128_79, x128_80, x128_83, x128_86, x128_87, x128_89, x128_90, x128_91, x128_92, x128_93, x128_94, x128_97, x128_98, x128_99, x128_102, x128_105, x128_106, x128_108, x128_109, x128_110, x128_111, x128_114, x128_115, x128_118, x128_119, x128_120, x128_122, x128_123, x128_126, x128_129, x128_130, x128_132, x128_133, x128_134, x128_135, x128_136, x128_139, x128_140, x128_143, x128_144, x128_145, x128_147, x128_150, reduceIte, Nat.reduceLT, nW_ap, nW_up, nI_add, pk_mul, nI_ltI, nI_eq, if_true, if_false, kont_r, kont_v, Nat.reduceAdd, Nat.reduceMul, Nat.not_lt, not_true_eq_false, not_false_eq_true, Nat.one_ne_zero, Nat.reduceEqDiff, Nat.lt_irrefl, reduceCtorEq, nI_or0, nI_or1, e, hk, q3, q1, bN, Bool.false_eq_true]
            exact ih
          · rw [decide_eq_true (show a ≤ _ by omega), Bool.true_and] at ih
            by_cases q2 : b < N 22 0 (141 + 2 * k)
            · rw [decide_eq_false (show ¬ _ ≤ b by omega)] at ih
              simp (disch := first | assumption | omega | exact nI_or0 | exact nI_or1 | exact bN_or _) only [x128_64, x128_65, x128_68, x128_70, x128_71, x128_74, x128_75, x128_78, x128_79, x128_80, x128_83, x128_86, x128_87, x128_89, x128_90, x128_91, x128_92, x128_93, x128_94, x128_97, x128_98, x128_99, x128_102, x128_105, x128_106, x128_108, x128_109, x128_110, x128_111, x128_114, x128_115, x128_118, x128_119, x128_120, x128_122, x128_123, x128_126, x128_129, x128_130, x128_132, x128_133, x128_134, x128_135, x128_136, x128_139, x128_140, x128_143, x128_144, x128_145, x128_147, x128_150, reduceIte, Nat.reduceLT, nW_ap, nW_up, nI_add, pk_mul, nI_ltI, nI_eq, if_true, if_false, kont_r, kont_v, Nat.reduceAdd, Nat.reduceMul, Nat.not_lt, not_true_eq_false, not_false_eq_true, Nat.one_ne_zero, Nat.reduceEqDiff, Nat.lt_irrefl, reduceCtorEq, nI_or0, nI_or1, e, hk, q3, q1, q2, bN, Bool.false_eq_true]
              exact ih
            · rw [decide_eq_true (show _ ≤ b by omega)] at ih
              simp (disch := first | assumption | omega | exact nI_or0 | exact nI_or1 | exact bN_or _) only [x128_64, x128_65, x128_68, x128_70, x128_71, x128_74, x128_75, x128_78, x128_79, x128_80, x128_83, x128_86, x128_87, x128_89, x128_90, x128_91, x128_92, x128_93, x128_94, x128_97, x128_98, x128_99, x128_102, x128_105, x128_106, x128_108, x128_109, x128_110, x128_111, x128_114, x128_115, x128_118, x128_119, x128_120, x128_122, x128_123, x128_126, x128_129, x128_130, x128_132, x128_133, x128_134, x128_135, x128_136, x128_139, x128_140, x128_143, x128_144, x128_145, x128_147, x128_150, reduceIte, Nat.reduceLT, nW_ap, nW_up, nI_add, pk_mul, nI_ltI, nI_eq, if_true, if_false, kont_r, kont_v, Nat.reduceAdd, Nat.reduceMul, Nat.not_lt, not_true_eq_false, not_false_eq_true, Nat.one_ne_zero, Nat.reduceEqDiff, Nat.lt_irrefl, reduceCtorEq, nI_or0, nI_or1, e, hk, q3, q1, q2, bN, Bool.false_eq_true]
              exact ih
  have h0 := key 0 (Nat.zero_le _)
  by_cases q : N 22 0 6 = 6
  · rw [decide_eq_true q] at h0
    simp (disch := first | assumption | omega | exact nI_or0 | exact nI_or1 | exact bN_or _) only [in128, x128_0, x128_1, x128_2, x128_5, x128_6, x128_7, x128_10, x128_11, x128_12, x128_15, x128_18, x128_21, x128_22, x128_23, x128_26, x128_29, x128_32, x128_33, x128_34, x128_37, x128_38, x128_39, x128_42, x128_44, x128_45, x128_47, x128_50, x128_51, x128_54, x128_55, x128_56, x128_57, x128_59, x128_60, reduceIte, Nat.reduceLT, nW_ap, nW_up, nI_add, pk_mul, nI_ltI, nI_eq, if_true, if_false, kont_r, kont_v, Nat.reduceAdd, Nat.reduceMul, Nat.not_lt, not_true_eq_false, not_false_eq_true, Nat.one_ne_zero, Nat.reduceEqDiff, Nat.lt_irrefl, reduceCtorEq, nI_or0, nI_or1, up3_er, e, t91i, i1, i2, q, bN]
    exact h0
  · rw [decide_eq_false q] at h0
    simp (disch := first | assumption | omega | exact nI_or0 | exact nI_or1 | exact bN_or _) only [in128, x128_0, x128_1, x128_2, x128_5, x128_6, x128_7, x128_10, x128_11, x128_12, x128_15, x128_18, x128_21, x128_22, x128_23, x128_26, x128_29, x128_32, x128_33, x128_34, x128_37, x128_38, x128_39, x128_42, x128_44, x128_45, x128_47, x128_50, x128_51, x128_54, x128_55, x128_56, x128_57, x128_59, x128_60, reduceIte, Nat.reduceLT, nW_ap, nW_up, nI_add, pk_mul, nI_ltI, nI_eq, if_true, if_false, kont_r, kont_v, Nat.reduceAdd, Nat.reduceMul, Nat.not_lt, not_true_eq_false, not_false_eq_true, Nat.one_ne_zero, Nat.reduceEqDiff, Nat.lt_irrefl, reduceCtorEq, nI_or0, nI_or1, up3_er, e, t91i, i1, i2, q, bN]
    exact h0
theorem t128_3 {X : XS} {N : GV} {R : GR} {L : GL} {Z : Nat × Nat × Bool} (hR : Rok R) {K : Nat} (h : DI K N) {a b : Nat} (h1 : N 22 0 5 ≤ a ∧ a ≤ 999) (h2 : a ≤ b ∧ b ≤ 999) (h3 : (decide (N 22 0 6 = 6) || meetB (N 22 0) a b) = true) : exec X 128 [vR 7 0, vI (nI a), vI (nI b)] (gg (nW N) R L Z) = some (.inl (some (vI (nI 0))), (gg (nW (er N 2)) R L Z)) := by
  refine l128 hR h h1 h2 ?_
  rw [h3]
  simp (disch := first | assumption | omega | exact nI_or0 | exact nI_or1 | exact bN_or _) only [x128_153, x128_154, x128_157, x128_158, x128_159, x128_162, reduceIte, Nat.reduceLT, nW_ap, nW_up, nI_add, pk_mul, nI_ltI, nI_eq, if_true, if_false, kont_r, kont_v, Nat.reduceAdd, Nat.reduceMul, Nat.not_lt, not_true_eq_false, not_false_eq_true, Nat.one_ne_zero, Nat.reduceEqDiff, Nat.lt_irrefl, reduceCtorEq, nI_or0, nI_or1, t92e, bN, er_er']
theorem t128_4 {X : XS} {N : GV} {R : GR} {L : GL} {Z : Nat × Nat × Bool} (hR : Rok R) {K : Nat} (h : DI K N) (hs : N 7 0 4 ≤ 6) {a b : Nat} (h1 : N 22 0 5 ≤ a ∧ a ≤ 999) (h2 : a ≤ b ∧ b ≤ 999) (h3 : (decide (N 22 0 6 = 6) || meetB (N 22 0) a b) = false) : exec X 128 [vR 7 0, vI (nI a), vI (nI b)] (gg (nW N) R L Z) = some (.inl (some (vI (nI (N 22 0 6 + 1)))), (gg (nW (frsN (svd N) (atF (N 22 0) a) a b)) R L Z)) := by
  have h6 := h.h6
  have n6 : ¬ N 22 0 6 = 6 := fun q => by rw [decide_eq_true q, Bool.true_or] at h3; cases h3
  have hat : atF (N 22 0) a ≤ N 22 0 6 := atF_le
  have s94 := t94s (X := X) (L := L) (Z := Z) hR hs
  have e6 : (svd N) 22 0 6 = N 22 0 6 := by rw [sv_22]
  refine l128 hR h h1 h2 ?_
  rw [h3]
  generalize atF (N 22 0) a = at' at hat
  have key : ∀ m, m ≤ 2 * (N 22 0 6 - at') → ex X 128 180 [vR 7 0, vI (nI a), vI (nI b), vI (nI 0), vI (nI at'), vI (pdI (2 * N 22 0 6 - m))] [] (gg (nW (rowAt (svd N) 22 0 (141 + 2 * N 22 0 6 - m + 2) m fun j => (svd N) 22 0 (141 + 2 * N 22 0 6 - m + j))) R L Z) = some (.inl (some (vI (nI (N 22 0 6 + 1)))), (gg (nW (frsN (svd N) at' a b)) R L Z)) := by
    refine down _ ?_ ?_
    · have e1 : 2 * N 22 0 6 - 2 * (N 22 0 6 - at') = 2 * at' := by omega
      have e2 : 141 + 2 * N 22 0 6 - 2 * (N 22 0 6 - at') = 141 + 2 * at' := by omega
      have c : pdI (2 * at') < nI (2 * at') := (pdI_lt (by omega) (by omega)).2 (Nat.le_refl _)
      unfold frsN
      rw [e1, e2, e6, x128_180]
      generalize hM : (rowAt (svd N) 22 0 (141 + 2 * at' + 2) (2 * (N 22 0 6 - at')) fun j => (svd N) 22 0 (141 + 2 * at' + j)) = M
      have e3 : M 22 0 6 = N 22 0 6 := by rw [← hM, rowAt_out (by omega), e6]
      have g1 : ¬ 6 = 141 + 2 * at' := by omega
      have g2 : ¬ 6 = 141 + 2 * at' + 1 := by omega
      simp (disch := first | assumption | omega | exact nI_or0 | exact nI_or1 | exact bN_or _) only [x128_182, x128_183, x128_185, x128_186, x128_219, x128_220, x128_223, x128_226, x128_227, x128_229, x128_230, x128_231, x128_232, x128_233, x128_234, x128_237, x128_240, x128_241, x128_243, x128_244, x128_245, x128_246, x128_247, x128_248, x128_249, x128_250, x128_253, x128_255, x128_256, x128_257, x128_258, x128_259, x128_260, x128_261, x128_264, x128_266, x128_267, reduceIte, Nat.reduceLT, nW_ap, nW_up, nI_add, pk_mul, nI_ltI, nI_eq, if_true, if_false, kont_r, kont_v, Nat.reduceAdd, Nat.reduceMul, Nat.not_lt, not_true_eq_false, not_false_eq_true, Nat.one_ne_zero, Nat.reduceEqDiff, Nat.lt_irrefl, reduceCtorEq, nI_or0, nI_or1, c, up3_s _ _ g1, up3_s _ _ g2, e3, up3_self]
    · intro m hm ih
      obtain ⟨n, hn⟩ : ∃ n, 2 * N 22 0 6 - m = n + 1 := ⟨2 * N 22 0 6 - m - 1, by omega⟩
      have hn2 : 2 * N 22 0 6 - (m + 1) = n := by omega
      have e2 : 141 + 2 * N 22 0 6 - m = 141 + n + 1 := by omega
      have e3 : 141 + 2 * N 22 0 6 - (m + 1) = 141 + n := by omega
      rw [hn, e2]
      rw [hn2, e3] at ih
      have c : ¬ nI n < nI (2 * at') := by rw [nI_ltI (by omega) (by omega)]; omega
      generalize hM : (rowAt (svd N) 22 0 (141 + n + 1 + 2) m fun j => (svd N) 22 0 (141 + n + 1 + j)) = M
      have e4 : M 22 0 (141 + n) = (svd N) 22 0 (141 + n) := by rw [← hM, rowAt_out (by omega)]
      have ew : up3 M 22 0 (141 + n + 2) ((svd N) 22 0 (141 + n)) = rowAt (svd N) 22 0 (141 + n + 2) (m + 1) fun j => (svd N) 22 0 (141 + n + j) := by
        rw [← hM]
        funext k i s
        unfold up3 rowAt
        by_cases q1 : k = 22 ∧ i = 0 ∧ s = 141 + n + 2
        · rw [if_pos q1, if_pos (by omega)]
          exact congrArg _ (by omega)
        · rw [if_neg q1]
          by_cases q2 : k = 22 ∧ i = 0 ∧ 141 + n + 1 + 2 ≤ s ∧ s < 141 + n + 1 + 2 + m
          · rw [if_pos q2, if_pos (by omega)]
            exact congrArg _ (by omega)
          · rw [if_neg q2, if_neg (by omega)]
      have ep : pdI (n + 1) = nI n := rfl
      rw [ep, x128_180]
      simp (disch := first | assumption | omega | exact nI_or0 | exact nI_or1 | exact bN_or _) only [x128_182, x128_183, x128_185, x128_186, x128_189, x128_190, x128_193, x128_196, x128_198, x128_199, x128_200, x128_201, x128_202, x128_205, x128_208, x128_210, x128_211, x128_212, x128_213, x128_216, reduceIte, Nat.reduceLT, nW_ap, nW_up, nI_add, pk_mul, nI_ltI, nI_eq, if_true, if_false, kont_r, kont_v, Nat.reduceAdd, Nat.reduceMul, Nat.not_lt, not_true_eq_false, not_false_eq_true, Nat.one_ne_zero, Nat.reduceEqDiff, Nat.lt_irrefl, reduceCtorEq, nI_or0, nI_or1, c, e4, ew, pdI_m1]
      exact ih
  have h0 := key 0 (Nat.zero_le _)
  rw [rowAt_0, Nat.sub_zero] at h0
  simp (disch := first | assumption | omega | exact nI_or0 | exact nI_or1 | exact bN_or _) only [x128_153, x128_154, x128_157, x128_158, x128_159, x128_162, x128_163, x128_164, x128_167, x128_168, x128_169, x128_172, x128_174, x128_175, x128_176, x128_177, x128_178, reduceIte, Nat.reduceLT, nW_ap, nW_up, nI_add, pk_mul, nI_ltI, nI_eq, if_true, if_false, kont_r, kont_v, Nat.reduceAdd, Nat.reduceMul, Nat.not_lt, not_true_eq_false, not_false_eq_true, Nat.one_ne_zero, Nat.reduceEqDiff, Nat.lt_irrefl, reduceCtorEq, nI_or0, nI_or1, bN, s94, e6, pdI_sub, Bool.false_eq_true]
  exact h0
/-- the last frost that begins on a day -/
def thwI (S : Nat → Nat) (a : Int32) : Nat → Option Nat
  | 0 => none
  | k + 1 => if nI (S (141 + 2 * k)) = a then some k else thwI S a k
theorem thwI_lt {S : Nat → Nat} {a : Int32} : ∀ {k b : Nat}, thwI S a k = some b → b < k ∧ nI (S (141 + 2 * b)) = a := by
  intro k
  induction k with
  | zero => intro b h; cases h
  | succ k ih =>
    intro b h
    by_cases q : nI (S (141 + 2 * k)) = a
    · rw [thwI, if_pos q] at h; cases h; exact ⟨by omega, q⟩
    · rw [thwI, if_neg q] at h; have := ih h; exact ⟨by omega, this.2⟩
def thwN (N : GV) (i : Nat) : GV :=
  let n := N 22 0 6 - 1
  up3 (up3 (rowAt (up3 N 22 0 6 n) 22 0 (141 + 2 * i) (2 * (n - i)) fun j => N 22 0 (141 + 2 * i + j + 2)) 22 0 (141 + 2 * n) 0) 22 0 (141 + 2 * n + 1) 0
theorem l129 {X : XS} {N : GV} {R : GR} {L : GL} {Z : Nat × Nat × Bool} (hR : Rok R) {K : Nat} (h : DI K N) {a : Int32} {r : Option RS} (hr : ex X 129 48 [vR 7 0, vI a, vI (oI (thwI (N 22 0) a (N 22 0 6))), vI (nI (N 22 0 6)), vU] [] (gg (nW (er N 0)) R L Z) = r) : exec X 129 [vR 7 0, vI a] (gg (nW N) R L Z) = r := by
  have e : ∀ s, (er N 0) 22 0 s = N 22 0 s := fun s => by rw [er_22]
  have h6 := h.h6
  have key : ∀ k, k ≤ N 22 0 6 → ex X 129 9 [vR 7 0, vI a, vI (oI (thwI (N 22 0) a k)), vI (nI k), vU] [] (gg (nW (er N 0)) R L Z) = r := by
    refine down _ ?_ ?_
    · rw [x129_9]
      simp (disch := first | assumption | omega | exact nI_or0 | exact nI_or1 | exact bN_or _) only [x129_10, x129_11, x129_14, x129_16, x129_17, reduceIte, Nat.reduceLT, nW_ap, nW_up, nI_add, pk_mul, nI_ltI, nI_eq, if_true, if_false, kont_r, kont_v, Nat.reduceAdd, Nat.reduceMul, Nat.not_lt, not_true_eq_false, not_false_eq_true, Nat.one_ne_zero, Nat.reduceEqDiff, Nat.lt_irrefl, reduceCtorEq, nI_or0, nI_or1, e]
      exact hr
    · intro k hk ih
      rw [x129_9]
      simp only [thwI] at ih
      by_cases q : nI (N 22 0 (141 + 2 * k)) = a
      · rw [if_pos q] at ih
        simp (disch := first | assumption | omega | exact nI_or0 | exact nI_or1 | exact bN_or _) only [x129_10, x129_11, x129_14, x129_16, x129_17, x129_20, x129_21, x129_24, x129_27, x129_28, x129_29, x129_30, x129_31, x129_32, x129_33, x129_36, x129_37, x129_40, x129_41, x129_42, x129_45, reduceIte, Nat.reduceLT, nW_ap, nW_up, nI_add, pk_mul, nI_ltI, nI_eq, if_true, if_false, kont_r, kont_v, Nat.reduceAdd, Nat.reduceMul, Nat.not_lt, not_true_eq_false, not_false_eq_true, Nat.one_ne_zero, Nat.reduceEqDiff, Nat.lt_irrefl, reduceCtorEq, nI_or0, nI_or1, e, hk, q]
        exact ih
      · rw [if_neg q] at ih
        simp (disch := first | assumption | omega | exact nI_or0 | exact nI_or1 | exact bN_or _) only [x129_10, x129_11, x129_14, x129_16, x129_17, x129_20, x129_21, x129_24, x129_27, x129_28, x129_29, x129_30, x129_31, x129_32, x129_33, x129_36, x129_37, x129_40, x129_41, x129_42, x129_45, reduceIte, Nat.reduceLT, nW_ap, nW_up, nI_add, pk_mul, nI_ltI, nI_eq, if_true, if_false, kont_r, kont_v, Nat.reduceAdd, Nat.reduceMul, Nat.not_lt, not_true_eq_false, not_false_eq_true, Nat.one_ne_zero, Nat.reduceEqDiff, Nat.lt_irrefl, reduceCtorEq, nI_or0, nI_or1, e, hk, q]
        exact ih
  have h0 := key 0 (Nat.zero_le _)
  simp (disch := first | assumption | omega | exact nI_or0 | exact nI_or1 | exact bN_or _) only [in129, x129_0, x129_1, x129_2, x129_5, x129_6, x129_7, x129_8, reduceIte, Nat.reduceLT, nW_ap, nW_up, nI_add, pk_mul, nI_ltI, nI_eq, if_true, if_false, kont_r, kont_v, Nat.reduceAdd, Nat.reduceMul, Nat.not_lt, not_true_eq_false, not_false_eq_true, Nat.one_ne_zero, Nat.reduceEqDiff, Nat.lt_irrefl, reduceCtorEq, nI_or0, nI_or1, up3_er]
  exact h0
theorem t129_1 {X : XS} {N : GV} {R : GR} {L : GL} {Z : Nat × Nat × Bool} (hR : Rok R) {K : Nat} (h : DI K N) {a : Int32} (h1 : thwI (N 22 0) a (N 22 0 6) = none) : exec X 129 [vR 7 0, vI a] (gg (nW N) R L Z) = some (.inl (some (vI (nI 0))), (gg (nW (er N 1)) R L Z)) := by
  refine l129 hR h ?_
  rw [h1]
  simp (disch := first | assumption | omega | exact nI_or0 | exact nI_or1 | exact bN_or _) only [x129_48, x129_49, x129_50, x129_53, x129_54, x129_55, x129_58, reduceIte, Nat.reduceLT, nW_ap, nW_up, nI_add, pk_mul, nI_ltI, nI_eq, if_true, if_false, kont_r, kont_v, Nat.reduceAdd, Nat.reduceMul, Nat.not_lt, not_true_eq_false, not_false_eq_true, Nat.one_ne_zero, Nat.reduceEqDiff, Nat.lt_irrefl, reduceCtorEq, nI_or0, nI_or1, oI, t92e, er_er']
theorem t129_2 {X : XS} {N : GV} {R : GR} {L : GL} {Z : Nat × Nat × Bool} (hR : Rok R) {K : Nat} (h : DI K N) (hs : N 7 0 4 ≤ 6) {i : Nat} {a : Int32} (h1 : thwI (N 22 0) a (N 22 0 6) = some i) (hle : N 22 0 (141 + 2 * i) ≤ N 22 0 (141 + 2 * i + 1)) : exec X 129 [vR 7 0, vI a] (gg (nW N) R L Z) = some (.inl (some (vI (nI (N 22 0 (141 + 2 * i + 1) - N 22 0 (141 + 2 * i) + 1)))), (gg (nW (thwN (svd N) i)) R L Z)) := by
  have h6 := h.h6
  have hi := thwI_lt h1
  have him := nI_m1 (n := i) (by omega)
  obtain ⟨hi, ha⟩ := hi
  subst ha
  have s94 := t94s (X := X) (L := L) (Z := Z) hR hs
  have e22 : ∀ s, (svd N) 22 0 s = N 22 0 s := fun s => by rw [sv_22]
  refine l129 hR h ?_
  rw [h1]
  have eT : thwN (svd N) i = up3 (up3 (rowAt (up3 (svd N) 22 0 6 (N 22 0 6 - 1)) 22 0 (141 + 2 * i) (2 * (N 22 0 6 - 1 - i)) fun j => (svd N) 22 0 (141 + 2 * i + j + 2)) 22 0 (141 + 2 * (N 22 0 6 - 1)) 0) 22 0 (141 + 2 * (N 22 0 6 - 1) + 1) 0 := by
    unfold thwN
    rw [e22]
  rw [eT]
  generalize hn : N 22 0 6 - 1 = n
  have key : ∀ m, m ≤ 2 * (n - i) → ∀ x : Int32, ex X 129 98 [vR 7 0, vI (nI (N 22 0 (141 + 2 * i))), vI (nI i), vI x, vI (nI (2 * i + m))] [] (gg (nW (rowAt (up3 (svd N) 22 0 6 n) 22 0 (141 + 2 * i) m fun j => (svd N) 22 0 (141 + 2 * i + j + 2))) R L Z) = some (.inl (some (vI x)), (gg (nW (up3 (up3 (rowAt (up3 (svd N) 22 0 6 n) 22 0 (141 + 2 * i) (2 * (n - i)) fun j => (svd N) 22 0 (141 + 2 * i + j + 2)) 22 0 (141 + 2 * n) 0) 22 0 (141 + 2 * n + 1) 0)) R L Z)) := by
    refine down _ ?_ ?_
    · intro x
      have e1 : 2 * i + 2 * (n - i) = 2 * n := by omega
      rw [e1]
      generalize hM : (rowAt (up3 (svd N) 22 0 6 n) 22 0 (141 + 2 * i) (2 * (n - i)) fun j => (svd N) 22 0 (141 + 2 * i + j + 2)) = M
      have e6 : M 22 0 6 = n := by rw [← hM, rowAt_out (by omega), up3_self]
      have g1 : ¬ 6 = 141 + 2 * n := by omega
      rw [x129_98]
      simp (disch := first | assumption | omega | exact nI_or0 | exact nI_or1 | exact bN_or _) only [x129_100, x129_101, x129_102, x129_105, x129_107, x129_108, x129_109, x129_112, x129_142, x129_143, x129_146, x129_149, x129_150, x129_151, x129_154, x129_156, x129_157, x129_158, x129_159, x129_160, x129_161, x129_162, x129_165, x129_168, x129_169, x129_170, x129_173, x129_175, x129_176, x129_177, x129_178, x129_179, x129_180, x129_181, x129_182, x129_183, reduceIte, Nat.reduceLT, nW_ap, nW_up, nI_add, pk_mul, nI_ltI, nI_eq, if_true, if_false, kont_r, kont_v, Nat.reduceAdd, Nat.reduceMul, Nat.not_lt, not_true_eq_false, not_false_eq_true, Nat.one_ne_zero, Nat.reduceEqDiff, Nat.lt_irrefl, reduceCtorEq, nI_or0, nI_or1, e6, up3_s _ _ g1]
    · intro m hm ih x
      have ih := ih x
      rw [← rowAt_s, ← Nat.add_assoc] at ih
      generalize hM : (rowAt (up3 (svd N) 22 0 6 n) 22 0 (141 + 2 * i) m fun j => (svd N) 22 0 (141 + 2 * i + j + 2)) = M at ih ⊢
      have e6 : M 22 0 6 = n := by rw [← hM, rowAt_out (by omega), up3_self]
      have er : M 22 0 (141 + 2 * i + m + 2) = (svd N) 22 0 (141 + 2 * i + m + 2) := by
        rw [← hM, rowAt_out (by omega), up3_s _ _ (by omega)]
      have c : 2 * i + m < 2 * n := by omega
      have ea : 141 + (2 * i + m) = 141 + 2 * i + m := by omega
      rw [x129_98]
      simp (disch := first | assumption | omega | exact nI_or0 | exact nI_or1 | exact bN_or _) only [x129_100, x129_101, x129_102, x129_105, x129_107, x129_108, x129_109, x129_112, x129_113, x129_116, x129_119, x129_121, x129_122, x129_123, x129_126, x129_129, x129_131, x129_132, x129_133, x129_134, x129_135, x129_136, x129_139, reduceIte, Nat.reduceLT, nW_ap, nW_up, nI_add, pk_mul, nI_ltI, nI_eq, if_true, if_false, kont_r, kont_v, Nat.reduceAdd, Nat.reduceMul, Nat.not_lt, not_true_eq_false, not_false_eq_true, Nat.one_ne_zero, Nat.reduceEqDiff, Nat.lt_irrefl, reduceCtorEq, nI_or0, nI_or1, e6, c, er, ea]
      exact ih
  have h0 := key 0 (Nat.zero_le _)
  rw [rowAt_0, Nat.add_zero] at h0
  simp only [e22] at h0
  have s6 : nI (N 22 0 6) - nI 1 = nI n := by rw [pk_sub (by omega), hn]
  simp (disch := first | assumption | omega | exact nI_or0 | exact nI_or1 | exact bN_or _) only [x129_48, x129_49, x129_50, x129_53, x129_54, x129_55, x129_58, x129_59, x129_60, x129_63, x129_64, x129_67, x129_70, x129_71, x129_72, x129_73, x129_74, x129_75, x129_76, x129_77, x129_78, x129_79, x129_80, x129_81, x129_82, x129_83, x129_86, x129_88, x129_89, x129_90, x129_91, x129_92, x129_93, x129_94, x129_95, x129_96, reduceIte, Nat.reduceLT, nW_ap, nW_up, nI_add, pk_mul, nI_ltI, nI_eq, if_true, if_false, kont_r, kont_v, Nat.reduceAdd, Nat.reduceMul, Nat.not_lt, not_true_eq_false, not_false_eq_true, Nat.one_ne_zero, Nat.reduceEqDiff, Nat.lt_irrefl, reduceCtorEq, nI_or0, nI_or1, oI, him, s94, e22, pk_sub, s6]
  exact h0 _
