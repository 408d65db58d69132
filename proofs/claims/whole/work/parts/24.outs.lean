/-! the reference's outings of a day -/
def nxoN (S D : Nat → Nat) (d : Nat) : Nat → Option Nat
  | 0 => none
  | k + 1 => if S (153 + 3 * k) = d ∧ D k = 0 ∧ (match nxoN S D d k with | none => true | some b => decide (S (153 + 3 * b + 1) < S (153 + 3 * k + 1))) = true then some k else nxoN S D d k
theorem nxoN_lt {S D : Nat → Nat} {d : Nat} : ∀ {k b : Nat}, nxoN S D d k = some b → b < k ∧ S (153 + 3 * b) = d ∧ D b = 0 := by
  intro k
  induction k with
  | zero => intro b h; cases h
  | succ k ih =>
    intro b h
    by_cases q : S (153 + 3 * k) = d ∧ D k = 0 ∧ (match nxoN S D d k with | none => true | some b => decide (S (153 + 3 * b + 1) < S (153 + 3 * k + 1))) = true
    · rw [nxoN, if_pos q] at h; cases h; exact ⟨by omega, q.1, q.2.1⟩
    · rw [nxoN, if_neg q] at h; have := ih h; exact ⟨by omega, this.2⟩
theorem t118 {X : XS} {N : GV} {R : GR} {L : GL} {Z : Nat × Nat × Bool} (hR : Rok R) {K : Nat} (h : DI K N) (hD : ∀ k, k < 17 → N 27 0 k ≤ 1) {d : Nat} (hd : d < 2 ^ 28) : exec X 118 [vR 7 0, vI (nI d)] (gg (nW N) R L Z) = some (.inl (some (vI (oI (nxoN (N 22 0) (N 27 0) d (N 22 0 7))))), (gg (nW N) R L Z)) := by
  have h7 := h.h7
  have hK := h.hK
  generalize hr : (some (.inl (some (vI (oI (nxoN (N 22 0) (N 27 0) d (N 22 0 7))))), (gg (nW N) R L Z)) : Option RS) = r
  have key : ∀ k, k ≤ N 22 0 7 → ∀ l4 : AV, ex X 118 4 [vR 7 0, vI (nI d), vI (oI (nxoN (N 22 0) (N 27 0) d k)), vI (nI k), l4] [] (gg (nW N) R L Z) = r := by
    refine down _ ?_ ?_
    · intro l4
      rw [x118_4]
      simp (disch := first | assumption | omega | exact nI_or0 | exact nI_or1) only [x118_5, x118_6, x118_9, x118_11, x118_12, x118_78, x118_79, reduceIte, Nat.reduceLT, nW_ap, nW_up, nI_add, pk_mul, nI_ltI, nI_eq, if_true, if_false, kont_r, kont_v, Nat.reduceAdd, Nat.reduceMul, Nat.not_lt, not_true_eq_false, not_false_eq_true, Nat.one_ne_zero, Nat.reduceEqDiff, Nat.lt_irrefl, reduceCtorEq, nI_or0, nI_or1]
      exact hr
    · intro k hk ih l4
      have b2 := hD k (by omega)
      have b3 := h.ou (k := k) (by omega)
      rw [x118_4]
      simp only [nxoN] at ih
      by_cases q : N 22 0 (153 + 3 * k) = d
      · by_cases q2 : N 27 0 k = 0
        · cases hn : nxoN (N 22 0) (N 27 0) d k with
          | none =>
            simp only [hn, q, q2, and_self, if_true] at ih
            simp (disch := first | assumption | omega | exact nI_or0 | exact nI_or1) only [x118_5, x118_6, x118_9, x118_11, x118_12, x118_15, x118_16, x118_17, x118_18, x118_21, x118_22, x118_25, x118_26, x118_29, x118_30, x118_31, x118_34, x118_35, x118_38, x118_39, x118_41, x118_43, x118_46, x118_47, x118_48, x118_51, x118_52, x118_53, x118_54, x118_57, x118_58, x118_59, x118_60, x118_63, x118_66, x118_67, x118_70, x118_71, x118_72, x118_75, reduceIte, Nat.reduceLT, nW_ap, nW_up, nI_add, pk_mul, nI_ltI, nI_eq, if_true, if_false, kont_r, kont_v, Nat.reduceAdd, Nat.reduceMul, Nat.not_lt, not_true_eq_false, not_false_eq_true, Nat.one_ne_zero, Nat.reduceEqDiff, Nat.lt_irrefl, reduceCtorEq, nI_or0, nI_or1, hk, t100, Nat.add_zero, q, q2, oI]
            exact ih _
          | some b =>
            have hb := nxoN_lt hn
            have hb1 := nI_m1 (n := b) (by omega)
            have b4 := h.ou (k := b) (by omega)
            by_cases hq : N 22 0 (153 + 3 * b + 1) < N 22 0 (153 + 3 * k + 1) <;>
              simp only [hn, q, q2, hq, decide_true, decide_false, true_and, and_true, Bool.false_eq_true, if_true, if_false] at ih <;>
              simp (disch := first | assumption | omega | exact nI_or0 | exact nI_or1) only [x118_5, x118_6, x118_9, x118_11, x118_12, x118_15, x118_16, x118_17, x118_18, x118_21, x118_22, x118_25, x118_26, x118_29, x118_30, x118_31, x118_34, x118_35, x118_38, x118_39, x118_41, x118_43, x118_46, x118_47, x118_48, x118_51, x118_52, x118_53, x118_54, x118_57, x118_58, x118_59, x118_60, x118_63, x118_66, x118_67, x118_70, x118_71, x118_72, x118_75, reduceIte, Nat.reduceLT, nW_ap, nW_up, nI_add, pk_mul, nI_ltI, nI_eq, if_true, if_false, kont_r, kont_v, Nat.reduceAdd, Nat.reduceMul, Nat.not_lt, not_true_eq_false, not_false_eq_true, Nat.one_ne_zero, Nat.reduceEqDiff, Nat.lt_irrefl, reduceCtorEq, nI_or0, nI_or1, hk, t100, Nat.add_zero, q, q2, oI, hb1, hq] <;> exact ih _
        · simp only [q, q2, false_and, and_false, if_false] at ih
          generalize oI (nxoN (N 22 0) (N 27 0) d k) = o at ih ⊢
          simp (disch := first | assumption | omega | exact nI_or0 | exact nI_or1) only [x118_5, x118_6, x118_9, x118_11, x118_12, x118_15, x118_16, x118_17, x118_18, x118_21, x118_22, x118_25, x118_26, x118_29, x118_30, x118_31, x118_34, x118_35, x118_38, x118_39, x118_41, x118_43, x118_46, x118_47, x118_48, x118_51, x118_52, x118_53, x118_54, x118_57, x118_58, x118_59, x118_60, x118_63, x118_66, x118_67, x118_70, x118_71, x118_72, x118_75, reduceIte, Nat.reduceLT, nW_ap, nW_up, nI_add, pk_mul, nI_ltI, nI_eq, if_true, if_false, kont_r, kont_v, Nat.reduceAdd, Nat.reduceMul, Nat.not_lt, not_true_eq_false, not_false_eq_true, Nat.one_ne_zero, Nat.reduceEqDiff, Nat.lt_irrefl, reduceCtorEq, nI_or0, nI_or1, hk, t100, Nat.add_zero, q, q2]
          exact ih _
      · simp only [q, false_and, if_false] at ih
        generalize oI (nxoN (N 22 0) (N 27 0) d k) = o at ih ⊢
        simp (disch := first | assumption | omega | exact nI_or0 | exact nI_or1) only [x118_5, x118_6, x118_9, x118_11, x118_12, x118_15, x118_16, x118_17, x118_18, x118_21, x118_22, x118_25, x118_26, x118_29, x118_30, x118_31, x118_34, x118_35, x118_38, x118_39, x118_41, x118_43, x118_46, x118_47, x118_48, x118_51, x118_52, x118_53, x118_54, x118_57, x118_58, x118_59, x118_60, x118_63, x118_66, x118_67, x118_70, x118_71, x118_72, x118_75, reduceIte, Nat.reduceLT, nW_ap, nW_up, nI_add, pk_mul, nI_ltI, nI_eq, if_true, if_false, kont_r, kont_v, Nat.reduceAdd, Nat.reduceMul, Nat.not_lt, not_true_eq_false, not_false_eq_true, Nat.one_ne_zero, Nat.reduceEqDiff, Nat.lt_irrefl, reduceCtorEq, nI_or0, nI_or1, hk, t100, Nat.add_zero, q]
        exact ih _
  simp (disch := first | assumption | omega | exact nI_or0 | exact nI_or1) only [in118, x118_0, x118_1, x118_2, x118_3]
  exact key 0 (Nat.zero_le _) _
