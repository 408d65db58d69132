/-! the class: a park's looks, its queue of jobs -/
theorem cpR_U {N : GV} {P Q m : Nat} : up3 (up3 (up3 (cpR kU N P Q m) 14 P m (N 14 Q m)) 15 P m (N 15 Q m)) 16 P m (N 16 Q m) = cpR kU N P Q (m + 1) := by
  funext k i s
  by_cases q1 : 14 ≤ k ∧ k ≤ 16 ∧ i = P ∧ s = m
  · obtain ⟨e1, e2, e3, e4⟩ := q1
    subst e3 e4
    unfold up3 cpR
    rw [if_pos (show kU k = true ∧ i = i ∧ s < s + 1 from ⟨kU_i.2 ⟨e1, e2⟩, rfl, by omega⟩)]
    rcases (show k = 14 ∨ k = 15 ∨ k = 16 by omega) with e | e | e <;> subst e
    · rw [if_neg (by omega), if_neg (by omega), if_pos ⟨rfl, rfl, rfl⟩]
    · rw [if_neg (by omega), if_pos ⟨rfl, rfl, rfl⟩]
    · rw [if_pos ⟨rfl, rfl, rfl⟩]
  · unfold up3 cpR
    rw [if_neg (by omega), if_neg (by omega), if_neg (by omega)]
    by_cases q3 : kU k = true ∧ i = P ∧ s < m
    · rw [if_pos q3, if_pos ⟨q3.1, q3.2.1, by omega⟩]
    · rw [if_neg q3, if_neg fun q => by
        have := kU_i.1 q.1
        have hs : s = m := by
          by_cases e : s = m
          · exact e
          · exact absurd ⟨q.1, q.2.1, by omega⟩ q3
        exact q1 ⟨this.1, this.2, q.2.1, hs⟩]
def ocpN (N : GV) (P Q : Nat) : GV := cpR kU (up3 N 4 P 3 (N 4 Q 3)) P Q (N 4 Q 3)
theorem t30 {X : XS} {N : GV} {R : GR} {L : GL} {Z : Nat × Nat × Bool} (hR : Rok R) {P Q : Nat} (hP : P < 8) (hQ : Q < 8) (hne : ¬ P = Q) (h : N 4 Q 3 ≤ 17) : exec X 30 [vR 4 P, vR 4 Q] (gg (nW N) R L Z) = some (.inl none, (gg (nW (ocpN N P Q)) R L Z)) := by
  unfold ocpN
  generalize hW : up3 N 4 P 3 (N 4 Q 3) = W
  have w1 : W 4 P 3 = N 4 Q 3 := by rw [← hW, up3_self]
  have key : ∀ m, m ≤ N 4 Q 3 → ex X 30 10 [vR 4 P, vR 4 Q, vI (nI m)] [] (gg (nW (cpR kU W P Q m)) R L Z) = some (.inl none, (gg (nW (cpR kU W P Q (N 4 Q 3))) R L Z)) := by
    refine down _ ?_ ?_
    · have e12 : (cpR kU W P Q (N 4 Q 3)) 4 P 3 = N 4 Q 3 := by rw [← w1]; exact if_neg fun q => absurd q.1 (by unfold kU; decide)
      rw [x30_10]
      simp (disch := first | assumption | omega | exact nI_or0 | exact nI_or1 | exact bN_or _) only [x30_11, x30_12, x30_15, x30_18, x30_19, x30_22, x30_23, x30_24, x30_27, x30_28, x30_29, x30_30, x30_31, x30_34, x30_35, x30_36, x30_39, x30_40, x30_41, x30_42, x30_43, x30_46, x30_47, x30_48, x30_51, x30_52, x30_53, x30_54, x30_57, x30_60, reduceIte, Nat.reduceLT, nW_ap, nW_up, nI_add, pk_mul, nI_ltI, nI_eq, if_true, if_false, kont_r, kont_v, Nat.reduceAdd, Nat.reduceMul, Nat.not_lt, not_true_eq_false, not_false_eq_true, Nat.one_ne_zero, Nat.reduceEqDiff, Nat.lt_irrefl, reduceCtorEq, nI_or0, nI_or1, e12]
    · intro m hm ih
      rw [← cpR_U] at ih
      generalize hM : cpR kU W P Q m = M at ih ⊢
      have e12 : M 4 P 3 = N 4 Q 3 := by rw [← w1, ← hM]; exact if_neg fun q => absurd q.1 (by unfold kU; decide)
      have e8 : M 14 Q m = W 14 Q m := by rw [← hM]; exact if_neg fun q => by omega
      have e9 : ∀ v, up3 M 14 P m v 15 Q m = W 15 Q m := fun v => by rw [up3_k _ _ (by decide), ← hM]; exact if_neg fun q => by omega
      have e10 : ∀ v w, up3 (up3 M 14 P m v) 15 P m w 16 Q m = W 16 Q m := fun v w => by rw [up3_k _ _ (by decide), up3_k _ _ (by decide), ← hM]; exact if_neg fun q => by omega
      rw [x30_10]
      simp (disch := first | assumption | omega | exact nI_or0 | exact nI_or1 | exact bN_or _) only [x30_11, x30_12, x30_15, x30_18, x30_19, x30_22, x30_23, x30_24, x30_27, x30_28, x30_29, x30_30, x30_31, x30_34, x30_35, x30_36, x30_39, x30_40, x30_41, x30_42, x30_43, x30_46, x30_47, x30_48, x30_51, x30_52, x30_53, x30_54, x30_57, reduceIte, Nat.reduceLT, nW_ap, nW_up, nI_add, pk_mul, nI_ltI, nI_eq, if_true, if_false, kont_r, kont_v, Nat.reduceAdd, Nat.reduceMul, Nat.not_lt, not_true_eq_false, not_false_eq_true, Nat.one_ne_zero, Nat.reduceEqDiff, Nat.lt_irrefl, reduceCtorEq, nI_or0, nI_or1, e12, hm, e8, e9, e10]
      exact ih
  have h0 := key 0 (Nat.zero_le _)
  rw [cpR_0] at h0
  simp (disch := first | assumption | omega | exact nI_or0 | exact nI_or1 | exact bN_or _) only [in30, x30_0, x30_1, x30_2, x30_5, x30_8, x30_9, reduceIte, Nat.reduceLT, nW_ap, nW_up, nI_add, pk_mul, nI_ltI, nI_eq, if_true, if_false, kont_r, kont_v, Nat.reduceAdd, Nat.reduceMul, Nat.not_lt, not_true_eq_false, not_false_eq_true, Nat.one_ne_zero, Nat.reduceEqDiff, Nat.lt_irrefl, reduceCtorEq, nI_or0, nI_or1, hW]
  exact h0
def fryC (N : GV) (P : Nat) : Bool := mtC N P (N 5 P 0) (N 5 P 0)
theorem t33 {X : XS} {N : GV} {R : GR} {L : GL} {Z : Nat × Nat × Bool} (hR : Rok R) {P : Nat} (hP : P < 8) (h : FB N P) (hd : N 5 P 0 < 2 ^ 28) : exec X 33 [vR 5 P] (gg (nW N) R L Z) = some (.inl (some (vI (nI (bN (fryC N P))))), (gg (nW N) R L Z)) := by
  have s1 := t8 (X := X) (N := N) (L := L) (Z := Z) hR hP h hd hd
  unfold fryC
  simp (disch := first | assumption | omega | exact nI_or0 | exact nI_or1 | exact bN_or _) only [in33, x33_0, x33_1, x33_4, x33_5, x33_8, x33_9, x33_12, x33_15, in33, reduceIte, Nat.reduceLT, nW_ap, nW_up, nI_add, pk_mul, nI_ltI, nI_eq, if_true, if_false, kont_r, kont_v, Nat.reduceAdd, Nat.reduceMul, Nat.not_lt, not_true_eq_false, not_false_eq_true, Nat.one_ne_zero, Nat.reduceEqDiff, Nat.lt_irrefl, reduceCtorEq, nI_or0, nI_or1, s1]
/-- what never changes of jobs, and that booleans are such -/
def SB (N : GV) : Prop := (∀ f, f < 64 → N 0 f 2 ≤ 1 ∧ N 0 f 3 ≤ 1 ∧ N 0 f 4 ≤ 1) ∧ ∀ b, b < 128 → N 2 b 0 = b / 2 % 8 ∧ N 2 b 1 = b % 2 ∧ N 2 b 2 ≤ 1 ∧ N 2 b 5 < 2 ^ 28
theorem SB.fb {N : GV} (h : SB N) {f : Nat} (hf : f < 64) : fB N f := ⟨(h.1 f hf).1, fun _ => ⟨(h.1 f hf).2.1, (h.1 f hf).2.2, (h.2 (2 * f) (by omega)).2.2.1, (h.2 (2 * f + 1) (by omega)).2.2.1⟩⟩
theorem t34 {X : XS} {N : GV} {R : GR} {L : GL} {Z : Nat × Nat × Bool} (hR : Rok R) {P : Nat} (hP : P < 8) (h : SB N) : exec X 34 [vR 5 P] (gg (nW N) R L Z) = some (.inl (some (vI (nI (sumN 8 fun p => N 0 (8 * P + p) 2)))), (gg (nW N) R L Z)) := by
  generalize hr : (some (.inl (some (vI (nI (sumN 8 fun p => N 0 (8 * P + p) 2)))), (gg (nW N) R L Z)) : Option RS) = r
  have key : ∀ k, k ≤ 8 → ex X 34 4 [vR 5 P, vI (nI (sumN k fun p => N 0 (8 * P + p) 2)), vI (nI k)] [] (gg (nW N) R L Z) = r := by
    refine down _ ?_ ?_
    · rw [x34_4]
      simp (disch := first | assumption | omega | exact nI_or0 | exact nI_or1 | exact bN_or _) only [x34_5, x34_7, x34_10, x34_11, x34_12, x34_15, x34_16, x34_17, x34_20, x34_23, x34_24, x34_25, x34_28, x34_31, x34_32, reduceIte, Nat.reduceLT, nW_ap, nW_up, nI_add, pk_mul, nI_ltI, nI_eq, if_true, if_false, kont_r, kont_v, Nat.reduceAdd, Nat.reduceMul, Nat.not_lt, not_true_eq_false, not_false_eq_true, Nat.one_ne_zero, Nat.reduceEqDiff, Nat.lt_irrefl, reduceCtorEq, nI_or0, nI_or1]
      exact hr
    · intro k hk ih
      have s1 := t84 (X := X) (N := N) (R := R) (L := L) (Z := Z) (b := N 0 (8 * P + k) 2) (h.1 (8 * P + k) (by omega)).1
      simp only [sumN] at ih
      rw [x34_4]
      simp (disch := first | assumption | omega | exact nI_or0 | exact nI_or1 | exact bN_or _) only [x34_5, x34_7, x34_10, x34_11, x34_12, x34_15, x34_16, x34_17, x34_20, x34_23, x34_24, x34_25, x34_28, reduceIte, Nat.reduceLT, nW_ap, nW_up, nI_add, pk_mul, nI_ltI, nI_eq, if_true, if_false, kont_r, kont_v, Nat.reduceAdd, Nat.reduceMul, Nat.not_lt, not_true_eq_false, not_false_eq_true, Nat.one_ne_zero, Nat.reduceEqDiff, Nat.lt_irrefl, reduceCtorEq, nI_or0, nI_or1, hk, s1]
      exact ih
  simp (disch := first | assumption | omega | exact nI_or0 | exact nI_or1 | exact bN_or _) only [in34, x34_0, x34_1, x34_2, x34_3, reduceIte, Nat.reduceLT, nW_ap, nW_up, nI_add, pk_mul, nI_ltI, nI_eq, if_true, if_false, kont_r, kont_v, Nat.reduceAdd, Nat.reduceMul, Nat.not_lt, not_true_eq_false, not_false_eq_true, Nat.one_ne_zero, Nat.reduceEqDiff, Nat.lt_irrefl, reduceCtorEq, nI_or0, nI_or1]
  exact key 0 (Nat.zero_le _)
theorem cb_lt {N : GV} {c : Bool} {f : Nat} : cbN N c f < 2 ^ 28 := by unfold cbN; split; omega; split; omega; split; omega; split; omega; split <;> omega
theorem t35 {X : XS} {N : GV} {R : GR} {L : GL} {Z : Nat × Nat × Bool} (hR : Rok R) {P : Nat} (hP : P < 8) (h : SB N) (hF : FB N P) (hd : N 5 P 0 < 2 ^ 28) : exec X 35 [vR 5 P] (gg (nW N) R L Z) = some (.inl (some (vI (nI (sumN 8 fun p => bN (decide (cbN N (fryC N P) (8 * P + p) = 0)))))), (gg (nW N) R L Z)) := by
  generalize hr : (some (.inl (some (vI (nI (sumN 8 fun p => bN (decide (cbN N (fryC N P) (8 * P + p) = 0)))))), (gg (nW N) R L Z)) : Option RS) = r
  have s0 := t33 (X := X) (N := N) (L := L) (Z := Z) hR hP hF hd
  have key : ∀ k, k ≤ 8 → ex X 35 9 [vR 5 P, vI (nI (bN (fryC N P))), vI (nI (sumN k fun p => bN (decide (cbN N (fryC N P) (8 * P + p) = 0)))), vI (nI k)] [] (gg (nW N) R L Z) = r := by
    refine down _ ?_ ?_
    · rw [x35_9]
      simp (disch := first | assumption | omega | exact nI_or0 | exact nI_or1 | exact bN_or _) only [x35_10, x35_12, x35_15, x35_16, x35_17, x35_20, x35_21, x35_22, x35_23, x35_26, x35_29, x35_30, x35_33, x35_34, x35_37, x35_38, x35_39, x35_42, x35_45, x35_46, reduceIte, Nat.reduceLT, nW_ap, nW_up, nI_add, pk_mul, nI_ltI, nI_eq, if_true, if_false, kont_r, kont_v, Nat.reduceAdd, Nat.reduceMul, Nat.not_lt, not_true_eq_false, not_false_eq_true, Nat.one_ne_zero, Nat.reduceEqDiff, Nat.lt_irrefl, reduceCtorEq, nI_or0, nI_or1]
      exact hr
    · intro k hk ih
      have s1 := t4 (X := X) (N := N) (L := L) (Z := Z) (f := 8 * P + k) (c := fryC N P) hR (by omega) (h.fb (by omega))
      have hl := cb_lt (N := N) (c := fryC N P) (f := 8 * P + k)
      simp only [sumN] at ih
      rw [x35_9]
      by_cases q : cbN N (fryC N P) (8 * P + k) = 0
      · rw [decide_eq_true q] at ih
        simp (disch := first | assumption | omega | exact nI_or0 | exact nI_or1 | exact bN_or _) only [x35_10, x35_12, x35_15, x35_16, x35_17, x35_20, x35_21, x35_22, x35_23, x35_26, x35_29, x35_30, x35_33, x35_34, x35_37, x35_38, x35_39, x35_42, reduceIte, Nat.reduceLT, nW_ap, nW_up, nI_add, pk_mul, nI_ltI, nI_eq, if_true, if_false, kont_r, kont_v, Nat.reduceAdd, Nat.reduceMul, Nat.not_lt, not_true_eq_false, not_false_eq_true, Nat.one_ne_zero, Nat.reduceEqDiff, Nat.lt_irrefl, reduceCtorEq, nI_or0, nI_or1, hk, s1, q, t84]
        exact ih
      · rw [decide_eq_false q] at ih
        simp (disch := first | assumption | omega | exact nI_or0 | exact nI_or1 | exact bN_or _) only [x35_10, x35_12, x35_15, x35_16, x35_17, x35_20, x35_21, x35_22, x35_23, x35_26, x35_29, x35_30, x35_33, x35_34, x35_37, x35_38, x35_39, x35_42, reduceIte, Nat.reduceLT, nW_ap, nW_up, nI_add, pk_mul, nI_ltI, nI_eq, if_true, if_false, kont_r, kont_v, Nat.reduceAdd, Nat.reduceMul, Nat.not_lt, not_true_eq_false, not_false_eq_true, Nat.one_ne_zero, Nat.reduceEqDiff, Nat.lt_irrefl, reduceCtorEq, nI_or0, nI_or1, hk, s1, q, t84]
        exact ih
  simp (disch := first | assumption | omega | exact nI_or0 | exact nI_or1 | exact bN_or _) only [in35, x35_0, x35_1, x35_4, x35_5, x35_6, x35_7, x35_8, reduceIte, Nat.reduceLT, nW_ap, nW_up, nI_add, pk_mul, nI_ltI, nI_eq, if_true, if_false, kont_r, kont_v, Nat.reduceAdd, Nat.reduceMul, Nat.not_lt, not_true_eq_false, not_false_eq_true, Nat.one_ne_zero, Nat.reduceEqDiff, Nat.lt_irrefl, reduceCtorEq, nI_or0, nI_or1, s0]
  exact key 0 (Nat.zero_le _)
theorem t36 {X : XS} {N : GV} {R : GR} {L : GL} {Z : Nat × Nat × Bool} (hR : Rok R) {P : Nat} (hP : P < 8) (h : SB N) : exec X 36 [vR 5 P] (gg (nW N) R L Z) = some (.inl (some (vI (nI (sumN 8 fun p => N 2 (2 * (8 * P + p)) 2 + N 2 (2 * (8 * P + p) + 1) 2)))), (gg (nW N) R L Z)) := by
  generalize hr : (some (.inl (some (vI (nI (sumN 8 fun p => N 2 (2 * (8 * P + p)) 2 + N 2 (2 * (8 * P + p) + 1) 2)))), (gg (nW N) R L Z)) : Option RS) = r
  have key : ∀ k, k ≤ 8 → ex X 36 4 [vR 5 P, vI (nI (sumN k fun p => N 2 (2 * (8 * P + p)) 2 + N 2 (2 * (8 * P + p) + 1) 2)), vI (nI k)] [] (gg (nW N) R L Z) = r := by
    refine down _ ?_ ?_
    · rw [x36_4]
      simp (disch := first | assumption | omega | exact nI_or0 | exact nI_or1 | exact bN_or _) only [x36_5, x36_7, x36_10, x36_11, x36_12, x36_15, x36_16, x36_17, x36_20, x36_21, x36_22, x36_25, x36_28, x36_29, reduceIte, Nat.reduceLT, nW_ap, nW_up, nI_add, pk_mul, nI_ltI, nI_eq, if_true, if_false, kont_r, kont_v, Nat.reduceAdd, Nat.reduceMul, Nat.not_lt, not_true_eq_false, not_false_eq_true, Nat.one_ne_zero, Nat.reduceEqDiff, Nat.lt_irrefl, reduceCtorEq, nI_or0, nI_or1]
      exact hr
    · intro k hk ih
      have s1 := t3 (X := X) (N := N) (L := L) (Z := Z) (f := 8 * P + k) hR (by omega) (h.2 (2 * (8 * P + k)) (by omega)).2.2.1 (h.2 (2 * (8 * P + k) + 1) (by omega)).2.2.1
      simp only [sumN] at ih
      rw [x36_4]
      simp (disch := first | assumption | omega | exact nI_or0 | exact nI_or1 | exact bN_or _) only [x36_5, x36_7, x36_10, x36_11, x36_12, x36_15, x36_16, x36_17, x36_20, x36_21, x36_22, x36_25, reduceIte, Nat.reduceLT, nW_ap, nW_up, nI_add, pk_mul, nI_ltI, nI_eq, if_true, if_false, kont_r, kont_v, Nat.reduceAdd, Nat.reduceMul, Nat.not_lt, not_true_eq_false, not_false_eq_true, Nat.one_ne_zero, Nat.reduceEqDiff, Nat.lt_irrefl, reduceCtorEq, nI_or0, nI_or1, hk, s1]
      exact ih
  simp (disch := first | assumption | omega | exact nI_or0 | exact nI_or1 | exact bN_or _) only [in36, x36_0, x36_1, x36_2, x36_3, reduceIte, Nat.reduceLT, nW_ap, nW_up, nI_add, pk_mul, nI_ltI, nI_eq, if_true, if_false, kont_r, kont_v, Nat.reduceAdd, Nat.reduceMul, Nat.not_lt, not_true_eq_false, not_false_eq_true, Nat.one_ne_zero, Nat.reduceEqDiff, Nat.lt_irrefl, reduceCtorEq, nI_or0, nI_or1]
  exact key 0 (Nat.zero_le _)
theorem Rok_d {R : GR} {k i s : Nat} {v : Option Nat} (hk : ∀ s, isr k s = false) (h : Rok R) : Rok (up3 R k i s v) := by
  intro k' i' s' a b
  have : ¬ k' = k := fun e => by subst e; rw [hk] at b; cases b
  rw [up3_k _ _ this]
  exact h k' i' s' a b
/-- the queue of a park -/
def QU (R : GR) (P : Nat) (q : List Nat) : Prop := ∀ k, k < q.length → R 19 P k = some (q.getD k 0)
def rsU (R : GR) (P a n : Nat) : GR := fun k i s => if k = 19 ∧ i = P ∧ a < s ∧ s ≤ n then R 19 P (s - 1) else R k i s
theorem rsU_0 {R : GR} {P n : Nat} : rsU R P n n = R := by
  funext k i s
  exact if_neg fun q => by omega
theorem rsU_s {R : GR} {P a n : Nat} (h : a < n) : up3 (rsU R P (a + 1) n) 19 P (a + 1) (R 19 P a) = rsU R P a n := by
  funext k i s
  unfold up3 rsU
  by_cases q1 : k = 19 ∧ i = P ∧ s = a + 1
  · obtain ⟨e1, e2, e3⟩ := q1
    subst e1 e2 e3
    rw [if_pos ⟨rfl, rfl, rfl⟩, if_pos ⟨rfl, rfl, by omega, by omega⟩]; rfl
  · rw [if_neg q1]
    by_cases q3 : k = 19 ∧ i = P ∧ a + 1 < s ∧ s ≤ n
    · rw [if_pos q3, if_pos ⟨q3.1, q3.2.1, by omega, q3.2.2.2⟩]
    · rw [if_neg q3, if_neg (by omega)]
theorem Rok_u {R : GR} {P a n : Nat} (h : Rok R) : Rok (rsU R P a n) := by
  intro k i s x y
  have : ¬ k = 19 := fun e => by subst e; exact absurd y (by show ¬ false = true; decide)
  unfold rsU
  rw [if_neg fun q => this q.1]
  exact h k i s x y
theorem t38 {X : XS} {N : GV} {R : GR} {L : GL} {Z : Nat × Nat × Bool} (hR : Rok R) {P b : Nat} {q1 q2 : List Nat} (hP : P < 8) (hb : b < 128) (hq : QU R P (q1 ++ q2)) (hn : N 5 P 6 = (q1 ++ q2).length) (hl : (q1 ++ q2).length < 16) (hm : ∀ a, a ∈ q1 ++ q2 → a < 128) (hbo : ∀ a, a < 128 → N 2 a 5 < 2 ^ 28) (h1 : ∀ a, a ∈ q1 → N 2 a 5 ≤ N 2 b 5) (h2 : ∀ a, a ∈ q2 → N 2 b 5 < N 2 a 5) : ∃ R', exec X 38 [vR 5 P, vR 2 b] (gg (nW N) R L Z) = some (.inl none, gg (nW (up3 N 5 P 6 (N 5 P 6 + 1))) R' L Z) ∧ Rok R' ∧ QU R' P (q1 ++ b :: q2) ∧ ∀ k i s, ¬ (k = 19 ∧ i = P) → R' k i s = R k i s := by
  have hlen : (q1 ++ q2).length = q1.length + q2.length := List.length_append
  generalize hN : N 5 P 6 = n at hn
  have hbb := hbo b hb
  refine ⟨up3 (rsU R P q1.length n) 19 P q1.length (some b), ?_, ?_, ?_, ?_⟩
  · have key : ∀ m, m ≤ q2.length → ex X 38 5 [vR 5 P, vR 2 b, vI (nI (n - m))] [] (gg (nW N) (rsU R P (n - m) n) L Z) = some (.inl none, gg (nW (up3 N 5 P 6 (n + 1))) (up3 (rsU R P q1.length n) 19 P q1.length (some b)) L Z) := by
      refine down _ ?_ ?_
      · have e1 : n - q2.length = q1.length := by omega
        rw [e1, x38_5]
        have hRu : Rok (rsU R P q1.length n) := Rok_u hR
        by_cases q : 0 < q1.length
        · obtain ⟨x, hx⟩ : ∃ x, q1.length = x + 1 := ⟨q1.length - 1, by omega⟩
          have hxl : x < q1.length := by omega
          have ea : (rsU R P q1.length n) 19 P x = some ((q1 ++ q2).getD x 0) := by
            unfold rsU
            rw [if_neg (by omega)]
            exact hq x (by omega)
          have em : (q1 ++ q2).getD x 0 ∈ q1 := by
            rw [gD_l hxl, List.getD_eq_getElem?_getD, List.getElem?_eq_getElem hxl]
            exact List.getElem_mem hxl
          have c := h1 _ em
          have hlt := hm _ (List.mem_append_left _ em)
          have hbd := hbo _ hlt
          generalize (q1 ++ q2).getD x 0 = a at ea c hlt hbd
          have ps : nI (x + 1) - nI 1 = nI x := by rw [pk_sub (by omega)]; rfl
          have c' : ¬ N 2 b 5 < N 2 a 5 := by omega
          rw [hx] at ea hRu ⊢
          have hR2 : Rok (up3 (rsU R P (x + 1) n) 19 P (x + 1) (some b)) := Rok_d (fun _ => rfl) hRu
          have q0 : 0 < x + 1 := by omega
          simp (disch := first | assumption | omega | exact nI_or0 | exact nI_or1 | exact bN_or _) only [x38_6, x38_9, x38_10, x38_13, x38_14, x38_15, x38_16, x38_17, x38_20, x38_21, x38_24, x38_27, x38_28, x38_31, x38_32, x38_33, x38_36, x38_37, x38_38, x38_39, x38_40, x38_41, x38_44, x38_47, x38_48, x38_51, x38_52, x38_53, x38_54, x38_55, x38_56, x38_59, x38_60, x38_61, x38_64, reduceIte, Nat.reduceLT, nW_ap, nW_up, nI_add, pk_mul, nI_ltI, nI_eq, if_true, if_false, kont_r, kont_v, Nat.reduceAdd, Nat.reduceMul, Nat.not_lt, not_true_eq_false, not_false_eq_true, Nat.one_ne_zero, Nat.reduceEqDiff, Nat.lt_irrefl, reduceCtorEq, nI_or0, nI_or1, q0, ps, ea, c', hN]
        · have e0 : q1.length = 0 := by omega
          rw [e0] at hRu ⊢
          have hR2 : Rok (up3 (rsU R P 0 n) 19 P 0 (some b)) := Rok_d (fun _ => rfl) hRu
          simp (disch := first | assumption | omega | exact nI_or0 | exact nI_or1 | exact bN_or _) only [x38_6, x38_9, x38_10, x38_13, x38_14, x38_15, x38_16, x38_17, x38_20, x38_21, x38_24, x38_27, x38_28, x38_31, x38_32, x38_33, x38_36, x38_37, x38_38, x38_39, x38_40, x38_41, x38_44, x38_47, x38_48, x38_51, x38_52, x38_53, x38_54, x38_55, x38_56, x38_59, x38_60, x38_61, x38_64, reduceIte, Nat.reduceLT, nW_ap, nW_up, nI_add, pk_mul, nI_ltI, nI_eq, if_true, if_false, kont_r, kont_v, Nat.reduceAdd, Nat.reduceMul, Nat.not_lt, not_true_eq_false, not_false_eq_true, Nat.one_ne_zero, Nat.reduceEqDiff, Nat.lt_irrefl, reduceCtorEq, nI_or0, nI_or1, hN]
      · intro m hm2 ih
        obtain ⟨x, hx⟩ : ∃ x, n - m = x + 1 := ⟨n - m - 1, by omega⟩
        have hx2 : n - (m + 1) = x := by omega
        rw [hx]
        rw [hx2] at ih
        have hxl : q1.length ≤ x := by omega
        have hxl2 : x - q1.length < q2.length := by omega
        have hq' := hq x (by omega)
        have em : (q1 ++ q2).getD x 0 ∈ q2 := by
          rw [gD_r hxl, List.getD_eq_getElem?_getD, List.getElem?_eq_getElem hxl2]
          exact List.getElem_mem hxl2
        have c := h2 _ em
        have hlt := hm _ (List.mem_append_right _ em)
        have hbd := hbo _ hlt
        have su := rsU_s (R := R) (P := P) (a := x) (n := n) (by omega)
        rw [hq'] at su
        have ea : (rsU R P (x + 1) n) 19 P x = some ((q1 ++ q2).getD x 0) := by
          unfold rsU
          rw [if_neg (by omega)]
          exact hq'
        generalize (q1 ++ q2).getD x 0 = a at ea c hlt hbd su
        have hRu : Rok (rsU R P (x + 1) n) := Rok_u hR
        have ps : nI (x + 1) - nI 1 = nI x := by rw [pk_sub (by omega)]; rfl
        have q0 : 0 < x + 1 := by omega
        rw [x38_5]
        simp (disch := first | assumption | omega | exact nI_or0 | exact nI_or1 | exact bN_or _) only [x38_6, x38_9, x38_10, x38_13, x38_14, x38_15, x38_16, x38_17, x38_20, x38_21, x38_24, x38_27, x38_28, x38_31, x38_32, x38_33, x38_36, x38_37, x38_38, x38_39, x38_40, x38_41, x38_44, reduceIte, Nat.reduceLT, nW_ap, nW_up, nI_add, pk_mul, nI_ltI, nI_eq, if_true, if_false, kont_r, kont_v, Nat.reduceAdd, Nat.reduceMul, Nat.not_lt, not_true_eq_false, not_false_eq_true, Nat.one_ne_zero, Nat.reduceEqDiff, Nat.lt_irrefl, reduceCtorEq, nI_or0, nI_or1, q0, ps, ea, c, su, pk_m1]
        exact ih
    have h0 := key 0 (Nat.zero_le _)
    rw [Nat.sub_zero, rsU_0] at h0
    simp (disch := first | assumption | omega | exact nI_or0 | exact nI_or1 | exact bN_or _) only [in38, x38_0, x38_1, x38_4, reduceIte, Nat.reduceLT, nW_ap, nW_up, nI_add, pk_mul, nI_ltI, nI_eq, if_true, if_false, kont_r, kont_v, Nat.reduceAdd, Nat.reduceMul, Nat.not_lt, not_true_eq_false, not_false_eq_true, Nat.one_ne_zero, Nat.reduceEqDiff, Nat.lt_irrefl, reduceCtorEq, nI_or0, nI_or1, hN]
    exact h0
  · exact Rok_d (fun _ => rfl) (Rok_u hR)
  · intro k hk
    have hk : k < (q1 ++ b :: q2).length := hk
    rw [List.length_append, List.length_cons] at hk
    unfold up3 rsU
    by_cases e1 : k = q1.length
    · rw [if_pos ⟨rfl, rfl, e1⟩, gD_r (by omega), e1, Nat.sub_self]; rfl
    · rw [if_neg fun q => e1 q.2.2]
      by_cases e2 : k < q1.length
      · rw [if_neg (by omega), hq k (by omega), gD_l e2, gD_l e2]
      · obtain ⟨y, hy⟩ : ∃ y, k = y + 1 := ⟨k - 1, by omega⟩
        subst hy
        rw [if_pos ⟨rfl, rfl, by omega, by omega⟩, Nat.add_sub_cancel, hq y (by omega), gD_r (by omega), gD_r (by omega)]
        obtain ⟨z, hz⟩ : ∃ z, y + 1 - q1.length = z + 1 := ⟨y - q1.length, by omega⟩
        rw [hz, show y - q1.length = z by omega]
        rfl
  · intro k i s hk
    unfold up3 rsU
    rw [if_neg fun q => hk ⟨q.1, q.2.1⟩, if_neg fun q => hk ⟨q.1, q.2.1⟩]
