/-! the reference's work on jobs -/
def finN (N : GV) (j : Nat) : GV := if j % 2 = 0 then endN (up3 N 22 0 (13 + 10 * (j / 2) + 5) 0) j else endN (up3 (up3 N 22 0 (13 + 10 * (j / 2) + 2) 0) 22 0 (13 + 10 * (j / 2) + 8) (N 22 0 (13 + 10 * (j / 2) + 8) + 1)) j
theorem t112f {X : XS} {N : GV} {R : GR} {L : GL} {Z : Nat × Nat × Bool} (hR : Rok R) {j : Nat} (hj : j < 16) : exec X 112 [vR 7 0, vI (nI j)] (gg (nW N) R L Z) = some (.inl none, (gg (nW (finN N j)) R L Z)) := t112 hR hj
/-- what the job j still needs -/
def ndJ (S : Nat → Nat) (j : Nat) : Nat := (if j % 2 = 0 then 6 else 2) - S (93 + 3 * j + 2)
def wrkH (f : Bool) (N : GV) (left j : Nat) : Nat := if f = true ∧ j % 2 = 0 then 0 else min (ndJ (N 22 0) j) left
def wrkM (N : GV) (h j : Nat) : GV := up3 (up3 (up3 (up3 N 27 0 j 1) 22 0 11 (N 22 0 11 + h)) 22 0 10 (N 22 0 10 + h * N 22 0 4)) 22 0 (93 + 3 * j + 2) (N 22 0 (93 + 3 * j + 2) + h)
def wrk1 (f : Bool) (N : GV) (left j : Nat) : GV := if wrkH f N left j = ndJ (N 22 0) j then finN (wrkM N (wrkH f N left j) j) j else wrkM N (wrkH f N left j) j
def WOk (S : Nat → Nat) : Prop := ∀ j, j < 16 → S (93 + 3 * j + 2) ≤ if j % 2 = 0 then 6 else 2
theorem ndJ_lt {S : Nat → Nat} {j : Nat} : ndJ S j ≤ 6 := by unfold ndJ; split <;> omega
theorem ndJ_27 {N : GV} {i s v j : Nat} : ndJ ((up3 N 27 i s v) 22 0) j = ndJ (N 22 0) j := by
  unfold ndJ
  rw [up3_k _ _ (by decide)]
theorem t106f {X : XS} {N : GV} {R : GR} {L : GL} {Z : Nat × Nat × Bool} (hR : Rok R) {j : Nat} (hj : j < 16) (hW : WOk (N 22 0)) : exec X 106 [vR 7 0, vI (nI j)] (gg (nW (up3 N 27 0 j 1)) R L Z) = some (.inl (some (vI (nI (ndJ (N 22 0) j)))), (gg (nW (up3 N 27 0 j 1)) R L Z)) := by
  have h := t106 (X := X) (N := up3 N 27 0 j 1) (L := L) (Z := Z) hR hj (by rw [up3_k _ _ (by decide)]; exact hW j hj)
  rw [h]
  rw [up3_k _ _ (by decide)]
  rfl
theorem a113 {X : XS} {N : GV} {R : GR} {L : GL} {Z : Nat × Nat × Bool} (hR : Rok R) (hW : WOk (N 22 0)) {f : Bool} {left j : Nat} {l4 l5 : AV} (hj : j < 16) (hl : left < 2 ^ 28) : ex X 113 16 [vR 7 0, vI (nI (bN f)), vI (nI left), vI (nI j), l4, l5] [] (gg (nW N) R L Z) = ex X 113 129 [vR 7 0, vI (nI (bN f)), vI (nI (left - wrkH f N left j)), vI (nI j), vI (nI (ndJ (N 22 0) j)), vI (nI (wrkH f N left j))] [] (gg (nW (wrk1 f N left j)) R L Z) := by
  have hn := t106f (X := X) (L := L) (Z := Z) hR hj hW
  have hz := ndJ_lt (S := N 22 0) (j := j)
  have h2 : ¬ nI 2 = 0 := by decide
  have hm1 := nI_m1 (n := j) (by omega)
  have g1 : ¬ 22 = 27 := by decide
  have g2 : ¬ 10 = 11 := by decide
  have g3 : ¬ 4 = 11 := by decide
  have g4 : ¬ 93 + 3 * j + 2 = 10 := by omega
  have g5 : ¬ 93 + 3 * j + 2 = 11 := by omega
  rw [x113_16]
  unfold wrk1 wrkM
  generalize hk : wrkH f N left j = k
  unfold wrkH at hk
  generalize hd : ndJ (N 22 0) j = nd at hn hz hk ⊢
  have hfin : ∀ M : GV, exec X 112 [vR 7 0, vI (nI j)] (gg (nW (M)) R L Z) = some (.inl none, (gg (nW (finN M j)) R L Z)) := fun M => t112f hR hj
  have tail : ∀ {l5' : AV}, k ≤ left → k ≤ 6 → ex X 113 61 [vR 7 0, vI (nI (bN f)), vI (nI left), vI (nI j), vI (nI nd), l5'] [vI (nI k)] (gg (nW (up3 N 27 0 j 1)) R L Z) = ex X 113 129 [vR 7 0, vI (nI (bN f)), vI (nI (left - k)), vI (nI j), vI (nI nd), vI (nI k)] [] (gg (nW (if k = nd then finN (up3 (up3 (up3 (up3 N 27 0 j 1) 22 0 11 (N 22 0 11 + k)) 22 0 10 (N 22 0 10 + k * N 22 0 4)) 22 0 (93 + 3 * j + 2) (N 22 0 (93 + 3 * j + 2) + k)) j else up3 (up3 (up3 (up3 N 27 0 j 1) 22 0 11 (N 22 0 11 + k)) 22 0 10 (N 22 0 10 + k * N 22 0 4)) 22 0 (93 + 3 * j + 2) (N 22 0 (93 + 3 * j + 2) + k))) R L Z) := fun hkl hk6 => by
    by_cases q : k = nd
    · simp (disch := first | assumption | omega | exact nI_or0 | exact nI_or1) only [x113_61, x113_63, x113_64, x113_66, x113_67, x113_68, x113_69, x113_72, x113_74, x113_75, x113_76, x113_78, x113_79, x113_80, x113_81, x113_84, x113_86, x113_87, x113_88, x113_90, x113_91, x113_94, x113_95, x113_96, x113_97, x113_98, x113_99, x113_100, x113_103, x113_105, x113_106, x113_107, x113_108, x113_109, x113_110, x113_111, x113_112, x113_113, x113_115, x113_116, x113_117, x113_119, x113_121, x113_124, x113_125, x113_126, reduceIte, Nat.reduceLT, nW_ap, nW_up, nI_add, pk_mul, nI_ltI, nI_eq, if_true, if_false, kont_r, kont_v, Nat.reduceAdd, Nat.reduceMul, Nat.not_lt, not_true_eq_false, not_false_eq_true, Nat.one_ne_zero, Nat.reduceEqDiff, Nat.lt_irrefl, reduceCtorEq, nI_or0, nI_or1, pk_sub, hfin, q, up3_s _ _ g2, up3_s _ _ g3, up3_s _ _ g4, up3_s _ _ g5, up3_k _ _ g1]
    · simp (disch := first | assumption | omega | exact nI_or0 | exact nI_or1) only [x113_61, x113_63, x113_64, x113_66, x113_67, x113_68, x113_69, x113_72, x113_74, x113_75, x113_76, x113_78, x113_79, x113_80, x113_81, x113_84, x113_86, x113_87, x113_88, x113_90, x113_91, x113_94, x113_95, x113_96, x113_97, x113_98, x113_99, x113_100, x113_103, x113_105, x113_106, x113_107, x113_108, x113_109, x113_110, x113_111, x113_112, x113_113, x113_115, x113_116, x113_117, x113_119, x113_121, x113_124, x113_125, x113_126, reduceIte, Nat.reduceLT, nW_ap, nW_up, nI_add, pk_mul, nI_ltI, nI_eq, if_true, if_false, kont_r, kont_v, Nat.reduceAdd, Nat.reduceMul, Nat.not_lt, not_true_eq_false, not_false_eq_true, Nat.one_ne_zero, Nat.reduceEqDiff, Nat.lt_irrefl, reduceCtorEq, nI_or0, nI_or1, pk_sub, hfin, q, up3_s _ _ g2, up3_s _ _ g3, up3_s _ _ g4, up3_s _ _ g5, up3_k _ _ g1]
  rw [← tail (l5' := l5) (by split at hk <;> omega) (by split at hk <;> omega)]
  cases f with
  | false =>
    rw [if_neg fun h => by cases h.1] at hk
    by_cases q : nd < left
    · have e : nd = k := by omega
      subst e
      simp (disch := first | assumption | omega | exact nI_or0 | exact nI_or1) only [x113_17, x113_18, x113_21, x113_22, x113_25, x113_26, x113_27, x113_28, x113_29, x113_30, x113_33, x113_35, x113_36, x113_39, x113_40, x113_41, x113_42, x113_45, x113_46, x113_49, x113_51, x113_52, x113_55, x113_57, x113_60, reduceIte, Nat.reduceLT, nW_ap, nW_up, nI_add, pk_mul, nI_ltI, nI_eq, if_true, if_false, kont_r, kont_v, Nat.reduceAdd, Nat.reduceMul, Nat.not_lt, not_true_eq_false, not_false_eq_true, Nat.one_ne_zero, Nat.reduceEqDiff, Nat.lt_irrefl, reduceCtorEq, nI_or0, nI_or1, hm1, bN, Bool.false_eq_true, hn, q]
    · have e : left = k := by omega
      subst e
      simp (disch := first | assumption | omega | exact nI_or0 | exact nI_or1) only [x113_17, x113_18, x113_21, x113_22, x113_25, x113_26, x113_27, x113_28, x113_29, x113_30, x113_33, x113_35, x113_36, x113_39, x113_40, x113_41, x113_42, x113_45, x113_46, x113_49, x113_51, x113_52, x113_55, x113_57, x113_60, reduceIte, Nat.reduceLT, nW_ap, nW_up, nI_add, pk_mul, nI_ltI, nI_eq, if_true, if_false, kont_r, kont_v, Nat.reduceAdd, Nat.reduceMul, Nat.not_lt, not_true_eq_false, not_false_eq_true, Nat.one_ne_zero, Nat.reduceEqDiff, Nat.lt_irrefl, reduceCtorEq, nI_or0, nI_or1, hm1, bN, Bool.false_eq_true, hn, q]
  | true =>
    by_cases q0 : j % 2 = 0
    · rw [if_pos ⟨rfl, q0⟩] at hk
      subst hk
      simp (disch := first | assumption | omega | exact nI_or0 | exact nI_or1) only [x113_17, x113_18, x113_21, x113_22, x113_25, x113_26, x113_27, x113_28, x113_29, x113_30, x113_33, x113_35, x113_36, x113_39, x113_40, x113_41, x113_42, x113_45, x113_46, x113_49, x113_51, x113_52, x113_55, x113_57, x113_60, reduceIte, Nat.reduceLT, nW_ap, nW_up, nI_add, pk_mul, nI_ltI, nI_eq, if_true, if_false, kont_r, kont_v, Nat.reduceAdd, Nat.reduceMul, Nat.not_lt, not_true_eq_false, not_false_eq_true, Nat.one_ne_zero, Nat.reduceEqDiff, Nat.lt_irrefl, reduceCtorEq, nI_or0, nI_or1, hm1, bN, hn, pk_rem, q0]
    · rw [if_neg fun h => q0 h.2] at hk
      by_cases q : nd < left
      · have e : nd = k := by omega
        subst e
        simp (disch := first | assumption | omega | exact nI_or0 | exact nI_or1) only [x113_17, x113_18, x113_21, x113_22, x113_25, x113_26, x113_27, x113_28, x113_29, x113_30, x113_33, x113_35, x113_36, x113_39, x113_40, x113_41, x113_42, x113_45, x113_46, x113_49, x113_51, x113_52, x113_55, x113_57, x113_60, reduceIte, Nat.reduceLT, nW_ap, nW_up, nI_add, pk_mul, nI_ltI, nI_eq, if_true, if_false, kont_r, kont_v, Nat.reduceAdd, Nat.reduceMul, Nat.not_lt, not_true_eq_false, not_false_eq_true, Nat.one_ne_zero, Nat.reduceEqDiff, Nat.lt_irrefl, reduceCtorEq, nI_or0, nI_or1, hm1, bN, hn, q, pk_rem, q0]
      · have e : left = k := by omega
        subst e
        simp (disch := first | assumption | omega | exact nI_or0 | exact nI_or1) only [x113_17, x113_18, x113_21, x113_22, x113_25, x113_26, x113_27, x113_28, x113_29, x113_30, x113_33, x113_35, x113_36, x113_39, x113_40, x113_41, x113_42, x113_45, x113_46, x113_49, x113_51, x113_52, x113_55, x113_57, x113_60, reduceIte, Nat.reduceLT, nW_ap, nW_up, nI_add, pk_mul, nI_ltI, nI_eq, if_true, if_false, kont_r, kont_v, Nat.reduceAdd, Nat.reduceMul, Nat.not_lt, not_true_eq_false, not_false_eq_true, Nat.one_ne_zero, Nat.reduceEqDiff, Nat.lt_irrefl, reduceCtorEq, nI_or0, nI_or1, hm1, bN, hn, q, pk_rem, q0]
/-- the jobs not gone through -/
def undone (D : Nat → Nat) : Nat := sumN 16 fun j => bN (decide (D j = 0))
def wrkN (f : Bool) : Nat → GV → Nat → GV
  | 0, N, _ => N
  | n + 1, N, left => match nxtJ (N 22 0) (N 27 0) 16 with
    | none => N
    | some j => wrkN f n (wrk1 f N left j) (left - wrkH f N left j)
theorem nxtJ_1 {S D : Nat → Nat} : ∀ {k j : Nat}, nxtJ S D k = some j → S (93 + 3 * j) = 1 ∧ D j = 0 := by
  intro k
  induction k with
  | zero => intro j h; simp [nxtJ] at h
  | succ k ih =>
    intro j h
    by_cases q : S (93 + 3 * k) = 1 ∧ D k = 0 ∧ (match nxtJ S D k with | none => true | some b => ahd S k b) = true
    · have e : nxtJ S D (k + 1) = some k := if_pos q
      rw [e] at h; cases h; exact ⟨q.1, q.2.1⟩
    · have e : nxtJ S D (k + 1) = nxtJ S D k := if_neg q
      rw [e] at h; exact ih h
theorem nxtJ_0 {S D : Nat → Nat} (h : ∀ j, j < 16 → ¬ D j = 0) : ∀ k, k ≤ 16 → nxtJ S D k = none := by
  intro k
  induction k with
  | zero => intro _; rfl
  | succ k ih =>
    intro hk
    have e : nxtJ S D (k + 1) = nxtJ S D k := if_neg fun q => h k (by omega) q.2.1
    rw [e]; exact ih (by omega)
theorem sumN_c {f g : Nat → Nat} : ∀ {n : Nat}, (∀ j, j < n → f j = g j) → sumN n f = sumN n g := by
  intro n
  induction n with
  | zero => intro _; rfl
  | succ n ih => intro h; simp only [sumN]; rw [ih fun j hj => h j (by omega), h n (by omega)]
theorem sumN_0 {f : Nat → Nat} : ∀ {n : Nat}, sumN n f = 0 → ∀ j, j < n → f j = 0 := by
  intro n
  induction n with
  | zero => intro _ j hj; omega
  | succ n ih =>
    intro h j hj
    simp only [sumN] at h
    by_cases q : j = n
    · subst q; omega
    · exact ih (by omega) j (by omega)
theorem sumN_1 {f g : Nat → Nat} {a : Nat} (h : ∀ j, ¬ j = a → f j = g j) (ha : g a + 1 = f a) : ∀ {n : Nat}, a < n → sumN n g + 1 = sumN n f := by
  intro n
  induction n with
  | zero => intro q; omega
  | succ n ih =>
    intro q
    simp only [sumN]
    by_cases e : a = n
    · subst e
      rw [sumN_c (g := g) fun j hj => h j (by omega)]
      omega
    · have := ih (by omega)
      have := h n (by omega)
      omega
theorem end_k {N : GV} {j k i s : Nat} (h : ¬ k = 22) : endN N j k i s = N k i s := by
  unfold endN
  rw [up3_k _ _ h, up3_k _ _ h, up3_k _ _ h]
theorem fin_k {N : GV} {j k i s : Nat} (h : ¬ k = 22) : finN N j k i s = N k i s := by
  unfold finN
  split
  · rw [end_k h, up3_k _ _ h]
  · rw [end_k h, up3_k _ _ h, up3_k _ _ h]
theorem wrk1_k {f : Bool} {N : GV} {l j k i s : Nat} (h : ¬ k = 22) : wrk1 f N l j k i s = up3 N 27 0 j 1 k i s := by
  unfold wrk1
  split
  · rw [fin_k h]; unfold wrkM; rw [up3_k _ _ h, up3_k _ _ h, up3_k _ _ h]
  · unfold wrkM; rw [up3_k _ _ h, up3_k _ _ h, up3_k _ _ h]
theorem Lt31_27 {N : GV} {i s v : Nat} (h : Lt31 (N 22 0)) : Lt31 ((up3 N 27 i s v) 22 0) := fun j hj => by rw [up3_k _ _ (by decide)]; exact h j hj
theorem Lt31_fin {N : GV} {j : Nat} (hj : j < 16) (h : Lt31 (N 22 0)) : Lt31 ((finN N j) 22 0) := by
  unfold finN
  split
  · exact Lt31_end (Lt31_up h fun _ => by omega)
  · exact Lt31_end (Lt31_up (Lt31_up h fun _ => by omega) fun q => by omega)
theorem wrkH_le {f : Bool} {N : GV} {l j : Nat} : wrkH f N l j ≤ ndJ (N 22 0) j ∧ wrkH f N l j ≤ l := by
  unfold wrkH
  split <;> omega
theorem Lt31_wrk {f : Bool} {N : GV} {l j : Nat} (hj : j < 16) (h : Lt31 (N 22 0)) (hW : WOk (N 22 0)) : Lt31 ((wrk1 f N l j) 22 0) := by
  have q1 := (wrkH_le (f := f) (N := N) (l := l) (j := j)).1
  have q2 := ndJ_lt (S := N 22 0) (j := j)
  have q3 := hW j hj
  have q4 : (if j % 2 = 0 then 6 else 2) ≤ 6 := by split <;> omega
  have hM : ∀ k, k ≤ 6 → Lt31 ((wrkM N k j) 22 0) := fun k hk => Lt31_up (Lt31_up (Lt31_up (Lt31_27 h) fun q => by omega) fun q => by omega) fun _ => by omega
  unfold wrk1
  split
  · exact Lt31_fin hj (hM _ (by omega))
  · exact hM _ (by omega)
