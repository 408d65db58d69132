/-! the reference's day -/
theorem up27 {N : GV} {j i : Nat} : (up3 N 27 0 j 1) 27 0 i = if i = j then 1 else N 27 0 i := by
  by_cases h : i = j
  · subst h; rw [up3_self, if_pos rfl]
  · rw [up3_s _ _ h, if_neg h]
theorem wrk1_D {f : Bool} {N : GV} {l j i : Nat} : (wrk1 f N l j) 27 0 i = if i = j then 1 else N 27 0 i := by rw [wrk1_k (by decide), up27]
theorem WOk_up {N : GV} {s v : Nat} (h : WOk (N 22 0)) (hv : ∀ j, j < 16 → s = 93 + 3 * j + 2 → v ≤ if j % 2 = 0 then 6 else 2) : WOk ((up3 N 22 0 s v) 22 0) := by
  intro j hj
  by_cases q : 93 + 3 * j + 2 = s
  · rw [← q, up3_self]; exact hv j hj q.symm
  · rw [up3_s _ _ q]; exact h j hj
theorem WOk_27 {N : GV} {i s v : Nat} (h : WOk (N 22 0)) : WOk ((up3 N 27 i s v) 22 0) := fun j hj => by rw [up3_k _ _ (by decide)]; exact h j hj
theorem WOk_end {N : GV} {j : Nat} (h : WOk (N 22 0)) : WOk ((endN N j) 22 0) := WOk_up (WOk_up (WOk_up h fun _ _ _ => Nat.zero_le _) fun _ _ _ => Nat.zero_le _) fun _ _ _ => Nat.zero_le _
theorem WOk_fin {N : GV} {j : Nat} (hj : j < 16) (h : WOk (N 22 0)) : WOk ((finN N j) 22 0) := by
  unfold finN
  split
  · exact WOk_end (WOk_up h fun _ _ _ => Nat.zero_le _)
  · exact WOk_end (WOk_up (WOk_up h fun _ _ _ => Nat.zero_le _) fun i _ _ => by omega)
theorem WOk_wrk {f : Bool} {N : GV} {l j : Nat} (hj : j < 16) (h : WOk (N 22 0)) : WOk ((wrk1 f N l j) 22 0) := by
  have q1 := (wrkH_le (f := f) (N := N) (l := l) (j := j)).1
  have q3 := h j hj
  have hM : ∀ k, k ≤ ndJ (N 22 0) j → WOk ((wrkM N k j) 22 0) := fun k hk => by
    unfold ndJ at hk
    refine WOk_up (WOk_up (WOk_up (WOk_27 h) fun i _ q => by omega) fun i _ q => by omega) fun i _ q => ?_
    have e : i = j := by omega
    subst e
    omega
  unfold wrk1
  split
  · exact WOk_fin hj (hM _ q1)
  · exact hM _ q1
theorem und_1 {D D' : Nat → Nat} {a : Nat} (ha : a < 16) (h0 : D a = 0) (hD : ∀ i, D' i = if i = a then 1 else D i) : undone D' + 1 = undone D := by
  refine sumN_1 (a := a) (fun j hj => ?_) ?_ ha
  · show bN (decide (D j = 0)) = bN (decide (D' j = 0))
    rw [hD, if_neg hj]
  · show bN (decide (D' a = 0)) + 1 = bN (decide (D a = 0))
    rw [hD, if_pos rfl, h0]; rfl
theorem und_0 {D : Nat → Nat} (h : undone D = 0) : ∀ j, j < 16 → ¬ D j = 0 := fun j hj q => by
  have := sumN_0 h j hj
  simp [q, bN] at this
theorem l113 {X : XS} {R : GR} {L : GL} {Z : Nat × Nat × Bool} (hR : Rok R) {f : Bool} : ∀ (n : Nat) (N : GV) (left : Nat) (l4 l5 : AV), Lt31 (N 22 0) → WOk (N 22 0) → (∀ j, j < 16 → N 27 0 j ≤ 1) → left < 2 ^ 28 → undone (N 27 0) ≤ n → ex X 113 16 [vR 7 0, vI (nI (bN f)), vI (nI left), vI (oI (nxtJ (N 22 0) (N 27 0) 16)), l4, l5] [] (gg (nW N) R L Z) = some (.inl none, (gg (nW (wrkN f n N left)) R L Z)) := by
  intro n
  induction n with
  | zero =>
    intro N left l4 l5 hB hW hD hl hu
    have e : nxtJ (N 22 0) (N 27 0) 16 = none := nxtJ_0 (und_0 (by omega)) 16 (Nat.le_refl _)
    rw [x113_16]
    simp (disch := first | assumption | omega | exact nI_or0 | exact nI_or1) only [x113_17, x113_18, x113_137, reduceIte, Nat.reduceLT, nW_ap, nW_up, nI_add, pk_mul, nI_ltI, nI_eq, if_true, if_false, kont_r, kont_v, Nat.reduceAdd, Nat.reduceMul, Nat.not_lt, not_true_eq_false, not_false_eq_true, Nat.one_ne_zero, Nat.reduceEqDiff, Nat.lt_irrefl, reduceCtorEq, nI_or0, nI_or1, e, oI]
    rfl
  | succ n ih =>
    intro N left l4 l5 hB hW hD hl hu
    cases e : nxtJ (N 22 0) (N 27 0) 16 with
    | none =>
      rw [x113_16]
      simp (disch := first | assumption | omega | exact nI_or0 | exact nI_or1) only [x113_17, x113_18, x113_137, reduceIte, Nat.reduceLT, nW_ap, nW_up, nI_add, pk_mul, nI_ltI, nI_eq, if_true, if_false, kont_r, kont_v, Nat.reduceAdd, Nat.reduceMul, Nat.not_lt, not_true_eq_false, not_false_eq_true, Nat.one_ne_zero, Nat.reduceEqDiff, Nat.lt_irrefl, reduceCtorEq, nI_or0, nI_or1, oI]
      simp only [wrkN, e]
    | some j =>
      have hj := nxtJ_lt e
      have h0 := (nxtJ_1 e).2
      have hu2 := und_1 (D' := (wrk1 f N left j) 27 0) hj h0 fun i => wrk1_D
      have hB2 := Lt31_wrk (f := f) (l := left) hj hB hW
      have hW2 := WOk_wrk (f := f) (l := left) hj hW
      have hD2 : ∀ i, i < 16 → (wrk1 f N left j) 27 0 i ≤ 1 := fun i hi => by
        rw [wrk1_D]; split
        · exact Nat.le_refl _
        · exact hD i hi
      have hn := t109 (X := X) (L := L) (Z := Z) hR hB2 hD2
      have h := ih (wrk1 f N left j) (left - wrkH f N left j) (vI (nI (ndJ (N 22 0) j))) (vI (nI (wrkH f N left j))) hB2 hW2 hD2 (by omega) (by omega)
      simp only [wrkN, e]
      rw [← h]
      show ex X 113 16 [vR 7 0, vI (nI (bN f)), vI (nI left), vI (nI j), l4, l5] [] (gg (nW N) R L Z) = _
      rw [a113 hR hW hj hl]
      generalize wrk1 f N left j = M at hn ⊢
      simp (disch := first | assumption | omega | exact nI_or0 | exact nI_or1) only [x113_129, x113_130, x113_133, x113_134, kont_r, Nat.reduceAdd, hn]
/-- opening a round -/
def opnN (N : GV) : GV := rowTo N 27 0 17 fun _ => 0
theorem opn_k {N : GV} {k i s : Nat} (h : ¬ k = 27) : opnN N k i s = N k i s := rowTo_k h
theorem opn_0 {N : GV} {s : Nat} (h : s < 17) : opnN N 27 0 s = 0 := rowTo_in h
theorem t110' {X : XS} {N : GV} {R : GR} {L : GL} {Z : Nat × Nat × Bool} (hR : Rok R) : exec X 110 [vR 7 0] (gg (nW N) R L Z) = some (.inl none, (gg (nW (opnN N)) R L Z)) := t110 hR
theorem opn_22 {N : GV} : (opnN N) 22 = N 22 := by funext i s; exact opn_k (by decide)
def works (f : Bool) (N : GV) : GV := wrkN f 16 (opnN N) (N 22 0 0)
theorem sumN_le {f : Nat → Nat} {a : Nat} : ∀ {n : Nat}, (∀ j, j < n → f j ≤ a) → sumN n f ≤ n * a := by
  intro n
  induction n with
  | zero => intro _; exact Nat.zero_le _
  | succ n ih => intro h; have := ih fun j hj => h j (by omega); have := h n (by omega); simp only [sumN]; rw [Nat.succ_mul]; omega
theorem t113 {X : XS} {N : GV} {R : GR} {L : GL} {Z : Nat × Nat × Bool} (hR : Rok R) (hB : Lt31 (N 22 0)) (hW : WOk (N 22 0)) {f : Bool} : exec X 113 [vR 7 0, vI (nI (bN f))] (gg (nW N) R L Z) = some (.inl none, (gg (nW (works f N)) R L Z)) := by
  have hD : ∀ j, j < 16 → (opnN N) 27 0 j ≤ 1 := fun j hj => by rw [opn_0 (by omega)]; omega
  have b0 := hB 0 (by omega)
  have e22 : (opnN N) 22 0 = N 22 0 := by rw [opn_22]
  have hn := t109 (X := X) (N := opnN N) (L := L) (Z := Z) hR (by rw [e22]; exact hB) hD
  have hu : undone ((opnN N) 27 0) ≤ 16 := sumN_le (a := 1) (n := 16) fun j _ => bN_le _
  have h := l113 (X := X) (L := L) (Z := Z) hR (f := f) 16 (opnN N) (N 22 0 0) vU vU (by rw [e22]; exact hB) (by rw [e22]; exact hW) hD b0 hu
  have ho := t110' (X := X) (N := N) (L := L) (Z := Z) hR
  have e0 : (opnN N) 22 0 0 = N 22 0 0 := by rw [e22]
  simp (disch := first | assumption | omega | exact nI_or0 | exact nI_or1) only [in113, x113_0, x113_1, x113_4, x113_5, x113_8, x113_9, x113_10, x113_11, x113_12, x113_15, reduceIte, Nat.reduceLT, nW_ap, nW_up, nI_add, pk_mul, nI_ltI, nI_eq, if_true, if_false, kont_r, kont_v, Nat.reduceAdd, Nat.reduceMul, Nat.not_lt, not_true_eq_false, not_false_eq_true, Nat.one_ne_zero, Nat.reduceEqDiff, Nat.lt_irrefl, reduceCtorEq, nI_or0, nI_or1, ho, hn, e0]
  exact h
def apN (a b : Nat) : Nat := if a < b then b - a else a - b
theorem t115 {X : XS} {N : GV} {R : GR} {L : GL} {Z : Nat × Nat × Bool} {a b : Nat} (ha : a < 16) (hb : b < 16) : exec X 115 [vI (nI a), vI (nI b)] (gg (nW N) R L Z) = some (.inl (some (vI (nI (apN a b)))), (gg (nW N) R L Z)) := by
  unfold apN
  by_cases h : a < b
  · simp (disch := first | assumption | omega | exact nI_or0 | exact nI_or1) only [x115_0, x115_1, x115_2, x115_5, x115_6, x115_7, x115_8, x115_11, x115_12, x115_13, x115_14, in115, reduceIte, Nat.reduceLT, nW_ap, nW_up, nI_add, pk_mul, nI_ltI, nI_eq, if_true, if_false, kont_r, kont_v, Nat.reduceAdd, Nat.reduceMul, Nat.not_lt, not_true_eq_false, not_false_eq_true, Nat.one_ne_zero, Nat.reduceEqDiff, Nat.lt_irrefl, reduceCtorEq, nI_or0, nI_or1, h, pk_sub]
  · simp (disch := first | assumption | omega | exact nI_or0 | exact nI_or1) only [x115_0, x115_1, x115_2, x115_5, x115_6, x115_7, x115_8, x115_11, x115_12, x115_13, x115_14, in115, reduceIte, Nat.reduceLT, nW_ap, nW_up, nI_add, pk_mul, nI_ltI, nI_eq, if_true, if_false, kont_r, kont_v, Nat.reduceAdd, Nat.reduceMul, Nat.not_lt, not_true_eq_false, not_false_eq_true, Nat.one_ne_zero, Nat.reduceEqDiff, Nat.lt_irrefl, reduceCtorEq, nI_or0, nI_or1, h, pk_sub]
def nrN (A : Nat → Nat) (g : Nat) : Nat → Option Nat
  | 0 => none
  | k + 1 => if A k = 0 ∧ (match nrN A g k with | none => true | some b => decide (apN k g < apN b g)) = true then some k else nrN A g k
theorem nrN_lt {A : Nat → Nat} {g : Nat} : ∀ {k b : Nat}, nrN A g k = some b → b < k ∧ A b = 0 := by
  intro k
  induction k with
  | zero => intro b h; cases h
  | succ k ih =>
    intro b h
    by_cases q : A k = 0 ∧ (match nrN A g k with | none => true | some b => decide (apN k g < apN b g)) = true
    · rw [nrN, if_pos q] at h; cases h; exact ⟨by omega, q.1⟩
    · rw [nrN, if_neg q] at h; have := ih h; exact ⟨by omega, this.2⟩
theorem nrN_some {A : Nat → Nat} {g : Nat} : ∀ {k : Nat}, (∃ p, p < k ∧ A p = 0) → ∃ b, nrN A g k = some b := by
  intro k
  induction k with
  | zero => intro h; obtain ⟨p, h, _⟩ := h; omega
  | succ k ih =>
    intro h
    by_cases q : A k = 0 ∧ (match nrN A g k with | none => true | some b => decide (apN k g < apN b g)) = true
    · exact ⟨k, by rw [nrN, if_pos q]⟩
    · rw [nrN, if_neg q]
      obtain ⟨p, hp, h0⟩ := h
      by_cases e : p = k
      · subst e
        cases hn : nrN A g p with
        | none => exact absurd ⟨h0, by rw [hn]⟩ q
        | some b => exact ⟨b, rfl⟩
      · exact ih ⟨p, by omega, h0⟩
theorem apN_lt {a b : Nat} (ha : a < 16) (hb : b < 16) : apN a b < 16 := by unfold apN; split <;> omega
theorem t116 {X : XS} {N : GV} {R : GR} {L : GL} {Z : Nat × Nat × Bool} (hR : Rok R) (hA : ∀ p, p < 8 → N 28 0 p ≤ 1) {g : Nat} (hg : g < 16) : exec X 116 [vR 7 0, vI (nI g)] (gg (nW N) R L Z) = some (.inl (some (vI (oI (nrN (N 28 0) g 8)))), (gg (nW N) R L Z)) := by
  generalize hr : (some (.inl (some (vI (oI (nrN (N 28 0) g 8)))), (gg (nW N) R L Z)) : Option RS) = r
  have key : ∀ k, k ≤ 8 → ex X 116 4 [vR 7 0, vI (nI g), vI (oI (nrN (N 28 0) g k)), vI (nI k)] [] (gg (nW N) R L Z) = r := by
    refine down _ ?_ ?_
    · rw [x116_4]
      simp (disch := first | assumption | omega | exact nI_or0 | exact nI_or1) only [x116_5, x116_7, x116_10, x116_11, x116_14, x116_15, x116_16, x116_19, x116_20, x116_21, x116_24, x116_25, x116_26, x116_29, x116_30, x116_31, x116_34, x116_37, x116_38, x116_41, x116_42, x116_43, x116_46, x116_49, x116_50, reduceIte, Nat.reduceLT, nW_ap, nW_up, nI_add, pk_mul, nI_ltI, nI_eq, if_true, if_false, kont_r, kont_v, Nat.reduceAdd, Nat.reduceMul, Nat.not_lt, not_true_eq_false, not_false_eq_true, Nat.one_ne_zero, Nat.reduceEqDiff, Nat.lt_irrefl, reduceCtorEq, nI_or0, nI_or1]
      exact hr
    · intro k hk ih
      have b2 := hA k hk
      have d1 := t115 (X := X) (N := N) (R := R) (L := L) (Z := Z) (a := k) (b := g) (by omega) hg
      have m1 := apN_lt (a := k) (b := g) (by omega) hg
      rw [x116_4]
      simp only [nrN] at ih
      by_cases q : N 28 0 k = 0
      · cases hn : nrN (N 28 0) g k with
        | none =>
          simp only [hn, q, and_self, if_true] at ih
          simp (disch := first | assumption | omega | exact nI_or0 | exact nI_or1) only [x116_5, x116_7, x116_10, x116_11, x116_14, x116_15, x116_16, x116_19, x116_20, x116_21, x116_24, x116_25, x116_26, x116_29, x116_30, x116_31, x116_34, x116_37, x116_38, x116_41, x116_42, x116_43, x116_46, reduceIte, Nat.reduceLT, nW_ap, nW_up, nI_add, pk_mul, nI_ltI, nI_eq, if_true, if_false, kont_r, kont_v, Nat.reduceAdd, Nat.reduceMul, Nat.not_lt, not_true_eq_false, not_false_eq_true, Nat.one_ne_zero, Nat.reduceEqDiff, Nat.lt_irrefl, reduceCtorEq, nI_or0, nI_or1, hk, q, oI]
          exact ih
        | some b =>
          have hb := nrN_lt hn
          have hb1 := nI_m1 (n := b) (by omega)
          have d2 := t115 (X := X) (N := N) (R := R) (L := L) (Z := Z) (a := b) (b := g) (by omega) hg
          have m2 := apN_lt (a := b) (b := g) (by omega) hg
          by_cases hq : apN k g < apN b g <;>
            simp only [hn, q, hq, decide_true, decide_false, true_and, and_true, Bool.false_eq_true, if_true, if_false] at ih <;>
            simp (disch := first | assumption | omega | exact nI_or0 | exact nI_or1) only [x116_5, x116_7, x116_10, x116_11, x116_14, x116_15, x116_16, x116_19, x116_20, x116_21, x116_24, x116_25, x116_26, x116_29, x116_30, x116_31, x116_34, x116_37, x116_38, x116_41, x116_42, x116_43, x116_46, reduceIte, Nat.reduceLT, nW_ap, nW_up, nI_add, pk_mul, nI_ltI, nI_eq, if_true, if_false, kont_r, kont_v, Nat.reduceAdd, Nat.reduceMul, Nat.not_lt, not_true_eq_false, not_false_eq_true, Nat.one_ne_zero, Nat.reduceEqDiff, Nat.lt_irrefl, reduceCtorEq, nI_or0, nI_or1, hk, q, oI, hb1, d1, d2, hq] <;> exact ih
      · simp only [q, false_and, if_false] at ih
        generalize oI (nrN (N 28 0) g k) = o at ih ⊢
        simp (disch := first | assumption | omega | exact nI_or0 | exact nI_or1) only [x116_5, x116_7, x116_10, x116_11, x116_14, x116_15, x116_16, x116_19, x116_20, x116_21, x116_24, x116_25, x116_26, x116_29, x116_30, x116_31, x116_34, x116_37, x116_38, x116_41, x116_42, x116_43, x116_46, reduceIte, Nat.reduceLT, nW_ap, nW_up, nI_add, pk_mul, nI_ltI, nI_eq, if_true, if_false, kont_r, kont_v, Nat.reduceAdd, Nat.reduceMul, Nat.not_lt, not_true_eq_false, not_false_eq_true, Nat.one_ne_zero, Nat.reduceEqDiff, Nat.lt_irrefl, reduceCtorEq, nI_or0, nI_or1, hk, q]
        exact ih
  simp (disch := first | assumption | omega | exact nI_or0 | exact nI_or1) only [in116, x116_0, x116_1, x116_2, x116_3]
  exact key 0 (Nat.zero_le _)
