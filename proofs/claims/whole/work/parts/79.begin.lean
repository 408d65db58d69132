/-! the class's and the reference's constructors, the law's beginning -/
theorem RP.fr {R R' : GR} {P : Nat} (h : RP R P 8) (e : ∀ k i s, ((k = 5 ∨ k = 1 ∨ k = 4 ∨ k = 17) ∧ i = P) ∨ (k = 0 ∧ i < 8 * P + 8) → R' k i s = R k i s) : RP R' P 8 := by
  refine ⟨h.1.fr fun k s hk => e _ _ _ (Or.inl ⟨by omega, rfl⟩), fun s hs => ?_⟩
  obtain ⟨a, b, c⟩ := h.2 s hs
  exact ⟨(e _ _ _ (Or.inl ⟨by omega, rfl⟩)).trans a, (e _ _ _ (Or.inr ⟨rfl, by omega⟩)).trans b, (e _ _ _ (Or.inr ⟨rfl, by omega⟩)).trans c⟩
def RQ (R : GR) (P : Nat) : Prop := (∀ q, q < P → RP R q 8) ∧ R 6 0 0 = some 0 ∧ R 6 0 1 = some 1 ∧ R 6 0 2 = some 0 ∧ ∀ i, i + 2 < P → R 20 0 i = some (i + 2)
theorem i45s {X : XS} {R : GR} {L : GL} {y P : Nat} (hP : 2 ≤ P) (hP8 : P < 8) (h : RQ R P) : ∃ R' L', ex X 45 37 [vR 6 0, vI (nI (P - 2))] [] (gk (cG (8 * P) (16 * P) P 1) (nW (Nj (16 * P) P)) R L (ofP P, y, true)) = ex X 45 37 [vR 6 0, vI (nI (P - 2 + 1))] [] (gk (cG (8 * (P + 1)) (16 * (P + 1)) (P + 1) 1) (nW (Nj (16 * (P + 1)) (P + 1))) R' L' (ofP (P + 1), y + 303, true)) ∧ RQ R' (P + 1) := by
  obtain ⟨h1, h2, h3, h4, h5⟩ := h
  have s1 : ∀ lv st, _ := fun lv st => k45_48 (X := X) (lv := lv) (st := st) (c := cG (8 * P) (16 * P) P 1) (I := nW (Nj (16 * P) P)) (R := R) (L := L) (y := y) (z := ofP P) (n := P) (by simp [cG]) rfl
  have e1 : up2 (nW (Nj (16 * P) P)) 5 P 0 = nW (Nj (16 * P) P) := up2_0 fun s => Nj_z (fun q => absurd q (by omega)) fun q => absurd q (by omega)
  obtain ⟨R1, L1, s2, b1, b2⟩ := i31 (X := X) (R := up2 R 5 P none) (L := up2 L 5 P 0) (y := y + 12) (P := P) (e := 1)
  have ez : ofP (P + 1) = ofP P + 35 := by
    unfold ofP
    rw [if_neg (by omega), if_neg (by omega), if_neg (by omega), if_neg (by omega)]
    omega
  have fr : ∀ k i s, ¬ fresh P k i → R1 k i s = R k i s := fun k i s q => (b2 k i s q).trans (if_neg fun r => q (by unfold fresh; omega))
  have f2 : ∀ s, R1 6 0 s = R 6 0 s := fun s => fr _ _ _ (by unfold fresh; omega)
  refine ⟨up3 R1 20 0 (P - 2) (some P), L1, ?_, ?_, ?_, ?_, ?_, ?_⟩
  · rw [k45_37, k45_38, k45_40, if_pos ((nI_ltI (by omega) (by omega)).2 (by omega)), k45_43, k45_44 h4 (by simp [cG]), k45_47, s1, e1, k45_51, k45_52, s2, kont_v, k45_55 (by simp [cG]) (by simp [cG]) (by omega), k45_56, k45_59, nI_add, ez, show y + 12 + 291 = y + 303 from rfl]
  · intro q hq
    by_cases e : q = P
    · subst e
      exact b1.fr fun k i s a => if_neg (by omega)
    · refine (h1 q (by omega)).fr fun k i s a => ?_
      exact (if_neg (by omega)).trans (fr _ _ _ (by unfold fresh; omega))
  · exact (if_neg (by omega)).trans ((f2 _).trans h2)
  · exact (if_neg (by omega)).trans ((f2 _).trans h3)
  · exact (if_neg (by omega)).trans ((f2 _).trans h4)
  · intro i hi
    by_cases e : i = P - 2
    · rw [e, up3_self]; congr 1; omega
    · exact (if_neg (by omega)).trans ((fr _ _ _ (by unfold fresh; omega)).trans (h5 i (by omega)))
theorem i45l {X : XS} : ∀ (n P : Nat) {R : GR} {L : GL} {y : Nat}, P + n = 8 → 2 ≤ P → RQ R P → ∃ R' L', ex X 45 37 [vR 6 0, vI (nI (P - 2))] [] (gk (cG (8 * P) (16 * P) P 1) (nW (Nj (16 * P) P)) R L (ofP P, y, true)) = ex X 45 37 [vR 6 0, vI (nI 6)] [] (gk (cG 64 128 8 1) (nW (Nj 128 8)) R' L' (282, y + 303 * n, true)) ∧ RQ R' 8 := by
  intro n
  induction n with
  | zero =>
    intro P R L y hP h2 hR
    have e8 : P = 8 := by omega
    subst e8
    exact ⟨R, L, rfl, hR⟩
  | succ n ih =>
    intro P R L y hP h2 hR
    obtain ⟨R1, L1, s1, h1⟩ := i45s (X := X) (L := L) (y := y) h2 (by omega) hR
    obtain ⟨R2, L2, s2, h3⟩ := ih (P + 1) (L := L1) (y := y + 303) (by omega) (by omega) h1
    refine ⟨R2, L2, ?_, h3⟩
    rw [s1, show P - 2 + 1 = P + 1 - 2 by omega, s2, show y + 303 + 303 * n = y + 303 * (n + 1) by omega]
def c45 : Nat → Nat := up1 (up1 (up1 (up1 (up1 (up1 (cG 64 128 8 1) 3 1) 10 1) 11 1) 12 1) 13 1) 21 1
theorem i45e {X : XS} {R : GR} {L : GL} {y : Nat} (h : RQ R 8) : ∃ R' L', ex X 45 37 [vR 6 0, vI (nI 6)] [] (gk (cG 64 128 8 1) (nW (Nj 128 8)) R L (282, y, true)) = some (.inl none, gk c45 (nW (Nj 128 8)) R' L' (288, y + 119, true)) ∧ RQ R' 8 ∧ R' 6 0 4 = some 0 ∧ R' 6 0 5 = some 0 ∧ R' 3 0 0 = some 0 ∧ R' 3 0 2 = some 0 ∧ R' 3 0 3 = some 0 ∧ R' 3 0 4 = some 0 := by
  have nz : ∀ k s, ¬ k = 2 → ¬ k = 18 → Nj 128 8 k 0 s = 0 := fun k s a b => Nj_z (fun q => absurd q a) fun q => absurd q b
  have nu : ∀ k, ¬ k = 2 → ¬ k = 18 → up2 (nW (Nj 128 8)) k 0 0 = nW (Nj 128 8) := fun k a b => up2_0 fun s => nz k s a b
  have s1 : ∀ lv st, _ := fun lv st => k45_63 (X := X) (lv := lv) (st := st) (c := cG 64 128 8 1) (I := nW (Nj 128 8)) (R := R) (L := L) (y := y) (z := 282) (n := 0) rfl rfl
  have s2 : ∀ R L, _ := fun R L => i19 (X := X) (c := up1 (cG 64 128 8 1) 3 1) (N := Nj 128 8) (R := R) (L := L) (y := y + 6) (z := 283) (by decide) rfl rfl rfl rfl rfl rfl rfl rfl (fun k s a b => nz k s (by omega) (by omega))
  have s3 : ∀ lv st R L, _ := fun lv st R L => k45_76 (X := X) (lv := lv) (st := st) (c := up1 (up1 (up1 (up1 (up1 (cG 64 128 8 1) 3 1) 10 1) 11 1) 12 1) 13 1) (I := nW (Nj 128 8)) (R := R) (L := L) (y := y + 6 + 60 + 15 + 15 + 15) (z := 287) (n := 0) rfl rfl
  simp only [Nat.reduceAdd, Nat.zero_add] at s1 s2 s3
  obtain ⟨h1, h2, h3, h4, h5⟩ := h
  refine ⟨up3 (up2 (up3 (up3 (up2 (up3 (up2 (up3 (up2 (up3 (up2 (up2 R 3 0 none) 10 0 none) 3 0 0 (some 0)) 11 0 none) 3 0 2 (some 0)) 12 0 none) 3 0 3 (some 0)) 13 0 none) 3 0 4 (some 0)) 6 0 4 (some 0)) 21 0 none) 6 0 5 (some 0), up2 (up2 (up2 (up2 (up2 (up2 L 3 0 0) 10 0 0) 11 0 0) 12 0 0) 13 0 0) 21 0 0, ?_, ⟨?_, ?_, ?_, ?_, ?_⟩, ?_, ?_, ?_, ?_, ?_, ?_⟩
  · simp (disch := first | assumption | omega | decide | (simp only [up1, cG, reduceIte, Nat.reduceEqDiff, Nat.reduceLeDiff, or_true, true_or, or_false, false_or, and_true, true_and, and_false, false_and]; first | assumption | omega)) only [k45_37, k45_38, k45_40, k45_62, k45_63, k45_66, k45_67, k45_70, k45_73, k45_74, k45_76, k45_78, k45_81, reduceIte, Nat.reduceLT, nW_ap, nW_up, nI_add, pk_mul, nI_ltI, nI_eq, if_true, if_false, kont_r, kont_v, Nat.reduceAdd, Nat.reduceMul, Nat.not_lt, not_true_eq_false, not_false_eq_true, Nat.one_ne_zero, Nat.reduceEqDiff, Nat.lt_irrefl, reduceCtorEq, nI_or0, nI_or1, s1, s2, s3, nu]
    rfl
  · intro q hq
    refine (h1 q hq).fr fun k i s a => ?_
    simp only [up3, up2]
    repeat rw [if_neg (by omega)]
  · simpa [up3, up2] using h2
  · simpa [up3, up2] using h3
  · simpa [up3, up2] using h4
  · intro i hi
    simpa [up3, up2] using h5 i hi
  all_goals simp [up3, up2]
