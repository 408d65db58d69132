/-! the first world -/
theorem i45a {X : XS} {R : GR} {L : GL} {y : Nat} : ∃ R' L', exec X 45 [vR 6 0] (gk (cG 0 0 0 0) (nW (Nj 0 0)) R L (1, y, true)) = ex X 45 37 [vR 6 0, vI (nI 0)] [] (gk (cG 16 32 2 1) (nW (Nj 32 2)) R' L' (72, y + 612, true)) ∧ RQ R' 2 := by
  have nz : ∀ n m k (_ : Nat) P, ¬ k = 2 → ¬ k = 18 → up2 (nW (Nj n m)) k P 0 = nW (Nj n m) := fun n m k _ P a b => up2_0 fun s => Nj_z (fun q => absurd q a) fun q => absurd q b
  have s1 : ∀ lv st, _ := fun lv st => k45_5 (X := X) (lv := lv) (st := st) (c := cG 0 0 0 0) (I := nW (Nj 0 0)) (R := R) (L := L) (y := y) (z := 1) (n := 0) rfl rfl
  rw [nz 0 0 5 0 0 (by omega) (by omega)] at s1
  obtain ⟨R1, L1, s2, b1, b2⟩ := i31 (X := X) (R := up2 R 5 0 none) (L := up2 L 5 0 0) (y := y + 12) (P := 0) (e := 0)
  have s3 : ∀ lv st, _ := fun lv st => k45_16 (X := X) (lv := lv) (st := st) (c := cG 8 16 1 0) (I := nW (Nj 16 1)) (R := up3 R1 6 0 0 (some 0)) (L := L1) (y := y + 12 + 291) (z := 36) (n := 1) rfl rfl
  rw [nz 16 1 5 0 1 (by omega) (by omega)] at s3
  obtain ⟨R2, L2, s4, b3, b4⟩ := i31 (X := X) (R := up2 (up3 R1 6 0 0 (some 0)) 5 1 none) (L := up2 L1 5 1 0) (y := y + 12 + 291 + 12) (P := 1) (e := 0)
  have s5 : ∀ lv st, _ := fun lv st => k45_29 (X := X) (lv := lv) (st := st) (c := cG 16 32 2 0) (I := nW (Nj 32 2)) (R := up3 R2 6 0 1 (some 1)) (L := L2) (y := y + 12 + 291 + 12 + 291) (z := 71) (n := 0) rfl rfl
  rw [nz 32 2 20 0 0 (by omega) (by omega)] at s5
  have ec : up1 (cG 16 32 2 0) 20 1 = cG 16 32 2 1 := by
    funext k
    unfold up1 cG
    by_cases h : k = 20
    · subst h; rfl
    · simp only [h, if_false]
  have o0 : ofP 0 = 1 := rfl
  have o1 : ofP 1 = 36 := rfl
  simp only [Nat.reduceAdd, Nat.reduceMul, Nat.mul_zero, Nat.zero_add, Nat.mul_one, o0, o1] at s1 s2 s3 s4 s5
  rw [ec] at s5
  have fr : ∀ k i s, ¬ fresh 1 k i → ¬ k = 6 → R2 k i s = R1 k i s := fun k i s q r => (b4 k i s q).trans ((if_neg fun w => q (by unfold fresh; omega)).trans (if_neg fun w => r w.1))
  have f6 : R2 6 0 0 = some 0 := (b4 6 0 0 (by unfold fresh; omega)).trans ((if_neg (by omega)).trans (up3_self _ _ _ _ _))
  refine ⟨up3 (up2 (up3 R2 6 0 1 (some 1)) 20 0 none) 6 0 2 (some 0), up2 L2 20 0 0, ?_, ?_, ?_, ?_, ?_, ?_⟩
  · have h6 : ∀ a b d e, 0 < cG a b d e 6 := fun a b d e => by simp [cG]
    simp (disch := first | assumption | omega | exact h6 _ _ _ _ | decide) only [kin45, k45_0, k45_1, k45_4, k45_5, k45_8, k45_9, k45_12, k45_15, k45_16, k45_19, k45_20, k45_23, k45_26, k45_27, k45_29, k45_32, k45_35, k45_36, s1, s2, s3, s4, s5, kont_v, Nat.reduceAdd]
  · intro q hq
    have hq' : q = 0 ∨ q = 1 := by omega
    rcases hq' with rfl | rfl
    · refine b1.fr fun k i s a => ?_
      simp only [up3, up2]
      rw [if_neg (by omega), if_neg (by omega), if_neg (by omega)]
      exact fr _ _ _ (by unfold fresh; omega) (by omega)
    · refine b3.fr fun k i s a => ?_
      simp only [up3, up2]
      rw [if_neg (by omega), if_neg (by omega), if_neg (by omega)]
  · simpa [up3, up2] using f6
  · simp [up3, up2]
  · simp [up3, up2]
  · intro i hi; omega
theorem i45 {X : XS} {R : GR} {L : GL} {y : Nat} : ∃ R' L', exec X 45 [vR 6 0] (gk (cG 0 0 0 0) (nW (Nj 0 0)) R L (1, y, true)) = some (.inl none, gk c45 (nW (Nj 128 8)) R' L' (288, y + 2549, true)) ∧ RQ R' 8 ∧ R' 6 0 4 = some 0 ∧ R' 6 0 5 = some 0 ∧ R' 3 0 0 = some 0 ∧ R' 3 0 2 = some 0 ∧ R' 3 0 3 = some 0 ∧ R' 3 0 4 = some 0 := by
  obtain ⟨R1, L1, s1, h1⟩ := i45a (X := X) (R := R) (L := L) (y := y)
  obtain ⟨R2, L2, s2, h2⟩ := i45l (X := X) 6 2 (R := R1) (L := L1) (y := y + 612) rfl (Nat.le_refl _) h1
  obtain ⟨R3, L3, s3, h3⟩ := i45e (X := X) (R := R2) (L := L2) (y := y + 612 + 303 * 6) h2
  exact ⟨R3, L3, s1.trans (s2.trans s3), h3⟩
def RM (R : GR) : Prop := R 7 0 1 = some 0 ∧ R 7 0 2 = some 0 ∧ R 7 0 3 = some 0 ∧ R 7 0 5 = some 0 ∧ R 7 0 7 = some 0 ∧ R 7 0 8 = some 0 ∧ R 7 0 9 = some 0 ∧ R 7 0 12 = some 0
def N0 : GV := up3 (up3 (up3 (up3 (up3 (Nj 128 8) 7 0 0 0) 22 0 0 4) 22 0 2 2) 22 0 3 5) 22 0 4 10
def cM (c : Nat → Nat) : Nat → Nat := up1 (up1 (up1 (up1 (up1 (up1 (up1 (up1 c 22 1) 23 1) 24 1) 25 1) 26 1) 27 1) 28 1) 29 1
theorem i89 {X : XS} {R : GR} {L : GL} {y : Nat} : ∃ R' L', exec X 89 [vR 7 0] (gk (up1 c45 7 1) (nW (Nj 128 8)) R L (289, y, true)) = some (.inl none, gk (cM (up1 c45 7 1)) (nW N0) R' L' (297, y + 1821, true)) ∧ RM R' ∧ ∀ k i s, ¬ k = 7 → ¬ (22 ≤ k ∧ k ≤ 29) → R' k i s = R k i s := by
  have nu : ∀ k, ¬ k = 2 → ¬ k = 18 → up2 (nW (Nj 128 8)) k 0 0 = nW (Nj 128 8) := fun k a b => up2_0 fun s => Nj_z (fun q => absurd q a) fun q => absurd q b
  generalize hc : up1 c45 7 1 = c
  have h7 : c 7 = 1 := by rw [← hc]; rfl
  have h22 : c 22 = 0 := by rw [← hc]; rfl
  have h23 : up1 c 22 1 23 = 0 := by rw [← hc]; rfl
  have h24 : up1 (up1 c 22 1) 23 1 24 = 0 := by rw [← hc]; rfl
  have h25 : up1 (up1 (up1 c 22 1) 23 1) 24 1 25 = 0 := by rw [← hc]; rfl
  have h26 : up1 (up1 (up1 (up1 c 22 1) 23 1) 24 1) 25 1 26 = 0 := by rw [← hc]; rfl
  have h27 : up1 (up1 (up1 (up1 (up1 c 22 1) 23 1) 24 1) 25 1) 26 1 27 = 0 := by rw [← hc]; rfl
  have h28 : up1 (up1 (up1 (up1 (up1 (up1 c 22 1) 23 1) 24 1) 25 1) 26 1) 27 1 28 = 0 := by rw [← hc]; rfl
  have h29 : up1 (up1 (up1 (up1 (up1 (up1 (up1 c 22 1) 23 1) 24 1) 25 1) 26 1) 27 1) 28 1 29 = 0 := by rw [← hc]; rfl
  have s1 : ∀ lv st R L y, _ := fun lv st R L y => k89_8 (X := X) (lv := lv) (st := st) (I := nW (Nj 128 8)) (R := R) (L := L) (y := y) (z := 289) (n := 0) h22 rfl
  have s2 : ∀ lv st R L y, _ := fun lv st R L y => k89_17 (X := X) (lv := lv) (st := st) (I := nW (Nj 128 8)) (R := R) (L := L) (y := y) (z := 290) (n := 0) h23 rfl
  have s3 : ∀ lv st R L y, _ := fun lv st R L y => k89_26 (X := X) (lv := lv) (st := st) (I := nW (Nj 128 8)) (R := R) (L := L) (y := y) (z := 291) (n := 0) h24 rfl
  have s4 : ∀ lv st R L y, _ := fun lv st R L y => k89_34 (X := X) (lv := lv) (st := st) (I := nW (Nj 128 8)) (R := R) (L := L) (y := y) (z := 292) (n := 0) h25 rfl
  have s5 : ∀ lv st R L y, _ := fun lv st R L y => k89_42 (X := X) (lv := lv) (st := st) (I := nW (Nj 128 8)) (R := R) (L := L) (y := y) (z := 293) (n := 0) h26 rfl
  have s6 : ∀ lv st R L y, _ := fun lv st R L y => k89_50 (X := X) (lv := lv) (st := st) (I := nW (Nj 128 8)) (R := R) (L := L) (y := y) (z := 294) (n := 0) h27 rfl
  have s7 : ∀ lv st R L y, _ := fun lv st R L y => k89_58 (X := X) (lv := lv) (st := st) (I := nW (Nj 128 8)) (R := R) (L := L) (y := y) (z := 295) (n := 0) h28 rfl
  have s8 : ∀ lv st R L y, _ := fun lv st R L y => k89_66 (X := X) (lv := lv) (st := st) (I := nW (Nj 128 8)) (R := R) (L := L) (y := y) (z := 296) (n := 0) h29 rfl
  simp only [Nat.reduceAdd, Nat.zero_add] at s1 s2 s3 s4 s5 s6 s7 s8
  refine ⟨up3 (up2 (up3 (up2 (up3 (up2 (up3 (up2 (up3 (up2 (up3 (up2 (up3 (up2 (up3 (up2 R 22 0 none) 7 0 1 (some 0)) 23 0 none) 7 0 2 (some 0)) 24 0 none) 7 0 3 (some 0)) 25 0 none) 7 0 5 (some 0)) 26 0 none) 7 0 7 (some 0)) 27 0 none) 7 0 8 (some 0)) 28 0 none) 7 0 9 (some 0)) 29 0 none) 7 0 12 (some 0), up2 (up2 (up2 (up2 (up2 (up2 (up2 (up2 L 22 0 0) 23 0 0) 24 0 0) 25 0 0) 26 0 0) 27 0 0) 28 0 0) 29 0 0, ?_, ?_, ?_⟩
  · generalize hR' : up3 (up2 (up3 (up2 (up3 (up2 (up3 (up2 (up3 (up2 (up3 (up2 (up3 (up2 (up3 (up2 R 22 0 none) 7 0 1 (some 0)) 23 0 none) 7 0 2 (some 0)) 24 0 none) 7 0 3 (some 0)) 25 0 none) 7 0 5 (some 0)) 26 0 none) 7 0 7 (some 0)) 27 0 none) 7 0 8 (some 0)) 28 0 none) 7 0 9 (some 0)) 29 0 none) 7 0 12 (some 0) = R'
    have g1 : R' 7 0 1 = some 0 := by rw [← hR']; simp [up3, up2]
    simp (disch := first | assumption | omega | decide | (simp only [up1, reduceIte, Nat.reduceEqDiff]; omega)) only [kin89, k89_0, k89_1, k89_4, k89_5, k89_8, k89_10, k89_13, k89_14, k89_17, k89_19, k89_22, k89_23, k89_26, k89_28, k89_31, k89_32, k89_34, k89_36, k89_39, k89_40, k89_42, k89_44, k89_47, k89_48, k89_50, k89_52, k89_55, k89_56, k89_58, k89_60, k89_63, k89_64, k89_66, k89_68, k89_71, k89_72, k89_73, k89_76, k89_77, k89_80, k89_81, k89_82, k89_83, k89_84, k89_87, k89_88, k89_89, k89_90, k89_91, k89_94, k89_95, k89_96, k89_97, k89_98, k89_101, k89_102, k89_104, k89_105, kin89, g1, s1, s2, s3, s4, s5, s6, s7, s8, nu, nW_up, Nat.reduceAdd, Nat.add_assoc, hR']
    rfl
  · unfold RM
    simp [up3, up2]
  · intro k i s h1 h2
    simp only [up3, up2]
    repeat rw [if_neg (by omega)]
