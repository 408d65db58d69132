/-! the constructors -/
def stS : Nat → Nat := fun s => if s = 0 then 4 else if s = 2 then 2 else if s = 3 then 5 else if s = 4 then 10 else 0
def Nj (n m : Nat) : GV := fun k i s => if k = 2 ∧ i < n ∧ s = 0 then i / 2 % 8 else if k = 2 ∧ i < n ∧ s = 1 then i % 2 else if k = 18 ∧ i < m then stS s else 0
def cG (a b d e : Nat) : Nat → Nat := fun k => if k = 0 then a else if k = 2 then b else if k = 6 then 1 else if k = 20 then e else if k = 1 ∨ k = 4 ∨ k = 5 ∨ k = 8 ∨ k = 9 ∨ 14 ≤ k ∧ k ≤ 19 then d else 0
theorem up2_0 {N : GV} {k i : Nat} (h : ∀ s, N k i s = 0) : up2 (nW N) k i 0 = nW N := by
  funext k' i' s'
  unfold up2
  split
  · next q => rw [nW_ap, q.1, q.2, h]; rfl
  · rfl
theorem i13 {X : XS} {c : Nat → Nat} {N : GV} {R : GR} {L : GL} {Z : Nat × Nat × Bool} {b p d : Nat} (hb : b < c 2) : exec X 13 [vR 2 b, vI (nI p), vI (nI d)] (gk c (nW N) R L Z) = some (.inl none, gk c (nW (up3 (up3 N 2 b 0 p) 2 b 1 d)) R L Z) := by
  simp (disch := first | assumption | omega | decide | (simp only [up1, cG, reduceIte, Nat.reduceEqDiff, Nat.reduceLeDiff, or_true, true_or, or_false, false_or, and_true, true_and, and_false, false_and]; first | assumption | omega)) only [k13_0, k13_1, k13_4, k13_5, k13_6, k13_9, k13_10, k13_11, k13_14, kin13, nW_up]
def jb (N : GV) (f p : Nat) : GV := up3 (up3 (up3 (up3 N 2 (2 * f) 0 p) 2 (2 * f) 1 0) 2 (2 * f + 1) 0 p) 2 (2 * f + 1) 1 1
theorem i0 {X : XS} {c : Nat → Nat} {N : GV} {R : GR} {L : GL} {z y : Nat} {f p : Nat} (hf : f < c 0) (h2 : c 2 = 2 * f) (hz : off 2 (2 * f) = z) (hz' : off 2 (2 * f + 1) = z + 1) (hN : ∀ i s, 2 * f ≤ i → N 2 i s = 0) : ∃ R' L', exec X 0 [vR 0 f, vI (nI p)] (gk c (nW N) R L (z, y, true)) = some (.inl none, gk (up1 (up1 c 2 (2 * f + 1)) 2 (2 * f + 1 + 1)) (nW (jb N f p)) R' L' (z + 1 + 1, y + 6 + 6, true)) ∧ R' 0 f 0 = some (2 * f) ∧ R' 0 f 1 = some (2 * f + 1) ∧ ∀ k i s, ¬ (k = 0 ∧ i = f) → ¬ (k = 2 ∧ 2 * f ≤ i) → R' k i s = R k i s := by
  have s1 : ∀ lv st R L, _ := fun lv st R L => k0_5 (X := X) (lv := lv) (st := st) (c := c) (I := nW N) (R := R) (L := L) (y := y) h2 hz
  have e1 : up2 (nW N) 2 (2 * f) 0 = nW N := up2_0 fun s => hN _ s (Nat.le_refl _)
  have c2 : up1 c 2 (2 * f + 1) 2 = 2 * f + 1 := if_pos rfl
  have e2 : up2 (nW (up3 (up3 N 2 (2 * f) 0 p) 2 (2 * f) 1 0)) 2 (2 * f + 1) 0 = nW (up3 (up3 N 2 (2 * f) 0 p) 2 (2 * f) 1 0) := up2_0 fun s => by rw [u_ne (by omega), u_ne (by omega)]; exact hN _ s (by omega)
  have s2 : ∀ lv st R L, _ := fun lv st R L => k0_18 (X := X) (lv := lv) (st := st) (c := up1 c 2 (2 * f + 1)) (I := nW (up3 (up3 N 2 (2 * f) 0 p) 2 (2 * f) 1 0)) (R := R) (L := L) (y := y + 6) c2 hz'
  have j1 : ∀ R L, _ := fun R L => i13 (X := X) (c := up1 c 2 (2 * f + 1)) (N := N) (R := R) (L := L) (Z := (z + 1, y + 6, true)) (b := 2 * f) (p := p) (d := 0) (by rw [c2]; omega)
  have j2 : ∀ R L, _ := fun R L => i13 (X := X) (c := up1 (up1 c 2 (2 * f + 1)) 2 (2 * f + 1 + 1)) (N := up3 (up3 N 2 (2 * f) 0 p) 2 (2 * f) 1 0) (R := R) (L := L) (Z := (z + 1 + 1, y + 6 + 6, true)) (b := 2 * f + 1) (p := p) (d := 1) (by rw [show up1 (up1 c 2 (2 * f + 1)) 2 (2 * f + 1 + 1) 2 = 2 * f + 1 + 1 from if_pos rfl]; omega)
  refine ⟨up3 (up2 (up3 (up2 R 2 (2 * f) none) 0 f 0 (some (2 * f))) 2 (2 * f + 1) none) 0 f 1 (some (2 * f + 1)), up2 (up2 L 2 (2 * f) 0) 2 (2 * f + 1) 0, ?_, ?_, ?_, ?_⟩
  · simp (disch := first | assumption | omega | decide | (simp only [up1, cG, reduceIte, Nat.reduceEqDiff, Nat.reduceLeDiff, or_true, true_or, or_false, false_or, and_true, true_and, and_false, false_and]; first | assumption | omega)) only [kin0, k0_0, k0_1, k0_4, s1, e1, k0_8, k0_9, k0_10, k0_11, j1, kont_v, Nat.reduceAdd, k0_14, k0_17, s2, e2, k0_21, k0_22, k0_23, k0_24, j2, k0_27, k0_30, jb]
  · simp [up3, up2]
  · simp [up3, up2]
  · intro k i s h1 h2
    simp only [up3, up2]
    rw [if_neg (by omega), if_neg (by omega), if_neg (by omega), if_neg (by omega)]
theorem i7 {X : XS} {c : Nat → Nat} {N : GV} {R : GR} {L : GL} {z y P : Nat} (h1 : P < c 1) (h8 : c 8 = P) (h9 : c 9 = P) (z8 : off 8 P = z) (z9 : off 9 P = z + 1) (n8 : ∀ s, N 8 P s = 0) (n9 : ∀ s, N 9 P s = 0) : exec X 7 [vR 1 P] (gk c (nW N) R L (z, y, true)) = some (.inl none, gk (up1 (up1 c 8 (P + 1)) 9 (P + 1)) (nW N) (up3 (up2 (up3 (up2 R 8 P none) 1 P 0 (some P)) 9 P none) 1 P 1 (some P)) (up2 (up2 L 8 P 0) 9 P 0) (z + 1 + 1, y + 6 + 6, true)) := by
  have s1 : ∀ lv st R L, _ := fun lv st R L => k7_7 (X := X) (lv := lv) (st := st) (c := c) (I := nW N) (R := R) (L := L) (y := y) h8 z8
  have s2 : ∀ lv st R L, _ := fun lv st R L => k7_15 (X := X) (lv := lv) (st := st) (c := up1 c 8 (P + 1)) (I := nW N) (R := R) (L := L) (y := y + 6) (n := P) (by rw [← h9]; rfl) z9
  simp (disch := first | assumption | omega | decide | (simp only [up1, cG, reduceIte, Nat.reduceEqDiff, Nat.reduceLeDiff, or_true, true_or, or_false, false_or, and_true, true_and, and_false, false_and]; first | assumption | omega)) only [kin7, k7_0, k7_1, k7_4, k7_5, s1, up2_0 n8, k7_9, k7_12, k7_13, s2, up2_0 n9, k7_17, k7_20]
theorem i25 {X : XS} {c : Nat → Nat} {N : GV} {R : GR} {L : GL} {z y P : Nat} (h4 : P < c 4) (h14 : c 14 = P) (h15 : c 15 = P) (h16 : c 16 = P) (z14 : off 14 P = z) (z15 : off 15 P = z + 1) (z16 : off 16 P = z + 1 + 1) (n14 : ∀ s, N 14 P s = 0) (n15 : ∀ s, N 15 P s = 0) (n16 : ∀ s, N 16 P s = 0) : exec X 25 [vR 4 P] (gk c (nW N) R L (z, y, true)) = some (.inl none, gk (up1 (up1 (up1 c 14 (P + 1)) 15 (P + 1)) 16 (P + 1)) (nW N) (up3 (up2 (up3 (up2 (up3 (up2 R 14 P none) 4 P 0 (some P)) 15 P none) 4 P 1 (some P)) 16 P none) 4 P 2 (some P)) (up2 (up2 (up2 L 14 P 0) 15 P 0) 16 P 0) (z + 1 + 1 + 1, y + 17 + 17 + 17, true)) := by
  have s1 : ∀ lv st R L, _ := fun lv st R L => k25_7 (X := X) (lv := lv) (st := st) (c := c) (I := nW N) (R := R) (L := L) (y := y) h14 z14
  have s2 : ∀ lv st R L, _ := fun lv st R L => k25_15 (X := X) (lv := lv) (st := st) (c := up1 c 14 (P + 1)) (I := nW N) (R := R) (L := L) (y := y + 17) (n := P) (by rw [← h15]; rfl) z15
  have s3 : ∀ lv st R L, _ := fun lv st R L => k25_23 (X := X) (lv := lv) (st := st) (c := up1 (up1 c 14 (P + 1)) 15 (P + 1)) (I := nW N) (R := R) (L := L) (y := y + 17 + 17) (n := P) (by rw [← h16]; rfl) z16
  simp (disch := first | assumption | omega | decide | (simp only [up1, cG, reduceIte, Nat.reduceEqDiff, Nat.reduceLeDiff, or_true, true_or, or_false, false_or, and_true, true_and, and_false, false_and]; first | assumption | omega)) only [kin25, k25_0, k25_1, k25_4, k25_5, s1, up2_0 n14, k25_9, k25_12, k25_13, s2, up2_0 n15, k25_17, k25_20, k25_21, s3, up2_0 n16, k25_25, k25_28]
theorem i19 {X : XS} {c : Nat → Nat} {N : GV} {R : GR} {L : GL} {z y : Nat} (h3 : 0 < c 3) (h10 : c 10 = 0) (h11 : c 11 = 0) (h12 : c 12 = 0) (h13 : c 13 = 0) (z10 : off 10 0 = z) (z11 : off 11 0 = z + 1) (z12 : off 12 0 = z + 1 + 1) (z13 : off 13 0 = z + 1 + 1 + 1) (n : ∀ k s, 10 ≤ k → k ≤ 13 → N k 0 s = 0) : exec X 19 [vR 3 0] (gk c (nW N) R L (z, y, true)) = some (.inl none, gk (up1 (up1 (up1 (up1 c 10 1) 11 1) 12 1) 13 1) (nW N) (up3 (up2 (up3 (up2 (up3 (up2 (up3 (up2 R 10 0 none) 3 0 0 (some 0)) 11 0 none) 3 0 2 (some 0)) 12 0 none) 3 0 3 (some 0)) 13 0 none) 3 0 4 (some 0)) (up2 (up2 (up2 (up2 L 10 0 0) 11 0 0) 12 0 0) 13 0 0) (z + 1 + 1 + 1 + 1, y + 60 + 15 + 15 + 15, true)) := by
  have s1 : ∀ lv st R L, _ := fun lv st R L => k19_7 (X := X) (lv := lv) (st := st) (c := c) (I := nW N) (R := R) (L := L) (y := y) h10 z10
  have s2 : ∀ lv st R L, _ := fun lv st R L => k19_15 (X := X) (lv := lv) (st := st) (c := up1 c 10 1) (I := nW N) (R := R) (L := L) (y := y + 60) (n := 0) (by rw [← h11]; rfl) z11
  have s3 : ∀ lv st R L, _ := fun lv st R L => k19_23 (X := X) (lv := lv) (st := st) (c := up1 (up1 c 10 1) 11 1) (I := nW N) (R := R) (L := L) (y := y + 60 + 15) (n := 0) (by rw [← h12]; rfl) z12
  have s4 : ∀ lv st R L, _ := fun lv st R L => k19_31 (X := X) (lv := lv) (st := st) (c := up1 (up1 (up1 c 10 1) 11 1) 12 1) (I := nW N) (R := R) (L := L) (y := y + 60 + 15 + 15) (n := 0) (by rw [← h13]; rfl) z13
  simp only [Nat.zero_add] at s1 s2 s3 s4
  simp (disch := first | assumption | omega | decide | (simp only [up1, cG, reduceIte, Nat.reduceEqDiff, Nat.reduceLeDiff, or_true, true_or, or_false, false_or, and_true, true_and, and_false, false_and]; first | assumption | omega)) only [kin19, k19_0, k19_1, k19_4, k19_5, s1, up2_0 (n 10 · (by omega) (by omega)), k19_9, k19_12, k19_13, s2, up2_0 (n 11 · (by omega) (by omega)), k19_17, k19_20, k19_21, s3, up2_0 (n 12 · (by omega) (by omega)), k19_25, k19_28, k19_29, s4, up2_0 (n 13 · (by omega) (by omega)), k19_33, k19_36]
