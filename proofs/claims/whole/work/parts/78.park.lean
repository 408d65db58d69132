/-! a park -/
theorem Nj_z {n m k i s : Nat} (h2 : k = 2 → n ≤ i) (h18 : k = 18 → m ≤ i) : Nj n m k i s = 0 := by
  unfold Nj
  rw [if_neg fun q => Nat.not_le.2 q.2.1 (h2 q.1), if_neg fun q => Nat.not_le.2 q.2.1 (h2 q.1), if_neg fun q => Nat.not_le.2 q.2 (h18 q.1)]
theorem Nj_jb {f m p : Nat} (hp : p = f % 8) : jb (Nj (2 * f) m) f p = Nj (2 * f + 2) m := by
  subst hp
  funext k i s
  unfold jb
  by_cases q : k = 2
  · subst q
    unfold up3 Nj
    by_cases h : i < 2 * f
    · simp only [true_and, show ¬ i = 2 * f by omega, show ¬ i = 2 * f + 1 by omega, false_and, if_false, h, show i < 2 * f + 2 by omega]
    · by_cases h1 : i = 2 * f
      · subst h1
        simp only [true_and, show ¬ 2 * f = 2 * f + 1 by omega, false_and, if_false, Nat.lt_irrefl, show 2 * f < 2 * f + 2 by omega, show 2 * f / 2 = f by omega, show 2 * f % 2 = 0 by omega]
        by_cases h0 : s = 0
        · subst h0; simp
        · by_cases h3 : s = 1
          · subst h3; simp
          · simp [h0, h3]
      · by_cases h2 : i = 2 * f + 1
        · subst h2
          simp only [true_and, show ¬ 2 * f + 1 = 2 * f by omega, false_and, if_false, show ¬ 2 * f + 1 < 2 * f by omega, show 2 * f + 1 < 2 * f + 2 by omega, show (2 * f + 1) / 2 = f by omega, show (2 * f + 1) % 2 = 1 by omega]
          by_cases h0 : s = 0
          · subst h0; simp
          · by_cases h3 : s = 1
            · subst h3; simp
            · simp [h0, h3]
        · simp only [true_and, h1, h2, false_and, if_false, h, show ¬ i < 2 * f + 2 by omega]
  · unfold up3 Nj
    simp only [q, false_and, if_false]
theorem Nj_st {n P : Nat} : up3 (up3 (up3 (up3 (up3 (Nj n P) 18 P 0 4) 18 P 1 0) 18 P 2 2) 18 P 3 5) 18 P 4 10 = Nj n (P + 1) := by
  funext k i s
  unfold up3 Nj stS
  by_cases q : k = 18
  · subst q
    by_cases h : i = P
    · subst h
      by_cases s0 : s = 0
      · subst s0; simp
      by_cases s1 : s = 1
      · subst s1; simp
      by_cases s2 : s = 2
      · subst s2; simp
      by_cases s3 : s = 3
      · subst s3; simp
      by_cases s4 : s = 4
      · subst s4; simp
      simp [s0, s1, s2, s3, s4]
    · by_cases h2 : i < P
      · simp [h, h2, show i < P + 1 by omega]
      · simp [h, h2, show ¬ i < P + 1 by omega]
  · simp [q]
def fresh (P k i : Nat) : Prop := (k = 0 ∧ 8 * P ≤ i) ∨ (k = 2 ∧ 16 * P ≤ i) ∨ ((k = 1 ∨ k = 4 ∨ k = 5 ∨ k = 8 ∨ k = 9 ∨ 14 ≤ k ∧ k ≤ 19) ∧ i = P)
def RA (R : GR) (P : Nat) : Prop := R 5 P 1 = some P ∧ R 5 P 2 = some P ∧ R 5 P 3 = some P ∧ R 5 P 4 = some P ∧ R 5 P 5 = some P ∧ R 1 P 0 = some P ∧ R 1 P 1 = some P ∧ R 4 P 0 = some P ∧ R 4 P 1 = some P ∧ R 4 P 2 = some P
def RP (R : GR) (P p : Nat) : Prop := RA R P ∧ ∀ s, s < p → R 17 P s = some (8 * P + s) ∧ R 0 (8 * P + s) 0 = some (2 * (8 * P + s)) ∧ R 0 (8 * P + s) 1 = some (2 * (8 * P + s) + 1)
theorem RA.fr {R R' : GR} {P : Nat} (h : RA R P) (e : ∀ k s, k = 5 ∨ k = 1 ∨ k = 4 → R' k P s = R k P s) : RA R' P := by
  obtain ⟨a, b, c, d, f, g, i, j, k, l⟩ := h
  exact ⟨by rw [e _ _ (by omega)]; exact a, by rw [e _ _ (by omega)]; exact b, by rw [e _ _ (by omega)]; exact c, by rw [e _ _ (by omega)]; exact d, by rw [e _ _ (by omega)]; exact f, by rw [e _ _ (by omega)]; exact g, by rw [e _ _ (by omega)]; exact i, by rw [e _ _ (by omega)]; exact j, by rw [e _ _ (by omega)]; exact k, by rw [e _ _ (by omega)]; exact l⟩
theorem i31a {X : XS} {R : GR} {L : GL} {y P e : Nat} : ∃ R' L', exec X 31 [vR 5 P] (gk (cG (8 * P) (16 * P) P e |> fun c => up1 c 5 (P + 1)) (nW (Nj (16 * P) P)) R L (ofP P + 1, y, true)) = ex X 31 53 [vR 5 P, vI (nI 0)] [] (gk (cG (8 * P) (16 * P) (P + 1) e) (nW (Nj (16 * P) P)) R' L' (ofP P + 11, y + 99, true)) ∧ RP R' P 0 ∧ ∀ k i s, ¬ fresh P k i → R' k i s = R k i s := by
  show ∃ R' L', exec X 31 [vR 5 P] (gk (up1 (cG (8 * P) (16 * P) P e) 5 (P + 1)) (nW (Nj (16 * P) P)) R L (ofP P + 1, y, true)) = _ ∧ _
  generalize hN : Nj (16 * P) P = N
  have nz : ∀ k i s, ¬ k = 2 → P ≤ i → N k i s = 0 := fun k i s a b => by rw [← hN]; exact Nj_z (fun q => absurd q a) fun _ => b
  have nu : ∀ k, ¬ k = 2 → up2 (nW N) k P 0 = nW N := fun k a => up2_0 fun s => nz k P s a (Nat.le_refl _)
  have s1 : ∀ lv st R L, _ := fun lv st R L => k31_7 (X := X) (lv := lv) (st := st) (c := up1 (cG (8 * P) (16 * P) P e) 5 (P + 1)) (I := nW N) (R := R) (L := L) (y := y) (z := ofP P + 1) (n := P) (by simp [up1, cG]) rfl
  have s2 : ∀ lv st R L, _ := fun lv st R L => k31_14 (X := X) (lv := lv) (st := st) (c := up1 (up1 (cG (8 * P) (16 * P) P e) 5 (P + 1)) 17 (P + 1)) (I := nW N) (R := R) (L := L) (y := y + 8) (z := ofP P + 1 + 1) (n := P) (by simp [up1, cG]) rfl
  have s3 : ∀ R L, _ := fun R L => i7 (X := X) (c := up1 (up1 (up1 (cG (8 * P) (16 * P) P e) 5 (P + 1)) 17 (P + 1)) 1 (P + 1)) (N := N) (R := R) (L := L) (y := y + 8 + 3) (z := ofP P + 1 + 1 + 1) (P := P) (by simp [up1, cG]) (by simp [up1, cG]) (by simp [up1, cG]) rfl rfl (fun s => nz _ _ _ (by omega) (Nat.le_refl _)) (fun s => nz _ _ _ (by omega) (Nat.le_refl _))
  have s4 : ∀ lv st R L, _ := fun lv st R L => k31_25 (X := X) (lv := lv) (st := st) (c := up1 (up1 (up1 (up1 (up1 (cG (8 * P) (16 * P) P e) 5 (P + 1)) 17 (P + 1)) 1 (P + 1)) 8 (P + 1)) 9 (P + 1)) (I := nW N) (R := R) (L := L) (y := y + 8 + 3 + 6 + 6) (z := ofP P + 1 + 1 + 1 + 1 + 1) (n := P) (by simp [up1, cG]) rfl
  have s5 : ∀ R L, _ := fun R L => i25 (X := X) (c := up1 (up1 (up1 (up1 (up1 (up1 (cG (8 * P) (16 * P) P e) 5 (P + 1)) 17 (P + 1)) 1 (P + 1)) 8 (P + 1)) 9 (P + 1)) 4 (P + 1)) (N := N) (R := R) (L := L) (y := y + 8 + 3 + 6 + 6 + 4) (z := ofP P + 1 + 1 + 1 + 1 + 1 + 1) (P := P) (by simp [up1, cG]) (by simp [up1, cG]) (by simp [up1, cG]) (by simp [up1, cG]) rfl rfl rfl (fun s => nz _ _ _ (by omega) (Nat.le_refl _)) (fun s => nz _ _ _ (by omega) (Nat.le_refl _)) (fun s => nz _ _ _ (by omega) (Nat.le_refl _))
  have s6 : ∀ lv st R L, _ := fun lv st R L => k31_37 (X := X) (lv := lv) (st := st) (c := up1 (up1 (up1 (up1 (up1 (up1 (up1 (up1 (up1 (cG (8 * P) (16 * P) P e) 5 (P + 1)) 17 (P + 1)) 1 (P + 1)) 8 (P + 1)) 9 (P + 1)) 4 (P + 1)) 14 (P + 1)) 15 (P + 1)) 16 (P + 1)) (I := nW N) (R := R) (L := L) (y := y + 8 + 3 + 6 + 6 + 4 + 17 + 17 + 17) (z := ofP P + 1 + 1 + 1 + 1 + 1 + 1 + 1 + 1 + 1) (n := P) (by simp [up1, cG]) rfl
  have s7 : ∀ lv st R L, _ := fun lv st R L => k31_45 (X := X) (lv := lv) (st := st) (c := up1 (up1 (up1 (up1 (up1 (up1 (up1 (up1 (up1 (up1 (cG (8 * P) (16 * P) P e) 5 (P + 1)) 17 (P + 1)) 1 (P + 1)) 8 (P + 1)) 9 (P + 1)) 4 (P + 1)) 14 (P + 1)) 15 (P + 1)) 16 (P + 1)) 18 (P + 1)) (I := nW N) (R := R) (L := L) (y := y + 8 + 3 + 6 + 6 + 4 + 17 + 17 + 17 + 5) (z := ofP P + 1 + 1 + 1 + 1 + 1 + 1 + 1 + 1 + 1 + 1) (n := P) (by simp [up1, cG]) rfl
  have ec : up1 (up1 (up1 (up1 (up1 (up1 (up1 (up1 (up1 (up1 (up1 (cG (8 * P) (16 * P) P e) 5 (P + 1)) 17 (P + 1)) 1 (P + 1)) 8 (P + 1)) 9 (P + 1)) 4 (P + 1)) 14 (P + 1)) 15 (P + 1)) 16 (P + 1)) 18 (P + 1)) 19 (P + 1) = cG (8 * P) (16 * P) (P + 1) e := by
    funext k
    by_cases hk : k < 21
    · have h : k = 0 ∨ k = 1 ∨ k = 2 ∨ k = 3 ∨ k = 4 ∨ k = 5 ∨ k = 6 ∨ k = 7 ∨ k = 8 ∨ k = 9 ∨ k = 10 ∨ k = 11 ∨ k = 12 ∨ k = 13 ∨ k = 14 ∨ k = 15 ∨ k = 16 ∨ k = 17 ∨ k = 18 ∨ k = 19 ∨ k = 20 := by omega
      rcases h with rfl | rfl | rfl | rfl | rfl | rfl | rfl | rfl | rfl | rfl | rfl | rfl | rfl | rfl | rfl | rfl | rfl | rfl | rfl | rfl | rfl
      all_goals simp [up1, cG]
    · unfold up1 cG
      repeat rw [if_neg (by omega)]
  refine ⟨up3 (up2 (up3 (up2 (up3 (up3 (up2 (up3 (up2 (up3 (up2 (up2 (up3 (up3 (up2 (up3 (up2 (up2 (up3 (up2 R 17 P none) 5 P 1 (some P)) 1 P none) 8 P none) 1 P 0 (some P)) 9 P none) 1 P 1 (some P)) 5 P 2 (some P)) 4 P none) 14 P none) 4 P 0 (some P)) 15 P none) 4 P 1 (some P)) 16 P none) 4 P 2 (some P)) 5 P 3 (some P)) 18 P none) 5 P 4 (some P)) 19 P none) 5 P 5 (some P), up2 (up2 (up2 (up2 (up2 (up2 (up2 (up2 (up2 (up2 L 17 P 0) 1 P 0) 8 P 0) 9 P 0) 4 P 0) 14 P 0) 15 P 0) 16 P 0) 18 P 0) 19 P 0, ?_, ⟨?_, fun s hs => absurd hs (by omega)⟩, ?_⟩
  · simp (disch := first | assumption | omega | decide | (simp only [up1, cG, reduceIte, Nat.reduceEqDiff, Nat.reduceLeDiff, or_true, true_or, or_false, false_or, and_true, true_and, and_false, false_and]; first | assumption | omega)) only [kin31, k31_0, k31_1, k31_4, k31_5, k31_7, k31_10, k31_13, k31_14, k31_17, k31_18, k31_21, k31_24, k31_25, k31_28, k31_29, k31_32, k31_35, k31_36, k31_37, k31_39, k31_42, k31_43, k31_45, k31_48, k31_51, k31_52, s1, s2, s3, s4, s5, s6, s7, nu, kont_v, Nat.reduceAdd, ec]
  · unfold RA
    simp [up3, up2]
  · intro k i s h
    unfold fresh at h
    simp only [up3, up2]
    repeat rw [if_neg (by omega)]
theorem offF {P p : Nat} (hp : p < 8) : off 0 (8 * P + p) = ofP P + 11 + 3 * p := by
  show ofP ((8 * P + p) / 8) + 11 + 3 * ((8 * P + p) % 8) = _
  rw [show (8 * P + p) / 8 = P by omega, show (8 * P + p) % 8 = p by omega]
theorem offJ {P p d : Nat} (hp : p < 8) (hd : d < 2) : off 2 (2 * (8 * P + p) + d) = ofP P + 12 + 3 * p + d := by
  show ofP ((2 * (8 * P + p) + d) / 16) + 12 + 3 * ((2 * (8 * P + p) + d) % 16 / 2) + (2 * (8 * P + p) + d) % 2 = _
  rw [show (2 * (8 * P + p) + d) / 16 = P by omega, show (2 * (8 * P + p) + d) % 16 / 2 = p by omega, show (2 * (8 * P + p) + d) % 2 = d by omega]
theorem i31s {X : XS} {R : GR} {L : GL} {y P e p : Nat} (hp : p < 8) (hR : RP R P p) : ∃ R' L', ex X 31 53 [vR 5 P, vI (nI p)] [] (gk (cG (8 * P + p) (2 * (8 * P + p)) (P + 1) e) (nW (Nj (2 * (8 * P + p)) P)) R L (ofP P + 11 + 3 * p, y, true)) = ex X 31 53 [vR 5 P, vI (nI (p + 1))] [] (gk (cG (8 * P + (p + 1)) (2 * (8 * P + (p + 1))) (P + 1) e) (nW (Nj (2 * (8 * P + (p + 1))) P)) R' L' (ofP P + 11 + 3 * (p + 1), y + 24, true)) ∧ RP R' P (p + 1) ∧ ∀ k i s, ¬ fresh P k i → R' k i s = R k i s := by
  have hf := offF (P := P) hp
  have hj0 := offJ (P := P) (d := 0) hp (by omega)
  have hj1 := offJ (P := P) (d := 1) hp (by omega)
  have hm : p = (8 * P + p) % 8 := by omega
  have hfr : ∀ k i, ¬ fresh P k i → ¬ (k = 0 ∧ i = 8 * P + p) ∧ ¬ (k = 2 ∧ 2 * (8 * P + p) ≤ i) ∧ ¬ (k = 17 ∧ i = P) ∧ ¬ (k = 19 ∧ i = P) := fun k i h => by unfold fresh at h; omega
  have hold : ∀ q, q < p → ¬ (8 * P + q = 8 * P + p) := fun q h => by omega
  rw [show 8 * P + (p + 1) = 8 * P + p + 1 by omega, show ofP P + 11 + 3 * (p + 1) = ofP P + 11 + 3 * p + 1 + 1 + 1 by omega]
  rw [show ofP P + 12 + 3 * p + 0 = ofP P + 11 + 3 * p + 1 by omega] at hj0
  rw [show ofP P + 12 + 3 * p + 1 = ofP P + 11 + 3 * p + 1 + 1 by omega] at hj1
  generalize ofP P + 11 + 3 * p = z at *
  obtain ⟨⟨a1, a2, a3, a4, a5, a6, a7, a8, a9, a10⟩, hQ⟩ := hR
  generalize hf' : 8 * P + p = f at *
  have s1 : ∀ lv st, _ := fun lv st => k31_64 (X := X) (lv := lv) (st := st) (c := cG f (2 * f) (P + 1) e) (I := nW (Nj (2 * f) P)) (R := R) (L := L) (y := y) (z := z) (n := f) (by simp [cG]) hf
  have e1 : up2 (nW (Nj (2 * f) P)) 0 f 0 = nW (Nj (2 * f) P) := up2_0 fun s => Nj_z (fun q => absurd q (by omega)) fun q => absurd q (by omega)
  obtain ⟨R1, L1, s2, b1, b2, b3⟩ := i0 (X := X) (c := up1 (cG f (2 * f) (P + 1) e) 0 (f + 1)) (N := Nj (2 * f) P) (R := up2 R 0 f none) (L := up2 L 0 f 0) (z := z + 1) (y := y + 12) (f := f) (p := p) (by simp [up1]) (by simp [up1, cG]) hj0 hj1 (fun i s h => Nj_z (fun _ => h) fun q => absurd q (by omega))
  have eN : jb (Nj (2 * f) P) f p = Nj (2 * (f + 1)) P := Nj_jb hm
  have ec : up1 (up1 (up1 (cG f (2 * f) (P + 1) e) 0 (f + 1)) 2 (2 * f + 1)) 2 (2 * f + 1 + 1) = cG (f + 1) (2 * (f + 1)) (P + 1) e := by
    funext k
    unfold up1 cG
    by_cases k0 : k = 0
    · subst k0; simp
    by_cases k2 : k = 2
    · subst k2; simp; omega
    simp only [k0, k2, if_false]
  rw [eN, ec] at s2
  have fr : ∀ k i s, ¬ (k = 0 ∧ i = f) → ¬ (k = 2 ∧ 2 * f ≤ i) → R1 k i s = R k i s := fun k i s h1 h2 => by
    rw [b3 k i s h1 h2]
    exact if_neg h1
  have c1 : (up3 R1 17 P p (some f)) 5 P 5 = some P := by rw [show (up3 R1 17 P p (some f)) 5 P 5 = R1 5 P 5 from if_neg (by omega), fr _ _ _ (by omega) (by omega)]; exact a5
  have c2 : (up3 R1 17 P p (some f)) 5 P 1 = some P := by rw [show (up3 R1 17 P p (some f)) 5 P 1 = R1 5 P 1 from if_neg (by omega), fr _ _ _ (by omega) (by omega)]; exact a1
  have c3 : (up3 R1 17 P p (some f)) 17 P p = some (8 * P + p) := by rw [hf']; exact up3_self _ _ _ _ _
  have c4 : (up3 R1 17 P p (some f)) 0 f 0 = some (2 * f) := (if_neg (by omega)).trans b1
  have c5 : ∀ j v, (up3 (up3 R1 17 P p (some f)) 19 P j v) 5 P 5 = some P := fun j v => (if_neg (by omega)).trans c1
  have c6 : ∀ j v, (up3 (up3 R1 17 P p (some f)) 19 P j v) 5 P 1 = some P := fun j v => (if_neg (by omega)).trans c2
  have c7 : ∀ j v, (up3 (up3 R1 17 P p (some f)) 19 P j v) 17 P p = some (8 * P + p) := fun j v => (if_neg (by omega)).trans c3
  have c8 : ∀ j v, (up3 (up3 R1 17 P p (some f)) 19 P j v) 0 f 1 = some (2 * f + 1) := fun j v => (if_neg (by omega)).trans ((if_neg (by omega)).trans b2)
  refine ⟨up3 (up3 (up3 R1 17 P p (some f)) 19 P (2 * p + 0) (some (2 * f))) 19 P (2 * p + 1) (some (2 * f + 1)), L1, ?_, ⟨?_, ?_⟩, ?_⟩
  · rw [k31_53, k31_54, k31_56, if_pos ((nI_ltI (by omega) (by omega)).2 hp), k31_59, k31_60 a1 (by simp [cG]), k31_63, s1, e1, k31_67, k31_68, k31_69, s2, kont_v, k31_72 (by simp [cG]) (by simp [cG]) hp, k31_73, k31_74 c1 (by simp [cG]), k31_77, k31_78, k31_79, k31_80, k31_81, pk_mul, nI_add, k31_82, k31_83 c2 (by simp [cG]), k31_86, k31_87 c3 (by simp [cG]) hp, hf', k31_88 c4 (by simp [cG]), k31_91 (by simp [cG]) (by simp [cG] <;> omega) (by omega), k31_92, k31_93 (c5 _ _) (by simp [cG]), k31_96, k31_97, k31_98, k31_99, k31_100, pk_mul, nI_add, k31_101, k31_102 (c6 _ _) (by simp [cG]), k31_105, k31_106 (c7 _ _) (by simp [cG]) hp, hf', k31_107 (c8 _ _) (by simp [cG]), k31_110 (by simp [cG]) (by simp [cG] <;> omega) (by omega), k31_111, k31_114, nI_add]
  · refine RA.fr ⟨a1, a2, a3, a4, a5, a6, a7, a8, a9, a10⟩ fun k s hk => ?_
    exact (if_neg (by omega)).trans ((if_neg (by omega)).trans ((if_neg (by omega)).trans (fr _ _ _ (by omega) (by omega))))
  · intro s hs
    by_cases q : s = p
    · subst q
      rw [hf']
      exact ⟨(if_neg (by omega)).trans ((if_neg (by omega)).trans (up3_self _ _ _ _ _)), (if_neg (by omega)).trans ((if_neg (by omega)).trans ((if_neg (by omega)).trans b1)), (if_neg (by omega)).trans ((if_neg (by omega)).trans ((if_neg (by omega)).trans b2))⟩
    · have hsp : s < p := by omega
      obtain ⟨q1, q2, q3⟩ := hQ s hsp
      exact ⟨(if_neg (by omega)).trans ((if_neg (by omega)).trans ((if_neg (by omega)).trans ((fr _ _ _ (by omega) (by omega)).trans q1))), (if_neg (by omega)).trans ((if_neg (by omega)).trans ((if_neg (by omega)).trans ((fr _ _ _ (by omega) (by omega)).trans q2))), (if_neg (by omega)).trans ((if_neg (by omega)).trans ((if_neg (by omega)).trans ((fr _ _ _ (by omega) (by omega)).trans q3)))⟩
  · intro k i s h
    obtain ⟨h1, h2, h3, h4⟩ := hfr k i h
    exact (if_neg (by omega)).trans ((if_neg (by omega)).trans ((if_neg (by omega)).trans (fr _ _ _ h1 h2)))
theorem i31b {X : XS} {P e : Nat} : ∀ (n p : Nat) {R : GR} {L : GL} {y : Nat}, p + n = 8 → RP R P p → ∃ R' L', ex X 31 53 [vR 5 P, vI (nI p)] [] (gk (cG (8 * P + p) (2 * (8 * P + p)) (P + 1) e) (nW (Nj (2 * (8 * P + p)) P)) R L (ofP P + 11 + 3 * p, y, true)) = ex X 31 53 [vR 5 P, vI (nI 8)] [] (gk (cG (8 * P + 8) (2 * (8 * P + 8)) (P + 1) e) (nW (Nj (2 * (8 * P + 8)) P)) R' L' (ofP P + 11 + 3 * 8, y + 24 * n, true)) ∧ RP R' P 8 ∧ ∀ k i s, ¬ fresh P k i → R' k i s = R k i s := by
  intro n
  induction n with
  | zero =>
    intro p R L y hp hR
    have e8 : p = 8 := by omega
    subst e8
    exact ⟨R, L, rfl, hR, fun _ _ _ _ => rfl⟩
  | succ n ih =>
    intro p R L y hp hR
    obtain ⟨R1, L1, s1, h1, f1⟩ := i31s (X := X) (e := e) (L := L) (y := y) (by omega) hR
    obtain ⟨R2, L2, s2, h2, f2⟩ := ih (p + 1) (L := L1) (y := y + 24) (by omega) h1
    refine ⟨R2, L2, ?_, h2, fun k i s h => (f2 k i s h).trans (f1 k i s h)⟩
    rw [s1, s2, show y + 24 + 24 * n = y + 24 * (n + 1) by omega]
theorem st_r : (stat3 32).getD 0 0 = nI 4 ∧ (stat3 32).getD 1 0 = nI 0 ∧ (stat3 32).getD 2 0 = nI 2 ∧ (stat3 32).getD 3 0 = nI 5 ∧ (stat3 32).getD 4 0 = nI 10 := ⟨rfl, rfl, rfl, rfl, rfl⟩
theorem i31c {X : XS} {P e a b z y n : Nat} {R : GR} {L : GL} (h : R 5 P 4 = some P) : ex X 31 53 [vR 5 P, vI (nI 8)] [] (gk (cG a b (P + 1) e) (nW (Nj n P)) R L (z, y, true)) = some (.inl none, gk (cG a b (P + 1) e) (nW (Nj n (P + 1))) R L (z, y, true)) := by
  have hc : P < cG a b (P + 1) e 5 := by simp [cG]
  have hc2 : P < cG a b (P + 1) e 18 := by simp [cG]
  obtain ⟨r0, r1, r2, r3, r4⟩ := st_r
  rw [← Nj_st]
  simp (disch := first | assumption | omega | decide | (simp only [up1, cG, reduceIte, Nat.reduceEqDiff, Nat.reduceLeDiff, or_true, true_or, or_false, false_or, and_true, true_and, and_false, false_and]; first | assumption | omega)) only [k31_53, k31_54, k31_56, k31_117, k31_118, k31_119, k31_120, k31_121, k31_124, k31_125, k31_128, k31_129, k31_132, k31_133, k31_134, k31_135, k31_138, k31_141, reduceIte, Nat.reduceLT, nW_ap, nW_up, nI_add, pk_mul, nI_ltI, nI_eq, if_true, if_false, kont_r, kont_v, Nat.reduceAdd, Nat.reduceMul, Nat.not_lt, not_true_eq_false, not_false_eq_true, Nat.one_ne_zero, Nat.reduceEqDiff, Nat.lt_irrefl, reduceCtorEq, nI_or0, nI_or1, h, hc, hc2, r0, r1, r2, r3, r4]
theorem i31 {X : XS} {R : GR} {L : GL} {y P e : Nat} : ∃ R' L', exec X 31 [vR 5 P] (gk (up1 (cG (8 * P) (16 * P) P e) 5 (P + 1)) (nW (Nj (16 * P) P)) R L (ofP P + 1, y, true)) = some (.inl none, gk (cG (8 * (P + 1)) (16 * (P + 1)) (P + 1) e) (nW (Nj (16 * (P + 1)) (P + 1))) R' L' (ofP P + 35, y + 291, true)) ∧ RP R' P 8 ∧ ∀ k i s, ¬ fresh P k i → R' k i s = R k i s := by
  obtain ⟨R1, L1, s1, h1, f1⟩ := i31a (X := X) (R := R) (L := L) (y := y) (P := P) (e := e)
  obtain ⟨R2, L2, s2, h2, f2⟩ := i31b (X := X) (e := e) (P := P) 8 0 (R := R1) (L := L1) (y := y + 99) rfl h1
  refine ⟨R2, L2, ?_, h2, fun k i s h => (f2 k i s h).trans (f1 k i s h)⟩
  have e1 : 8 * P + 0 = 8 * P := rfl
  have e2 : 2 * (8 * P) = 16 * P := by omega
  have e3 : 2 * (8 * P + 8) = 16 * (P + 1) := by omega
  rw [e1, e2, e3] at s2
  rw [show 8 * (P + 1) = 8 * P + 8 from rfl]
  exact s1.trans (s2.trans (i31c h2.1.2.2.2.1))
