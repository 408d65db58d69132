/-! the calls that save the state: fountains -/
theorem RES.mu {X : XS} {m r : Nat} {as : List AV} {N C V' W : GV} {R R' : GR} {L : GL} {Z : Nat × Nat × Bool} {y : Int32} (hI : INV N R) (hO : OUT N V' (min (N 7 0 4) 5 + 1) (svT (N 7 0 4) (sst N) (N 22 0)) C R') (hW : ∀ k i s, ¬ k = 22 → ¬ (26 ≤ k ∧ k ≤ 29) → W k i s = (svd C) k i s) (h22 : ∀ s, s < 204 → W 22 0 s = V' 22 0 s) (hV : STV V') (s : exec X m (vR 6 0 :: (as ++ [vR 30 0])) (gg (nW N) R L Z) = some (.inl (some (vI (nI 0))), gg (nW C) R' (up3 L 30 0 0 y.toInt64) Z)) (t : exec X r (vR 7 0 :: as) (gg (nW C) R' (up3 L 30 0 0 y.toInt64) Z) = some (.inl (some (vI y)), gg (nW W) R' (up3 L 30 0 0 y.toInt64) Z)) : RES X m r as N R L Z :=
  RES.o (hI.mu hO (fun k i s a _ c => hW k i s a c) (by rw [hW _ _ _ (by omega) (by omega), svd_o (by omega) (by omega)]) h22 hV) (by rw [hW _ _ _ (by omega) (by omega), svd_70]) s t
theorem inb_no {a b a' b' : Nat} {v w : Int32} (h : inb a b v = false) : inb a b v = true → inb a' b' w = false := fun q => by rw [h] at q; cases q
theorem OUT.e {N V C : GV} {R' : GR} {n : Nat} {T : Nat → Nat → Nat} (h : OUT N V n T C R') : C 22 0 = N 22 0 ∧ C 7 0 4 = N 7 0 4 ∧ (svd C) 22 0 = N 22 0 :=
  have e : C 22 0 = N 22 0 := by funext s; exact h.2.2.2.2 _ _ _ (by omega)
  ⟨e, h.2.2.2.2 _ _ _ (by omega), by rw [sv_22]; exact e⟩
theorem bui_e {M M' : GV} {p fl fi : Nat} {c : Bool} (e : M 22 0 = M' 22 0) : (buiN M p fl fi c) 22 0 = (buiN M' p fl fi c) 22 0 := by
  unfold buiN
  rw [up22, up22, up22, up22, up22, up22, up22, up22, e]
theorem c174 {X : XS} {N : GV} {R : GR} {L : GL} {Z : Nat × Nat × Bool} (hR : Rok R) {p fl fi : Int32} {c : Bool} (hI : INV N R) : RES X 174 123 [vI p, vI fl, vI fi, vI (nI (bN c))] N R L Z := by
  obtain ⟨_, hJ, hP, hV, hT, _⟩ := id hI
  have hD := hV.1.1
  have hs := hT.2.1
  cases i1 : inb 0 7 p with
  | false =>
    refine RES.t hI (k := 1) (by omega) (by omega) (w174_0 ?_) (t123_1 hR i1)
    simp (disch := first | assumption | omega | exact nI_or0 | exact nI_or1 | exact bN_or _) only [in46, x46_0, x46_1, x46_4, x46_5, x46_6, x46_8, x46_11, x46_12, x46_14, x46_17, x46_20, reduceIte, Nat.reduceLT, nW_ap, nW_up, nI_add, pk_mul, nI_ltI, nI_eq, if_true, if_false, kont_r, kont_v, Nat.reduceAdd, Nat.reduceMul, Nat.not_lt, not_true_eq_false, not_false_eq_true, Nat.one_ne_zero, Nat.reduceEqDiff, Nat.lt_irrefl, reduceCtorEq, nI_or0, nI_or1, t74_f i1, kont_t]
  | true =>
    obtain ⟨a, ea, -, ha⟩ := inb_n i1 (by omega) (by omega)
    subst ea
    cases i2 : inb 1 90 fl with
    | false =>
      refine RES.t hI (k := 2) (by omega) (by omega) (w174_1 ?_) (t123_2 hR i1 (inb_no i2))
      simp (disch := first | assumption | omega | exact nI_or0 | exact nI_or1 | exact bN_or _) only [in46, x46_0, x46_1, x46_4, x46_5, x46_6, x46_8, x46_11, x46_12, x46_14, x46_17, x46_20, reduceIte, Nat.reduceLT, nW_ap, nW_up, nI_add, pk_mul, nI_ltI, nI_eq, if_true, if_false, kont_r, kont_v, Nat.reduceAdd, Nat.reduceMul, Nat.not_lt, not_true_eq_false, not_false_eq_true, Nat.one_ne_zero, Nat.reduceEqDiff, Nat.lt_irrefl, reduceCtorEq, nI_or0, nI_or1, t74_t i1, t76_f i2, kont_t]
    | true =>
      cases i3 : inb 10 900 fi with
      | false =>
        refine RES.t hI (k := 2) (by omega) (by omega) (w174_1 ?_) (t123_2 hR i1 fun _ => i3)
        simp (disch := first | assumption | omega | exact nI_or0 | exact nI_or1 | exact bN_or _) only [in46, x46_0, x46_1, x46_4, x46_5, x46_6, x46_8, x46_11, x46_12, x46_14, x46_17, x46_20, reduceIte, Nat.reduceLT, nW_ap, nW_up, nI_add, pk_mul, nI_ltI, nI_eq, if_true, if_false, kont_r, kont_v, Nat.reduceAdd, Nat.reduceMul, Nat.not_lt, not_true_eq_false, not_false_eq_true, Nat.one_ne_zero, Nat.reduceEqDiff, Nat.lt_irrefl, reduceCtorEq, nI_or0, nI_or1, t74_t i1, t76_t i2, t76_f i3, kont_t]
      | true =>
        obtain ⟨b, eb, b1, b2⟩ := inb_n i2 (by omega) (by omega)
        obtain ⟨d, ed, d1, d2⟩ := inb_n i3 (by omega) (by omega)
        subst eb ed
        have hb := (hP.1.1 a (by omega)).1
        rw [Nat.mul_zero, Nat.zero_add] at hb
        have hb1 := (hD.fo (p := a) (by omega)).2.2.2.2.2.2
        by_cases q : N 22 0 (13 + 10 * a + 6) = 1
        · refine RES.t hI (k := 3) (by omega) (by omega) (w174_2 ?_) (t123_3 hR (by omega) i2 i3 q)
          rw [q] at hb
          simp (disch := first | assumption | omega | exact nI_or0 | exact nI_or1 | exact bN_or _) only [in46, x46_0, x46_1, x46_4, x46_5, x46_6, x46_8, x46_11, x46_12, x46_14, x46_17, x46_20, x46_21, x46_24, x46_27, x46_28, x46_29, x46_31, x46_33, x46_36, x46_39, reduceIte, Nat.reduceLT, nW_ap, nW_up, nI_add, pk_mul, nI_ltI, nI_eq, if_true, if_false, kont_r, kont_v, Nat.reduceAdd, Nat.reduceMul, Nat.not_lt, not_true_eq_false, not_false_eq_true, Nat.one_ne_zero, Nat.reduceEqDiff, Nat.lt_irrefl, reduceCtorEq, nI_or0, nI_or1, t74_t i1, t76_t i2, t76_t i3, hb, Nat.mul_zero, Nat.zero_add, thr_g]
        · have q0 : N 0 a 2 = 0 := by omega
          obtain ⟨N1, R1, s80, hR1, p1, j1, sv1, k1, f1⟩ := t80 (X := X) (N := N) (R := R) (L := L) (Z := Z) hR hD hP hJ hT
          have s1 := t1 (X := X) (N := N1) (R := R1) (L := L) (Z := Z) (f := a) (a := b) (b := d) (c := c) hR1 (by omega)
          have p2 := PK.bu (fl := b) (fi := d) (c := c) hD p1 (by omega) q d1
          have f2 : FrP 0 N1 (bgN N1 a b d c) := fun k i s x => bg_o fun y => x (by unfold own; omega)
          have dd : DI (N 22 0 5) (buiN N a b d c) := hD.bu (by omega) ((hP.1.2.2.2.1 a (by omega)).2.2 q |>.2.2 2 (by omega)) b2 d2
          have hO : OUT N (buiN N a b d c) (min (N 7 0 4) 5 + 1) (svT (N 7 0 4) (sst N) (N 22 0)) (bgN N1 a b d c) R1 := OUT.mu hR1 (j1.x f2 p2.1 dd) p2 sv1 k1 f2
          have s34 := t34 (X := X) (N := bgN N1 a b d c) (R := R1) (L := L) (Z := Z) (P := 0) hR1 (by omega) p2.1.2.2.2.2.2
          obtain ⟨e22, e74, esv⟩ := hO.e
          have hW22 : (buiN (svd (bgN N1 a b d c)) a b d c) 22 0 = (buiN N a b d c) 22 0 := bui_e esv
          have ecnt : sumN 8 (fun p => (bgN N1 a b d c) 0 (8 * 0 + p) 2) = cntF ((buiN (svd (bgN N1 a b d c)) a b d c) 22 0) := by
            unfold cntF
            refine sumN_c fun p hp => ?_
            rw [hW22]
            exact (p2.1.1 p hp).1
          rw [ecnt] at s34
          refine RES.mu (W := buiN (svd (bgN N1 a b d c)) a b d c) hI hO (fun k i s x _ => ?_) (fun s _ => by rw [hW22]) (hV.g dd fun s x => bu_s (by omega)) (w174 (y := nI (cntF ((buiN (svd (bgN N1 a b d c)) a b d c) 22 0))) (I' := nW (bgN N1 a b d c)) (R' := R1) ?_) (t123_4 hR1 (hD.e0 e22) (by omega) (by omega) ⟨b1, b2⟩ ⟨d1, d2⟩ (by rw [e22]; exact q))
          · unfold buiN
            simp (disch := omega) only [u_ne]
          · generalize cntF ((buiN (svd (bgN N1 a b d c)) a b d c) 22 0) = y at s34
            generalize bgN N1 a b d c = C at s1 s34
            simp (disch := first | assumption | omega | exact nI_or0 | exact nI_or1 | exact bN_or _) only [in46, x46_0, x46_1, x46_4, x46_5, x46_6, x46_8, x46_11, x46_12, x46_14, x46_17, x46_20, x46_21, x46_24, x46_27, x46_28, x46_29, x46_31, x46_33, x46_36, x46_39, x46_49, x46_50, x46_53, x46_55, x46_56, x46_57, x46_59, x46_62, x46_63, x46_66, x46_69, in46, reduceIte, Nat.reduceLT, nW_ap, nW_up, nI_add, pk_mul, nI_ltI, nI_eq, if_true, if_false, kont_r, kont_v, Nat.reduceAdd, Nat.reduceMul, Nat.not_lt, not_true_eq_false, not_false_eq_true, Nat.one_ne_zero, Nat.reduceEqDiff, Nat.lt_irrefl, reduceCtorEq, nI_or0, nI_or1, t74_t i1, t76_t i2, t76_t i3, q0, Nat.mul_zero, Nat.zero_add, s80, s1, s34]
theorem rem_e {M M' : GV} {p : Nat} (e : M 22 0 = M' 22 0) : (remN M p) 22 0 = (remN M' p) 22 0 := by
  unfold remN endN
  rw [up22, up22, up22, up22, up22, up22, up22, up22, up22, up22, up22, up22]
  have : (rowAt M 22 0 (13 + 10 * p) 10 fun _ => 0) 22 0 = (rowAt M' 22 0 (13 + 10 * p) 10 fun _ => 0) 22 0 := by
    funext s
    unfold rowAt
    rw [e]
  rw [this]
theorem c175 {X : XS} {N : GV} {R : GR} {L : GL} {Z : Nat × Nat × Bool} (hR : Rok R) {p : Int32} (hI : INV N R) : RES X 175 124 [vI p] N R L Z := by
  obtain ⟨_, hJ, hP, hV, hT, _⟩ := id hI
  have hD := hV.1.1
  have hs := hT.2.1
  cases i1 : inb 0 7 p with
  | false =>
    refine RES.t hI (k := 1) (by omega) (by omega) (w175_0 ?_) (t124_1 hR i1)
    simp (disch := first | assumption | omega | exact nI_or0 | exact nI_or1 | exact bN_or _) only [in47, x47_0, x47_1, reduceIte, Nat.reduceLT, nW_ap, nW_up, nI_add, pk_mul, nI_ltI, nI_eq, if_true, if_false, kont_r, kont_v, Nat.reduceAdd, Nat.reduceMul, Nat.not_lt, not_true_eq_false, not_false_eq_true, Nat.one_ne_zero, Nat.reduceEqDiff, Nat.lt_irrefl, reduceCtorEq, nI_or0, nI_or1, t74_f i1, kont_t]
  | true =>
    obtain ⟨a, ea, -, ha⟩ := inb_n i1 (by omega) (by omega)
    subst ea
    have hb := (hP.1.1 a (by omega)).1
    rw [Nat.mul_zero, Nat.zero_add] at hb
    have hb1 := (hD.fo (p := a) (by omega)).2.2.2.2.2.2
    by_cases q : N 22 0 (13 + 10 * a + 6) = 0
    · refine RES.t hI (k := 2) (by omega) (by omega) (w175_2 ?_) (t124_2 hR (by omega) q)
      have s79 := t79_f (X := X) (N := N) (R := R) (L := L) (Z := Z) (p := a) hR (by omega) (by omega)
      simp (disch := first | assumption | omega | exact nI_or0 | exact nI_or1 | exact bN_or _) only [in47, x47_0, x47_1, x47_4, x47_5, x47_6, reduceIte, Nat.reduceLT, nW_ap, nW_up, nI_add, pk_mul, nI_ltI, nI_eq, if_true, if_false, kont_r, kont_v, Nat.reduceAdd, Nat.reduceMul, Nat.not_lt, not_true_eq_false, not_false_eq_true, Nat.one_ne_zero, Nat.reduceEqDiff, Nat.lt_irrefl, reduceCtorEq, nI_or0, nI_or1, t74_t i1, s79, kont_t]
    · have s79 := t79_t (X := X) (N := N) (R := R) (L := L) (Z := Z) (p := a) hR (by omega) (by omega)
      obtain ⟨N1, R1, s80, hR1, p1, j1, sv1, k1, f1⟩ := t80 (X := X) (N := N) (R := R) (L := L) (Z := Z) hR hD hP hJ hT
      have S1 := p1.1.2.2.2.2.2
      have s2 := t2 (X := X) (N := N1) (R := R1) (L := L) (Z := Z) (f := a) hR1 (by omega) (S1.2 _ (by omega)).2.2.1 (S1.2 _ (by omega)).2.2.1
      have p2 := p1.rm (p := a) hD (by omega)
      have f2 : FrP 0 N1 (edN N1 a) := fun k i s x => ed_o (fun y => x (by unfold own; omega)) fun y => x (by unfold own; omega)
      have dd : DI (N 22 0 5) (remN N a) := hD.rm (by omega)
      have hO : OUT N (remN N a) (min (N 7 0 4) 5 + 1) (svT (N 7 0 4) (sst N) (N 22 0)) (edN N1 a) R1 := OUT.mu hR1 (j1.x f2 p2.1 dd) p2 sv1 k1 f2
      obtain ⟨e22, e74, esv⟩ := hO.e
      have hW22 : (remN (svd (edN N1 a)) a) 22 0 = (remN N a) 22 0 := rem_e esv
      have g1 := (p1.1.2.1 (2 * a) (by omega)).1
      have g2 := (p1.1.2.1 (2 * a + 1) (by omega)).1
      rw [Nat.mul_zero, Nat.zero_add] at g1 g2
      have t := t124_3 (X := X) (N := edN N1 a) (R := R1) (L := up3 L 30 0 0 (nI (N 22 0 (93 + 3 * (2 * a)) + N 22 0 (93 + 3 * (2 * a + 1)))).toInt64) (Z := Z) hR1 (hD.e0 e22) (by omega) (p := a) (by omega) (by rw [e22]; exact q)
      rw [e22] at t
      refine RES.mu (W := remN (svd (edN N1 a)) a) hI hO (fun k i s x _ => ?_) (fun s _ => by rw [hW22]) (hV.g dd fun s x => re_s (by omega) (by omega)) (w175 (y := nI (N 22 0 (93 + 3 * (2 * a)) + N 22 0 (93 + 3 * (2 * a + 1)))) (I' := nW (edN N1 a)) (R' := R1) ?_) t
      · unfold remN endN
        simp (disch := omega) only [u_ne]
        exact rowAt_out (by omega)
      · rw [g1, g2] at s2
        simp (disch := first | assumption | omega | exact nI_or0 | exact nI_or1 | exact bN_or _) only [in47, x47_0, x47_1, x47_4, x47_5, x47_6, x47_9, x47_10, x47_13, x47_14, x47_17, x47_20, x47_21, x47_22, x47_25, in47, reduceIte, Nat.reduceLT, nW_ap, nW_up, nI_add, pk_mul, nI_ltI, nI_eq, if_true, if_false, kont_r, kont_v, Nat.reduceAdd, Nat.reduceMul, Nat.not_lt, not_true_eq_false, not_false_eq_true, Nat.one_ne_zero, Nat.reduceEqDiff, Nat.lt_irrefl, reduceCtorEq, nI_or0, nI_or1, t74_t i1, s79, Nat.mul_zero, Nat.zero_add, s80, s2]
theorem c176 {X : XS} {N : GV} {R : GR} {L : GL} {Z : Nat × Nat × Bool} (hR : Rok R) {p : Int32} {c : Bool} (hI : INV N R) : RES X 176 126 [vI p, vI (nI (bN c))] N R L Z := by
  obtain ⟨_, hJ, hP, hV, hT, _⟩ := id hI
  have hD := hV.1.1
  have hs := hT.2.1
  cases i1 : inb 0 7 p with
  | false =>
    refine RES.t hI (k := 1) (by omega) (by omega) (w176_0 ?_) (t126 (t125_1 hR i1))
    simp (disch := first | assumption | omega | exact nI_or0 | exact nI_or1 | exact bN_or _) only [in48, x48_0, x48_1, reduceIte, Nat.reduceLT, nW_ap, nW_up, nI_add, pk_mul, nI_ltI, nI_eq, if_true, if_false, kont_r, kont_v, Nat.reduceAdd, Nat.reduceMul, Nat.not_lt, not_true_eq_false, not_false_eq_true, Nat.one_ne_zero, Nat.reduceEqDiff, Nat.lt_irrefl, reduceCtorEq, nI_or0, nI_or1, t74_f i1, kont_t]
  | true =>
    obtain ⟨a, ea, -, ha⟩ := inb_n i1 (by omega) (by omega)
    subst ea
    have hb := (hP.1.1 a (by omega)).1
    rw [Nat.mul_zero, Nat.zero_add] at hb
    have hb1 := (hD.fo (p := a) (by omega)).2.2.2.2.2.2
    by_cases q : N 22 0 (13 + 10 * a + 6) = 0
    · refine RES.t hI (k := 2) (by omega) (by omega) (w176_2 ?_) (t126 (t125_2 hR (by omega) q))
      have s79 := t79_f (X := X) (N := N) (R := R) (L := L) (Z := Z) (p := a) hR (by omega) (by omega)
      simp (disch := first | assumption | omega | exact nI_or0 | exact nI_or1 | exact bN_or _) only [in48, x48_0, x48_1, x48_4, x48_5, x48_6, reduceIte, Nat.reduceLT, nW_ap, nW_up, nI_add, pk_mul, nI_ltI, nI_eq, if_true, if_false, kont_r, kont_v, Nat.reduceAdd, Nat.reduceMul, Nat.not_lt, not_true_eq_false, not_false_eq_true, Nat.one_ne_zero, Nat.reduceEqDiff, Nat.lt_irrefl, reduceCtorEq, nI_or0, nI_or1, t74_t i1, s79, kont_t]
    · have s79 := t79_t (X := X) (N := N) (R := R) (L := L) (Z := Z) (p := a) hR (by omega) (by omega)
      obtain ⟨N1, R1, s80, hR1, p1, j1, sv1, k1, f1⟩ := t80 (X := X) (N := N) (R := R) (L := L) (Z := Z) hR hD hP hJ hT
      have q1 : N 22 0 (13 + 10 * a + 6) = 1 := by omega
      have hcl := bN_le c
      have p2 := p1.tu (w := 4) (b := bN c) hD (by omega) (Or.inr rfl) (bN_le c) q1
      have f2 : FrP 0 N1 (up3 N1 0 a 4 (bN c)) := FrP.rf.up (by unfold own; omega)
      have dd : DI (N 22 0 5) (up3 N 22 0 (13 + 10 * a + 4) (bN c)) := hD.up' (bd_F (by omega) (by unfold b1; omega)) (by omega)
      have hO : OUT N (up3 N 22 0 (13 + 10 * a + 4) (bN c)) (min (N 7 0 4) 5 + 1) (svT (N 7 0 4) (sst N) (N 22 0)) (up3 N1 0 a 4 (bN c)) R1 := OUT.mu hR1 (j1.x f2 p2.1 dd) p2 sv1 k1 f2
      obtain ⟨e22, e74, esv⟩ := hO.e
      have g := ((p1.1.1 a (by omega)).2 q1).2.1
      rw [Nat.mul_zero, Nat.zero_add] at g
      have s84 := t84 (X := X) (N := N1) (R := R1) (L := L) (Z := Z) (b := N 22 0 (13 + 10 * a + 4)) (hD.fo (p := a) (by omega)).2.2.2.2.1
      have t := t125_3 (X := X) (N := up3 N1 0 a 4 (bN c)) (R := R1) (L := up3 L 30 0 0 (nI (N 22 0 (13 + 10 * a + 4))).toInt64) (Z := Z) hR1 (hD.e0 e22) (by omega) (p := a) (w := 4) (c := c) (by omega) (by omega) (by rw [e22]; exact q)
      rw [e22] at t
      refine RES.mu (W := up3 (svd (up3 N1 0 a 4 (bN c))) 22 0 (13 + 10 * a + 4) (bN c)) hI hO (fun k i s x _ => u_ne (by omega)) (fun s _ => by rw [up22, up22, esv]) (hV.g dd fun s x => u_ne (by omega)) (w176 (y := nI (N 22 0 (13 + 10 * a + 4))) (I' := nW (up3 N1 0 a 4 (bN c))) (R' := R1) ?_) (t126 t)
      simp (disch := first | assumption | omega | exact nI_or0 | exact nI_or1 | exact bN_or _) only [in48, x48_0, x48_1, x48_4, x48_5, x48_6, x48_9, x48_10, x48_13, x48_14, x48_17, x48_20, x48_21, x48_22, x48_23, x48_24, x48_27, x48_30, x48_32, x48_33, x48_34, x48_37, x48_39, in48, reduceIte, Nat.reduceLT, nW_ap, nW_up, nI_add, pk_mul, nI_ltI, nI_eq, if_true, if_false, kont_r, kont_v, Nat.reduceAdd, Nat.reduceMul, Nat.not_lt, not_true_eq_false, not_false_eq_true, Nat.one_ne_zero, Nat.reduceEqDiff, Nat.lt_irrefl, reduceCtorEq, nI_or0, nI_or1, t74_t i1, s79, Nat.mul_zero, Nat.zero_add, s80, g, s84]
theorem c177 {X : XS} {N : GV} {R : GR} {L : GL} {Z : Nat × Nat × Bool} (hR : Rok R) {p : Int32} {c : Bool} (hI : INV N R) : RES X 177 127 [vI p, vI (nI (bN c))] N R L Z := by
  obtain ⟨_, hJ, hP, hV, hT, _⟩ := id hI
  have hD := hV.1.1
  have hs := hT.2.1
  cases i1 : inb 0 7 p with
  | false =>
    refine RES.t hI (k := 1) (by omega) (by omega) (w177_0 ?_) (t127 (t125_1 hR i1))
    simp (disch := first | assumption | omega | exact nI_or0 | exact nI_or1 | exact bN_or _) only [in49, x49_0, x49_1, reduceIte, Nat.reduceLT, nW_ap, nW_up, nI_add, pk_mul, nI_ltI, nI_eq, if_true, if_false, kont_r, kont_v, Nat.reduceAdd, Nat.reduceMul, Nat.not_lt, not_true_eq_false, not_false_eq_true, Nat.one_ne_zero, Nat.reduceEqDiff, Nat.lt_irrefl, reduceCtorEq, nI_or0, nI_or1, t74_f i1, kont_t]
  | true =>
    obtain ⟨a, ea, -, ha⟩ := inb_n i1 (by omega) (by omega)
    subst ea
    have hb := (hP.1.1 a (by omega)).1
    rw [Nat.mul_zero, Nat.zero_add] at hb
    have hb1 := (hD.fo (p := a) (by omega)).2.2.2.2.2.2
    by_cases q : N 22 0 (13 + 10 * a + 6) = 0
    · refine RES.t hI (k := 2) (by omega) (by omega) (w177_2 ?_) (t127 (t125_2 hR (by omega) q))
      have s79 := t79_f (X := X) (N := N) (R := R) (L := L) (Z := Z) (p := a) hR (by omega) (by omega)
      simp (disch := first | assumption | omega | exact nI_or0 | exact nI_or1 | exact bN_or _) only [in49, x49_0, x49_1, x49_4, x49_5, x49_6, reduceIte, Nat.reduceLT, nW_ap, nW_up, nI_add, pk_mul, nI_ltI, nI_eq, if_true, if_false, kont_r, kont_v, Nat.reduceAdd, Nat.reduceMul, Nat.not_lt, not_true_eq_false, not_false_eq_true, Nat.one_ne_zero, Nat.reduceEqDiff, Nat.lt_irrefl, reduceCtorEq, nI_or0, nI_or1, t74_t i1, s79, kont_t]
    · have s79 := t79_t (X := X) (N := N) (R := R) (L := L) (Z := Z) (p := a) hR (by omega) (by omega)
      obtain ⟨N1, R1, s80, hR1, p1, j1, sv1, k1, f1⟩ := t80 (X := X) (N := N) (R := R) (L := L) (Z := Z) hR hD hP hJ hT
      have q1 : N 22 0 (13 + 10 * a + 6) = 1 := by omega
      have hcl := bN_le c
      have p2 := p1.tu (w := 3) (b := bN c) hD (by omega) (Or.inl rfl) (bN_le c) q1
      have f2 : FrP 0 N1 (up3 N1 0 a 3 (bN c)) := FrP.rf.up (by unfold own; omega)
      have dd : DI (N 22 0 5) (up3 N 22 0 (13 + 10 * a + 3) (bN c)) := hD.up' (bd_F (by omega) (by unfold b1; omega)) (by omega)
      have hO : OUT N (up3 N 22 0 (13 + 10 * a + 3) (bN c)) (min (N 7 0 4) 5 + 1) (svT (N 7 0 4) (sst N) (N 22 0)) (up3 N1 0 a 3 (bN c)) R1 := OUT.mu hR1 (j1.x f2 p2.1 dd) p2 sv1 k1 f2
      obtain ⟨e22, e74, esv⟩ := hO.e
      have g := ((p1.1.1 a (by omega)).2 q1).1
      rw [Nat.mul_zero, Nat.zero_add] at g
      have s84 := t84 (X := X) (N := N1) (R := R1) (L := L) (Z := Z) (b := N 22 0 (13 + 10 * a + 3)) (hD.fo (p := a) (by omega)).2.2.2.1
      have t := t125_3 (X := X) (N := up3 N1 0 a 3 (bN c)) (R := R1) (L := up3 L 30 0 0 (nI (N 22 0 (13 + 10 * a + 3))).toInt64) (Z := Z) hR1 (hD.e0 e22) (by omega) (p := a) (w := 3) (c := c) (by omega) (by omega) (by rw [e22]; exact q)
      rw [e22] at t
      refine RES.mu (W := up3 (svd (up3 N1 0 a 3 (bN c))) 22 0 (13 + 10 * a + 3) (bN c)) hI hO (fun k i s x _ => u_ne (by omega)) (fun s _ => by rw [up22, up22, esv]) (hV.g dd fun s x => u_ne (by omega)) (w177 (y := nI (N 22 0 (13 + 10 * a + 3))) (I' := nW (up3 N1 0 a 3 (bN c))) (R' := R1) ?_) (t127 t)
      simp (disch := first | assumption | omega | exact nI_or0 | exact nI_or1 | exact bN_or _) only [in49, x49_0, x49_1, x49_4, x49_5, x49_6, x49_9, x49_10, x49_13, x49_14, x49_17, x49_20, x49_21, x49_22, x49_23, x49_24, x49_27, x49_30, x49_32, x49_33, x49_34, x49_37, x49_39, in49, reduceIte, Nat.reduceLT, nW_ap, nW_up, nI_add, pk_mul, nI_ltI, nI_eq, if_true, if_false, kont_r, kont_v, Nat.reduceAdd, Nat.reduceMul, Nat.not_lt, not_true_eq_false, not_false_eq_true, Nat.one_ne_zero, Nat.reduceEqDiff, Nat.lt_irrefl, reduceCtorEq, nI_or0, nI_or1, t74_t i1, s79, Nat.mul_zero, Nat.zero_add, s80, g, s84]
