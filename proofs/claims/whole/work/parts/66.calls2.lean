/-! the calls that save the state: frosts, outings, settings, days -/
theorem frs_e {M M' : GV} {t a b : Nat} (e : M 22 0 = M' 22 0) : (frsN M t a b) 22 0 = (frsN M' t a b) 22 0 := by
  unfold frsN
  (try simp only)
  rw [up22, up22, up22, up22, up22, up22]
  have : ∀ x y f, (rowAt M 22 0 x y f) 22 0 = (rowAt M' 22 0 x y f) 22 0 := by
    intro x y f
    funext s
    unfold rowAt
    rw [e]
  rw [e, this]
theorem c178 {X : XS} {N : GV} {R : GR} {L : GL} {Z : Nat × Nat × Bool} (hR : Rok R) {x y : Int32} (hI : INV N R) : RES X 178 128 [vI x, vI y] N R L Z := by
  obtain ⟨_, hJ, hP, hV, hT, _⟩ := id hI
  have hD := hV.1.1
  have hs := hT.2.1
  have h5 := hV.2.1
  have e5 : N 5 0 0 = N 22 0 5 := hP.2.1.2
  cases i1 : inb (N 22 0 5) 999 x with
  | false =>
    refine RES.t hI (k := 1) (by omega) (by omega) (w178_1 ?_) (t128_1 hR hD i1)
    simp (disch := first | assumption | omega | exact nI_or0 | exact nI_or1 | exact bN_or _) only [in50, x50_0, x50_1, x50_2, x50_5, x50_8, x50_11, reduceIte, Nat.reduceLT, nW_ap, nW_up, nI_add, pk_mul, nI_ltI, nI_eq, if_true, if_false, kont_r, kont_v, Nat.reduceAdd, Nat.reduceMul, Nat.not_lt, not_true_eq_false, not_false_eq_true, Nat.one_ne_zero, Nat.reduceEqDiff, Nat.lt_irrefl, reduceCtorEq, nI_or0, nI_or1, e5, t76_f i1, kont_t]
  | true =>
    obtain ⟨a, ea, a1, a2⟩ := inb_n i1 (by omega) (by omega)
    subst ea
    cases i2 : inb a 999 y with
    | false =>
      refine RES.t hI (k := 1) (by omega) (by omega) (w178_1 ?_) (t128_2 hR hD ⟨a1, a2⟩ i2)
      simp (disch := first | assumption | omega | exact nI_or0 | exact nI_or1 | exact bN_or _) only [in50, x50_0, x50_1, x50_2, x50_5, x50_8, x50_11, x50_14, x50_15, x50_16, x50_19, reduceIte, Nat.reduceLT, nW_ap, nW_up, nI_add, pk_mul, nI_ltI, nI_eq, if_true, if_false, kont_r, kont_v, Nat.reduceAdd, Nat.reduceMul, Nat.not_lt, not_true_eq_false, not_false_eq_true, Nat.one_ne_zero, Nat.reduceEqDiff, Nat.lt_irrefl, reduceCtorEq, nI_or0, nI_or1, e5, t76_t i1, t76_f i2, kont_t]
    | true =>
      obtain ⟨b, eb, b1, b2⟩ := inb_n i2 (by omega) (by omega)
      subst eb
      have hF := RW.fb hD hP.2.2.1
      have e12 : N 1 0 2 = N 22 0 6 := hP.2.2.1.1
      have h6 := hD.h6
      have s8 := t8 (X := X) (N := N) (R := R) (L := L) (Z := Z) (P := 0) (a := a) (b := b) hR (by omega) hF (by omega) (by omega)
      rw [hP.2.2.1.mt] at s8
      cases i3 : (decide (N 22 0 6 = 6) || meetB (N 22 0) a b) with
      | true =>
        refine RES.t hI (k := 2) (by omega) (by omega) (w178_2 ?_) (t128_3 hR hD ⟨a1, a2⟩ ⟨b1, b2⟩ i3)
        by_cases q : N 22 0 6 = 6
        · simp (disch := first | assumption | omega | exact nI_or0 | exact nI_or1 | exact bN_or _) only [in50, x50_0, x50_1, x50_2, x50_5, x50_8, x50_11, x50_14, x50_15, x50_16, x50_19, x50_22, x50_23, x50_26, x50_29, x50_32, x50_34, x50_37, x50_38, x50_41, x50_44, x50_45, x50_46, x50_49, x50_52, reduceIte, Nat.reduceLT, nW_ap, nW_up, nI_add, pk_mul, nI_ltI, nI_eq, if_true, if_false, kont_r, kont_v, Nat.reduceAdd, Nat.reduceMul, Nat.not_lt, not_true_eq_false, not_false_eq_true, Nat.one_ne_zero, Nat.reduceEqDiff, Nat.lt_irrefl, reduceCtorEq, nI_or0, nI_or1, e5, t76_t i1, t76_t i2, e12, q, thr_g]
        · rw [decide_eq_false q, Bool.false_or] at i3
          rw [i3] at s8
          have q' : N 22 0 6 < 6 := by omega
          simp (disch := first | assumption | omega | exact nI_or0 | exact nI_or1 | exact bN_or _) only [in50, x50_0, x50_1, x50_2, x50_5, x50_8, x50_11, x50_14, x50_15, x50_16, x50_19, x50_22, x50_23, x50_26, x50_29, x50_32, x50_34, x50_37, x50_38, x50_41, x50_44, x50_45, x50_46, x50_49, x50_52, reduceIte, Nat.reduceLT, nW_ap, nW_up, nI_add, pk_mul, nI_ltI, nI_eq, if_true, if_false, kont_r, kont_v, Nat.reduceAdd, Nat.reduceMul, Nat.not_lt, not_true_eq_false, not_false_eq_true, Nat.one_ne_zero, Nat.reduceEqDiff, Nat.lt_irrefl, reduceCtorEq, nI_or0, nI_or1, e5, t76_t i1, t76_t i2, e12, q', s8, bN, thr_g]
      | false =>
        rw [Bool.or_eq_false_iff] at i3
        have q := of_decide_eq_false i3.1
        have q' : N 22 0 6 < 6 := by omega
        have im := i3.2
        rw [im] at s8
        obtain ⟨N1, R1, s80, hR1, p1, j1, sv1, k1, f1⟩ := t80 (X := X) (N := N) (R := R) (L := L) (Z := Z) hR hD hP hJ hT
        obtain ⟨C, s10, p2, f2'⟩ := g10 (X := X) (N := N1) (R := R1) (L := L) (Z := Z) (P := 0) (a := a) (b := b) hR1 (by omega) hD hV.2.2.2.2.2 p1 q' b1 b2 im
        have f2 : FrP 0 N1 C := fun k i s x => f2' k i s fun y => x (by unfold own; omega)
        have hle : atF (N 22 0) a ≤ N 22 0 6 := atF_le
        obtain ⟨n1, n2, n6⟩ := fr_n (V := N) (t := atF (N 22 0) a) (a := a) (b := b)
        have dd : DI (N 22 0 5) (frsN N (atF (N 22 0) a) a b) := by
          refine ⟨hD.hK, fun j => ?_, fun p hp => ?_⟩
          · by_cases e : j = 6
            · subst e; rw [n6]; exact (bd_S (by omega) (by unfold b0; omega))
            · by_cases e2 : j < 141 + 2 * atF (N 22 0) a ∨ 141 + 2 * N 22 0 6 + 2 ≤ j
              · rw [fr_s e2 e hle]; exact hD.u j
              · refine bd_W (by omega) ?_
                by_cases e3 : j = 141 + 2 * atF (N 22 0) a
                · rw [e3, n1]; omega
                · by_cases e4 : j = 141 + 2 * atF (N 22 0) a + 1
                  · rw [e4, n2]; omega
                  · obtain ⟨k, w, ej, hw⟩ : ∃ k w, j = 141 + 2 * k + w ∧ w < 2 := ⟨(j - 141) / 2, (j - 141) % 2, by omega, by omega⟩
                    rw [ej, fr_b (by omega) (by omega) hw, show 141 + 2 * (k - 1) + w = 141 + (2 * (k - 1) + w) by omega]
                    exact hD.fr (by omega)
          · rw [fr_s (by omega) (by omega) hle, fr_s (by omega) (by omega) hle]; exact hD.l p hp
        have hO : OUT N (frsN N (atF (N 22 0) a) a b) (min (N 7 0 4) 5 + 1) (svT (N 7 0 4) (sst N) (N 22 0)) C R1 := OUT.mu hR1 (j1.x f2 p2.1 dd) p2 sv1 k1 f2
        obtain ⟨e22, e74, esv⟩ := hO.e
        have hW22 : (frsN (svd C) (atF (N 22 0) a) a b) 22 0 = (frsN N (atF (N 22 0) a) a b) 22 0 := frs_e esv
        have ev : C 1 0 2 = N 22 0 6 + 1 := by rw [p2.2.2.1.1, n6]
        have t := t128_4 (X := X) (N := C) (R := R1) (L := up3 L 30 0 0 (nI (N 22 0 6 + 1)).toInt64) (Z := Z) hR1 (hD.e0 e22) (by omega) (a := a) (b := b) (by rw [e22]; exact ⟨a1, a2⟩) ⟨b1, b2⟩ (by rw [e22, decide_eq_false q, im]; rfl)
        rw [e22] at t
        obtain ⟨v1, v2, v3, v4, v5, v6⟩ := hV
        have vs : ∀ s, s < 141 → ¬ s = 6 → (frsN N (atF (N 22 0) a) a b) 22 0 s = N 22 0 s := fun s x y => fr_s (by omega) y hle
        have hV' : STV (frsN N (atF (N 22 0) a) a b) := by
          refine ⟨⟨by rw [vs 5 (by omega) (by omega)]; exact dd, fun s x y => ?_⟩, by rw [vs 5 (by omega) (by omega)]; exact v2, by rw [vs 7 (by omega) (by omega)]; exact v3, by rw [vs 8 (by omega) (by omega), vs 9 (by omega) (by omega)]; exact v4, by rw [vs 9 (by omega) (by omega), vs 5 (by omega) (by omega)]; exact v5, v6.fi b1 im⟩
          rw [vs 7 (by omega) (by omega)] at x
          rw [fr_s (by omega) (by omega) hle]
          exact v1.2 s x y
        refine RES.mu (W := frsN (svd C) (atF (N 22 0) a) a b) hI hO (fun k i s x _ => ?_) (fun s _ => by rw [hW22]) hV' (w178 (y := nI (N 22 0 6 + 1)) (I' := nW C) (R' := R1) ?_) t
        · unfold frsN
          (try simp only)
          rw [u_ne (by omega), u_ne (by omega), u_ne (by omega), rowAt_out (by omega)]
        · simp (disch := first | assumption | omega | exact nI_or0 | exact nI_or1 | exact bN_or _) only [in50, x50_0, x50_1, x50_2, x50_5, x50_8, x50_11, x50_14, x50_15, x50_16, x50_19, x50_22, x50_23, x50_26, x50_29, x50_32, x50_34, x50_37, x50_38, x50_41, x50_44, x50_45, x50_46, x50_49, x50_52, x50_62, x50_63, x50_66, x50_67, x50_70, x50_73, x50_74, x50_75, x50_78, x50_79, x50_82, x50_85, x50_88, in50, reduceIte, Nat.reduceLT, nW_ap, nW_up, nI_add, pk_mul, nI_ltI, nI_eq, if_true, if_false, kont_r, kont_v, Nat.reduceAdd, Nat.reduceMul, Nat.not_lt, not_true_eq_false, not_false_eq_true, Nat.one_ne_zero, Nat.reduceEqDiff, Nat.lt_irrefl, reduceCtorEq, nI_or0, nI_or1, e5, t76_t i1, t76_t i2, e12, q', s8, bN, Bool.false_eq_true, s80, s10, ev]
theorem thwI_n {S : Nat → Nat} {a : Int32} : ∀ {k : Nat}, thwI S a k = none → ∀ j, j < k → ¬ nI (S (141 + 2 * j)) = a
  | 0, _, j, hj => by omega
  | k + 1, h, j, hj => by
    unfold thwI at h
    split at h
    · cases h
    · next q =>
      by_cases e : j = k
      · subst e; exact q
      · exact thwI_n h j (by omega)
theorem thw_e {M M' : GV} {i : Nat} (e : M 22 0 = M' 22 0) : (thwN M i) 22 0 = (thwN M' i) 22 0 := by
  unfold thwN
  (try simp only)
  rw [up22, up22, up22, up22, e]
  have : ∀ x y f, (rowAt (up3 M 22 0 6 (M' 22 0 6 - 1)) 22 0 x y f) 22 0 = (rowAt (up3 M' 22 0 6 (M' 22 0 6 - 1)) 22 0 x y f) 22 0 := by
    intro x y f
    funext s
    unfold rowAt up3
    rw [e]
  rw [this]
theorem c179 {X : XS} {N : GV} {R : GR} {L : GL} {Z : Nat × Nat × Bool} (hR : Rok R) {x : Int32} (hI : INV N R) : RES X 179 129 [vI x] N R L Z := by
  obtain ⟨_, hJ, hP, hV, hT, _⟩ := id hI
  have hD := hV.1.1
  have hs := hT.2.1
  have e12 : N 1 0 2 = N 22 0 6 := hP.2.2.1.1
  have h6 := hD.h6
  cases i1 : thwI (N 22 0) x (N 22 0 6) with
  | none =>
    refine RES.t hI (k := 1) (by omega) (by omega) (w179_1 ?_) (t129_1 hR hD i1)
    have s9 := t9_n (X := X) (N := N) (R := R) (L := L) (Z := Z) (P := 0) (a := x) hR (by omega) (by omega) fun j hj => by
      rw [(hP.2.2.1.2 j (by omega)).1]
      exact thwI_n i1 j (by omega)
    have hm : (-1 : Int32) < nI 0 := by decide
    simp (disch := first | assumption | omega | exact nI_or0 | exact nI_or1 | exact bN_or _) only [in51, x51_0, x51_1, x51_4, x51_7, x51_8, x51_11, x51_12, x51_13, x51_16, reduceIte, Nat.reduceLT, nW_ap, nW_up, nI_add, pk_mul, nI_ltI, nI_eq, if_true, if_false, kont_r, kont_v, Nat.reduceAdd, Nat.reduceMul, Nat.not_lt, not_true_eq_false, not_false_eq_true, Nat.one_ne_zero, Nat.reduceEqDiff, Nat.lt_irrefl, reduceCtorEq, nI_or0, nI_or1, s9, hm, thr_g]
  | some i =>
    obtain ⟨hi, ex⟩ := thwI_lt i1
    subst ex
    have fs := hV.2.2.2.2.2
    have bi := hD.fr (k := 2 * i) (by omega)
    have bi2 : N 22 0 (141 + 2 * i + 1) ≤ 999 := hD.fr (k := 2 * i + 1) (by omega)
    have s9 := t9_s (X := X) (N := N) (R := R) (L := L) (Z := Z) (P := 0) (i := i) (a := nI (N 22 0 (141 + 2 * i))) hR (by omega) (by omega) (by omega) (by rw [(hP.2.2.1.2 i (by omega)).1]) fun j hj => by
      rw [(hP.2.2.1.2 j (by omega)).1]
      have := fs.lt hj hi
      rw [nI_eq (by omega) (by omega)]
      omega
    obtain ⟨N1, R1, s80, hR1, p1, j1, sv1, k1, f1⟩ := t80 (X := X) (N := N) (R := R) (L := L) (Z := Z) hR hD hP hJ hT
    obtain ⟨C, s11, p2, f2'⟩ := g11 (X := X) (N := N1) (R := R1) (L := L) (Z := Z) (P := 0) (i := i) hR1 (by omega) hD p1 hi
    have f2 : FrP 0 N1 C := fun k i s x => f2' k i s fun y => x (by unfold own; omega)
    have t6 := th_6 hi h6
    have dd : DI (N 22 0 5) (thwN N i) := by
      refine ⟨hD.hK, fun j => ?_, fun p hp => ?_⟩
      · by_cases e : j = 6
        · subst e; rw [t6]; exact (bd_S (by omega) (by unfold b0; omega))
        · by_cases e2 : j < 141 + 2 * i ∨ 141 + 2 * N 22 0 6 ≤ j
          · rw [th_s e2 e hi]; exact hD.u j
          · refine bd_W (by omega) ?_
            obtain ⟨k, w, ej, hw⟩ : ∃ k w, j = 141 + 2 * k + w ∧ w < 2 := ⟨(j - 141) / 2, (j - 141) % 2, by omega, by omega⟩
            by_cases e3 : k + 1 < N 22 0 6
            · rw [ej, th_b (by omega) (by omega) hw, show 141 + 2 * (k + 1) + w = 141 + (2 * (k + 1) + w) by omega]
              exact hD.fr (by omega)
            · have : (thwN N i) 22 0 j = 0 := by
                unfold thwN
                (try simp only)
                rcases (show w = 0 ∨ w = 1 by omega) with x | x
                · rw [u_ne (by omega), u_eq (by omega)]
                · rw [u_eq (by omega)]
              omega
      · rw [th_s (by omega) (by omega) hi, th_s (by omega) (by omega) hi]; exact hD.l p hp
    have hO : OUT N (thwN N i) (min (N 7 0 4) 5 + 1) (svT (N 7 0 4) (sst N) (N 22 0)) C R1 := OUT.mu hR1 (j1.x f2 p2.1 dd) p2 sv1 k1 f2
    obtain ⟨e22, e74, esv⟩ := hO.e
    have hW22 : (thwN (svd C) i) 22 0 = (thwN N i) 22 0 := thw_e esv
    have hle := fs.1 i hi
    have t := t129_2 (X := X) (N := C) (R := R1) (L := up3 L 30 0 0 (nI (N 22 0 (141 + 2 * i + 1) - N 22 0 (141 + 2 * i) + 1)).toInt64) (Z := Z) hR1 (hD.e0 e22) (by omega) (i := i) (a := nI (N 22 0 (141 + 2 * i))) (by rw [e22]; exact i1) (by rw [e22]; exact hle)
    rw [e22] at t
    obtain ⟨v1, v2, v3, v4, v5, v6⟩ := hV
    have vs : ∀ s, s < 141 → ¬ s = 6 → (thwN N i) 22 0 s = N 22 0 s := fun s x y => th_s (by omega) y hi
    have hV' : STV (thwN N i) := by
      refine ⟨⟨by rw [vs 5 (by omega) (by omega)]; exact dd, fun s x y => ?_⟩, by rw [vs 5 (by omega) (by omega)]; exact v2, by rw [vs 7 (by omega) (by omega)]; exact v3, by rw [vs 8 (by omega) (by omega), vs 9 (by omega) (by omega)]; exact v4, by rw [vs 9 (by omega) (by omega), vs 5 (by omega) (by omega)]; exact v5, v6.fd hi h6⟩
      rw [vs 7 (by omega) (by omega)] at x
      rw [th_s (by omega) (by omega) hi]
      exact v1.2 s x y
    refine RES.mu (W := thwN (svd C) i) hI hO (fun k i s x _ => ?_) (fun s _ => by rw [hW22]) hV' (w179 (y := nI (N 22 0 (141 + 2 * i + 1) - N 22 0 (141 + 2 * i) + 1)) (I' := nW C) (R' := R1) ?_) t
    · unfold thwN
      (try simp only)
      rw [u_ne (by omega), u_ne (by omega), rowAt_out (by omega), u_ne (by omega)]
    · have g := p1.2.2.1.2 i hi
      have hi6 : i < 6 := by omega
      have hn : ¬ nI i < nI 0 := lt0_nI (by omega)
      simp (disch := first | assumption | omega | exact nI_or0 | exact nI_or1 | exact bN_or _) only [in51, x51_0, x51_1, x51_4, x51_7, x51_8, x51_11, x51_12, x51_13, x51_16, x51_26, x51_27, x51_30, x51_31, x51_34, x51_37, x51_40, x51_41, x51_42, x51_43, x51_46, x51_49, x51_52, x51_53, x51_54, x51_55, x51_56, x51_57, x51_58, x51_59, x51_62, x51_65, x51_66, x51_69, x51_70, in51, reduceIte, Nat.reduceLT, nW_ap, nW_up, nI_add, pk_mul, nI_ltI, nI_eq, if_true, if_false, kont_r, kont_v, Nat.reduceAdd, Nat.reduceMul, Nat.not_lt, not_true_eq_false, not_false_eq_true, Nat.one_ne_zero, Nat.reduceEqDiff, Nat.lt_irrefl, reduceCtorEq, nI_or0, nI_or1, s9, hn, s80, g.1, g.2, pk_sub, s11]
theorem c180 {X : XS} {N : GV} {R : GR} {L : GL} {Z : Nat × Nat × Bool} (hR : Rok R) {x y z : Int32} (hI : INV N R) : RES X 180 131 [vI x, vI y, vI z] N R L Z := by
  obtain ⟨_, hJ, hP, hV, hT, _⟩ := id hI
  have hD := hV.1.1
  have hs := hT.2.1
  have h5 := hV.2.1
  have e5 : N 5 0 0 = N 22 0 5 := hP.2.1.2
  have e43 : N 4 0 3 = N 22 0 7 := hP.2.2.2.1
  cases i1 : inb (N 22 0 5) 999 x with
  | false =>
    refine RES.t hI (k := 1) (by omega) (by omega) (w180_1 ?_) (t131_1 hR hD fun q => by rw [i1] at q; cases q)
    simp (disch := first | assumption | omega | exact nI_or0 | exact nI_or1 | exact bN_or _) only [in52, x52_0, x52_1, x52_2, x52_5, x52_8, x52_11, reduceIte, Nat.reduceLT, nW_ap, nW_up, nI_add, pk_mul, nI_ltI, nI_eq, if_true, if_false, kont_r, kont_v, Nat.reduceAdd, Nat.reduceMul, Nat.not_lt, not_true_eq_false, not_false_eq_true, Nat.one_ne_zero, Nat.reduceEqDiff, Nat.lt_irrefl, reduceCtorEq, nI_or0, nI_or1, e5, t76_f i1, kont_t]
  | true =>
    by_cases i23 : inb 1 99 y = true ∧ inb 0 7 z = true
    · obtain ⟨i2, i3⟩ := i23
      obtain ⟨a, ea, a1, a2⟩ := inb_n i1 (by omega) (by omega)
      obtain ⟨b, eb, b1, b2⟩ := inb_n i2 (by omega) (by omega)
      obtain ⟨g, eg, g1, g2⟩ := inb_n i3 (by omega) (by omega)
      subst ea eb eg
      by_cases q : N 22 0 7 = 16
      · refine RES.t hI (k := 2) (by omega) (by omega) (w180_2 ?_) (t131_2 hR hD i1 i2 i3 q)
        simp (disch := first | assumption | omega | exact nI_or0 | exact nI_or1 | exact bN_or _) only [in52, x52_0, x52_1, x52_2, x52_5, x52_8, x52_11, x52_14, x52_15, x52_16, x52_19, x52_20, x52_23, x52_26, x52_29, x52_31, x52_34, reduceIte, Nat.reduceLT, nW_ap, nW_up, nI_add, pk_mul, nI_ltI, nI_eq, if_true, if_false, kont_r, kont_v, Nat.reduceAdd, Nat.reduceMul, Nat.not_lt, not_true_eq_false, not_false_eq_true, Nat.one_ne_zero, Nat.reduceEqDiff, Nat.lt_irrefl, reduceCtorEq, nI_or0, nI_or1, e5, t76_t i1, t78_t i2 i3, e43, q, thr_g]
      · have q' : N 22 0 7 < 16 := by have := hV.2.2.1; omega
        obtain ⟨N1, R1, s80, hR1, p1, j1, sv1, k1, f1⟩ := t80 (X := X) (N := N) (R := R) (L := L) (Z := Z) hR hD hP hJ hT
        obtain ⟨C, s26, p2, f2'⟩ := g26 (X := X) (N := N1) (R := R1) (L := L) (Z := Z) (P := 0) (d := a) (c := b) (g := g) hR1 (by omega) hD p1 (by omega) (by omega) (by omega)
        have f2 : FrP 0 N1 C := fun k i s x => f2' k i s fun y => x (by unfold own; omega)
        have hV' := hV.pl (d := a) (c := b) (g := g) q' a2 b2 g2
        have dd := hV'.1.1
        have hO : OUT N (plnN N a b g) (min (N 7 0 4) 5 + 1) (svT (N 7 0 4) (sst N) (N 22 0)) C R1 := OUT.mu hR1 (j1.x f2 p2.1 dd) p2 sv1 k1 f2
        obtain ⟨e22, e74, esv⟩ := hO.e
        have hW22 : (plnN (svd C) a b g) 22 0 = (plnN N a b g) 22 0 := by rw [plnS_e, plnS_e, esv]
        have ev : C 4 0 3 = N 22 0 7 + 1 := by rw [p2.2.2.2.1, pln_7]
        have t := t131_3 (X := X) (N := C) (R := R1) (L := up3 L 30 0 0 (nI (N 22 0 7 + 1)).toInt64) (Z := Z) hR1 (hD.e0 e22) (by omega) (d := a) (c := b) (g := g) (by rw [e22]; exact ⟨a1, a2⟩) ⟨b1, b2⟩ g2 (by rw [e22]; exact q')
        rw [e22] at t
        refine RES.mu (W := plnN (svd C) a b g) hI hO (fun k i s x _ => pln_o fun y => absurd y x) (fun s _ => by rw [hW22]) hV' (w180 (y := nI (N 22 0 7 + 1)) (I' := nW C) (R' := R1) ?_) t
        simp (disch := first | assumption | omega | exact nI_or0 | exact nI_or1 | exact bN_or _) only [in52, x52_0, x52_1, x52_2, x52_5, x52_8, x52_11, x52_14, x52_15, x52_16, x52_19, x52_20, x52_23, x52_26, x52_29, x52_31, x52_34, x52_44, x52_45, x52_48, x52_49, x52_52, x52_55, x52_56, x52_57, x52_58, x52_61, x52_62, x52_65, x52_68, x52_71, in52, reduceIte, Nat.reduceLT, nW_ap, nW_up, nI_add, pk_mul, nI_ltI, nI_eq, if_true, if_false, kont_r, kont_v, Nat.reduceAdd, Nat.reduceMul, Nat.not_lt, not_true_eq_false, not_false_eq_true, Nat.one_ne_zero, Nat.reduceEqDiff, Nat.lt_irrefl, reduceCtorEq, nI_or0, nI_or1, e5, t76_t i1, t78_t i2 i3, e43, q', s80, s26, ev]
    · have hh : inb 1 99 y = true → inb 0 7 z = false := fun a => by
        cases e : inb 0 7 z with
        | false => rfl
        | true => exact absurd ⟨a, e⟩ i23
      refine RES.t hI (k := 1) (by omega) (by omega) (w180_1 ?_) (t131_1 hR hD fun _ => hh)
      simp (disch := first | assumption | omega | exact nI_or0 | exact nI_or1 | exact bN_or _) only [in52, x52_0, x52_1, x52_2, x52_5, x52_8, x52_11, x52_14, x52_15, x52_16, x52_19, x52_20, reduceIte, Nat.reduceLT, nW_ap, nW_up, nI_add, pk_mul, nI_ltI, nI_eq, if_true, if_false, kont_r, kont_v, Nat.reduceAdd, Nat.reduceMul, Nat.not_lt, not_true_eq_false, not_false_eq_true, Nat.one_ne_zero, Nat.reduceEqDiff, Nat.lt_irrefl, reduceCtorEq, nI_or0, nI_or1, e5, t76_t i1, t78_f hh, kont_t]
theorem kids_e {M M' : GV} {d : Nat} (e : M 22 0 = M' 22 0) : kids (goneO d M) = kids (goneO d M') := by
  unfold goneO
  rw [e]
theorem drp_e {M M' : GV} {d : Nat} (e : M 22 0 = M' 22 0) : (drops d M) 22 0 = (drops d M') 22 0 := by
  unfold drops keepO
  funext s
  unfold setO
  rw [e]
theorem c181 {X : XS} {N : GV} {R : GR} {L : GL} {Z : Nat × Nat × Bool} (hR : Rok R) {x : Int32} (hI : INV N R) : RES X 181 132 [vI x] N R L Z := by
  obtain ⟨_, hJ, hP, hV, hT, _⟩ := id hI
  have hD := hV.1.1
  have hs := hT.2.1
  cases i1 : inb 0 999 x with
  | false =>
    refine RES.t hI (k := 1) (by omega) (by omega) (w181_1 ?_) (t132_1 hR i1)
    simp (disch := first | assumption | omega | exact nI_or0 | exact nI_or1 | exact bN_or _) only [in53, x53_0, x53_1, x53_2, x53_5, reduceIte, Nat.reduceLT, nW_ap, nW_up, nI_add, pk_mul, nI_ltI, nI_eq, if_true, if_false, kont_r, kont_v, Nat.reduceAdd, Nat.reduceMul, Nat.not_lt, not_true_eq_false, not_false_eq_true, Nat.one_ne_zero, Nat.reduceEqDiff, Nat.lt_irrefl, reduceCtorEq, nI_or0, nI_or1, t76_f i1, kont_t]
  | true =>
    obtain ⟨a, ea, -, a2⟩ := inb_n i1 (by omega) (by omega)
    subst ea
    obtain ⟨N1, R1, s80, hR1, p1, j1, sv1, k1, f1⟩ := t80 (X := X) (N := N) (R := R) (L := L) (Z := Z) hR hD hP hJ hT
    have s28 := t28 (X := X) (N := N1) (R := R1) (L := L) (Z := Z) (P := 0) (d := a) hR1 (by omega) (p1.2.2.2.ob hD) (by omega)
    rw [p1.2.2.2.ki] at s28
    have p2 : PK (odN N1 0 a) 0 (drops a N) := p1.dp hD
    have f2 : FrP 0 N1 (odN N1 0 a) := fun k i s x => od_o fun y => x (by unfold own; omega)
    have hV' := hV.dp (d := a)
    generalize odN N1 0 a = C at s28 p2 f2
    have hO : OUT N (drops a N) (min (N 7 0 4) 5 + 1) (svT (N 7 0 4) (sst N) (N 22 0)) C R1 := OUT.mu hR1 (j1.x f2 p2.1 hV'.1.1) p2 sv1 k1 f2
    obtain ⟨e22, e74, esv⟩ := hO.e
    have hW22 : (drops a (svd C)) 22 0 = (drops a N) 22 0 := drp_e esv
    have t := t132_2 (X := X) (N := C) (R := R1) (L := up3 L 30 0 0 (nI (kids (goneO a N))).toInt64) (Z := Z) hR1 (hD.e0 e22) (by rw [e22]; exact hV.1.2) (by omega) (d := a) a2
    rw [kids_e esv] at t
    refine RES.mu (W := drops a (svd C)) hI hO (fun k i s x _ => setO_o fun y => absurd y x) (fun s _ => by rw [hW22]) hV' (w181 (y := nI (kids (goneO a N))) (I' := nW C) (R' := R1) ?_) t
    simp (disch := first | assumption | omega | exact nI_or0 | exact nI_or1 | exact bN_or _) only [in53, x53_0, x53_1, x53_2, x53_5, x53_8, x53_9, x53_12, x53_13, x53_16, x53_19, x53_20, x53_23, in53, reduceIte, Nat.reduceLT, nW_ap, nW_up, nI_add, pk_mul, nI_ltI, nI_eq, if_true, if_false, kont_r, kont_v, Nat.reduceAdd, Nat.reduceMul, Nat.not_lt, not_true_eq_false, not_false_eq_true, Nat.one_ne_zero, Nat.reduceEqDiff, Nat.lt_irrefl, reduceCtorEq, nI_or0, nI_or1, t76_t i1, s80, s28]
theorem stL_s : ∀ k, k < 5 → (stat3 33).getD k 0 = nI (stL k) := by decide +kernel
theorem stM_s : ∀ k, k < 5 → (stat3 34).getD k 0 = nI (stM k) := by decide +kernel
theorem stM_b : ∀ k, k < 5 → stM k ≤ 90 ∧ stL k ≤ 1 := by decide +kernel
theorem c182 {X : XS} {N : GV} {R : GR} {L : GL} {Z : Nat × Nat × Bool} (hR : Rok R) {x y : Int32} (hI : INV N R) : RES X 182 134 [vI x, vI y] N R L Z := by
  obtain ⟨_, hJ, hP, hV, hT, _⟩ := id hI
  have hD := hV.1.1
  have hs := hT.2.1
  cases i1 : inb 0 4 x with
  | false =>
    refine RES.t hI (k := 1) (by omega) (by omega) (w182_0 ?_) (t134_1 hR i1)
    simp (disch := first | assumption | omega | exact nI_or0 | exact nI_or1 | exact bN_or _) only [in54, x54_0, x54_1, reduceIte, Nat.reduceLT, nW_ap, nW_up, nI_add, pk_mul, nI_ltI, nI_eq, if_true, if_false, kont_r, kont_v, Nat.reduceAdd, Nat.reduceMul, Nat.not_lt, not_true_eq_false, not_false_eq_true, Nat.one_ne_zero, Nat.reduceEqDiff, Nat.lt_irrefl, reduceCtorEq, nI_or0, nI_or1, t75_f i1, kont_t]
  | true =>
    obtain ⟨a, ea, -, a2⟩ := inb_n i1 (by omega) (by omega)
    subst ea
    have a5 : a < 5 := by omega
    have g1 := stL_s a a5
    have g2 := stM_s a a5
    have g3 := stM_b a a5
    cases i2 : inb (stL a) (stM a) y with
    | false =>
      refine RES.t hI (k := 2) (by omega) (by omega) (w182_1 ?_) (t134_2 hR a5 i2)
      simp (disch := first | assumption | omega | exact nI_or0 | exact nI_or1 | exact bN_or _) only [in54, x54_0, x54_1, x54_4, x54_5, x54_8, x54_9, x54_10, x54_13, x54_14, x54_15, reduceIte, Nat.reduceLT, nW_ap, nW_up, nI_add, pk_mul, nI_ltI, nI_eq, if_true, if_false, kont_r, kont_v, Nat.reduceAdd, Nat.reduceMul, Nat.not_lt, not_true_eq_false, not_false_eq_true, Nat.one_ne_zero, Nat.reduceEqDiff, Nat.lt_irrefl, reduceCtorEq, nI_or0, nI_or1, t75_t i1, g1, g2, t76_f i2, kont_t]
    | true =>
      obtain ⟨v, ev, v1, v2⟩ := inb_n i2 (by omega) (by omega)
      subst ev
      obtain ⟨N1, R1, s80, hR1, p1, j1, sv1, k1, f1⟩ := t80 (X := X) (N := N) (R := R) (L := L) (Z := Z) hR hD hP hJ hT
      have p2 := p1.se (k := a) (x := v) hD a5
      have f2 : FrP 0 N1 (up3 N1 18 0 a v) := FrP.rf.up (by unfold own; omega)
      have hb : bd (N 22 0 5) a v := by
        refine bd_S (by omega) ?_
        unfold b0
        have l2 : stL 2 = 1 := rfl
        have m0 : stM 0 = 20 := rfl
        have m1 : stM 1 = 2 := rfl
        have m2 : stM 2 = 9 := rfl
        have m3 : stM 3 = 90 := rfl
        have m4 : stM 4 = 50 := rfl
        rcases (show a = 0 ∨ a = 1 ∨ a = 2 ∨ a = 3 ∨ a = 4 by omega) with e | e | e | e | e <;> subst e <;> omega
      have dd : DI (N 22 0 5) (up3 N 22 0 a v) := hD.up' hb (by omega)
      have hO : OUT N (up3 N 22 0 a v) (min (N 7 0 4) 5 + 1) (svT (N 7 0 4) (sst N) (N 22 0)) (up3 N1 18 0 a v) R1 := OUT.mu hR1 (j1.x f2 p2.1 dd) p2 sv1 k1 f2
      obtain ⟨e22, e74, esv⟩ := hO.e
      have g := p1.2.1.1 a a5
      have t := t134_3 (X := X) (N := up3 N1 18 0 a v) (R := R1) (L := up3 L 30 0 0 (nI (N 22 0 a)).toInt64) (Z := Z) hR1 (by omega) (k := a) (v := v) a5 i2
      rw [e22] at t
      refine RES.mu (W := up3 (svd (up3 N1 18 0 a v)) 22 0 a v) hI hO (fun k i s x _ => u_ne (by omega)) (fun s _ => by rw [up22, up22, esv]) (hV.g dd fun s x => u_ne (by omega)) (w182 (y := nI (N 22 0 a)) (I' := nW (up3 N1 18 0 a v)) (R' := R1) ?_) t
      simp (disch := first | assumption | omega | exact nI_or0 | exact nI_or1 | exact bN_or _) only [in54, x54_0, x54_1, x54_4, x54_5, x54_8, x54_9, x54_10, x54_13, x54_14, x54_15, x54_18, x54_19, x54_22, x54_23, x54_26, x54_29, x54_30, x54_31, x54_32, x54_33, x54_36, x54_39, x54_40, x54_41, x54_42, x54_43, in54, reduceIte, Nat.reduceLT, nW_ap, nW_up, nI_add, pk_mul, nI_ltI, nI_eq, if_true, if_false, kont_r, kont_v, Nat.reduceAdd, Nat.reduceMul, Nat.not_lt, not_true_eq_false, not_false_eq_true, Nat.one_ne_zero, Nat.reduceEqDiff, Nat.lt_irrefl, reduceCtorEq, nI_or0, nI_or1, t75_t i1, g1, g2, t76_t i2, s80, g]
theorem c183 {X : XS} {N : GV} {R : GR} {L : GL} {Z : Nat × Nat × Bool} (hR : Rok R) {x : Int32} (hI : INV N R) : RES X 183 135 [vI x] N R L Z := by
  obtain ⟨_, hJ, hP, hV, hT, _⟩ := id hI
  have hD := hV.1.1
  have hs := hT.2.1
  have h5 := hV.2.1
  have e5 : N 5 0 0 = N 22 0 5 := hP.2.1.2
  cases i1 : inb 1 60 x with
  | false =>
    refine RES.t hI (k := 1) (by omega) (by omega) (w183_1 ?_) (t135_1 hR i1)
    simp (disch := first | assumption | omega | exact nI_or0 | exact nI_or1 | exact bN_or _) only [in55, x55_0, x55_1, x55_2, x55_4, reduceIte, Nat.reduceLT, nW_ap, nW_up, nI_add, pk_mul, nI_ltI, nI_eq, if_true, if_false, kont_r, kont_v, Nat.reduceAdd, Nat.reduceMul, Nat.not_lt, not_true_eq_false, not_false_eq_true, Nat.one_ne_zero, Nat.reduceEqDiff, Nat.lt_irrefl, reduceCtorEq, nI_or0, nI_or1, t76_f i1, kont_t]
  | true =>
    obtain ⟨n, en, n1, n2⟩ := inb_n i1 (by omega) (by omega)
    subst en
    by_cases q : 999 < N 22 0 5 + n
    · refine RES.t hI (k := 2) (by omega) (by omega) (w183_2 ?_) (t135_2 hR hD ⟨n1, n2⟩ q)
      simp (disch := first | assumption | omega | exact nI_or0 | exact nI_or1 | exact bN_or _) only [in55, x55_0, x55_1, x55_2, x55_4, x55_7, x55_8, x55_11, x55_14, x55_15, x55_16, x55_19, x55_22, reduceIte, Nat.reduceLT, nW_ap, nW_up, nI_add, pk_mul, nI_ltI, nI_eq, if_true, if_false, kont_r, kont_v, Nat.reduceAdd, Nat.reduceMul, Nat.not_lt, not_true_eq_false, not_false_eq_true, Nat.one_ne_zero, Nat.reduceEqDiff, Nat.lt_irrefl, reduceCtorEq, nI_or0, nI_or1, t76_t i1, e5, q, thr_g]
    · obtain ⟨N1, R1, s80, hR1, p1, j1, sv1, k1, f1⟩ := t80 (X := X) (N := N) (R := R) (L := L) (Z := Z) hR hD hP hJ hT
      have e7 : N1 5 0 7 = N 22 0 8 := p1.1.2.2.1.1
      have key : ∀ k, k ≤ n → ∀ M R2, PK M 0 (daysN k N) → JB M → FrP 0 N1 M → FrR R1 R2 → ∃ C R', ex X 55 46 [vR 6 0, vI (nI n), vI (nI (N 22 0 8)), vI (nI k)] [] (gg (nW M) R2 L Z) = ex X 55 64 [vR 6 0, vI (nI n), vI (nI (N 22 0 8)), vI (nI n)] [] (gg (nW C) R' L Z) ∧ PK C 0 (daysN n N) ∧ JB C ∧ FrP 0 N1 C ∧ FrR R1 R' := by
        refine down _ ?_ ?_
        · intro M R2 a1 a2 a3 a4
          refine ⟨M, R2, ?_, a1, a2, a3, a4⟩
          rw [x55_46]
          simp (disch := first | assumption | omega | exact nI_or0 | exact nI_or1 | exact bN_or _) only [x55_47, x55_48, reduceIte, Nat.reduceLT, nW_ap, nW_up, nI_add, pk_mul, nI_ltI, nI_eq, if_true, if_false, kont_r, kont_v, Nat.reduceAdd, Nat.reduceMul, Nat.not_lt, not_true_eq_false, not_false_eq_true, Nat.one_ne_zero, Nat.reduceEqDiff, Nat.lt_irrefl, reduceCtorEq, nI_or0, nI_or1, Nat.lt_irrefl]
        · intro k hk ih M R2 a1 a2 a3 a4
          have d := hV.1.days k (by omega)
          have hR2 := a4.1
          obtain ⟨M2, R3, s39, p3, f3, hR3, r3, j3⟩ := t39 (X := X) (N := M) (R := R2) (L := L) (Z := Z) (P := 0) hR2 (by omega) d.1.1 (by rw [d.2]; omega) a1 a2
          obtain ⟨C, R', b1, b2⟩ := ih M2 R3 p3 j3 (a3.tr f3) (a4.tr (FrR.of hR3 r3))
          refine ⟨C, R', ?_, b2⟩
          rw [← b1, x55_46]
          simp (disch := first | assumption | omega | exact nI_or0 | exact nI_or1 | exact bN_or _) only [x55_47, x55_48, x55_51, x55_52, x55_55, x55_58, x55_61, reduceIte, Nat.reduceLT, nW_ap, nW_up, nI_add, pk_mul, nI_ltI, nI_eq, if_true, if_false, kont_r, kont_v, Nat.reduceAdd, Nat.reduceMul, Nat.not_lt, not_true_eq_false, not_false_eq_true, Nat.one_ne_zero, Nat.reduceEqDiff, Nat.lt_irrefl, reduceCtorEq, nI_or0, nI_or1, hk, s39]
      obtain ⟨C, R', b1, p2, j2, f2, r2⟩ := key 0 (Nat.zero_le _) N1 R1 p1 j1 FrP.rf ⟨hR1, fun _ _ _ _ => rfl⟩
      have hR' := r2.1
      have sv2 : SAV N1 R' (min (N 7 0 4) 5 + 1) (svT (N 7 0 4) (sst N) (N 22 0)) := by
        obtain ⟨x1, x2, l, hl, x3⟩ := sv1
        exact ⟨x1, x2, l, hl.e fun i _ => r2.2 _ _ _ (by decide), x3⟩
      have hO : OUT N (daysN n N) (min (N 7 0 4) 5 + 1) (svT (N 7 0 4) (sst N) (N 22 0)) C R' := OUT.mu hR' j2 p2 sv2 k1 f2
      obtain ⟨e22, e74, esv⟩ := hO.e
      have hDK := hD.mo (K' := 999) (by omega) (by omega)
      have hW22 : (daysN n (svd C)) 22 0 = (daysN n N) 22 0 := days_e hDK hV.1.2 esv n (by omega)
      have dw := days_w (N := svd C) (K := 999) (hDK.e0 esv) (by rw [esv]; exact hV.1.2) n (by rw [esv]; omega)
      have dw2 := days_w hDK hV.1.2 n (by omega)
      have th := dw2.2.2.1
      unfold Th at th
      have t := t135_3 (X := X) (N := C) (R := R') (L := up3 L 30 0 0 (nI ((daysN n N) 22 0 8 - N 22 0 8)).toInt64) (Z := Z) (K := 999) hR' (hDK.e0 e22) (by rw [e22]; exact hV.1.2) (by omega) (n := n) ⟨n1, n2⟩ (by rw [e22]; omega) (by rw [e22]; omega)
      rw [e22, hW22] at t
      refine RES.mu (W := daysN n (svd C)) hI hO (fun k i s a b => dw.2.2.2.2.2 k i s (by omega)) (fun s _ => by rw [hW22]) (hV.day (by omega)) (w183 (y := nI ((daysN n N) 22 0 8 - N 22 0 8)) (I' := nW C) (R' := R') ?_) t
      have e57 : C 5 0 7 = (daysN n N) 22 0 8 := p2.1.2.2.1.1
      have st : ex X 55 64 [vR 6 0, vI (nI n), vI (nI (N 22 0 8)), vI (nI n)] [] (gg (nW C) R' L Z) = some (.inl (some (vI (nI ((daysN n N) 22 0 8 - N 22 0 8)))), gg (nW C) R' L Z) := by
        simp (disch := first | assumption | omega | exact nI_or0 | exact nI_or1 | exact bN_or _) only [x55_64, x55_65, x55_68, x55_71, x55_72, x55_73, reduceIte, Nat.reduceLT, nW_ap, nW_up, nI_add, pk_mul, nI_ltI, nI_eq, if_true, if_false, kont_r, kont_v, Nat.reduceAdd, Nat.reduceMul, Nat.not_lt, not_true_eq_false, not_false_eq_true, Nat.one_ne_zero, Nat.reduceEqDiff, Nat.lt_irrefl, reduceCtorEq, nI_or0, nI_or1, e57, pk_sub]
      rw [← st, ← b1]
      simp (disch := first | assumption | omega | exact nI_or0 | exact nI_or1 | exact bN_or _) only [in55, x55_0, x55_1, x55_2, x55_4, x55_7, x55_8, x55_11, x55_14, x55_15, x55_16, x55_19, x55_22, x55_32, x55_33, x55_36, x55_37, x55_40, x55_43, x55_44, x55_45, reduceIte, Nat.reduceLT, nW_ap, nW_up, nI_add, pk_mul, nI_ltI, nI_eq, if_true, if_false, kont_r, kont_v, Nat.reduceAdd, Nat.reduceMul, Nat.not_lt, not_true_eq_false, not_false_eq_true, Nat.one_ne_zero, Nat.reduceEqDiff, Nat.lt_irrefl, reduceCtorEq, nI_or0, nI_or1, t76_t i1, e5, q, s80, e7]
