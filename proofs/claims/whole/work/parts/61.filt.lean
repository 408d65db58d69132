/-! the class foresees the filters; what a call of the class leaves behind -/
theorem rowTo_sk {N : GV} {k i n : Nat} {f : Nat → Nat} (h : N k i n = f n) : rowTo N k i (n + 1) f = rowTo N k i n f := by
  rw [← rowTo_s, ← h]
  have e : N k i n = rowTo N k i n f k i n := (rowTo_out (Nat.lt_irrefl n)).symm
  rw [e, up3_id]
theorem FrT.ro {N N' : GV} {n : Nat} {f : Nat → Nat} (h : FrT N N') : FrT N (rowTo N' 21 0 n f) := fun k i s a b => by
  rw [rowTo_k b]; exact h k i s a b
theorem PK.ro {K P n : Nat} {f : Nat → Nat} {N V : GV} (hD : DI K V) (h : PK N P V) : PK (rowTo N 21 0 n f) P V :=
  h.sm hD (fun k i s q => rowTo_k (by unfold own at q; omega)) (h.1.2.2.2.2.2.g fun k i s _ => rowTo_k (by omega))
theorem JB.ro {n : Nat} {f : Nat → Nat} {N : GV} (h : JB N) : JB (rowTo N 21 0 n f) := fun b hb q => by
  rw [rowTo_k (by decide)] at q ⊢
  exact h b hb q
theorem t83 {X : XS} {N : GV} {R : GR} {L : GL} {Z : Nat × Nat × Bool} (hR : Rok R) {V : GV} (hD : DW V) (h : PK N 0 V) (hJ : JB N) (h5 : V 22 0 5 ≤ 999) : ∃ N' R', exec X 83 [vR 6 0] (gg (nW N) R L Z) = some (.inl none, gg (nW N') R' L Z) ∧ (∀ p, p < 8 → N' 21 0 p = oE (fsd (V 22 0) p 60)) ∧ FrT N N' ∧ FrR R R' ∧ JB N' ∧ SB N' := by
  obtain ⟨N1, s32, p1, f1, j1⟩ := t32 (X := X) (N := N) (L := L) (Z := Z) (P := 1) (Q := 0) hR (by omega) (by omega) (by omega) hD.1 h hJ
  obtain ⟨S, hS⟩ : ∃ S, S = V 22 0 := ⟨_, rfl⟩
  rw [← hS]
  have dS : ∀ k, k ≤ 60 → (daysN k V) 22 0 = daysS k S := fun k hk => by
    rw [hS]
    exact daysS_e (K := 1059) (hD.1.mo (by omega) (by omega)) hD.2 (by omega)
  have opn : ∀ (M : GV) (k p : Nat), k ≤ 60 → p < 8 → PK M 1 (daysN k V) → M 2 (2 * (8 + p) + 1) 2 = if usdB (daysS k S) p = true then 1 else 0 := fun M k p hk hp hP => by
    have d := hD.days k (by omega)
    have u := usd_j d.1.1 hP hp
    rw [dS k hk] at u
    have b := (hP.1.2.2.2.2.2.2 (2 * (8 + p) + 1) (by omega)).2.2.1
    rw [show 16 * 1 + (2 * p + 1) = 2 * (8 + p) + 1 by omega] at u
    rw [u]
    by_cases q : M 2 (2 * (8 + p) + 1) 2 = 1
    · rw [decide_eq_true q, if_pos rfl]; exact q
    · rw [decide_eq_false q, if_neg (by decide)]; omega
  -- the last loop of a day
  have in3 : ∀ (d : Nat) (M : GV) (R1 : GR), d + 1 ≤ 60 → Rok R1 → PK M 1 (daysN (d + 1) V) → (∀ p, p < 8 → M 21 0 p = oE (fsd S p d)) → ex X 83 71 [vR 6 0, vI (nI (d + 1)), vI (nI 0)] [] (gg (nW M) R1 L Z) = ex X 83 118 [vR 6 0, vI (nI (d + 1)), vI (nI 8)] [] (gg (nW (rowTo M 21 0 8 fun p => oE (fsd S p (d + 1)))) R1 L Z) := by
    intro d M R1 hd hR1 hP hv
    have key : ∀ k, k ≤ 8 → ex X 83 71 [vR 6 0, vI (nI (d + 1)), vI (nI k)] [] (gg (nW (rowTo M 21 0 k fun p => oE (fsd S p (d + 1)))) R1 L Z) = ex X 83 118 [vR 6 0, vI (nI (d + 1)), vI (nI 8)] [] (gg (nW (rowTo M 21 0 8 fun p => oE (fsd S p (d + 1)))) R1 L Z) := by
      refine down _ ?_ ?_
      · rw [x83_71]
        simp (disch := first | assumption | omega | exact nI_or0 | exact nI_or1 | exact bN_or _) only [x83_72, x83_74, reduceIte, Nat.reduceLT, nW_ap, nW_up, nI_add, pk_mul, nI_ltI, nI_eq, if_true, if_false, kont_r, kont_v, Nat.reduceAdd, Nat.reduceMul, Nat.not_lt, not_true_eq_false, not_false_eq_true, Nat.one_ne_zero, Nat.reduceEqDiff, Nat.lt_irrefl, reduceCtorEq, nI_or0, nI_or1]
      · intro k hk ih
        rw [← ih]
        have e21 : (rowTo M 21 0 k fun p => oE (fsd S p (d + 1))) 21 0 k = oE (fsd S k d) := by rw [rowTo_out (Nat.lt_irrefl k), hv k hk]
        have e2 : (rowTo M 21 0 k fun p => oE (fsd S p (d + 1))) 2 (2 * (8 + k) + 1) 2 = if usdB (daysS (d + 1) S) k = true then 1 else 0 := by rw [rowTo_k (by decide)]; exact opn M (d + 1) k hd hk hP
        have es : fsd S k (d + 1) = match fsd S k d with
          | some j => some j
          | none => if usdB (daysS (d + 1) S) k = true then some (d + 1) else none := rfl
        cases e : fsd S k d with
        | some j =>
          have hj := (fsd_le d j e).1
          rw [e] at e21 es
          have hm1 : ¬ nI j = nI 4294967295 := by rw [← m1_n]; exact nI_m1 (by omega)
          rw [rowTo_sk (n := k) (by rw [hv k hk, e, es])]
          generalize (rowTo M 21 0 k fun p => oE (fsd S p (d + 1))) = W at e21 e2 ⊢
          have e21 : W 21 0 k = j := e21
          rw [x83_71]
          simp (disch := first | assumption | omega | exact nI_or0 | exact nI_or1 | exact bN_or _) only [x83_72, x83_74, x83_77, x83_78, x83_81, x83_82, x83_83, x83_84, x83_87, x83_88, x83_91, x83_94, x83_95, x83_96, x83_99, x83_102, x83_105, x83_106, x83_109, x83_110, x83_111, x83_112, x83_115, reduceIte, Nat.reduceLT, nW_ap, nW_up, nI_add, pk_mul, nI_ltI, nI_eq, if_true, if_false, kont_r, kont_v, Nat.reduceAdd, Nat.reduceMul, Nat.not_lt, not_true_eq_false, not_false_eq_true, Nat.one_ne_zero, Nat.reduceEqDiff, Nat.lt_irrefl, reduceCtorEq, nI_or0, nI_or1, hk, m1_n, e21, hm1]
        | none =>
          rw [e] at e21 es
          simp only at es
          have e21 : _ = 4294967295 := e21
          by_cases q : usdB (daysS (d + 1) S) k = true
          · rw [if_pos q] at e2 es
            rw [← rowTo_s, es]
            show _ = ex X 83 71 [vR 6 0, vI (nI (d + 1)), vI (nI (k + 1))] [] (gg (nW (up3 _ 21 0 k (d + 1))) R1 L Z)
            generalize (rowTo M 21 0 k fun p => oE (fsd S p (d + 1))) = W at e21 e2 ⊢
            rw [x83_71]
            simp (disch := first | assumption | omega | exact nI_or0 | exact nI_or1 | exact bN_or _) only [x83_72, x83_74, x83_77, x83_78, x83_81, x83_82, x83_83, x83_84, x83_87, x83_88, x83_91, x83_94, x83_95, x83_96, x83_99, x83_102, x83_105, x83_106, x83_109, x83_110, x83_111, x83_112, x83_115, reduceIte, Nat.reduceLT, nW_ap, nW_up, nI_add, pk_mul, nI_ltI, nI_eq, if_true, if_false, kont_r, kont_v, Nat.reduceAdd, Nat.reduceMul, Nat.not_lt, not_true_eq_false, not_false_eq_true, Nat.one_ne_zero, Nat.reduceEqDiff, Nat.lt_irrefl, reduceCtorEq, nI_or0, nI_or1, hk, m1_n, e21, e2, eq_self]
          · rw [if_neg q] at e2 es
            rw [rowTo_sk (n := k) (by rw [hv k hk, e, es])]
            generalize (rowTo M 21 0 k fun p => oE (fsd S p (d + 1))) = W at e21 e2 ⊢
            rw [x83_71]
            simp (disch := first | assumption | omega | exact nI_or0 | exact nI_or1 | exact bN_or _) only [x83_72, x83_74, x83_77, x83_78, x83_81, x83_82, x83_83, x83_84, x83_87, x83_88, x83_91, x83_94, x83_95, x83_96, x83_99, x83_102, x83_105, x83_106, x83_109, x83_110, x83_111, x83_112, x83_115, reduceIte, Nat.reduceLT, nW_ap, nW_up, nI_add, pk_mul, nI_ltI, nI_eq, if_true, if_false, kont_r, kont_v, Nat.reduceAdd, Nat.reduceMul, Nat.not_lt, not_true_eq_false, not_false_eq_true, Nat.one_ne_zero, Nat.reduceEqDiff, Nat.lt_irrefl, reduceCtorEq, nI_or0, nI_or1, hk, m1_n, e21, e2, eq_self]
    have h0 := key 0 (Nat.zero_le _)
    rw [rowTo_0] at h0
    exact h0
  -- the loop over days
  have out : ∀ d, d ≤ 60 → ∀ (M : GV) (R1 : GR) (l2 : AV), PK M 1 (daysN d V) → (∀ p, p < 8 → M 21 0 p = oE (fsd S p d)) → FrT N M → FrR R R1 → JB M → ∃ N' R', ex X 83 56 [vR 6 0, vI (nI (d + 1)), l2] [] (gg (nW M) R1 L Z) = some (.inl none, gg (nW N') R' L Z) ∧ (∀ p, p < 8 → N' 21 0 p = oE (fsd S p 60)) ∧ FrT N N' ∧ FrR R R' ∧ JB N' ∧ SB N' := by
    refine down _ ?_ ?_
    · intro M R1 l2 a1 a2 a3 a4 a5
      refine ⟨M, R1, ?_, a2, a3, a4, a5, a1.1.2.2.2.2.2⟩
      rw [x83_56]
      simp (disch := first | assumption | omega | exact nI_or0 | exact nI_or1 | exact bN_or _) only [x83_57, x83_59, x83_124, reduceIte, Nat.reduceLT, nW_ap, nW_up, nI_add, pk_mul, nI_ltI, nI_eq, if_true, if_false, kont_r, kont_v, Nat.reduceAdd, Nat.reduceMul, Nat.not_lt, not_true_eq_false, not_false_eq_true, Nat.one_ne_zero, Nat.reduceEqDiff, Nat.lt_irrefl, reduceCtorEq, nI_or0, nI_or1]
    · intro d hd ih M R1 l2 a1 a2 a3 a4 a5
      have dw := hD.days d (by omega)
      have hR1 := a4.1
      obtain ⟨N2, R2, s39, p3, f3, hR2, r2, j3⟩ := t39 (X := X) (N := M) (R := R1) (L := L) (Z := Z) (P := 1) hR1 (by omega) dw.1.1 (by rw [dw.2]; omega) a1 a5
      have v2 : ∀ p, p < 8 → N2 21 0 p = oE (fsd S p d) := fun p hp => by rw [f3 _ _ _ (by unfold own; omega)]; exact a2 p hp
      have s3 := in3 d N2 R2 (by omega) hR2 p3 v2
      have dw1 := hD.days (d + 1) (by omega)
      obtain ⟨N', R', b1, b2⟩ := ih (rowTo N2 21 0 8 fun p => oE (fsd S p (d + 1))) R2 (vI (nI 8)) (PK.ro dw1.1.1 p3) (fun p hp => rowTo_in hp) (a3.tr f3.t).ro (a4.tr (FrR.of hR2 r2)) j3.ro
      refine ⟨N', R', ?_, b2⟩
      have hle : ¬ 60 < d + 1 := by omega
      generalize (rowTo N2 21 0 8 fun p => oE (fsd S p (d + 1))) = W at s3 b1
      rw [← b1, x83_56]
      have st : ex X 83 118 [vR 6 0, vI (nI (d + 1)), vI (nI 8)] [] (gg (nW W) R2 L Z) = ex X 83 56 [vR 6 0, vI (nI (d + 1 + 1)), vI (nI 8)] [] (gg (nW W) R2 L Z) := by
        simp (disch := first | assumption | omega | exact nI_or0 | exact nI_or1 | exact bN_or _) only [x83_118, x83_121, reduceIte, Nat.reduceLT, nW_ap, nW_up, nI_add, pk_mul, nI_ltI, nI_eq, if_true, if_false, kont_r, kont_v, Nat.reduceAdd, Nat.reduceMul, Nat.not_lt, not_true_eq_false, not_false_eq_true, Nat.one_ne_zero, Nat.reduceEqDiff, Nat.lt_irrefl, reduceCtorEq, nI_or0, nI_or1]
      rw [← st, ← s3]
      simp (disch := first | assumption | omega | exact nI_or0 | exact nI_or1 | exact bN_or _) only [x83_57, x83_59, x83_62, x83_63, x83_66, x83_69, x83_70, reduceIte, Nat.reduceLT, nW_ap, nW_up, nI_add, pk_mul, nI_ltI, nI_eq, if_true, if_false, kont_r, kont_v, Nat.reduceAdd, Nat.reduceMul, Nat.not_lt, not_true_eq_false, not_false_eq_true, Nat.one_ne_zero, Nat.reduceEqDiff, Nat.lt_irrefl, reduceCtorEq, nI_or0, nI_or1, hle, s39]
  -- the first loop
  have in1 : ex X 83 13 [vR 6 0, vI (nI 0), vU] [] (gg (nW (N1)) R L Z) = ex X 83 54 [vR 6 0, vI (nI 8), vU] [] (gg (nW (rowTo N1 21 0 8 fun p => oE (fsd S p 0))) R L Z) := by
    have key : ∀ k, k ≤ 8 → ex X 83 13 [vR 6 0, vI (nI k), vU] [] (gg (nW (rowTo N1 21 0 k fun p => oE (fsd S p 0))) R L Z) = ex X 83 54 [vR 6 0, vI (nI 8), vU] [] (gg (nW (rowTo N1 21 0 8 fun p => oE (fsd S p 0))) R L Z) := by
      refine down _ ?_ ?_
      · rw [x83_13]
        simp (disch := first | assumption | omega | exact nI_or0 | exact nI_or1 | exact bN_or _) only [x83_14, x83_16, reduceIte, Nat.reduceLT, nW_ap, nW_up, nI_add, pk_mul, nI_ltI, nI_eq, if_true, if_false, kont_r, kont_v, Nat.reduceAdd, Nat.reduceMul, Nat.not_lt, not_true_eq_false, not_false_eq_true, Nat.one_ne_zero, Nat.reduceEqDiff, Nat.lt_irrefl, reduceCtorEq, nI_or0, nI_or1]
      · intro k hk ih
        rw [← ih, ← rowTo_s]
        have e2 : (rowTo N1 21 0 k fun p => oE (fsd S p 0)) 2 (2 * (8 + k) + 1) 2 = if usdB (daysS 0 S) k = true then 1 else 0 := by rw [rowTo_k (by decide)]; exact opn N1 0 k (by omega) hk p1
        have es : fsd S k 0 = if usdB (daysS 0 S) k = true then some 0 else none := rfl
        generalize (rowTo N1 21 0 k fun p => oE (fsd S p 0)) = W at e2 ⊢
        by_cases q : usdB (daysS 0 S) k = true
        · rw [if_pos q] at e2 es
          rw [es, x83_13]
          simp (disch := first | assumption | omega | exact nI_or0 | exact nI_or1 | exact bN_or _) only [x83_14, x83_16, x83_19, x83_20, x83_23, x83_24, x83_25, x83_28, x83_31, x83_32, x83_33, x83_36, x83_39, x83_42, x83_43, x83_46, x83_47, x83_48, x83_51, reduceIte, Nat.reduceLT, nW_ap, nW_up, nI_add, pk_mul, nI_ltI, nI_eq, if_true, if_false, kont_r, kont_v, Nat.reduceAdd, Nat.reduceMul, Nat.not_lt, not_true_eq_false, not_false_eq_true, Nat.one_ne_zero, Nat.reduceEqDiff, Nat.lt_irrefl, reduceCtorEq, nI_or0, nI_or1, hk, e2, oE]
        · rw [if_neg q] at e2 es
          rw [es, x83_13]
          simp (disch := first | assumption | omega | exact nI_or0 | exact nI_or1 | exact bN_or _) only [x83_14, x83_16, x83_19, x83_20, x83_23, x83_24, x83_25, x83_28, x83_31, x83_32, x83_33, x83_36, x83_39, x83_42, x83_43, x83_46, x83_47, x83_48, x83_51, reduceIte, Nat.reduceLT, nW_ap, nW_up, nI_add, pk_mul, nI_ltI, nI_eq, if_true, if_false, kont_r, kont_v, Nat.reduceAdd, Nat.reduceMul, Nat.not_lt, not_true_eq_false, not_false_eq_true, Nat.one_ne_zero, Nat.reduceEqDiff, Nat.lt_irrefl, reduceCtorEq, nI_or0, nI_or1, hk, e2, m1_n, oE]
    have h0 := key 0 (Nat.zero_le _)
    rw [rowTo_0] at h0
    exact h0
  obtain ⟨N', R', b1, b2⟩ := out 0 (Nat.zero_le _) (rowTo N1 21 0 8 fun p => oE (fsd S p 0)) R vU (PK.ro hD.1 p1) (fun p hp => rowTo_in hp) f1.t.ro ⟨hR, fun _ _ _ _ => rfl⟩ j1.ro
  refine ⟨N', R', ?_, b2⟩
  generalize (rowTo N1 21 0 8 fun p => oE (fsd S p 0)) = W at b1 in1
  have st : ex X 83 54 [vR 6 0, vI (nI 8), vU] [] (gg (nW (W)) R L Z) = ex X 83 56 [vR 6 0, vI (nI (0 + 1)), vU] [] (gg (nW (W)) R L Z) := by
    simp (disch := first | assumption | omega | exact nI_or0 | exact nI_or1 | exact bN_or _) only [x83_54, x83_55, reduceIte, Nat.reduceLT, nW_ap, nW_up, nI_add, pk_mul, nI_ltI, nI_eq, if_true, if_false, kont_r, kont_v, Nat.reduceAdd, Nat.reduceMul, Nat.not_lt, not_true_eq_false, not_false_eq_true, Nat.one_ne_zero, Nat.reduceEqDiff, Nat.lt_irrefl, reduceCtorEq, nI_or0, nI_or1]
  rw [← b1, ← st, ← in1]
  simp (disch := first | assumption | omega | exact nI_or0 | exact nI_or1 | exact bN_or _) only [in83, x83_0, x83_1, x83_4, x83_5, x83_8, x83_11, x83_12, reduceIte, Nat.reduceLT, nW_ap, nW_up, nI_add, pk_mul, nI_ltI, nI_eq, if_true, if_false, kont_r, kont_v, Nat.reduceAdd, Nat.reduceMul, Nat.not_lt, not_true_eq_false, not_false_eq_true, Nat.one_ne_zero, Nat.reduceEqDiff, Nat.lt_irrefl, reduceCtorEq, nI_or0, nI_or1, s32]
/-- what a call of the class leaves behind -/
def OUT (N V : GV) (n : Nat) (T : Nat → Nat → Nat) (C : GV) (R' : GR) : Prop := Rok R' ∧ JB C ∧ PK C 0 V ∧ SAV C R' n T ∧ KE2 N C
theorem SAV.fr {N N' : GV} {R R' : GR} {n : Nat} {T : Nat → Nat → Nat} (h : SAV N R n T) (f : ∀ k i s, ¬ own 0 k i → ¬ own 1 k i → ¬ k = 21 → ¬ k = 3 → ¬ (10 ≤ k ∧ k ≤ 13) → ¬ k = 7 → k < 22 → N' k i s = N k i s) (hr : ∀ i, i < 6 → R' 20 0 i = R 20 0 i) (hS : SB N') : SAV N' R' n T := by
  obtain ⟨h3, hn, l, hl, hs⟩ := h
  refine ⟨by rw [f _ _ _ (by unfold own; omega) (by unfold own; omega) (by omega) (by omega) (by omega) (by omega) (by omega)]; exact h3, hn, l, hl.e hr, fun i hi => ?_⟩
  obtain ⟨a, b⟩ := hs i hi
  have c := hl.b (i := i) (by omega)
  refine ⟨a.sm b (fun k j s q => f _ _ _ (own_ne q (by omega)) (own_ne q (by omega)) (by unfold own at q; omega) (by unfold own at q; omega) (by unfold own at q; omega) (by unfold own at q; omega) (by unfold own at q; omega)) hS, b⟩
/-- behind a trial -/
theorem OUT.tr {N C V : GV} {R R' : GR} {n : Nat} {T : Nat → Nat → Nat} (hD : DW V) (hP : PK N 0 V) (hT : SAV N R n T) (f : FrT N C) (r : FrR R R') (hJ : JB C) (hS : SB C) : OUT N V n T C R' :=
  ⟨r.1, hJ, hP.sm hD.1 (fun k i s q => f _ _ _ (own_ne q (by omega)) (by unfold own at q; omega)) hS, hT.fr (fun k i s _ b c _ _ _ _ => f _ _ _ b c) (fun i _ => r.2 _ _ _ (by decide)) hS, fun k i s q => f _ _ _ (by unfold own; omega) (by omega)⟩
/-- the park now is another, behind a save -/
theorem OUT.mu {N N1 C V : GV} {R1 : GR} {n : Nat} {T : Nat → Nat → Nat} (hR : Rok R1) (hJ : JB C) (hP : PK C 0 V) (hT : SAV N1 R1 n T) (k1 : KE2 N N1) (f : FrP 0 N1 C) : OUT N V n T C R1 :=
  ⟨hR, hJ, hP, hT.fr (fun k i s a _ _ _ _ _ _ => f _ _ _ a) (fun _ _ => rfl) hP.1.2.2.2.2.2, fun k i s q => by rw [f _ _ _ (by unfold own; omega)]; exact k1 _ _ _ q⟩
