/-! the reference tries days -/
theorem tb {N N2 : GV} (h1 : ∀ s, 204 ≤ s → N2 22 0 s = N 22 0 s) (h2 : ∀ s, s < 204 → N2 23 0 s = N 22 0 s) (h3 : ∀ k i s, k < 22 ∨ 28 < k ∨ k = 24 ∨ k = 25 → N2 k i s = N k i s) : SS N (rowTo N2 22 0 204 fun s => N2 23 0 s) := by
  refine ⟨?_, ?_, ?_, ?_, ?_, ?_⟩
  · funext s
    by_cases q : s < 204
    · rw [rowTo_in q]; exact h2 s q
    · rw [rowTo_out q]; exact h1 s (by omega)
  · funext s; rw [rowTo_k (by decide)]; exact h3 _ _ _ (by omega)
  · funext s; rw [rowTo_k (by decide)]; exact h3 _ _ _ (by omega)
  · rw [rowTo_k (by decide)]; exact h3 _ _ _ (by omega)
  · rw [rowTo_k (by decide)]; exact h3 _ _ _ (by omega)
  · intro k i s a _
    rw [rowTo_k (by omega)]; exact h3 _ _ _ (by omega)
/-- put aside -/
def asd (N : GV) : GV := rowTo N 23 0 204 fun s => N 22 0 s
theorem asd_22 {N : GV} : (asd N) 22 0 = N 22 0 := by funext s; exact rowTo_k (by decide)
theorem asd_23 {N : GV} {s : Nat} (h : s < 204) : (asd N) 23 0 s = N 22 0 s := rowTo_in h
theorem asd_o {N : GV} {k i s : Nat} (h : ¬ k = 23) : (asd N) k i s = N k i s := rowTo_k h
theorem DI.e0 {K : Nat} {N M : GV} (h : DI K N) (e : M 22 0 = N 22 0) : DI K M := ⟨h.hK, fun j => by rw [e]; exact h.u j, fun p hp => by rw [e]; exact h.l p hp⟩
def pasV (S : Nat → Nat) (n w : Nat) : Int32 := if w = 0 then nI ((daysS n S) 8 - S 8) else if w = 1 then nI ((daysS n S) 10) - nI (S 10) else if w = 2 then nI (sumN 16 fun k => (daysS n S) (93 + 3 * k)) else nI (sumN 8 fun k => bN (decide (clo (daysS n S) k = 0)))
theorem t159 {X : XS} {N : GV} {R : GR} {L : GL} {Z : Nat × Nat × Bool} (hR : Rok R) {K n w : Nat} (h : DI K N) (hz : ouZ (N 22 0)) (hn : N 22 0 5 + n ≤ K) (hw : w < 4) : ∃ M, exec X 159 [vR 7 0, vI (nI n), vI (nI w)] (gg (nW N) R L Z) = some (.inl (some (vI (pasV (N 22 0) n w))), (gg (nW (M)) R L Z)) ∧ SS N M := by
  have a95 : exec X 95 [vR 7 0] (gg (nW N) R L Z) = some (.inl none, (gg (nW (asd N)) R L Z)) := t95 hR
  have hA : DI K (asd N) := h.e0 asd_22
  have hzA : ouZ ((asd N) 22 0) := by rw [asd_22]; exact hz
  have hnA : (asd N) 22 0 5 + n ≤ K := by rw [asd_22]; exact hn
  have s1 := t121 (X := X) (L := L) (Z := Z) hR hA hzA hnA
  obtain ⟨d1, d2, d3, d4, d5, d6⟩ := days_w hA hzA n hnA
  have eS : (daysN n (asd N)) 22 0 = daysS n (N 22 0) := by rw [daysS_e hA hzA hnA, asd_22]
  have e10 : (asd N) 22 0 10 = N 22 0 10 := by rw [asd_22]
  have e8 : (asd N) 22 0 8 = N 22 0 8 := by rw [asd_22]
  rw [e8] at s1
  have g1 : ∀ s, 204 ≤ s → (daysN n (asd N)) 22 0 s = N 22 0 s := fun s hs => by rw [d5 s (by omega), asd_22]
  have g2 : ∀ s, s < 204 → (daysN n (asd N)) 23 0 s = N 22 0 s := fun s hs => by rw [d6 _ _ _ (by omega), asd_23 hs]
  have g3 : ∀ k i s, k < 22 ∨ 28 < k ∨ k = 24 ∨ k = 25 → (daysN n (asd N)) k i s = N k i s := fun k i s hk => by rw [d6 _ _ _ (by omega), asd_o (by omega)]
  generalize daysN n (asd N) = N2 at s1 d1 d2 eS g1 g2 g3
  have s2 := t107 (X := X) (N := N2) (L := L) (Z := Z) hR
  have s3 := t103 (X := X) (N := N2) (L := L) (Z := Z) hR d1.h6 d1.lt
  have s4 := t96 (X := X) (N := N2) (L := L) (Z := Z) hR
  refine ⟨_, ?_, tb g1 g2 g3⟩
  unfold pasV
  rw [← eS]
  match w, hw with
  | 0, _ => simp (disch := first | assumption | omega | exact nI_or0 | exact nI_or1 | exact bN_or _) only [in159, x159_0, x159_1, x159_4, x159_5, x159_8, x159_10, x159_11, x159_12, x159_13, x159_14, x159_17, x159_19, x159_20, x159_23, x159_25, x159_28, x159_29, x159_30, x159_33, x159_34, x159_37, x159_39, x159_40, x159_41, x159_42, x159_45, x159_46, x159_47, x159_50, x159_51, x159_54, x159_57, x159_58, x159_61, x159_63, x159_64, x159_67, x159_69, in159, reduceIte, Nat.reduceLT, nW_ap, nW_up, nI_add, pk_mul, nI_ltI, nI_eq, if_true, if_false, kont_r, kont_v, Nat.reduceAdd, Nat.reduceMul, Nat.not_lt, not_true_eq_false, not_false_eq_true, Nat.one_ne_zero, Nat.reduceEqDiff, Nat.lt_irrefl, reduceCtorEq, nI_or0, nI_or1, a95, s1, s4]
  | 1, _ => simp (disch := first | assumption | omega | exact nI_or0 | exact nI_or1 | exact bN_or _) only [in159, x159_0, x159_1, x159_4, x159_5, x159_8, x159_10, x159_11, x159_12, x159_13, x159_14, x159_17, x159_19, x159_20, x159_23, x159_25, x159_28, x159_29, x159_30, x159_33, x159_34, x159_37, x159_39, x159_40, x159_41, x159_42, x159_45, x159_46, x159_47, x159_50, x159_51, x159_54, x159_57, x159_58, x159_61, x159_63, x159_64, x159_67, x159_69, in159, reduceIte, Nat.reduceLT, nW_ap, nW_up, nI_add, pk_mul, nI_ltI, nI_eq, if_true, if_false, kont_r, kont_v, Nat.reduceAdd, Nat.reduceMul, Nat.not_lt, not_true_eq_false, not_false_eq_true, Nat.one_ne_zero, Nat.reduceEqDiff, Nat.lt_irrefl, reduceCtorEq, nI_or0, nI_or1, a95, s1, s4, e10]
  | 2, _ => simp (disch := first | assumption | omega | exact nI_or0 | exact nI_or1 | exact bN_or _) only [in159, x159_0, x159_1, x159_4, x159_5, x159_8, x159_10, x159_11, x159_12, x159_13, x159_14, x159_17, x159_19, x159_20, x159_23, x159_25, x159_28, x159_29, x159_30, x159_33, x159_34, x159_37, x159_39, x159_40, x159_41, x159_42, x159_45, x159_46, x159_47, x159_50, x159_51, x159_54, x159_57, x159_58, x159_61, x159_63, x159_64, x159_67, x159_69, in159, reduceIte, Nat.reduceLT, nW_ap, nW_up, nI_add, pk_mul, nI_ltI, nI_eq, if_true, if_false, kont_r, kont_v, Nat.reduceAdd, Nat.reduceMul, Nat.not_lt, not_true_eq_false, not_false_eq_true, Nat.one_ne_zero, Nat.reduceEqDiff, Nat.lt_irrefl, reduceCtorEq, nI_or0, nI_or1, a95, s1, s2, s4]
  | 3, _ => simp (disch := first | assumption | omega | exact nI_or0 | exact nI_or1 | exact bN_or _) only [in159, x159_0, x159_1, x159_4, x159_5, x159_8, x159_10, x159_11, x159_12, x159_13, x159_14, x159_17, x159_19, x159_20, x159_23, x159_25, x159_28, x159_29, x159_30, x159_33, x159_34, x159_37, x159_39, x159_40, x159_41, x159_42, x159_45, x159_46, x159_47, x159_50, x159_51, x159_54, x159_57, x159_58, x159_61, x159_63, x159_64, x159_67, x159_69, in159, reduceIte, Nat.reduceLT, nW_ap, nW_up, nI_add, pk_mul, nI_ltI, nI_eq, if_true, if_false, kont_r, kont_v, Nat.reduceAdd, Nat.reduceMul, Nat.not_lt, not_true_eq_false, not_false_eq_true, Nat.one_ne_zero, Nat.reduceEqDiff, Nat.lt_irrefl, reduceCtorEq, nI_or0, nI_or1, a95, s1, s3, s4]
theorem t160_1 {X : XS} {N : GV} {R : GR} {L : GL} {Z : Nat × Nat × Bool} (hR : Rok R) {n w : Int32} (h1 : inb 1 60 n = true → inb 0 3 w = false) : exec X 160 [vR 7 0, vI n, vI w] (gg (nW N) R L Z) = some (.inl (some (vI (nI 0))), (gg (nW (er N 1)) R L Z)) := by
  cases q : inb 1 60 n with
  | false => simp (disch := first | assumption | omega | exact nI_or0 | exact nI_or1 | exact bN_or _) only [in160, x160_0, x160_1, x160_2, x160_5, x160_6, x160_7, x160_9, x160_12, x160_15, x160_16, x160_17, x160_18, x160_21, x160_24, x160_25, x160_26, x160_27, x160_30, x160_33, x160_34, x160_35, x160_38, in160, reduceIte, Nat.reduceLT, nW_ap, nW_up, nI_add, pk_mul, nI_ltI, nI_eq, if_true, if_false, kont_r, kont_v, Nat.reduceAdd, Nat.reduceMul, Nat.not_lt, not_true_eq_false, not_false_eq_true, Nat.one_ne_zero, Nat.reduceEqDiff, Nat.lt_irrefl, reduceCtorEq, nI_or0, nI_or1, up3_er, t91i, q, bN, Bool.false_eq_true, t92e, er_er']
  | true => simp (disch := first | assumption | omega | exact nI_or0 | exact nI_or1 | exact bN_or _) only [in160, x160_0, x160_1, x160_2, x160_5, x160_6, x160_7, x160_9, x160_12, x160_15, x160_16, x160_17, x160_18, x160_21, x160_24, x160_25, x160_26, x160_27, x160_30, x160_33, x160_34, x160_35, x160_38, in160, reduceIte, Nat.reduceLT, nW_ap, nW_up, nI_add, pk_mul, nI_ltI, nI_eq, if_true, if_false, kont_r, kont_v, Nat.reduceAdd, Nat.reduceMul, Nat.not_lt, not_true_eq_false, not_false_eq_true, Nat.one_ne_zero, Nat.reduceEqDiff, Nat.lt_irrefl, reduceCtorEq, nI_or0, nI_or1, up3_er, t91i, q, h1 q, bN, Bool.false_eq_true, t92e, er_er']
theorem t160_2 {X : XS} {N : GV} {R : GR} {L : GL} {Z : Nat × Nat × Bool} (hR : Rok R) {K n w : Nat} (h : DI K N) (hz : ouZ (N 22 0)) (h1 : 1 ≤ n ∧ n ≤ 60) (hn : N 22 0 5 + n ≤ K) (hw : w < 4) : ∃ M, exec X 160 [vR 7 0, vI (nI n), vI (nI w)] (gg (nW N) R L Z) = some (.inl (some (vI (pasV (N 22 0) n w))), (gg (nW (M)) R L Z)) ∧ SS (er N 0) M := by
  have i1 : inb 1 60 (nI n) = true := by rw [inb_t (by omega) (by omega) (by omega)]; exact decide_eq_true (by omega)
  have i2 : inb 0 3 (nI w) = true := by rw [inb_t (by omega) (by omega) (by omega)]; exact decide_eq_true (by omega)
  obtain ⟨M, a, b⟩ := t159 (X := X) (N := er N 0) (L := L) (Z := Z) (n := n) (w := w) hR h.er (by rw [er_22]; exact hz) (by rw [er_22]; exact hn) hw
  rw [er_22] at a
  refine ⟨M, ?_, b⟩
  simp (disch := first | assumption | omega | exact nI_or0 | exact nI_or1 | exact bN_or _) only [in160, x160_0, x160_1, x160_2, x160_5, x160_6, x160_7, x160_9, x160_12, x160_15, x160_16, x160_17, x160_18, x160_21, x160_24, x160_25, x160_26, x160_27, x160_30, x160_33, x160_34, x160_35, x160_38, in160, reduceIte, Nat.reduceLT, nW_ap, nW_up, nI_add, pk_mul, nI_ltI, nI_eq, if_true, if_false, kont_r, kont_v, Nat.reduceAdd, Nat.reduceMul, Nat.not_lt, not_true_eq_false, not_false_eq_true, Nat.one_ne_zero, Nat.reduceEqDiff, Nat.lt_irrefl, reduceCtorEq, nI_or0, nI_or1, up3_er, t91i, i1, i2, bN, a]
theorem DI.pl {K d c g : Nat} {N : GV} (h : DI K N) (h7 : N 22 0 7 < 17) (hd : d ≤ K + 999) (hc : c ≤ 99) (hg : g ≤ 7) : DI K (plnN N d c g) := by
  unfold plnN
  exact (((h.up' (bd_O (by omega) (by unfold b4; omega)) (by omega)).up' (bd_O (by omega) (by unfold b4; omega)) (by omega)).up' (bd_O (by omega) (by unfold b4; omega)) (by omega)).up' (bd_S (by omega) (by unfold b0; omega)) (by omega)
theorem pln_z {d c g : Nat} {N : GV} (hz : ouZ (N 22 0)) : ouZ ((plnN N d c g) 22 0) := by
  intro s h1 h2
  rw [pln_7] at h1
  have : plnN N d c g 22 0 s = N 22 0 s := by
    unfold plnN
    rw [up3_s _ _ (by omega), up3_s _ _ (by omega), up3_s _ _ (by omega), up3_s _ _ (by omega)]
  rw [this]
  exact hz s (by omega) h2
def plnS (S : Nat → Nat) (d c g : Nat) : Nat → Nat := (plnN (cw S) d c g) 22 0
theorem plnS_e {N : GV} {d c g : Nat} : (plnN N d c g) 22 0 = plnS (N 22 0) d c g := by
  unfold plnS plnN
  simp only [up22, cw_22]
/-- thirst of the next day -/
def th1 (S : Nat → Nat) : Nat := (daysS 1 S) 8 - S 8
def moreV (S : Nat → Nat) (c g : Nat) : Int32 := nI (th1 (plnS S (S 5) c g)) - nI (th1 S)
theorem t161 {X : XS} {N : GV} {R : GR} {L : GL} {Z : Nat × Nat × Bool} (hR : Rok R) {K c g : Nat} (h : DI K N) (hz : ouZ (N 22 0)) (h7 : N 22 0 7 < 17) (hn : N 22 0 5 + 1 ≤ K) (hc : c ≤ 99) (hg : g < 8) : ∃ M, exec X 161 [vR 7 0, vI (nI c), vI (nI g)] (gg (nW N) R L Z) = some (.inl (some (vI (moreV (N 22 0) c g))), (gg (nW (M)) R L Z)) ∧ SS N M := by
  have a95 : exec X 95 [vR 7 0] (gg (nW N) R L Z) = some (.inl none, (gg (nW (asd N)) R L Z)) := t95 hR
  have hA : DI K (asd N) := h.e0 asd_22
  have hzA : ouZ ((asd N) 22 0) := by rw [asd_22]; exact hz
  have hnA : (asd N) 22 0 5 + 1 ≤ K := by rw [asd_22]; exact hn
  have s1 := t121 (X := X) (L := L) (Z := Z) hR hA hzA hnA
  obtain ⟨d1, d2, d3, d4, d5, d6⟩ := days_w hA hzA 1 hnA
  have eS : (daysN 1 (asd N)) 22 0 8 - (asd N) 22 0 8 = th1 (N 22 0) := by
    unfold th1
    rw [daysS_e hA hzA hnA, asd_22]
  rw [eS] at s1
  have g1 : ∀ s, 204 ≤ s → (daysN 1 (asd N)) 22 0 s = N 22 0 s := fun s hs => by rw [d5 s (by omega), asd_22]
  have g2 : ∀ s, s < 204 → (daysN 1 (asd N)) 23 0 s = N 22 0 s := fun s hs => by rw [d6 _ _ _ (by omega), asd_23 hs]
  have g3 : ∀ k i s, k < 22 ∨ 28 < k ∨ k = 24 ∨ k = 25 → (daysN 1 (asd N)) k i s = N k i s := fun k i s hk => by rw [d6 _ _ _ (by omega), asd_o (by omega)]
  generalize daysN 1 (asd N) = N2 at s1 g1 g2 g3
  have s2 := t96 (X := X) (N := N2) (L := L) (Z := Z) hR
  have q3 : SS N (rowTo N2 22 0 204 fun s => N2 23 0 s) := tb g1 g2 g3
  have q23 : ∀ s, s < 204 → (rowTo N2 22 0 204 fun s => N2 23 0 s) 23 0 s = N 22 0 s := fun s hs => by rw [rowTo_k (by decide)]; exact g2 s hs
  have qo : ∀ k i s, k < 22 ∨ 28 < k ∨ k = 24 ∨ k = 25 → (rowTo N2 22 0 204 fun s => N2 23 0 s) k i s = N k i s := fun k i s hk => by rw [rowTo_k (by omega)]; exact g3 k i s hk
  generalize (rowTo N2 22 0 204 fun s => N2 23 0 s) = N3 at s2 q3 q23 qo
  have e5 : N3 22 0 5 = N 22 0 5 := by rw [q3.1]
  have e7 : N3 22 0 7 < 17 := by rw [q3.1]; exact h7
  have h3 : DI K N3 := h.e0 q3.1
  have hK := h.h5
  have s4 := t130 (X := X) (N := N3) (L := L) (Z := Z) (d := N 22 0 5) (c := c) (g := g) hR e7
  have h4 : DI K (plnN N3 (N 22 0 5) c g) := h3.pl e7 (by omega) hc (by omega)
  have hz4 : ouZ ((plnN N3 (N 22 0 5) c g) 22 0) := pln_z (by rw [q3.1]; exact hz)
  have p5 : (plnN N3 (N 22 0 5) c g) 22 0 5 = N 22 0 5 := by rw [pln_o (by omega), e5]
  have p8 : (plnN N3 (N 22 0 5) c g) 22 0 8 = N 22 0 8 := by rw [pln_o (by omega), q3.1]
  have hn4 : (plnN N3 (N 22 0 5) c g) 22 0 5 + 1 ≤ K := by rw [p5]; exact hn
  have s5 := t121 (X := X) (L := L) (Z := Z) hR h4 hz4 hn4
  obtain ⟨f1, f2, f3, f4, f5, f6⟩ := days_w h4 hz4 1 hn4
  have eT : (daysN 1 (plnN N3 (N 22 0 5) c g)) 22 0 8 - (plnN N3 (N 22 0 5) c g) 22 0 8 = th1 (plnS (N 22 0) (N 22 0 5) c g) := by
    unfold th1
    rw [daysS_e h4 hz4 hn4, plnS_e, q3.1]
  rw [eT] at s5
  have po : ∀ s, 204 ≤ s → (plnN N3 (N 22 0 5) c g) 22 0 s = N 22 0 s := fun s hs => by
    unfold plnN
    rw [up3_s _ _ (by omega), up3_s _ _ (by omega), up3_s _ _ (by omega), up3_s _ _ (by omega), q3.1]
  have w1 : ∀ s, 204 ≤ s → (daysN 1 (plnN N3 (N 22 0 5) c g)) 22 0 s = N 22 0 s := fun s hs => by rw [f5 s (by omega), po s hs]
  have w2 : ∀ s, s < 204 → (daysN 1 (plnN N3 (N 22 0 5) c g)) 23 0 s = N 22 0 s := fun s hs => by rw [f6 _ _ _ (by omega), pln_o (by omega), q23 s hs]
  have w3 : ∀ k i s, k < 22 ∨ 28 < k ∨ k = 24 ∨ k = 25 → (daysN 1 (plnN N3 (N 22 0 5) c g)) k i s = N k i s := fun k i s hk => by rw [f6 _ _ _ (by omega), pln_o (by omega), qo k i s hk]
  generalize daysN 1 (plnN N3 (N 22 0 5) c g) = N5 at s5 w1 w2 w3
  have s6 := t96 (X := X) (N := N5) (L := L) (Z := Z) hR
  refine ⟨_, ?_, tb w1 w2 w3⟩
  unfold moreV
  simp (disch := first | assumption | omega | exact nI_or0 | exact nI_or1 | exact bN_or _) only [in161, x161_0, x161_1, x161_4, x161_5, x161_6, x161_9, x161_10, x161_11, x161_14, x161_15, x161_16, x161_19, x161_20, x161_21, x161_22, x161_23, x161_26, x161_27, x161_28, x161_31, x161_33, x161_34, x161_37, x161_39, x161_40, x161_41, in161, reduceIte, Nat.reduceLT, nW_ap, nW_up, nI_add, pk_mul, nI_ltI, nI_eq, if_true, if_false, kont_r, kont_v, Nat.reduceAdd, Nat.reduceMul, Nat.not_lt, not_true_eq_false, not_false_eq_true, Nat.one_ne_zero, Nat.reduceEqDiff, Nat.lt_irrefl, reduceCtorEq, nI_or0, nI_or1, a95, s1, s2, e5, s4, s5, s6]
theorem t162_1 {X : XS} {N : GV} {R : GR} {L : GL} {Z : Nat × Nat × Bool} (hR : Rok R) {c g : Int32} (h1 : inb 1 99 c = true → inb 0 7 g = false) : exec X 162 [vR 7 0, vI c, vI g] (gg (nW N) R L Z) = some (.inl (some (vI (nI 0))), (gg (nW (er N 1)) R L Z)) := by
  cases q : inb 1 99 c with
  | false => simp (disch := first | assumption | omega | exact nI_or0 | exact nI_or1 | exact bN_or _) only [in162, x162_0, x162_1, x162_2, x162_5, x162_6, x162_7, x162_9, x162_12, x162_15, x162_16, x162_19, x162_22, x162_23, x162_24, x162_25, x162_28, x162_31, x162_32, x162_33, x162_36, in162, reduceIte, Nat.reduceLT, nW_ap, nW_up, nI_add, pk_mul, nI_ltI, nI_eq, if_true, if_false, kont_r, kont_v, Nat.reduceAdd, Nat.reduceMul, Nat.not_lt, not_true_eq_false, not_false_eq_true, Nat.one_ne_zero, Nat.reduceEqDiff, Nat.lt_irrefl, reduceCtorEq, nI_or0, nI_or1, up3_er, t91i, q, bN, Bool.false_eq_true, t92e, er_er']
  | true => simp (disch := first | assumption | omega | exact nI_or0 | exact nI_or1 | exact bN_or _) only [in162, x162_0, x162_1, x162_2, x162_5, x162_6, x162_7, x162_9, x162_12, x162_15, x162_16, x162_19, x162_22, x162_23, x162_24, x162_25, x162_28, x162_31, x162_32, x162_33, x162_36, in162, reduceIte, Nat.reduceLT, nW_ap, nW_up, nI_add, pk_mul, nI_ltI, nI_eq, if_true, if_false, kont_r, kont_v, Nat.reduceAdd, Nat.reduceMul, Nat.not_lt, not_true_eq_false, not_false_eq_true, Nat.one_ne_zero, Nat.reduceEqDiff, Nat.lt_irrefl, reduceCtorEq, nI_or0, nI_or1, up3_er, t91i, t93i, q, h1 q, bN, Bool.false_eq_true, t92e, er_er']
theorem t162_2 {X : XS} {N : GV} {R : GR} {L : GL} {Z : Nat × Nat × Bool} (hR : Rok R) {K c g : Nat} (h : DI K N) (hz : ouZ (N 22 0)) (h7 : N 22 0 7 < 17) (hn : N 22 0 5 + 1 ≤ K) (hc : 1 ≤ c ∧ c ≤ 99) (hg : g < 8) : ∃ M, exec X 162 [vR 7 0, vI (nI c), vI (nI g)] (gg (nW N) R L Z) = some (.inl (some (vI (moreV (N 22 0) c g))), (gg (nW (M)) R L Z)) ∧ SS (er N 0) M := by
  have i1 : inb 1 99 (nI c) = true := by rw [inb_t (by omega) (by omega) (by omega)]; exact decide_eq_true (by omega)
  obtain ⟨M, a, b⟩ := t161 (X := X) (N := er N 0) (L := L) (Z := Z) (c := c) (g := g) hR h.er (by rw [er_22]; exact hz) (by rw [er_22]; exact h7) (by rw [er_22]; exact hn) hc.2 hg
  rw [er_22] at a
  refine ⟨M, ?_, b⟩
  simp (disch := first | assumption | omega | exact nI_or0 | exact nI_or1 | exact bN_or _) only [in162, x162_0, x162_1, x162_2, x162_5, x162_6, x162_7, x162_9, x162_12, x162_15, x162_16, x162_19, x162_22, x162_23, x162_24, x162_25, x162_28, x162_31, x162_32, x162_33, x162_36, in162, reduceIte, Nat.reduceLT, nW_ap, nW_up, nI_add, pk_mul, nI_ltI, nI_eq, if_true, if_false, kont_r, kont_v, Nat.reduceAdd, Nat.reduceMul, Nat.not_lt, not_true_eq_false, not_false_eq_true, Nat.one_ne_zero, Nat.reduceEqDiff, Nat.lt_irrefl, reduceCtorEq, nI_or0, nI_or1, up3_er, t91i, t93i, i1, in_8, bN, a]
