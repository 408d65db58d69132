/-! the digest: class and reference -/
theorem t85 {X : XS} {I : GI} {R : GR} {L : GL} {Z : Nat × Nat × Bool} {h v : Int64} : exec X 85 [vL h, vL v] (gg I R L Z) = some (.inl (some (vL (h1 v h))), gg I R L Z) := by
  unfold h1
  simp (disch := first | assumption | omega | exact nI_or0 | exact nI_or1 | exact bN_or _) only [in85, x85_0, x85_3, x85_4, x85_5, x85_6, x85_7, in85, reduceIte, Nat.reduceLT, nW_ap, nW_up, nI_add, pk_mul, nI_ltI, nI_eq, if_true, if_false, kont_r, kont_v, Nat.reduceAdd, Nat.reduceMul, Nat.not_lt, not_true_eq_false, not_false_eq_true, Nat.one_ne_zero, Nat.reduceEqDiff, Nat.lt_irrefl, reduceCtorEq, nI_or0, nI_or1]
theorem OUT.cmp {N M C V : GV} {R1 R2 : GR} {n : Nat} {T : Nat → Nat → Nat} (h : OUT N V n T M R1) (h2 : OUT M V n T C R2) : OUT N V n T C R2 :=
  ⟨h2.1, h2.2.1, h2.2.2.1, h2.2.2.2.1, fun k i s q => (h2.2.2.2.2 k i s q).trans (h.2.2.2.2 k i s q)⟩
theorem k86 {X : XS} {N : GV} {R : GR} {L : GL} {Z : Nat × Nat × Bool} (hR : Rok R) {V : GV} {h : Int64} (hV : STV V) (pkh : PK N 0 V) (jbh : JB N) : ∃ N' R', exec X 86 [vR 6 0, vL h] (gg (nW N) R L Z) = some (.inl (some (vL (itH (hP (V 22 0)) 8 h))), gg (nW N') R' L Z) ∧ FrT N N' ∧ FrR R R' ∧ JB N' ∧ SB N' := by
  obtain ⟨C, R', s83, v, f, r, j, b⟩ := t83 (X := X) (N := N) (R := R) (L := L) (Z := Z) hR hV.1 pkh jbh hV.2.1
  have hPC : PK C 0 V := pkh.sm hV.1.1 (fun k i s q => f _ _ _ (own_ne q (by omega)) (by unfold own at q; omega)) b
  have hR' := r.1
  refine ⟨C, R', ?_, f, r, j, b⟩
  have inn : ∀ p, p < 8 → ∀ g : Int64, ∀ w, w ≤ 10 → ex X 86 19 [vR 6 0, vL h, vU, vL (itH (fun w => h1 (tpI (V 22 0) p w).toInt64) w g), vU, vI (nI p), vI (nI w)] [] (gg (nW C) R' L Z) = ex X 86 46 [vR 6 0, vL h, vU, vL (itH (fun w => h1 (tpI (V 22 0) p w).toInt64) 10 g), vU, vI (nI p), vI (nI 10)] [] (gg (nW C) R' L Z) := by
    intro p hp g
    refine down _ ?_ ?_
    · rw [x86_19]
      simp (disch := first | assumption | omega | exact nI_or0 | exact nI_or1 | exact bN_or _) only [x86_21, x86_23, reduceIte, Nat.reduceLT, nW_ap, nW_up, nI_add, pk_mul, nI_ltI, nI_eq, if_true, if_false, kont_r, kont_v, Nat.reduceAdd, Nat.reduceMul, Nat.not_lt, not_true_eq_false, not_false_eq_true, Nat.one_ne_zero, Nat.reduceEqDiff, Nat.lt_irrefl, reduceCtorEq, nI_or0, nI_or1]
    · intro w hw ih
      have s61 := k61 (X := X) (N := C) (R := R') (L := L) (Z := Z) (p := p) (w := w) hR' hV.1.1 hPC hp hw
      have es : itH (fun w => h1 (tpI (V 22 0) p w).toInt64) (w + 1) g = h1 (tpI (V 22 0) p w).toInt64 (itH (fun w => h1 (tpI (V 22 0) p w).toInt64) w g) := rfl
      rw [es] at ih
      rw [← ih, x86_19]
      simp (disch := first | assumption | omega | exact nI_or0 | exact nI_or1 | exact bN_or _) only [x86_21, x86_23, x86_26, x86_27, x86_28, x86_30, x86_32, x86_35, x86_36, x86_39, x86_40, x86_43, reduceIte, Nat.reduceLT, nW_ap, nW_up, nI_add, pk_mul, nI_ltI, nI_eq, if_true, if_false, kont_r, kont_v, Nat.reduceAdd, Nat.reduceMul, Nat.not_lt, not_true_eq_false, not_false_eq_true, Nat.one_ne_zero, Nat.reduceEqDiff, Nat.lt_irrefl, reduceCtorEq, nI_or0, nI_or1, hw, s61, t85]
  have out : ∀ p, p ≤ 8 → ∀ l6 : AV, ex X 86 9 [vR 6 0, vL h, vU, vL (itH (hP (V 22 0)) p h), vU, vI (nI p), l6] [] (gg (nW C) R' L Z) = some (.inl (some (vL (itH (hP (V 22 0)) 8 h))), gg (nW C) R' L Z) := by
    refine down _ ?_ ?_
    · intro l6
      rw [x86_9]
      simp (disch := first | assumption | omega | exact nI_or0 | exact nI_or1 | exact bN_or _) only [x86_11, x86_13, x86_65, x86_66, reduceIte, Nat.reduceLT, nW_ap, nW_up, nI_add, pk_mul, nI_ltI, nI_eq, if_true, if_false, kont_r, kont_v, Nat.reduceAdd, Nat.reduceMul, Nat.not_lt, not_true_eq_false, not_false_eq_true, Nat.one_ne_zero, Nat.reduceEqDiff, Nat.lt_irrefl, reduceCtorEq, nI_or0, nI_or1]
    · intro p hp ih l6
      have hv : nI (C 21 0 p) = untV (V 22 0) p := by rw [v p hp, oE_I, unt_f hV.1 hV.2.1 hp]
      have es : itH (hP (V 22 0)) (p + 1) h = h1 (untV (V 22 0) p).toInt64 (itH (fun w => h1 (tpI (V 22 0) p w).toInt64) 10 (itH (hP (V 22 0)) p h)) := rfl
      have ih := ih (vI (nI 10))
      rw [es] at ih
      have i0 := inn p hp (itH (hP (V 22 0)) p h) 0 (Nat.zero_le _)
      have i0 : ex X 86 19 [vR 6 0, vL h, vU, vL (itH (hP (V 22 0)) p h), vU, vI (nI p), vI (nI 0)] [] (gg (nW C) R' L Z) = _ := i0
      rw [← ih, x86_9]
      have st : ex X 86 46 [vR 6 0, vL h, vU, vL (itH (fun w => h1 (tpI (V 22 0) p w).toInt64) 10 (itH (hP (V 22 0)) p h)), vU, vI (nI p), vI (nI 10)] [] (gg (nW C) R' L Z) = ex X 86 9 [vR 6 0, vL h, vU, vL (h1 (untV (V 22 0) p).toInt64 (itH (fun w => h1 (tpI (V 22 0) p w).toInt64) 10 (itH (hP (V 22 0)) p h))), vU, vI (nI (p + 1)), vI (nI 10)] [] (gg (nW C) R' L Z) := by
        simp (disch := first | assumption | omega | exact nI_or0 | exact nI_or1 | exact bN_or _) only [x86_46, x86_47, x86_48, x86_51, x86_53, x86_54, x86_55, x86_58, x86_59, x86_62, reduceIte, Nat.reduceLT, nW_ap, nW_up, nI_add, pk_mul, nI_ltI, nI_eq, if_true, if_false, kont_r, kont_v, Nat.reduceAdd, Nat.reduceMul, Nat.not_lt, not_true_eq_false, not_false_eq_true, Nat.one_ne_zero, Nat.reduceEqDiff, Nat.lt_irrefl, reduceCtorEq, nI_or0, nI_or1, hv, t85]
      rw [← st, ← i0]
      simp (disch := first | assumption | omega | exact nI_or0 | exact nI_or1 | exact bN_or _) only [x86_11, x86_13, x86_16, x86_17, reduceIte, Nat.reduceLT, nW_ap, nW_up, nI_add, pk_mul, nI_ltI, nI_eq, if_true, if_false, kont_r, kont_v, Nat.reduceAdd, Nat.reduceMul, Nat.not_lt, not_true_eq_false, not_false_eq_true, Nat.one_ne_zero, Nat.reduceEqDiff, Nat.lt_irrefl, reduceCtorEq, nI_or0, nI_or1, hp]
  have h0 := out 0 (Nat.zero_le _) vU
  have h0 : ex X 86 9 [vR 6 0, vL h, vU, vL h, vU, vI (nI 0), vU] [] (gg (nW C) R' L Z) = _ := h0
  simp (disch := first | assumption | omega | exact nI_or0 | exact nI_or1 | exact bN_or _) only [in86, x86_0, x86_1, x86_2, x86_3, x86_6, x86_7, reduceIte, Nat.reduceLT, nW_ap, nW_up, nI_add, pk_mul, nI_ltI, nI_eq, if_true, if_false, kont_r, kont_v, Nat.reduceAdd, Nat.reduceMul, Nat.not_lt, not_true_eq_false, not_false_eq_true, Nat.one_ne_zero, Nat.reduceEqDiff, Nat.lt_irrefl, reduceCtorEq, nI_or0, nI_or1, s83]
  exact h0
theorem itH_2 {f : Nat → Int64 → Int64} {k : Nat} {g : Int64} : itH f (2 * (k + 1)) g = f (2 * k + 1) (f (2 * k) (itH f (2 * k) g)) := by
  rw [show 2 * (k + 1) = 2 * k + 1 + 1 by omega]
  rfl
theorem toA_s {S : Nat → Nat} {x : Int32} {j w : Nat} (h : outAt S x = some j) : toA S x w = nI (S (153 + 3 * j + w)) := by
  unfold toA
  rw [h]
theorem hO_s {S : Nat → Nat} {k j : Nat} {g : Int64} (h : outAt S (nI k) = some j) : hO S k g = h1 (nI (S (153 + 3 * j + 2))).toInt64 (h1 (nI (S (153 + 3 * j + 1))).toInt64 (h1 (nI (S (153 + 3 * j))).toInt64 g)) := by
  unfold hO
  show h1 (toA S (nI k) 2).toInt64 (h1 (toA S (nI k) 1).toInt64 (h1 (toA S (nI k) 0).toInt64 g)) = _
  rw [toA_s h, toA_s h, toA_s h]
  have e : 153 + 3 * j + 0 = 153 + 3 * j := Nat.add_zero _
  rw [e]
theorem itH_s {f : Nat → Int64 → Int64} {k : Nat} {g : Int64} : itH f (k + 1) g = f k (itH f k g) := rfl
theorem itH_0 {f : Nat → Int64 → Int64} {g : Int64} : itH f 0 g = g := rfl
theorem k87 {X : XS} {N : GV} {R : GR} {L : GL} {Z : Nat × Nat × Bool} (hR : Rok R) {V : GV} {h : Int64} (hV : STV V) (pkh : PK N 0 V) (jbh : JB N) : ∃ N' R' q, exec X 87 [vR 6 0, vL h] (gg (nW N) R L Z) = some (.inl (some (vL (c6 (V 22 0) (c5 (V 22 0) (c4 (V 22 0) h))))), gg (nW N') R' L Z) ∧ QQ N V N' R' q ∧ FrR R R' := by
  have hD := hV.1.1
  obtain ⟨C, R', q, s37, hQ, hr⟩ := q37 (X := X) (N := N) (R := R) (L := L) (Z := Z) hR hD (by have := hV.2.1; omega) pkh jbh
  refine ⟨C, R', q, ?_, hQ, hr⟩
  have hR' := hr.1
  have e56 : C 5 0 6 = jbs (V 22 0) := by rw [hQ.1, hQ.2.2.2.2.1]
  have hl := hQ.2.1
  have hql := hQ.2.2.2.2.1
  have fr := hQ.2.2.2.2.2.1
  have hj16 : jbs (V 22 0) ≤ 16 := by omega
  have h6 := hD.h6
  have h7 := hD.h7
  have e12 : C 1 0 2 = V 22 0 6 := by rw [fr _ _ _ (by omega) (by omega)]; exact pkh.2.2.1.1
  have e43 : C 4 0 3 = V 22 0 7 := by rw [fr _ _ _ (by omega) (by omega)]; exact pkh.2.2.2.1
  -- outings
  have p3 : ∀ g : Int64, ∀ k, k ≤ V 22 0 7 → ∀ l6 : AV, ex X 87 129 [vR 6 0, vL h, vU, vL (itH (hO (V 22 0)) k g), vU, vI (nI k), l6] [] (gg (nW C) R' L Z) = some (.inl (some (vL (itH (hO (V 22 0)) (V 22 0 7) g))), gg (nW C) R' L Z) := by
    intro g
    obtain ⟨_, σ, hs, hσ, hc⟩ := pkh.2.2.2
    refine down _ ?_ ?_
    · intro l6
      rw [x87_129]
      simp (disch := first | assumption | omega | exact nI_or0 | exact nI_or1 | exact bN_or _) only [x87_131, x87_132, x87_135, x87_138, x87_141, x87_207, x87_208, reduceIte, Nat.reduceLT, nW_ap, nW_up, nI_add, pk_mul, nI_ltI, nI_eq, if_true, if_false, kont_r, kont_v, Nat.reduceAdd, Nat.reduceMul, Nat.not_lt, not_true_eq_false, not_false_eq_true, Nat.one_ne_zero, Nat.reduceEqDiff, Nat.lt_irrefl, reduceCtorEq, nI_or0, nI_or1, e43, Nat.lt_irrefl]
    · intro k hk ih l6
      have c := hc k hk
      unfold coA ouA at c
      injection c with c1 c2
      injection c2 with c2 c3
      have a14 : C 14 0 k = V 22 0 (153 + 3 * σ.getD k 0) := by rw [fr _ _ _ (by omega) (by omega)]; exact c1
      have a15 : C 15 0 k = V 22 0 (153 + 3 * σ.getD k 0 + 1) := by rw [fr _ _ _ (by omega) (by omega)]; exact c2
      have a16 : C 16 0 k = V 22 0 (153 + 3 * σ.getD k 0 + 2) := by rw [fr _ _ _ (by omega) (by omega)]; exact c3
      have es : itH (hO (V 22 0)) (k + 1) g = h1 (nI (V 22 0 (153 + 3 * σ.getD k 0 + 2))).toInt64 (h1 (nI (V 22 0 (153 + 3 * σ.getD k 0 + 1))).toInt64 (h1 (nI (V 22 0 (153 + 3 * σ.getD k 0))).toInt64 (itH (hO (V 22 0)) k g))) := by
        rw [itH_s, hO_s (outAt_s hs hσ h7 hk)]
      have ih := ih l6
      rw [es] at ih
      have k17 : k < 17 := by omega
      rw [← ih, x87_129]
      simp (disch := first | assumption | omega | exact nI_or0 | exact nI_or1 | exact bN_or _) only [x87_131, x87_132, x87_135, x87_138, x87_141, x87_144, x87_145, x87_146, x87_149, x87_152, x87_155, x87_157, x87_158, x87_159, x87_162, x87_163, x87_164, x87_165, x87_168, x87_171, x87_174, x87_176, x87_177, x87_178, x87_181, x87_182, x87_183, x87_184, x87_187, x87_190, x87_193, x87_195, x87_196, x87_197, x87_200, x87_201, x87_204, reduceIte, Nat.reduceLT, nW_ap, nW_up, nI_add, pk_mul, nI_ltI, nI_eq, if_true, if_false, kont_r, kont_v, Nat.reduceAdd, Nat.reduceMul, Nat.not_lt, not_true_eq_false, not_false_eq_true, Nat.one_ne_zero, Nat.reduceEqDiff, Nat.lt_irrefl, reduceCtorEq, nI_or0, nI_or1, e43, hk, a14, a15, a16, t85]
  -- frosts
  have p2 : ∀ g : Int64, ∀ k, k ≤ V 22 0 6 → ∀ l6 : AV, ex X 87 69 [vR 6 0, vL h, vU, vL (itH (fun k => h1 (nI (V 22 0 (141 + k))).toInt64) (2 * k) g), vU, vI (nI k), l6] [] (gg (nW C) R' L Z) = ex X 87 129 [vR 6 0, vL h, vU, vL (c5 (V 22 0) g), vU, vI (nI 0), l6] [] (gg (nW C) R' L Z) := by
    intro g
    refine down _ ?_ ?_
    · intro l6
      unfold c5
      rw [x87_69]
      simp (disch := first | assumption | omega | exact nI_or0 | exact nI_or1 | exact bN_or _) only [x87_71, x87_72, x87_75, x87_78, x87_81, x87_126, x87_127, reduceIte, Nat.reduceLT, nW_ap, nW_up, nI_add, pk_mul, nI_ltI, nI_eq, if_true, if_false, kont_r, kont_v, Nat.reduceAdd, Nat.reduceMul, Nat.not_lt, not_true_eq_false, not_false_eq_true, Nat.one_ne_zero, Nat.reduceEqDiff, Nat.lt_irrefl, reduceCtorEq, nI_or0, nI_or1, e12, Nat.lt_irrefl]
    · intro k hk ih l6
      have g2 := pkh.2.2.1.2 k hk
      have a8 : C 8 0 k = V 22 0 (141 + 2 * k) := by rw [fr _ _ _ (by omega) (by omega)]; exact g2.1
      have a9 : C 9 0 k = V 22 0 (141 + (2 * k + 1)) := by rw [fr _ _ _ (by omega) (by omega), show 141 + (2 * k + 1) = 141 + 2 * k + 1 by omega]; exact g2.2
      have es : itH (fun k => h1 (nI (V 22 0 (141 + k))).toInt64) (2 * (k + 1)) g = h1 (nI (V 22 0 (141 + (2 * k + 1)))).toInt64 (h1 (nI (V 22 0 (141 + 2 * k))).toInt64 (itH (fun k => h1 (nI (V 22 0 (141 + k))).toInt64) (2 * k) g)) := itH_2
      have ih := ih l6
      rw [es] at ih
      have k6 : k < 6 := by omega
      rw [← ih, x87_69]
      simp (disch := first | assumption | omega | exact nI_or0 | exact nI_or1 | exact bN_or _) only [x87_71, x87_72, x87_75, x87_78, x87_81, x87_84, x87_85, x87_86, x87_89, x87_92, x87_95, x87_97, x87_98, x87_99, x87_102, x87_103, x87_106, x87_109, x87_112, x87_114, x87_115, x87_116, x87_119, x87_120, x87_123, reduceIte, Nat.reduceLT, nW_ap, nW_up, nI_add, pk_mul, nI_ltI, nI_eq, if_true, if_false, kont_r, kont_v, Nat.reduceAdd, Nat.reduceMul, Nat.not_lt, not_true_eq_false, not_false_eq_true, Nat.one_ne_zero, Nat.reduceEqDiff, Nat.lt_irrefl, reduceCtorEq, nI_or0, nI_or1, e12, hk, a8, a9, t85]
  -- jobs
  have inn : ∀ k, k < jbs (V 22 0) → ∀ g : Int64, ∀ w, w ≤ 4 → ex X 87 27 [vR 6 0, vL h, vU, vL (itH (fun w => h1 (tjA (V 22 0) (nI k) w).toInt64) w g), vU, vI (nI k), vI (nI w)] [] (gg (nW C) R' L Z) = ex X 87 60 [vR 6 0, vL h, vU, vL (itH (fun w => h1 (tjA (V 22 0) (nI k) w).toInt64) 4 g), vU, vI (nI k), vI (nI 4)] [] (gg (nW C) R' L Z) := by
    intro k hk g
    refine down _ ?_ ?_
    · rw [x87_27]
      simp (disch := first | assumption | omega | exact nI_or0 | exact nI_or1 | exact bN_or _) only [x87_29, x87_30, reduceIte, Nat.reduceLT, nW_ap, nW_up, nI_add, pk_mul, nI_ltI, nI_eq, if_true, if_false, kont_r, kont_v, Nat.reduceAdd, Nat.reduceMul, Nat.not_lt, not_true_eq_false, not_false_eq_true, Nat.one_ne_zero, Nat.reduceEqDiff, Nat.lt_irrefl, reduceCtorEq, nI_or0, nI_or1]
    · intro w hw ih
      have s17 := k17 (X := X) (L := L) (Z := Z) hD pkh hQ hR' (show k < q.length by omega) hw
      have r := (hQ.2.2.1 k (by omega)).1
      have b := (hQ.2.2.1 k (by omega)).2.1
      have k16 : k < 16 := by omega
      have es : itH (fun w => h1 (tjA (V 22 0) (nI k) w).toInt64) (w + 1) g = h1 (tjA (V 22 0) (nI k) w).toInt64 (itH (fun w => h1 (tjA (V 22 0) (nI k) w).toInt64) w g) := rfl
      rw [es] at ih
      rw [← ih, x87_27]
      generalize tjA (V 22 0) (nI k) w = y at s17 ⊢
      simp (disch := first | assumption | omega | exact nI_or0 | exact nI_or1 | exact bN_or _) only [x87_29, x87_30, x87_33, x87_34, x87_35, x87_38, x87_41, x87_43, x87_44, x87_46, x87_49, x87_50, x87_53, x87_54, x87_57, reduceIte, Nat.reduceLT, nW_ap, nW_up, nI_add, pk_mul, nI_ltI, nI_eq, if_true, if_false, kont_r, kont_v, Nat.reduceAdd, Nat.reduceMul, Nat.not_lt, not_true_eq_false, not_false_eq_true, Nat.one_ne_zero, Nat.reduceEqDiff, Nat.lt_irrefl, reduceCtorEq, nI_or0, nI_or1, hw, r, s17, t85]
  have p1 : ∀ k, k ≤ jbs (V 22 0) → ∀ l6 : AV, ∃ l6' : AV, ex X 87 12 [vR 6 0, vL h, vU, vL (itH (hJ (V 22 0)) k h), vU, vI (nI k), l6] [] (gg (nW C) R' L Z) = ex X 87 69 [vR 6 0, vL h, vU, vL (c4 (V 22 0) h), vU, vI (nI 0), l6'] [] (gg (nW C) R' L Z) := by
    refine down _ ?_ ?_
    · intro l6
      refine ⟨l6, ?_⟩
      unfold c4
      rw [x87_12]
      simp (disch := first | assumption | omega | exact nI_or0 | exact nI_or1 | exact bN_or _) only [x87_14, x87_15, x87_18, x87_21, x87_66, x87_67, reduceIte, Nat.reduceLT, nW_ap, nW_up, nI_add, pk_mul, nI_ltI, nI_eq, if_true, if_false, kont_r, kont_v, Nat.reduceAdd, Nat.reduceMul, Nat.not_lt, not_true_eq_false, not_false_eq_true, Nat.one_ne_zero, Nat.reduceEqDiff, Nat.lt_irrefl, reduceCtorEq, nI_or0, nI_or1, e56, Nat.lt_irrefl]
    · intro k hk ih l6
      obtain ⟨l6', ih⟩ := ih (vI (nI 4))
      refine ⟨l6', ?_⟩
      have es : itH (hJ (V 22 0)) (k + 1) h = itH (fun w => h1 (tjA (V 22 0) (nI k) w).toInt64) 4 (itH (hJ (V 22 0)) k h) := rfl
      rw [es] at ih
      have i0 := inn k hk (itH (hJ (V 22 0)) k h) 0 (Nat.zero_le _)
      have i0 : ex X 87 27 [vR 6 0, vL h, vU, vL (itH (hJ (V 22 0)) k h), vU, vI (nI k), vI (nI 0)] [] (gg (nW C) R' L Z) = _ := i0
      have k31 : k < 2 ^ 31 := by omega
      have j31 : jbs (V 22 0) < 2 ^ 31 := by omega
      rw [← ih, x87_12]
      have st : ∀ g : Int64, ex X 87 60 [vR 6 0, vL h, vU, vL g, vU, vI (nI k), vI (nI 4)] [] (gg (nW C) R' L Z) = ex X 87 12 [vR 6 0, vL h, vU, vL g, vU, vI (nI (k + 1)), vI (nI 4)] [] (gg (nW C) R' L Z) := fun g => by
        simp (disch := first | assumption | omega | exact nI_or0 | exact nI_or1 | exact bN_or _) only [x87_60, x87_63, reduceIte, Nat.reduceLT, nW_ap, nW_up, nI_add, pk_mul, nI_ltI, nI_eq, if_true, if_false, kont_r, kont_v, Nat.reduceAdd, Nat.reduceMul, Nat.not_lt, not_true_eq_false, not_false_eq_true, Nat.one_ne_zero, Nat.reduceEqDiff, Nat.lt_irrefl, reduceCtorEq, nI_or0, nI_or1]
      rw [← st, ← i0]
      simp (disch := first | assumption | omega | exact nI_or0 | exact nI_or1 | exact bN_or _) only [x87_14, x87_15, x87_18, x87_21, x87_24, x87_25, reduceIte, Nat.reduceLT, nW_ap, nW_up, nI_add, pk_mul, nI_ltI, nI_eq, if_true, if_false, kont_r, kont_v, Nat.reduceAdd, Nat.reduceMul, Nat.not_lt, not_true_eq_false, not_false_eq_true, Nat.one_ne_zero, Nat.reduceEqDiff, Nat.lt_irrefl, reduceCtorEq, nI_or0, nI_or1, e56, hk]
  obtain ⟨l6, r1⟩ := p1 0 (Nat.zero_le _) vU
  rw [itH_0] at r1
  have r2 := p2 (c4 (V 22 0) h) 0 (Nat.zero_le _) l6
  rw [Nat.mul_zero, itH_0] at r2
  have r3 := p3 (c5 (V 22 0) (c4 (V 22 0) h)) 0 (Nat.zero_le _) l6
  rw [itH_0] at r3
  simp (disch := first | assumption | omega | exact nI_or0 | exact nI_or1 | exact bN_or _) only [in87, x87_0, x87_1, x87_2, x87_3, x87_6, x87_9, x87_10, reduceIte, Nat.reduceLT, nW_ap, nW_up, nI_add, pk_mul, nI_ltI, nI_eq, if_true, if_false, kont_r, kont_v, Nat.reduceAdd, Nat.reduceMul, Nat.not_lt, not_true_eq_false, not_false_eq_true, Nat.one_ne_zero, Nat.reduceEqDiff, Nat.lt_irrefl, reduceCtorEq, nI_or0, nI_or1, s37]
  rw [r1, r2, r3]
  rfl
/-- the digest of the class -/
theorem c73 {X : XS} {N : GV} {R : GR} {L : GL} {Z : Nat × Nat × Bool} (hR : Rok R) (hI : INV N R) : ∃ C W R' L', exec X 73 [vR 6 0] (gg (nW N) R L Z) = some (.inl (some (vL (digV N))), gg (nW C) R' L Z) ∧ exec X 173 [vR 7 0] (gg (nW C) R' L Z) = some (.inl (some (vL (digV N))), gg (nW W) R' L' Z) ∧ INV W R' := by
  have h5 := hI.2.2.2.1.2.1
  obtain ⟨v1, v2, v3, v4, v5, v6⟩ := id hI.2.2.2.1
  have n0 := OUT.nn hI
  have g9 : N 22 0 9 < 2 ^ 28 := by omega
  have hT4 := hI.2.2.2.2.1.2.1
  -- the end: the text
  have e10 : ∀ (M : GV) (R1 : GR) (g : Int64), OUT N N (N 7 0 4) (sst N) M R1 → ∀ k, k ≤ N 7 0 6 → ex X 73 173 [vR 6 0, vL (itH (fun k => h1 (nI (N 25 0 k)).toInt64) k g), vU, vI (nI k)] [] (gg (nW M) R1 L Z) = some (.inl (some (vL (itH (fun k => h1 (nI (N 25 0 k)).toInt64) (N 7 0 6) g))), gg (nW M) R1 L Z) := by
    intro M R1 g hO
    have hR1 := hO.1
    have ke := hO.2.2.2.2
    obtain ⟨⟨b60, _⟩, b1, b2⟩ := hI.bu
    have m31 : M 3 0 1 = N 7 0 6 := by rw [ke _ _ _ (by omega)]; exact b1
    refine down _ ?_ ?_
    · rw [x73_173]
      simp (disch := first | assumption | omega | exact nI_or0 | exact nI_or1 | exact bN_or _) only [x73_174, x73_175, x73_178, x73_181, x73_205, x73_206, reduceIte, Nat.reduceLT, nW_ap, nW_up, nI_add, pk_mul, nI_ltI, nI_eq, if_true, if_false, kont_r, kont_v, Nat.reduceAdd, Nat.reduceMul, Nat.not_lt, not_true_eq_false, not_false_eq_true, Nat.one_ne_zero, Nat.reduceEqDiff, Nat.lt_irrefl, reduceCtorEq, nI_or0, nI_or1, m31, Nat.lt_irrefl]
    · intro k hk ih
      have m10 : M 10 0 k = N 25 0 k := by rw [ke _ _ _ (by omega)]; exact b2 k hk
      rw [itH_s] at ih
      have k60 : k < 60 := by omega
      rw [← ih, x73_173]
      simp (disch := first | assumption | omega | exact nI_or0 | exact nI_or1 | exact bN_or _) only [x73_174, x73_175, x73_178, x73_181, x73_184, x73_185, x73_186, x73_189, x73_192, x73_193, x73_194, x73_195, x73_198, x73_199, x73_202, reduceIte, Nat.reduceLT, nW_ap, nW_up, nI_add, pk_mul, nI_ltI, nI_eq, if_true, if_false, kont_r, kont_v, Nat.reduceAdd, Nat.reduceMul, Nat.not_lt, not_true_eq_false, not_false_eq_true, Nat.one_ne_zero, Nat.reduceEqDiff, Nat.lt_irrefl, reduceCtorEq, nI_or0, nI_or1, m31, hk, m10, t85]
  have e9 : ∀ (M : GV) (R1 : GR) (g : Int64) (l3 : AV), OUT N N (N 7 0 4) (sst N) M R1 → ∃ C R', ex X 73 122 [vR 6 0, vL g, vU, l3] [] (gg (nW M) R1 L Z) = some (.inl (some (vL (c10 N (c9 (N 22 0) g)))), gg (nW C) R' L Z) ∧ OUT N N (N 7 0 4) (sst N) C R' := by
    intro M R1 g l3 hO
    obtain ⟨M1, R2, s1, f1, r1, j1, b1⟩ := k69 (X := X) (N := M) (R := R1) (L := L) (Z := Z) (c := 30) hO.1 hI.2.2.2.1 hO.2.2.1 hO.2.1 hO.2.2.1.1.2.2.2.2.2 (by omega)
    have o1 := hO.cmp (OUT.tr v1 hO.2.2.1 hO.2.2.2.1 f1 r1 j1 b1)
    obtain ⟨M2, R3, s2, f2, r2, j2, b2⟩ := k71 (X := X) (N := M1) (R := R2) (L := L) (Z := Z) (n := 7) o1.1 hI.2.2.2.1 o1.2.2.1 o1.2.1 o1.2.2.1.1.2.2.2.2.2 (by omega)
    have o2 := o1.cmp (OUT.tr v1 o1.2.2.1 o1.2.2.2.1 f2 r2 j2 b2)
    have s3 := k72 (X := X) (N := M2) (R := R3) (L := L) (Z := Z) o2.1 o2.2.2.1 v4 g9
    have s4 : exec X 88 [vD (fedV (N 22 0))] (gg (nW M2) R3 L Z) = _ := t88 v4 g9
    have m31 : M2 3 0 1 = N 7 0 6 := by rw [o2.2.2.2.2 _ _ _ (by omega)]; exact hI.bu.2.1
    have fin := e10 M2 R3 (h1 (nI (N 7 0 6)).toInt64 (c9 (N 22 0) g)) o2 0 (Nat.zero_le _)
    rw [itH_0] at fin
    have hR1 := hO.1
    have hR2 := o1.1
    have hR3 := o2.1
    refine ⟨M2, R3, ?_, o2⟩
    unfold c10
    rw [← fin]
    unfold c9
    generalize (fedV (N 22 0)).toInt64 = u at s4 ⊢
    generalize fedV (N 22 0) = w at s3 s4
    generalize ordV (N 22 0) 7 = x at s2 ⊢
    generalize gatV (N 22 0) 30 = y at s1 ⊢
    simp (disch := first | assumption | omega | exact nI_or0 | exact nI_or1 | exact bN_or _) only [x73_122, x73_123, x73_124, x73_126, x73_129, x73_130, x73_133, x73_134, x73_135, x73_136, x73_138, x73_141, x73_142, x73_145, x73_146, x73_147, x73_148, x73_151, x73_154, x73_157, x73_158, x73_159, x73_160, x73_163, x73_166, x73_167, x73_170, x73_171, x73_172, reduceIte, Nat.reduceLT, nW_ap, nW_up, nI_add, pk_mul, nI_ltI, nI_eq, if_true, if_false, kont_r, kont_v, Nat.reduceAdd, Nat.reduceMul, Nat.not_lt, not_true_eq_false, not_false_eq_true, Nat.one_ne_zero, Nat.reduceEqDiff, Nat.lt_irrefl, reduceCtorEq, nI_or0, nI_or1, s1, s2, s3, s4, t85, m31]
  have e8 : ∀ k, k ≤ 8 → ∀ (M : GV) (R1 : GR) (g : Int64), OUT N N (N 7 0 4) (sst N) M R1 → ∃ C R', ex X 73 97 [vR 6 0, vL (itH (fun q => h1 (moreV (N 22 0) 20 q).toInt64) k g), vU, vI (nI k)] [] (gg (nW M) R1 L Z) = some (.inl (some (vL (c10 N (c9 (N 22 0) (c8 (N 22 0) g))))), gg (nW C) R' L Z) ∧ OUT N N (N 7 0 4) (sst N) C R' := by
    refine down _ ?_ ?_
    · intro M R1 g hO
      obtain ⟨C, R', s, o⟩ := e9 M R1 (c8 (N 22 0) g) (vI (nI 8)) hO
      refine ⟨C, R', ?_, o⟩
      rw [← s, x73_97]
      unfold c8
      simp (disch := first | assumption | omega | exact nI_or0 | exact nI_or1 | exact bN_or _) only [x73_98, x73_100, reduceIte, Nat.reduceLT, nW_ap, nW_up, nI_add, pk_mul, nI_ltI, nI_eq, if_true, if_false, kont_r, kont_v, Nat.reduceAdd, Nat.reduceMul, Nat.not_lt, not_true_eq_false, not_false_eq_true, Nat.one_ne_zero, Nat.reduceEqDiff, Nat.lt_irrefl, reduceCtorEq, nI_or0, nI_or1]
    · intro k hk ih M R1 g hO
      obtain ⟨M1, R2, s1, f1, r1, j1, b1⟩ := k68 (X := X) (N := M) (R := R1) (L := L) (Z := Z) (c := 20) (g := k) hO.1 v1 hO.2.2.1 hO.2.1 v2 v3 (by omega) hk
      have o1 := hO.cmp (OUT.tr v1 hO.2.2.1 hO.2.2.2.1 f1 r1 j1 b1)
      obtain ⟨C, R', s, o⟩ := ih M1 R2 g o1
      refine ⟨C, R', ?_, o⟩
      rw [itH_s] at s
      rw [← s, x73_97]
      generalize moreV (N 22 0) 20 k = y at s1 ⊢
      simp (disch := first | assumption | omega | exact nI_or0 | exact nI_or1 | exact bN_or _) only [x73_98, x73_100, x73_103, x73_104, x73_105, x73_107, x73_108, x73_111, x73_112, x73_115, x73_116, x73_119, reduceIte, Nat.reduceLT, nW_ap, nW_up, nI_add, pk_mul, nI_ltI, nI_eq, if_true, if_false, kont_r, kont_v, Nat.reduceAdd, Nat.reduceMul, Nat.not_lt, not_true_eq_false, not_false_eq_true, Nat.one_ne_zero, Nat.reduceEqDiff, Nat.lt_irrefl, reduceCtorEq, nI_or0, nI_or1, hk, s1, t85]
  have e7 : ∀ k, k ≤ 4 → ∀ (M : GV) (R1 : GR) (g : Int64), OUT N N (N 7 0 4) (sst N) M R1 → ∃ C R', ex X 73 71 [vR 6 0, vL (itH (fun w => h1 (pasV (N 22 0) 10 w).toInt64) k g), vU, vI (nI k)] [] (gg (nW M) R1 L Z) = some (.inl (some (vL (c10 N (c9 (N 22 0) (c8 (N 22 0) (c7 (N 22 0) g)))))), gg (nW C) R' L Z) ∧ OUT N N (N 7 0 4) (sst N) C R' := by
    refine down _ ?_ ?_
    · intro M R1 g hO
      obtain ⟨C, R', s, o⟩ := e8 0 (by omega) M R1 (c7 (N 22 0) g) hO
      rw [itH_0] at s
      refine ⟨C, R', ?_, o⟩
      rw [← s, x73_71]
      unfold c7
      simp (disch := first | assumption | omega | exact nI_or0 | exact nI_or1 | exact bN_or _) only [x73_72, x73_73, x73_95, x73_96, reduceIte, Nat.reduceLT, nW_ap, nW_up, nI_add, pk_mul, nI_ltI, nI_eq, if_true, if_false, kont_r, kont_v, Nat.reduceAdd, Nat.reduceMul, Nat.not_lt, not_true_eq_false, not_false_eq_true, Nat.one_ne_zero, Nat.reduceEqDiff, Nat.lt_irrefl, reduceCtorEq, nI_or0, nI_or1]
    · intro k hk ih M R1 g hO
      obtain ⟨M1, R2, s1, f1, r1, j1, b1⟩ := k67 (X := X) (N := M) (R := R1) (L := L) (Z := Z) (n := 10) (w := k) hO.1 v1 hO.2.2.1 hO.2.1 v2 (by omega) hk
      have o1 := hO.cmp (OUT.tr v1 hO.2.2.1 hO.2.2.2.1 f1 r1 j1 b1)
      obtain ⟨C, R', s, o⟩ := ih M1 R2 g o1
      refine ⟨C, R', ?_, o⟩
      rw [itH_s] at s
      rw [← s, x73_71]
      generalize pasV (N 22 0) 10 k = y at s1 ⊢
      simp (disch := first | assumption | omega | exact nI_or0 | exact nI_or1 | exact bN_or _) only [x73_72, x73_73, x73_76, x73_77, x73_78, x73_80, x73_81, x73_84, x73_85, x73_88, x73_89, x73_92, reduceIte, Nat.reduceLT, nW_ap, nW_up, nI_add, pk_mul, nI_ltI, nI_eq, if_true, if_false, kont_r, kont_v, Nat.reduceAdd, Nat.reduceMul, Nat.not_lt, not_true_eq_false, not_false_eq_true, Nat.one_ne_zero, Nat.reduceEqDiff, Nat.lt_irrefl, reduceCtorEq, nI_or0, nI_or1, hk, s1, t85]
  have e2 : ∀ g : Int64, ∃ C R', ex X 73 57 [vR 6 0, vL (c2 (N 22 0) g), vU, vI (nI 5)] [] (gg (nW N) R L Z) = some (.inl (some (vL (c10 N (c9 (N 22 0) (c8 (N 22 0) (c7 (N 22 0) (c6 (N 22 0) (c5 (N 22 0) (c4 (N 22 0) (itH (hP (N 22 0)) 8 (c2 (N 22 0) g))))))))))), gg (nW C) R' L Z) ∧ OUT N N (N 7 0 4) (sst N) C R' := by
    intro g
    obtain ⟨M1, R2, s1, f1, r1, j1, b1⟩ := k86 (X := X) (N := N) (R := R) (L := L) (Z := Z) (h := c2 (N 22 0) g) hR hI.2.2.2.1 n0.2.2.1 n0.2.1
    have o1 := n0.cmp (OUT.tr v1 n0.2.2.1 n0.2.2.2.1 f1 r1 j1 b1)
    obtain ⟨M2, R3, q, s2, hQ, r2⟩ := k87 (X := X) (N := M1) (R := R2) (L := L) (Z := Z) (h := itH (hP (N 22 0)) 8 (c2 (N 22 0) g)) o1.1 hI.2.2.2.1 o1.2.2.1 o1.2.1
    have o2 := o1.cmp (OUT.qu v1.1 o1.2.2.1 o1.2.1 o1.2.2.2.1 hQ r2)
    obtain ⟨C, R', s, o⟩ := e7 0 (by omega) M2 R3 (c6 (N 22 0) (c5 (N 22 0) (c4 (N 22 0) (itH (hP (N 22 0)) 8 (c2 (N 22 0) g))))) o2
    rw [itH_0] at s
    refine ⟨C, R', ?_, o⟩
    have hR2 := o1.1
    have hR3 := o2.1
    rw [← s]
    generalize itH (hP (N 22 0)) 8 (c2 (N 22 0) g) = y1 at s1 s2 ⊢
    generalize c6 (N 22 0) (c5 (N 22 0) (c4 (N 22 0) y1)) = y2 at s2 ⊢
    simp (disch := first | assumption | omega | exact nI_or0 | exact nI_or1 | exact bN_or _) only [x73_57, x73_58, x73_59, x73_62, x73_63, x73_64, x73_65, x73_68, x73_69, x73_70, reduceIte, Nat.reduceLT, nW_ap, nW_up, nI_add, pk_mul, nI_ltI, nI_eq, if_true, if_false, kont_r, kont_v, Nat.reduceAdd, Nat.reduceMul, Nat.not_lt, not_true_eq_false, not_false_eq_true, Nat.one_ne_zero, Nat.reduceEqDiff, Nat.lt_irrefl, reduceCtorEq, nI_or0, nI_or1, s1, s2]
  have e1 : ∀ g : Int64, ∀ k, k ≤ 5 → ex X 73 31 [vR 6 0, vL (itH (fun k => h1 (nI (N 22 0 k)).toInt64) k g), vU, vI (nI k)] [] (gg (nW N) R L Z) = ex X 73 57 [vR 6 0, vL (c2 (N 22 0) g), vU, vI (nI 5)] [] (gg (nW N) R L Z) := by
    intro g
    refine down _ ?_ ?_
    · rw [x73_31]
      unfold c2
      simp (disch := first | assumption | omega | exact nI_or0 | exact nI_or1 | exact bN_or _) only [x73_32, x73_33, reduceIte, Nat.reduceLT, nW_ap, nW_up, nI_add, pk_mul, nI_ltI, nI_eq, if_true, if_false, kont_r, kont_v, Nat.reduceAdd, Nat.reduceMul, Nat.not_lt, not_true_eq_false, not_false_eq_true, Nat.one_ne_zero, Nat.reduceEqDiff, Nat.lt_irrefl, reduceCtorEq, nI_or0, nI_or1]
    · intro k hk ih
      have s := n0.2.2.1.2.1.1 k hk
      rw [itH_s] at ih
      rw [← ih, x73_31]
      simp (disch := first | assumption | omega | exact nI_or0 | exact nI_or1 | exact bN_or _) only [x73_32, x73_33, x73_36, x73_37, x73_38, x73_41, x73_44, x73_45, x73_46, x73_47, x73_50, x73_51, x73_54, reduceIte, Nat.reduceLT, nW_ap, nW_up, nI_add, pk_mul, nI_ltI, nI_eq, if_true, if_false, kont_r, kont_v, Nat.reduceAdd, Nat.reduceMul, Nat.not_lt, not_true_eq_false, not_false_eq_true, Nat.one_ne_zero, Nat.reduceEqDiff, Nat.lt_irrefl, reduceCtorEq, nI_or0, nI_or1, hk, s, t85]
  have e0 : ∀ k, k ≤ 12 → ex X 73 6 [vR 6 0, vL (itH (fun w => h1 (nI (ctV N w)).toInt64) k (lN 2851)), vU, vI (nI k)] [] (gg (nW N) R L Z) = ex X 73 31 [vR 6 0, vL (c1 N (lN 2851)), vU, vI (nI 0)] [] (gg (nW N) R L Z) := by
    refine down _ ?_ ?_
    · rw [x73_6]
      unfold c1
      simp (disch := first | assumption | omega | exact nI_or0 | exact nI_or1 | exact bN_or _) only [x73_7, x73_9, x73_29, x73_30, reduceIte, Nat.reduceLT, nW_ap, nW_up, nI_add, pk_mul, nI_ltI, nI_eq, if_true, if_false, kont_r, kont_v, Nat.reduceAdd, Nat.reduceMul, Nat.not_lt, not_true_eq_false, not_false_eq_true, Nat.one_ne_zero, Nat.reduceEqDiff, Nat.lt_irrefl, reduceCtorEq, nI_or0, nI_or1]
    · intro k hk ih
      have s := k65 (X := X) (N := N) (R := R) (L := L) (Z := Z) (w := k) hR v1.1 n0.2.2.1 n0.2.2.2.1.1 hT4 hk
      rw [itH_s] at ih
      rw [← ih, x73_6]
      generalize ctV N k = y at s ⊢
      simp (disch := first | assumption | omega | exact nI_or0 | exact nI_or1 | exact bN_or _) only [x73_7, x73_9, x73_12, x73_13, x73_14, x73_15, x73_18, x73_19, x73_22, x73_23, x73_26, reduceIte, Nat.reduceLT, nW_ap, nW_up, nI_add, pk_mul, nI_ltI, nI_eq, if_true, if_false, kont_r, kont_v, Nat.reduceAdd, Nat.reduceMul, Nat.not_lt, not_true_eq_false, not_false_eq_true, Nat.one_ne_zero, Nat.reduceEqDiff, Nat.lt_irrefl, reduceCtorEq, nI_or0, nI_or1, hk, s, t85]
  obtain ⟨C, R', s, o⟩ := e2 (c1 N (lN 2851))
  have z0 := e0 0 (by omega)
  rw [itH_0] at z0
  have z1 := e1 (c1 N (lN 2851)) 0 (by omega)
  rw [itH_0] at z1
  have s73 : exec X 73 [vR 6 0] (gg (nW N) R L Z) = some (.inl (some (vL (digV N))), gg (nW C) R' L Z) := by
    unfold digV
    rw [← s, ← z1, ← z0]
    simp (disch := first | assumption | omega | exact nI_or0 | exact nI_or1 | exact bN_or _) only [in73, x73_0, x73_3, x73_4, x73_5, reduceIte, Nat.reduceLT, nW_ap, nW_up, nI_add, pk_mul, nI_ltI, nI_eq, if_true, if_false, kont_r, kont_v, Nat.reduceAdd, Nat.reduceMul, Nat.not_lt, not_true_eq_false, not_false_eq_true, Nat.one_ne_zero, Nat.reduceEqDiff, Nat.lt_irrefl, reduceCtorEq, nI_or0, nI_or1]
  have ke := o.2.2.2.2
  have c22 : C 22 0 = N 22 0 := o.e.1
  have hC : INV C R' := hI.lk o (⟨rfl, rfl, rfl, rfl, rfl, fun _ _ _ _ _ => rfl⟩)
  have ed : digV C = digV N := by
    have e7 : C 7 0 4 = N 7 0 4 := o.e.2.1
    have e25 : C 25 0 = N 25 0 := by funext s; exact ke _ _ _ (by omega)
    have e6 : C 7 0 6 = N 7 0 6 := ke _ _ _ (by omega)
    have ec : ∀ w, ctV C w = ctV N w := fun w => by unfold ctV; rw [c22, e7]
    unfold digV c10 c1
    rw [c22, e25, e6]
    simp only [ec]
  obtain ⟨w1, w2, w3, w4, w5, w6⟩ := id hC.2.2.2.1
  obtain ⟨W, t, e⟩ := t173 (X := X) (N := C) (R := R') (L := L) (Z := Z) (K := 1060) o.1 (w1.1.mo (by omega) (by omega)) w1.2 (by omega) (by omega) hC.2.2.2.2.1.2.1 hC.bu.1 ⟨w4, by omega⟩ (fed_ok w4 (by omega))
  rw [ed] at t
  exact ⟨C, W, R', _, s73, t, hC.se e⟩
/-- the share: class and reference -/
theorem c72 {X : XS} {N : GV} {R : GR} {L : GL} {Z : Nat × Nat × Bool} (hR : Rok R) (hI : INV N R) : exec X 72 [vR 6 0] (gg (nW N) R L Z) = some (.inl (some (vD (fedV (N 22 0)))), (gg (nW N) R L Z)) ∧ exec X 170 [vR 7 0] (gg (nW N) R L Z) = some (.inl (some (vD (fedV (N 22 0)))), (gg (nW (er N 0)) R L Z)) ∧ INV (er N 0) R ∧ okD (fedV (N 22 0)) := by
  obtain ⟨v1, v2, v3, v4, v5, v6⟩ := id hI.2.2.2.1
  have g9 : N 22 0 9 < 2 ^ 28 := by omega
  have ok := fed_ok v4 g9
  exact ⟨k72 hR hI.2.2.1 v4 g9, t170 hR ⟨v4, g9⟩ ok, hI.se SE.er, ok⟩
