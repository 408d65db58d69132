/-! the reference's digest, whole -/
/-- a loop of the digest that hashes n values, one after the other -/
def c1 (N : GV) (h : Int64) : Int64 := itH (fun w => h1 (nI (ctV N w)).toInt64) 12 h
def c2 (S : Nat → Nat) (h : Int64) : Int64 := itH (fun k => h1 (nI (S k)).toInt64) 5 h
def jbs (S : Nat → Nat) : Nat := sumN 16 fun k => S (93 + 3 * k)
def c4 (S : Nat → Nat) (h : Int64) : Int64 := itH (hJ S) (jbs S) h
def c5 (S : Nat → Nat) (h : Int64) : Int64 := itH (fun k => h1 (nI (S (141 + k))).toInt64) (2 * S 6) h
def c6 (S : Nat → Nat) (h : Int64) : Int64 := itH (hO S) (S 7) h
def c7 (S : Nat → Nat) (h : Int64) : Int64 := itH (fun w => h1 (pasV S 10 w).toInt64) 4 h
def c8 (S : Nat → Nat) (h : Int64) : Int64 := itH (fun g => h1 (moreV S 20 g).toInt64) 8 h
def c9 (S : Nat → Nat) (h : Int64) : Int64 := h1 (fedV S).toInt64 (h1 (ordV S 7).toInt64 (h1 (nI (gatV S 30)).toInt64 h))
def c10 (N : GV) (h : Int64) : Int64 := itH (fun k => h1 (nI (N 25 0 k)).toInt64) (N 7 0 6) (h1 (nI (N 7 0 6)).toInt64 h)
def digV (N : GV) : Int64 := c10 N (c9 (N 22 0) (c8 (N 22 0) (c7 (N 22 0) (c6 (N 22 0) (c5 (N 22 0) (c4 (N 22 0) (itH (hP (N 22 0)) 8 (c2 (N 22 0) (c1 N (lN 2851))))))))))
theorem d1 {X : XS} {N : GV} {R : GR} {L : GL} {Z : Nat × Nat × Bool} (hR : Rok R) {K : Nat} (hD : DI K N) (hs : N 7 0 4 ≤ 6) {h : Int64} {r : Option RS} (hr : ex X 173 31 [vR 7 0, vI (nI 12), vU] [] (gg (nW N) R (LH L (c1 N h)) Z) = r) : ex X 173 9 [vR 7 0, vI (nI 0), vU] [] (gg (nW N) R (LH L h) Z) = r := by
  have key : ∀ k, k ≤ 12 → ex X 173 9 [vR 7 0, vI (nI k), vU] [] (gg (nW N) R (LH L (itH (fun w => h1 (nI (ctV N w)).toInt64) k h)) Z) = r := by
    refine down _ ?_ ?_
    · rw [x173_9]
      simp (disch := first | assumption | omega | exact nI_or0 | exact nI_or1 | exact bN_or _) only [x173_10, x173_12, reduceIte, Nat.reduceLT, nW_ap, nW_up, nI_add, pk_mul, nI_ltI, nI_eq, if_true, if_false, kont_r, kont_v, Nat.reduceAdd, Nat.reduceMul, Nat.not_lt, not_true_eq_false, not_false_eq_true, Nat.one_ne_zero, Nat.reduceEqDiff, Nat.lt_irrefl, reduceCtorEq, nI_or0, nI_or1]
      exact hr
    · intro k hk ih
      have s1 := t156 (X := X) (N := N) (L := LH L (itH (fun w => h1 (nI (ctV N w)).toInt64) k h)) (Z := Z) (w := k) hR hD hs hk
      rw [← ih, x173_9]
      simp (disch := first | assumption | omega | exact nI_or0 | exact nI_or1 | exact bN_or _) only [x173_10, x173_12, x173_15, x173_16, x173_17, x173_18, x173_21, x173_22, x173_25, x173_28, reduceIte, Nat.reduceLT, nW_ap, nW_up, nI_add, pk_mul, nI_ltI, nI_eq, if_true, if_false, kont_r, kont_v, Nat.reduceAdd, Nat.reduceMul, Nat.not_lt, not_true_eq_false, not_false_eq_true, Nat.one_ne_zero, Nat.reduceEqDiff, Nat.lt_irrefl, reduceCtorEq, nI_or0, nI_or1, hk, s1, t171]
      rfl
  exact key 0 (Nat.zero_le _)
theorem d2 {X : XS} {N : GV} {R : GR} {L : GL} {Z : Nat × Nat × Bool} (hR : Rok R) {h : Int64} {r : Option RS} (hr : ex X 173 55 [vR 7 0, vI (nI 5), vU] [] (gg (nW N) R (LH L (c2 (N 22 0) h)) Z) = r) : ex X 173 33 [vR 7 0, vI (nI 0), vU] [] (gg (nW N) R (LH L h) Z) = r := by
  have key : ∀ k, k ≤ 5 → ex X 173 33 [vR 7 0, vI (nI k), vU] [] (gg (nW N) R (LH L (itH (fun k => h1 (nI (N 22 0 k)).toInt64) k h)) Z) = r := by
    refine down _ ?_ ?_
    · rw [x173_33]
      simp (disch := first | assumption | omega | exact nI_or0 | exact nI_or1 | exact bN_or _) only [x173_34, x173_35, reduceIte, Nat.reduceLT, nW_ap, nW_up, nI_add, pk_mul, nI_ltI, nI_eq, if_true, if_false, kont_r, kont_v, Nat.reduceAdd, Nat.reduceMul, Nat.not_lt, not_true_eq_false, not_false_eq_true, Nat.one_ne_zero, Nat.reduceEqDiff, Nat.lt_irrefl, reduceCtorEq, nI_or0, nI_or1]
      exact hr
    · intro k hk ih
      rw [← ih, x173_33]
      simp (disch := first | assumption | omega | exact nI_or0 | exact nI_or1 | exact bN_or _) only [x173_34, x173_35, x173_38, x173_39, x173_40, x173_43, x173_44, x173_45, x173_46, x173_49, x173_52, reduceIte, Nat.reduceLT, nW_ap, nW_up, nI_add, pk_mul, nI_ltI, nI_eq, if_true, if_false, kont_r, kont_v, Nat.reduceAdd, Nat.reduceMul, Nat.not_lt, not_true_eq_false, not_false_eq_true, Nat.one_ne_zero, Nat.reduceEqDiff, Nat.lt_irrefl, reduceCtorEq, nI_or0, nI_or1, hk, t171]
      rfl
  exact key 0 (Nat.zero_le _)
theorem d4 {X : XS} {N : GV} {R : GR} {L : GL} {Z : Nat × Nat × Bool} (hR : Rok R) {K : Nat} (hD : DI K N) {h : Int64} {P : Option RS → Prop} (hr : ∀ l2 : AV, P (ex X 173 99 [vR 7 0, vI (nI (jbs (N 22 0))), l2] [] (gg (nW N) R (LH L (c4 (N 22 0) h)) Z))) : ∀ l2 : AV, P (ex X 173 61 [vR 7 0, vI (nI 0), l2] [] (gg (nW N) R (LH L h) Z)) := by
  have hj : jbs (N 22 0) ≤ 16 := sumN_le (a := 1) (n := 16) fun j hj => (hD.jo hj).1
  have key : ∀ k, k ≤ jbs (N 22 0) → ∀ l2 : AV, P (ex X 173 61 [vR 7 0, vI (nI k), l2] [] (gg (nW N) R (LH L (itH (hJ (N 22 0)) k h)) Z)) := by
    refine down _ ?_ ?_
    · intro l2
      have hr := hr l2
      have s0 : exec X 107 [vR 7 0] (gg (nW N) R (LH L (itH (hJ (N 22 0)) (jbs (N 22 0)) h)) Z) = some (.inl (some (vI (nI (jbs (N 22 0))))), gg (nW N) R (LH L (itH (hJ (N 22 0)) (jbs (N 22 0)) h)) Z) := t107 hR
      rw [x173_61]
      simp (disch := first | assumption | omega | exact nI_or0 | exact nI_or1 | exact bN_or _) only [x173_62, x173_63, x173_66, reduceIte, Nat.reduceLT, nW_ap, nW_up, nI_add, pk_mul, nI_ltI, nI_eq, if_true, if_false, kont_r, kont_v, Nat.reduceAdd, Nat.reduceMul, Nat.not_lt, not_true_eq_false, not_false_eq_true, Nat.one_ne_zero, Nat.reduceEqDiff, Nat.lt_irrefl, reduceCtorEq, nI_or0, nI_or1, s0]
      exact hr
    · intro k hk ih l2
      have s0 : exec X 107 [vR 7 0] (gg (nW N) R (LH L (itH (hJ (N 22 0)) k h)) Z) = some (.inl (some (vI (nI (jbs (N 22 0))))), gg (nW N) R (LH L (itH (hJ (N 22 0)) k h)) Z) := t107 hR
      generalize hh : itH (hJ (N 22 0)) k h = hk0 at s0
      have inner : ∀ w, w ≤ 4 → ex X 173 71 [vR 7 0, vI (nI k), vI (nI w)] [] (gg (nW N) R (LH L (itH (fun w => h1 (tjA (N 22 0) (nI k) w).toInt64) w hk0)) Z) = ex X 173 93 [vR 7 0, vI (nI k), vI (nI 4)] [] (gg (nW N) R (LH L (itH (fun w => h1 (tjA (N 22 0) (nI k) w).toInt64) 4 hk0)) Z) := by
        refine down _ ?_ ?_
        · rw [x173_71]
          simp (disch := first | assumption | omega | exact nI_or0 | exact nI_or1 | exact bN_or _) only [x173_72, x173_73, reduceIte, Nat.reduceLT, nW_ap, nW_up, nI_add, pk_mul, nI_ltI, nI_eq, if_true, if_false, kont_r, kont_v, Nat.reduceAdd, Nat.reduceMul, Nat.not_lt, not_true_eq_false, not_false_eq_true, Nat.one_ne_zero, Nat.reduceEqDiff, Nat.lt_irrefl, reduceCtorEq, nI_or0, nI_or1]
        · intro w hw ih
          have s1 := t151 (X := X) (N := N) (L := LH L (itH (fun w => h1 (tjA (N 22 0) (nI k) w).toInt64) w hk0)) (Z := Z) (x := nI k) (w := w) hR hD hw
          rw [← ih, x173_71]
          simp (disch := first | assumption | omega | exact nI_or0 | exact nI_or1 | exact bN_or _) only [x173_72, x173_73, x173_76, x173_77, x173_78, x173_79, x173_80, x173_83, x173_84, x173_87, x173_90, reduceIte, Nat.reduceLT, nW_ap, nW_up, nI_add, pk_mul, nI_ltI, nI_eq, if_true, if_false, kont_r, kont_v, Nat.reduceAdd, Nat.reduceMul, Nat.not_lt, not_true_eq_false, not_false_eq_true, Nat.one_ne_zero, Nat.reduceEqDiff, Nat.lt_irrefl, reduceCtorEq, nI_or0, nI_or1, hw, s1, t171]
          rfl
      have i0 := inner 0 (Nat.zero_le _)
      have i0 : ex X 173 71 [vR 7 0, vI (nI k), vI (nI 0)] [] (gg (nW N) R (LH L hk0) Z) = _ := i0
      have ih := ih (vI (nI 4))
      have e : itH (hJ (N 22 0)) (k + 1) h = itH (fun w => h1 (tjA (N 22 0) (nI k) w).toInt64) 4 hk0 := by rw [← hh]; rfl
      rw [e] at ih
      rw [x173_61]
      simp (disch := first | assumption | omega | exact nI_or0 | exact nI_or1 | exact bN_or _) only [x173_62, x173_63, x173_66, x173_69, x173_70, reduceIte, Nat.reduceLT, nW_ap, nW_up, nI_add, pk_mul, nI_ltI, nI_eq, if_true, if_false, kont_r, kont_v, Nat.reduceAdd, Nat.reduceMul, Nat.not_lt, not_true_eq_false, not_false_eq_true, Nat.one_ne_zero, Nat.reduceEqDiff, Nat.lt_irrefl, reduceCtorEq, nI_or0, nI_or1, s0, hk, i0, x173_93, x173_96]
      exact ih
  exact key 0 (Nat.zero_le _)
theorem d5 {X : XS} {N : GV} {R : GR} {L : GL} {Z : Nat × Nat × Bool} (hR : Rok R) {K : Nat} (hD : DI K N) {h : Int64} {l2 : AV} {r : Option RS} (hr : ex X 173 135 [vR 7 0, vI (nI (2 * N 22 0 6)), l2] [] (gg (nW N) R (LH L (c5 (N 22 0) h)) Z) = r) : ex X 173 101 [vR 7 0, vI (nI 0), l2] [] (gg (nW N) R (LH L h) Z) = r := by
  have h6 := hD.h6
  have key : ∀ k, k ≤ 2 * N 22 0 6 → ex X 173 101 [vR 7 0, vI (nI k), l2] [] (gg (nW N) R (LH L (itH (fun k => h1 (nI (N 22 0 (141 + k))).toInt64) k h)) Z) = r := by
    refine down _ ?_ ?_
    · rw [x173_101]
      simp (disch := first | assumption | omega | exact nI_or0 | exact nI_or1 | exact bN_or _) only [x173_102, x173_103, x173_104, x173_107, x173_109, x173_110, x173_111, reduceIte, Nat.reduceLT, nW_ap, nW_up, nI_add, pk_mul, nI_ltI, nI_eq, if_true, if_false, kont_r, kont_v, Nat.reduceAdd, Nat.reduceMul, Nat.not_lt, not_true_eq_false, not_false_eq_true, Nat.one_ne_zero, Nat.reduceEqDiff, Nat.lt_irrefl, reduceCtorEq, nI_or0, nI_or1]
      exact hr
    · intro k hk ih
      rw [← ih, x173_101]
      simp (disch := first | assumption | omega | exact nI_or0 | exact nI_or1 | exact bN_or _) only [x173_102, x173_103, x173_104, x173_107, x173_109, x173_110, x173_111, x173_114, x173_115, x173_116, x173_119, x173_122, x173_123, x173_124, x173_125, x173_126, x173_129, x173_132, reduceIte, Nat.reduceLT, nW_ap, nW_up, nI_add, pk_mul, nI_ltI, nI_eq, if_true, if_false, kont_r, kont_v, Nat.reduceAdd, Nat.reduceMul, Nat.not_lt, not_true_eq_false, not_false_eq_true, Nat.one_ne_zero, Nat.reduceEqDiff, Nat.lt_irrefl, reduceCtorEq, nI_or0, nI_or1, hk, t171]
      rfl
  exact key 0 (Nat.zero_le _)
theorem d6 {X : XS} {N : GV} {R : GR} {L : GL} {Z : Nat × Nat × Bool} (hR : Rok R) {K : Nat} (hD : DI K N) {h : Int64} {P : Option RS → Prop} (hr : ∀ l2 : AV, P (ex X 173 178 [vR 7 0, vI (nI (N 22 0 7)), l2] [] (gg (nW N) R (LH L (c6 (N 22 0) h)) Z))) : ∀ l2 : AV, P (ex X 173 137 [vR 7 0, vI (nI 0), l2] [] (gg (nW N) R (LH L h) Z)) := by
  have h7 := hD.h7
  have key : ∀ k, k ≤ N 22 0 7 → ∀ l2 : AV, P (ex X 173 137 [vR 7 0, vI (nI k), l2] [] (gg (nW N) R (LH L (itH (hO (N 22 0)) k h)) Z)) := by
    refine down _ ?_ ?_
    · intro l2
      have hr := hr l2
      rw [x173_137]
      simp (disch := first | assumption | omega | exact nI_or0 | exact nI_or1 | exact bN_or _) only [x173_138, x173_139, x173_142, x173_144, x173_145, reduceIte, Nat.reduceLT, nW_ap, nW_up, nI_add, pk_mul, nI_ltI, nI_eq, if_true, if_false, kont_r, kont_v, Nat.reduceAdd, Nat.reduceMul, Nat.not_lt, not_true_eq_false, not_false_eq_true, Nat.one_ne_zero, Nat.reduceEqDiff, Nat.lt_irrefl, reduceCtorEq, nI_or0, nI_or1]
      exact hr
    · intro k hk ih l2
      generalize hh : itH (hO (N 22 0)) k h = hk0
      have inner : ∀ w, w ≤ 3 → ex X 173 150 [vR 7 0, vI (nI k), vI (nI w)] [] (gg (nW N) R (LH L (itH (fun w => h1 (toA (N 22 0) (nI k) w).toInt64) w hk0)) Z) = ex X 173 172 [vR 7 0, vI (nI k), vI (nI 3)] [] (gg (nW N) R (LH L (itH (fun w => h1 (toA (N 22 0) (nI k) w).toInt64) 3 hk0)) Z) := by
        refine down _ ?_ ?_
        · rw [x173_150]
          simp (disch := first | assumption | omega | exact nI_or0 | exact nI_or1 | exact bN_or _) only [x173_151, x173_152, reduceIte, Nat.reduceLT, nW_ap, nW_up, nI_add, pk_mul, nI_ltI, nI_eq, if_true, if_false, kont_r, kont_v, Nat.reduceAdd, Nat.reduceMul, Nat.not_lt, not_true_eq_false, not_false_eq_true, Nat.one_ne_zero, Nat.reduceEqDiff, Nat.lt_irrefl, reduceCtorEq, nI_or0, nI_or1]
        · intro w hw ih
          have s1 := t154 (X := X) (N := N) (L := LH L (itH (fun w => h1 (toA (N 22 0) (nI k) w).toInt64) w hk0)) (Z := Z) (x := nI k) (w := w) hR hD hw
          rw [← ih, x173_150]
          simp (disch := first | assumption | omega | exact nI_or0 | exact nI_or1 | exact bN_or _) only [x173_151, x173_152, x173_155, x173_156, x173_157, x173_158, x173_159, x173_162, x173_163, x173_166, x173_169, reduceIte, Nat.reduceLT, nW_ap, nW_up, nI_add, pk_mul, nI_ltI, nI_eq, if_true, if_false, kont_r, kont_v, Nat.reduceAdd, Nat.reduceMul, Nat.not_lt, not_true_eq_false, not_false_eq_true, Nat.one_ne_zero, Nat.reduceEqDiff, Nat.lt_irrefl, reduceCtorEq, nI_or0, nI_or1, hw, s1, t171]
          rfl
      have i0 := inner 0 (Nat.zero_le _)
      have i0 : ex X 173 150 [vR 7 0, vI (nI k), vI (nI 0)] [] (gg (nW N) R (LH L hk0) Z) = _ := i0
      have ih := ih (vI (nI 3))
      have e : itH (hO (N 22 0)) (k + 1) h = itH (fun w => h1 (toA (N 22 0) (nI k) w).toInt64) 3 hk0 := by rw [← hh]; rfl
      rw [e] at ih
      rw [x173_137]
      simp (disch := first | assumption | omega | exact nI_or0 | exact nI_or1 | exact bN_or _) only [x173_138, x173_139, x173_142, x173_144, x173_145, x173_148, x173_149, reduceIte, Nat.reduceLT, nW_ap, nW_up, nI_add, pk_mul, nI_ltI, nI_eq, if_true, if_false, kont_r, kont_v, Nat.reduceAdd, Nat.reduceMul, Nat.not_lt, not_true_eq_false, not_false_eq_true, Nat.one_ne_zero, Nat.reduceEqDiff, Nat.lt_irrefl, reduceCtorEq, nI_or0, nI_or1, hk, i0, x173_172, x173_175]
      exact ih
  exact key 0 (Nat.zero_le _)
theorem d7 {X : XS} {N : GV} {R : GR} {L : GL} {Z : Nat × Nat × Bool} (hR : Rok R) {K : Nat} (hD : DI K N) (hz : ouZ (N 22 0)) (hn : N 22 0 5 + 61 ≤ K) {M0 : GV} (hM0 : SS N M0) {h : Int64} {l2 : AV} {P : Option RS → Prop} (hr : ∀ M, SS N M → P (ex X 173 203 [vR 7 0, vI (nI 4), l2] [] (gg (nW M) R (LH L (c7 (N 22 0) h)) Z))) : P (ex X 173 180 [vR 7 0, vI (nI 0), l2] [] (gg (nW M0) R (LH L h) Z)) := by
  have key : ∀ k, k ≤ 4 → ∀ M, SS N M → P (ex X 173 180 [vR 7 0, vI (nI k), l2] [] (gg (nW M) R (LH L (itH (fun w => h1 (pasV (N 22 0) 10 w).toInt64) k h)) Z)) := by
    refine down _ ?_ ?_
    · intro M hM
      have hr := hr M hM
      rw [x173_180]
      simp (disch := first | assumption | omega | exact nI_or0 | exact nI_or1 | exact bN_or _) only [x173_181, x173_182, reduceIte, Nat.reduceLT, nW_ap, nW_up, nI_add, pk_mul, nI_ltI, nI_eq, if_true, if_false, kont_r, kont_v, Nat.reduceAdd, Nat.reduceMul, Nat.not_lt, not_true_eq_false, not_false_eq_true, Nat.one_ne_zero, Nat.reduceEqDiff, Nat.lt_irrefl, reduceCtorEq, nI_or0, nI_or1]
      exact hr
    · intro k hk ih M hM
      obtain ⟨M1, a1, b1⟩ := t159 (X := X) (N := M) (L := LH L (itH (fun w => h1 (pasV (N 22 0) 10 w).toInt64) k h)) (Z := Z) (n := 10) (w := k) hR (hM.d hD) (by rw [hM.1]; exact hz) (by rw [hM.1]; omega) hk
      rw [hM.1] at a1
      have ih := ih M1 (hM.tr b1)
      rw [x173_180]
      simp (disch := first | assumption | omega | exact nI_or0 | exact nI_or1 | exact bN_or _) only [x173_181, x173_182, x173_185, x173_186, x173_187, x173_189, x173_190, x173_193, x173_194, x173_197, x173_200, reduceIte, Nat.reduceLT, nW_ap, nW_up, nI_add, pk_mul, nI_ltI, nI_eq, if_true, if_false, kont_r, kont_v, Nat.reduceAdd, Nat.reduceMul, Nat.not_lt, not_true_eq_false, not_false_eq_true, Nat.one_ne_zero, Nat.reduceEqDiff, Nat.lt_irrefl, reduceCtorEq, nI_or0, nI_or1, hk, a1, t171]
      exact ih
  exact key 0 (Nat.zero_le _) M0 hM0
theorem d8 {X : XS} {N : GV} {R : GR} {L : GL} {Z : Nat × Nat × Bool} (hR : Rok R) {K : Nat} (hD : DI K N) (hz : ouZ (N 22 0)) (h7 : N 22 0 7 < 17) (hn : N 22 0 5 + 61 ≤ K) {M0 : GV} (hM0 : SS N M0) {h : Int64} {l2 : AV} {P : Option RS → Prop} (hr : ∀ M, SS N M → P (ex X 173 229 [vR 7 0, vI (nI 8), l2] [] (gg (nW M) R (LH L (c8 (N 22 0) h)) Z))) : P (ex X 173 205 [vR 7 0, vI (nI 0), l2] [] (gg (nW M0) R (LH L h) Z)) := by
  have key : ∀ k, k ≤ 8 → ∀ M, SS N M → P (ex X 173 205 [vR 7 0, vI (nI k), l2] [] (gg (nW M) R (LH L (itH (fun g => h1 (moreV (N 22 0) 20 g).toInt64) k h)) Z)) := by
    refine down _ ?_ ?_
    · intro M hM
      have hr := hr M hM
      rw [x173_205]
      simp (disch := first | assumption | omega | exact nI_or0 | exact nI_or1 | exact bN_or _) only [x173_206, x173_208, reduceIte, Nat.reduceLT, nW_ap, nW_up, nI_add, pk_mul, nI_ltI, nI_eq, if_true, if_false, kont_r, kont_v, Nat.reduceAdd, Nat.reduceMul, Nat.not_lt, not_true_eq_false, not_false_eq_true, Nat.one_ne_zero, Nat.reduceEqDiff, Nat.lt_irrefl, reduceCtorEq, nI_or0, nI_or1]
      exact hr
    · intro k hk ih M hM
      obtain ⟨M1, a1, b1⟩ := t161 (X := X) (N := M) (L := LH L (itH (fun g => h1 (moreV (N 22 0) 20 g).toInt64) k h)) (Z := Z) (c := 20) (g := k) hR (hM.d hD) (by rw [hM.1]; exact hz) (by rw [hM.1]; exact h7) (by rw [hM.1]; omega) (by omega) hk
      rw [hM.1] at a1
      have ih := ih M1 (hM.tr b1)
      rw [x173_205]
      simp (disch := first | assumption | omega | exact nI_or0 | exact nI_or1 | exact bN_or _) only [x173_206, x173_208, x173_211, x173_212, x173_213, x173_215, x173_216, x173_219, x173_220, x173_223, x173_226, reduceIte, Nat.reduceLT, nW_ap, nW_up, nI_add, pk_mul, nI_ltI, nI_eq, if_true, if_false, kont_r, kont_v, Nat.reduceAdd, Nat.reduceMul, Nat.not_lt, not_true_eq_false, not_false_eq_true, Nat.one_ne_zero, Nat.reduceEqDiff, Nat.lt_irrefl, reduceCtorEq, nI_or0, nI_or1, hk, a1, t171]
      exact ih
  exact key 0 (Nat.zero_le _) M0 hM0
theorem d10 {X : XS} {N : GV} {R : GR} {L : GL} {Z : Nat × Nat × Bool} (hR : Rok R) (hB : bufW N) {h : Int64} {l2 : AV} {r : Option RS} (hr : ex X 173 298 [vR 7 0, vI (nI (N 7 0 6)), l2] [] (gg (nW N) R (LH L (itH (fun k => h1 (nI (N 25 0 k)).toInt64) (N 7 0 6) h)) Z) = r) : ex X 173 273 [vR 7 0, vI (nI 0), l2] [] (gg (nW N) R (LH L h) Z) = r := by
  have h6 := hB.1
  have key : ∀ k, k ≤ N 7 0 6 → ex X 173 273 [vR 7 0, vI (nI k), l2] [] (gg (nW N) R (LH L (itH (fun k => h1 (nI (N 25 0 k)).toInt64) k h)) Z) = r := by
    refine down _ ?_ ?_
    · rw [x173_273]
      simp (disch := first | assumption | omega | exact nI_or0 | exact nI_or1 | exact bN_or _) only [x173_274, x173_275, x173_278, reduceIte, Nat.reduceLT, nW_ap, nW_up, nI_add, pk_mul, nI_ltI, nI_eq, if_true, if_false, kont_r, kont_v, Nat.reduceAdd, Nat.reduceMul, Nat.not_lt, not_true_eq_false, not_false_eq_true, Nat.one_ne_zero, Nat.reduceEqDiff, Nat.lt_irrefl, reduceCtorEq, nI_or0, nI_or1]
      exact hr
    · intro k hk ih
      rw [← ih, x173_273]
      simp (disch := first | assumption | omega | exact nI_or0 | exact nI_or1 | exact bN_or _) only [x173_274, x173_275, x173_278, x173_281, x173_282, x173_283, x173_286, x173_287, x173_288, x173_289, x173_292, x173_295, reduceIte, Nat.reduceLT, nW_ap, nW_up, nI_add, pk_mul, nI_ltI, nI_eq, if_true, if_false, kont_r, kont_v, Nat.reduceAdd, Nat.reduceMul, Nat.not_lt, not_true_eq_false, not_false_eq_true, Nat.one_ne_zero, Nat.reduceEqDiff, Nat.lt_irrefl, reduceCtorEq, nI_or0, nI_or1, hk, t171]
      rfl
  exact key 0 (Nat.zero_le _)
theorem CI.ss {N M : GV} (h : CI N) (e : SS N M) : CI M := by
  unfold CI
  rw [e.1]
  exact h
theorem t173 {X : XS} {N : GV} {R : GR} {L : GL} {Z : Nat × Nat × Bool} (hR : Rok R) {K : Nat} (hD : DI K N) (hz : ouZ (N 22 0)) (h7 : N 22 0 7 < 17) (hn : N 22 0 5 + 61 ≤ K) (hs : N 7 0 4 ≤ 6) (hB : bufW N) (hc : CI N) (hd : okD (fedV (N 22 0))) : ∃ M, exec X 173 [vR 7 0] (gg (nW N) R L Z) = some (.inl (some (vL (digV N))), gg (nW M) R (LH L (digV N)) Z) ∧ SE N M := by
  have e0 : up3 L 7 0 14 (lN 2851) = LH L (lN 2851) := rfl
  have s0 : exec X 173 [vR 7 0] (gg (nW N) R L Z) = ex X 173 9 [vR 7 0, vI (nI 0), vU] [] (gg (nW N) R (LH L (lN 2851)) Z) := by
    simp (disch := first | assumption | omega | exact nI_or0 | exact nI_or1 | exact bN_or _) only [in173, x173_0, x173_1, x173_4, x173_7, x173_8, reduceIte, Nat.reduceLT, nW_ap, nW_up, nI_add, pk_mul, nI_ltI, nI_eq, if_true, if_false, kont_r, kont_v, Nat.reduceAdd, Nat.reduceMul, Nat.not_lt, not_true_eq_false, not_false_eq_true, Nat.one_ne_zero, Nat.reduceEqDiff, Nat.lt_irrefl, reduceCtorEq, nI_or0, nI_or1, e0]
  rw [s0]
  generalize hr : ex X 173 9 [vR 7 0, vI (nI 0), vU] [] (gg (nW N) R (LH L (lN 2851)) Z) = r
  rw [d1 (r := ex X 173 31 [vR 7 0, vI (nI 12), vU] [] (gg (nW N) R (LH L (c1 N (lN 2851))) Z)) hR hD hs rfl] at hr
  rw [x173_31, x173_32, d2 (r := ex X 173 55 [vR 7 0, vI (nI 5), vU] [] (gg (nW N) R (LH L (c2 (N 22 0) (c1 N (lN 2851)))) Z)) hR rfl] at hr
  obtain ⟨M1, a1, b1⟩ := t172 (X := X) (N := N) (L := L) (Z := Z) (h := c2 (N 22 0) (c1 N (lN 2851))) hR hD hz hn
  have q1 : ex X 173 55 [vR 7 0, vI (nI 5), vU] [] (gg (nW N) R (LH L (c2 (N 22 0) (c1 N (lN 2851)))) Z) = ex X 173 61 [vR 7 0, vI (nI 0), vU] [] (gg (nW M1) R (LH L (itH (hP (N 22 0)) 8 (c2 (N 22 0) (c1 N (lN 2851))))) Z) := by
    simp (disch := first | assumption | omega | exact nI_or0 | exact nI_or1 | exact bN_or _) only [x173_55, x173_56, x173_59, x173_60, a1, kont_v, Nat.reduceAdd]
  rw [q1] at hr
  have hD1 := b1.d hD
  have e1 := b1.1
  unfold digV
  generalize itH (hP (N 22 0)) 8 (c2 (N 22 0) (c1 N (lN 2851))) = g1 at hr
  subst hr
  let D : Int64 := c10 N (c9 (N 22 0) (c8 (N 22 0) (c7 (N 22 0) (c6 (N 22 0) (c5 (N 22 0) (c4 (N 22 0) g1))))))
  show (fun r : Option RS => ∃ M, r = some (.inl (some (vL D)), gg (nW M) R (LH L D) Z) ∧ SE N M) _
  generalize hP : (fun r : Option RS => ∃ M, r = some (.inl (some (vL D)), gg (nW M) R (LH L D) Z) ∧ SE N M) = P
  refine d4 (P := P) hR hD1 (fun l2 => ?_) vU
  rw [x173_99, x173_100, e1, d5 (N := M1) (r := ex X 173 135 [vR 7 0, vI (nI (2 * M1 22 0 6)), l2] [] (gg (nW M1) R (LH L (c5 (M1 22 0) (c4 (N 22 0) g1))) Z)) hR hD1 rfl, e1, x173_135, x173_136]
  refine d6 (P := P) hR hD1 (fun l2 => ?_) l2
  rw [e1, x173_178, x173_179]
  refine d7 (P := P) hR hD hz hn b1 fun M2 b2 => ?_
  rw [x173_203, x173_204]
  refine d8 (P := P) hR hD hz h7 hn b2 fun M3 b3 => ?_
  have hD3 := b3.d hD
  generalize hg : c8 (N 22 0) (c7 (N 22 0) (c6 (N 22 0) (c5 (N 22 0) (c4 (N 22 0) g1)))) = g2
  obtain ⟨M4, a4, b4⟩ := t163 (X := X) (N := M3) (L := LH L g2) (Z := Z) (c := 30) hR hD3 (by rw [b3.1]; exact hz) (by rw [b3.1]; exact h7) (by rw [b3.1]; omega) (by omega)
  have b4 := b3.tr b4
  obtain ⟨M5, a5, b5⟩ := t168 (X := X) (N := M4) (L := LH L (h1 (nI (gatV (N 22 0) 30)).toInt64 g2)) (Z := Z) (n := 7) hR (b4.d hD) (by rw [b4.1]; exact hz) (by rw [b4.1]; omega)
  have b5 := b4.tr b5
  have a6 := t170 (X := X) (N := M5) (L := LH L (h1 (ordV (N 22 0) 7).toInt64 (h1 (nI (gatV (N 22 0) 30)).toInt64 g2))) (Z := Z) hR (hc.ss b5) (by rw [b5.1]; exact hd)
  rw [b3.1] at a4
  rw [b4.1] at a5
  rw [b5.1] at a6
  have b6 : SE N (er M5 0) := b5.se.tr SE.er
  have h6e : (er M5 0) 7 0 6 = N 7 0 6 := b6.2.2.2.2.1
  have h25e : (er M5 0) 25 0 = N 25 0 := b6.2.2.1
  have h6 := hB.1
  have a7 : ∀ {I : GI} {L' : GL}, exec X 199 [vD (fedV (N 22 0))] (gg I R L' Z) = some (.inl (some (vL (fedV (N 22 0)).toInt64)), gg I R L' Z) := t199 hd
  have s2 : ex X 173 229 [vR 7 0, vI (nI 8), l2] [] (gg (nW M3) R (LH L g2) Z) = ex X 173 273 [vR 7 0, vI (nI 0), l2] [] (gg (nW (er M5 0)) R (LH L (h1 (nI (N 7 0 6)).toInt64 (c9 (N 22 0) g2))) Z) := by
    unfold c9
    simp (disch := first | assumption | omega | exact nI_or0 | exact nI_or1 | exact bN_or _) only [x173_229, x173_230, x173_231, x173_233, x173_236, x173_237, x173_240, x173_241, x173_242, x173_244, x173_247, x173_248, x173_251, x173_252, x173_253, x173_256, x173_259, x173_262, x173_263, x173_264, x173_267, x173_268, x173_271, x173_272, reduceIte, Nat.reduceLT, nW_ap, nW_up, nI_add, pk_mul, nI_ltI, nI_eq, if_true, if_false, kont_r, kont_v, Nat.reduceAdd, Nat.reduceMul, Nat.not_lt, not_true_eq_false, not_false_eq_true, Nat.one_ne_zero, Nat.reduceEqDiff, Nat.lt_irrefl, reduceCtorEq, nI_or0, nI_or1, a4, a5, a6, a7, t171, h6e]
  rw [s2]
  rw [d10 (N := er M5 0) (r := ex X 173 298 [vR 7 0, vI (nI ((er M5 0) 7 0 6)), l2] [] (gg (nW (er M5 0)) R (LH L (itH (fun k => h1 (nI ((er M5 0) 25 0 k)).toInt64) ((er M5 0) 7 0 6) (h1 (nI (N 7 0 6)).toInt64 (c9 (N 22 0) g2)))) Z)) hR (hB.ss b6) rfl]
  rw [← hP]
  refine ⟨er M5 0, ?_, b6⟩
  have eD : D = itH (fun k => h1 (nI ((er M5 0) 25 0 k)).toInt64) ((er M5 0) 7 0 6) (h1 (nI (N 7 0 6)).toInt64 (c9 (N 22 0) g2)) := by
    rw [h6e, h25e, ← hg]
    rfl
  rw [← eD]
  simp (disch := first | assumption | omega | exact nI_or0 | exact nI_or1 | exact bN_or _) only [x173_298, x173_299, x173_302, reduceIte, Nat.reduceLT, nW_ap, nW_up, nI_add, pk_mul, nI_ltI, nI_eq, if_true, if_false, kont_r, kont_v, Nat.reduceAdd, Nat.reduceMul, Nat.not_lt, not_true_eq_false, not_false_eq_true, Nat.one_ne_zero, Nat.reduceEqDiff, Nat.lt_irrefl, reduceCtorEq, nI_or0, nI_or1, LH_7]
