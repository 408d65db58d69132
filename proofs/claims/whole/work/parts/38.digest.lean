/-! the reference's share and digest -/
def fedV (S : Nat → Nat) : UInt64 := if S 9 = 0 then FP.dconst1 else FP.ddiv (FP.i2d (nI (S 9 - S 8))) (FP.i2d (nI (S 9)))
/-- not more thirsty than there were, and not too many -/
def CI (N : GV) : Prop := N 22 0 8 ≤ N 22 0 9 ∧ N 22 0 9 < 2 ^ 28
/-- a double that is a number -/
def okD (x : UInt64) : Prop := n64 x = true ∧ Op.cmpValue (FP.dcmp x x) .l = nI 0
theorem t170 {X : XS} {N : GV} {R : GR} {L : GL} {Z : Nat × Nat × Bool} (hR : Rok R) (hc : CI N) (hd : okD (fedV (N 22 0))) : exec X 170 [vR 7 0] (gg (nW N) R L Z) = some (.inl (some (vD (fedV (N 22 0)))), (gg (nW (er N 0)) R L Z)) := by
  obtain ⟨h8, h9⟩ := hc
  have e : ∀ s, (er N 0) 22 0 s = N 22 0 s := fun s => by rw [er_22]
  unfold fedV at hd ⊢
  by_cases q : N 22 0 9 = 0
  · simp (disch := first | assumption | omega | exact nI_or0 | exact nI_or1 | exact bN_or _) only [in170, x170_0, x170_1, x170_2, x170_5, x170_6, x170_9, x170_11, x170_12, x170_15, x170_16, x170_19, x170_20, x170_23, x170_25, x170_26, x170_27, x170_30, x170_32, x170_33, x170_34, x170_35, x170_36, x170_39, x170_41, x170_42, x170_43, x170_44, in170, reduceIte, Nat.reduceLT, nW_ap, nW_up, nI_add, pk_mul, nI_ltI, nI_eq, if_true, if_false, kont_r, kont_v, Nat.reduceAdd, Nat.reduceMul, Nat.not_lt, not_true_eq_false, not_false_eq_true, Nat.one_ne_zero, Nat.reduceEqDiff, Nat.lt_irrefl, reduceCtorEq, nI_or0, nI_or1, up3_er, e, q]
  · rw [if_neg q] at hd
    obtain ⟨hd, _⟩ := hd
    simp (disch := first | assumption | omega | exact nI_or0 | exact nI_or1 | exact bN_or _) only [in170, x170_0, x170_1, x170_2, x170_5, x170_6, x170_9, x170_11, x170_12, x170_15, x170_16, x170_19, x170_20, x170_23, x170_25, x170_26, x170_27, x170_30, x170_32, x170_33, x170_34, x170_35, x170_36, x170_39, x170_41, x170_42, x170_43, x170_44, in170, reduceIte, Nat.reduceLT, nW_ap, nW_up, nI_add, pk_mul, nI_ltI, nI_eq, if_true, if_false, kont_r, kont_v, Nat.reduceAdd, Nat.reduceMul, Nat.not_lt, not_true_eq_false, not_false_eq_true, Nat.one_ne_zero, Nat.reduceEqDiff, Nat.lt_irrefl, reduceCtorEq, nI_or0, nI_or1, up3_er, e, q, pk_sub]
theorem t199 {X : XS} {I : GI} {R : GR} {L : GL} {Z : Nat × Nat × Bool} {x : UInt64} (h : okD x) : exec X 199 [vD x] (gg I R L Z) = some (.inl (some (vL x.toInt64)), gg I R L Z) := by
  have h2 := h.2
  simp (disch := first | assumption | omega | exact nI_or0 | exact nI_or1 | exact bN_or _) only [in199, x199_0, x199_1, x199_4, x199_7, x199_8, x199_11, x199_12, x199_15, in199, in198, x198_0, x198_1, x198_2, x198_3, x198_6, x198_7, x198_10, x198_11, in198, reduceIte, Nat.reduceLT, nW_ap, nW_up, nI_add, pk_mul, nI_ltI, nI_eq, if_true, if_false, kont_r, kont_v, Nat.reduceAdd, Nat.reduceMul, Nat.not_lt, not_true_eq_false, not_false_eq_true, Nat.one_ne_zero, Nat.reduceEqDiff, Nat.lt_irrefl, reduceCtorEq, nI_or0, nI_or1, h2]
/-- the hash of the reference -/
def LH (L : GL) (h : Int64) : GL := up3 L 7 0 14 h
theorem LH_7 {L : GL} {h : Int64} : LH L h 7 0 14 = h := up3_self _ _ _ _ _
theorem LH_u {L : GL} {h h' : Int64} : up3 (LH L h) 7 0 14 h' = LH L h' := by
  funext k i s
  unfold LH up3
  split <;> rfl
def h1 (v h : Int64) : Int64 := lN 31 * h + v
theorem t171 {X : XS} {I : GI} {R : GR} {L : GL} {Z : Nat × Nat × Bool} {h v : Int64} : exec X 171 [vR 7 0, vL v] (gg I R (LH L h) Z) = some (.inl none, gg I R (LH L (h1 v h)) Z) := by
  simp (disch := first | assumption | omega | exact nI_or0 | exact nI_or1 | exact bN_or _) only [in171, x171_0, x171_1, x171_4, x171_5, x171_8, x171_9, x171_10, x171_11, x171_14, in171, reduceIte, Nat.reduceLT, nW_ap, nW_up, nI_add, pk_mul, nI_ltI, nI_eq, if_true, if_false, kont_r, kont_v, Nat.reduceAdd, Nat.reduceMul, Nat.not_lt, not_true_eq_false, not_false_eq_true, Nat.one_ne_zero, Nat.reduceEqDiff, Nat.lt_irrefl, reduceCtorEq, nI_or0, nI_or1, LH_7, LH_u]
  rfl
def itH (g : Nat → Int64 → Int64) : Nat → Int64 → Int64
  | 0, h => h
  | n + 1, h => g n (itH g n h)
theorem ctV_s {N M : GV} {w : Nat} (e : SS N M) : ctV M w = ctV N w := by
  unfold ctV
  rw [e.1, e.2.2.2.1]
/-- the job of a rank -/
def jobAt (S : Nat → Nat) (x : Int32) : Option Nat := (List.range 16).find? (isR S x)
def tjA (S : Nat → Nat) (x : Int32) (w : Nat) : Int32 := match jobAt S x with
  | some j => nI (tjV S j w)
  | none => -1
theorem t151 {X : XS} {N : GV} {R : GR} {L : GL} {Z : Nat × Nat × Bool} (hR : Rok R) {K w : Nat} (h : DI K N) {x : Int32} (hw : w < 4) : exec X 151 [vR 7 0, vI x, vI (nI w)] (gg (nW N) R L Z) = some (.inl (some (vI (tjA (N 22 0) x w))), (gg (nW N) R L Z)) := by
  unfold tjA
  cases e : jobAt (N 22 0) x with
  | some j =>
    have e' := List.find?_range_eq_some.1 e
    exact t151_s hR h (List.mem_range.1 e'.2.1) hw e'.1 fun i hi => by
      have := e'.2.2 i hi
      simpa using this
  | none =>
    have e' := List.find?_range_eq_none.1 e
    exact t151_n hR h fun i hi => by
      have := e' i hi
      simpa using this
def outAt (S : Nat → Nat) (x : Int32) : Option Nat := (List.range (S 7)).find? fun k => decide (nI (rkO S k) = x)
def toA (S : Nat → Nat) (x : Int32) (w : Nat) : Int32 := match outAt S x with
  | some k => nI (S (153 + 3 * k + w))
  | none => -1
theorem t154 {X : XS} {N : GV} {R : GR} {L : GL} {Z : Nat × Nat × Bool} (hR : Rok R) {K w : Nat} (h : DI K N) {x : Int32} (hw : w < 3) : exec X 154 [vR 7 0, vI x, vI (nI w)] (gg (nW N) R L Z) = some (.inl (some (vI (toA (N 22 0) x w))), (gg (nW N) R L Z)) := by
  unfold toA
  cases e : outAt (N 22 0) x with
  | some j =>
    have e' := List.find?_range_eq_some.1 e
    exact t154_s hR h (List.mem_range.1 e'.2.1) hw (of_decide_eq_true e'.1) fun i hi => by
      have := e'.2.2 i hi
      simpa using this
  | none =>
    have e' := List.find?_range_eq_none.1 e
    exact t154_n hR h fun i hi => by
      have := e' i hi
      simpa using this
/-- the hash of a place, a job, an outing -/
def hP (S : Nat → Nat) (p : Nat) (h : Int64) : Int64 := h1 (untV S p).toInt64 (itH (fun w => h1 (tpI S p w).toInt64) 10 h)
def hJ (S : Nat → Nat) (x : Nat) (h : Int64) : Int64 := itH (fun w => h1 (tjA S (nI x) w).toInt64) 4 h
def hO (S : Nat → Nat) (x : Nat) (h : Int64) : Int64 := itH (fun w => h1 (toA S (nI x) w).toInt64) 3 h
theorem t172 {X : XS} {N : GV} {R : GR} {L : GL} {Z : Nat × Nat × Bool} (hR : Rok R) {K : Nat} (hD : DI K N) (hz : ouZ (N 22 0)) (hn : N 22 0 5 + 61 ≤ K) {h : Int64} : ∃ M, exec X 172 [vR 7 0] (gg (nW N) R (LH L h) Z) = some (.inl none, gg (nW M) R (LH L (itH (hP (N 22 0)) 8 h)) Z) ∧ SS N M := by
  have key : ∀ k, k ≤ 8 → ∀ M, SS N M → ∀ l2 : AV, ∃ M', ex X 172 2 [vR 7 0, vI (nI k), l2] [] (gg (nW M) R (LH L (itH (hP (N 22 0)) k h)) Z) = some (.inl none, gg (nW M') R (LH L (itH (hP (N 22 0)) 8 h)) Z) ∧ SS N M' := by
    refine down _ ?_ ?_
    · intro M hM l2
      refine ⟨M, ?_, hM⟩
      rw [x172_2]
      simp (disch := first | assumption | omega | exact nI_or0 | exact nI_or1 | exact bN_or _) only [x172_3, x172_5, x172_49, reduceIte, Nat.reduceLT, nW_ap, nW_up, nI_add, pk_mul, nI_ltI, nI_eq, if_true, if_false, kont_r, kont_v, Nat.reduceAdd, Nat.reduceMul, Nat.not_lt, not_true_eq_false, not_false_eq_true, Nat.one_ne_zero, Nat.reduceEqDiff, Nat.lt_irrefl, reduceCtorEq, nI_or0, nI_or1]
    · intro k hk ih M hM l2
      have hDM := hM.d hD
      obtain ⟨M1, a1, b1⟩ := t166 (X := X) (N := M) (L := LH L (itH (fun w => h1 (tpI (N 22 0) k w).toInt64) 10 (itH (hP (N 22 0)) k h))) (Z := Z) (p := k) hR hDM (by rw [hM.1]; exact hz) (by rw [hM.1]; exact hn) hk
      rw [hM.1] at a1
      obtain ⟨M', a2, b2⟩ := ih M1 (hM.tr b1) (vI (nI 10))
      refine ⟨M', ?_, b2⟩
      have inner : ∀ w, w ≤ 10 → ex X 172 10 [vR 7 0, vI (nI k), vI (nI w)] [] (gg (nW M) R (LH L (itH (fun w => h1 (tpI (N 22 0) k w).toInt64) w (itH (hP (N 22 0)) k h))) Z) = ex X 172 33 [vR 7 0, vI (nI k), vI (nI 10)] [] (gg (nW M) R (LH L (itH (fun w => h1 (tpI (N 22 0) k w).toInt64) 10 (itH (hP (N 22 0)) k h))) Z) := by
        refine down _ ?_ ?_
        · rw [x172_10]
          simp (disch := first | assumption | omega | exact nI_or0 | exact nI_or1 | exact bN_or _) only [x172_11, x172_13, reduceIte, Nat.reduceLT, nW_ap, nW_up, nI_add, pk_mul, nI_ltI, nI_eq, if_true, if_false, kont_r, kont_v, Nat.reduceAdd, Nat.reduceMul, Nat.not_lt, not_true_eq_false, not_false_eq_true, Nat.one_ne_zero, Nat.reduceEqDiff, Nat.lt_irrefl, reduceCtorEq, nI_or0, nI_or1]
        · intro w hw ih
          have s1 := t148 (X := X) (N := M) (L := LH L (itH (fun w => h1 (tpI (N 22 0) k w).toInt64) w (itH (hP (N 22 0)) k h))) (Z := Z) (p := k) (w := w) hR hDM hk hw
          rw [hM.1] at s1
          rw [← ih, x172_10]
          simp (disch := first | assumption | omega | exact nI_or0 | exact nI_or1 | exact bN_or _) only [x172_11, x172_13, x172_16, x172_17, x172_18, x172_19, x172_20, x172_23, x172_24, x172_27, x172_30, reduceIte, Nat.reduceLT, nW_ap, nW_up, nI_add, pk_mul, nI_ltI, nI_eq, if_true, if_false, kont_r, kont_v, Nat.reduceAdd, Nat.reduceMul, Nat.not_lt, not_true_eq_false, not_false_eq_true, Nat.one_ne_zero, Nat.reduceEqDiff, Nat.lt_irrefl, reduceCtorEq, nI_or0, nI_or1, hw, s1, t171]
          rfl
      have i0 := inner 0 (Nat.zero_le _)
      have i0 : ex X 172 10 [vR 7 0, vI (nI k), vI (nI 0)] [] (gg (nW M) R (LH L (itH (hP (N 22 0)) k h)) Z) = _ := i0
      rw [← a2, x172_2]
      simp (disch := first | assumption | omega | exact nI_or0 | exact nI_or1 | exact bN_or _) only [x172_3, x172_5, x172_8, x172_9, reduceIte, Nat.reduceLT, nW_ap, nW_up, nI_add, pk_mul, nI_ltI, nI_eq, if_true, if_false, kont_r, kont_v, Nat.reduceAdd, Nat.reduceMul, Nat.not_lt, not_true_eq_false, not_false_eq_true, Nat.one_ne_zero, Nat.reduceEqDiff, Nat.lt_irrefl, reduceCtorEq, nI_or0, nI_or1, hk, i0, x172_33, x172_34, x172_35, x172_36, x172_39, x172_40, x172_43, x172_46, a1, t171]
      rfl
  obtain ⟨M', a, b⟩ := key 0 (Nat.zero_le _) N SS.rf vU
  refine ⟨M', ?_, b⟩
  have a : ex X 172 2 [vR 7 0, vI (nI 0), vU] [] (gg (nW N) R (LH L h) Z) = _ := a
  simp (disch := first | assumption | omega | exact nI_or0 | exact nI_or1 | exact bN_or _) only [in172, x172_0, x172_1, reduceIte, Nat.reduceLT, nW_ap, nW_up, nI_add, pk_mul, nI_ltI, nI_eq, if_true, if_false, kont_r, kont_v, Nat.reduceAdd, Nat.reduceMul, Nat.not_lt, not_true_eq_false, not_false_eq_true, Nat.one_ne_zero, Nat.reduceEqDiff, Nat.lt_irrefl, reduceCtorEq, nI_or0, nI_or1, a]
