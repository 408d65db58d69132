/-! the reference's calls: fountains, frosts, outings, settings -/
def inb (a b : Nat) (v : Int32) : Bool := decide (¬ v < nI a) && decide (¬ nI b < v)
theorem nI_nn {v : Int32} (h : ¬ v < nI 0) : ∃ n, v = nI n ∧ n < 2 ^ 31 := by
  obtain ⟨n, e⟩ := nI_sur v
  subst e
  refine ⟨(nI n).toBitVec.toNat, ?_, ?_⟩
  · apply Int32.toBitVec_inj.1
    show _ = BitVec.ofNat 32 _
    simp
  · have h2 : ¬ (nI n).toBitVec.slt (nI 0).toBitVec = true := h
    rw [BitVec.slt_eq_decide, decide_eq_true_eq] at h2
    have e0 : (nI 0).toBitVec.toInt = 0 := by decide
    rw [e0, BitVec.toInt_eq_toNat_cond] at h2
    have := (nI n).toBitVec.isLt
    split at h2 <;> omega
theorem inb_n {a b : Nat} {v : Int32} (h : inb a b v = true) (hb : b < 2 ^ 28) (ha : a < 2 ^ 28) : ∃ n, v = nI n ∧ a ≤ n ∧ n ≤ b := by
  unfold inb at h
  rw [Bool.and_eq_true, decide_eq_true_eq, decide_eq_true_eq] at h
  obtain ⟨h1, h2⟩ := h
  have h0 : ¬ v < nI 0 := fun q => h1 (Int32.lt_of_lt_of_le q (by
    rw [Int32.le_iff_toInt_le]
    have := pk_sub_toInt (a := a) (b := 0) (by omega) (by omega)
    rw [pk_sub (by omega), Nat.sub_zero] at this
    rw [this]
    show (nI 0).toInt ≤ _
    have e0 : (nI 0).toInt = 0 := by decide
    rw [e0]
    omega))
  obtain ⟨n, e, hn⟩ := nI_nn h0
  subst e
  rw [nI_ltI hn (by omega)] at h1
  rw [nI_ltI (by omega) hn] at h2
  exact ⟨n, rfl, by omega, by omega⟩
theorem inb_t {a b n : Nat} (ha : a < 2 ^ 28) (hn : n < 2 ^ 31) (hb : b < 2 ^ 28) : inb a b (nI n) = decide (a ≤ n ∧ n ≤ b) := by
  unfold inb
  rw [Bool.eq_iff_iff]
  simp only [nI_ltI hn (show a < 2 ^ 31 by omega), nI_ltI (show b < 2 ^ 31 by omega) hn, Bool.and_eq_true, decide_eq_true_eq]
  omega
theorem t91i {X : XS} {I : GI} {R : GR} {L : GL} {Z : Nat × Nat × Bool} {v : Int32} {a b : Nat} : exec X 91 [vI v, vI (nI a), vI (nI b)] (gg I R L Z) = some (.inl (some (vI (nI (bN (inb a b v))))), gg I R L Z) := by
  rw [t91, bI_bN]; rfl
theorem t93i {X : XS} {I : GI} {R : GR} {L : GL} {Z : Nat × Nat × Bool} {v : Int32} : exec X 93 [vI v] (gg I R L Z) = some (.inl (some (vI (nI (bN (inb 0 7 v))))), gg I R L Z) := by
  rw [t93, bI_bN]; rfl
theorem t92i {X : XS} {N : GV} {R : GR} {L : GL} {Z : Nat × Nat × Bool} {c : Nat} : exec X 92 [vR 7 0, vI (nI c)] (gg (nW N) R L Z) = some (.inl (some (vI (nI 0))), (gg (nW (up3 N 7 0 0 c)) R L Z)) := by
  rw [t92, nW_up]
/-- the reference tells that it threw c -/
def er (N : GV) (c : Nat) : GV := up3 N 7 0 0 c
theorem er_er {N : GV} {a b : Nat} : up3 (up3 N 7 0 0 a) 7 0 0 b = er N b := by
  funext k i s
  unfold er up3
  split <;> rfl
theorem er_k {N : GV} {a k i s : Nat} (h : ¬ k = 7) : er N a k i s = N k i s := up3_k _ _ h
theorem er_s {N : GV} {a i s : Nat} (h : ¬ s = 0) : er N a 7 i s = N 7 i s := up3_s _ _ h
theorem er_0 {N : GV} {a : Nat} : er N a 7 0 0 = a := up3_self _ _ _ _ _
def buiN (N : GV) (p fl fi : Nat) (c : Bool) : GV := up3 (up3 (up3 (up3 N 22 0 (13 + 10 * p + 6) 1) 22 0 (13 + 10 * p) fl) 22 0 (13 + 10 * p + 1) fi) 22 0 (13 + 10 * p + 3) (bN c)
def cntF (S : Nat → Nat) : Nat := sumN 8 fun p => S (13 + 10 * p + 6)
theorem t123_1 {X : XS} {N : GV} {R : GR} {L : GL} {Z : Nat × Nat × Bool} (hR : Rok R) {p fl fi : Int32} {c : Int32} (h1 : inb 0 7 p = false) : exec X 123 [vR 7 0, vI p, vI fl, vI fi, vI c] (gg (nW N) R L Z) = some (.inl (some (vI (nI 0))), (gg (nW (er N 1)) R L Z)) := by
  simp (disch := first | assumption | omega | exact nI_or0 | exact nI_or1) only [in123, x123_0, x123_1, x123_2, x123_5, x123_6, x123_9, x123_12, x123_13, x123_14, x123_17, reduceIte, Nat.reduceLT, nW_ap, nW_up, nI_add, pk_mul, nI_ltI, nI_eq, if_true, if_false, kont_r, kont_v, Nat.reduceAdd, Nat.reduceMul, Nat.not_lt, not_true_eq_false, not_false_eq_true, Nat.one_ne_zero, Nat.reduceEqDiff, Nat.lt_irrefl, reduceCtorEq, nI_or0, nI_or1, t93i, t92i, h1, bN, Bool.false_eq_true, er_er]
theorem t123_2 {X : XS} {N : GV} {R : GR} {L : GL} {Z : Nat × Nat × Bool} (hR : Rok R) {p fl fi : Int32} {c : Int32} (h1 : inb 0 7 p = true) (h2 : inb 1 90 fl = true → inb 10 900 fi = false) : exec X 123 [vR 7 0, vI p, vI fl, vI fi, vI c] (gg (nW N) R L Z) = some (.inl (some (vI (nI 0))), (gg (nW (er N 2)) R L Z)) := by
  cases q : inb 1 90 fl with
  | false => simp (disch := first | assumption | omega | exact nI_or0 | exact nI_or1) only [in123, x123_0, x123_1, x123_2, x123_5, x123_6, x123_9, x123_12, x123_13, x123_14, x123_17, x123_18, x123_19, x123_20, x123_22, x123_25, x123_28, x123_29, x123_31, x123_34, x123_37, x123_40, x123_41, x123_42, x123_45, reduceIte, Nat.reduceLT, nW_ap, nW_up, nI_add, pk_mul, nI_ltI, nI_eq, if_true, if_false, kont_r, kont_v, Nat.reduceAdd, Nat.reduceMul, Nat.not_lt, not_true_eq_false, not_false_eq_true, Nat.one_ne_zero, Nat.reduceEqDiff, Nat.lt_irrefl, reduceCtorEq, nI_or0, nI_or1, t91i, t93i, t92i, h1, q, bN, Bool.false_eq_true, er_er]
  | true => simp (disch := first | assumption | omega | exact nI_or0 | exact nI_or1) only [in123, x123_0, x123_1, x123_2, x123_5, x123_6, x123_9, x123_12, x123_13, x123_14, x123_17, x123_18, x123_19, x123_20, x123_22, x123_25, x123_28, x123_29, x123_31, x123_34, x123_37, x123_40, x123_41, x123_42, x123_45, reduceIte, Nat.reduceLT, nW_ap, nW_up, nI_add, pk_mul, nI_ltI, nI_eq, if_true, if_false, kont_r, kont_v, Nat.reduceAdd, Nat.reduceMul, Nat.not_lt, not_true_eq_false, not_false_eq_true, Nat.one_ne_zero, Nat.reduceEqDiff, Nat.lt_irrefl, reduceCtorEq, nI_or0, nI_or1, t91i, t93i, t92i, h1, h2 q, q, bN, Bool.false_eq_true, er_er]
theorem t123_3 {X : XS} {N : GV} {R : GR} {L : GL} {Z : Nat × Nat × Bool} (hR : Rok R) {p : Nat} {fl fi : Int32} {c : Int32} (h1 : p < 8) (h2 : inb 1 90 fl = true) (h3 : inb 10 900 fi = true) (h4 : N 22 0 (13 + 10 * p + 6) = 1) : exec X 123 [vR 7 0, vI (nI p), vI fl, vI fi, vI c] (gg (nW N) R L Z) = some (.inl (some (vI (nI 0))), (gg (nW (er N 3)) R L Z)) := by
  have h0 : inb 0 7 (nI p) = true := by rw [inb_t (by omega) (by omega) (by omega)]; exact decide_eq_true (by omega)
  have e : (up3 N 7 0 0 0) 22 0 (13 + 10 * p + 6) = 1 := by rw [up3_k _ _ (by decide), h4]
  simp (disch := first | assumption | omega | exact nI_or0 | exact nI_or1) only [in123, x123_0, x123_1, x123_2, x123_5, x123_6, x123_9, x123_12, x123_13, x123_14, x123_17, x123_18, x123_19, x123_20, x123_22, x123_25, x123_28, x123_29, x123_31, x123_34, x123_37, x123_40, x123_41, x123_42, x123_45, x123_46, x123_47, x123_48, x123_50, x123_53, x123_54, x123_57, x123_58, x123_59, x123_62, reduceIte, Nat.reduceLT, nW_ap, nW_up, nI_add, pk_mul, nI_ltI, nI_eq, if_true, if_false, kont_r, kont_v, Nat.reduceAdd, Nat.reduceMul, Nat.not_lt, not_true_eq_false, not_false_eq_true, Nat.one_ne_zero, Nat.reduceEqDiff, Nat.lt_irrefl, reduceCtorEq, nI_or0, nI_or1, t91i, t93i, t92i, t97, h0, h2, h3, e, bN, Bool.false_eq_true, er_er]
theorem t123_4 {X : XS} {N : GV} {R : GR} {L : GL} {Z : Nat × Nat × Bool} (hR : Rok R) {K p fl fi : Nat} {c : Bool} (h : DI K N) (hs : N 7 0 4 ≤ 6) (h1 : p < 8) (h2 : 1 ≤ fl ∧ fl ≤ 90) (h3 : 10 ≤ fi ∧ fi ≤ 900) (h4 : ¬ N 22 0 (13 + 10 * p + 6) = 1) : exec X 123 [vR 7 0, vI (nI p), vI (nI fl), vI (nI fi), vI (nI (bN c))] (gg (nW N) R L Z) = some (.inl (some (vI (nI (cntF ((buiN (savN (er N 0)) p fl fi c) 22 0))))), (gg (nW (buiN (savN (er N 0)) p fl fi c)) R L Z)) := by
  have h0 : inb 0 7 (nI p) = true := by rw [inb_t (by omega) (by omega) (by omega)]; exact decide_eq_true (by omega)
  have h2' : inb 1 90 (nI fl) = true := by rw [inb_t (by omega) (by omega) (by omega)]; exact decide_eq_true (by omega)
  have h3' : inb 10 900 (nI fi) = true := by rw [inb_t (by omega) (by omega) (by omega)]; exact decide_eq_true (by omega)
  have b := (h.fo h1).2.2.2.2.2.2
  have e : (up3 N 7 0 0 0) 22 0 (13 + 10 * p + 6) = N 22 0 (13 + 10 * p + 6) := up3_k _ _ (by decide)
  have hs' : (er N 0) 7 0 4 ≤ 6 := by rw [er_s (by decide)]; exact hs
  have sv := t94 (X := X) (N := er N 0) (L := L) (Z := Z) hR hs'
  have ee : up3 N 7 0 0 0 = er N 0 := rfl
  rw [ee] at e
  unfold buiN cntF
  cases c <;> simp (disch := first | assumption | omega | exact nI_or0 | exact nI_or1) only [in123, x123_0, x123_1, x123_2, x123_5, x123_6, x123_9, x123_12, x123_13, x123_14, x123_17, x123_18, x123_19, x123_20, x123_22, x123_25, x123_28, x123_29, x123_31, x123_34, x123_37, x123_40, x123_41, x123_42, x123_45, x123_46, x123_47, x123_48, x123_50, x123_53, x123_54, x123_57, x123_58, x123_59, x123_62, x123_63, x123_64, x123_67, x123_68, x123_69, x123_71, x123_72, x123_75, x123_76, x123_77, x123_78, x123_79, x123_82, x123_83, x123_84, x123_85, x123_86, x123_89, x123_90, x123_91, x123_92, x123_94, x123_97, x123_98, x123_101, x123_102, x123_105, x123_106, x123_109, in123, reduceIte, Nat.reduceLT, nW_ap, nW_up, nI_add, pk_mul, nI_ltI, nI_eq, if_true, if_false, kont_r, kont_v, Nat.reduceAdd, Nat.reduceMul, Nat.not_lt, not_true_eq_false, not_false_eq_true, Nat.one_ne_zero, Nat.reduceEqDiff, Nat.lt_irrefl, reduceCtorEq, nI_or0, nI_or1, t91i, t93i, t92i, t97, t98, t122, sv, ee, Nat.add_zero, h0, h2', h3', e, h4, bN, Bool.false_eq_true, er_er]
