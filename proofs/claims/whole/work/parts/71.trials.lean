/-! what would be: class and reference -/
theorem g36 {X : XS} {N : GV} {R : GR} {L : GL} {Z : Nat × Nat × Bool} (hR : Rok R) {P : Nat} {W : GV} (hP : P < 8) (h : PK N P W) : exec X 36 [vR 5 P] (gg (nW N) R L Z) = some (.inl (some (vI (nI (sumN 16 fun k => W 22 0 (93 + 3 * k))))), (gg (nW N) R L Z)) := by
  have s36 := t36 (X := X) (N := N) (R := R) (L := L) (Z := Z) (P := P) hR hP h.1.2.2.2.2.2
  have x36 : sumN 8 (fun p => N 2 (2 * (8 * P + p)) 2 + N 2 (2 * (8 * P + p) + 1) 2) = sumN 16 fun k => W 22 0 (93 + 3 * k) := by
    rw [sum2]
    refine sumN_c fun p hp => ?_
    have a := (h.1.2.1 (2 * p) (by omega)).1
    have b := (h.1.2.1 (2 * p + 1) (by omega)).1
    rw [show 2 * (8 * P + p) = 16 * P + 2 * p by omega, show 16 * P + 2 * p + 1 = 16 * P + (2 * p + 1) by omega, a, b]
  rw [x36] at s36
  exact s36
theorem g35 {X : XS} {N : GV} {R : GR} {L : GL} {Z : Nat × Nat × Bool} (hR : Rok R) {K P : Nat} {W : GV} (hP : P < 8) (hD : DI K W) (h : PK N P W) : exec X 35 [vR 5 P] (gg (nW N) R L Z) = some (.inl (some (vI (nI (sumN 8 fun k => bN (decide (clo (W 22 0) k = 0)))))), (gg (nW N) R L Z)) := by
  have hK := hD.hK
  have h5 := hD.h5
  have e5 := h.2.1.2
  have s35 := t35 (X := X) (N := N) (R := R) (L := L) (Z := Z) (P := P) hR hP h.1.2.2.2.2.2 (h.2.2.1.fb hD) (by omega)
  rw [h.2.2.1.fry e5] at s35
  have x35 : sumN 8 (fun p => bN (decide (cbN N (froB (W 22 0) (W 22 0 5)) (8 * P + p) = 0))) = sumN 8 fun k => bN (decide (clo (W 22 0) k = 0)) := sumN_c fun p hp => by
    rw [h.1.cb hD hp]; rfl
  rw [x35] at s35
  exact s35
theorem daysV {V : GV} {n : Nat} (h : DW V) (hn : V 22 0 5 + n ≤ 1059) : (daysN n V) 22 0 = daysS n (V 22 0) := daysS_e (K := 1059) (h.1.mo (by omega) (by omega)) h.2 hn
theorem thD {V : GV} {n : Nat} (h : DW V) (hn : V 22 0 5 + n ≤ 1059) : V 22 0 8 ≤ (daysS n (V 22 0)) 8 ∧ (daysS n (V 22 0)) 8 ≤ V 22 0 8 + n * (17 * 99) := by
  have a := (days_w (K := 1059) (h.1.mo (by omega) (by omega)) h.2 n hn).2.2.1
  unfold Th at a
  rw [daysV h hn] at a
  omega
theorem k67 {X : XS} {N : GV} {R : GR} {L : GL} {Z : Nat × Nat × Bool} (hR : Rok R) {n w : Nat} {V : GV} (hV : DW V) (hP : PK N 0 V) (hJ : JB N) (h5 : V 22 0 5 ≤ 999) (hn : 1 ≤ n ∧ n ≤ 60) (hw : w < 4) : ∃ N' R', exec X 67 [vR 6 0, vI (nI n), vI (nI w)] (gg (nW N) R L Z) = some (.inl (some (vI (pasV (V 22 0) n w))), gg (nW N') R' L Z) ∧ FrT N N' ∧ FrR R R' ∧ JB N' ∧ SB N' := by
  have i1 : inb 1 60 (nI n) = true := by rw [inb_t (by omega) (by omega) (by omega)]; exact decide_eq_true (by omega)
  have i2 : inb 0 3 (nI w) = true := by rw [inb_t (by omega) (by omega) (by omega)]; exact decide_eq_true (by omega)
  have h1 := hV.1.h1
  have e18 := hP.2.1.1 1 (by omega)
  obtain ⟨C, R', s81, p1, f1, r1, j1⟩ := t81 (X := X) (N := N) (R := R) (L := L) (Z := Z) (n := n) (o := V 22 0 1) hR hV hP hJ (by omega) h1
  rw [up3_id] at p1
  have hR' := r1.1
  have d := hV.days n (by omega)
  have eS := daysV hV (n := n) (by omega)
  have s35 := g35 (X := X) (N := C) (R := R') (L := L) (Z := Z) (P := 1) hR' (by omega) d.1.1 p1
  have s36 := g36 (X := X) (N := C) (R := R') (L := L) (Z := Z) (P := 1) hR' (by omega) p1
  rw [eS] at s35 s36
  have t1 : C 5 1 7 = (daysS n (V 22 0)) 8 := by rw [p1.1.2.2.1.1, eS]
  have t2 : C 5 1 9 = (daysS n (V 22 0)) 10 := by rw [p1.1.2.2.1.2.2.1, eS]
  have u1 : C 5 0 7 = V 22 0 8 := by rw [f1 _ _ _ (by unfold own; omega) (by omega)]; exact hP.1.2.2.1.1
  have u2 : C 5 0 9 = V 22 0 10 := by rw [f1 _ _ _ (by unfold own; omega) (by omega)]; exact hP.1.2.2.1.2.2.1
  have th := (thD hV (n := n) (by omega)).1
  refine ⟨C, R', ?_, f1, r1, j1, p1.1.2.2.2.2.2⟩
  unfold pasV
  rcases (show w = 0 ∨ w = 1 ∨ w = 2 ∨ w = 3 by omega) with e | e | e | e
  · subst e
    simp (disch := first | assumption | omega | exact nI_or0 | exact nI_or1 | exact bN_or _) only [in67, x67_0, x67_1, x67_2, x67_4, x67_7, x67_8, x67_9, x67_10, x67_13, x67_14, x67_15, x67_16, x67_19, x67_22, x67_23, x67_24, x67_27, x67_28_v0, x67_28_v1, x67_28_v2, x67_28_d, x67_56, x67_57, x67_60, x67_63, x67_64, x67_67, x67_70, x67_71, x67_72, x67_73, x67_76, x67_79, x67_80, x67_83, x67_86, x67_87, x67_88, x67_89, x67_92, x67_95, x67_96, x67_97, x67_100, x67_103, in67, reduceIte, Nat.reduceLT, nW_ap, nW_up, nI_add, pk_mul, nI_ltI, nI_eq, if_true, if_false, kont_r, kont_v, Nat.reduceAdd, Nat.reduceMul, Nat.not_lt, not_true_eq_false, not_false_eq_true, Nat.one_ne_zero, Nat.reduceEqDiff, Nat.lt_irrefl, reduceCtorEq, nI_or0, nI_or1, t76_t i1, t76_t i2, e18, s81, t1, u1, pk_sub]
  · subst e
    simp (disch := first | assumption | omega | exact nI_or0 | exact nI_or1 | exact bN_or _) only [in67, x67_0, x67_1, x67_2, x67_4, x67_7, x67_8, x67_9, x67_10, x67_13, x67_14, x67_15, x67_16, x67_19, x67_22, x67_23, x67_24, x67_27, x67_28_v0, x67_28_v1, x67_28_v2, x67_28_d, x67_56, x67_57, x67_60, x67_63, x67_64, x67_67, x67_70, x67_71, x67_72, x67_73, x67_76, x67_79, x67_80, x67_83, x67_86, x67_87, x67_88, x67_89, x67_92, x67_95, x67_96, x67_97, x67_100, x67_103, in67, reduceIte, Nat.reduceLT, nW_ap, nW_up, nI_add, pk_mul, nI_ltI, nI_eq, if_true, if_false, kont_r, kont_v, Nat.reduceAdd, Nat.reduceMul, Nat.not_lt, not_true_eq_false, not_false_eq_true, Nat.one_ne_zero, Nat.reduceEqDiff, Nat.lt_irrefl, reduceCtorEq, nI_or0, nI_or1, t76_t i1, t76_t i2, e18, s81, t2, u2]
  · subst e
    simp (disch := first | assumption | omega | exact nI_or0 | exact nI_or1 | exact bN_or _) only [in67, x67_0, x67_1, x67_2, x67_4, x67_7, x67_8, x67_9, x67_10, x67_13, x67_14, x67_15, x67_16, x67_19, x67_22, x67_23, x67_24, x67_27, x67_28_v0, x67_28_v1, x67_28_v2, x67_28_d, x67_56, x67_57, x67_60, x67_63, x67_64, x67_67, x67_70, x67_71, x67_72, x67_73, x67_76, x67_79, x67_80, x67_83, x67_86, x67_87, x67_88, x67_89, x67_92, x67_95, x67_96, x67_97, x67_100, x67_103, in67, reduceIte, Nat.reduceLT, nW_ap, nW_up, nI_add, pk_mul, nI_ltI, nI_eq, if_true, if_false, kont_r, kont_v, Nat.reduceAdd, Nat.reduceMul, Nat.not_lt, not_true_eq_false, not_false_eq_true, Nat.one_ne_zero, Nat.reduceEqDiff, Nat.lt_irrefl, reduceCtorEq, nI_or0, nI_or1, t76_t i1, t76_t i2, e18, s81, s36]
  · subst e
    have hx : (nI 3).toInt < 0 ∨ 2 < (nI 3).toInt := Or.inr (by decide)
    simp (disch := first | assumption | omega | exact nI_or0 | exact nI_or1 | exact bN_or _) only [in67, x67_0, x67_1, x67_2, x67_4, x67_7, x67_8, x67_9, x67_10, x67_13, x67_14, x67_15, x67_16, x67_19, x67_22, x67_23, x67_24, x67_27, x67_28_v0, x67_28_v1, x67_28_v2, x67_28_d, x67_56, x67_57, x67_60, x67_63, x67_64, x67_67, x67_70, x67_71, x67_72, x67_73, x67_76, x67_79, x67_80, x67_83, x67_86, x67_87, x67_88, x67_89, x67_92, x67_95, x67_96, x67_97, x67_100, x67_103, in67, reduceIte, Nat.reduceLT, nW_ap, nW_up, nI_add, pk_mul, nI_ltI, nI_eq, if_true, if_false, kont_r, kont_v, Nat.reduceAdd, Nat.reduceMul, Nat.not_lt, not_true_eq_false, not_false_eq_true, Nat.one_ne_zero, Nat.reduceEqDiff, Nat.lt_irrefl, reduceCtorEq, nI_or0, nI_or1, t76_t i1, t76_t i2, e18, s81, s35]
theorem SS.z {N M : GV} (h : SS (er N 0) M) : M 7 0 0 = 0 := by
  rw [h.2.2.2.2.2 7 0 0 (by omega) (by omega)]; exact er_0
theorem c193 {X : XS} {N : GV} {R : GR} {L : GL} {Z : Nat × Nat × Bool} (hR : Rok R) {x y : Int32} (hI : INV N R) : RES X 193 160 [vI x, vI y] N R L Z := by
  obtain ⟨_, hJ, hP, hV, hT, _⟩ := id hI
  have h5 := hV.2.1
  cases i1 : inb 1 60 x with
  | false =>
    refine RES.t hI (k := 1) (by omega) (by omega) (w193_1 ?_) (t160_1 hR fun q => by rw [i1] at q; cases q)
    simp (disch := first | assumption | omega | exact nI_or0 | exact nI_or1 | exact bN_or _) only [in67, x67_0, x67_1, x67_2, x67_4, reduceIte, Nat.reduceLT, nW_ap, nW_up, nI_add, pk_mul, nI_ltI, nI_eq, if_true, if_false, kont_r, kont_v, Nat.reduceAdd, Nat.reduceMul, Nat.not_lt, not_true_eq_false, not_false_eq_true, Nat.one_ne_zero, Nat.reduceEqDiff, Nat.lt_irrefl, reduceCtorEq, nI_or0, nI_or1, t76_f i1, kont_t]
  | true =>
    cases i2 : inb 0 3 y with
    | false =>
      refine RES.t hI (k := 1) (by omega) (by omega) (w193_1 ?_) (t160_1 hR fun _ => i2)
      simp (disch := first | assumption | omega | exact nI_or0 | exact nI_or1 | exact bN_or _) only [in67, x67_0, x67_1, x67_2, x67_4, x67_7, x67_8, x67_9, x67_10, reduceIte, Nat.reduceLT, nW_ap, nW_up, nI_add, pk_mul, nI_ltI, nI_eq, if_true, if_false, kont_r, kont_v, Nat.reduceAdd, Nat.reduceMul, Nat.not_lt, not_true_eq_false, not_false_eq_true, Nat.one_ne_zero, Nat.reduceEqDiff, Nat.lt_irrefl, reduceCtorEq, nI_or0, nI_or1, t76_t i1, t76_f i2, kont_t]
    | true =>
      obtain ⟨n, en, n1, n2⟩ := inb_n i1 (by omega) (by omega)
      obtain ⟨w, ew, -, hw⟩ := inb_n i2 (by omega) (by omega)
      subst en ew
      obtain ⟨C, R', s, f, r, j, b⟩ := k67 (X := X) (N := N) (R := R) (L := L) (Z := Z) (n := n) (w := w) hR hV.1 hP hJ h5 ⟨n1, n2⟩ (by omega)
      have hO := OUT.tr hV.1 hP hT f r j b
      obtain ⟨e22, _, _⟩ := hO.e
      obtain ⟨M, t, e⟩ := t160_2 (X := X) (N := C) (R := R') (L := up3 L 30 0 0 (pasV (N 22 0) n w).toInt64) (Z := Z) (K := 1059) (n := n) (w := w) r.1 ((hV.1.1.mo (by omega) (by omega)).e0 e22) (by rw [e22]; exact hV.1.2) ⟨n1, n2⟩ (by rw [e22]; omega) (by omega)
      rw [e22] at t
      exact RES.o (C := C) (hI.lk hO (SE.er.tr e.se)) e.z (w193 s) t
theorem mrV_e {V : GV} {c g : Nat} : (mrV V c g) 22 0 = if c = 0 then V 22 0 else plnS (V 22 0) (V 22 0 5) c g := by
  unfold mrV
  split
  · rfl
  · exact plnS_e
theorem mrV_w {V : GV} {c g : Nat} (h : DW V) (h5 : V 22 0 5 ≤ 999) (h7 : V 22 0 7 ≤ 16) (hc : c ≤ 99) (hg : g < 8) : DW (mrV V c g) ∧ (mrV V c g) 22 0 5 = V 22 0 5 ∧ (mrV V c g) 22 0 8 = V 22 0 8 ∧ (mrV V c g) 22 0 9 = V 22 0 9 := by
  unfold mrV
  split
  · exact ⟨h, rfl, rfl, rfl⟩
  · have e : ∀ s, s < 153 → ¬ s = 7 → (plnN V (V 22 0 5) c g) 22 0 s = V 22 0 s := fun s a b => pl_s (by omega) b
    exact ⟨⟨by rw [e 5 (by omega) (by omega)]; exact h.1.pl (by omega) (by omega) hc (by omega), pln_z h.2⟩, e 5 (by omega) (by omega), e 8 (by omega) (by omega), e 9 (by omega) (by omega)⟩
/-- thirst with one more outing -/
def TT (V : GV) (c g : Nat) : Nat := (dayN (mrV V c g)) 22 0 8
theorem TT_t {V : GV} {c g : Nat} (h : DW V) (h5 : V 22 0 5 ≤ 999) (h7 : V 22 0 7 ≤ 16) (hc : c ≤ 99) (hg : g < 8) : TT V c g = th1 ((mrV V c g) 22 0) + V 22 0 8 ∧ TT V c g ≤ V 22 0 8 + 17 * 99 := by
  obtain ⟨a, b, c', d⟩ := mrV_w h h5 h7 hc hg
  have e : (dayN (mrV V c g)) 22 0 = daysS 1 ((mrV V c g) 22 0) := daysV (V := mrV V c g) (n := 1) a (by omega)
  have t := thD (V := mrV V c g) (n := 1) a (by omega)
  unfold TT th1
  rw [e]
  omega
theorem i32_c (x y z : Int32) : x + z - (y + z) = x - y := by
  apply Int32.toBitVec_inj.1
  simp only [Int32.toBitVec_sub, Int32.toBitVec_add]
  bv_omega
theorem TT_m {V : GV} {c g : Nat} (h : DW V) (h5 : V 22 0 5 ≤ 999) (h7 : V 22 0 7 ≤ 16) (hc : 1 ≤ c ∧ c ≤ 99) (hg : g < 8) : nI (TT V c g) - nI (TT V 0 g) = moreV (V 22 0) c g := by
  rw [(TT_t h h5 h7 hc.2 hg).1, (TT_t h h5 h7 (by omega) hg).1, ← nI_add, ← nI_add, i32_c, mrV_e, mrV_e, if_pos rfl, if_neg (by omega)]
  rfl
theorem k82 {X : XS} {N : GV} {R : GR} {L : GL} {Z : Nat × Nat × Bool} (hR : Rok R) {c g : Nat} {V : GV} (hV : DW V) (hP : PK N 0 V) (hJ : JB N) (h5 : V 22 0 5 ≤ 999) (h7 : V 22 0 7 ≤ 16) (hc : c ≤ 99) (hg : g < 8) : ∃ N' R', exec X 82 [vR 6 0, vI (nI c), vI (nI g)] (gg (nW N) R L Z) = some (.inl (some (vI (nI (TT V c g)))), gg (nW N') R' L Z) ∧ PK N' 0 V ∧ FrT N N' ∧ FrR R R' ∧ JB N' ∧ SB N' := by
  obtain ⟨N', R', s, f, r, j, b⟩ := t82 (X := X) (N := N) (R := R) (L := L) (Z := Z) (c := c) (g := g) hR hV hP hJ h5 h7 hc hg
  exact ⟨N', R', s, hP.sm hV.1 (fun k i s q => f _ _ _ (own_ne q (by omega)) (by unfold own at q; omega)) b, f, r, j, b⟩
theorem k68 {X : XS} {N : GV} {R : GR} {L : GL} {Z : Nat × Nat × Bool} (hR : Rok R) {c g : Nat} {V : GV} (hV : DW V) (hP : PK N 0 V) (hJ : JB N) (h5 : V 22 0 5 ≤ 999) (h7 : V 22 0 7 ≤ 16) (hc : 1 ≤ c ∧ c ≤ 99) (hg : g < 8) : ∃ N' R', exec X 68 [vR 6 0, vI (nI c), vI (nI g)] (gg (nW N) R L Z) = some (.inl (some (vI (moreV (V 22 0) c g))), gg (nW N') R' L Z) ∧ FrT N N' ∧ FrR R R' ∧ JB N' ∧ SB N' := by
  have i1 : inb 1 99 (nI c) = true := by rw [inb_t (by omega) (by omega) (by omega)]; exact decide_eq_true (by omega)
  have i2 : inb 0 7 (nI g) = true := in_8 hg
  obtain ⟨N1, R1, s1, p1, f1, r1, j1, b1⟩ := k82 (X := X) (N := N) (R := R) (L := L) (Z := Z) (c := c) (g := g) hR hV hP hJ h5 h7 hc.2 hg
  obtain ⟨N2, R2, s2, p2, f2, r2, j2, b2⟩ := k82 (X := X) (N := N1) (R := R1) (L := L) (Z := Z) (c := 0) (g := g) r1.1 hV p1 j1 h5 h7 (by omega) hg
  refine ⟨N2, R2, ?_, f1.tr f2, r1.tr r2, j2, b2⟩
  rw [← TT_m hV h5 h7 hc hg]
  simp (disch := first | assumption | omega | exact nI_or0 | exact nI_or1 | exact bN_or _) only [in68, x68_0, x68_1, x68_2, x68_5, x68_6, x68_7, x68_8, x68_11, x68_12, x68_13, x68_14, x68_17, x68_18, in68, reduceIte, Nat.reduceLT, nW_ap, nW_up, nI_add, pk_mul, nI_ltI, nI_eq, if_true, if_false, kont_r, kont_v, Nat.reduceAdd, Nat.reduceMul, Nat.not_lt, not_true_eq_false, not_false_eq_true, Nat.one_ne_zero, Nat.reduceEqDiff, Nat.lt_irrefl, reduceCtorEq, nI_or0, nI_or1, t78_t i1 i2, s1, s2]
theorem c194 {X : XS} {N : GV} {R : GR} {L : GL} {Z : Nat × Nat × Bool} (hR : Rok R) {x y : Int32} (hI : INV N R) : RES X 194 162 [vI x, vI y] N R L Z := by
  obtain ⟨_, hJ, hP, hV, hT, _⟩ := id hI
  have h5 := hV.2.1
  have h7 := hV.2.2.1
  by_cases hh : inb 1 99 x = true ∧ inb 0 7 y = true
  · obtain ⟨i1, i2⟩ := hh
    obtain ⟨c, ec, c1, c2⟩ := inb_n i1 (by omega) (by omega)
    obtain ⟨g, eg, -, hg⟩ := inb_n i2 (by omega) (by omega)
    subst ec eg
    obtain ⟨C, R', s, f, r, j, b⟩ := k68 (X := X) (N := N) (R := R) (L := L) (Z := Z) (c := c) (g := g) hR hV.1 hP hJ h5 h7 ⟨c1, c2⟩ (by omega)
    have hO := OUT.tr hV.1 hP hT f r j b
    obtain ⟨e22, _, _⟩ := hO.e
    obtain ⟨M, t, e⟩ := t162_2 (X := X) (N := C) (R := R') (L := up3 L 30 0 0 (moreV (N 22 0) c g).toInt64) (Z := Z) (K := 1059) (c := c) (g := g) r.1 ((hV.1.1.mo (by omega) (by omega)).e0 e22) (by rw [e22]; exact hV.1.2) (by rw [e22]; omega) (by rw [e22]; omega) ⟨c1, c2⟩ (by omega)
    rw [e22] at t
    exact RES.o (C := C) (hI.lk hO (SE.er.tr e.se)) e.z (w194 s) t
  · have hq : inb 1 99 x = true → inb 0 7 y = false := fun a => by
      cases e : inb 0 7 y with
      | false => rfl
      | true => exact absurd ⟨a, e⟩ hh
    refine RES.t hI (k := 1) (by omega) (by omega) (w194_1 ?_) (t162_1 hR hq)
    simp (disch := first | assumption | omega | exact nI_or0 | exact nI_or1 | exact bN_or _) only [in68, x68_0, x68_1, x68_2, reduceIte, Nat.reduceLT, nW_ap, nW_up, nI_add, pk_mul, nI_ltI, nI_eq, if_true, if_false, kont_r, kont_v, Nat.reduceAdd, Nat.reduceMul, Nat.not_lt, not_true_eq_false, not_false_eq_true, Nat.one_ne_zero, Nat.reduceEqDiff, Nat.lt_irrefl, reduceCtorEq, nI_or0, nI_or1, t78_f hq, kont_t]
theorem gatI_2 {S : Nat → Nat} {c : Nat} : ∀ n, (gatI S c n).2 = moreV S c (gatI S c n).1
  | 0 => rfl
  | n + 1 => by
    unfold gatI
    split
    · rfl
    · exact gatI_2 n
theorem dif_lt {a b t : Nat} (ha : a < 2 ^ 28) (hb : b < 2 ^ 28) (ht : t < 2 ^ 28) : nI a - nI t < nI b - nI t ↔ a < b := by
  rw [Int32.lt_iff_toInt_lt, pk_sub_toInt (by omega) (by omega), pk_sub_toInt (by omega) (by omega)]
  omega
theorem TT_0 {V : GV} {g h : Nat} : TT V 0 g = TT V 0 h := rfl
theorem k69 {X : XS} {N : GV} {R : GR} {L : GL} {Z : Nat × Nat × Bool} (hR : Rok R) {c : Nat} {V : GV} (hV : STV V) (hP : PK N 0 V) (hJ : JB N) (hS : SB N) (hc : 1 ≤ c ∧ c ≤ 99) : ∃ N' R', exec X 69 [vR 6 0, vI (nI c)] (gg (nW N) R L Z) = some (.inl (some (vI (nI (gatV (V 22 0) c)))), gg (nW N') R' L Z) ∧ FrT N N' ∧ FrR R R' ∧ JB N' ∧ SB N' := by
  have i1 : inb 1 99 (nI c) = true := by rw [inb_t (by omega) (by omega) (by omega)]; exact decide_eq_true (by omega)
  obtain ⟨hD, h5, h7, h8, h9, _⟩ := hV
  have tb : ∀ g, g < 8 → TT V c g < 2 ^ 28 := fun g hg => by have := (TT_t hD h5 h7 hc.2 hg).2; omega
  have t0 : TT V 0 0 < 2 ^ 28 := by have := (TT_t hD h5 h7 (show 0 ≤ 99 by omega) (show 0 < 8 by omega)).2; omega
  have mo : ∀ g, g < 8 → moreV (V 22 0) c g = nI (TT V c g) - nI (TT V 0 0) := fun g hg => by rw [← TT_m hD h5 h7 hc hg]; rfl
  have gs : ∀ k, k + 1 < 8 → gatI (V 22 0) c (k + 1) = if TT V c (k + 1) < TT V c (gatI (V 22 0) c k).1 then (k + 1, moreV (V 22 0) c (k + 1)) else gatI (V 22 0) c k := fun k hk => by
    have hb := gatI_b (S := V 22 0) (c := c) k
    show (if moreV (V 22 0) c (k + 1) < (gatI (V 22 0) c k).2 then _ else _) = _
    rw [gatI_2, mo _ hk, mo _ (by omega)]
    simp only [dif_lt (tb _ hk) (tb _ (show (gatI (V 22 0) c k).1 < 8 by omega)) t0]
  have key : ∀ k, k ≤ 7 → ∀ (M : GV) (R1 : GR) (l5 : AV), PK M 0 V → JB M → FrT N M → FrR R R1 → SB M → ∃ N' R', ex X 69 19 [vR 6 0, vI (nI c), vI (nI (gatI (V 22 0) c k).1), vI (nI (TT V c (gatI (V 22 0) c k).1)), vI (nI (k + 1)), l5] [] (gg (nW M) R1 L Z) = some (.inl (some (vI (nI (gatV (V 22 0) c)))), gg (nW N') R' L Z) ∧ FrT N N' ∧ FrR R R' ∧ JB N' ∧ SB N' := by
    refine down _ ?_ ?_
    · intro M R1 l5 a1 a2 a3 a4 a5
      refine ⟨M, R1, ?_, a3, a4, a2, a5⟩
      rw [x69_19]
      simp (disch := first | assumption | omega | exact nI_or0 | exact nI_or1 | exact bN_or _) only [x69_21, x69_23, x69_26, x69_27, x69_28, x69_30, x69_33, x69_35, x69_37, x69_38, x69_41, x69_43, x69_44, x69_46, x69_47, x69_50, x69_53, x69_54, reduceIte, Nat.reduceLT, nW_ap, nW_up, nI_add, pk_mul, nI_ltI, nI_eq, if_true, if_false, kont_r, kont_v, Nat.reduceAdd, Nat.reduceMul, Nat.not_lt, not_true_eq_false, not_false_eq_true, Nat.one_ne_zero, Nat.reduceEqDiff, Nat.lt_irrefl, reduceCtorEq, nI_or0, nI_or1]
      rfl
    · intro k hk ih M R1 l5 a1 a2 a3 a4 a5
      have hb := gatI_b (S := V 22 0) (c := c) k
      have b1 := tb (k + 1) (by omega)
      have b2 := tb (gatI (V 22 0) c k).1 (by omega)
      obtain ⟨N1, R2, s1, p1, f1, r1, j1, c1⟩ := k82 (X := X) (N := M) (R := R1) (L := L) (Z := Z) (c := c) (g := k + 1) a4.1 hD a1 a2 h5 h7 hc.2 (by omega)
      obtain ⟨N', R', b, b'⟩ := ih N1 R2 (vI (nI (TT V c (k + 1)))) p1 j1 (a3.tr f1) (a4.tr r1) c1
      refine ⟨N', R', ?_, b'⟩
      have hk1 : k + 1 < 8 := by omega
      by_cases q : TT V c (k + 1) < TT V c (gatI (V 22 0) c k).1
      · rw [gs k (by omega), if_pos q] at b
        simp only at b
        rw [← b, x69_19]
        generalize TT V c (gatI (V 22 0) c k).1 = u at q b2 ⊢
        generalize TT V c (k + 1) = v at s1 q b1 ⊢
        simp (disch := first | assumption | omega | exact nI_or0 | exact nI_or1 | exact bN_or _) only [x69_21, x69_23, x69_26, x69_27, x69_28, x69_30, x69_33, x69_35, x69_37, x69_38, x69_41, x69_43, x69_44, x69_46, x69_47, x69_50, reduceIte, Nat.reduceLT, nW_ap, nW_up, nI_add, pk_mul, nI_ltI, nI_eq, if_true, if_false, kont_r, kont_v, Nat.reduceAdd, Nat.reduceMul, Nat.not_lt, not_true_eq_false, not_false_eq_true, Nat.one_ne_zero, Nat.reduceEqDiff, Nat.lt_irrefl, reduceCtorEq, nI_or0, nI_or1, hk1, s1, q]
      · rw [gs k (by omega), if_neg q] at b
        rw [← b, x69_19]
        generalize TT V c (gatI (V 22 0) c k).1 = u at q b2 ⊢
        generalize TT V c (k + 1) = v at s1 q b1 ⊢
        simp (disch := first | assumption | omega | exact nI_or0 | exact nI_or1 | exact bN_or _) only [x69_21, x69_23, x69_26, x69_27, x69_28, x69_30, x69_33, x69_35, x69_37, x69_38, x69_41, x69_43, x69_44, x69_46, x69_47, x69_50, reduceIte, Nat.reduceLT, nW_ap, nW_up, nI_add, pk_mul, nI_ltI, nI_eq, if_true, if_false, kont_r, kont_v, Nat.reduceAdd, Nat.reduceMul, Nat.not_lt, not_true_eq_false, not_false_eq_true, Nat.one_ne_zero, Nat.reduceEqDiff, Nat.lt_irrefl, reduceCtorEq, nI_or0, nI_or1, hk1, s1, q]
  obtain ⟨N1, R1, s1, p1, f1, r1, j1, c1⟩ := k82 (X := X) (N := N) (R := R) (L := L) (Z := Z) (c := c) (g := 0) hR hD hP hJ h5 h7 hc.2 (by omega)
  obtain ⟨N', R', b, b'⟩ := key 0 (Nat.zero_le _) N1 R1 vU p1 j1 f1 r1 c1
  have b : ex X 69 19 [vR 6 0, vI (nI c), vI (nI 0), vI (nI (TT V c 0)), vI (nI 1), vU] [] (gg (nW N1) R1 L Z) = _ := b
  refine ⟨N', R', ?_, b'⟩
  rw [← b]
  simp (disch := first | assumption | omega | exact nI_or0 | exact nI_or1 | exact bN_or _) only [in69, x69_0, x69_1, x69_2, x69_4, x69_7, x69_8, x69_9, x69_10, x69_11, x69_12, x69_15, x69_16, x69_17, reduceIte, Nat.reduceLT, nW_ap, nW_up, nI_add, pk_mul, nI_ltI, nI_eq, if_true, if_false, kont_r, kont_v, Nat.reduceAdd, Nat.reduceMul, Nat.not_lt, not_true_eq_false, not_false_eq_true, Nat.one_ne_zero, Nat.reduceEqDiff, Nat.lt_irrefl, reduceCtorEq, nI_or0, nI_or1, t76_t i1, s1]
theorem c195 {X : XS} {N : GV} {R : GR} {L : GL} {Z : Nat × Nat × Bool} (hR : Rok R) {x : Int32} (hI : INV N R) : RES X 195 164 [vI x] N R L Z := by
  obtain ⟨_, hJ, hP, hV, hT, _⟩ := id hI
  have h5 := hV.2.1
  have h7 := hV.2.2.1
  cases i1 : inb 1 99 x with
  | false =>
    refine RES.t hI (k := 1) (by omega) (by omega) (w195_1 ?_) (t164_1 hR i1)
    simp (disch := first | assumption | omega | exact nI_or0 | exact nI_or1 | exact bN_or _) only [in69, x69_0, x69_1, x69_2, x69_4, reduceIte, Nat.reduceLT, nW_ap, nW_up, nI_add, pk_mul, nI_ltI, nI_eq, if_true, if_false, kont_r, kont_v, Nat.reduceAdd, Nat.reduceMul, Nat.not_lt, not_true_eq_false, not_false_eq_true, Nat.one_ne_zero, Nat.reduceEqDiff, Nat.lt_irrefl, reduceCtorEq, nI_or0, nI_or1, t76_f i1, kont_t]
  | true =>
    obtain ⟨c, ec, c1, c2⟩ := inb_n i1 (by omega) (by omega)
    subst ec
    obtain ⟨C, R', s, f, r, j, b⟩ := k69 (X := X) (N := N) (R := R) (L := L) (Z := Z) (c := c) hR hV hP hJ hP.1.2.2.2.2.2 ⟨c1, c2⟩
    have hO := OUT.tr hV.1 hP hT f r j b
    obtain ⟨e22, _, _⟩ := hO.e
    obtain ⟨M, t, e⟩ := t164_2 (X := X) (N := C) (R := R') (L := up3 L 30 0 0 (nI (gatV (N 22 0) c)).toInt64) (Z := Z) (K := 1059) (c := c) r.1 ((hV.1.1.mo (by omega) (by omega)).e0 e22) (by rw [e22]; exact hV.1.2) (by rw [e22]; omega) (by rw [e22]; omega) ⟨c1, c2⟩
    rw [e22] at t
    exact RES.o (C := C) (hI.lk hO (SE.er.tr e.se)) e.z (w195 s) t
theorem c196 {X : XS} {N : GV} {R : GR} {L : GL} {Z : Nat × Nat × Bool} (hR : Rok R) {x : Int32} (hI : INV N R) : RES X 196 167 [vI x] N R L Z := by
  obtain ⟨_, hJ, hP, hV, hT, _⟩ := id hI
  have h5 := hV.2.1
  cases i1 : inb 0 7 x with
  | false =>
    refine RES.t hI (k := 1) (by omega) (by omega) (w196_0 ?_) (t167_1 hR i1)
    simp (disch := first | assumption | omega | exact nI_or0 | exact nI_or1 | exact bN_or _) only [in70, x70_0, x70_1, reduceIte, Nat.reduceLT, nW_ap, nW_up, nI_add, pk_mul, nI_ltI, nI_eq, if_true, if_false, kont_r, kont_v, Nat.reduceAdd, Nat.reduceMul, Nat.not_lt, not_true_eq_false, not_false_eq_true, Nat.one_ne_zero, Nat.reduceEqDiff, Nat.lt_irrefl, reduceCtorEq, nI_or0, nI_or1, t74_f i1, kont_t]
  | true =>
    obtain ⟨p, ep, -, hp⟩ := inb_n i1 (by omega) (by omega)
    subst ep
    have hp8 : p < 8 := by omega
    obtain ⟨C, R', s83, v, f, r, j, b⟩ := t83 (X := X) (N := N) (R := R) (L := L) (Z := Z) hR hV.1 hP hJ h5
    have hO := OUT.tr hV.1 hP hT f r j b
    obtain ⟨e22, _, _⟩ := hO.e
    obtain ⟨M, t, e⟩ := t167_2 (X := X) (N := C) (R := R') (L := up3 L 30 0 0 (untV (N 22 0) p).toInt64) (Z := Z) (K := 1060) (p := p) r.1 ((hV.1.1.mo (by omega) (by omega)).e0 e22) (by rw [e22]; exact hV.1.2) (by rw [e22]; omega) hp8
    rw [e22] at t
    refine RES.o (C := C) (hI.lk hO (SE.er.tr e.se)) e.z (w196 ?_) t
    have hv : nI (C 21 0 p) = untV (N 22 0) p := by rw [v p hp8, oE_I, unt_f hV.1 h5 hp8]
    have hR' := r.1
    simp (disch := first | assumption | omega | exact nI_or0 | exact nI_or1 | exact bN_or _) only [in70, x70_0, x70_1, x70_4, x70_5, x70_8, x70_9, x70_12, x70_13, x70_14, in70, reduceIte, Nat.reduceLT, nW_ap, nW_up, nI_add, pk_mul, nI_ltI, nI_eq, if_true, if_false, kont_r, kont_v, Nat.reduceAdd, Nat.reduceMul, Nat.not_lt, not_true_eq_false, not_false_eq_true, Nat.one_ne_zero, Nat.reduceEqDiff, Nat.lt_irrefl, reduceCtorEq, nI_or0, nI_or1, t74_t i1, s83, hv]
/-- the best order -/
def O8 (V : GV) (n o : Nat) : Nat := (daysS n (ordS (V 22 0) o)) 8
def Oo (V : GV) (n o : Nat) : Nat := sumN 8 fun k => bN (decide (clo (daysS n (ordS (V 22 0) o)) k = 0))
theorem Oo_b {V : GV} {n o : Nat} : Oo V n o ≤ 8 := sumN_le (a := 1) (n := 8) fun j _ => bN_le _
theorem k81 {X : XS} {N : GV} {R : GR} {L : GL} {Z : Nat × Nat × Bool} (hR : Rok R) {n o : Nat} {V : GV} (hV : DW V) (hP : PK N 0 V) (hJ : JB N) (h5 : V 22 0 5 ≤ 999) (hn : n ≤ 60) (ho : o ≤ 2) : ∃ N' R', exec X 81 [vR 6 0, vI (nI n), vI (nI o)] (gg (nW N) R L Z) = some (.inl none, gg (nW N') R' L Z) ∧ exec X 35 [vR 5 1] (gg (nW N') R' L Z) = some (.inl (some (vI (nI (Oo V n o)))), gg (nW N') R' L Z) ∧ N' 5 1 7 = O8 V n o ∧ PK N' 0 V ∧ FrT N N' ∧ FrR R R' ∧ JB N' ∧ SB N' := by
  obtain ⟨C, R', s81, p1, f1, r1, j1⟩ := t81 (X := X) (N := N) (R := R) (L := L) (Z := Z) (n := n) (o := o) hR hV hP hJ (by omega) ho
  have hW := hV.or ho
  have e5 : (up3 V 22 0 1 o) 22 0 5 = V 22 0 5 := u_ne (by omega)
  have d := hW.days n (by omega)
  have eS := daysV hW (n := n) (by omega)
  have eO : (up3 V 22 0 1 o) 22 0 = ordS (V 22 0) o := by rw [up22]; rfl
  rw [eO] at eS
  have s35 := g35 (X := X) (N := C) (R := R') (L := L) (Z := Z) (P := 1) r1.1 (by omega) d.1.1 p1
  rw [eS] at s35
  have b := p1.1.2.2.2.2.2
  exact ⟨C, R', s81, s35, by rw [p1.1.2.2.1.1, eS]; rfl, hP.sm hV.1 (fun k i s q => f1 _ _ _ (own_ne q (by omega)) (by unfold own at q; omega)) b, f1, r1, j1, b⟩
theorem O8_b {V : GV} {n o : Nat} (hV : DW V) (h5 : V 22 0 5 ≤ 999) (hn : n ≤ 60) (ho : o ≤ 2) : V 22 0 8 ≤ O8 V n o ∧ O8 V n o ≤ V 22 0 8 + 60 * (17 * 99) := by
  have hW := hV.or ho
  have e5 : (up3 V 22 0 1 o) 22 0 5 = V 22 0 5 := u_ne (by omega)
  have eO : (up3 V 22 0 1 o) 22 0 = ordS (V 22 0) o := by rw [up22]; rfl
  have e8 : ordS (V 22 0) o 8 = V 22 0 8 := rfl
  have t := thD hW (n := n) (by omega)
  rw [eO, e8] at t
  show V 22 0 8 ≤ (daysS n (ordS (V 22 0) o)) 8 ∧ (daysS n (ordS (V 22 0) o)) 8 ≤ V 22 0 8 + 60 * (17 * 99)
  generalize (daysS n (ordS (V 22 0) o)) 8 = x at t ⊢
  generalize V 22 0 8 = y at t ⊢
  clear eO e8 e5 hW
  have : n * (17 * 99) ≤ 60 * (17 * 99) := Nat.mul_le_mul_right _ hn
  exact ⟨t.1, Nat.le_trans t.2 (Nat.add_le_add_left this _)⟩
theorem k71 {X : XS} {N : GV} {R : GR} {L : GL} {Z : Nat × Nat × Bool} (hR : Rok R) {n : Nat} {V : GV} (hV : STV V) (hP : PK N 0 V) (hJ : JB N) (hS : SB N) (hn : 1 ≤ n ∧ n ≤ 30) : ∃ N' R', exec X 71 [vR 6 0, vI (nI n)] (gg (nW N) R L Z) = some (.inl (some (vI (ordV (V 22 0) n))), gg (nW N') R' L Z) ∧ FrT N N' ∧ FrR R R' ∧ JB N' ∧ SB N' := by
  have i1 : inb 1 30 (nI n) = true := by rw [inb_t (by omega) (by omega) (by omega)]; exact decide_eq_true (by omega)
  obtain ⟨hD, h5, h7, h8, h9, _⟩ := hV
  have e8 : ∀ o, ordS (V 22 0) o 8 = V 22 0 8 := fun o => rfl
  have p0 : ∀ o, pasV (ordS (V 22 0) o) n 0 = nI (O8 V n o - V 22 0 8) := fun o => rfl
  have p3 : ∀ o, pasV (ordS (V 22 0) o) n 3 = nI (Oo V n o) := fun o => rfl
  have os : ∀ k, ordI (V 22 0) n (k + 1) = if (ordI (V 22 0) n k).1 = -1 ∨ pasV (ordS (V 22 0) k) n 0 < (ordI (V 22 0) n k).2.1 ∨ (pasV (ordS (V 22 0) k) n 0 = (ordI (V 22 0) n k).2.1 ∧ (ordI (V 22 0) n k).2.2 < pasV (ordS (V 22 0) k) n 3) then (nI k, pasV (ordS (V 22 0) k) n 0, pasV (ordS (V 22 0) k) n 3) else ordI (V 22 0) n k := fun k => rfl
  have fin : ∀ k, k ≤ 3 → 1 ≤ k → ∀ (M : GV) (R1 : GR) (b : Nat) (l6 : AV), b < k → ordI (V 22 0) n k = (nI b, nI (O8 V n b - V 22 0 8), nI (Oo V n b)) → PK M 0 V → JB M → FrT N M → FrR R R1 → SB M → ∃ N' R', ex X 71 17 [vR 6 0, vI (nI n), vI (nI b), vI (nI (O8 V n b)), vI (nI (Oo V n b)), vI (nI k), l6] [] (gg (nW M) R1 L Z) = some (.inl (some (vI (ordV (V 22 0) n))), gg (nW N') R' L Z) ∧ FrT N N' ∧ FrR R R' ∧ JB N' ∧ SB N' := by
    refine down _ ?_ ?_
    · intro _ M R1 b l6 hb ho a1 a2 a3 a4 a5
      refine ⟨M, R1, ?_, a3, a4, a2, a5⟩
      unfold ordV
      rw [ho, x71_17]
      simp (disch := first | assumption | omega | exact nI_or0 | exact nI_or1 | exact bN_or _) only [x71_19, x71_20, x71_94, x71_95, reduceIte, Nat.reduceLT, nW_ap, nW_up, nI_add, pk_mul, nI_ltI, nI_eq, if_true, if_false, kont_r, kont_v, Nat.reduceAdd, Nat.reduceMul, Nat.not_lt, not_true_eq_false, not_false_eq_true, Nat.one_ne_zero, Nat.reduceEqDiff, Nat.lt_irrefl, reduceCtorEq, nI_or0, nI_or1]
    · intro k hk ih h1 M R1 b l6 hb ho a1 a2 a3 a4 a5
      have ih := ih (by omega)
      obtain ⟨N1, R2, s1, s2, t1, p1, f1, r1, j1, c1⟩ := k81 (X := X) (N := M) (R := R1) (L := L) (Z := Z) (n := n) (o := k) a4.1 hD a1 a2 h5 (by omega) (by omega)
      have b1 := O8_b hD h5 (show n ≤ 60 by omega) (show k ≤ 2 by omega)
      have b2 := O8_b hD h5 (show n ≤ 60 by omega) (show b ≤ 2 by omega)
      have c1' := Oo_b (V := V) (n := n) (o := k)
      have c2' := Oo_b (V := V) (n := n) (o := b)
      have hm := nI_m1 (n := b) (by omega)
      have os := os k
      rw [ho, p0, p3] at os
      simp only [hm, false_or, nI_ltI (show O8 V n k - V 22 0 8 < 2 ^ 31 by omega) (show O8 V n b - V 22 0 8 < 2 ^ 31 by omega), nI_ltI (show Oo V n b < 2 ^ 31 by omega) (show Oo V n k < 2 ^ 31 by omega), nI_eq (show O8 V n k - V 22 0 8 < 2 ^ 31 by omega) (show O8 V n b - V 22 0 8 < 2 ^ 31 by omega)] at os
      have f3 := a3.tr f1
      have r3 := a4.tr r1
      have hR1 := a4.1
      have hR2 := r1.1
      by_cases q1 : O8 V n k < O8 V n b
      · rw [if_pos (Or.inl (by omega))] at os
        obtain ⟨N', R', y, y'⟩ := ih N1 R2 k (vI (nI (Oo V n k))) (by omega) os p1 j1 f3 r3 c1
        refine ⟨N', R', ?_, y'⟩
        rw [← y, x71_17]
        generalize O8 V n k = u at *
        generalize O8 V n b = v at *
        generalize Oo V n k = x at *
        generalize Oo V n b = z at *
        simp (disch := first | assumption | omega | exact nI_or0 | exact nI_or1 | exact bN_or _) only [x71_19, x71_20, x71_23, x71_24, x71_25, x71_27, x71_30, x71_31, x71_34, x71_37, x71_39, x71_40, x71_41, x71_44, x71_45, x71_48, x71_51, x71_52, x71_55, x71_56, x71_59, x71_62, x71_63, x71_66, x71_68, x71_70, x71_73, x71_75, x71_76, x71_77, x71_80, x71_83, x71_84, x71_86, x71_88, x71_91, reduceIte, Nat.reduceLT, nW_ap, nW_up, nI_add, pk_mul, nI_ltI, nI_eq, if_true, if_false, kont_r, kont_v, Nat.reduceAdd, Nat.reduceMul, Nat.not_lt, not_true_eq_false, not_false_eq_true, Nat.one_ne_zero, Nat.reduceEqDiff, Nat.lt_irrefl, reduceCtorEq, nI_or0, nI_or1, hk, s1, s2, t1, hm, q1]
      · by_cases q2 : O8 V n k = O8 V n b
        · by_cases q3 : Oo V n b < Oo V n k
          · rw [if_pos (Or.inr ⟨by omega, q3⟩)] at os
            obtain ⟨N', R', y, y'⟩ := ih N1 R2 k (vI (nI (Oo V n k))) (by omega) os p1 j1 f3 r3 c1
            refine ⟨N', R', ?_, y'⟩
            rw [← y, x71_17]
            generalize O8 V n k = u at *
            generalize O8 V n b = v at *
            generalize Oo V n k = x at *
            generalize Oo V n b = z at *
            subst q2
            simp (disch := first | assumption | omega | exact nI_or0 | exact nI_or1 | exact bN_or _) only [x71_19, x71_20, x71_23, x71_24, x71_25, x71_27, x71_30, x71_31, x71_34, x71_37, x71_39, x71_40, x71_41, x71_44, x71_45, x71_48, x71_51, x71_52, x71_55, x71_56, x71_59, x71_62, x71_63, x71_66, x71_68, x71_70, x71_73, x71_75, x71_76, x71_77, x71_80, x71_83, x71_84, x71_86, x71_88, x71_91, reduceIte, Nat.reduceLT, nW_ap, nW_up, nI_add, pk_mul, nI_ltI, nI_eq, if_true, if_false, kont_r, kont_v, Nat.reduceAdd, Nat.reduceMul, Nat.not_lt, not_true_eq_false, not_false_eq_true, Nat.one_ne_zero, Nat.reduceEqDiff, Nat.lt_irrefl, reduceCtorEq, nI_or0, nI_or1, hk, s1, s2, t1, hm, q3]
          · rw [if_neg (by omega)] at os
            obtain ⟨N', R', y, y'⟩ := ih N1 R2 b (vI (nI (Oo V n k))) (by omega) os p1 j1 f3 r3 c1
            refine ⟨N', R', ?_, y'⟩
            rw [← y, x71_17]
            generalize O8 V n k = u at *
            generalize O8 V n b = v at *
            generalize Oo V n k = x at *
            generalize Oo V n b = z at *
            subst q2
            simp (disch := first | assumption | omega | exact nI_or0 | exact nI_or1 | exact bN_or _) only [x71_19, x71_20, x71_23, x71_24, x71_25, x71_27, x71_30, x71_31, x71_34, x71_37, x71_39, x71_40, x71_41, x71_44, x71_45, x71_48, x71_51, x71_52, x71_55, x71_56, x71_59, x71_62, x71_63, x71_66, x71_68, x71_70, x71_73, x71_75, x71_76, x71_77, x71_80, x71_83, x71_84, x71_86, x71_88, x71_91, reduceIte, Nat.reduceLT, nW_ap, nW_up, nI_add, pk_mul, nI_ltI, nI_eq, if_true, if_false, kont_r, kont_v, Nat.reduceAdd, Nat.reduceMul, Nat.not_lt, not_true_eq_false, not_false_eq_true, Nat.one_ne_zero, Nat.reduceEqDiff, Nat.lt_irrefl, reduceCtorEq, nI_or0, nI_or1, hk, s1, s2, t1, hm, q3]
        · rw [if_neg (by omega)] at os
          obtain ⟨N', R', y, y'⟩ := ih N1 R2 b (vI (nI (Oo V n k))) (by omega) os p1 j1 f3 r3 c1
          refine ⟨N', R', ?_, y'⟩
          rw [← y, x71_17]
          generalize O8 V n k = u at *
          generalize O8 V n b = v at *
          generalize Oo V n k = x at *
          generalize Oo V n b = z at *
          simp (disch := first | assumption | omega | exact nI_or0 | exact nI_or1 | exact bN_or _) only [x71_19, x71_20, x71_23, x71_24, x71_25, x71_27, x71_30, x71_31, x71_34, x71_37, x71_39, x71_40, x71_41, x71_44, x71_45, x71_48, x71_51, x71_52, x71_55, x71_56, x71_59, x71_62, x71_63, x71_66, x71_68, x71_70, x71_73, x71_75, x71_76, x71_77, x71_80, x71_83, x71_84, x71_86, x71_88, x71_91, reduceIte, Nat.reduceLT, nW_ap, nW_up, nI_add, pk_mul, nI_ltI, nI_eq, if_true, if_false, kont_r, kont_v, Nat.reduceAdd, Nat.reduceMul, Nat.not_lt, not_true_eq_false, not_false_eq_true, Nat.one_ne_zero, Nat.reduceEqDiff, Nat.lt_irrefl, reduceCtorEq, nI_or0, nI_or1, hk, s1, s2, t1, hm, q1, q2]
  obtain ⟨N1, R2, s1, s2, t1, p1, f1, r1, j1, c1⟩ := k81 (X := X) (N := N) (R := R) (L := L) (Z := Z) (n := n) (o := 0) hR hD hP hJ h5 (by omega) (by omega)
  have o1 : ordI (V 22 0) n 1 = (nI 0, nI (O8 V n 0 - V 22 0 8), nI (Oo V n 0)) := by
    have h := (os 0).trans (if_pos (Or.inl (show (ordI (V 22 0) n 0).1 = -1 from rfl)))
    rw [p0, p3] at h
    exact h
  obtain ⟨N', R', y, y'⟩ := fin 1 (by omega) (by omega) N1 R2 0 (vI (nI (Oo V n 0))) (by omega) o1 p1 j1 f1 r1 c1
  refine ⟨N', R', ?_, y'⟩
  have hR2 := r1.1
  rw [← y]
  simp (disch := first | assumption | omega | exact nI_or0 | exact nI_or1 | exact bN_or _) only [in71, x71_0, x71_1, x71_2, x71_4, x71_7, x71_8, x71_9, x71_10, x71_11, x71_12, x71_14, x71_15, x71_17, x71_19, x71_20, x71_23, x71_24, x71_25, x71_27, x71_30, x71_31, x71_34, x71_37, x71_39, x71_40, x71_41, x71_44, x71_45, x71_48, x71_51, x71_52, x71_55, x71_56, x71_59, x71_62, x71_63, x71_66, x71_68, x71_70, x71_73, x71_75, x71_76, x71_77, x71_80, x71_83, x71_84, x71_86, x71_88, x71_91, reduceIte, Nat.reduceLT, nW_ap, nW_up, nI_add, pk_mul, nI_ltI, nI_eq, if_true, if_false, kont_r, kont_v, Nat.reduceAdd, Nat.reduceMul, Nat.not_lt, not_true_eq_false, not_false_eq_true, Nat.one_ne_zero, Nat.reduceEqDiff, Nat.lt_irrefl, reduceCtorEq, nI_or0, nI_or1, t76_t i1, s1, s2, t1, eq_self]
theorem c197 {X : XS} {N : GV} {R : GR} {L : GL} {Z : Nat × Nat × Bool} (hR : Rok R) {x : Int32} (hI : INV N R) : RES X 197 169 [vI x] N R L Z := by
  obtain ⟨_, hJ, hP, hV, hT, _⟩ := id hI
  have h5 := hV.2.1
  cases i1 : inb 1 30 x with
  | false =>
    refine RES.t hI (k := 1) (by omega) (by omega) (w197_1 ?_) (t169_1 hR i1)
    simp (disch := first | assumption | omega | exact nI_or0 | exact nI_or1 | exact bN_or _) only [in71, x71_0, x71_1, x71_2, x71_4, reduceIte, Nat.reduceLT, nW_ap, nW_up, nI_add, pk_mul, nI_ltI, nI_eq, if_true, if_false, kont_r, kont_v, Nat.reduceAdd, Nat.reduceMul, Nat.not_lt, not_true_eq_false, not_false_eq_true, Nat.one_ne_zero, Nat.reduceEqDiff, Nat.lt_irrefl, reduceCtorEq, nI_or0, nI_or1, t76_f i1, kont_t]
  | true =>
    obtain ⟨n, en, n1, n2⟩ := inb_n i1 (by omega) (by omega)
    subst en
    obtain ⟨C, R', s, f, r, j, b⟩ := k71 (X := X) (N := N) (R := R) (L := L) (Z := Z) (n := n) hR hV hP hJ hP.1.2.2.2.2.2 ⟨n1, n2⟩
    have hO := OUT.tr hV.1 hP hT f r j b
    obtain ⟨e22, _, _⟩ := hO.e
    obtain ⟨M, t, e⟩ := t169_2 (X := X) (N := C) (R := R') (L := up3 L 30 0 0 (ordV (N 22 0) n).toInt64) (Z := Z) (K := 1059) (n := n) r.1 ((hV.1.1.mo (by omega) (by omega)).e0 e22) (by rw [e22]; exact hV.1.2) ⟨n1, n2⟩ (by rw [e22]; omega)
    rw [e22] at t
    exact RES.o (C := C) (hI.lk hO (SE.er.tr e.se)) e.z (w197 s) t
