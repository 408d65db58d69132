/-! the looks: class and reference -/
theorem sumN_fl {f : Nat → Bool} : ∀ n, sumN n (fun i => bN (f i)) = ((List.range n).filter f).length
  | 0 => rfl
  | n + 1 => by
    rw [List.range_succ, List.filter_append, List.length_append, ← sumN_fl n]
    show _ + bN (f n) = _
    cases h : f n with
    | true => rw [List.filter_cons_of_pos h]; rfl
    | false => rw [List.filter_cons_of_neg (by rw [h]; decide)]; rfl
/-- the rank is the place in a sorted list -/
theorem rank_pos {q : List Nat} {r : Nat → Nat → Prop} {f : Nat → Bool} {n k : Nat} (hp : q.Pairwise r) (ha : ∀ a b, r a b → ¬ r b a) (hk : k < q.length) (hq : ∀ a, a ∈ q → a < n) (hf : ∀ i, i < n → (f i = true ↔ i ∈ q ∧ r i (q.getD k 0))) : sumN n (fun i => bN (f i)) = k := by
  have hir : ∀ a, ¬ r a a := fun a h => ha a a h h
  have hne : ∀ {a b : Nat}, r a b → ¬ a = b := fun {a b} h e => hir b (by rw [e] at h; exact h)
  have hnd : q.Nodup := hp.imp fun h => hne h
  have hpe : ((List.range n).filter f).Perm (q.take k) := by
    rw [List.perm_ext_iff_of_nodup (List.nodup_range.filter _) (hnd.sublist (List.take_sublist _ _))]
    intro a
    rw [List.mem_filter, List.mem_range]
    have hpg := List.pairwise_iff_getElem.1 hp
    have ek : q.getD k 0 = q[k] := by rw [List.getD_eq_getElem?_getD, List.getElem?_eq_getElem hk]; rfl
    constructor
    · rintro ⟨h1, h2⟩
      obtain ⟨h3, h4⟩ := (hf a h1).1 h2
      obtain ⟨j, hj, ej⟩ := List.mem_iff_getElem.1 h3
      rw [ek] at h4
      by_cases x : j < k
      · rw [List.mem_take_iff_getElem]
        exact ⟨j, by omega, ej⟩
      · exfalso
        by_cases y : j = k
        · subst y; rw [ej] at h4; exact hir a h4
        · have := hpg k j hk hj (by omega)
          rw [ej] at this
          exact ha _ _ this h4
    · intro h
      rw [List.mem_take_iff_getElem] at h
      obtain ⟨j, hj, ej⟩ := h
      have hm : a ∈ q := by rw [← ej]; exact List.getElem_mem _
      refine ⟨hq a hm, (hf a (hq a hm)).2 ⟨hm, ?_⟩⟩
      rw [ek, ← ej]
      exact hpg j k (by omega) hk (by omega)
  rw [sumN_fl, hpe.length_eq, List.length_take]
  omega
theorem bef_as {S : Nat → Nat} {a b : Nat} (h : bef S a b = true) : ¬ bef S b a = true := fun h' => by
  unfold bef at h h'
  have h := of_decide_eq_true h
  have h' := of_decide_eq_true h'
  omega
theorem bef_lin {S : Nat → Nat} {a b : Nat} (h : ¬ a = b) : bef S a b = true ∨ bef S b a = true := by
  unfold bef
  rw [decide_eq_true_eq, decide_eq_true_eq]
  omega
/-- the outing of a rank -/
theorem rkO_p {V : GV} {σ : List Nat} (hs : SO V σ) (hl : σ.length = V 22 0 7) {k : Nat} (hk : k < V 22 0 7) : rkO (V 22 0) (σ.getD k 0) = k :=
  rank_pos hs.1 (fun _ _ h => bef_as h) (by omega) (fun a ha => (hs.2 a).1 ha) fun i hi => ⟨fun h => ⟨(hs.2 i).2 hi, h⟩, fun h => h.2⟩
theorem rkO_e {V : GV} {σ : List Nat} (hs : SO V σ) (hl : σ.length = V 22 0 7) {a : Nat} (ha : a < V 22 0 7) : rkO (V 22 0) a < V 22 0 7 ∧ σ.getD (rkO (V 22 0) a) 0 = a := by
  obtain ⟨j, hj, ej⟩ := List.mem_iff_getElem.1 ((hs.2 a).2 ha)
  have e : σ.getD j 0 = a := by rw [List.getD_eq_getElem?_getD, List.getElem?_eq_getElem hj]; exact ej
  have := rkO_p hs hl (k := j) (by omega)
  rw [e] at this
  rw [this]
  exact ⟨by omega, e⟩
theorem outAt_s {V : GV} {σ : List Nat} (hs : SO V σ) (hl : σ.length = V 22 0 7) (h7 : V 22 0 7 ≤ 17) {k : Nat} (hk : k < V 22 0 7) : outAt (V 22 0) (nI k) = some (σ.getD k 0) := by
  unfold outAt
  have hm : σ.getD k 0 < V 22 0 7 := (hs.2 _).1 (gD_mem (by omega))
  rw [List.find?_range_eq_some]
  refine ⟨?_, List.mem_range.2 hm, fun j hj => ?_⟩
  · rw [rkO_p hs hl hk]; exact decide_eq_true rfl
  · have e := rkO_e hs hl (show j < V 22 0 7 by omega)
    have hne : ¬ nI (rkO (V 22 0) j) = nI k := by
      rw [nI_eq (by omega) (by omega)]
      intro x
      rw [x] at e
      omega
    rw [decide_eq_false hne]; rfl
theorem outAt_n {V : GV} {σ : List Nat} (hs : SO V σ) (hl : σ.length = V 22 0 7) (h7 : V 22 0 7 ≤ 17) {k : Nat} (hk : ¬ k < V 22 0 7) (hk2 : k < 2 ^ 31) : outAt (V 22 0) (nI k) = none := by
  unfold outAt
  rw [List.find?_eq_none]
  intro j hj
  rw [List.mem_range] at hj
  have e := rkO_e hs hl hj
  rw [decide_eq_true_eq, nI_eq (by omega) hk2]
  omega
/-- fountain, count, and so on of the class -/
theorem k61 {X : XS} {N : GV} {R : GR} {L : GL} {Z : Nat × Nat × Bool} (hR : Rok R) {K p w : Nat} {V : GV} (hD : DI K V) (hP : PK N 0 V) (hp : p < 8) (hw : w < 10) : exec X 61 [vR 6 0, vI (nI p), vI (nI w)] (gg (nW N) R L Z) = some (.inl (some (vI (tpI (V 22 0) p w))), (gg (nW N) R L Z)) := by
  have i1 : inb 0 7 (nI p) = true := in_8 hp
  have i2 : inb 0 9 (nI w) = true := by rw [inb_t (by omega) (by omega) (by omega)]; exact decide_eq_true (by omega)
  have hK := hD.hK
  have h5 := hD.h5
  have e5 := hP.2.1.2
  have hS := hP.1.2.2.2.2.2
  unfold tpI
  by_cases q6 : w = 6
  · subst q6
    rw [if_pos rfl]
    have s33 := t33 (X := X) (N := N) (R := R) (L := L) (Z := Z) (P := 0) hR (by omega) (hP.2.2.1.fb hD) (by omega)
    rw [hP.2.2.1.fry e5] at s33
    have s4 := t4 (X := X) (N := N) (R := R) (L := L) (Z := Z) (f := p) (c := froB (V 22 0) (V 22 0 5)) hR (by omega) (hS.fb (by omega))
    have ec := hP.1.cb (c := froB (V 22 0) (V 22 0 5)) hD hp
    rw [Nat.mul_zero, Nat.zero_add] at ec
    rw [ec] at s4
    unfold clo
    generalize cloB (V 22 0) (froB (V 22 0) (V 22 0 5)) p = y at s4 ⊢
    simp (disch := first | assumption | omega | exact nI_or0 | exact nI_or1 | exact bN_or _) only [in61, x61_0, x61_1, x61_4, x61_5, x61_6, x61_8, x61_11, x61_12, x61_15, x61_18, x61_19, x61_20, x61_21, x61_22, x61_24, x61_27, x61_28, x61_29, x61_32, x61_35, x61_38, x61_39, x61_40, x61_43, x61_46, x61_47, x61_48, x61_51, x61_54, x61_55, in61, reduceIte, Nat.reduceLT, nW_ap, nW_up, nI_add, pk_mul, nI_ltI, nI_eq, if_true, if_false, kont_r, kont_v, Nat.reduceAdd, Nat.reduceMul, Nat.not_lt, not_true_eq_false, not_false_eq_true, Nat.one_ne_zero, Nat.reduceEqDiff, Nat.lt_irrefl, reduceCtorEq, nI_or0, nI_or1, t74_t i1, t76_t i2, Nat.mul_zero, Nat.zero_add, s33, s4]
  · rw [if_neg q6]
    obtain ⟨f1, f2⟩ := hP.1.1 p hp
    rw [Nat.mul_zero, Nat.zero_add] at f1 f2
    have b := (hD.fo hp).2.2.2.2.2.2
    by_cases q : V 22 0 (13 + 10 * p + 6) = 1
    · rw [if_pos q]
      rw [q] at f1
      obtain ⟨c3, c4, c5, c6, c7, c8, c9, c10⟩ := f2 q
      have sb := hS.1 p (by omega)
      have s5 := t5 (X := X) (N := N) (R := R) (L := L) (Z := Z) (f := p) (w := w) hR (by omega) sb.2.1 sb.2.2 (hS.2 (2 * p) (by omega)).2.2.1 hw q6
      have hj := (hP.1.2.1 (2 * p) (by omega)).1
      rw [Nat.mul_zero, Nat.zero_add] at hj
      have hi := (hP.1.2.2.2.1 p hp).1
      have ep : prN N p w = V 22 0 (13 + 10 * p + w) := by
        unfold prN
        rcases (show w = 0 ∨ w = 1 ∨ w = 2 ∨ w = 3 ∨ w = 4 ∨ w = 5 ∨ w = 7 ∨ w = 8 ∨ w = 9 by omega) with e | e | e | e | e | e | e | e | e <;> subst e <;> simp only
        · exact c5
        · exact c6
        · exact c7
        · exact c3
        · exact c4
        · rw [hj, hi]
        · exact c8
        · exact c9
        · exact c10
      rw [ep] at s5
      simp (disch := first | assumption | omega | exact nI_or0 | exact nI_or1 | exact bN_or _) only [in61, x61_0, x61_1, x61_4, x61_5, x61_6, x61_8, x61_11, x61_12, x61_15, x61_18, x61_19, x61_20, x61_21, x61_22, x61_24, x61_27, x61_28, x61_29, x61_32, x61_35, x61_38, x61_39, x61_40, x61_43, x61_46, x61_47, x61_48, x61_51, x61_54, x61_55, in61, reduceIte, Nat.reduceLT, nW_ap, nW_up, nI_add, pk_mul, nI_ltI, nI_eq, if_true, if_false, kont_r, kont_v, Nat.reduceAdd, Nat.reduceMul, Nat.not_lt, not_true_eq_false, not_false_eq_true, Nat.one_ne_zero, Nat.reduceEqDiff, Nat.lt_irrefl, reduceCtorEq, nI_or0, nI_or1, t74_t i1, t76_t i2, Nat.mul_zero, Nat.zero_add, q6, f1, s5]
    · rw [if_neg q]
      have q0 : V 22 0 (13 + 10 * p + 6) = 0 := by omega
      rw [q0] at f1
      simp (disch := first | assumption | omega | exact nI_or0 | exact nI_or1 | exact bN_or _) only [in61, x61_0, x61_1, x61_4, x61_5, x61_6, x61_8, x61_11, x61_12, x61_15, x61_18, x61_19, x61_20, x61_21, x61_22, x61_24, x61_27, x61_28, x61_29, x61_32, x61_35, x61_38, x61_39, x61_40, x61_43, x61_46, x61_47, x61_48, x61_51, x61_54, x61_55, in61, reduceIte, Nat.reduceLT, nW_ap, nW_up, nI_add, pk_mul, nI_ltI, nI_eq, if_true, if_false, kont_r, kont_v, Nat.reduceAdd, Nat.reduceMul, Nat.not_lt, not_true_eq_false, not_false_eq_true, Nat.one_ne_zero, Nat.reduceEqDiff, Nat.lt_irrefl, reduceCtorEq, nI_or0, nI_or1, t74_t i1, t76_t i2, Nat.mul_zero, Nat.zero_add, q6, f1]
theorem OUT.nn {N : GV} {R : GR} (hI : INV N R) : OUT N N (N 7 0 4) (sst N) N R := ⟨hI.1, hI.2.1, hI.2.2.1, hI.2.2.2.2.1, fun _ _ _ _ => rfl⟩
theorem c187 {X : XS} {N : GV} {R : GR} {L : GL} {Z : Nat × Nat × Bool} (hR : Rok R) {x y : Int32} (hI : INV N R) : RES X 187 149 [vI x, vI y] N R L Z := by
  obtain ⟨_, hJ, hP, hV, hT, _⟩ := id hI
  have hD := hV.1.1
  cases i1 : inb 0 7 x with
  | false =>
    refine RES.t hI (k := 1) (by omega) (by omega) (w187_0 ?_) (t149_1 hR i1)
    simp (disch := first | assumption | omega | exact nI_or0 | exact nI_or1 | exact bN_or _) only [in61, x61_0, x61_1, reduceIte, Nat.reduceLT, nW_ap, nW_up, nI_add, pk_mul, nI_ltI, nI_eq, if_true, if_false, kont_r, kont_v, Nat.reduceAdd, Nat.reduceMul, Nat.not_lt, not_true_eq_false, not_false_eq_true, Nat.one_ne_zero, Nat.reduceEqDiff, Nat.lt_irrefl, reduceCtorEq, nI_or0, nI_or1, t74_f i1, kont_t]
  | true =>
    obtain ⟨p, ep, -, hp⟩ := inb_n i1 (by omega) (by omega)
    subst ep
    cases i2 : inb 0 9 y with
    | false =>
      refine RES.t hI (k := 2) (by omega) (by omega) (w187_1 ?_) (t149_2 hR (by omega) i2)
      simp (disch := first | assumption | omega | exact nI_or0 | exact nI_or1 | exact bN_or _) only [in61, x61_0, x61_1, x61_4, x61_5, x61_6, x61_8, reduceIte, Nat.reduceLT, nW_ap, nW_up, nI_add, pk_mul, nI_ltI, nI_eq, if_true, if_false, kont_r, kont_v, Nat.reduceAdd, Nat.reduceMul, Nat.not_lt, not_true_eq_false, not_false_eq_true, Nat.one_ne_zero, Nat.reduceEqDiff, Nat.lt_irrefl, reduceCtorEq, nI_or0, nI_or1, t74_t i1, t76_f i2, kont_t]
    | true =>
      obtain ⟨w, ew, -, hw⟩ := inb_n i2 (by omega) (by omega)
      subst ew
      exact RES.o (W := er N 0) (hI.se SE.er) er_0 (w187 (k61 hR hD hP (by omega) (by omega))) (t149_3 hR hD (by omega) (by omega))
theorem sum2 {f : Nat → Nat} : sumN 16 f = sumN 8 fun p => f (2 * p) + f (2 * p + 1) := by
  simp only [sumN, Nat.reduceMul, Nat.reduceAdd, Nat.zero_add, Nat.mul_zero]
  omega
theorem k65 {X : XS} {N : GV} {R : GR} {L : GL} {Z : Nat × Nat × Bool} (hR : Rok R) {K w : Nat} {V : GV} (hD : DI K V) (hP : PK N 0 V) (h4 : N 6 0 3 = V 7 0 4) (h46 : V 7 0 4 ≤ 6) (hw : w < 12) : exec X 65 [vR 6 0, vI (nI w)] (gg (nW N) R L Z) = some (.inl (some (vI (nI (ctV V w)))), (gg (nW N) R L Z)) := by
  have i1 : inb 0 11 (nI w) = true := by rw [inb_t (by omega) (by omega) (by omega)]; exact decide_eq_true (by omega)
  have hK := hD.hK
  have h5 := hD.h5
  have e5 := hP.2.1.2
  have hS := hP.1.2.2.2.2.2
  have hF := hP.2.2.1.fb hD
  obtain ⟨r7, r8, r9, r10, r11⟩ := hP.1.2.2.1
  have s33 := t33 (X := X) (N := N) (R := R) (L := L) (Z := Z) (P := 0) hR (by omega) hF (by omega)
  have s34 := t34 (X := X) (N := N) (R := R) (L := L) (Z := Z) (P := 0) hR (by omega) hS
  have s35 := t35 (X := X) (N := N) (R := R) (L := L) (Z := Z) (P := 0) hR (by omega) hS hF (by omega)
  have s36 := t36 (X := X) (N := N) (R := R) (L := L) (Z := Z) (P := 0) hR (by omega) hS
  rw [hP.2.2.1.fry e5] at s33 s35
  have x34 : sumN 8 (fun p => N 0 (8 * 0 + p) 2) = cntF (V 22 0) := sumN_c fun p hp => (hP.1.1 p hp).1
  have x35 : sumN 8 (fun p => bN (decide (cbN N (froB (V 22 0) (V 22 0 5)) (8 * 0 + p) = 0))) = sumN 8 fun k => bN (decide (clo (V 22 0) k = 0)) := sumN_c fun p hp => by
    rw [hP.1.cb hD hp]; rfl
  have x36 : sumN 8 (fun p => N 2 (2 * (8 * 0 + p)) 2 + N 2 (2 * (8 * 0 + p) + 1) 2) = sumN 16 fun k => V 22 0 (93 + 3 * k) := by
    rw [sum2]
    refine sumN_c fun p hp => ?_
    have a := (hP.1.2.1 (2 * p) (by omega)).1
    have b := (hP.1.2.1 (2 * p + 1) (by omega)).1
    rw [Nat.mul_zero, Nat.zero_add] at a b
    rw [Nat.mul_zero, Nat.zero_add, a, b]
  rw [x34] at s34
  rw [x35] at s35
  rw [x36] at s36
  have hb : bN (froB (V 22 0) (V 22 0 5)) ≤ 1 := bN_le _
  have s84 := t84 (X := X) (N := N) (R := R) (L := L) (Z := Z) hb
  have e43 := hP.2.2.2.1
  unfold ctV
  match w, hw with
  | 0, _ => simp (disch := first | assumption | omega | exact nI_or0 | exact nI_or1 | exact bN_or _) only [in65, x65_0, x65_1, x65_2, x65_4, x65_7, x65_8_v0, x65_8_v1, x65_8_v2, x65_8_v3, x65_8_v4, x65_8_v5, x65_8_v6, x65_8_v7, x65_8_v8, x65_8_v9, x65_8_v10, x65_8_d, x65_68, x65_69, x65_72, x65_75, x65_76, x65_77, x65_80, x65_83, x65_84, x65_85, x65_88, x65_91, x65_92, x65_93, x65_96, x65_99, x65_100, x65_101, x65_104, x65_107, x65_110, x65_111, x65_112, x65_115, x65_118, x65_119, x65_120, x65_123, x65_126, x65_127, x65_128, x65_131, x65_134, x65_135, x65_136, x65_139, x65_142, x65_143, x65_144, x65_147, x65_150, x65_151, x65_152, x65_155, x65_158, x65_161, x65_162, x65_163, x65_166, in65, reduceIte, Nat.reduceLT, nW_ap, nW_up, nI_add, pk_mul, nI_ltI, nI_eq, if_true, if_false, kont_r, kont_v, Nat.reduceAdd, Nat.reduceMul, Nat.not_lt, not_true_eq_false, not_false_eq_true, Nat.one_ne_zero, Nat.reduceEqDiff, Nat.lt_irrefl, reduceCtorEq, nI_or0, nI_or1, t76_t i1, e5]
  | 1, _ => simp (disch := first | assumption | omega | exact nI_or0 | exact nI_or1 | exact bN_or _) only [in65, x65_0, x65_1, x65_2, x65_4, x65_7, x65_8_v0, x65_8_v1, x65_8_v2, x65_8_v3, x65_8_v4, x65_8_v5, x65_8_v6, x65_8_v7, x65_8_v8, x65_8_v9, x65_8_v10, x65_8_d, x65_68, x65_69, x65_72, x65_75, x65_76, x65_77, x65_80, x65_83, x65_84, x65_85, x65_88, x65_91, x65_92, x65_93, x65_96, x65_99, x65_100, x65_101, x65_104, x65_107, x65_110, x65_111, x65_112, x65_115, x65_118, x65_119, x65_120, x65_123, x65_126, x65_127, x65_128, x65_131, x65_134, x65_135, x65_136, x65_139, x65_142, x65_143, x65_144, x65_147, x65_150, x65_151, x65_152, x65_155, x65_158, x65_161, x65_162, x65_163, x65_166, in65, reduceIte, Nat.reduceLT, nW_ap, nW_up, nI_add, pk_mul, nI_ltI, nI_eq, if_true, if_false, kont_r, kont_v, Nat.reduceAdd, Nat.reduceMul, Nat.not_lt, not_true_eq_false, not_false_eq_true, Nat.one_ne_zero, Nat.reduceEqDiff, Nat.lt_irrefl, reduceCtorEq, nI_or0, nI_or1, t76_t i1, s34]
  | 2, _ => simp (disch := first | assumption | omega | exact nI_or0 | exact nI_or1 | exact bN_or _) only [in65, x65_0, x65_1, x65_2, x65_4, x65_7, x65_8_v0, x65_8_v1, x65_8_v2, x65_8_v3, x65_8_v4, x65_8_v5, x65_8_v6, x65_8_v7, x65_8_v8, x65_8_v9, x65_8_v10, x65_8_d, x65_68, x65_69, x65_72, x65_75, x65_76, x65_77, x65_80, x65_83, x65_84, x65_85, x65_88, x65_91, x65_92, x65_93, x65_96, x65_99, x65_100, x65_101, x65_104, x65_107, x65_110, x65_111, x65_112, x65_115, x65_118, x65_119, x65_120, x65_123, x65_126, x65_127, x65_128, x65_131, x65_134, x65_135, x65_136, x65_139, x65_142, x65_143, x65_144, x65_147, x65_150, x65_151, x65_152, x65_155, x65_158, x65_161, x65_162, x65_163, x65_166, in65, reduceIte, Nat.reduceLT, nW_ap, nW_up, nI_add, pk_mul, nI_ltI, nI_eq, if_true, if_false, kont_r, kont_v, Nat.reduceAdd, Nat.reduceMul, Nat.not_lt, not_true_eq_false, not_false_eq_true, Nat.one_ne_zero, Nat.reduceEqDiff, Nat.lt_irrefl, reduceCtorEq, nI_or0, nI_or1, t76_t i1, s35]
  | 3, _ => simp (disch := first | assumption | omega | exact nI_or0 | exact nI_or1 | exact bN_or _) only [in65, x65_0, x65_1, x65_2, x65_4, x65_7, x65_8_v0, x65_8_v1, x65_8_v2, x65_8_v3, x65_8_v4, x65_8_v5, x65_8_v6, x65_8_v7, x65_8_v8, x65_8_v9, x65_8_v10, x65_8_d, x65_68, x65_69, x65_72, x65_75, x65_76, x65_77, x65_80, x65_83, x65_84, x65_85, x65_88, x65_91, x65_92, x65_93, x65_96, x65_99, x65_100, x65_101, x65_104, x65_107, x65_110, x65_111, x65_112, x65_115, x65_118, x65_119, x65_120, x65_123, x65_126, x65_127, x65_128, x65_131, x65_134, x65_135, x65_136, x65_139, x65_142, x65_143, x65_144, x65_147, x65_150, x65_151, x65_152, x65_155, x65_158, x65_161, x65_162, x65_163, x65_166, in65, reduceIte, Nat.reduceLT, nW_ap, nW_up, nI_add, pk_mul, nI_ltI, nI_eq, if_true, if_false, kont_r, kont_v, Nat.reduceAdd, Nat.reduceMul, Nat.not_lt, not_true_eq_false, not_false_eq_true, Nat.one_ne_zero, Nat.reduceEqDiff, Nat.lt_irrefl, reduceCtorEq, nI_or0, nI_or1, t76_t i1, s36]
  | 4, _ => simp (disch := first | assumption | omega | exact nI_or0 | exact nI_or1 | exact bN_or _) only [in65, x65_0, x65_1, x65_2, x65_4, x65_7, x65_8_v0, x65_8_v1, x65_8_v2, x65_8_v3, x65_8_v4, x65_8_v5, x65_8_v6, x65_8_v7, x65_8_v8, x65_8_v9, x65_8_v10, x65_8_d, x65_68, x65_69, x65_72, x65_75, x65_76, x65_77, x65_80, x65_83, x65_84, x65_85, x65_88, x65_91, x65_92, x65_93, x65_96, x65_99, x65_100, x65_101, x65_104, x65_107, x65_110, x65_111, x65_112, x65_115, x65_118, x65_119, x65_120, x65_123, x65_126, x65_127, x65_128, x65_131, x65_134, x65_135, x65_136, x65_139, x65_142, x65_143, x65_144, x65_147, x65_150, x65_151, x65_152, x65_155, x65_158, x65_161, x65_162, x65_163, x65_166, in65, reduceIte, Nat.reduceLT, nW_ap, nW_up, nI_add, pk_mul, nI_ltI, nI_eq, if_true, if_false, kont_r, kont_v, Nat.reduceAdd, Nat.reduceMul, Nat.not_lt, not_true_eq_false, not_false_eq_true, Nat.one_ne_zero, Nat.reduceEqDiff, Nat.lt_irrefl, reduceCtorEq, nI_or0, nI_or1, t76_t i1, e43]
  | 5, _ => simp (disch := first | assumption | omega | exact nI_or0 | exact nI_or1 | exact bN_or _) only [in65, x65_0, x65_1, x65_2, x65_4, x65_7, x65_8_v0, x65_8_v1, x65_8_v2, x65_8_v3, x65_8_v4, x65_8_v5, x65_8_v6, x65_8_v7, x65_8_v8, x65_8_v9, x65_8_v10, x65_8_d, x65_68, x65_69, x65_72, x65_75, x65_76, x65_77, x65_80, x65_83, x65_84, x65_85, x65_88, x65_91, x65_92, x65_93, x65_96, x65_99, x65_100, x65_101, x65_104, x65_107, x65_110, x65_111, x65_112, x65_115, x65_118, x65_119, x65_120, x65_123, x65_126, x65_127, x65_128, x65_131, x65_134, x65_135, x65_136, x65_139, x65_142, x65_143, x65_144, x65_147, x65_150, x65_151, x65_152, x65_155, x65_158, x65_161, x65_162, x65_163, x65_166, in65, reduceIte, Nat.reduceLT, nW_ap, nW_up, nI_add, pk_mul, nI_ltI, nI_eq, if_true, if_false, kont_r, kont_v, Nat.reduceAdd, Nat.reduceMul, Nat.not_lt, not_true_eq_false, not_false_eq_true, Nat.one_ne_zero, Nat.reduceEqDiff, Nat.lt_irrefl, reduceCtorEq, nI_or0, nI_or1, t76_t i1, r7, Nat.reduceSub]
  | 6, _ => simp (disch := first | assumption | omega | exact nI_or0 | exact nI_or1 | exact bN_or _) only [in65, x65_0, x65_1, x65_2, x65_4, x65_7, x65_8_v0, x65_8_v1, x65_8_v2, x65_8_v3, x65_8_v4, x65_8_v5, x65_8_v6, x65_8_v7, x65_8_v8, x65_8_v9, x65_8_v10, x65_8_d, x65_68, x65_69, x65_72, x65_75, x65_76, x65_77, x65_80, x65_83, x65_84, x65_85, x65_88, x65_91, x65_92, x65_93, x65_96, x65_99, x65_100, x65_101, x65_104, x65_107, x65_110, x65_111, x65_112, x65_115, x65_118, x65_119, x65_120, x65_123, x65_126, x65_127, x65_128, x65_131, x65_134, x65_135, x65_136, x65_139, x65_142, x65_143, x65_144, x65_147, x65_150, x65_151, x65_152, x65_155, x65_158, x65_161, x65_162, x65_163, x65_166, in65, reduceIte, Nat.reduceLT, nW_ap, nW_up, nI_add, pk_mul, nI_ltI, nI_eq, if_true, if_false, kont_r, kont_v, Nat.reduceAdd, Nat.reduceMul, Nat.not_lt, not_true_eq_false, not_false_eq_true, Nat.one_ne_zero, Nat.reduceEqDiff, Nat.lt_irrefl, reduceCtorEq, nI_or0, nI_or1, t76_t i1, r8, Nat.reduceSub]
  | 7, _ => simp (disch := first | assumption | omega | exact nI_or0 | exact nI_or1 | exact bN_or _) only [in65, x65_0, x65_1, x65_2, x65_4, x65_7, x65_8_v0, x65_8_v1, x65_8_v2, x65_8_v3, x65_8_v4, x65_8_v5, x65_8_v6, x65_8_v7, x65_8_v8, x65_8_v9, x65_8_v10, x65_8_d, x65_68, x65_69, x65_72, x65_75, x65_76, x65_77, x65_80, x65_83, x65_84, x65_85, x65_88, x65_91, x65_92, x65_93, x65_96, x65_99, x65_100, x65_101, x65_104, x65_107, x65_110, x65_111, x65_112, x65_115, x65_118, x65_119, x65_120, x65_123, x65_126, x65_127, x65_128, x65_131, x65_134, x65_135, x65_136, x65_139, x65_142, x65_143, x65_144, x65_147, x65_150, x65_151, x65_152, x65_155, x65_158, x65_161, x65_162, x65_163, x65_166, in65, reduceIte, Nat.reduceLT, nW_ap, nW_up, nI_add, pk_mul, nI_ltI, nI_eq, if_true, if_false, kont_r, kont_v, Nat.reduceAdd, Nat.reduceMul, Nat.not_lt, not_true_eq_false, not_false_eq_true, Nat.one_ne_zero, Nat.reduceEqDiff, Nat.lt_irrefl, reduceCtorEq, nI_or0, nI_or1, t76_t i1, r9, Nat.reduceSub]
  | 8, _ => simp (disch := first | assumption | omega | exact nI_or0 | exact nI_or1 | exact bN_or _) only [in65, x65_0, x65_1, x65_2, x65_4, x65_7, x65_8_v0, x65_8_v1, x65_8_v2, x65_8_v3, x65_8_v4, x65_8_v5, x65_8_v6, x65_8_v7, x65_8_v8, x65_8_v9, x65_8_v10, x65_8_d, x65_68, x65_69, x65_72, x65_75, x65_76, x65_77, x65_80, x65_83, x65_84, x65_85, x65_88, x65_91, x65_92, x65_93, x65_96, x65_99, x65_100, x65_101, x65_104, x65_107, x65_110, x65_111, x65_112, x65_115, x65_118, x65_119, x65_120, x65_123, x65_126, x65_127, x65_128, x65_131, x65_134, x65_135, x65_136, x65_139, x65_142, x65_143, x65_144, x65_147, x65_150, x65_151, x65_152, x65_155, x65_158, x65_161, x65_162, x65_163, x65_166, in65, reduceIte, Nat.reduceLT, nW_ap, nW_up, nI_add, pk_mul, nI_ltI, nI_eq, if_true, if_false, kont_r, kont_v, Nat.reduceAdd, Nat.reduceMul, Nat.not_lt, not_true_eq_false, not_false_eq_true, Nat.one_ne_zero, Nat.reduceEqDiff, Nat.lt_irrefl, reduceCtorEq, nI_or0, nI_or1, t76_t i1, r10, Nat.reduceSub]
  | 9, _ => simp (disch := first | assumption | omega | exact nI_or0 | exact nI_or1 | exact bN_or _) only [in65, x65_0, x65_1, x65_2, x65_4, x65_7, x65_8_v0, x65_8_v1, x65_8_v2, x65_8_v3, x65_8_v4, x65_8_v5, x65_8_v6, x65_8_v7, x65_8_v8, x65_8_v9, x65_8_v10, x65_8_d, x65_68, x65_69, x65_72, x65_75, x65_76, x65_77, x65_80, x65_83, x65_84, x65_85, x65_88, x65_91, x65_92, x65_93, x65_96, x65_99, x65_100, x65_101, x65_104, x65_107, x65_110, x65_111, x65_112, x65_115, x65_118, x65_119, x65_120, x65_123, x65_126, x65_127, x65_128, x65_131, x65_134, x65_135, x65_136, x65_139, x65_142, x65_143, x65_144, x65_147, x65_150, x65_151, x65_152, x65_155, x65_158, x65_161, x65_162, x65_163, x65_166, in65, reduceIte, Nat.reduceLT, nW_ap, nW_up, nI_add, pk_mul, nI_ltI, nI_eq, if_true, if_false, kont_r, kont_v, Nat.reduceAdd, Nat.reduceMul, Nat.not_lt, not_true_eq_false, not_false_eq_true, Nat.one_ne_zero, Nat.reduceEqDiff, Nat.lt_irrefl, reduceCtorEq, nI_or0, nI_or1, t76_t i1, r11, Nat.reduceSub]
  | 10, _ =>
    generalize bN (froB (V 22 0) (V 22 0 5)) = y at s33 s84 ⊢
    simp (disch := first | assumption | omega | exact nI_or0 | exact nI_or1 | exact bN_or _) only [in65, x65_0, x65_1, x65_2, x65_4, x65_7, x65_8_v0, x65_8_v1, x65_8_v2, x65_8_v3, x65_8_v4, x65_8_v5, x65_8_v6, x65_8_v7, x65_8_v8, x65_8_v9, x65_8_v10, x65_8_d, x65_68, x65_69, x65_72, x65_75, x65_76, x65_77, x65_80, x65_83, x65_84, x65_85, x65_88, x65_91, x65_92, x65_93, x65_96, x65_99, x65_100, x65_101, x65_104, x65_107, x65_110, x65_111, x65_112, x65_115, x65_118, x65_119, x65_120, x65_123, x65_126, x65_127, x65_128, x65_131, x65_134, x65_135, x65_136, x65_139, x65_142, x65_143, x65_144, x65_147, x65_150, x65_151, x65_152, x65_155, x65_158, x65_161, x65_162, x65_163, x65_166, in65, reduceIte, Nat.reduceLT, nW_ap, nW_up, nI_add, pk_mul, nI_ltI, nI_eq, if_true, if_false, kont_r, kont_v, Nat.reduceAdd, Nat.reduceMul, Nat.not_lt, not_true_eq_false, not_false_eq_true, Nat.one_ne_zero, Nat.reduceEqDiff, Nat.lt_irrefl, reduceCtorEq, nI_or0, nI_or1, t76_t i1, s33, s84]
  | 11, _ =>
    have hx : (nI 11).toInt < 0 ∨ 10 < (nI 11).toInt := Or.inr (by decide)
    simp (disch := first | assumption | omega | exact nI_or0 | exact nI_or1 | exact bN_or _) only [in65, x65_0, x65_1, x65_2, x65_4, x65_7, x65_8_v0, x65_8_v1, x65_8_v2, x65_8_v3, x65_8_v4, x65_8_v5, x65_8_v6, x65_8_v7, x65_8_v8, x65_8_v9, x65_8_v10, x65_8_d, x65_68, x65_69, x65_72, x65_75, x65_76, x65_77, x65_80, x65_83, x65_84, x65_85, x65_88, x65_91, x65_92, x65_93, x65_96, x65_99, x65_100, x65_101, x65_104, x65_107, x65_110, x65_111, x65_112, x65_115, x65_118, x65_119, x65_120, x65_123, x65_126, x65_127, x65_128, x65_131, x65_134, x65_135, x65_136, x65_139, x65_142, x65_143, x65_144, x65_147, x65_150, x65_151, x65_152, x65_155, x65_158, x65_161, x65_162, x65_163, x65_166, in65, reduceIte, Nat.reduceLT, nW_ap, nW_up, nI_add, pk_mul, nI_ltI, nI_eq, if_true, if_false, kont_r, kont_v, Nat.reduceAdd, Nat.reduceMul, Nat.not_lt, not_true_eq_false, not_false_eq_true, Nat.one_ne_zero, Nat.reduceEqDiff, Nat.lt_irrefl, reduceCtorEq, nI_or0, nI_or1, t76_t i1, h4]
theorem c191 {X : XS} {N : GV} {R : GR} {L : GL} {Z : Nat × Nat × Bool} (hR : Rok R) {x : Int32} (hI : INV N R) : RES X 191 157 [vI x] N R L Z := by
  obtain ⟨_, hJ, hP, hV, hT, _⟩ := id hI
  have hD := hV.1.1
  have hs := hT.2.1
  cases i1 : inb 0 11 x with
  | false =>
    refine RES.t hI (k := 1) (by omega) (by omega) (w191_1 ?_) (t157_1 hR i1)
    simp (disch := first | assumption | omega | exact nI_or0 | exact nI_or1 | exact bN_or _) only [in65, x65_0, x65_1, x65_2, x65_4, reduceIte, Nat.reduceLT, nW_ap, nW_up, nI_add, pk_mul, nI_ltI, nI_eq, if_true, if_false, kont_r, kont_v, Nat.reduceAdd, Nat.reduceMul, Nat.not_lt, not_true_eq_false, not_false_eq_true, Nat.one_ne_zero, Nat.reduceEqDiff, Nat.lt_irrefl, reduceCtorEq, nI_or0, nI_or1, t76_f i1, kont_t]
  | true =>
    obtain ⟨w, ew, -, hw⟩ := inb_n i1 (by omega) (by omega)
    subst ew
    have s1 := t156 (X := X) (N := er N 0) (R := R) (L := up3 L 30 0 0 (nI (ctV N w)).toInt64) (Z := Z) (w := w) hR hD.er (by rw [er_s (by decide)]; exact hs) (by omega)
    have e : ctV (er N 0) w = ctV N w := by
      unfold ctV
      rw [er_22, er_s (by decide)]
    rw [e] at s1
    exact RES.o (W := er N 0) (hI.se SE.er) er_0 (w191 (k65 hR hD hP hT.1 hs (by omega))) (t157_2 hR (by omega) s1)
theorem c192 {X : XS} {N : GV} {R : GR} {L : GL} {Z : Nat × Nat × Bool} (hR : Rok R) {x : Int32} (hI : INV N R) : RES X 192 158 [vI x] N R L Z := by
  obtain ⟨_, hJ, hP, hV, hT, _⟩ := id hI
  cases i1 : inb 0 4 x with
  | false =>
    refine RES.t hI (k := 1) (by omega) (by omega) (w192_0 ?_) (t158_1 hR i1)
    simp (disch := first | assumption | omega | exact nI_or0 | exact nI_or1 | exact bN_or _) only [in66, x66_0, x66_1, reduceIte, Nat.reduceLT, nW_ap, nW_up, nI_add, pk_mul, nI_ltI, nI_eq, if_true, if_false, kont_r, kont_v, Nat.reduceAdd, Nat.reduceMul, Nat.not_lt, not_true_eq_false, not_false_eq_true, Nat.one_ne_zero, Nat.reduceEqDiff, Nat.lt_irrefl, reduceCtorEq, nI_or0, nI_or1, t75_f i1, kont_t]
  | true =>
    obtain ⟨w, ew, -, hw⟩ := inb_n i1 (by omega) (by omega)
    subst ew
    have hw5 : w < 5 := by omega
    refine RES.o (W := er N 0) (hI.se SE.er) er_0 (w192 ?_) (t158_2 hR hw5)
    have g := hP.2.1.1 w hw5
    simp (disch := first | assumption | omega | exact nI_or0 | exact nI_or1 | exact bN_or _) only [in66, x66_0, x66_1, x66_4, x66_5, x66_8, x66_11, x66_12, x66_13, in66, reduceIte, Nat.reduceLT, nW_ap, nW_up, nI_add, pk_mul, nI_ltI, nI_eq, if_true, if_false, kont_r, kont_v, Nat.reduceAdd, Nat.reduceMul, Nat.not_lt, not_true_eq_false, not_false_eq_true, Nat.one_ne_zero, Nat.reduceEqDiff, Nat.lt_irrefl, reduceCtorEq, nI_or0, nI_or1, t75_t i1, g]
theorem c189 {X : XS} {N : GV} {R : GR} {L : GL} {Z : Nat × Nat × Bool} (hR : Rok R) {x y : Int32} (hI : INV N R) : RES X 189 153 [vI x, vI y] N R L Z := by
  obtain ⟨_, hJ, hP, hV, hT, _⟩ := id hI
  have hD := hV.1.1
  by_cases h0 : x < nI 0
  · refine RES.t hI (k := 1) (by omega) (by omega) (w189_1 ?_) (t153_1 hR fun q => absurd h0 q)
    simp (disch := first | assumption | omega | exact nI_or0 | exact nI_or1 | exact bN_or _) only [in63, x63_0, x63_1, reduceIte, Nat.reduceLT, nW_ap, nW_up, nI_add, pk_mul, nI_ltI, nI_eq, if_true, if_false, kont_r, kont_v, Nat.reduceAdd, Nat.reduceMul, Nat.not_lt, not_true_eq_false, not_false_eq_true, Nat.one_ne_zero, Nat.reduceEqDiff, Nat.lt_irrefl, reduceCtorEq, nI_or0, nI_or1, t77_f h0, kont_t]
  · cases i2 : inb 0 1 y with
    | false =>
      refine RES.t hI (k := 1) (by omega) (by omega) (w189_1 ?_) (t153_1 hR fun _ => i2)
      simp (disch := first | assumption | omega | exact nI_or0 | exact nI_or1 | exact bN_or _) only [in63, x63_0, x63_1, x63_4, x63_5, x63_6, x63_7, reduceIte, Nat.reduceLT, nW_ap, nW_up, nI_add, pk_mul, nI_ltI, nI_eq, if_true, if_false, kont_r, kont_v, Nat.reduceAdd, Nat.reduceMul, Nat.not_lt, not_true_eq_false, not_false_eq_true, Nat.one_ne_zero, Nat.reduceEqDiff, Nat.lt_irrefl, reduceCtorEq, nI_or0, nI_or1, t77_t h0, t76_f i2, kont_t]
    | true =>
      obtain ⟨n, en, hn⟩ := nI_nn h0
      subst en
      obtain ⟨w, ew, -, hw⟩ := inb_n i2 (by omega) (by omega)
      subst ew
      have t := t153_2 (X := X) (N := N) (R := R) (L := up3 L 30 0 0 (if n < N 22 0 6 then nI (N 22 0 (141 + 2 * n + w)) else -1).toInt64) (Z := Z) (x := n) (w := w) hR hD hn (by omega)
      refine RES.o (W := er N 0) (hI.se SE.er) er_0 (w189 ?_) t
      have e12 := hP.2.2.1.1
      have h6 := hD.h6
      by_cases q : n < N 22 0 6
      · rw [if_pos q]
        have g := hP.2.2.1.2 n q
        have n6 : n < 6 := by omega
        rcases (show w = 0 ∨ w = 1 by omega) with e | e
        · subst e; simp (disch := first | assumption | omega | exact nI_or0 | exact nI_or1 | exact bN_or _) only [in63, x63_0, x63_1, x63_4, x63_5, x63_6, x63_7, x63_10, x63_11, x63_12, x63_15, x63_18, x63_21, x63_24, x63_25, x63_26, x63_27, x63_30, x63_31, x63_34, x63_37, x63_40, x63_41, x63_42, x63_45, x63_46, x63_49, x63_52, x63_55, x63_56, x63_57, in63, reduceIte, Nat.reduceLT, nW_ap, nW_up, nI_add, pk_mul, nI_ltI, nI_eq, if_true, if_false, kont_r, kont_v, Nat.reduceAdd, Nat.reduceMul, Nat.not_lt, not_true_eq_false, not_false_eq_true, Nat.one_ne_zero, Nat.reduceEqDiff, Nat.lt_irrefl, reduceCtorEq, nI_or0, nI_or1, t77_t h0, t76_t i2, e12, q, g.1, Nat.add_zero]
        · subst e; simp (disch := first | assumption | omega | exact nI_or0 | exact nI_or1 | exact bN_or _) only [in63, x63_0, x63_1, x63_4, x63_5, x63_6, x63_7, x63_10, x63_11, x63_12, x63_15, x63_18, x63_21, x63_24, x63_25, x63_26, x63_27, x63_30, x63_31, x63_34, x63_37, x63_40, x63_41, x63_42, x63_45, x63_46, x63_49, x63_52, x63_55, x63_56, x63_57, in63, reduceIte, Nat.reduceLT, nW_ap, nW_up, nI_add, pk_mul, nI_ltI, nI_eq, if_true, if_false, kont_r, kont_v, Nat.reduceAdd, Nat.reduceMul, Nat.not_lt, not_true_eq_false, not_false_eq_true, Nat.one_ne_zero, Nat.reduceEqDiff, Nat.lt_irrefl, reduceCtorEq, nI_or0, nI_or1, t77_t h0, t76_t i2, e12, q, g.2]
      · rw [if_neg q]
        simp (disch := first | assumption | omega | exact nI_or0 | exact nI_or1 | exact bN_or _) only [in63, x63_0, x63_1, x63_4, x63_5, x63_6, x63_7, x63_10, x63_11, x63_12, x63_15, x63_18, x63_21, x63_24, x63_25, x63_26, x63_27, x63_30, x63_31, x63_34, x63_37, x63_40, x63_41, x63_42, x63_45, x63_46, x63_49, x63_52, x63_55, x63_56, x63_57, in63, reduceIte, Nat.reduceLT, nW_ap, nW_up, nI_add, pk_mul, nI_ltI, nI_eq, if_true, if_false, kont_r, kont_v, Nat.reduceAdd, Nat.reduceMul, Nat.not_lt, not_true_eq_false, not_false_eq_true, Nat.one_ne_zero, Nat.reduceEqDiff, Nat.lt_irrefl, reduceCtorEq, nI_or0, nI_or1, t77_t h0, t76_t i2, e12, q]
theorem k64 {X : XS} {N : GV} {R : GR} {L : GL} {Z : Nat × Nat × Bool} (hR : Rok R) {K n w : Nat} {V : GV} (hD : DI K V) (hP : PK N 0 V) (hn : n < 2 ^ 31) (hw : w < 3) : exec X 64 [vR 6 0, vI (nI n), vI (nI w)] (gg (nW N) R L Z) = some (.inl (some (vI (toA (V 22 0) (nI n) w))), (gg (nW N) R L Z)) := by
  have h0 : ¬ nI n < nI 0 := lt0_nI hn
  have i2 : inb 0 2 (nI w) = true := by rw [inb_t (by omega) (by omega) (by omega)]; exact decide_eq_true (by omega)
  obtain ⟨e43, σ, hs, hl, hc⟩ := hP.2.2.2
  have h7 := hD.h7
  unfold toA
  by_cases q : n < V 22 0 7
  · rw [outAt_s hs hl h7 q]
    have c := hc n q
    unfold coA ouA at c
    injection c with c1 c2
    injection c2 with c2 c3
    have n17 : n < 17 := by omega
    simp only
    rcases (show w = 0 ∨ w = 1 ∨ w = 2 by omega) with e | e | e
    · subst e; simp (disch := first | assumption | omega | exact nI_or0 | exact nI_or1 | exact bN_or _) only [in64, x64_0, x64_1, x64_4, x64_5, x64_6, x64_7, x64_10, x64_11, x64_12, x64_15, x64_18, x64_21, x64_24, x64_25, x64_26, x64_27_v0, x64_27_v1, x64_27_v2, x64_52, x64_53, x64_56, x64_59, x64_62, x64_63, x64_64, x64_65, x64_66, x64_69, x64_72, x64_75, x64_76, x64_77, x64_78, x64_79, x64_82, x64_85, x64_88, x64_89, x64_90, in64, reduceIte, Nat.reduceLT, nW_ap, nW_up, nI_add, pk_mul, nI_ltI, nI_eq, if_true, if_false, kont_r, kont_v, Nat.reduceAdd, Nat.reduceMul, Nat.not_lt, not_true_eq_false, not_false_eq_true, Nat.one_ne_zero, Nat.reduceEqDiff, Nat.lt_irrefl, reduceCtorEq, nI_or0, nI_or1, t77_t h0, t76_t i2, e43, q, c1, Nat.add_zero]
    · subst e; simp (disch := first | assumption | omega | exact nI_or0 | exact nI_or1 | exact bN_or _) only [in64, x64_0, x64_1, x64_4, x64_5, x64_6, x64_7, x64_10, x64_11, x64_12, x64_15, x64_18, x64_21, x64_24, x64_25, x64_26, x64_27_v0, x64_27_v1, x64_27_v2, x64_52, x64_53, x64_56, x64_59, x64_62, x64_63, x64_64, x64_65, x64_66, x64_69, x64_72, x64_75, x64_76, x64_77, x64_78, x64_79, x64_82, x64_85, x64_88, x64_89, x64_90, in64, reduceIte, Nat.reduceLT, nW_ap, nW_up, nI_add, pk_mul, nI_ltI, nI_eq, if_true, if_false, kont_r, kont_v, Nat.reduceAdd, Nat.reduceMul, Nat.not_lt, not_true_eq_false, not_false_eq_true, Nat.one_ne_zero, Nat.reduceEqDiff, Nat.lt_irrefl, reduceCtorEq, nI_or0, nI_or1, t77_t h0, t76_t i2, e43, q, c2]
    · subst e
      have hx : Op.lookupswitch.offset [(0, 25), (1, 38)] 51 (nI 2).toInt = 51 := by decide +kernel
      simp (disch := first | assumption | omega | exact nI_or0 | exact nI_or1 | exact bN_or _) only [in64, x64_0, x64_1, x64_4, x64_5, x64_6, x64_7, x64_10, x64_11, x64_12, x64_15, x64_18, x64_21, x64_24, x64_25, x64_26, x64_27_v0, x64_27_v1, x64_27_v2, x64_52, x64_53, x64_56, x64_59, x64_62, x64_63, x64_64, x64_65, x64_66, x64_69, x64_72, x64_75, x64_76, x64_77, x64_78, x64_79, x64_82, x64_85, x64_88, x64_89, x64_90, in64, reduceIte, Nat.reduceLT, nW_ap, nW_up, nI_add, pk_mul, nI_ltI, nI_eq, if_true, if_false, kont_r, kont_v, Nat.reduceAdd, Nat.reduceMul, Nat.not_lt, not_true_eq_false, not_false_eq_true, Nat.one_ne_zero, Nat.reduceEqDiff, Nat.lt_irrefl, reduceCtorEq, nI_or0, nI_or1, t77_t h0, t76_t i2, e43, q, c3]
  · rw [outAt_n hs hl h7 q hn]
    simp (disch := first | assumption | omega | exact nI_or0 | exact nI_or1 | exact bN_or _) only [in64, x64_0, x64_1, x64_4, x64_5, x64_6, x64_7, x64_10, x64_11, x64_12, x64_15, x64_18, x64_21, x64_24, x64_25, x64_26, x64_27_v0, x64_27_v1, x64_27_v2, x64_52, x64_53, x64_56, x64_59, x64_62, x64_63, x64_64, x64_65, x64_66, x64_69, x64_72, x64_75, x64_76, x64_77, x64_78, x64_79, x64_82, x64_85, x64_88, x64_89, x64_90, in64, reduceIte, Nat.reduceLT, nW_ap, nW_up, nI_add, pk_mul, nI_ltI, nI_eq, if_true, if_false, kont_r, kont_v, Nat.reduceAdd, Nat.reduceMul, Nat.not_lt, not_true_eq_false, not_false_eq_true, Nat.one_ne_zero, Nat.reduceEqDiff, Nat.lt_irrefl, reduceCtorEq, nI_or0, nI_or1, t77_t h0, t76_t i2, e43, q]
theorem c190 {X : XS} {N : GV} {R : GR} {L : GL} {Z : Nat × Nat × Bool} (hR : Rok R) {x y : Int32} (hI : INV N R) : RES X 190 155 [vI x, vI y] N R L Z := by
  obtain ⟨_, hJ, hP, hV, hT, _⟩ := id hI
  have hD := hV.1.1
  by_cases h0 : x < nI 0
  · refine RES.t hI (k := 1) (by omega) (by omega) (w190_1 ?_) (t155_1 hR fun q => absurd h0 q)
    simp (disch := first | assumption | omega | exact nI_or0 | exact nI_or1 | exact bN_or _) only [in64, x64_0, x64_1, reduceIte, Nat.reduceLT, nW_ap, nW_up, nI_add, pk_mul, nI_ltI, nI_eq, if_true, if_false, kont_r, kont_v, Nat.reduceAdd, Nat.reduceMul, Nat.not_lt, not_true_eq_false, not_false_eq_true, Nat.one_ne_zero, Nat.reduceEqDiff, Nat.lt_irrefl, reduceCtorEq, nI_or0, nI_or1, t77_f h0, kont_t]
  · cases i2 : inb 0 2 y with
    | false =>
      refine RES.t hI (k := 1) (by omega) (by omega) (w190_1 ?_) (t155_1 hR fun _ => i2)
      simp (disch := first | assumption | omega | exact nI_or0 | exact nI_or1 | exact bN_or _) only [in64, x64_0, x64_1, x64_4, x64_5, x64_6, x64_7, reduceIte, Nat.reduceLT, nW_ap, nW_up, nI_add, pk_mul, nI_ltI, nI_eq, if_true, if_false, kont_r, kont_v, Nat.reduceAdd, Nat.reduceMul, Nat.not_lt, not_true_eq_false, not_false_eq_true, Nat.one_ne_zero, Nat.reduceEqDiff, Nat.lt_irrefl, reduceCtorEq, nI_or0, nI_or1, t77_t h0, t76_f i2, kont_t]
    | true =>
      obtain ⟨n, en, hn⟩ := nI_nn h0
      subst en
      obtain ⟨w, ew, -, hw⟩ := inb_n i2 (by omega) (by omega)
      subst ew
      have s1 := t154 (X := X) (N := er N 0) (R := R) (L := up3 L 30 0 0 (toA (N 22 0) (nI n) w).toInt64) (Z := Z) (x := nI n) (w := w) hR hD.er (by omega)
      rw [er_22] at s1
      exact RES.o (W := er N 0) (hI.se SE.er) er_0 (w190 (k64 hR hD hP hn (by omega))) (t155_2 hR h0 (by omega) s1)
