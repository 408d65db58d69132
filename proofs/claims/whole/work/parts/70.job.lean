/-! the queue of jobs: class and reference -/
theorem sumN_1b {f : Nat → Nat} {n : Nat} (h : ∀ i, i < n → f i ≤ 1) : sumN n f = sumN n fun i => bN (decide (f i = 1)) := sumN_c fun i hi => by
  have := h i hi
  by_cases q : f i = 1
  · rw [decide_eq_true q, q]; rfl
  · rw [decide_eq_false q]
    show f i = 0
    omega
/-- the queue that the class makes -/
def QQ (N V : GV) (N' : GV) (R' : GR) (q : List Nat) : Prop :=
  N' 5 0 6 = q.length ∧ q.length ≤ 16 ∧ (∀ k, k < q.length → R' 19 0 k = some (q.getD k 0) ∧ q.getD k 0 < 16 ∧ V 22 0 (93 + 3 * q.getD k 0) = 1 ∧ jobAt (V 22 0) (nI k) = some (q.getD k 0)) ∧
  (∀ k, ¬ k < q.length → k < 2 ^ 31 → jobAt (V 22 0) (nI k) = none) ∧ q.length = jbs (V 22 0) ∧
  (∀ k i s, ¬ (k = 2 ∧ i < 16 ∧ s = 5) → ¬ (k = 5 ∧ i = 0 ∧ s = 6) → N' k i s = N k i s) ∧ SB N'
theorem q37 {X : XS} {N : GV} {R : GR} {L : GL} {Z : Nat × Nat × Bool} (hR : Rok R) {K : Nat} {V : GV} (hD : DI K V) (hK : K ≤ 1058) (hP : PK N 0 V) (hJ : JB N) : ∃ N' R' q, exec X 37 [vR 5 0] (gg (nW N) R L Z) = some (.inl none, gg (nW N') R' L Z) ∧ QQ N V N' R' q ∧ FrR R R' := by
  have hS := hP.1.2.2.2.2.2
  have h1 := hD.h1
  have e18 := hP.2.1.1 1 (by omega)
  obtain ⟨N', R', q, s, hQ⟩ := t37 (X := X) (N := N) (R := R) (L := L) (Z := Z) (P := 0) hR (by omega) hS (by omega) hJ
  obtain ⟨q1, q2, q3, q4, q5, q6, q7, q8, q9, q10⟩ := hQ
  rw [e18] at q6
  have mem : ∀ a, a ∈ q ↔ a < 16 ∧ V 22 0 (93 + 3 * a) = 1 := fun a => by
    rw [q7]
    constructor
    · rintro ⟨i, hi, e, h⟩
      rw [Nat.mul_zero, Nat.zero_add] at e
      subst e
      exact ⟨hi, by rw [← (hP.1.2.1 a hi).1]; exact h⟩
    · rintro ⟨h1, h2⟩
      exact ⟨a, h1, by omega, by rw [(hP.1.2.1 a h1).1]; exact h2⟩
  have rep : ∀ a, a < 16 → V 22 0 (93 + 3 * a) = 1 → V 22 0 (93 + 3 * a + 1) = N 2 (16 * 0 + a) 3 := fun a h1 h2 => ((hP.1.2.1 a h1).2 h2).1.symm
  have rk : ∀ k, k < q.length → rkN (V 22 0) (q.getD k 0) = k := fun k hk => by
    have hm := (mem _).1 (gD_mem (a := 0) hk)
    refine rank_pos (r := fun a b => rkC N (V 22 0 1) a < rkC N (V 22 0 1) b) q6 (fun a b h => by omega) hk (fun a ha => ((mem a).1 ha).1) fun i hi => ?_
    rw [Bool.and_eq_true, Bool.and_eq_true, decide_eq_true_eq, decide_eq_true_eq]
    have b1 := (hD.jo hi).2.1
    have b2 := (hD.jo hm.1).2.1
    constructor
    · rintro ⟨⟨x1, x2⟩, x3⟩
      rw [ahd_rk (N := N) (P := 0) (o := V 22 0 1) hi hm.1 x1 rfl (rep i hi x2) (rep _ hm.1 hm.2) (by omega) (by omega), decide_eq_true_eq, Nat.mul_zero, Nat.zero_add, Nat.zero_add] at x3
      exact ⟨(mem i).2 ⟨hi, x2⟩, x3⟩
    · rintro ⟨x1, x2⟩
      have x1 := (mem i).1 x1
      have hne : ¬ i = q.getD k 0 := fun e => by rw [e] at x2; omega
      refine ⟨⟨hne, x1.2⟩, ?_⟩
      rw [ahd_rk (N := N) (P := 0) (o := V 22 0 1) hi hm.1 hne rfl (rep i hi x1.2) (rep _ hm.1 hm.2) (by omega) (by omega), decide_eq_true_eq, Nat.mul_zero, Nat.zero_add, Nat.zero_add]
      exact x2
  have rke : ∀ a, a < 16 → V 22 0 (93 + 3 * a) = 1 → rkN (V 22 0) a < q.length ∧ q.getD (rkN (V 22 0) a) 0 = a := fun a h1 h2 => by
    obtain ⟨j, hj, ej⟩ := List.mem_iff_getElem.1 ((mem a).2 ⟨h1, h2⟩)
    have e : q.getD j 0 = a := by rw [List.getD_eq_getElem?_getD, List.getElem?_eq_getElem hj]; exact ej
    have := rk j hj
    rw [e] at this
    rw [this]
    exact ⟨hj, e⟩
  refine ⟨N', R', q, s, ⟨q2, q10, fun k hk => ?_, fun k hk hk2 => ?_, ?_, fun k i s a b => q1 _ _ _ (by omega), ?_⟩, ⟨q4, fun k i s x => q5 _ _ _ fun y => x y.1⟩⟩
  · have hm := (mem _).1 (gD_mem (a := 0) hk)
    refine ⟨q3 k hk, hm.1, hm.2, ?_⟩
    unfold jobAt
    rw [List.find?_range_eq_some]
    refine ⟨?_, List.mem_range.2 hm.1, fun j hj => ?_⟩
    · unfold isR
      rw [decide_eq_true hm.2, rk k hk, decide_eq_true rfl]; rfl
    · unfold isR
      by_cases x : V 22 0 (93 + 3 * j) = 1
      · have e := rke j (by omega) x
        have hne : ¬ nI (rkN (V 22 0) j) = nI k := by
          rw [nI_eq (by omega) (by omega)]
          intro y
          rw [y] at e
          omega
        rw [decide_eq_false hne, Bool.and_false]; rfl
      · rw [decide_eq_false x, Bool.false_and]; rfl
  · unfold jobAt
    rw [List.find?_eq_none]
    intro j hj
    rw [List.mem_range] at hj
    unfold isR
    rw [Bool.and_eq_true, decide_eq_true_eq, decide_eq_true_eq]
    rintro ⟨x, y⟩
    have e := rke j hj x
    rw [nI_eq (by omega) hk2] at y
    omega
  · unfold jbs
    rw [sumN_1b (fun i hi => (hD.jo hi).1), sumN_fl]
    refine List.Perm.length_eq ?_
    have hnd : q.Nodup := q6.imp fun {a b} (h : rkC N (V 22 0 1) a < rkC N (V 22 0 1) b) => show ¬ a = b from fun e => by rw [e] at h; omega
    rw [List.perm_ext_iff_of_nodup hnd (List.nodup_range.filter _)]
    intro a
    rw [mem, List.mem_filter, List.mem_range, decide_eq_true_eq]
  · refine ⟨fun f hf => ?_, fun b hb => ?_⟩
    · rw [q1 _ _ _ (by omega), q1 _ _ _ (by omega), q1 _ _ _ (by omega)]
      exact hS.1 f hf
    · rw [q1 _ _ _ (by omega), q1 _ _ _ (by omega), q1 _ _ _ (by omega)]
      exact ⟨(hS.2 b hb).1, (hS.2 b hb).2.1, (hS.2 b hb).2.2.1, q9 b hb⟩
theorem OUT.qu {N N' V : GV} {R R' : GR} {n : Nat} {T : Nat → Nat → Nat} {q : List Nat} {K : Nat} (hD : DI K V) (hP : PK N 0 V) (hJ : JB N) (hT : SAV N R n T) (h : QQ N V N' R' q) (r : FrR R R') : OUT N V n T N' R' := by
  obtain ⟨_, _, _, _, _, f, hS⟩ := h
  refine ⟨r.1, fun b hb x => ?_, hP.g hD.h6 hD.h7 ?_ ?_ ?_ ?_ ?_ ?_ ?_ ?_ (fun _ _ => rfl) hS, hT.fr (fun k i s a b _ _ _ _ _ => f _ _ _ (fun y => a (by unfold own; omega)) (fun y => a (by unfold own; omega))) (fun i _ => r.2 _ _ _ (by decide)) hS, fun k i s y => f _ _ _ (by omega) (by omega)⟩
  · rw [f _ _ _ (by omega) (by omega)] at x
    rw [f _ _ _ (by omega) (by omega)]
    exact hJ b hb x
  · intro p s _ _ _; exact f _ _ _ (by omega) (by omega)
  · intro p s _ _ _; exact f _ _ _ (by omega) (by omega)
  · intro s _; exact f _ _ _ (by omega) (by omega)
  · intro s _; exact f _ _ _ (by omega) (by omega)
  · exact f _ _ _ (by omega) (by omega)
  · intro k s _ _; exact f _ _ _ (by omega) (by omega)
  · exact f _ _ _ (by omega) (by omega)
  · intro k s _ _ _; exact f _ _ _ (by omega) (by omega)
/-- a property of a job in the queue -/
theorem k17 {X : XS} {N N' V : GV} {R' : GR} {L : GL} {Z : Nat × Nat × Bool} {K k w : Nat} {q : List Nat} (hD : DI K V) (hP : PK N 0 V) (h : QQ N V N' R' q) (hR' : Rok R') (hk : k < q.length) (hw : w < 4) : exec X 17 [vR 2 (q.getD k 0), vI (nI w)] (gg (nW N') R' L Z) = some (.inl (some (vI (tjA (V 22 0) (nI k) w))), gg (nW N') R' L Z) := by
  obtain ⟨_, _, h3, _, _, f, hS⟩ := h
  obtain ⟨_, a1, a2, a3⟩ := h3 k hk
  generalize q.getD k 0 = j at *
  obtain ⟨j1, j2⟩ := hP.1.2.1 j a1
  rw [Nat.mul_zero, Nat.zero_add] at j1 j2
  obtain ⟨j3, j4⟩ := j2 a2
  have sb := hS.2 j (by omega)
  have wo := (hD.jo a1).2.2
  have n3 : N' 2 j 3 = V 22 0 (93 + 3 * j + 1) := by rw [f _ _ _ (by omega) (by omega), j3]
  have n4 : N' 2 j 4 = V 22 0 (93 + 3 * j + 2) := by rw [f _ _ _ (by omega) (by omega), j4]
  have s17 := t17 (X := X) (N := N') (R := R') (L := L) (Z := Z) (b := j) (w := w) hR' (by omega) sb.2.1 sb.1 (by rw [n4]; exact wo) hw
  unfold tjA
  rw [a3]
  simp only
  rw [s17, n3, n4]
  have e : j / 2 % 8 = j / 2 := by omega
  unfold tjV ndJ
  rw [e]
theorem tjA_n {S : Nat → Nat} {x : Int32} {w : Nat} (h : jobAt S x = none) : tjA S x w = -1 := by
  unfold tjA
  rw [h]
theorem k62 {X : XS} {N : GV} {R : GR} {L : GL} {Z : Nat × Nat × Bool} (hR : Rok R) {K n w : Nat} {V : GV} (hD : DI K V) (hK : K ≤ 1058) (hP : PK N 0 V) (hJ : JB N) (hn : n < 2 ^ 31) (hw : w < 4) : ∃ N' R' q, exec X 62 [vR 6 0, vI (nI n), vI (nI w)] (gg (nW N) R L Z) = some (.inl (some (vI (tjA (V 22 0) (nI n) w))), gg (nW N') R' L Z) ∧ QQ N V N' R' q ∧ FrR R R' := by
  have h0 : ¬ nI n < nI 0 := lt0_nI hn
  have i2 : inb 0 3 (nI w) = true := by rw [inb_t (by omega) (by omega) (by omega)]; exact decide_eq_true (by omega)
  obtain ⟨N', R', q, s, hQ, hr⟩ := q37 (X := X) (N := N) (R := R) (L := L) (Z := Z) hR hD hK hP hJ
  refine ⟨N', R', q, ?_, hQ, hr⟩
  have hR' := hr.1
  have e6 := hQ.1
  have hl := hQ.2.1
  by_cases x : n < q.length
  · have s17 := k17 (X := X) (L := L) (Z := Z) hD hP hQ hR' x hw
    have r := (hQ.2.2.1 n x).1
    have b := (hQ.2.2.1 n x).2.1
    have n16 : n < 16 := by omega
    generalize tjA (V 22 0) (nI n) w = y at s17 ⊢
    simp (disch := first | assumption | omega | exact nI_or0 | exact nI_or1 | exact bN_or _) only [in62, x62_0, x62_1, x62_4, x62_5, x62_6, x62_7, x62_10, x62_11, x62_14, x62_17, x62_18, x62_19, x62_22, x62_25, x62_28, x62_29, x62_32, x62_35, x62_36, x62_37, x62_38, x62_41, x62_44, x62_45, in62, reduceIte, Nat.reduceLT, nW_ap, nW_up, nI_add, pk_mul, nI_ltI, nI_eq, if_true, if_false, kont_r, kont_v, Nat.reduceAdd, Nat.reduceMul, Nat.not_lt, not_true_eq_false, not_false_eq_true, Nat.one_ne_zero, Nat.reduceEqDiff, Nat.lt_irrefl, reduceCtorEq, nI_or0, nI_or1, t77_t h0, t76_t i2, s, e6, x, r, s17]
  · rw [tjA_n (hQ.2.2.2.1 n x hn)]
    simp (disch := first | assumption | omega | exact nI_or0 | exact nI_or1 | exact bN_or _) only [in62, x62_0, x62_1, x62_4, x62_5, x62_6, x62_7, x62_10, x62_11, x62_14, x62_17, x62_18, x62_19, x62_22, x62_25, x62_28, x62_29, x62_32, x62_35, x62_36, x62_37, x62_38, x62_41, x62_44, x62_45, in62, reduceIte, Nat.reduceLT, nW_ap, nW_up, nI_add, pk_mul, nI_ltI, nI_eq, if_true, if_false, kont_r, kont_v, Nat.reduceAdd, Nat.reduceMul, Nat.not_lt, not_true_eq_false, not_false_eq_true, Nat.one_ne_zero, Nat.reduceEqDiff, Nat.lt_irrefl, reduceCtorEq, nI_or0, nI_or1, t77_t h0, t76_t i2, s, e6, x]
theorem c188 {X : XS} {N : GV} {R : GR} {L : GL} {Z : Nat × Nat × Bool} (hR : Rok R) {x y : Int32} (hI : INV N R) : RES X 188 152 [vI x, vI y] N R L Z := by
  obtain ⟨_, hJ, hP, hV, hT, _⟩ := id hI
  have hD := hV.1.1
  have h5 := hV.2.1
  by_cases h0 : x < nI 0
  · refine RES.t hI (k := 1) (by omega) (by omega) (w188_1 ?_) (t152_1 hR fun q => absurd h0 q)
    simp (disch := first | assumption | omega | exact nI_or0 | exact nI_or1 | exact bN_or _) only [in62, x62_0, x62_1, reduceIte, Nat.reduceLT, nW_ap, nW_up, nI_add, pk_mul, nI_ltI, nI_eq, if_true, if_false, kont_r, kont_v, Nat.reduceAdd, Nat.reduceMul, Nat.not_lt, not_true_eq_false, not_false_eq_true, Nat.one_ne_zero, Nat.reduceEqDiff, Nat.lt_irrefl, reduceCtorEq, nI_or0, nI_or1, t77_f h0, kont_t]
  · cases i2 : inb 0 3 y with
    | false =>
      refine RES.t hI (k := 1) (by omega) (by omega) (w188_1 ?_) (t152_1 hR fun _ => i2)
      simp (disch := first | assumption | omega | exact nI_or0 | exact nI_or1 | exact bN_or _) only [in62, x62_0, x62_1, x62_4, x62_5, x62_6, x62_7, reduceIte, Nat.reduceLT, nW_ap, nW_up, nI_add, pk_mul, nI_ltI, nI_eq, if_true, if_false, kont_r, kont_v, Nat.reduceAdd, Nat.reduceMul, Nat.not_lt, not_true_eq_false, not_false_eq_true, Nat.one_ne_zero, Nat.reduceEqDiff, Nat.lt_irrefl, reduceCtorEq, nI_or0, nI_or1, t77_t h0, t76_f i2, kont_t]
    | true =>
      obtain ⟨n, en, hn⟩ := nI_nn h0
      subst en
      obtain ⟨w, ew, -, hw⟩ := inb_n i2 (by omega) (by omega)
      subst ew
      obtain ⟨C, R', q, s, hQ, hr⟩ := k62 (X := X) (N := N) (R := R) (L := L) (Z := Z) (n := n) (w := w) hR hD (by omega) hP hJ hn (by omega)
      have hO := OUT.qu hD hP hJ hT hQ hr
      obtain ⟨e22, _, _⟩ := hO.e
      have s1 := t151 (X := X) (N := er C 0) (R := R') (L := up3 L 30 0 0 (tjA (N 22 0) (nI n) w).toInt64) (Z := Z) (x := nI n) (w := w) hr.1 (hD.e0 (by rw [er_22, e22])) (by omega)
      rw [er_22, e22] at s1
      exact RES.o (C := C) (W := er C 0) (hI.lk hO SE.er) er_0 (w188 s) (t152_2 hr.1 h0 (by omega) s1)
