/-! the class: outings -/
def OB (N : GV) (P : Nat) : Prop := N 4 P 3 ≤ 17 ∧ ∀ k, k < N 4 P 3 → N 14 P k < 2 ^ 28 ∧ N 15 P k < 2 ^ 28 ∧ N 16 P k < 2 ^ 28
/-- is an outing behind one of the day d with c children -/
def bhB (N : GV) (P i d c : Nat) : Bool := decide (d < N 14 P i ∨ (N 14 P i = d ∧ N 15 P i < c))
theorem t27 {X : XS} {N : GV} {R : GR} {L : GL} {Z : Nat × Nat × Bool} (hR : Rok R) {P i d c : Nat} (hP : P < 8) (hi : i < 17) (h1 : N 14 P i < 2 ^ 28) (h2 : N 15 P i < 2 ^ 28) (hd : d < 2 ^ 28) (hc : c < 2 ^ 28) : exec X 27 [vR 4 P, vI (nI i), vI (nI d), vI (nI c)] (gg (nW N) R L Z) = some (.inl (some (vI (nI (bN (bhB N P i d c))))), (gg (nW N) R L Z)) := by
  unfold bhB
  by_cases q1 : d < N 14 P i
  · rw [decide_eq_true (Or.inl q1)]
    simp (disch := first | assumption | omega | exact nI_or0 | exact nI_or1 | exact bN_or _) only [in27, x27_0, x27_1, x27_4, x27_5, x27_6, x27_7, x27_10, x27_11, x27_14, x27_15, x27_16, x27_17, x27_20, x27_21, x27_24, x27_25, x27_26, x27_27, x27_30, x27_31, x27_34, x27_35, in27, reduceIte, Nat.reduceLT, nW_ap, nW_up, nI_add, pk_mul, nI_ltI, nI_eq, if_true, if_false, kont_r, kont_v, Nat.reduceAdd, Nat.reduceMul, Nat.not_lt, not_true_eq_false, not_false_eq_true, Nat.one_ne_zero, Nat.reduceEqDiff, Nat.lt_irrefl, reduceCtorEq, nI_or0, nI_or1, q1, bN]
  · by_cases q2 : N 14 P i = d
    · by_cases q3 : N 15 P i < c
      · rw [decide_eq_true (Or.inr ⟨q2, q3⟩)]
        simp (disch := first | assumption | omega | exact nI_or0 | exact nI_or1 | exact bN_or _) only [in27, x27_0, x27_1, x27_4, x27_5, x27_6, x27_7, x27_10, x27_11, x27_14, x27_15, x27_16, x27_17, x27_20, x27_21, x27_24, x27_25, x27_26, x27_27, x27_30, x27_31, x27_34, x27_35, in27, reduceIte, Nat.reduceLT, nW_ap, nW_up, nI_add, pk_mul, nI_ltI, nI_eq, if_true, if_false, kont_r, kont_v, Nat.reduceAdd, Nat.reduceMul, Nat.not_lt, not_true_eq_false, not_false_eq_true, Nat.one_ne_zero, Nat.reduceEqDiff, Nat.lt_irrefl, reduceCtorEq, nI_or0, nI_or1, q2, q3, bN]
      · rw [decide_eq_false (by omega)]
        simp (disch := first | assumption | omega | exact nI_or0 | exact nI_or1 | exact bN_or _) only [in27, x27_0, x27_1, x27_4, x27_5, x27_6, x27_7, x27_10, x27_11, x27_14, x27_15, x27_16, x27_17, x27_20, x27_21, x27_24, x27_25, x27_26, x27_27, x27_30, x27_31, x27_34, x27_35, in27, reduceIte, Nat.reduceLT, nW_ap, nW_up, nI_add, pk_mul, nI_ltI, nI_eq, if_true, if_false, kont_r, kont_v, Nat.reduceAdd, Nat.reduceMul, Nat.not_lt, not_true_eq_false, not_false_eq_true, Nat.one_ne_zero, Nat.reduceEqDiff, Nat.lt_irrefl, reduceCtorEq, nI_or0, nI_or1, q2, q3, bN, Bool.false_eq_true]
    · rw [decide_eq_false (by omega)]
      simp (disch := first | assumption | omega | exact nI_or0 | exact nI_or1 | exact bN_or _) only [in27, x27_0, x27_1, x27_4, x27_5, x27_6, x27_7, x27_10, x27_11, x27_14, x27_15, x27_16, x27_17, x27_20, x27_21, x27_24, x27_25, x27_26, x27_27, x27_30, x27_31, x27_34, x27_35, in27, reduceIte, Nat.reduceLT, nW_ap, nW_up, nI_add, pk_mul, nI_ltI, nI_eq, if_true, if_false, kont_r, kont_v, Nat.reduceAdd, Nat.reduceMul, Nat.not_lt, not_true_eq_false, not_false_eq_true, Nat.one_ne_zero, Nat.reduceEqDiff, Nat.lt_irrefl, reduceCtorEq, nI_or0, nI_or1, q1, q2, bN, Bool.false_eq_true]
def mvN (N : GV) (P a b : Nat) : GV := up3 (up3 (up3 N 14 P b (N 14 P a)) 15 P b (N 15 P a)) 16 P b (N 16 P a)
theorem t29 {X : XS} {N : GV} {R : GR} {L : GL} {Z : Nat × Nat × Bool} (hR : Rok R) {P a b : Nat} (hP : P < 8) (ha : a < 17) (hb : b < 17) : exec X 29 [vR 4 P, vI (nI a), vI (nI b)] (gg (nW N) R L Z) = some (.inl none, (gg (nW (mvN N P a b)) R L Z)) := by
  have g1 : ∀ v, up3 N 14 P b v 15 P a = N 15 P a := fun v => up3_k _ _ (by decide)
  have g2 : ∀ v w, up3 (up3 N 14 P b v) 15 P b w 16 P a = N 16 P a := fun v w => by rw [up3_k _ _ (by decide), up3_k _ _ (by decide)]
  unfold mvN
  simp (disch := first | assumption | omega | exact nI_or0 | exact nI_or1 | exact bN_or _) only [in29, x29_0, x29_1, x29_4, x29_5, x29_6, x29_9, x29_10, x29_11, x29_12, x29_13, x29_16, x29_17, x29_18, x29_21, x29_22, x29_23, x29_24, x29_25, x29_28, x29_29, x29_30, x29_33, x29_34, x29_35, x29_36, in29, reduceIte, Nat.reduceLT, nW_ap, nW_up, nI_add, pk_mul, nI_ltI, nI_eq, if_true, if_false, kont_r, kont_v, Nat.reduceAdd, Nat.reduceMul, Nat.not_lt, not_true_eq_false, not_false_eq_true, Nat.one_ne_zero, Nat.reduceEqDiff, Nat.lt_irrefl, reduceCtorEq, nI_or0, nI_or1, g1, g2]
theorem mv_o {N : GV} {P a b k i s : Nat} (h : ¬ (14 ≤ k ∧ k ≤ 16 ∧ i = P ∧ s = b)) : mvN N P a b k i s = N k i s := by
  unfold mvN up3
  rw [if_neg (by omega), if_neg (by omega), if_neg (by omega)]
theorem mv_i {N : GV} {P a b k : Nat} (h : k = 14 ∨ k = 15 ∨ k = 16) : mvN N P a b k P b = N k P a := by
  rcases h with e | e | e <;> subst e <;> unfold mvN up3
  · rw [if_neg (by omega), if_neg (by omega), if_pos ⟨rfl, rfl, rfl⟩]
  · rw [if_neg (by omega), if_pos ⟨rfl, rfl, rfl⟩]
  · rw [if_pos ⟨rfl, rfl, rfl⟩]
theorem kU_i {k : Nat} : kU k = true ↔ 14 ≤ k ∧ k ≤ 16 := by
  unfold kU
  rw [decide_eq_true_eq]
  omega
theorem shU_U {N : GV} {P a n : Nat} (h : a < n) : mvN (shU kU N P (a + 1) n) P a (a + 1) = shU kU N P a n := by
  funext k i s
  by_cases q1 : 14 ≤ k ∧ k ≤ 16 ∧ i = P ∧ s = a + 1
  · obtain ⟨e1, e2, e3, e4⟩ := q1
    subst e3 e4
    rw [mv_i (by omega)]
    unfold shU
    rw [if_neg (by omega), if_pos ⟨kU_i.2 ⟨e1, e2⟩, rfl, by omega, by omega⟩]; rfl
  · rw [mv_o q1]
    unfold shU
    by_cases q3 : kU k = true ∧ i = P ∧ a + 1 < s ∧ s ≤ n
    · rw [if_pos q3, if_pos ⟨q3.1, q3.2.1, by omega, q3.2.2.2⟩]
    · rw [if_neg q3, if_neg fun q => by
        have := kU_i.1 q.1
        have hs : s = a + 1 := by
          by_cases e : s = a + 1
          · exact e
          · exact absurd ⟨q.1, q.2.1, by omega, q.2.2.2⟩ q3
        exact q1 ⟨this.1, this.2, q.2.1, hs⟩]
/-- an outing comes in at a place -/
def oiN (N : GV) (P at' d c g : Nat) : GV := up3 (up3 (up3 (up3 (shU kU N P at' (N 4 P 3)) 14 P at' d) 15 P at' c) 16 P at' g) 4 P 3 (N 4 P 3 + 1)
theorem t26 {X : XS} {N : GV} {R : GR} {L : GL} {Z : Nat × Nat × Bool} (hR : Rok R) {P d c g at' : Nat} (hP : P < 8) (h : N 4 P 3 < 17) (hF : OB N P) (hat : at' ≤ N 4 P 3) (hd : d < 2 ^ 28) (hc : c < 2 ^ 28) (h1 : ∀ j, at' ≤ j → j < N 4 P 3 → bhB N P j d c = true) (h2 : ∀ j, j < at' → bhB N P j d c = false) : exec X 26 [vR 4 P, vI (nI d), vI (nI c), vI (nI g)] (gg (nW N) R L Z) = some (.inl none, (gg (nW (oiN N P at' d c g)) R L Z)) := by
  have key : ∀ m, m ≤ N 4 P 3 - at' → ex X 26 16 [vR 4 P, vI (nI d), vI (nI c), vI (nI g), vI (nI (N 4 P 3 - m))] [] (gg (nW (shU kU N P (N 4 P 3 - m) (N 4 P 3))) R L Z) = some (.inl none, (gg (nW (oiN N P at' d c g)) R L Z)) := by
    refine down _ ?_ ?_
    · have e1 : N 4 P 3 - (N 4 P 3 - at') = at' := by omega
      rw [e1, x26_16]
      unfold oiN
      generalize hM : shU kU N P at' (N 4 P 3) = M
      have e12 : M 4 P 3 = N 4 P 3 := by rw [← hM]; exact if_neg fun q => absurd q.1 (by unfold kU; decide)
      have k2 : ∀ v w x, up3 (up3 (up3 M 14 P at' v) 15 P at' w) 16 P at' x 4 P 3 = N 4 P 3 := fun v w x => by rw [up3_k _ _ (by decide), up3_k _ _ (by decide), up3_k _ _ (by decide), e12]
      by_cases q : 0 < at'
      · obtain ⟨x, hx⟩ : ∃ x, at' = x + 1 := ⟨at' - 1, by omega⟩
        subst hx
        have q2 := h2 x (by omega)
        have e8 : ∀ k, M k P x = N k P x := fun k => by rw [← hM]; exact if_neg fun q => by omega
        have hb := hF.2 x (by omega)
        have ps : nI (x + 1) - nI 1 = nI x := by rw [pk_sub (by omega)]; rfl
        have eb : bhB M P x d c = bhB N P x d c := by unfold bhB; rw [e8, e8]
        have s1 := t27 (X := X) (N := M) (L := L) (Z := Z) (i := x) (d := d) (c := c) hR hP (by omega) (by rw [e8]; exact hb.1) (by rw [e8]; exact hb.2.1) hd hc
        rw [eb, q2] at s1
        simp (disch := first | assumption | omega | exact nI_or0 | exact nI_or1 | exact bN_or _) only [x26_18, x26_21, x26_22, x26_24, x26_25, x26_26, x26_27, x26_28, x26_31, x26_34, x26_35, x26_37, x26_38, x26_39, x26_41, x26_44, x26_47, x26_50, x26_51, x26_54, x26_56, x26_57, x26_58, x26_59, x26_62, x26_64, x26_65, x26_66, x26_67, x26_70, x26_72, x26_73, x26_74, x26_75, x26_76, x26_79, x26_80, x26_81, x26_84, reduceIte, Nat.reduceLT, nW_ap, nW_up, nI_add, pk_mul, nI_ltI, nI_eq, if_true, if_false, kont_r, kont_v, Nat.reduceAdd, Nat.reduceMul, Nat.not_lt, not_true_eq_false, not_false_eq_true, Nat.one_ne_zero, Nat.reduceEqDiff, Nat.lt_irrefl, reduceCtorEq, nI_or0, nI_or1, q, ps, s1, bN, Bool.false_eq_true, k2]
      · have e0 : at' = 0 := by omega
        subst e0
        simp (disch := first | assumption | omega | exact nI_or0 | exact nI_or1 | exact bN_or _) only [x26_18, x26_21, x26_22, x26_24, x26_25, x26_26, x26_27, x26_28, x26_31, x26_34, x26_35, x26_37, x26_38, x26_39, x26_41, x26_44, x26_47, x26_50, x26_51, x26_54, x26_56, x26_57, x26_58, x26_59, x26_62, x26_64, x26_65, x26_66, x26_67, x26_70, x26_72, x26_73, x26_74, x26_75, x26_76, x26_79, x26_80, x26_81, x26_84, reduceIte, Nat.reduceLT, nW_ap, nW_up, nI_add, pk_mul, nI_ltI, nI_eq, if_true, if_false, kont_r, kont_v, Nat.reduceAdd, Nat.reduceMul, Nat.not_lt, not_true_eq_false, not_false_eq_true, Nat.one_ne_zero, Nat.reduceEqDiff, Nat.lt_irrefl, reduceCtorEq, nI_or0, nI_or1, k2]
    · intro m hm ih
      obtain ⟨x, hx⟩ : ∃ x, N 4 P 3 - m = x + 1 := ⟨N 4 P 3 - m - 1, by omega⟩
      have hx2 : N 4 P 3 - (m + 1) = x := by omega
      rw [hx]
      rw [hx2] at ih
      have q := h1 x (by omega) (by omega)
      have hb := hF.2 x (by omega)
      have su := shU_U (N := N) (P := P) (a := x) (n := N 4 P 3) (by omega)
      rw [← su] at ih
      generalize hM : shU kU N P (x + 1) (N 4 P 3) = M at ih ⊢
      have e8 : ∀ k, M k P x = N k P x := fun k => by rw [← hM]; exact if_neg fun q => by omega
      have eb : bhB M P x d c = bhB N P x d c := by unfold bhB; rw [e8, e8]
      have s1 := t27 (X := X) (N := M) (L := L) (Z := Z) (i := x) (d := d) (c := c) hR hP (by omega) (by rw [e8]; exact hb.1) (by rw [e8]; exact hb.2.1) hd hc
      have s2 := t29 (X := X) (N := M) (L := L) (Z := Z) (a := x) (b := x + 1) hR hP (by omega) (by omega)
      rw [eb, q] at s1
      have ps : nI (x + 1) - nI 1 = nI x := by rw [pk_sub (by omega)]; rfl
      have q0 : 0 < x + 1 := by omega
      rw [x26_16]
      simp (disch := first | assumption | omega | exact nI_or0 | exact nI_or1 | exact bN_or _) only [x26_18, x26_21, x26_22, x26_24, x26_25, x26_26, x26_27, x26_28, x26_31, x26_34, x26_35, x26_37, x26_38, x26_39, x26_41, x26_44, x26_47, reduceIte, Nat.reduceLT, nW_ap, nW_up, nI_add, pk_mul, nI_ltI, nI_eq, if_true, if_false, kont_r, kont_v, Nat.reduceAdd, Nat.reduceMul, Nat.not_lt, not_true_eq_false, not_false_eq_true, Nat.one_ne_zero, Nat.reduceEqDiff, Nat.lt_irrefl, reduceCtorEq, nI_or0, nI_or1, q0, ps, s1, s2, bN, pk_m1]
      exact ih
  have h0 := key 0 (Nat.zero_le _)
  rw [Nat.sub_zero, shU_0] at h0
  simp (disch := first | assumption | omega | exact nI_or0 | exact nI_or1 | exact bN_or _) only [in26, x26_0, x26_1, x26_4, x26_6, x26_9, x26_10, x26_11, x26_14, reduceIte, Nat.reduceLT, nW_ap, nW_up, nI_add, pk_mul, nI_ltI, nI_eq, if_true, if_false, kont_r, kont_v, Nat.reduceAdd, Nat.reduceMul, Nat.not_lt, not_true_eq_false, not_false_eq_true, Nat.one_ne_zero, Nat.reduceEqDiff, Nat.lt_irrefl, reduceCtorEq, nI_or0, nI_or1, h]
  exact h0
/-- the outings of the class -/
def coA (N : GV) (P k : Nat) : OT := (N 14 P k, N 15 P k, N 16 P k)
def coL (N : GV) (P n : Nat) : List OT := (List.range n).map (coA N P)
theorem coL_s {N : GV} {P n : Nat} : coL N P (n + 1) = coL N P n ++ [coA N P n] := by
  unfold coL
  rw [List.range_succ, List.map_append]; rfl
def cdI (d P : Nat) (N : GV) : Nat → GV × Nat × Nat
  | 0 => (N, 0, 0)
  | i + 1 => let q := cdI d P N i
    if N 14 P i = d then (q.1, q.2.1, q.2.2 + N 15 P i) else (mvN q.1 P i q.2.1, q.2.1 + 1, q.2.2)
theorem cdI_w {d P : Nat} {N : GV} : ∀ i,
    (cdI d P N i).2.1 = ((coL N P i).filter fun o => decide (¬ o.1 = d)).length ∧
    (cdI d P N i).2.1 ≤ i ∧
    (cdI d P N i).2.2 = kids ((coL N P i).filter fun o => decide (o.1 = d)) ∧
    (∀ j, j < (cdI d P N i).2.1 → coA (cdI d P N i).1 P j = ((coL N P i).filter fun o => decide (¬ o.1 = d)).getD j (0, 0, 0)) ∧
    (∀ k a s, ¬ (14 ≤ k ∧ k ≤ 16 ∧ a = P ∧ s < i) → (cdI d P N i).1 k a s = N k a s) := by
  intro i
  induction i with
  | zero => exact ⟨rfl, Nat.le_refl _, rfl, fun j hj => absurd hj (Nat.not_lt_zero _), fun k a s _ => rfl⟩
  | succ i ih =>
    obtain ⟨h1, h2, h3, h4, h5⟩ := ih
    rw [coL_s]
    unfold cdI
    by_cases q : N 14 P i = d
    · have f1 : [coA N P i].filter (fun o => decide (¬ o.1 = d)) = [] := by simp [coA, q]
      have f2 : [coA N P i].filter (fun o => decide (o.1 = d)) = [coA N P i] := by simp [coA, q]
      simp only [if_pos q]
      rw [List.filter_append, List.filter_append, f1, f2, List.append_nil, kids_ap]
      refine ⟨h1, by omega, ?_, h4, fun k a s hs => h5 k a s (by omega)⟩
      rw [h3]; rfl
    · have f1 : [coA N P i].filter (fun o => decide (¬ o.1 = d)) = [coA N P i] := by simp [coA, q]
      have f2 : [coA N P i].filter (fun o => decide (o.1 = d)) = [] := by simp [coA, q]
      simp only [if_neg q]
      rw [List.filter_append, List.filter_append, f1, f2, List.append_nil]
      generalize hm : (cdI d P N i).2.1 = m at h1 h2 h4
      generalize hM : (cdI d P N i).1 = M at h4 h5
      generalize hF : (coL N P i).filter (fun o => decide (¬ o.1 = d)) = F at h1 h4
      have r : ∀ k, M k P i = N k P i := fun k => h5 _ _ _ (by omega)
      refine ⟨by rw [List.length_append, h1]; rfl, by omega, h3, ?_, ?_⟩
      · intro j hj
        by_cases e : j = m
        · subst e
          rw [gD_r (by omega), ← h1, Nat.sub_self]
          show (mvN M P i j 14 P j, mvN M P i j 15 P j, mvN M P i j 16 P j) = (N 14 P i, N 15 P i, N 16 P i)
          rw [mv_i (by omega), mv_i (by omega), mv_i (by omega), r, r, r]
        · rw [gD_l (by omega), ← h4 j (by omega)]
          show (mvN M P i m 14 P j, mvN M P i m 15 P j, mvN M P i m 16 P j) = (M 14 P j, M 15 P j, M 16 P j)
          rw [mv_o (by omega), mv_o (by omega), mv_o (by omega)]
      · intro k a s hs
        rw [mv_o (by omega)]
        exact h5 k a s (by omega)
def odN (N : GV) (P d : Nat) : GV := up3 (cdI d P N (N 4 P 3)).1 4 P 3 (cdI d P N (N 4 P 3)).2.1
theorem t28 {X : XS} {N : GV} {R : GR} {L : GL} {Z : Nat × Nat × Bool} (hR : Rok R) {P d : Nat} (hP : P < 8) (hF : OB N P) (hd : d < 2 ^ 28) : exec X 28 [vR 4 P, vI (nI d)] (gg (nW N) R L Z) = some (.inl (some (vI (nI (cdI d P N (N 4 P 3)).2.2))), (gg (nW (odN N P d)) R L Z)) := by
  have h17 := hF.1
  have key : ∀ k, k ≤ N 4 P 3 → ex X 28 7 [vR 4 P, vI (nI d), vI (nI (cdI d P N k).2.1), vI (nI (cdI d P N k).2.2), vI (nI k)] [] (gg (nW ((cdI d P N k).1)) R L Z) = some (.inl (some (vI (nI (cdI d P N (N 4 P 3)).2.2))), (gg (nW (odN N P d)) R L Z)) := by
    refine down _ ?_ ?_
    · obtain ⟨_, _, _, _, h5⟩ := cdI_w (d := d) (P := P) (N := N) (N 4 P 3)
      have e4 : (cdI d P N (N 4 P 3)).1 4 P 3 = N 4 P 3 := h5 _ _ _ (by omega)
      unfold odN
      rw [x28_7]
      simp (disch := first | assumption | omega | exact nI_or0 | exact nI_or1 | exact bN_or _) only [x28_9, x28_10, x28_13, x28_16, x28_17, x28_20, x28_22, x28_23, x28_24, x28_27, x28_28, x28_29, x28_32, x28_34, x28_35, x28_36, x28_37, x28_40, x28_41, x28_43, x28_44, x28_47, x28_50, x28_53, x28_56, x28_57, x28_58, x28_61, x28_62, reduceIte, Nat.reduceLT, nW_ap, nW_up, nI_add, pk_mul, nI_ltI, nI_eq, if_true, if_false, kont_r, kont_v, Nat.reduceAdd, Nat.reduceMul, Nat.not_lt, not_true_eq_false, not_false_eq_true, Nat.one_ne_zero, Nat.reduceEqDiff, Nat.lt_irrefl, reduceCtorEq, nI_or0, nI_or1, e4]
    · intro k hk ih
      obtain ⟨_, h2, _, _, h5⟩ := cdI_w (d := d) (P := P) (N := N) k
      have e4 : (cdI d P N k).1 4 P 3 = N 4 P 3 := h5 _ _ _ (by omega)
      have e14 : (cdI d P N k).1 14 P k = N 14 P k := h5 _ _ _ (by omega)
      have e15 : (cdI d P N k).1 15 P k = N 15 P k := h5 _ _ _ (by omega)
      have hb := hF.2 k hk
      have hb' : N 14 P k < 2 ^ 31 := by omega
      have s1 := t29 (X := X) (N := (cdI d P N k).1) (L := L) (Z := Z) (a := k) (b := (cdI d P N k).2.1) hR hP (by omega) (by omega)
      rw [x28_7]
      by_cases q : N 14 P k = d
      · have e : cdI d P N (k + 1) = ((cdI d P N k).1, (cdI d P N k).2.1, (cdI d P N k).2.2 + N 15 P k) := if_pos q
        rw [e] at ih
        rw [q] at e14
        simp (disch := first | assumption | omega | exact nI_or0 | exact nI_or1 | exact bN_or _) only [x28_9, x28_10, x28_13, x28_16, x28_17, x28_20, x28_22, x28_23, x28_24, x28_27, x28_28, x28_29, x28_32, x28_34, x28_35, x28_36, x28_37, x28_40, x28_41, x28_43, x28_44, x28_47, x28_50, x28_53, reduceIte, Nat.reduceLT, nW_ap, nW_up, nI_add, pk_mul, nI_ltI, nI_eq, if_true, if_false, kont_r, kont_v, Nat.reduceAdd, Nat.reduceMul, Nat.not_lt, not_true_eq_false, not_false_eq_true, Nat.one_ne_zero, Nat.reduceEqDiff, Nat.lt_irrefl, reduceCtorEq, nI_or0, nI_or1, e4, hk, e14, e15]
        exact ih
      · have e : cdI d P N (k + 1) = (mvN (cdI d P N k).1 P k (cdI d P N k).2.1, (cdI d P N k).2.1 + 1, (cdI d P N k).2.2) := if_neg q
        rw [e] at ih
        simp (disch := first | assumption | omega | exact nI_or0 | exact nI_or1 | exact bN_or _) only [x28_9, x28_10, x28_13, x28_16, x28_17, x28_20, x28_22, x28_23, x28_24, x28_27, x28_28, x28_29, x28_32, x28_34, x28_35, x28_36, x28_37, x28_40, x28_41, x28_43, x28_44, x28_47, x28_50, x28_53, reduceIte, Nat.reduceLT, nW_ap, nW_up, nI_add, pk_mul, nI_ltI, nI_eq, if_true, if_false, kont_r, kont_v, Nat.reduceAdd, Nat.reduceMul, Nat.not_lt, not_true_eq_false, not_false_eq_true, Nat.one_ne_zero, Nat.reduceEqDiff, Nat.lt_irrefl, reduceCtorEq, nI_or0, nI_or1, e4, hk, e14, q, s1]
        exact ih
  have h0 := key 0 (Nat.zero_le _)
  have h0 : ex X 28 7 [vR 4 P, vI (nI d), vI (nI 0), vI (nI 0), vI (nI 0)] [] (gg (nW N) R L Z) = _ := h0
  simp (disch := first | assumption | omega | exact nI_or0 | exact nI_or1 | exact bN_or _) only [in28, x28_0, x28_1, x28_2, x28_3, x28_4, x28_5, reduceIte, Nat.reduceLT, nW_ap, nW_up, nI_add, pk_mul, nI_ltI, nI_eq, if_true, if_false, kont_r, kont_v, Nat.reduceAdd, Nat.reduceMul, Nat.not_lt, not_true_eq_false, not_false_eq_true, Nat.one_ne_zero, Nat.reduceEqDiff, Nat.lt_irrefl, reduceCtorEq, nI_or0, nI_or1]
  exact h0
