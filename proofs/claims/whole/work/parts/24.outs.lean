/-! the reference's outings of a day -/
def nxoN (S D : Nat → Nat) (d : Nat) : Nat → Option Nat
  | 0 => none
  | k + 1 => if S (153 + 3 * k) = d ∧ D k = 0 ∧ (match nxoN S D d k with | none => true | some b => decide (S (153 + 3 * b + 1) < S (153 + 3 * k + 1))) = true then some k else nxoN S D d k
theorem nxoN_lt {S D : Nat → Nat} {d : Nat} : ∀ {k b : Nat}, nxoN S D d k = some b → b < k ∧ S (153 + 3 * b) = d ∧ D b = 0 := by
  intro k
  induction k with
  | zero => intro b h; cases h
  | succ k ih =>
    intro b h
    by_cases q : S (153 + 3 * k) = d ∧ D k = 0 ∧ (match nxoN S D d k with | none => true | some b => decide (S (153 + 3 * b + 1) < S (153 + 3 * k + 1))) = true
    · rw [nxoN, if_pos q] at h; cases h; exact ⟨by omega, q.1, q.2.1⟩
    · rw [nxoN, if_neg q] at h; have := ih h; exact ⟨by omega, this.2⟩
theorem t118 {X : XS} {N : GV} {R : GR} {L : GL} {Z : Nat × Nat × Bool} (hR : Rok R) {K : Nat} (h : DI K N) (hD : ∀ k, k < 17 → N 27 0 k ≤ 1) {d : Nat} (hd : d < 2 ^ 28) : exec X 118 [vR 7 0, vI (nI d)] (gg (nW N) R L Z) = some (.inl (some (vI (oI (nxoN (N 22 0) (N 27 0) d (N 22 0 7))))), (gg (nW N) R L Z)) := by
  have h7 := h.h7
  have hK := h.hK
  generalize hr : (some (.inl (some (vI (oI (nxoN (N 22 0) (N 27 0) d (N 22 0 7))))), (gg (nW N) R L Z)) : Option RS) = r
  have key : ∀ k, k ≤ N 22 0 7 → ∀ l4 : AV, ex X 118 4 [vR 7 0, vI (nI d), vI (oI (nxoN (N 22 0) (N 27 0) d k)), vI (nI k), l4] [] (gg (nW N) R L Z) = r := by
    refine down _ ?_ ?_
    · intro l4
      rw [x118_4]
      simp (disch := first | assumption | omega | exact nI_or0 | exact nI_or1) only [x118_5, x118_6, x118_9, x118_11, x118_12, x118_78, x118_79, reduceIte, Nat.reduceLT, nW_ap, nW_up, nI_add, pk_mul, nI_ltI, nI_eq, if_true, if_false, kont_r, kont_v, Nat.reduceAdd, Nat.reduceMul, Nat.not_lt, not_true_eq_false, not_false_eq_true, Nat.one_ne_zero, Nat.reduceEqDiff, Nat.lt_irrefl, reduceCtorEq, nI_or0, nI_or1]
      exact hr
    · intro k hk ih l4
      have b2 := hD k (by omega)
      have b3 := h.ou (k := k) (by omega)
      rw [x118_4]
      simp only [nxoN] at ih
      by_cases q : N 22 0 (153 + 3 * k) = d
      · by_cases q2 : N 27 0 k = 0
        · cases hn : nxoN (N 22 0) (N 27 0) d k with
          | none =>
            simp only [hn, q, q2, and_self, if_true] at ih
            simp (disch := first | assumption | omega | exact nI_or0 | exact nI_or1) only [x118_5, x118_6, x118_9, x118_11, x118_12, x118_15, x118_16, x118_17, x118_18, x118_21, x118_22, x118_25, x118_26, x118_29, x118_30, x118_31, x118_34, x118_35, x118_38, x118_39, x118_41, x118_43, x118_46, x118_47, x118_48, x118_51, x118_52, x118_53, x118_54, x118_57, x118_58, x118_59, x118_60, x118_63, x118_66, x118_67, x118_70, x118_71, x118_72, x118_75, reduceIte, Nat.reduceLT, nW_ap, nW_up, nI_add, pk_mul, nI_ltI, nI_eq, if_true, if_false, kont_r, kont_v, Nat.reduceAdd, Nat.reduceMul, Nat.not_lt, not_true_eq_false, not_false_eq_true, Nat.one_ne_zero, Nat.reduceEqDiff, Nat.lt_irrefl, reduceCtorEq, nI_or0, nI_or1, hk, t100, Nat.add_zero, q, q2, oI]
            exact ih _
          | some b =>
            have hb := nxoN_lt hn
            have hb1 := nI_m1 (n := b) (by omega)
            have b4 := h.ou (k := b) (by omega)
            by_cases hq : N 22 0 (153 + 3 * b + 1) < N 22 0 (153 + 3 * k + 1) <;>
              simp only [hn, q, q2, hq, decide_true, decide_false, true_and, and_true, Bool.false_eq_true, if_true, if_false] at ih <;>
              simp (disch := first | assumption | omega | exact nI_or0 | exact nI_or1) only [x118_5, x118_6, x118_9, x118_11, x118_12, x118_15, x118_16, x118_17, x118_18, x118_21, x118_22, x118_25, x118_26, x118_29, x118_30, x118_31, x118_34, x118_35, x118_38, x118_39, x118_41, x118_43, x118_46, x118_47, x118_48, x118_51, x118_52, x118_53, x118_54, x118_57, x118_58, x118_59, x118_60, x118_63, x118_66, x118_67, x118_70, x118_71, x118_72, x118_75, reduceIte, Nat.reduceLT, nW_ap, nW_up, nI_add, pk_mul, nI_ltI, nI_eq, if_true, if_false, kont_r, kont_v, Nat.reduceAdd, Nat.reduceMul, Nat.not_lt, not_true_eq_false, not_false_eq_true, Nat.one_ne_zero, Nat.reduceEqDiff, Nat.lt_irrefl, reduceCtorEq, nI_or0, nI_or1, hk, t100, Nat.add_zero, q, q2, oI, hb1, hq] <;> exact ih _
        · simp only [q, q2, false_and, and_false, if_false] at ih
          generalize oI (nxoN (N 22 0) (N 27 0) d k) = o at ih ⊢
          simp (disch := first | assumption | omega | exact nI_or0 | exact nI_or1) only [x118_5, x118_6, x118_9, x118_11, x118_12, x118_15, x118_16, x118_17, x118_18, x118_21, x118_22, x118_25, x118_26, x118_29, x118_30, x118_31, x118_34, x118_35, x118_38, x118_39, x118_41, x118_43, x118_46, x118_47, x118_48, x118_51, x118_52, x118_53, x118_54, x118_57, x118_58, x118_59, x118_60, x118_63, x118_66, x118_67, x118_70, x118_71, x118_72, x118_75, reduceIte, Nat.reduceLT, nW_ap, nW_up, nI_add, pk_mul, nI_ltI, nI_eq, if_true, if_false, kont_r, kont_v, Nat.reduceAdd, Nat.reduceMul, Nat.not_lt, not_true_eq_false, not_false_eq_true, Nat.one_ne_zero, Nat.reduceEqDiff, Nat.lt_irrefl, reduceCtorEq, nI_or0, nI_or1, hk, t100, Nat.add_zero, q, q2]
          exact ih _
      · simp only [q, false_and, if_false] at ih
        generalize oI (nxoN (N 22 0) (N 27 0) d k) = o at ih ⊢
        simp (disch := first | assumption | omega | exact nI_or0 | exact nI_or1) only [x118_5, x118_6, x118_9, x118_11, x118_12, x118_15, x118_16, x118_17, x118_18, x118_21, x118_22, x118_25, x118_26, x118_29, x118_30, x118_31, x118_34, x118_35, x118_38, x118_39, x118_41, x118_43, x118_46, x118_47, x118_48, x118_51, x118_52, x118_53, x118_54, x118_57, x118_58, x118_59, x118_60, x118_63, x118_66, x118_67, x118_70, x118_71, x118_72, x118_75, reduceIte, Nat.reduceLT, nW_ap, nW_up, nI_add, pk_mul, nI_ltI, nI_eq, if_true, if_false, kont_r, kont_v, Nat.reduceAdd, Nat.reduceMul, Nat.not_lt, not_true_eq_false, not_false_eq_true, Nat.one_ne_zero, Nat.reduceEqDiff, Nat.lt_irrefl, reduceCtorEq, nI_or0, nI_or1, hk, t100, Nat.add_zero, q]
        exact ih _
  simp (disch := first | assumption | omega | exact nI_or0 | exact nI_or1) only [in118, x118_0, x118_1, x118_2, x118_3]
  exact key 0 (Nat.zero_le _) _
theorem gD_l {α : Type} {l m : List α} {k : Nat} {d : α} (h : k < l.length) : (l ++ m).getD k d = l.getD k d := by
  rw [List.getD_eq_getElem?_getD, List.getD_eq_getElem?_getD, List.getElem?_append_left h]
theorem gD_r {α : Type} {l m : List α} {k : Nat} {d : α} (h : l.length ≤ k) : (l ++ m).getD k d = m.getD (k - l.length) d := by
  rw [List.getD_eq_getElem?_getD, List.getD_eq_getElem?_getD, List.getElem?_append_right h]
/-- an outing of the list: day, children, gate -/
abbrev OT : Type := Nat × Nat × Nat
def fld (o : OT) : Nat → Nat
  | 0 => o.1
  | 1 => o.2.1
  | _ => o.2.2
def ouA (S : Nat → Nat) (k : Nat) : OT := (S (153 + 3 * k), S (153 + 3 * k + 1), S (153 + 3 * k + 2))
def ouL (S : Nat → Nat) (n : Nat) : List OT := (List.range n).map (ouA S)
def kids (l : List OT) : Nat := (l.map fun o => o.2.1).sum
def setO (N : GV) (l : List OT) : GV := fun k i s => if k = 22 ∧ i = 0 ∧ 153 ≤ s ∧ s < 204 then fld (l.getD ((s - 153) / 3) (0, 0, 0)) ((s - 153) % 3) else if k = 22 ∧ i = 0 ∧ s = 7 then l.length else N k i s
/-- the slots behind the outings are empty -/
def ouZ (S : Nat → Nat) : Prop := ∀ s, 153 + 3 * S 7 ≤ s → s < 204 → S s = 0
/-- one step of drops: what stays is moved to the front -/
def drp1 (d i : Nat) (q : GV × Nat × Nat) : GV × Nat × Nat :=
  if q.1 22 0 (153 + 3 * i) = d then (q.1, q.2.1, q.2.2 + q.1 22 0 (153 + 3 * i + 1))
  else (up3 (up3 (up3 q.1 22 0 (153 + 3 * q.2.1) (q.1 22 0 (153 + 3 * i))) 22 0 (153 + 3 * q.2.1 + 1) (q.1 22 0 (153 + 3 * i + 1))) 22 0 (153 + 3 * q.2.1 + 2) (q.1 22 0 (153 + 3 * i + 2)), q.2.1 + 1, q.2.2)
def drpI (d : Nat) (N : GV) : Nat → GV × Nat × Nat
  | 0 => (N, 0, 0)
  | i + 1 => drp1 d i (drpI d N i)
theorem ouL_s {S : Nat → Nat} {n : Nat} : ouL S (n + 1) = ouL S n ++ [ouA S n] := by
  unfold ouL
  rw [List.range_succ, List.map_append]; rfl
theorem kids_ap {l m : List OT} : kids (l ++ m) = kids l + kids m := by unfold kids; rw [List.map_append, List.sum_append]
theorem drpI_w {d : Nat} {N : GV} : ∀ i, i ≤ 17 →
    (drpI d N i).2.1 = ((ouL (N 22 0) i).filter fun o => decide (¬ o.1 = d)).length ∧
    (drpI d N i).2.1 ≤ i ∧
    (drpI d N i).2.2 = kids ((ouL (N 22 0) i).filter fun o => decide (o.1 = d)) ∧
    (∀ j w, j < (drpI d N i).2.1 → w < 3 → (drpI d N i).1 22 0 (153 + 3 * j + w) = fld (((ouL (N 22 0) i).filter fun o => decide (¬ o.1 = d)).getD j (0, 0, 0)) w) ∧
    (∀ k a s, ¬ (k = 22 ∧ a = 0 ∧ 153 ≤ s ∧ s < 153 + 3 * i) → (drpI d N i).1 k a s = N k a s) := by
  intro i
  induction i with
  | zero => intro _; exact ⟨rfl, Nat.le_refl _, rfl, fun j w hj => by exact absurd hj (Nat.not_lt_zero _), fun k a s _ => rfl⟩
  | succ i ih =>
    intro hi
    obtain ⟨h1, h2, h3, h4, h5⟩ := ih (by omega)
    have r0 : (drpI d N i).1 22 0 (153 + 3 * i) = N 22 0 (153 + 3 * i) := h5 _ _ _ (by omega)
    have r1 : (drpI d N i).1 22 0 (153 + 3 * i + 1) = N 22 0 (153 + 3 * i + 1) := h5 _ _ _ (by omega)
    have r2 : (drpI d N i).1 22 0 (153 + 3 * i + 2) = N 22 0 (153 + 3 * i + 2) := h5 _ _ _ (by omega)
    rw [ouL_s]
    show (drp1 d i (drpI d N i)).2.1 = _ ∧ (drp1 d i (drpI d N i)).2.1 ≤ _ ∧ (drp1 d i (drpI d N i)).2.2 = _ ∧ (∀ j w, j < (drp1 d i (drpI d N i)).2.1 → w < 3 → (drp1 d i (drpI d N i)).1 22 0 (153 + 3 * j + w) = _) ∧ ∀ k a s, _ → (drp1 d i (drpI d N i)).1 k a s = N k a s
    unfold drp1
    rw [r0, r1, r2]
    by_cases q : N 22 0 (153 + 3 * i) = d
    · rw [if_pos q]
      have f1 : [ouA (N 22 0) i].filter (fun o => decide (¬ o.1 = d)) = [] := by simp [ouA, q]
      have f2 : [ouA (N 22 0) i].filter (fun o => decide (o.1 = d)) = [ouA (N 22 0) i] := by simp [ouA, q]
      rw [List.filter_append, List.filter_append, f1, f2, List.append_nil, kids_ap]
      refine ⟨h1, by show (drpI d N i).2.1 ≤ _; omega, ?_, h4, fun k a s hs => h5 k a s (by omega)⟩
      show (drpI d N i).2.2 + N 22 0 (153 + 3 * i + 1) = _
      rw [h3]; rfl
    · rw [if_neg q]
      have f1 : [ouA (N 22 0) i].filter (fun o => decide (¬ o.1 = d)) = [ouA (N 22 0) i] := by simp [ouA, q]
      have f2 : [ouA (N 22 0) i].filter (fun o => decide (o.1 = d)) = [] := by simp [ouA, q]
      rw [List.filter_append, List.filter_append, f1, f2, List.append_nil]
      generalize hm : (drpI d N i).2.1 = m at h1 h2 h4
      generalize hM : (drpI d N i).1 = M at h4 h5
      generalize hF : (ouL (N 22 0) i).filter (fun o => decide (¬ o.1 = d)) = F at h1 h4
      refine ⟨by rw [List.length_append]; show m + 1 = _; rw [h1]; rfl, by show m + 1 ≤ _; omega, h3, ?_, ?_⟩
      · intro j w hj hw
        show up3 (up3 (up3 M 22 0 (153 + 3 * m) (N 22 0 (153 + 3 * i))) 22 0 (153 + 3 * m + 1) (N 22 0 (153 + 3 * i + 1))) 22 0 (153 + 3 * m + 2) (N 22 0 (153 + 3 * i + 2)) 22 0 (153 + 3 * j + w) = _
        have hj : j < m + 1 := hj
        by_cases e : j = m
        · subst e
          rw [gD_r (by omega), ← h1, Nat.sub_self]
          show _ = fld (ouA (N 22 0) i) w
          match w, hw with
          | 0, _ => rw [up3_s _ _ (by omega), up3_s _ _ (by omega)]; exact up3_self _ _ _ _ _
          | 1, _ => rw [up3_s _ _ (by omega), up3_self]; rfl
          | 2, _ => rw [up3_self]; rfl
        · rw [up3_s _ _ (by omega), up3_s _ _ (by omega), up3_s _ _ (by omega), gD_l (by omega)]
          exact h4 j w (by omega) hw
      · intro k a s hs
        show up3 (up3 (up3 M 22 0 (153 + 3 * m) (N 22 0 (153 + 3 * i))) 22 0 (153 + 3 * m + 1) (N 22 0 (153 + 3 * i + 1))) 22 0 (153 + 3 * m + 2) (N 22 0 (153 + 3 * i + 2)) k a s = _
        rw [← h5 k a s (by omega)]
        unfold up3
        rw [if_neg (by omega), if_neg (by omega), if_neg (by omega)]
theorem fil_map {α : Type} {p : α → Bool} {l : List α} : (l.filter p).length ≤ l.length := List.length_filter_le _ _
theorem a119 {X : XS} {N : GV} {R : GR} {L : GL} {Z : Nat × Nat × Bool} (hR : Rok R) {K : Nat} (h : DI K N) {d : Nat} (hd : d < 2 ^ 28) {q : GV × Nat × Nat} {i : Nat} (hi : i < N 22 0 7) (hq : q = drpI d N i) {l5 l6 : AV} : ∃ l5' l6' : AV, ex X 119 7 [vR 7 0, vI (nI d), vI (nI q.2.1), vI (nI q.2.2), vI (nI i), l5, l6] [] (gg (nW (q.1)) R L Z) = ex X 119 7 [vR 7 0, vI (nI d), vI (nI (drp1 d i q).2.1), vI (nI (drp1 d i q).2.2), vI (nI (i + 1)), l5', l6'] [] (gg (nW ((drp1 d i q).1)) R L Z) := by
  have h7 := h.h7
  have hK := h.hK
  have w := drpI_w (d := d) (N := N) i (by omega)
  rw [← hq] at w
  obtain ⟨_, w2, _, _, w5⟩ := w
  have r0 : q.1 22 0 (153 + 3 * i) = N 22 0 (153 + 3 * i) := w5 _ _ _ (by omega)
  have r1 : q.1 22 0 (153 + 3 * i + 1) = N 22 0 (153 + 3 * i + 1) := w5 _ _ _ (by omega)
  have r7 : q.1 22 0 7 = N 22 0 7 := w5 _ _ _ (by omega)
  have b3 := h.ou (k := i) (by omega)
  obtain ⟨M, m, c⟩ := q
  simp only at *
  have g1 : ¬ 153 + 3 * i + 1 = 153 + 3 * m := by omega
  have g2 : ¬ 153 + 3 * i + 2 = 153 + 3 * m := by omega
  have g3 : ¬ 153 + 3 * i + 2 = 153 + 3 * m + 1 := by omega
  unfold drp1
  by_cases e : M 22 0 (153 + 3 * i) = d
  · refine ⟨vI (nI 1), vI (nI 0), ?_⟩
    rw [x119_7]
    have ed : N 22 0 (153 + 3 * i) < 2 ^ 28 := by omega
    simp (disch := first | assumption | omega | exact nI_or0 | exact nI_or1) only [x119_9, x119_10, x119_13, x119_15, x119_16, x119_19, x119_20, x119_22, x119_23, x119_26, x119_27, x119_30, x119_31, x119_34, x119_35, x119_37, x119_38, x119_40, x119_43, x119_44, x119_46, x119_47, x119_50, x119_53, x119_54, x119_55, x119_56, x119_57, x119_59, x119_61, x119_62, x119_65, x119_67, x119_70, x119_71, x119_74, x119_77, x119_78, x119_79, x119_80, x119_81, x119_83, x119_84, x119_85, x119_88, x119_91, x119_92, x119_94, x119_95, x119_96, x119_98, x119_99, x119_100, x119_101, x119_104, x119_107, x119_108, x119_110, x119_113, x119_114, x119_117, x119_118, x119_119, x119_120, x119_123, reduceIte, Nat.reduceLT, nW_ap, nW_up, nI_add, pk_mul, nI_ltI, nI_eq, if_true, if_false, kont_r, kont_v, Nat.reduceAdd, Nat.reduceMul, Nat.not_lt, not_true_eq_false, not_false_eq_true, Nat.one_ne_zero, Nat.reduceEqDiff, Nat.lt_irrefl, reduceCtorEq, nI_or0, nI_or1, t100, r7, hi, Nat.add_zero, e]
  · refine ⟨vI (nI 0), vI (nI 3), ?_⟩
    rw [x119_7]
    simp (disch := first | assumption | omega | exact nI_or0 | exact nI_or1) only [x119_9, x119_10, x119_13, x119_15, x119_16, x119_19, x119_20, x119_22, x119_23, x119_26, x119_27, x119_30, x119_31, x119_34, x119_35, x119_37, x119_38, x119_40, x119_43, x119_44, x119_46, x119_47, x119_50, x119_53, x119_54, x119_55, x119_56, x119_57, x119_59, x119_61, x119_62, x119_65, x119_67, x119_70, x119_71, x119_74, x119_77, x119_78, x119_79, x119_80, x119_81, x119_83, x119_84, x119_85, x119_88, x119_91, x119_92, x119_94, x119_95, x119_96, x119_98, x119_99, x119_100, x119_101, x119_104, x119_107, x119_108, x119_110, x119_113, x119_114, x119_117, x119_118, x119_119, x119_120, x119_123, reduceIte, Nat.reduceLT, nW_ap, nW_up, nI_add, pk_mul, nI_ltI, nI_eq, if_true, if_false, kont_r, kont_v, Nat.reduceAdd, Nat.reduceMul, Nat.not_lt, not_true_eq_false, not_false_eq_true, Nat.one_ne_zero, Nat.reduceEqDiff, Nat.lt_irrefl, reduceCtorEq, nI_or0, nI_or1, t100, r7, hi, Nat.add_zero, e, up3_s _ _ g1, up3_s _ _ g2, up3_s _ _ g3]
def zerN (M : GV) (a n : Nat) : GV := fun k i s => if k = 22 ∧ i = 0 ∧ 153 + a ≤ s ∧ s < 153 + n then 0 else M k i s
theorem zerN_0 {M : GV} {a : Nat} : zerN M a a = M := by
  funext k i s
  exact if_neg fun h => by omega
theorem zerN_s {M : GV} {a n : Nat} (h : a ≤ n) : up3 (zerN M a n) 22 0 (153 + n) 0 = zerN M a (n + 1) := by
  funext k i s
  unfold up3 zerN
  by_cases h1 : k = 22 ∧ i = 0 ∧ s = 153 + n
  · rw [if_pos h1, if_pos (by omega)]
  · rw [if_neg h1]
    by_cases h2 : k = 22 ∧ i = 0 ∧ 153 + a ≤ s ∧ s < 153 + n
    · rw [if_pos h2, if_pos (by omega)]
    · rw [if_neg h2, if_neg (by omega)]
theorem ouL_len {S : Nat → Nat} {n : Nat} : (ouL S n).length = n := by unfold ouL; rw [List.length_map, List.length_range]
/-- the outings that are not of the day stay -/
def keepO (d : Nat) (N : GV) : List OT := (ouL (N 22 0) (N 22 0 7)).filter fun o => decide (¬ o.1 = d)
def goneO (d : Nat) (N : GV) : List OT := (ouL (N 22 0) (N 22 0 7)).filter fun o => decide (o.1 = d)
def drops (d : Nat) (N : GV) : GV := setO N (keepO d N)
theorem gD_out {α : Type} {l : List α} {k : Nat} {d : α} (h : l.length ≤ k) : l.getD k d = d := by
  rw [List.getD_eq_getElem?_getD, List.getElem?_eq_none h]; rfl
theorem drpI_fin {d : Nat} {N : GV} (h7 : N 22 0 7 ≤ 17) (hz : ouZ (N 22 0)) : up3 (zerN (drpI d N (N 22 0 7)).1 (3 * (drpI d N (N 22 0 7)).2.1) (3 * N 22 0 7)) 22 0 7 (drpI d N (N 22 0 7)).2.1 = drops d N := by
  obtain ⟨h1, h2, _, h4, h5⟩ := drpI_w (d := d) (N := N) (N 22 0 7) h7
  generalize hm : (drpI d N (N 22 0 7)).2.1 = m at h1 h2 h4
  generalize hM : (drpI d N (N 22 0 7)).1 = M at h4 h5
  unfold drops
  have hF : (keepO d N).length = m := h1.symm
  have hF4 : ∀ j w, j < m → w < 3 → M 22 0 (153 + 3 * j + w) = fld ((keepO d N).getD j (0, 0, 0)) w := h4
  generalize keepO d N = F at hF hF4
  funext k i s
  unfold setO up3
  by_cases q1 : k = 22 ∧ i = 0 ∧ s = 7
  · rw [if_pos q1, if_neg (by omega), if_pos q1, hF]
  · rw [if_neg q1]
    by_cases q2 : k = 22 ∧ i = 0 ∧ 153 ≤ s ∧ s < 204
    · obtain ⟨e1, e2, q3, q4⟩ := q2
      subst e1 e2
      rw [if_pos (by omega)]
      unfold zerN
      by_cases q5 : s < 153 + 3 * m
      · rw [if_neg (by omega), ← hF4 ((s - 153) / 3) ((s - 153) % 3) (by omega) (by omega)]
        exact congrArg (M 22 0) (by omega)
      · rw [gD_out (by omega)]
        have e0 : fld ((0, 0, 0) : OT) ((s - 153) % 3) = 0 := by
          match (s - 153) % 3 with
          | 0 => rfl
          | 1 => rfl
          | _ + 2 => rfl
        rw [e0]
        by_cases q6 : s < 153 + 3 * N 22 0 7
        · rw [if_pos (by omega)]
        · rw [if_neg (by omega), h5 _ _ _ (by omega)]
          exact hz s (by omega) q4
    · rw [if_neg q2, if_neg q1]
      unfold zerN
      rw [if_neg (by omega)]
      exact h5 _ _ _ (by omega)
theorem t119 {X : XS} {N : GV} {R : GR} {L : GL} {Z : Nat × Nat × Bool} (hR : Rok R) {K : Nat} (h : DI K N) (hz : ouZ (N 22 0)) {d : Nat} (hd : d < 2 ^ 28) : exec X 119 [vR 7 0, vI (nI d)] (gg (nW N) R L Z) = some (.inl (some (vI (nI (kids (goneO d N))))), (gg (nW (drops d N)) R L Z)) := by
  have h7 := h.h7
  have hK := h.hK
  have w := drpI_w (d := d) (N := N) (N 22 0 7) h7
  have fin := drpI_fin (d := d) h7 hz
  have key : ∀ k, k ≤ N 22 0 7 → ∀ l5 l6 : AV, ex X 119 7 [vR 7 0, vI (nI d), vI (nI (drpI d N k).2.1), vI (nI (drpI d N k).2.2), vI (nI k), l5, l6] [] (gg (nW ((drpI d N k).1)) R L Z) = some (.inl (some (vI (nI (kids (goneO d N))))), (gg (nW (drops d N)) R L Z)) := by
    refine down _ ?_ ?_
    · intro l5 l6
      obtain ⟨_, w2, w3, _, w5⟩ := w
      have w3 : (drpI d N (N 22 0 7)).2.2 = kids (goneO d N) := w3
      rw [← fin, w3]
      generalize (drpI d N (N 22 0 7)).1 = M at w5
      generalize (drpI d N (N 22 0 7)).2.1 = m at w2
      have e7 : M 22 0 7 = N 22 0 7 := w5 _ _ _ (by omega)
      have key2 : ∀ k, k ≤ 3 * N 22 0 7 → 3 * m ≤ k → ex X 119 131 [vR 7 0, vI (nI d), vI (nI m), vI (nI (kids (goneO d N))), vI (nI k), l5, l6] [] (gg (nW (zerN M (3 * m) k)) R L Z) = some (.inl (some (vI (nI (kids (goneO d N))))), (gg (nW (up3 (zerN M (3 * m) (3 * N 22 0 7)) 22 0 7 m)) R L Z)) := by
        refine down _ ?_ ?_
        · intro hm
          have e8 : zerN M (3 * m) (3 * N 22 0 7) 22 0 7 = N 22 0 7 := by unfold zerN; rw [if_neg (by omega), e7]
          rw [x119_131]
          simp (disch := first | assumption | omega | exact nI_or0 | exact nI_or1) only [x119_133, x119_134, x119_135, x119_138, x119_140, x119_141, x119_142, x119_145, x119_146, x119_149, x119_152, x119_154, x119_155, x119_156, x119_157, x119_160, x119_163, x119_164, x119_167, x119_169, x119_170, x119_171, x119_172, reduceIte, Nat.reduceLT, nW_ap, nW_up, nI_add, pk_mul, nI_ltI, nI_eq, if_true, if_false, kont_r, kont_v, Nat.reduceAdd, Nat.reduceMul, Nat.not_lt, not_true_eq_false, not_false_eq_true, Nat.one_ne_zero, Nat.reduceEqDiff, Nat.lt_irrefl, reduceCtorEq, nI_or0, nI_or1, e8]
        · intro k hk ih hm
          have e8 : zerN M (3 * m) k 22 0 7 = N 22 0 7 := by unfold zerN; rw [if_neg (by omega), e7]
          rw [x119_131]
          simp (disch := first | assumption | omega | exact nI_or0 | exact nI_or1) only [x119_133, x119_134, x119_135, x119_138, x119_140, x119_141, x119_142, x119_145, x119_146, x119_149, x119_152, x119_154, x119_155, x119_156, x119_157, x119_160, reduceIte, Nat.reduceLT, nW_ap, nW_up, nI_add, pk_mul, nI_ltI, nI_eq, if_true, if_false, kont_r, kont_v, Nat.reduceAdd, Nat.reduceMul, Nat.not_lt, not_true_eq_false, not_false_eq_true, Nat.one_ne_zero, Nat.reduceEqDiff, Nat.lt_irrefl, reduceCtorEq, nI_or0, nI_or1, e8, hk, zerN_s hm]
          exact ih (by omega)
      have h0 := key2 (3 * m) (by omega) (Nat.le_refl _)
      rw [zerN_0] at h0
      rw [x119_7]
      simp (disch := first | assumption | omega | exact nI_or0 | exact nI_or1) only [x119_9, x119_10, x119_13, x119_15, x119_16, x119_126, x119_127, x119_128, x119_129, reduceIte, Nat.reduceLT, nW_ap, nW_up, nI_add, pk_mul, nI_ltI, nI_eq, if_true, if_false, kont_r, kont_v, Nat.reduceAdd, Nat.reduceMul, Nat.not_lt, not_true_eq_false, not_false_eq_true, Nat.one_ne_zero, Nat.reduceEqDiff, Nat.lt_irrefl, reduceCtorEq, nI_or0, nI_or1, e7]
      exact h0
    · intro k hk ih l5 l6
      obtain ⟨l5', l6', e⟩ := a119 (X := X) (L := L) (Z := Z) hR h hd hk (q := drpI d N k) rfl (l5 := l5) (l6 := l6)
      rw [e]
      exact ih _ _
  have h0 := key 0 (Nat.zero_le _) vU vU
  simp (disch := first | assumption | omega | exact nI_or0 | exact nI_or1) only [in119, x119_0, x119_1, x119_2, x119_3, x119_4, x119_5, reduceIte, Nat.reduceLT, nW_ap, nW_up, nI_add, pk_mul, nI_ltI, nI_eq, if_true, if_false, kont_r, kont_v, Nat.reduceAdd, Nat.reduceMul, Nat.not_lt, not_true_eq_false, not_false_eq_true, Nat.one_ne_zero, Nat.reduceEqDiff, Nat.lt_irrefl, reduceCtorEq, nI_or0, nI_or1]
  exact h0
