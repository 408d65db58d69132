/-! the reference's best gate, filters, orders -/
theorem SS.d {K : Nat} {N M : GV} (e : SS N M) (h : DI K N) : DI K M := h.ss e
/-- the best gate of the first n + 1, and its thirst -/
def gatI (S : Nat → Nat) (c : Nat) : Nat → Nat × Int32
  | 0 => (0, moreV S c 0)
  | n + 1 => if moreV S c (n + 1) < (gatI S c n).2 then (n + 1, moreV S c (n + 1)) else gatI S c n
def gatV (S : Nat → Nat) (c : Nat) : Nat := (gatI S c 7).1
theorem gatI_b {S : Nat → Nat} {c : Nat} : ∀ n, (gatI S c n).1 ≤ n
  | 0 => Nat.le_refl _
  | n + 1 => by
    have := gatI_b (S := S) (c := c) n
    unfold gatI
    split
    · exact Nat.le_refl _
    · omega
theorem t163 {X : XS} {N : GV} {R : GR} {L : GL} {Z : Nat × Nat × Bool} (hR : Rok R) {K c : Nat} (h : DI K N) (hz : ouZ (N 22 0)) (h7 : N 22 0 7 < 17) (hn : N 22 0 5 + 1 ≤ K) (hc : c ≤ 99) : ∃ M, exec X 163 [vR 7 0, vI (nI c)] (gg (nW N) R L Z) = some (.inl (some (vI (nI (gatV (N 22 0) c)))), (gg (nW (M)) R L Z)) ∧ SS N M := by
  obtain ⟨M0, a0, b0⟩ := t161 (X := X) (N := N) (L := L) (Z := Z) (c := c) (g := 0) hR h hz h7 hn hc (by omega)
  have key : ∀ k, k ≤ 7 → ∀ M, SS N M → ∀ l5 : AV, ∃ M', ex X 163 12 [vR 7 0, vI (nI c), vI (nI (gatI (N 22 0) c k).1), vI (gatI (N 22 0) c k).2, vI (nI (k + 1)), l5] [] (gg (nW (M)) R L Z) = some (.inl (some (vI (nI (gatV (N 22 0) c)))), (gg (nW (M')) R L Z)) ∧ SS N M' := by
    refine down _ ?_ ?_
    · intro M hM l5
      refine ⟨M, ?_, hM⟩
      rw [x163_12]
      simp (disch := first | assumption | omega | exact nI_or0 | exact nI_or1 | exact bN_or _) only [x163_14, x163_16, x163_19, x163_20, x163_21, x163_23, x163_26, x163_28, x163_30, x163_31, x163_34, x163_36, x163_39, x163_40, x163_41, x163_43, x163_44, x163_47, x163_49, x163_52, x163_53, x163_54, x163_57, x163_60, x163_61, reduceIte, Nat.reduceLT, nW_ap, nW_up, nI_add, pk_mul, nI_ltI, nI_eq, if_true, if_false, kont_r, kont_v, Nat.reduceAdd, Nat.reduceMul, Nat.not_lt, not_true_eq_false, not_false_eq_true, Nat.one_ne_zero, Nat.reduceEqDiff, Nat.lt_irrefl, reduceCtorEq, nI_or0, nI_or1]
      rfl
    · intro k hk ih M hM l5
      obtain ⟨M1, a1, b1⟩ := t161 (X := X) (N := M) (L := L) (Z := Z) (c := c) (g := k + 1) hR (hM.d h) (by rw [hM.1]; exact hz) (by rw [hM.1]; exact h7) (by rw [hM.1]; exact hn) hc (by omega)
      rw [hM.1] at a1
      obtain ⟨M', a2, b2⟩ := ih M1 (hM.tr b1) (vI (moreV (N 22 0) c (k + 1)))
      refine ⟨M', ?_, b2⟩
      rw [← a2]
      have hk8 : k + 1 < 8 := by omega
      rw [x163_12]
      by_cases q : moreV (N 22 0) c (k + 1) < (gatI (N 22 0) c k).2
      · rw [show gatI (N 22 0) c (k + 1) = (k + 1, moreV (N 22 0) c (k + 1)) from if_pos q]
        simp (disch := first | assumption | omega | exact nI_or0 | exact nI_or1 | exact bN_or _) only [x163_14, x163_16, x163_19, x163_20, x163_21, x163_23, x163_26, x163_28, x163_30, x163_31, x163_34, x163_36, x163_39, x163_40, x163_41, x163_43, x163_44, x163_47, x163_49, x163_52, x163_53, x163_54, x163_57, reduceIte, Nat.reduceLT, nW_ap, nW_up, nI_add, pk_mul, nI_ltI, nI_eq, if_true, if_false, kont_r, kont_v, Nat.reduceAdd, Nat.reduceMul, Nat.not_lt, not_true_eq_false, not_false_eq_true, Nat.one_ne_zero, Nat.reduceEqDiff, Nat.lt_irrefl, reduceCtorEq, nI_or0, nI_or1, hk8, a1, q]
      · rw [show gatI (N 22 0) c (k + 1) = gatI (N 22 0) c k from if_neg q]
        simp (disch := first | assumption | omega | exact nI_or0 | exact nI_or1 | exact bN_or _) only [x163_14, x163_16, x163_19, x163_20, x163_21, x163_23, x163_26, x163_28, x163_30, x163_31, x163_34, x163_36, x163_39, x163_40, x163_41, x163_43, x163_44, x163_47, x163_49, x163_52, x163_53, x163_54, x163_57, reduceIte, Nat.reduceLT, nW_ap, nW_up, nI_add, pk_mul, nI_ltI, nI_eq, if_true, if_false, kont_r, kont_v, Nat.reduceAdd, Nat.reduceMul, Nat.not_lt, not_true_eq_false, not_false_eq_true, Nat.one_ne_zero, Nat.reduceEqDiff, Nat.lt_irrefl, reduceCtorEq, nI_or0, nI_or1, hk8, a1, q]
  obtain ⟨M', a, b⟩ := key 0 (Nat.zero_le _) M0 b0 vU
  refine ⟨M', ?_, b⟩
  have a : ex X 163 12 [vR 7 0, vI (nI c), vI (nI 0), vI (moreV (N 22 0) c 0), vI (nI 1), vU] [] (gg (nW (M0)) R L Z) = _ := a
  simp (disch := first | assumption | omega | exact nI_or0 | exact nI_or1 | exact bN_or _) only [in163, x163_0, x163_1, x163_2, x163_3, x163_4, x163_5, x163_8, x163_9, x163_10, reduceIte, Nat.reduceLT, nW_ap, nW_up, nI_add, pk_mul, nI_ltI, nI_eq, if_true, if_false, kont_r, kont_v, Nat.reduceAdd, Nat.reduceMul, Nat.not_lt, not_true_eq_false, not_false_eq_true, Nat.one_ne_zero, Nat.reduceEqDiff, Nat.lt_irrefl, reduceCtorEq, nI_or0, nI_or1, a0, a]
theorem t164_1 {X : XS} {N : GV} {R : GR} {L : GL} {Z : Nat × Nat × Bool} (hR : Rok R) {c : Int32} (h1 : inb 1 99 c = false) : exec X 164 [vR 7 0, vI c] (gg (nW N) R L Z) = some (.inl (some (vI (nI 0))), (gg (nW (er N 1)) R L Z)) := by
  simp (disch := first | assumption | omega | exact nI_or0 | exact nI_or1 | exact bN_or _) only [in164, x164_0, x164_1, x164_2, x164_5, x164_6, x164_7, x164_9, x164_12, x164_15, x164_16, x164_17, x164_20, x164_23, x164_24, x164_25, x164_28, in164, reduceIte, Nat.reduceLT, nW_ap, nW_up, nI_add, pk_mul, nI_ltI, nI_eq, if_true, if_false, kont_r, kont_v, Nat.reduceAdd, Nat.reduceMul, Nat.not_lt, not_true_eq_false, not_false_eq_true, Nat.one_ne_zero, Nat.reduceEqDiff, Nat.lt_irrefl, reduceCtorEq, nI_or0, nI_or1, up3_er, t91i, h1, bN, Bool.false_eq_true, t92e, er_er']
theorem t164_2 {X : XS} {N : GV} {R : GR} {L : GL} {Z : Nat × Nat × Bool} (hR : Rok R) {K c : Nat} (h : DI K N) (hz : ouZ (N 22 0)) (h7 : N 22 0 7 < 17) (hn : N 22 0 5 + 1 ≤ K) (hc : 1 ≤ c ∧ c ≤ 99) : ∃ M, exec X 164 [vR 7 0, vI (nI c)] (gg (nW N) R L Z) = some (.inl (some (vI (nI (gatV (N 22 0) c)))), (gg (nW (M)) R L Z)) ∧ SS (er N 0) M := by
  have i1 : inb 1 99 (nI c) = true := by rw [inb_t (by omega) (by omega) (by omega)]; exact decide_eq_true (by omega)
  obtain ⟨M, a, b⟩ := t163 (X := X) (N := er N 0) (L := L) (Z := Z) (c := c) hR h.er (by rw [er_22]; exact hz) (by rw [er_22]; exact h7) (by rw [er_22]; exact hn) hc.2
  rw [er_22] at a
  refine ⟨M, ?_, b⟩
  simp (disch := first | assumption | omega | exact nI_or0 | exact nI_or1 | exact bN_or _) only [in164, x164_0, x164_1, x164_2, x164_5, x164_6, x164_7, x164_9, x164_12, x164_15, x164_16, x164_17, x164_20, x164_23, x164_24, x164_25, x164_28, in164, reduceIte, Nat.reduceLT, nW_ap, nW_up, nI_add, pk_mul, nI_ltI, nI_eq, if_true, if_false, kont_r, kont_v, Nat.reduceAdd, Nat.reduceMul, Nat.not_lt, not_true_eq_false, not_false_eq_true, Nat.one_ne_zero, Nat.reduceEqDiff, Nat.lt_irrefl, reduceCtorEq, nI_or0, nI_or1, up3_er, t91i, i1, bN, a]
/-- is a filter used up -/
def usdB (S : Nat → Nat) (p : Nat) : Bool := decide (S (13 + 10 * p + 6) = 1 ∧ S (13 + 10 * p + 2) = 4 * S (13 + 10 * p + 1))
theorem t165 {X : XS} {N : GV} {R : GR} {L : GL} {Z : Nat × Nat × Bool} (hR : Rok R) {K p : Nat} (h : DI K N) (hp : p < 8) : exec X 165 [vR 7 0, vI (nI p)] (gg (nW N) R L Z) = some (.inl (some (vI (nI (bN (usdB (N 22 0) p))))), (gg (nW N) R L Z)) := by
  have b := h.fo hp
  unfold usdB
  by_cases q1 : N 22 0 (13 + 10 * p + 6) = 1
  · by_cases q2 : N 22 0 (13 + 10 * p + 2) = 4 * N 22 0 (13 + 10 * p + 1)
    · rw [decide_eq_true ⟨q1, q2⟩]
      simp (disch := first | assumption | omega | exact nI_or0 | exact nI_or1 | exact bN_or _) only [in165, x165_0, x165_1, x165_2, x165_4, x165_7, x165_8, x165_11, x165_12, x165_13, x165_14, x165_17, x165_18, x165_19, x165_20, x165_21, x165_24, x165_25, x165_28, x165_29, x165_32, x165_33, in165, reduceIte, Nat.reduceLT, nW_ap, nW_up, nI_add, pk_mul, nI_ltI, nI_eq, if_true, if_false, kont_r, kont_v, Nat.reduceAdd, Nat.reduceMul, Nat.not_lt, not_true_eq_false, not_false_eq_true, Nat.one_ne_zero, Nat.reduceEqDiff, Nat.lt_irrefl, reduceCtorEq, nI_or0, nI_or1, t97, q1, q2, bN]
    · rw [decide_eq_false fun e => q2 e.2]
      simp (disch := first | assumption | omega | exact nI_or0 | exact nI_or1 | exact bN_or _) only [in165, x165_0, x165_1, x165_2, x165_4, x165_7, x165_8, x165_11, x165_12, x165_13, x165_14, x165_17, x165_18, x165_19, x165_20, x165_21, x165_24, x165_25, x165_28, x165_29, x165_32, x165_33, in165, reduceIte, Nat.reduceLT, nW_ap, nW_up, nI_add, pk_mul, nI_ltI, nI_eq, if_true, if_false, kont_r, kont_v, Nat.reduceAdd, Nat.reduceMul, Nat.not_lt, not_true_eq_false, not_false_eq_true, Nat.one_ne_zero, Nat.reduceEqDiff, Nat.lt_irrefl, reduceCtorEq, nI_or0, nI_or1, t97, q1, q2, bN, Bool.false_eq_true]
  · rw [decide_eq_false fun e => q1 e.1]
    simp (disch := first | assumption | omega | exact nI_or0 | exact nI_or1 | exact bN_or _) only [in165, x165_0, x165_1, x165_2, x165_4, x165_7, x165_8, x165_11, x165_12, x165_13, x165_14, x165_17, x165_18, x165_19, x165_20, x165_21, x165_24, x165_25, x165_28, x165_29, x165_32, x165_33, in165, reduceIte, Nat.reduceLT, nW_ap, nW_up, nI_add, pk_mul, nI_ltI, nI_eq, if_true, if_false, kont_r, kont_v, Nat.reduceAdd, Nat.reduceMul, Nat.not_lt, not_true_eq_false, not_false_eq_true, Nat.one_ne_zero, Nat.reduceEqDiff, Nat.lt_irrefl, reduceCtorEq, nI_or0, nI_or1, t97, q1, bN, Bool.false_eq_true]
/-- the first day of k .. 60 behind which a filter is used up, else 61 -/
def untF (S : Nat → Nat) (p : Nat) : Nat → Nat → Nat
  | 0, k => k
  | m + 1, k => if usdB (daysS k S) p = true then k else untF S p m (k + 1)
def untV (S : Nat → Nat) (p : Nat) : Int32 := if untF S p 61 0 < 61 ∧ S (13 + 10 * p + 6) = 1 then nI (untF S p 61 0) else -1
theorem untF_le {S : Nat → Nat} {p : Nat} : ∀ m k, untF S p m k ≤ k + m
  | 0, _ => Nat.le_refl _
  | m + 1, k => by
    have := untF_le (S := S) (p := p) m (k + 1)
    unfold untF
    split <;> omega
theorem l166 {X : XS} {N : GV} {R : GR} {L : GL} {Z : Nat × Nat × Bool} (hR : Rok R) {K p : Nat} (h : DI K N) (hz : ouZ (N 22 0)) (hn : N 22 0 5 + 61 ≤ K) (hp : p < 8) : ∀ m k, k + m = 61 → ex X 166 6 [vR 7 0, vI (nI p), vI (nI k), vU] [] (gg (nW (daysN k (asd N))) R L Z) = ex X 166 30 [vR 7 0, vI (nI p), vI (nI (untF (N 22 0) p m k)), vU] [] (gg (nW (daysN (untF (N 22 0) p m k) (asd N))) R L Z) := by
  have hA : DI K (asd N) := h.e0 asd_22
  have hzA : ouZ ((asd N) 22 0) := by rw [asd_22]; exact hz
  have e5 : (asd N) 22 0 5 = N 22 0 5 := by rw [asd_22]
  intro m
  induction m with
  | zero =>
    intro k hk
    have : k = 61 := by omega
    subst this
    rw [x166_6]
    simp (disch := first | assumption | omega | exact nI_or0 | exact nI_or1 | exact bN_or _) only [x166_7, x166_9, reduceIte, Nat.reduceLT, nW_ap, nW_up, nI_add, pk_mul, nI_ltI, nI_eq, if_true, if_false, kont_r, kont_v, Nat.reduceAdd, Nat.reduceMul, Nat.not_lt, not_true_eq_false, not_false_eq_true, Nat.one_ne_zero, Nat.reduceEqDiff, Nat.lt_irrefl, reduceCtorEq, nI_or0, nI_or1]
    rfl
  | succ m ih =>
    intro k hk
    have hk61 : k < 61 := by omega
    obtain ⟨d1, d2, d3, d4, d5, d6⟩ := days_w hA hzA k (by omega)
    have eS : (daysN k (asd N)) 22 0 = daysS k (N 22 0) := by rw [daysS_e hA hzA (by omega), asd_22]
    have s1 := t165 (X := X) (L := L) (Z := Z) hR d1 hp
    have s2 := t120 (X := X) (L := L) (Z := Z) hR d1 d2
    rw [eS] at s1
    unfold untF
    rw [x166_6]
    cases q : usdB (daysS k (N 22 0)) p with
    | true =>
      rw [q] at s1
      simp (disch := first | assumption | omega | exact nI_or0 | exact nI_or1 | exact bN_or _) only [x166_7, x166_9, x166_12, x166_13, x166_14, x166_17, x166_20, x166_21, x166_24, x166_27, reduceIte, Nat.reduceLT, nW_ap, nW_up, nI_add, pk_mul, nI_ltI, nI_eq, if_true, if_false, kont_r, kont_v, Nat.reduceAdd, Nat.reduceMul, Nat.not_lt, not_true_eq_false, not_false_eq_true, Nat.one_ne_zero, Nat.reduceEqDiff, Nat.lt_irrefl, reduceCtorEq, nI_or0, nI_or1, hk61, s1, bN]
    | false =>
      rw [q] at s1
      rw [if_neg (by decide)]
      have ih := ih (k + 1) (by omega)
      rw [← ih]
      show _ = ex X 166 6 [vR 7 0, vI (nI p), vI (nI (k + 1)), vU] [] (gg (nW (dayN (daysN k (asd N)))) R L Z)
      simp (disch := first | assumption | omega | exact nI_or0 | exact nI_or1 | exact bN_or _) only [x166_7, x166_9, x166_12, x166_13, x166_14, x166_17, x166_20, x166_21, x166_24, x166_27, reduceIte, Nat.reduceLT, nW_ap, nW_up, nI_add, pk_mul, nI_ltI, nI_eq, if_true, if_false, kont_r, kont_v, Nat.reduceAdd, Nat.reduceMul, Nat.not_lt, not_true_eq_false, not_false_eq_true, Nat.one_ne_zero, Nat.reduceEqDiff, Nat.lt_irrefl, reduceCtorEq, nI_or0, nI_or1, hk61, s1, bN, Bool.false_eq_true, s2]
theorem t166 {X : XS} {N : GV} {R : GR} {L : GL} {Z : Nat × Nat × Bool} (hR : Rok R) {K p : Nat} (h : DI K N) (hz : ouZ (N 22 0)) (hn : N 22 0 5 + 61 ≤ K) (hp : p < 8) : ∃ M, exec X 166 [vR 7 0, vI (nI p)] (gg (nW N) R L Z) = some (.inl (some (vI (untV (N 22 0) p))), (gg (nW (M)) R L Z)) ∧ SS N M := by
  have a95 : exec X 95 [vR 7 0] (gg (nW N) R L Z) = some (.inl none, (gg (nW (asd N)) R L Z)) := t95 hR
  have hA : DI K (asd N) := h.e0 asd_22
  have hzA : ouZ ((asd N) 22 0) := by rw [asd_22]; exact hz
  have e5 : (asd N) 22 0 5 = N 22 0 5 := by rw [asd_22]
  have l := l166 (X := X) (L := L) (Z := Z) hR h hz hn hp 61 0 rfl
  have hle := untF_le (S := N 22 0) (p := p) 61 0
  have b := (h.fo hp).2.2.2.2.2.2
  obtain ⟨d1, d2, d3, d4, d5, d6⟩ := days_w hA hzA (untF (N 22 0) p 61 0) (by omega)
  unfold untV
  generalize untF (N 22 0) p 61 0 = u at l hle d5 d6
  have g1 : ∀ s, 204 ≤ s → (daysN u (asd N)) 22 0 s = N 22 0 s := fun s hs => by rw [d5 s (by omega), asd_22]
  have g2 : ∀ s, s < 204 → (daysN u (asd N)) 23 0 s = N 22 0 s := fun s hs => by rw [d6 _ _ _ (by omega), asd_23 hs]
  have g3 : ∀ k i s, k < 22 ∨ 28 < k ∨ k = 24 ∨ k = 25 → (daysN u (asd N)) k i s = N k i s := fun k i s hk => by rw [d6 _ _ _ (by omega), asd_o (by omega)]
  have e0 : daysN 0 (asd N) = asd N := rfl
  rw [e0] at l
  generalize daysN u (asd N) = N2 at l g1 g2 g3
  have s4 := t96 (X := X) (N := N2) (L := L) (Z := Z) hR
  have g2p := g2 (13 + 10 * p + 6) (by omega)
  refine ⟨_, ?_, tb g1 g2 g3⟩
  by_cases q1 : u < 61
  · by_cases q2 : N 22 0 (13 + 10 * p + 6) = 1
    · rw [if_pos ⟨q1, q2⟩]
      simp (disch := first | assumption | omega | exact nI_or0 | exact nI_or1 | exact bN_or _) only [in166, x166_0, x166_1, x166_4, x166_5, reduceIte, Nat.reduceLT, nW_ap, nW_up, nI_add, pk_mul, nI_ltI, nI_eq, if_true, if_false, kont_r, kont_v, Nat.reduceAdd, Nat.reduceMul, Nat.not_lt, not_true_eq_false, not_false_eq_true, Nat.one_ne_zero, Nat.reduceEqDiff, Nat.lt_irrefl, reduceCtorEq, nI_or0, nI_or1, a95, l, x166_30, x166_31, x166_33, x166_36, x166_37, x166_40, x166_42, x166_44, x166_45, x166_46, x166_47, x166_49, x166_50, x166_51, x166_52, x166_55, x166_56, x166_59, x166_60, x166_61, x166_62, x166_65, x166_66, x166_69, x166_70, x166_73, x166_74, q1, g2p, q2, s4]
    · rw [if_neg fun e => q2 e.2]
      simp (disch := first | assumption | omega | exact nI_or0 | exact nI_or1 | exact bN_or _) only [in166, x166_0, x166_1, x166_4, x166_5, reduceIte, Nat.reduceLT, nW_ap, nW_up, nI_add, pk_mul, nI_ltI, nI_eq, if_true, if_false, kont_r, kont_v, Nat.reduceAdd, Nat.reduceMul, Nat.not_lt, not_true_eq_false, not_false_eq_true, Nat.one_ne_zero, Nat.reduceEqDiff, Nat.lt_irrefl, reduceCtorEq, nI_or0, nI_or1, a95, l, x166_30, x166_31, x166_33, x166_36, x166_37, x166_40, x166_42, x166_44, x166_45, x166_46, x166_47, x166_49, x166_50, x166_51, x166_52, x166_55, x166_56, x166_59, x166_60, x166_61, x166_62, x166_65, x166_66, x166_69, x166_70, x166_73, x166_74, q1, g2p, q2, s4]
  · rw [if_neg fun e => q1 e.1]
    simp (disch := first | assumption | omega | exact nI_or0 | exact nI_or1 | exact bN_or _) only [in166, x166_0, x166_1, x166_4, x166_5, reduceIte, Nat.reduceLT, nW_ap, nW_up, nI_add, pk_mul, nI_ltI, nI_eq, if_true, if_false, kont_r, kont_v, Nat.reduceAdd, Nat.reduceMul, Nat.not_lt, not_true_eq_false, not_false_eq_true, Nat.one_ne_zero, Nat.reduceEqDiff, Nat.lt_irrefl, reduceCtorEq, nI_or0, nI_or1, a95, l, x166_30, x166_31, x166_33, x166_36, x166_37, x166_40, x166_42, x166_44, x166_45, x166_46, x166_47, x166_49, x166_50, x166_51, x166_52, x166_55, x166_56, x166_59, x166_60, x166_61, x166_62, x166_65, x166_66, x166_69, x166_70, x166_73, x166_74, q1, s4]
theorem t167_1 {X : XS} {N : GV} {R : GR} {L : GL} {Z : Nat × Nat × Bool} (hR : Rok R) {p : Int32} (h1 : inb 0 7 p = false) : exec X 167 [vR 7 0, vI p] (gg (nW N) R L Z) = some (.inl (some (vI (nI 0))), (gg (nW (er N 1)) R L Z)) := by
  simp (disch := first | assumption | omega | exact nI_or0 | exact nI_or1 | exact bN_or _) only [in167, x167_0, x167_1, x167_2, x167_5, x167_6, x167_9, x167_12, x167_13, x167_14, x167_17, x167_20, x167_21, x167_22, x167_25, in167, reduceIte, Nat.reduceLT, nW_ap, nW_up, nI_add, pk_mul, nI_ltI, nI_eq, if_true, if_false, kont_r, kont_v, Nat.reduceAdd, Nat.reduceMul, Nat.not_lt, not_true_eq_false, not_false_eq_true, Nat.one_ne_zero, Nat.reduceEqDiff, Nat.lt_irrefl, reduceCtorEq, nI_or0, nI_or1, up3_er, t93i, h1, bN, Bool.false_eq_true, t92e, er_er']
theorem t167_2 {X : XS} {N : GV} {R : GR} {L : GL} {Z : Nat × Nat × Bool} (hR : Rok R) {K p : Nat} (h : DI K N) (hz : ouZ (N 22 0)) (hn : N 22 0 5 + 61 ≤ K) (hp : p < 8) : ∃ M, exec X 167 [vR 7 0, vI (nI p)] (gg (nW N) R L Z) = some (.inl (some (vI (untV (N 22 0) p))), (gg (nW (M)) R L Z)) ∧ SS (er N 0) M := by
  obtain ⟨M, a, b⟩ := t166 (X := X) (N := er N 0) (L := L) (Z := Z) (p := p) hR h.er (by rw [er_22]; exact hz) (by rw [er_22]; exact hn) hp
  rw [er_22] at a
  refine ⟨M, ?_, b⟩
  simp (disch := first | assumption | omega | exact nI_or0 | exact nI_or1 | exact bN_or _) only [in167, x167_0, x167_1, x167_2, x167_5, x167_6, x167_9, x167_12, x167_13, x167_14, x167_17, x167_20, x167_21, x167_22, x167_25, in167, reduceIte, Nat.reduceLT, nW_ap, nW_up, nI_add, pk_mul, nI_ltI, nI_eq, if_true, if_false, kont_r, kont_v, Nat.reduceAdd, Nat.reduceMul, Nat.not_lt, not_true_eq_false, not_false_eq_true, Nat.one_ne_zero, Nat.reduceEqDiff, Nat.lt_irrefl, reduceCtorEq, nI_or0, nI_or1, up3_er, t93i, in_8, hp, bN, a]
/-- a state with another order of jobs -/
def ordS (S : Nat → Nat) (o : Nat) : Nat → Nat := fun s => if s = 1 then o else S s
/-- the best order of the first k, its thirst, its open fountains -/
def ordI (S : Nat → Nat) (n : Nat) : Nat → Int32 × Int32 × Int32
  | 0 => (-1, nI 0, nI 0)
  | k + 1 => if (ordI S n k).1 = -1 ∨ pasV (ordS S k) n 0 < (ordI S n k).2.1 ∨ (pasV (ordS S k) n 0 = (ordI S n k).2.1 ∧ (ordI S n k).2.2 < pasV (ordS S k) n 3) then (nI k, pasV (ordS S k) n 0, pasV (ordS S k) n 3) else ordI S n k
def ordV (S : Nat → Nat) (n : Nat) : Int32 := (ordI S n 3).1
theorem t168 {X : XS} {N : GV} {R : GR} {L : GL} {Z : Nat × Nat × Bool} (hR : Rok R) {K n : Nat} (h : DI K N) (hz : ouZ (N 22 0)) (hn : N 22 0 5 + n ≤ K) : ∃ M, exec X 168 [vR 7 0, vI (nI n)] (gg (nW N) R L Z) = some (.inl (some (vI (ordV (N 22 0) n))), (gg (nW (M)) R L Z)) ∧ SS N M := by
  have h1 := h.h1
  have key : ∀ k, k ≤ 3 → ∀ M, (∃ o, SS (up3 N 22 0 1 o) M) → ∀ l7 l8 : AV, ∃ M', ex X 168 18 [vR 7 0, vI (nI n), vI (nI (N 22 0 1)), vI (ordI (N 22 0) n k).1, vI (ordI (N 22 0) n k).2.1, vI (ordI (N 22 0) n k).2.2, vI (nI k), l7, l8] [] (gg (nW (M)) R L Z) = some (.inl (some (vI (ordV (N 22 0) n))), (gg (nW (M')) R L Z)) ∧ SS N M' := by
    refine down _ ?_ ?_
    · intro M hM l7 l8
      obtain ⟨o, hM⟩ := hM
      refine ⟨up3 M 22 0 1 (N 22 0 1), ?_, ?_⟩
      · rw [x168_18]
        simp (disch := first | assumption | omega | exact nI_or0 | exact nI_or1 | exact bN_or _) only [x168_20, x168_21, x168_24, x168_25, x168_28, x168_29, x168_31, x168_32, x168_33, x168_34, x168_35, x168_38, x168_40, x168_41, x168_42, x168_43, x168_46, x168_48, x168_49, x168_50, x168_53, x168_55, x168_57, x168_60, x168_62, x168_64, x168_67, x168_69, x168_71, x168_74, x168_76, x168_77, x168_79, x168_81, x168_83, x168_85, x168_88, x168_91, x168_92, x168_95, x168_96, x168_97, x168_98, x168_99, reduceIte, Nat.reduceLT, nW_ap, nW_up, nI_add, pk_mul, nI_ltI, nI_eq, if_true, if_false, kont_r, kont_v, Nat.reduceAdd, Nat.reduceMul, Nat.not_lt, not_true_eq_false, not_false_eq_true, Nat.one_ne_zero, Nat.reduceEqDiff, Nat.lt_irrefl, reduceCtorEq, nI_or0, nI_or1]
        rfl
      · obtain ⟨c1, c2, c3, c4, c5, c6⟩ := hM
        refine ⟨?_, ?_, ?_, ?_, ?_, ?_⟩
        · rw [up22, c1, up22]
          funext j
          by_cases q : j = 1
          · subst q; rw [if_pos rfl]
          · rw [if_neg q]; exact if_neg q
        · rw [upk0 (by decide), c2, upk0 (by decide)]
        · rw [upk0 (by decide), c3, upk0 (by decide)]
        · rw [up3_k _ _ (by decide), c4, up3_k _ _ (by decide)]
        · rw [up3_k _ _ (by decide), c5, up3_k _ _ (by decide)]
        · intro k i s a b
          rw [up3_k _ _ (by omega), c6 k i s a b, up3_k _ _ (by omega)]
    · intro k hk ih M hM l7 l8
      obtain ⟨o, hM⟩ := hM
      have hM0 : (up3 M 22 0 1 k) 22 0 = ordS (N 22 0) k := by
        rw [up22, hM.1, up22]
        funext j
        unfold ordS
        by_cases q : j = 1
        · rw [if_pos q, if_pos q]
        · rw [if_neg q, if_neg q]; exact if_neg q
      have hS1 : SS (up3 N 22 0 1 k) (up3 M 22 0 1 k) := by
        obtain ⟨c1, c2, c3, c4, c5, c6⟩ := hM
        refine ⟨?_, ?_, ?_, ?_, ?_, ?_⟩
        · rw [hM0, up22]; rfl
        · rw [upk0 (by decide), c2, upk0 (by decide), upk0 (by decide)]
        · rw [upk0 (by decide), c3, upk0 (by decide), upk0 (by decide)]
        · rw [up3_k _ _ (by decide), c4, up3_k _ _ (by decide), up3_k _ _ (by decide)]
        · rw [up3_k _ _ (by decide), c5, up3_k _ _ (by decide), up3_k _ _ (by decide)]
        · intro k i s a b
          rw [up3_k _ _ (by omega), c6 k i s a b, up3_k _ _ (by omega), up3_k _ _ (by omega)]
      have hD1 : DI K (up3 N 22 0 1 k) := h.up' (bd_S (by omega) (by unfold b0; omega)) (by omega)
      have hz1 : ouZ ((up3 N 22 0 1 k) 22 0) := by
        intro s a b
        rw [up3_s _ _ (by decide)] at a
        rw [up3_s _ _ (by omega)]
        exact hz s a b
      have hn1 : (up3 N 22 0 1 k) 22 0 5 + n ≤ K := by rw [up3_s _ _ (by decide)]; exact hn
      generalize hM1 : up3 M 22 0 1 k = M1 at hM0 hS1
      obtain ⟨M2, a2, b2⟩ := t159 (X := X) (N := M1) (L := L) (Z := Z) (n := n) (w := 0) hR (hS1.d hD1) (by rw [hS1.1]; exact hz1) (by rw [hS1.1]; exact hn1) (by omega)
      have hS2 := hS1.tr b2
      obtain ⟨M3, a3, b3⟩ := t159 (X := X) (N := M2) (L := L) (Z := Z) (n := n) (w := 3) hR (hS2.d hD1) (by rw [hS2.1]; exact hz1) (by rw [hS2.1]; exact hn1) (by omega)
      rw [hM0] at a2
      rw [b2.1, hM0] at a3
      have ih := ih M3 ⟨k, hS2.tr b3⟩ (vI (pasV (ordS (N 22 0) k) n 0)) (vI (pasV (ordS (N 22 0) k) n 3))
      obtain ⟨M', a4, b4⟩ := ih
      refine ⟨M', ?_, b4⟩
      rw [← a4]
      have step : ordI (N 22 0) n (k + 1) = if (ordI (N 22 0) n k).1 = -1 ∨ pasV (ordS (N 22 0) k) n 0 < (ordI (N 22 0) n k).2.1 ∨ (pasV (ordS (N 22 0) k) n 0 = (ordI (N 22 0) n k).2.1 ∧ (ordI (N 22 0) n k).2.2 < pasV (ordS (N 22 0) k) n 3) then (nI k, pasV (ordS (N 22 0) k) n 0, pasV (ordS (N 22 0) k) n 3) else ordI (N 22 0) n k := rfl
      rw [step]
      clear step a4
      generalize ordI (N 22 0) n k = I0
      generalize pasV (ordS (N 22 0) k) n 0 = u at a2 ⊢
      generalize pasV (ordS (N 22 0) k) n 3 = v at a3 ⊢
      obtain ⟨x, y, z⟩ := I0
      rw [x168_18]
      by_cases q1 : x = -1
      · rw [if_pos (Or.inl q1)]
        simp (disch := first | assumption | omega | exact nI_or0 | exact nI_or1 | exact bN_or _) only [x168_20, x168_21, x168_24, x168_25, x168_28, x168_29, x168_31, x168_32, x168_33, x168_34, x168_35, x168_38, x168_40, x168_41, x168_42, x168_43, x168_46, x168_48, x168_49, x168_50, x168_53, x168_55, x168_57, x168_60, x168_62, x168_64, x168_67, x168_69, x168_71, x168_74, x168_76, x168_77, x168_79, x168_81, x168_83, x168_85, x168_88, reduceIte, Nat.reduceLT, nW_ap, nW_up, nI_add, pk_mul, nI_ltI, nI_eq, if_true, if_false, kont_r, kont_v, Nat.reduceAdd, Nat.reduceMul, Nat.not_lt, not_true_eq_false, not_false_eq_true, Nat.one_ne_zero, Nat.reduceEqDiff, Nat.lt_irrefl, reduceCtorEq, nI_or0, nI_or1, hk, hM1, a2, a3, q1]
      · by_cases q2 : u < y
        · rw [if_pos (Or.inr (Or.inl q2))]
          simp (disch := first | assumption | omega | exact nI_or0 | exact nI_or1 | exact bN_or _) only [x168_20, x168_21, x168_24, x168_25, x168_28, x168_29, x168_31, x168_32, x168_33, x168_34, x168_35, x168_38, x168_40, x168_41, x168_42, x168_43, x168_46, x168_48, x168_49, x168_50, x168_53, x168_55, x168_57, x168_60, x168_62, x168_64, x168_67, x168_69, x168_71, x168_74, x168_76, x168_77, x168_79, x168_81, x168_83, x168_85, x168_88, reduceIte, Nat.reduceLT, nW_ap, nW_up, nI_add, pk_mul, nI_ltI, nI_eq, if_true, if_false, kont_r, kont_v, Nat.reduceAdd, Nat.reduceMul, Nat.not_lt, not_true_eq_false, not_false_eq_true, Nat.one_ne_zero, Nat.reduceEqDiff, Nat.lt_irrefl, reduceCtorEq, nI_or0, nI_or1, hk, hM1, a2, a3, q1, q2]
        · by_cases q3 : u = y
          · subst q3
            by_cases q4 : z < v
            · rw [if_pos (Or.inr (Or.inr ⟨rfl, q4⟩))]
              simp (disch := first | assumption | omega | exact nI_or0 | exact nI_or1 | exact bN_or _) only [x168_20, x168_21, x168_24, x168_25, x168_28, x168_29, x168_31, x168_32, x168_33, x168_34, x168_35, x168_38, x168_40, x168_41, x168_42, x168_43, x168_46, x168_48, x168_49, x168_50, x168_53, x168_55, x168_57, x168_60, x168_62, x168_64, x168_67, x168_69, x168_71, x168_74, x168_76, x168_77, x168_79, x168_81, x168_83, x168_85, x168_88, reduceIte, Nat.reduceLT, nW_ap, nW_up, nI_add, pk_mul, nI_ltI, nI_eq, if_true, if_false, kont_r, kont_v, Nat.reduceAdd, Nat.reduceMul, Nat.not_lt, not_true_eq_false, not_false_eq_true, Nat.one_ne_zero, Nat.reduceEqDiff, Nat.lt_irrefl, reduceCtorEq, nI_or0, nI_or1, hk, hM1, a2, a3, q1, q2, q4]
            · rw [if_neg (fun e => e.elim q1 fun e => e.elim q2 fun e => q4 e.2)]
              simp (disch := first | assumption | omega | exact nI_or0 | exact nI_or1 | exact bN_or _) only [x168_20, x168_21, x168_24, x168_25, x168_28, x168_29, x168_31, x168_32, x168_33, x168_34, x168_35, x168_38, x168_40, x168_41, x168_42, x168_43, x168_46, x168_48, x168_49, x168_50, x168_53, x168_55, x168_57, x168_60, x168_62, x168_64, x168_67, x168_69, x168_71, x168_74, x168_76, x168_77, x168_79, x168_81, x168_83, x168_85, x168_88, reduceIte, Nat.reduceLT, nW_ap, nW_up, nI_add, pk_mul, nI_ltI, nI_eq, if_true, if_false, kont_r, kont_v, Nat.reduceAdd, Nat.reduceMul, Nat.not_lt, not_true_eq_false, not_false_eq_true, Nat.one_ne_zero, Nat.reduceEqDiff, Nat.lt_irrefl, reduceCtorEq, nI_or0, nI_or1, hk, hM1, a2, a3, q1, q2, q4]
          · rw [if_neg (fun e => e.elim q1 fun e => e.elim q2 fun e => q3 e.1)]
            simp (disch := first | assumption | omega | exact nI_or0 | exact nI_or1 | exact bN_or _) only [x168_20, x168_21, x168_24, x168_25, x168_28, x168_29, x168_31, x168_32, x168_33, x168_34, x168_35, x168_38, x168_40, x168_41, x168_42, x168_43, x168_46, x168_48, x168_49, x168_50, x168_53, x168_55, x168_57, x168_60, x168_62, x168_64, x168_67, x168_69, x168_71, x168_74, x168_76, x168_77, x168_79, x168_81, x168_83, x168_85, x168_88, reduceIte, Nat.reduceLT, nW_ap, nW_up, nI_add, pk_mul, nI_ltI, nI_eq, if_true, if_false, kont_r, kont_v, Nat.reduceAdd, Nat.reduceMul, Nat.not_lt, not_true_eq_false, not_false_eq_true, Nat.one_ne_zero, Nat.reduceEqDiff, Nat.lt_irrefl, reduceCtorEq, nI_or0, nI_or1, hk, hM1, a2, a3, q1, q2, q3]
  obtain ⟨M', a, b⟩ := key 0 (Nat.zero_le _) N ⟨N 22 0 1, by rw [up3_id]; exact SS.rf⟩ vU vU
  refine ⟨M', ?_, b⟩
  have a : ex X 168 18 [vR 7 0, vI (nI n), vI (nI (N 22 0 1)), vI (-1), vI (nI 0), vI (nI 0), vI (nI 0), vU, vU] [] (gg (nW N) R L Z) = _ := a
  simp (disch := first | assumption | omega | exact nI_or0 | exact nI_or1 | exact bN_or _) only [in168, x168_0, x168_1, x168_4, x168_5, x168_6, x168_7, x168_8, x168_9, x168_10, x168_12, x168_13, x168_15, x168_16, reduceIte, Nat.reduceLT, nW_ap, nW_up, nI_add, pk_mul, nI_ltI, nI_eq, if_true, if_false, kont_r, kont_v, Nat.reduceAdd, Nat.reduceMul, Nat.not_lt, not_true_eq_false, not_false_eq_true, Nat.one_ne_zero, Nat.reduceEqDiff, Nat.lt_irrefl, reduceCtorEq, nI_or0, nI_or1, a]
theorem t169_1 {X : XS} {N : GV} {R : GR} {L : GL} {Z : Nat × Nat × Bool} (hR : Rok R) {n : Int32} (h1 : inb 1 30 n = false) : exec X 169 [vR 7 0, vI n] (gg (nW N) R L Z) = some (.inl (some (vI (nI 0))), (gg (nW (er N 1)) R L Z)) := by
  simp (disch := first | assumption | omega | exact nI_or0 | exact nI_or1 | exact bN_or _) only [in169, x169_0, x169_1, x169_2, x169_5, x169_6, x169_7, x169_9, x169_12, x169_15, x169_16, x169_17, x169_20, x169_23, x169_24, x169_25, x169_28, in169, reduceIte, Nat.reduceLT, nW_ap, nW_up, nI_add, pk_mul, nI_ltI, nI_eq, if_true, if_false, kont_r, kont_v, Nat.reduceAdd, Nat.reduceMul, Nat.not_lt, not_true_eq_false, not_false_eq_true, Nat.one_ne_zero, Nat.reduceEqDiff, Nat.lt_irrefl, reduceCtorEq, nI_or0, nI_or1, up3_er, t91i, h1, bN, Bool.false_eq_true, t92e, er_er']
theorem t169_2 {X : XS} {N : GV} {R : GR} {L : GL} {Z : Nat × Nat × Bool} (hR : Rok R) {K n : Nat} (h : DI K N) (hz : ouZ (N 22 0)) (h1 : 1 ≤ n ∧ n ≤ 30) (hn : N 22 0 5 + n ≤ K) : ∃ M, exec X 169 [vR 7 0, vI (nI n)] (gg (nW N) R L Z) = some (.inl (some (vI (ordV (N 22 0) n))), (gg (nW (M)) R L Z)) ∧ SS (er N 0) M := by
  have i1 : inb 1 30 (nI n) = true := by rw [inb_t (by omega) (by omega) (by omega)]; exact decide_eq_true (by omega)
  obtain ⟨M, a, b⟩ := t168 (X := X) (N := er N 0) (L := L) (Z := Z) (n := n) hR h.er (by rw [er_22]; exact hz) (by rw [er_22]; exact hn)
  rw [er_22] at a
  refine ⟨M, ?_, b⟩
  simp (disch := first | assumption | omega | exact nI_or0 | exact nI_or1 | exact bN_or _) only [in169, x169_0, x169_1, x169_2, x169_5, x169_6, x169_7, x169_9, x169_12, x169_15, x169_16, x169_17, x169_20, x169_23, x169_24, x169_25, x169_28, in169, reduceIte, Nat.reduceLT, nW_ap, nW_up, nI_add, pk_mul, nI_ltI, nI_eq, if_true, if_false, kont_r, kont_v, Nat.reduceAdd, Nat.reduceMul, Nat.not_lt, not_true_eq_false, not_false_eq_true, Nat.one_ne_zero, Nat.reduceEqDiff, Nat.lt_irrefl, reduceCtorEq, nI_or0, nI_or1, up3_er, t91i, i1, bN, a]
