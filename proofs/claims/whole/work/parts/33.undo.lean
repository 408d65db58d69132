/-! the reference's calls on texts, undo; the same state -/
/-- the state is the same; what only a call uses may differ -/
def SS (N M : GV) : Prop := M 22 0 = N 22 0 ∧ M 24 0 = N 24 0 ∧ M 25 0 = N 25 0 ∧ M 7 0 4 = N 7 0 4 ∧ M 7 0 6 = N 7 0 6 ∧ ∀ k i s, k < 22 ∨ 29 < k → ¬ (k = 7 ∧ ¬ s = 0) → M k i s = N k i s
/-- the same, but for what was thrown -/
def SE (N M : GV) : Prop := M 22 0 = N 22 0 ∧ M 24 0 = N 24 0 ∧ M 25 0 = N 25 0 ∧ M 7 0 4 = N 7 0 4 ∧ M 7 0 6 = N 7 0 6 ∧ ∀ k i s, k < 22 ∨ 29 < k → ¬ k = 7 → M k i s = N k i s
theorem SS.se {N M : GV} (h : SS N M) : SE N M := ⟨h.1, h.2.1, h.2.2.1, h.2.2.2.1, h.2.2.2.2.1, fun k i s a b => h.2.2.2.2.2 k i s a fun q => b q.1⟩
theorem SE.tr {N1 N2 N3 : GV} (h1 : SE N1 N2) (h2 : SE N2 N3) : SE N1 N3 :=
  ⟨h2.1.trans h1.1, h2.2.1.trans h1.2.1, h2.2.2.1.trans h1.2.2.1, h2.2.2.2.1.trans h1.2.2.2.1, h2.2.2.2.2.1.trans h1.2.2.2.2.1, fun k i s a b => (h2.2.2.2.2.2 k i s a b).trans (h1.2.2.2.2.2 k i s a b)⟩
theorem SS.rf {N : GV} : SS N N := ⟨rfl, rfl, rfl, rfl, rfl, fun _ _ _ _ _ => rfl⟩
theorem SS.tr {N1 N2 N3 : GV} (h1 : SS N1 N2) (h2 : SS N2 N3) : SS N1 N3 :=
  ⟨h2.1.trans h1.1, h2.2.1.trans h1.2.1, h2.2.2.1.trans h1.2.2.1, h2.2.2.2.1.trans h1.2.2.2.1, h2.2.2.2.2.1.trans h1.2.2.2.2.1, fun k i s a b => (h2.2.2.2.2.2 k i s a b).trans (h1.2.2.2.2.2 k i s a b)⟩
theorem SE.er {N : GV} {a : Nat} : SE N (er N a) :=
  ⟨by rw [er_22], by funext s; exact er_k (by decide), by funext s; exact er_k (by decide), er_s (by decide), er_s (by decide), fun k i s _ h => er_k h⟩
theorem SS.tx {N : GV} {p ok g : Nat} {T : Nat → Nat} : SS N (tx N p ok g T) :=
  ⟨by funext s; exact tx_o (by omega) (by omega), by funext s; exact tx_o (by omega) (by omega), by funext s; exact tx_25, rfl, rfl, fun k i s a b => tx_o (by omega) (by omega)⟩
theorem DI.ss {K : Nat} {N M : GV} (h : DI K N) (e : SS N M) : DI K M := ⟨h.hK, fun j => by rw [e.1]; exact h.u j, fun p hp => by rw [e.1]; exact h.l p hp⟩
theorem bufW.ss {N M : GV} (h : bufW N) (e : SE N M) : bufW M := by
  unfold bufW
  rw [e.2.2.2.2.1, e.2.2.1]
  exact h
theorem PS_e {N M : GV} (e : M 25 0 = N 25 0) : ∀ i, PS M i = PS N i
  | 0 => rfl
  | i + 1 => by
    show stP (PS M i) (M 25 0 i) = stP (PS N i) (N 25 0 i)
    rw [PS_e e i, e]
theorem sg_e {N M : GV} (e : M 25 0 = N 25 0) (e6 : M 7 0 6 = N 7 0 6) {p : Nat} : sg M p = sg N p := by
  unfold sg
  rw [e, e6]
theorem Ea.ss {N M : GV} {p ok g : Nat} {T : Nat → Nat} (e : SE N M) (h : Ea M p ok g T) : Ea N p ok g T := by
  unfold Ea Bad at *
  rw [PS_e e.2.2.1, sg_e e.2.2.1 e.2.2.2.2.1, e.2.2.2.2.1] at h
  exact h
theorem t137 {X : XS} {N : GV} {R : GR} {L : GL} {Z : Nat × Nat × Bool} (hR : Rok R) : exec X 137 [vR 7 0] (gg (nW N) R L Z) = some (.inl (some (vI (nI (N 7 0 6)))), (gg (nW (up3 (er N 0) 7 0 6 0)) R L Z)) := by
  have e : (er N 0) 7 0 6 = N 7 0 6 := er_s (by decide)
  simp (disch := first | assumption | omega | exact nI_or0 | exact nI_or1 | exact bN_or _) only [in137, x137_0, x137_1, x137_2, x137_5, x137_6, x137_9, x137_10, x137_11, x137_12, x137_15, x137_16, in137, reduceIte, Nat.reduceLT, nW_ap, nW_up, nI_add, pk_mul, nI_ltI, nI_eq, if_true, if_false, kont_r, kont_v, Nat.reduceAdd, Nat.reduceMul, Nat.not_lt, not_true_eq_false, not_false_eq_true, Nat.one_ne_zero, Nat.reduceEqDiff, Nat.lt_irrefl, reduceCtorEq, nI_or0, nI_or1, up3_er, e]
theorem t145 {X : XS} {N : GV} {R : GR} {L : GL} {Z : Nat × Nat × Bool} (hR : Rok R) (h : bufW N) : ∃ p ok g T, exec X 145 [vR 7 0] (gg (nW N) R L Z) = some (.inl (some (vI (nI p))), (gg (nW (tx (er N 0) p ok g T)) R L Z)) ∧ Ea N p ok g T := by
  obtain ⟨p, ok, g, T, a, b⟩ := t144 (X := X) (L := L) (Z := Z) hR (h.ss (SE.er (a := 0)))
  refine ⟨p, ok, g, T, ?_, b.ss SE.er⟩
  simp (disch := first | assumption | omega | exact nI_or0 | exact nI_or1 | exact bN_or _) only [in145, x145_0, x145_1, x145_2, x145_5, x145_6, x145_9, x145_10, x145_13, in145, reduceIte, Nat.reduceLT, nW_ap, nW_up, nI_add, pk_mul, nI_ltI, nI_eq, if_true, if_false, kont_r, kont_v, Nat.reduceAdd, Nat.reduceMul, Nat.not_lt, not_true_eq_false, not_false_eq_true, Nat.one_ne_zero, Nat.reduceEqDiff, Nat.lt_irrefl, reduceCtorEq, nI_or0, nI_or1, up3_er, a, tx_10]
/-- outings of a text are planned -/
def plnL (N : GV) : List OT → GV
  | [] => N
  | o :: l => plnL (plnN N o.1 o.2.1 o.2.2) l
theorem plnL_ap {N : GV} {l m : List OT} : plnL N (l ++ m) = plnL (plnL N l) m := by
  induction l generalizing N with
  | nil => rfl
  | cons o l ih => exact ih
theorem tx_er {N : GV} {p ok g a b : Nat} {T : Nat → Nat} : er (tx (er N a) p ok g T) b = tx (er N b) p ok g T := by
  funext k i s
  unfold er up3 tx
  by_cases h : k = 7 ∧ i = 0 ∧ s = 0
  · rw [if_pos h, if_neg (by omega), if_neg (by omega), if_neg (by omega), if_neg (by omega)]
    exact (if_pos h).symm
  · simp only [h, if_false]
/-- can the groups be planned -/
def fitB (S : Nat → Nat) (l : List OT) : Bool := decide (S 7 + l.length ≤ 16) && l.all fun o => decide (S 5 ≤ o.1)
theorem all_ap {l : List OT} {p : OT → Bool} {k : Nat} (hk : k < l.length) : (l.take (k + 1)).all p = ((l.take k).all p && p (l.getD k (0, 0, 0))) := by
  rw [List.take_succ_eq_append_getElem hk, List.all_append]
  have e : l.getD k (0, 0, 0) = l[k] := by rw [List.getD_eq_getElem?_getD, List.getElem?_eq_getElem hk]; rfl
  rw [e]
  simp
theorem pln_7 {N : GV} {d c g : Nat} : (plnN N d c g) 22 0 7 = N 22 0 7 + 1 := up3_self _ _ _ _ _
theorem pln_o {N : GV} {d c g k i s : Nat} (h : k = 22 → i = 0 → ¬ s = 7 ∧ s < 153) : plnN N d c g k i s = N k i s := by
  unfold plnN up3
  rw [if_neg fun q => by have := h q.1 q.2.1; omega, if_neg fun q => by have := h q.1 q.2.1; omega, if_neg fun q => by have := h q.1 q.2.1; omega, if_neg fun q => by have := h q.1 q.2.1; omega]
theorem plnL_7 {N : GV} {l : List OT} : (plnL N l) 22 0 7 = N 22 0 7 + l.length := by
  induction l generalizing N with
  | nil => rfl
  | cons o l ih =>
    show (plnL (plnN N o.1 o.2.1 o.2.2) l) 22 0 7 = _
    rw [ih, pln_7, List.length_cons]; omega
theorem plnL_o {N : GV} {l : List OT} {k i s : Nat} (h : k = 22 → i = 0 → ¬ s = 7 ∧ s < 153) : (plnL N l) k i s = N k i s := by
  induction l generalizing N with
  | nil => rfl
  | cons o l ih =>
    show (plnL (plnN N o.1 o.2.1 o.2.2) l) k i s = _
    rw [ih, pln_o h]
theorem t146_1 {X : XS} {N : GV} {R : GR} {L : GL} {Z : Nat × Nat × Bool} (hR : Rok R) (h : bufW N) : ∀ {p g : Nat} {T : Nat → Nat}, exec X 144 [vR 7 0] (gg (nW (er N 0)) R L Z) = some (.inl none, (gg (nW (tx (er N 0) p 0 g T)) R L Z)) → exec X 146 [vR 7 0] (gg (nW N) R L Z) = some (.inl (some (vI (nI 0))), (gg (nW (tx (er N 1) p 0 g T)) R L Z)) := by
  intro p g T a
  simp (disch := first | assumption | omega | exact nI_or0 | exact nI_or1 | exact bN_or _) only [in146, x146_0, x146_1, x146_2, x146_5, x146_6, x146_9, x146_10, x146_13, x146_16, x146_17, x146_18, x146_21, reduceIte, Nat.reduceLT, nW_ap, nW_up, nI_add, pk_mul, nI_ltI, nI_eq, if_true, if_false, kont_r, kont_v, Nat.reduceAdd, Nat.reduceMul, Nat.not_lt, not_true_eq_false, not_false_eq_true, Nat.one_ne_zero, Nat.reduceEqDiff, Nat.lt_irrefl, reduceCtorEq, nI_or0, nI_or1, up3_er, a, tx_11, t92e, tx_er]
theorem l146 {X : XS} {N : GV} {R : GR} {L : GL} {Z : Nat × Nat × Bool} (hR : Rok R) {K : Nat} (h : DI K N) {p g : Nat} {T : Nat → Nat} {l : List OT} (hT : TL T l) (hg : g = l.length) (hl : g ≤ 15) (hd : ∀ o, o ∈ l → o.1 ≤ 999) (a : exec X 144 [vR 7 0] (gg (nW (er N 0)) R L Z) = some (.inl none, (gg (nW (tx (er N 0) p 1 g T)) R L Z))) {r : Option RS} (hr : ex X 146 88 [vR 7 0, vI (nI (bN (fitB (N 22 0) l))), vI (nI l.length)] [] (gg (nW (tx (er N 0) p 1 g T)) R L Z) = r) : exec X 146 [vR 7 0] (gg (nW N) R L Z) = r := by
  have h7 := h.h7
  have h5 := h.h5
  have hK := h.hK
  have e7 : (tx (er N 0) p 1 g T) 22 0 7 = N 22 0 7 := by rw [tx_o (by omega) (by omega), er_22]
  have e5 : (tx (er N 0) p 1 g T) 22 0 5 = N 22 0 5 := by rw [tx_o (by omega) (by omega), er_22]
  have key : ∀ k, k ≤ l.length → ex X 146 47 [vR 7 0, vI (nI (bN (decide (N 22 0 7 + l.length ≤ 16) && (l.take k).all fun o => decide (N 22 0 5 ≤ o.1)))), vI (nI k)] [] (gg (nW (tx (er N 0) p 1 g T)) R L Z) = r := by
    refine down _ ?_ ?_
    · rw [List.take_length]
      rw [x146_47]
      simp (disch := first | assumption | omega | exact nI_or0 | exact nI_or1 | exact bN_or _) only [x146_48, x146_49, x146_52, reduceIte, Nat.reduceLT, nW_ap, nW_up, nI_add, pk_mul, nI_ltI, nI_eq, if_true, if_false, kont_r, kont_v, Nat.reduceAdd, Nat.reduceMul, Nat.not_lt, not_true_eq_false, not_false_eq_true, Nat.one_ne_zero, Nat.reduceEqDiff, Nat.lt_irrefl, reduceCtorEq, nI_or0, nI_or1, tx_13, hg]
      rw [hg] at hr
      exact hr
    · intro k hk ih
      rw [all_ap hk] at ih
      have t0 := hT k 0 hk (by omega)
      have t0 : T (3 * k) = (l.getD k (0, 0, 0)).1 := t0
      have hb : (l.getD k (0, 0, 0)).1 ≤ 999 := by
        rw [List.getD_eq_getElem?_getD, List.getElem?_eq_getElem hk]
        exact hd _ (List.getElem_mem hk)
      have hkg : k < g := by omega
      generalize (l.getD k (0, 0, 0)).1 = dk at t0 hb ih
      generalize ((l.take k).all fun o => decide (N 22 0 5 ≤ o.1)) = A at ih ⊢
      rw [← Bool.and_assoc] at ih
      generalize (decide (N 22 0 7 + l.length ≤ 16) && A) = B at ih ⊢
      rw [x146_47]
      cases B with
      | false =>
        rw [Bool.false_and] at ih
        simp (disch := first | assumption | omega | exact nI_or0 | exact nI_or1 | exact bN_or _) only [x146_48, x146_49, x146_52, x146_55, x146_56, x146_59, x146_60, x146_63, x146_64, x146_65, x146_66, x146_67, x146_68, x146_71, x146_72, x146_73, x146_76, x146_77, x146_80, x146_81, x146_82, x146_85, reduceIte, Nat.reduceLT, nW_ap, nW_up, nI_add, pk_mul, nI_ltI, nI_eq, if_true, if_false, kont_r, kont_v, Nat.reduceAdd, Nat.reduceMul, Nat.not_lt, not_true_eq_false, not_false_eq_true, Nat.one_ne_zero, Nat.reduceEqDiff, Nat.lt_irrefl, reduceCtorEq, nI_or0, nI_or1, tx_13, hkg, bN, Bool.false_eq_true]
        exact ih
      | true =>
        rw [Bool.true_and] at ih
        by_cases q : dk < N 22 0 5
        · rw [decide_eq_false (by omega)] at ih
          simp (disch := first | assumption | omega | exact nI_or0 | exact nI_or1 | exact bN_or _) only [x146_48, x146_49, x146_52, x146_55, x146_56, x146_59, x146_60, x146_63, x146_64, x146_65, x146_66, x146_67, x146_68, x146_71, x146_72, x146_73, x146_76, x146_77, x146_80, x146_81, x146_82, x146_85, reduceIte, Nat.reduceLT, nW_ap, nW_up, nI_add, pk_mul, nI_ltI, nI_eq, if_true, if_false, kont_r, kont_v, Nat.reduceAdd, Nat.reduceMul, Nat.not_lt, not_true_eq_false, not_false_eq_true, Nat.one_ne_zero, Nat.reduceEqDiff, Nat.lt_irrefl, reduceCtorEq, nI_or0, nI_or1, tx_13, hkg, bN, tx_29, t0, e5, q]
          exact ih
        · rw [decide_eq_true (by omega)] at ih
          simp (disch := first | assumption | omega | exact nI_or0 | exact nI_or1 | exact bN_or _) only [x146_48, x146_49, x146_52, x146_55, x146_56, x146_59, x146_60, x146_63, x146_64, x146_65, x146_66, x146_67, x146_68, x146_71, x146_72, x146_73, x146_76, x146_77, x146_80, x146_81, x146_82, x146_85, reduceIte, Nat.reduceLT, nW_ap, nW_up, nI_add, pk_mul, nI_ltI, nI_eq, if_true, if_false, kont_r, kont_v, Nat.reduceAdd, Nat.reduceMul, Nat.not_lt, not_true_eq_false, not_false_eq_true, Nat.one_ne_zero, Nat.reduceEqDiff, Nat.lt_irrefl, reduceCtorEq, nI_or0, nI_or1, tx_13, hkg, bN, tx_29, t0, e5, q]
          exact ih
  have h0 := key 0 (Nat.zero_le _)
  rw [List.take_zero, List.all_nil, Bool.and_true] at h0
  by_cases q : 16 < N 22 0 7 + g
  · rw [decide_eq_false (by omega)] at h0
    simp (disch := first | assumption | omega | exact nI_or0 | exact nI_or1 | exact bN_or _) only [in146, x146_0, x146_1, x146_2, x146_5, x146_6, x146_9, x146_10, x146_13, x146_16, x146_17, x146_18, x146_21, x146_22, x146_23, x146_26, x146_28, x146_29, x146_30, x146_33, x146_34, x146_36, x146_39, x146_40, x146_43, x146_44, x146_45, x146_46, reduceIte, Nat.reduceLT, nW_ap, nW_up, nI_add, pk_mul, nI_ltI, nI_eq, if_true, if_false, kont_r, kont_v, Nat.reduceAdd, Nat.reduceMul, Nat.not_lt, not_true_eq_false, not_false_eq_true, Nat.one_ne_zero, Nat.reduceEqDiff, Nat.lt_irrefl, reduceCtorEq, nI_or0, nI_or1, up3_er, a, tx_11, tx_13, e7, q]
    exact h0
  · rw [decide_eq_true (by omega)] at h0
    simp (disch := first | assumption | omega | exact nI_or0 | exact nI_or1 | exact bN_or _) only [in146, x146_0, x146_1, x146_2, x146_5, x146_6, x146_9, x146_10, x146_13, x146_16, x146_17, x146_18, x146_21, x146_22, x146_23, x146_26, x146_28, x146_29, x146_30, x146_33, x146_34, x146_36, x146_39, x146_40, x146_43, x146_44, x146_45, x146_46, reduceIte, Nat.reduceLT, nW_ap, nW_up, nI_add, pk_mul, nI_ltI, nI_eq, if_true, if_false, kont_r, kont_v, Nat.reduceAdd, Nat.reduceMul, Nat.not_lt, not_true_eq_false, not_false_eq_true, Nat.one_ne_zero, Nat.reduceEqDiff, Nat.lt_irrefl, reduceCtorEq, nI_or0, nI_or1, up3_er, a, tx_11, tx_13, e7, q]
    exact h0
theorem t146_2 {X : XS} {N : GV} {R : GR} {L : GL} {Z : Nat × Nat × Bool} (hR : Rok R) {K : Nat} (h : DI K N) {p g : Nat} {T : Nat → Nat} {l : List OT} (hT : TL T l) (hg : g = l.length) (hl : g ≤ 15) (hd : ∀ o, o ∈ l → o.1 ≤ 999) (a : exec X 144 [vR 7 0] (gg (nW (er N 0)) R L Z) = some (.inl none, (gg (nW (tx (er N 0) p 1 g T)) R L Z))) (hf : fitB (N 22 0) l = false) : exec X 146 [vR 7 0] (gg (nW N) R L Z) = some (.inl (some (vI (nI 0))), (gg (nW (tx (er N 2) p 1 g T)) R L Z)) := by
  refine l146 hR h hT hg hl hd a ?_
  rw [hf]
  simp (disch := first | assumption | omega | exact nI_or0 | exact nI_or1 | exact bN_or _) only [x146_88, x146_89, x146_92, x146_93, x146_94, x146_97, reduceIte, Nat.reduceLT, nW_ap, nW_up, nI_add, pk_mul, nI_ltI, nI_eq, if_true, if_false, kont_r, kont_v, Nat.reduceAdd, Nat.reduceMul, Nat.not_lt, not_true_eq_false, not_false_eq_true, Nat.one_ne_zero, Nat.reduceEqDiff, Nat.lt_irrefl, reduceCtorEq, nI_or0, nI_or1, bN, t92e, tx_er]
theorem t146_3 {X : XS} {N : GV} {R : GR} {L : GL} {Z : Nat × Nat × Bool} (hR : Rok R) {K : Nat} (h : DI K N) (hs : N 7 0 4 ≤ 6) {p g : Nat} {T : Nat → Nat} {l : List OT} (hT : TL T l) (hg : g = l.length) (hl : g ≤ 15) (hd : ∀ o, o ∈ l → o.1 ≤ 999) (a : exec X 144 [vR 7 0] (gg (nW (er N 0)) R L Z) = some (.inl none, (gg (nW (tx (er N 0) p 1 g T)) R L Z))) (hf : fitB (N 22 0) l = true) : exec X 146 [vR 7 0] (gg (nW N) R L Z) = some (.inl (some (vI (nI (N 22 0 7 + l.length)))), (gg (nW (plnL (up3 (savN (tx (er N 0) p 1 g T)) 7 0 6 0) l)) R L Z)) := by
  have hs' : (tx (er N 0) p 1 g T) 7 0 4 ≤ 6 := by rw [tx_o (by omega) (by omega)]; exact er7 hs
  have s94 := t94 (X := X) (N := tx (er N 0) p 1 g T) (L := L) (Z := Z) hR hs'
  have hf7 : N 22 0 7 + l.length ≤ 16 := by
    unfold fitB at hf
    rw [Bool.and_eq_true] at hf
    exact of_decide_eq_true hf.1
  refine l146 hR h hT hg hl hd a ?_
  rw [hf]
  generalize hM : up3 (savN (tx (er N 0) p 1 g T)) 7 0 6 0 = M
  have eg : M 7 0 13 = g := by rw [← hM, up3_s _ _ (by decide), sav_o (by decide) (by decide), tx_13]
  have e7 : M 22 0 7 = N 22 0 7 := by rw [← hM, up3_k _ _ (by decide), sav_o (by decide) (by decide), tx_o (by omega) (by omega), er_22]
  have eT : ∀ s, M 29 0 s = T s := fun s => by rw [← hM, up3_k _ _ (by decide), sav_o (by decide) (by omega), tx_29]
  have key : ∀ k, k ≤ l.length → ∀ l1 : Int32, ex X 146 109 [vR 7 0, vI l1, vI (nI k)] [] (gg (nW (plnL M (l.take k))) R L Z) = some (.inl (some (vI (nI (N 22 0 7 + l.length)))), (gg (nW (plnL M l)) R L Z)) := by
    refine down _ ?_ ?_
    · intro l1
      rw [List.take_length]
      have e13 : (plnL M l) 7 0 13 = l.length := by rw [plnL_o (by omega), eg, hg]
      have e77 : (plnL M l) 22 0 7 = N 22 0 7 + l.length := by rw [plnL_7, e7]
      rw [x146_109]
      simp (disch := first | assumption | omega | exact nI_or0 | exact nI_or1 | exact bN_or _) only [x146_110, x146_111, x146_114, x146_155, x146_156, x146_159, x146_161, x146_162, reduceIte, Nat.reduceLT, nW_ap, nW_up, nI_add, pk_mul, nI_ltI, nI_eq, if_true, if_false, kont_r, kont_v, Nat.reduceAdd, Nat.reduceMul, Nat.not_lt, not_true_eq_false, not_false_eq_true, Nat.one_ne_zero, Nat.reduceEqDiff, Nat.lt_irrefl, reduceCtorEq, nI_or0, nI_or1, e13, e77]
    · intro k hk ih l1
      have ih := ih l1
      have e13 : (plnL M (l.take k)) 7 0 13 = g := by rw [plnL_o (by omega), eg]
      have e77 : (plnL M (l.take k)) 22 0 7 < 17 := by rw [plnL_7, e7, List.length_take]; omega
      have ee : ∀ s, (plnL M (l.take k)) 29 0 s = T s := fun s => by rw [plnL_o (by omega), eT]
      have t0 := hT k 0 hk (by omega)
      have t1 := hT k 1 hk (by omega)
      have t2 := hT k 2 hk (by omega)
      have t0 : T (3 * k) = (l.getD k (0, 0, 0)).1 := t0
      have t1 : T (3 * k + 1) = (l.getD k (0, 0, 0)).2.1 := t1
      have t2 : T (3 * k + 2) = (l.getD k (0, 0, 0)).2.2 := t2
      have hkg : k < g := by omega
      have el : l.getD k (0, 0, 0) = l[k] := by rw [List.getD_eq_getElem?_getD, List.getElem?_eq_getElem hk]; rfl
      rw [List.take_succ_eq_append_getElem hk, plnL_ap, ← el] at ih
      generalize l.getD k (0, 0, 0) = o at ih t0 t1 t2
      generalize plnL M (l.take k) = Q at ih e13 e77 ee
      have ih : ex X 146 109 [vR 7 0, vI l1, vI (nI (k + 1))] [] (gg (nW (plnN Q o.1 o.2.1 o.2.2)) R L Z) = some (.inl (some (vI (nI (N 22 0 7 + l.length)))), (gg (nW (plnL M l)) R L Z)) := ih
      have s1 := t130 (X := X) (N := Q) (L := L) (Z := Z) (d := o.1) (c := o.2.1) (g := o.2.2) hR e77
      rw [x146_109]
      simp (disch := first | assumption | omega | exact nI_or0 | exact nI_or1 | exact bN_or _) only [x146_110, x146_111, x146_114, x146_117, x146_118, x146_119, x146_122, x146_123, x146_124, x146_125, x146_126, x146_127, x146_130, x146_131, x146_132, x146_133, x146_134, x146_135, x146_136, x146_137, x146_140, x146_141, x146_142, x146_143, x146_144, x146_145, x146_146, x146_149, x146_152, reduceIte, Nat.reduceLT, nW_ap, nW_up, nI_add, pk_mul, nI_ltI, nI_eq, if_true, if_false, kont_r, kont_v, Nat.reduceAdd, Nat.reduceMul, Nat.not_lt, not_true_eq_false, not_false_eq_true, Nat.one_ne_zero, Nat.reduceEqDiff, Nat.lt_irrefl, reduceCtorEq, nI_or0, nI_or1, e13, hkg, ee, t0, t1, t2, s1]
      exact ih
  have h0 := key 0 (Nat.zero_le _)
  rw [List.take_zero] at h0
  have h0 : ∀ l1 : Int32, ex X 146 109 [vR 7 0, vI l1, vI (nI 0)] [] (gg (nW (M)) R L Z) = _ := h0
  simp (disch := first | assumption | omega | exact nI_or0 | exact nI_or1 | exact bN_or _) only [x146_88, x146_89, x146_98, x146_99, x146_102, x146_103, x146_104, x146_107, x146_108, reduceIte, Nat.reduceLT, nW_ap, nW_up, nI_add, pk_mul, nI_ltI, nI_eq, if_true, if_false, kont_r, kont_v, Nat.reduceAdd, Nat.reduceMul, Nat.not_lt, not_true_eq_false, not_false_eq_true, Nat.one_ne_zero, Nat.reduceEqDiff, Nat.lt_irrefl, reduceCtorEq, nI_or0, nI_or1, bN, s94, hM, h0]
