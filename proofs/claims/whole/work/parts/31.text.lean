/-! the reference's reading of the buffer -/
/-- the world while the buffer is read: place, is it right, groups, what was told -/
def tx (N : GV) (p ok g : Nat) (T : Nat → Nat) : GV := fun k i s => if k = 7 ∧ i = 0 ∧ s = 10 then p else if k = 7 ∧ i = 0 ∧ s = 11 then ok else if k = 7 ∧ i = 0 ∧ s = 13 then g else if k = 29 ∧ i = 0 then T s else N k i s
theorem tx_self {N : GV} : tx N (N 7 0 10) (N 7 0 11) (N 7 0 13) (N 29 0) = N := by
  funext k i s
  unfold tx
  split
  · next h => obtain ⟨h1, h2, h3⟩ := h; subst h1 h2 h3; rfl
  · split
    · next h => obtain ⟨h1, h2, h3⟩ := h; subst h1 h2 h3; rfl
    · split
      · next h => obtain ⟨h1, h2, h3⟩ := h; subst h1 h2 h3; rfl
      · split
        · next h => obtain ⟨h1, h2⟩ := h; subst h1 h2; rfl
        · rfl
theorem tx_o {N : GV} {p ok g : Nat} {T : Nat → Nat} {k i s : Nat} (h : k = 7 → ¬ s = 10 ∧ ¬ s = 11 ∧ ¬ s = 13) (h' : ¬ k = 29) : tx N p ok g T k i s = N k i s := by
  unfold tx
  rw [if_neg fun q => (h q.1).1 q.2.2, if_neg fun q => (h q.1).2.1 q.2.2, if_neg fun q => (h q.1).2.2 q.2.2, if_neg fun q => h' q.1]
theorem tx_10 {N : GV} {p ok g : Nat} {T : Nat → Nat} : tx N p ok g T 7 0 10 = p := if_pos ⟨rfl, rfl, rfl⟩
theorem tx_11 {N : GV} {p ok g : Nat} {T : Nat → Nat} : tx N p ok g T 7 0 11 = ok := rfl
theorem tx_13 {N : GV} {p ok g : Nat} {T : Nat → Nat} : tx N p ok g T 7 0 13 = g := rfl
theorem tx_6 {N : GV} {p ok g : Nat} {T : Nat → Nat} : tx N p ok g T 7 0 6 = N 7 0 6 := rfl
theorem tx_25 {N : GV} {p ok g s : Nat} {T : Nat → Nat} : tx N p ok g T 25 0 s = N 25 0 s := tx_o (by omega) (by omega)
theorem tx_29 {N : GV} {p ok g s : Nat} {T : Nat → Nat} : tx N p ok g T 29 0 s = T s := by
  unfold tx
  rw [if_neg (by omega), if_neg (by omega), if_neg (by omega), if_pos ⟨rfl, rfl⟩]
theorem tx_u10 {N : GV} {p ok g v : Nat} {T : Nat → Nat} : up3 (tx N p ok g T) 7 0 10 v = tx N v ok g T := by
  funext k i s
  unfold up3 tx
  by_cases h : k = 7 ∧ i = 0 ∧ s = 10
  · rw [if_pos h, if_pos h]
  · rw [if_neg h, if_neg h, if_neg h]
theorem tx_u11 {N : GV} {p ok g v : Nat} {T : Nat → Nat} : up3 (tx N p ok g T) 7 0 11 v = tx N p v g T := by
  funext k i s
  unfold up3 tx
  by_cases h : k = 7 ∧ i = 0 ∧ s = 11
  · rw [if_pos h, if_neg (by omega), if_pos h]
  · rw [if_neg h, if_neg h, if_neg h]
theorem tx_u13 {N : GV} {p ok g v : Nat} {T : Nat → Nat} : up3 (tx N p ok g T) 7 0 13 v = tx N p ok v T := by
  funext k i s
  unfold up3 tx
  by_cases h : k = 7 ∧ i = 0 ∧ s = 13
  · rw [if_pos h, if_neg (by omega), if_neg (by omega), if_pos h]
  · rw [if_neg h, if_neg h, if_neg h]
def upT (T : Nat → Nat) (j v : Nat) : Nat → Nat := fun s => if s = j then v else T s
theorem tx_u29 {N : GV} {p ok g j v : Nat} {T : Nat → Nat} : up3 (tx N p ok g T) 29 0 j v = tx N p ok g (upT T j v) := by
  funext k i s
  unfold up3 tx upT
  by_cases h : k = 29 ∧ i = 0 ∧ s = j
  · rw [if_pos h, if_neg (by omega), if_neg (by omega), if_neg (by omega), if_pos ⟨h.1, h.2.1⟩, if_pos h.2.2]
  · rw [if_neg h]
    by_cases h2 : k = 29 ∧ i = 0
    · rw [if_neg (by omega), if_neg (by omega), if_neg (by omega), if_pos h2, if_neg (by omega), if_neg (by omega), if_neg (by omega), if_pos h2, if_neg fun q => h ⟨h2.1, h2.2, q⟩]
    · rw [if_neg h2, if_neg h2]
/-- the character at p, 0 behind the end -/
def sg (N : GV) (p : Nat) : Nat := if p < N 7 0 6 then N 25 0 p else 0
/-- what holds of the buffer -/
def bufW (N : GV) : Prop := N 7 0 6 ≤ 60 ∧ ∀ j, j < N 7 0 6 → 33 ≤ N 25 0 j ∧ N 25 0 j ≤ 126
theorem sg_le {N : GV} (h : bufW N) {p : Nat} : sg N p ≤ 126 := by
  unfold sg
  split
  · next q => exact (h.2 p q).2
  · omega
theorem t138 {X : XS} {N : GV} {R : GR} {L : GL} {Z : Nat × Nat × Bool} (hR : Rok R) (h : bufW N) {p ok g : Nat} {T : Nat → Nat} (hp : p ≤ N 7 0 6) : exec X 138 [vR 7 0] (gg (nW (tx N p ok g T)) R L Z) = some (.inl (some (vI (nI (sg N p)))), (gg (nW (tx N p ok g T)) R L Z)) := by
  have h6 := h.1
  unfold sg
  by_cases q : p < N 7 0 6
  · simp (disch := first | assumption | omega | exact nI_or0 | exact nI_or1 | exact bN_or _) only [in138, x138_0, x138_1, x138_4, x138_5, x138_8, x138_11, x138_12, x138_15, x138_16, x138_19, x138_20, x138_23, x138_24, in138, reduceIte, Nat.reduceLT, nW_ap, nW_up, nI_add, pk_mul, nI_ltI, nI_eq, if_true, if_false, kont_r, kont_v, Nat.reduceAdd, Nat.reduceMul, Nat.not_lt, not_true_eq_false, not_false_eq_true, Nat.one_ne_zero, Nat.reduceEqDiff, Nat.lt_irrefl, reduceCtorEq, nI_or0, nI_or1, tx_10, tx_6, tx_25, q]
  · simp (disch := first | assumption | omega | exact nI_or0 | exact nI_or1 | exact bN_or _) only [in138, x138_0, x138_1, x138_4, x138_5, x138_8, x138_11, x138_12, x138_15, x138_16, x138_19, x138_20, x138_23, x138_24, in138, reduceIte, Nat.reduceLT, nW_ap, nW_up, nI_add, pk_mul, nI_ltI, nI_eq, if_true, if_false, kont_r, kont_v, Nat.reduceAdd, Nat.reduceMul, Nat.not_lt, not_true_eq_false, not_false_eq_true, Nat.one_ne_zero, Nat.reduceEqDiff, Nat.lt_irrefl, reduceCtorEq, nI_or0, nI_or1, tx_10, tx_6, q]
/-- is the next character c, and is all right so far -/
def tkB (N : GV) (p ok c : Nat) : Bool := decide (ok = 1 ∧ sg N p = c)
theorem tk_lt {N : GV} {p ok c : Nat} (h : tkB N p ok c = true) (hc : 0 < c) : p < N 7 0 6 := by
  unfold tkB at h
  have h := (of_decide_eq_true h).2
  unfold sg at h
  split at h
  · assumption
  · omega
theorem t139 {X : XS} {N : GV} {R : GR} {L : GL} {Z : Nat × Nat × Bool} (hR : Rok R) (h : bufW N) {p ok g c : Nat} {T : Nat → Nat} (hp : p ≤ N 7 0 6) (hok : ok = 0 ∨ ok = 1) (hc : c < 128) : exec X 139 [vR 7 0, vI (nI c)] (gg (nW (tx N p ok g T)) R L Z) = some (.inl (some (vI (nI (bN (tkB N p ok c))))), (gg (nW (tx N (p + bN (tkB N p ok c)) ok g T)) R L Z)) := by
  have h6 := h.1
  have hs := sg_le h (p := p)
  have s1 := t138 (X := X) (L := L) (Z := Z) (ok := ok) (g := g) (T := T) hR h hp
  unfold tkB
  rcases hok with e | e
  · subst e
    rw [decide_eq_false (by omega)]
    simp (disch := first | assumption | omega | exact nI_or0 | exact nI_or1 | exact bN_or _) only [in139, x139_0, x139_1, x139_4, x139_7, x139_8, x139_11, x139_12, x139_15, x139_16, x139_19, x139_20, x139_21, x139_22, x139_23, x139_26, x139_27, x139_30, x139_31, x139_34, x139_35, x139_36, x139_39, x139_40, in139, reduceIte, Nat.reduceLT, nW_ap, nW_up, nI_add, pk_mul, nI_ltI, nI_eq, if_true, if_false, kont_r, kont_v, Nat.reduceAdd, Nat.reduceMul, Nat.not_lt, not_true_eq_false, not_false_eq_true, Nat.one_ne_zero, Nat.reduceEqDiff, Nat.lt_irrefl, reduceCtorEq, nI_or0, nI_or1, tx_10, tx_11, tx_u10, bN, Bool.false_eq_true]
  · subst e
    by_cases q : sg N p = c
    · rw [decide_eq_true ⟨rfl, q⟩]
      simp (disch := first | assumption | omega | exact nI_or0 | exact nI_or1 | exact bN_or _) only [in139, x139_0, x139_1, x139_4, x139_7, x139_8, x139_11, x139_12, x139_15, x139_16, x139_19, x139_20, x139_21, x139_22, x139_23, x139_26, x139_27, x139_30, x139_31, x139_34, x139_35, x139_36, x139_39, x139_40, in139, reduceIte, Nat.reduceLT, nW_ap, nW_up, nI_add, pk_mul, nI_ltI, nI_eq, if_true, if_false, kont_r, kont_v, Nat.reduceAdd, Nat.reduceMul, Nat.not_lt, not_true_eq_false, not_false_eq_true, Nat.one_ne_zero, Nat.reduceEqDiff, Nat.lt_irrefl, reduceCtorEq, nI_or0, nI_or1, tx_10, tx_11, tx_u10, s1, bN, q]
    · rw [decide_eq_false fun e => q e.2]
      simp (disch := first | assumption | omega | exact nI_or0 | exact nI_or1 | exact bN_or _) only [in139, x139_0, x139_1, x139_4, x139_7, x139_8, x139_11, x139_12, x139_15, x139_16, x139_19, x139_20, x139_21, x139_22, x139_23, x139_26, x139_27, x139_30, x139_31, x139_34, x139_35, x139_36, x139_39, x139_40, in139, reduceIte, Nat.reduceLT, nW_ap, nW_up, nI_add, pk_mul, nI_ltI, nI_eq, if_true, if_false, kont_r, kont_v, Nat.reduceAdd, Nat.reduceMul, Nat.not_lt, not_true_eq_false, not_false_eq_true, Nat.one_ne_zero, Nat.reduceEqDiff, Nat.lt_irrefl, reduceCtorEq, nI_or0, nI_or1, tx_10, tx_11, tx_u10, s1, bN, q, Bool.false_eq_true]
theorem t140 {X : XS} {N : GV} {R : GR} {L : GL} {Z : Nat × Nat × Bool} (hR : Rok R) (h : bufW N) {p ok g c : Nat} {T : Nat → Nat} (hp : p ≤ N 7 0 6) (hok : ok = 0 ∨ ok = 1) (hc : c < 128) : exec X 140 [vR 7 0, vI (nI c)] (gg (nW (tx N p ok g T)) R L Z) = some (.inl none, (gg (nW (tx N (p + bN (tkB N p ok c)) (bN (tkB N p ok c)) g T)) R L Z)) := by
  have s1 := t139 (X := X) (L := L) (Z := Z) (ok := ok) (g := g) (T := T) hR h hp hok hc
  simp (disch := first | assumption | omega | exact nI_or0 | exact nI_or1 | exact bN_or _) only [in140, x140_0, x140_1, x140_2, x140_3, x140_6, x140_9, in140, reduceIte, Nat.reduceLT, nW_ap, nW_up, nI_add, pk_mul, nI_ltI, nI_eq, if_true, if_false, kont_r, kont_v, Nat.reduceAdd, Nat.reduceMul, Nat.not_lt, not_true_eq_false, not_false_eq_true, Nat.one_ne_zero, Nat.reduceEqDiff, Nat.lt_irrefl, reduceCtorEq, nI_or0, nI_or1, s1, tx_u11]
/-- more digits of a number -/
def numV (N : GV) (hi : Nat) : Nat → Nat → Nat → Nat × Nat
  | 0, p, v => (p, v)
  | m + 1, p, v => if 0 < v ∧ 48 ≤ sg N p ∧ sg N p ≤ 57 ∧ 10 * v + sg N p - 48 ≤ hi then numV N hi m (p + 1) (10 * v + sg N p - 48) else (p, v)
theorem sg_lt {N : GV} {p : Nat} (h : 0 < sg N p) : p < N 7 0 6 := by
  unfold sg at h
  split at h
  · assumption
  · omega
theorem nI_48 {a : Nat} (h : 48 ≤ a) : nI a - nI 48 = nI (a - 48) := pk_sub h
theorem l141 {X : XS} {N : GV} {R : GR} {L : GL} {Z : Nat × Nat × Bool} (hR : Rok R) (h : bufW N) {g hi : Nat} {T : Nat → Nat} {a : Int32} (hh : hi < 10000) : ∀ (m p v : Nat), p ≤ N 7 0 6 → N 7 0 6 - p ≤ m → v ≤ hi → ex X 141 74 [vR 7 0, vI a, vI (nI hi), vI (nI v)] [] (gg (nW (tx N p 1 g T)) R L Z) = some (.inl (some (vI (nI (numV N hi m p v).2))), (gg (nW (tx N (numV N hi m p v).1 1 g T)) R L Z)) ∧ (numV N hi m p v).1 ≤ N 7 0 6 := by
  intro m
  induction m with
  | zero =>
    intro p v hp hm hv
    have h6 := h.1
    have e : sg N p = 0 := by unfold sg; rw [if_neg (by omega)]
    have s1 := t138 (X := X) (L := L) (Z := Z) (ok := 1) (g := g) (T := T) hR h hp
    rw [e] at s1
    have i1 : inb 48 57 (nI 0) = false := by decide
    refine ⟨?_, hp⟩
    rw [x141_74]
    have e2 : numV N hi 0 p v = (p, v) := rfl
    rw [e2]
    by_cases q : 0 < v
    · simp (disch := first | assumption | omega | exact nI_or0 | exact nI_or1 | exact bN_or _) only [x141_75, x141_78, x141_81, x141_82, x141_85, x141_86, x141_89, x141_91, x141_93, x141_96, x141_99, x141_101, x141_102, x141_103, x141_104, x141_107, x141_108, x141_110, x141_111, x141_112, x141_115, x141_117, x141_118, x141_119, x141_120, x141_123, x141_124, x141_126, x141_127, x141_128, x141_129, x141_130, x141_133, x141_134, x141_135, x141_138, x141_141, x141_142, reduceIte, Nat.reduceLT, nW_ap, nW_up, nI_add, pk_mul, nI_ltI, nI_eq, if_true, if_false, kont_r, kont_v, Nat.reduceAdd, Nat.reduceMul, Nat.not_lt, not_true_eq_false, not_false_eq_true, Nat.one_ne_zero, Nat.reduceEqDiff, Nat.lt_irrefl, reduceCtorEq, nI_or0, nI_or1, tx_11, s1, t91i, i1, bN, Bool.false_eq_true, q]
    · simp (disch := first | assumption | omega | exact nI_or0 | exact nI_or1 | exact bN_or _) only [x141_75, x141_78, x141_81, x141_82, x141_85, x141_86, x141_89, x141_91, x141_93, x141_96, x141_99, x141_101, x141_102, x141_103, x141_104, x141_107, x141_108, x141_110, x141_111, x141_112, x141_115, x141_117, x141_118, x141_119, x141_120, x141_123, x141_124, x141_126, x141_127, x141_128, x141_129, x141_130, x141_133, x141_134, x141_135, x141_138, x141_141, x141_142, reduceIte, Nat.reduceLT, nW_ap, nW_up, nI_add, pk_mul, nI_ltI, nI_eq, if_true, if_false, kont_r, kont_v, Nat.reduceAdd, Nat.reduceMul, Nat.not_lt, not_true_eq_false, not_false_eq_true, Nat.one_ne_zero, Nat.reduceEqDiff, Nat.lt_irrefl, reduceCtorEq, nI_or0, nI_or1, tx_11, q]
  | succ m ih =>
    intro p v hp hm hv
    have h6 := h.1
    have hs := sg_le h (p := p)
    have s1 := t138 (X := X) (L := L) (Z := Z) (ok := 1) (g := g) (T := T) hR h hp
    unfold numV
    by_cases q : 0 < v
    · by_cases q1 : 48 ≤ sg N p ∧ sg N p ≤ 57
      · have i1 : inb 48 57 (nI (sg N p)) = true := by rw [inb_t (by omega) (by omega) (by omega)]; exact decide_eq_true q1
        by_cases q2 : 10 * v + sg N p - 48 ≤ hi
        · have hp2 := sg_lt (N := N) (p := p) (by omega)
          have ih := ih (p + 1) (10 * v + sg N p - 48) (by omega) (by omega) q2
          rw [if_pos ⟨q, q1.1, q1.2, q2⟩]
          refine ⟨?_, ih.2⟩
          have c : ¬ hi < 10 * v + sg N p - 48 := by omega
          rw [x141_74]
          simp (disch := first | assumption | omega | exact nI_or0 | exact nI_or1 | exact bN_or _) only [x141_75, x141_78, x141_81, x141_82, x141_85, x141_86, x141_89, x141_91, x141_93, x141_96, x141_99, x141_101, x141_102, x141_103, x141_104, x141_107, x141_108, x141_110, x141_111, x141_112, x141_115, x141_117, x141_118, x141_119, x141_120, x141_123, x141_124, x141_126, x141_127, x141_128, x141_129, x141_130, x141_133, x141_134, x141_135, x141_138, x141_141, x141_142, reduceIte, Nat.reduceLT, nW_ap, nW_up, nI_add, pk_mul, nI_ltI, nI_eq, if_true, if_false, kont_r, kont_v, Nat.reduceAdd, Nat.reduceMul, Nat.not_lt, not_true_eq_false, not_false_eq_true, Nat.one_ne_zero, Nat.reduceEqDiff, Nat.lt_irrefl, reduceCtorEq, nI_or0, nI_or1, tx_11, tx_10, tx_u10, s1, t91i, i1, bN, q, pk_sub, c]
          exact ih.1
        · rw [if_neg fun e => q2 e.2.2.2]
          refine ⟨?_, hp⟩
          have c : hi < 10 * v + sg N p - 48 := by omega
          rw [x141_74]
          simp (disch := first | assumption | omega | exact nI_or0 | exact nI_or1 | exact bN_or _) only [x141_75, x141_78, x141_81, x141_82, x141_85, x141_86, x141_89, x141_91, x141_93, x141_96, x141_99, x141_101, x141_102, x141_103, x141_104, x141_107, x141_108, x141_110, x141_111, x141_112, x141_115, x141_117, x141_118, x141_119, x141_120, x141_123, x141_124, x141_126, x141_127, x141_128, x141_129, x141_130, x141_133, x141_134, x141_135, x141_138, x141_141, x141_142, reduceIte, Nat.reduceLT, nW_ap, nW_up, nI_add, pk_mul, nI_ltI, nI_eq, if_true, if_false, kont_r, kont_v, Nat.reduceAdd, Nat.reduceMul, Nat.not_lt, not_true_eq_false, not_false_eq_true, Nat.one_ne_zero, Nat.reduceEqDiff, Nat.lt_irrefl, reduceCtorEq, nI_or0, nI_or1, tx_11, s1, t91i, i1, bN, q, pk_sub, c]
      · rw [if_neg fun e => q1 ⟨e.2.1, e.2.2.1⟩]
        have i1 : inb 48 57 (nI (sg N p)) = false := by rw [inb_t (by omega) (by omega) (by omega)]; exact decide_eq_false q1
        refine ⟨?_, hp⟩
        rw [x141_74]
        simp (disch := first | assumption | omega | exact nI_or0 | exact nI_or1 | exact bN_or _) only [x141_75, x141_78, x141_81, x141_82, x141_85, x141_86, x141_89, x141_91, x141_93, x141_96, x141_99, x141_101, x141_102, x141_103, x141_104, x141_107, x141_108, x141_110, x141_111, x141_112, x141_115, x141_117, x141_118, x141_119, x141_120, x141_123, x141_124, x141_126, x141_127, x141_128, x141_129, x141_130, x141_133, x141_134, x141_135, x141_138, x141_141, x141_142, reduceIte, Nat.reduceLT, nW_ap, nW_up, nI_add, pk_mul, nI_ltI, nI_eq, if_true, if_false, kont_r, kont_v, Nat.reduceAdd, Nat.reduceMul, Nat.not_lt, not_true_eq_false, not_false_eq_true, Nat.one_ne_zero, Nat.reduceEqDiff, Nat.lt_irrefl, reduceCtorEq, nI_or0, nI_or1, tx_11, s1, t91i, i1, bN, Bool.false_eq_true, q]
    · rw [if_neg fun e => q e.1]
      refine ⟨?_, hp⟩
      rw [x141_74]
      simp (disch := first | assumption | omega | exact nI_or0 | exact nI_or1 | exact bN_or _) only [x141_75, x141_78, x141_81, x141_82, x141_85, x141_86, x141_89, x141_91, x141_93, x141_96, x141_99, x141_101, x141_102, x141_103, x141_104, x141_107, x141_108, x141_110, x141_111, x141_112, x141_115, x141_117, x141_118, x141_119, x141_120, x141_123, x141_124, x141_126, x141_127, x141_128, x141_129, x141_130, x141_133, x141_134, x141_135, x141_138, x141_141, x141_142, reduceIte, Nat.reduceLT, nW_ap, nW_up, nI_add, pk_mul, nI_ltI, nI_eq, if_true, if_false, kont_r, kont_v, Nat.reduceAdd, Nat.reduceMul, Nat.not_lt, not_true_eq_false, not_false_eq_true, Nat.one_ne_zero, Nat.reduceEqDiff, Nat.lt_irrefl, reduceCtorEq, nI_or0, nI_or1, tx_11, q]
/-- the last first digit -/
def upD (hi : Nat) : Nat := if hi < 9 then 48 + hi else 57
theorem t141_0 {X : XS} {N : GV} {R : GR} {L : GL} {Z : Nat × Nat × Bool} (hR : Rok R) (h : bufW N) {p g lo hi : Nat} {T : Nat → Nat} (hp : p ≤ N 7 0 6) : exec X 141 [vR 7 0, vI (nI lo), vI (nI hi)] (gg (nW (tx N p 0 g T)) R L Z) = some (.inl (some (vI (nI (sg N p) - nI 48))), (gg (nW (tx N p 0 g T)) R L Z)) := by
  have s1 := t138 (X := X) (L := L) (Z := Z) (ok := 0) (g := g) (T := T) hR h hp
  simp (disch := first | assumption | omega | exact nI_or0 | exact nI_or1 | exact bN_or _) only [in141, x141_0, x141_1, x141_2, x141_5, x141_8, x141_9, x141_12, x141_14, x141_15, x141_16, x141_17, x141_19, x141_22, x141_24, x141_25, x141_26, x141_29, x141_31, x141_34, x141_37, x141_38, x141_41, x141_42, x141_45, x141_46, x141_49, x141_51, x141_52, x141_53, x141_54, x141_55, x141_58, x141_59, x141_62, x141_65, x141_66, x141_69, x141_70, x141_71, x141_74, x141_75, x141_78, x141_81, x141_82, x141_85, x141_86, x141_89, x141_91, x141_93, x141_96, x141_99, x141_101, x141_102, x141_103, x141_104, x141_107, x141_108, x141_110, x141_111, x141_112, x141_115, x141_117, x141_118, x141_119, x141_120, x141_123, x141_124, x141_126, x141_127, x141_128, x141_129, x141_130, x141_133, x141_134, x141_135, x141_138, x141_141, x141_142, reduceIte, Nat.reduceLT, nW_ap, nW_up, nI_add, pk_mul, nI_ltI, nI_eq, if_true, if_false, kont_r, kont_v, Nat.reduceAdd, Nat.reduceMul, Nat.not_lt, not_true_eq_false, not_false_eq_true, Nat.one_ne_zero, Nat.reduceEqDiff, Nat.lt_irrefl, reduceCtorEq, nI_or0, nI_or1, Nat.add_zero, tx_11, tx_10, tx_u10, tx_u11, s1]
theorem t141_f {X : XS} {N : GV} {R : GR} {L : GL} {Z : Nat × Nat × Bool} (hR : Rok R) (h : bufW N) {p g lo hi : Nat} {T : Nat → Nat} (hp : p ≤ N 7 0 6) (hl : lo < 10) (hh : hi < 10000) (hs : ¬ (48 + lo ≤ sg N p ∧ sg N p ≤ upD hi)) : exec X 141 [vR 7 0, vI (nI lo), vI (nI hi)] (gg (nW (tx N p 1 g T)) R L Z) = some (.inl (some (vI (nI (sg N p) - nI 48))), (gg (nW (tx N p 0 g T)) R L Z)) := by
  have hs1 := sg_le h (p := p)
  have s1 := t138 (X := X) (L := L) (Z := Z) (ok := 1) (g := g) (T := T) hR h hp
  have s2 := t138 (X := X) (L := L) (Z := Z) (ok := 0) (g := g) (T := T) hR h hp
  unfold upD at hs
  by_cases q : hi < 9
  · rw [if_pos q] at hs
    have i1 : inb (48 + lo) (48 + hi) (nI (sg N p)) = false := by rw [inb_t (by omega) (by omega) (by omega)]; exact decide_eq_false hs
    simp (disch := first | assumption | omega | exact nI_or0 | exact nI_or1 | exact bN_or _) only [in141, x141_0, x141_1, x141_2, x141_5, x141_8, x141_9, x141_12, x141_14, x141_15, x141_16, x141_17, x141_19, x141_22, x141_24, x141_25, x141_26, x141_29, x141_31, x141_34, x141_37, x141_38, x141_41, x141_42, x141_45, x141_46, x141_49, x141_51, x141_52, x141_53, x141_54, x141_55, x141_58, x141_59, x141_62, x141_65, x141_66, x141_69, x141_70, x141_71, x141_74, x141_75, x141_78, x141_81, x141_82, x141_85, x141_86, x141_89, x141_91, x141_93, x141_96, x141_99, x141_101, x141_102, x141_103, x141_104, x141_107, x141_108, x141_110, x141_111, x141_112, x141_115, x141_117, x141_118, x141_119, x141_120, x141_123, x141_124, x141_126, x141_127, x141_128, x141_129, x141_130, x141_133, x141_134, x141_135, x141_138, x141_141, x141_142, reduceIte, Nat.reduceLT, nW_ap, nW_up, nI_add, pk_mul, nI_ltI, nI_eq, if_true, if_false, kont_r, kont_v, Nat.reduceAdd, Nat.reduceMul, Nat.not_lt, not_true_eq_false, not_false_eq_true, Nat.one_ne_zero, Nat.reduceEqDiff, Nat.lt_irrefl, reduceCtorEq, nI_or0, nI_or1, Nat.add_zero, tx_11, tx_10, tx_u10, tx_u11, s1, s2, t91i, i1, bN, Bool.false_eq_true, q]
  · rw [if_neg q] at hs
    have i1 : inb (48 + lo) 57 (nI (sg N p)) = false := by rw [inb_t (by omega) (by omega) (by omega)]; exact decide_eq_false hs
    simp (disch := first | assumption | omega | exact nI_or0 | exact nI_or1 | exact bN_or _) only [in141, x141_0, x141_1, x141_2, x141_5, x141_8, x141_9, x141_12, x141_14, x141_15, x141_16, x141_17, x141_19, x141_22, x141_24, x141_25, x141_26, x141_29, x141_31, x141_34, x141_37, x141_38, x141_41, x141_42, x141_45, x141_46, x141_49, x141_51, x141_52, x141_53, x141_54, x141_55, x141_58, x141_59, x141_62, x141_65, x141_66, x141_69, x141_70, x141_71, x141_74, x141_75, x141_78, x141_81, x141_82, x141_85, x141_86, x141_89, x141_91, x141_93, x141_96, x141_99, x141_101, x141_102, x141_103, x141_104, x141_107, x141_108, x141_110, x141_111, x141_112, x141_115, x141_117, x141_118, x141_119, x141_120, x141_123, x141_124, x141_126, x141_127, x141_128, x141_129, x141_130, x141_133, x141_134, x141_135, x141_138, x141_141, x141_142, reduceIte, Nat.reduceLT, nW_ap, nW_up, nI_add, pk_mul, nI_ltI, nI_eq, if_true, if_false, kont_r, kont_v, Nat.reduceAdd, Nat.reduceMul, Nat.not_lt, not_true_eq_false, not_false_eq_true, Nat.one_ne_zero, Nat.reduceEqDiff, Nat.lt_irrefl, reduceCtorEq, nI_or0, nI_or1, Nat.add_zero, tx_11, tx_10, tx_u10, tx_u11, s1, s2, t91i, i1, bN, Bool.false_eq_true, q]
theorem t141_t {X : XS} {N : GV} {R : GR} {L : GL} {Z : Nat × Nat × Bool} (hR : Rok R) (h : bufW N) {p g lo hi : Nat} {T : Nat → Nat} (hp : p ≤ N 7 0 6) (hl : lo < 10) (hh : hi < 10000) (hs : 48 + lo ≤ sg N p ∧ sg N p ≤ upD hi) : exec X 141 [vR 7 0, vI (nI lo), vI (nI hi)] (gg (nW (tx N p 1 g T)) R L Z) = some (.inl (some (vI (nI (numV N hi 100 (p + 1) (sg N p - 48)).2))), (gg (nW (tx N (numV N hi 100 (p + 1) (sg N p - 48)).1 1 g T)) R L Z)) ∧ (numV N hi 100 (p + 1) (sg N p - 48)).1 ≤ N 7 0 6 := by
  have h6 := h.1
  have hs1 := sg_le h (p := p)
  have s1 := t138 (X := X) (L := L) (Z := Z) (ok := 1) (g := g) (T := T) hR h hp
  have hp2 := sg_lt (N := N) (p := p) (by omega)
  have hv : sg N p - 48 ≤ hi := by unfold upD at hs; split at hs <;> omega
  have l := l141 (X := X) (L := L) (Z := Z) (g := g) (T := T) (a := nI lo) hR h hh 100 (p + 1) (sg N p - 48) (by omega) (by omega) hv
  refine ⟨?_, l.2⟩
  have l1 := l.1
  generalize hW : numV N hi 100 (p + 1) (sg N p - 48) = W at l1
  unfold upD at hs
  by_cases q : hi < 9
  · rw [if_pos q] at hs
    have i1 : inb (48 + lo) (48 + hi) (nI (sg N p)) = true := by rw [inb_t (by omega) (by omega) (by omega)]; exact decide_eq_true hs
    simp (disch := first | assumption | omega | exact nI_or0 | exact nI_or1 | exact bN_or _) only [in141, x141_0, x141_1, x141_2, x141_5, x141_8, x141_9, x141_12, x141_14, x141_15, x141_16, x141_17, x141_19, x141_22, x141_24, x141_25, x141_26, x141_29, x141_31, x141_34, x141_37, x141_38, x141_41, x141_42, x141_45, x141_46, x141_49, x141_51, x141_52, x141_53, x141_54, x141_55, x141_58, x141_59, x141_62, x141_65, x141_66, x141_69, x141_70, x141_71, reduceIte, Nat.reduceLT, nW_ap, nW_up, nI_add, pk_mul, nI_ltI, nI_eq, if_true, if_false, kont_r, kont_v, Nat.reduceAdd, Nat.reduceMul, Nat.not_lt, not_true_eq_false, not_false_eq_true, Nat.one_ne_zero, Nat.reduceEqDiff, Nat.lt_irrefl, reduceCtorEq, nI_or0, nI_or1, tx_11, tx_10, tx_u10, tx_u11, s1, t91i, i1, bN, q, pk_sub]
    exact l1
  · rw [if_neg q] at hs
    have i1 : inb (48 + lo) 57 (nI (sg N p)) = true := by rw [inb_t (by omega) (by omega) (by omega)]; exact decide_eq_true hs
    simp (disch := first | assumption | omega | exact nI_or0 | exact nI_or1 | exact bN_or _) only [in141, x141_0, x141_1, x141_2, x141_5, x141_8, x141_9, x141_12, x141_14, x141_15, x141_16, x141_17, x141_19, x141_22, x141_24, x141_25, x141_26, x141_29, x141_31, x141_34, x141_37, x141_38, x141_41, x141_42, x141_45, x141_46, x141_49, x141_51, x141_52, x141_53, x141_54, x141_55, x141_58, x141_59, x141_62, x141_65, x141_66, x141_69, x141_70, x141_71, reduceIte, Nat.reduceLT, nW_ap, nW_up, nI_add, pk_mul, nI_ltI, nI_eq, if_true, if_false, kont_r, kont_v, Nat.reduceAdd, Nat.reduceMul, Nat.not_lt, not_true_eq_false, not_false_eq_true, Nat.one_ne_zero, Nat.reduceEqDiff, Nat.lt_irrefl, reduceCtorEq, nI_or0, nI_or1, tx_11, tx_10, tx_u10, tx_u11, s1, t91i, i1, bN, q, pk_sub]
    exact l1
/-- the automaton of texts: 9 is wrong -/
def dig (c : Nat) : Bool := decide (48 ≤ c ∧ c ≤ 57)
def stB (q c : Nat) : Nat :=
  if q = 0 then (if c = 48 then 3 else if dig c then 1 else 9)
  else if q = 1 then (if dig c then 2 else if c = 58 then 4 else 9)
  else if q = 2 then (if dig c then 3 else if c = 58 then 4 else 9)
  else if q = 3 then (if c = 58 then 4 else 9)
  else if q = 4 then (if dig c = true ∧ ¬ c = 48 then 5 else 9)
  else if q = 5 then (if dig c then 6 else if c = 64 then 7 else 9)
  else if q = 6 then (if c = 64 then 7 else 9)
  else if q = 7 then (if 48 ≤ c ∧ c ≤ 55 then 8 else 9)
  else if q = 8 then (if c = 43 then 4 else if c = 59 then 0 else 9)
  else 9
/-- state, day, children, number, groups -/
abbrev PT : Type := Nat × Nat × Nat × Nat × List OT
def numB (n c : Nat) : Nat := if dig c then 10 * n + c - 48 else 0
def stP (s : PT) (c : Nat) : PT :=
  let q := stB s.1 c
  let n := numB s.2.2.2.1 c
  if 1 ≤ q ∧ q ≤ 3 then (q, n, s.2.2.1, n, s.2.2.2.2)
  else if q = 5 ∨ q = 6 then (q, s.2.1, n, n, s.2.2.2.2)
  else if q = 8 then (q, s.2.1, s.2.2.1, n, s.2.2.2.2 ++ [(s.2.1, s.2.2.1, n)])
  else (q, s.2.1, s.2.2.1, n, s.2.2.2.2)
def PS (N : GV) : Nat → PT
  | 0 => (0, 0, 0, 0, [])
  | i + 1 => stP (PS N i) (N 25 0 i)
theorem PS_s {N : GV} {p : Nat} (h : 0 < sg N p) : PS N (p + 1) = stP (PS N p) (sg N p) := by
  have := sg_lt h
  unfold sg
  rw [if_pos this]; rfl
/-- a number that is read: the day -/
theorem num_d {N : GV} {p d g : Nat} {l : List OT} (h : PS N p = (0, d, g, 0, l)) (hs : 48 ≤ sg N p ∧ sg N p ≤ 57) : ∃ q v, PS N (numV N 999 100 (p + 1) (sg N p - 48)).1 = (q, v, g, v, l) ∧ v = (numV N 999 100 (p + 1) (sg N p - 48)).2 ∧ 1 ≤ q ∧ q ≤ 3 ∧ (q = 3 ∨ dig (sg N (numV N 999 100 (p + 1) (sg N p - 48)).1) = false) ∧ v ≤ 999 ∧ p < (numV N 999 100 (p + 1) (sg N p - 48)).1 := by
  have h1 := PS_s (N := N) (p := p) (by omega)
  have e1 : dig (sg N p) = true := decide_eq_true hs
  rw [h] at h1
  by_cases z : sg N p = 48
  · rw [z] at h1 ⊢
    have e : numV N 999 100 (p + 1) (48 - 48) = (p + 1, 0) := by
      show (if 0 < 0 ∧ _ then _ else (p + 1, 0)) = _
      rw [if_neg fun q => absurd q.1 (Nat.lt_irrefl _)]
    rw [e]
    exact ⟨3, 0, h1, rfl, by omega, by omega, Or.inl rfl, by omega, by omega⟩
  · have hq : stB 0 (sg N p) = 1 := by simp [stB, z, e1]
    have h1 : PS N (p + 1) = (1, sg N p - 48, g, sg N p - 48, l) := by
      rw [h1]
      simp [stP, hq, numB, e1]
    generalize hv : sg N p - 48 = v at h1 ⊢
    have e2 : numV N 999 100 (p + 1) v = if 0 < v ∧ 48 ≤ sg N (p + 1) ∧ sg N (p + 1) ≤ 57 ∧ 10 * v + sg N (p + 1) - 48 ≤ 999 then numV N 999 99 (p + 1 + 1) (10 * v + sg N (p + 1) - 48) else (p + 1, v) := rfl
    rw [e2]
    by_cases q2 : 48 ≤ sg N (p + 1) ∧ sg N (p + 1) ≤ 57
    · rw [if_pos ⟨by omega, q2.1, q2.2, by omega⟩]
      have h2 := PS_s (N := N) (p := p + 1) (by omega)
      have e1 : dig (sg N (p + 1)) = true := decide_eq_true q2
      rw [h1] at h2
      have hq : stB 1 (sg N (p + 1)) = 2 := by simp [stB, e1]
      have h2 : PS N (p + 1 + 1) = (2, 10 * v + sg N (p + 1) - 48, g, 10 * v + sg N (p + 1) - 48, l) := by
        rw [h2]
        simp [stP, hq, numB, e1]
      generalize hw : 10 * v + sg N (p + 1) - 48 = w at h2 ⊢
      have e2 : numV N 999 99 (p + 1 + 1) w = if 0 < w ∧ 48 ≤ sg N (p + 1 + 1) ∧ sg N (p + 1 + 1) ≤ 57 ∧ 10 * w + sg N (p + 1 + 1) - 48 ≤ 999 then numV N 999 98 (p + 1 + 1 + 1) (10 * w + sg N (p + 1 + 1) - 48) else (p + 1 + 1, w) := rfl
      rw [e2]
      by_cases q3 : 48 ≤ sg N (p + 1 + 1) ∧ sg N (p + 1 + 1) ≤ 57
      · rw [if_pos ⟨by omega, q3.1, q3.2, by omega⟩]
        have h3 := PS_s (N := N) (p := p + 1 + 1) (by omega)
        have e1 : dig (sg N (p + 1 + 1)) = true := decide_eq_true q3
        rw [h2] at h3
        have hq : stB 2 (sg N (p + 1 + 1)) = 3 := by simp [stB, e1]
        have h3 : PS N (p + 1 + 1 + 1) = (3, 10 * w + sg N (p + 1 + 1) - 48, g, 10 * w + sg N (p + 1 + 1) - 48, l) := by
          rw [h3]
          simp [stP, hq, numB, e1]
        generalize hx : 10 * w + sg N (p + 1 + 1) - 48 = x at h3 ⊢
        have e2 : numV N 999 98 (p + 1 + 1 + 1) x = (p + 1 + 1 + 1, x) := by
          show (if 0 < x ∧ 48 ≤ sg N (p + 1 + 1 + 1) ∧ sg N (p + 1 + 1 + 1) ≤ 57 ∧ 10 * x + sg N (p + 1 + 1 + 1) - 48 ≤ 999 then _ else _) = _
          rw [if_neg fun e => by omega]
        rw [e2]
        exact ⟨3, x, h3, rfl, by omega, by omega, Or.inl rfl, by omega, by show p < p + 1 + 1 + 1; omega⟩
      · rw [if_neg fun e => q3 ⟨e.2.1, e.2.2.1⟩]
        exact ⟨2, w, h2, rfl, by omega, by omega, Or.inr (decide_eq_false q3), by omega, by show p < p + 1 + 1; omega⟩
    · rw [if_neg fun e => q2 ⟨e.2.1, e.2.2.1⟩]
      exact ⟨1, v, h1, rfl, by omega, by omega, Or.inr (decide_eq_false q2), by omega, by show p < p + 1; omega⟩
theorem num_c {N : GV} {p d g : Nat} {l : List OT} (h : PS N p = (4, d, g, 0, l)) (hs : 49 ≤ sg N p ∧ sg N p ≤ 57) : ∃ q v, PS N (numV N 99 100 (p + 1) (sg N p - 48)).1 = (q, d, v, v, l) ∧ v = (numV N 99 100 (p + 1) (sg N p - 48)).2 ∧ 5 ≤ q ∧ q ≤ 6 ∧ (q = 6 ∨ dig (sg N (numV N 99 100 (p + 1) (sg N p - 48)).1) = false) ∧ 1 ≤ v ∧ v ≤ 99 ∧ p < (numV N 99 100 (p + 1) (sg N p - 48)).1 := by
  have h1 := PS_s (N := N) (p := p) (by omega)
  have e1 : dig (sg N p) = true := decide_eq_true (by omega)
  rw [h] at h1
  have z : ¬ sg N p = 48 := by omega
  have hq : stB 4 (sg N p) = 5 := by simp [stB, z, e1]
  have h1 : PS N (p + 1) = (5, d, sg N p - 48, sg N p - 48, l) := by
    rw [h1]
    simp [stP, hq, numB, e1]
  generalize hv : sg N p - 48 = v at h1 ⊢
  have e2 : numV N 99 100 (p + 1) v = if 0 < v ∧ 48 ≤ sg N (p + 1) ∧ sg N (p + 1) ≤ 57 ∧ 10 * v + sg N (p + 1) - 48 ≤ 99 then numV N 99 99 (p + 1 + 1) (10 * v + sg N (p + 1) - 48) else (p + 1, v) := rfl
  rw [e2]
  by_cases q2 : 48 ≤ sg N (p + 1) ∧ sg N (p + 1) ≤ 57
  · rw [if_pos ⟨by omega, q2.1, q2.2, by omega⟩]
    have h2 := PS_s (N := N) (p := p + 1) (by omega)
    have e1 : dig (sg N (p + 1)) = true := decide_eq_true q2
    rw [h1] at h2
    have hq : stB 5 (sg N (p + 1)) = 6 := by simp [stB, e1]
    have h2 : PS N (p + 1 + 1) = (6, d, 10 * v + sg N (p + 1) - 48, 10 * v + sg N (p + 1) - 48, l) := by
      rw [h2]
      simp [stP, hq, numB, e1]
    generalize hw : 10 * v + sg N (p + 1) - 48 = w at h2 ⊢
    have e2 : numV N 99 99 (p + 1 + 1) w = (p + 1 + 1, w) := by
      show (if 0 < w ∧ 48 ≤ sg N (p + 1 + 1) ∧ sg N (p + 1 + 1) ≤ 57 ∧ 10 * w + sg N (p + 1 + 1) - 48 ≤ 99 then _ else _) = _
      rw [if_neg fun e => by omega]
    rw [e2]
    exact ⟨6, w, h2, rfl, by omega, by omega, Or.inl rfl, by omega, by omega, by show p < p + 1 + 1; omega⟩
  · rw [if_neg fun e => q2 ⟨e.2.1, e.2.2.1⟩]
    exact ⟨5, v, h1, rfl, by omega, by omega, Or.inr (decide_eq_false q2), by omega, by omega, by show p < p + 1; omega⟩
theorem num_g {N : GV} {p d g n : Nat} {l : List OT} (h : PS N p = (7, d, g, n, l)) (hn : n = 0) (hs : 48 ≤ sg N p ∧ sg N p ≤ 55) : PS N (p + 1) = (8, d, g, sg N p - 48, l ++ [(d, g, sg N p - 48)]) ∧ numV N 7 100 (p + 1) (sg N p - 48) = (p + 1, sg N p - 48) := by
  subst hn
  have h1 := PS_s (N := N) (p := p) (by omega)
  have e1 : dig (sg N p) = true := decide_eq_true (by omega)
  rw [h] at h1
  have hq : stB 7 (sg N p) = 8 := by simp [stB, hs]
  refine ⟨by rw [h1]; simp [stP, hq, numB, e1], ?_⟩
  show (if 0 < sg N p - 48 ∧ 48 ≤ sg N (p + 1) ∧ sg N (p + 1) ≤ 57 ∧ 10 * (sg N p - 48) + sg N (p + 1) - 48 ≤ 7 then _ else _) = _
  rw [if_neg fun e => by omega]
