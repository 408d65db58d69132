/-! the class: checks, saved states -/
theorem hand_n : ∀ m, m < 174 → hands m = [] := by decide +kernel
theorem kont_t {X : XS} {m pc E : Nat} {lv st : List AV} {G' : GG} (h : m < 174) : kont X m pc lv st (some (.inr E, G')) = some (.inr E, G') := kont_x (by unfold hand; rw [hand_n m h]; rfl)
/-- one more exception -/
def tz (Z : Nat × Nat × Bool) : Nat × Nat × Bool := (Z.1 + 1, Z.2.1 + 6, false)
theorem thr_g {I : GI} {R : GR} {L : GL} {Z : Nat × Nat × Bool} : thrG (gg I R L Z) = gg I R L (tz Z) := rfl
theorem inb_f {a b : Nat} {v : Int32} (h : inb a b v = false) : v < nI a ∨ nI b < v := by
  unfold inb at h
  by_cases q1 : v < nI a
  · exact Or.inl q1
  · by_cases q2 : nI b < v
    · exact Or.inr q2
    · rw [decide_eq_true q1, decide_eq_true q2] at h; cases h
theorem inb_tt {a b : Nat} {v : Int32} (h : inb a b v = true) : ¬ v < nI a ∧ ¬ nI b < v := by
  unfold inb at h
  rw [Bool.and_eq_true, decide_eq_true_eq, decide_eq_true_eq] at h
  exact h
theorem lt_su {n : Nat} (hn : n < 2 ^ 20) {v : Int32} : v < nI (n + 1) ↔ ¬ nI n < v := by
  rw [Int32.lt_iff_toInt_lt, Int32.lt_iff_toInt_lt, nI_toInt (by omega), nI_toInt (by omega)]
  omega
theorem t74_t {X : XS} {I : GI} {R : GR} {L : GL} {Z : Nat × Nat × Bool} {v : Int32} (h : inb 0 7 v = true) : exec X 74 [vI v] (gg I R L Z) = some (.inl none, gg I R L Z) := by
  obtain ⟨h1, h2⟩ := inb_tt h
  have h3 : v < nI 8 := (lt_su (n := 7) (by omega)).2 h2
  simp (disch := first | assumption | omega | exact nI_or0 | exact nI_or1 | exact bN_or _) only [in74, x74_0, x74_1, x74_4, x74_5, x74_7, x74_10, x74_21, in74, reduceIte, Nat.reduceLT, nW_ap, nW_up, nI_add, pk_mul, nI_ltI, nI_eq, if_true, if_false, kont_r, kont_v, Nat.reduceAdd, Nat.reduceMul, Nat.not_lt, not_true_eq_false, not_false_eq_true, Nat.one_ne_zero, Nat.reduceEqDiff, Nat.lt_irrefl, reduceCtorEq, nI_or0, nI_or1, h1, h3]
theorem t74_f {X : XS} {I : GI} {R : GR} {L : GL} {Z : Nat × Nat × Bool} {v : Int32} (h : inb 0 7 v = false) : exec X 74 [vI v] (gg I R L Z) = some (.inr 0, gg I R L (tz Z)) := by
  rcases inb_f h with h1 | h1
  · simp (disch := first | assumption | omega | exact nI_or0 | exact nI_or1 | exact bN_or _) only [in74, x74_0, x74_1, x74_4, x74_5, x74_7, x74_10, x74_21, in74, reduceIte, Nat.reduceLT, nW_ap, nW_up, nI_add, pk_mul, nI_ltI, nI_eq, if_true, if_false, kont_r, kont_v, Nat.reduceAdd, Nat.reduceMul, Nat.not_lt, not_true_eq_false, not_false_eq_true, Nat.one_ne_zero, Nat.reduceEqDiff, Nat.lt_irrefl, reduceCtorEq, nI_or0, nI_or1, h1, thr_g]
  · have h2 : ¬ v < nI 8 := fun q => (lt_su (n := 7) (by omega)).1 q h1
    by_cases h3 : v < nI 0
    · simp (disch := first | assumption | omega | exact nI_or0 | exact nI_or1 | exact bN_or _) only [in74, x74_0, x74_1, x74_4, x74_5, x74_7, x74_10, x74_21, in74, reduceIte, Nat.reduceLT, nW_ap, nW_up, nI_add, pk_mul, nI_ltI, nI_eq, if_true, if_false, kont_r, kont_v, Nat.reduceAdd, Nat.reduceMul, Nat.not_lt, not_true_eq_false, not_false_eq_true, Nat.one_ne_zero, Nat.reduceEqDiff, Nat.lt_irrefl, reduceCtorEq, nI_or0, nI_or1, h3, thr_g]
    · simp (disch := first | assumption | omega | exact nI_or0 | exact nI_or1 | exact bN_or _) only [in74, x74_0, x74_1, x74_4, x74_5, x74_7, x74_10, x74_21, in74, reduceIte, Nat.reduceLT, nW_ap, nW_up, nI_add, pk_mul, nI_ltI, nI_eq, if_true, if_false, kont_r, kont_v, Nat.reduceAdd, Nat.reduceMul, Nat.not_lt, not_true_eq_false, not_false_eq_true, Nat.one_ne_zero, Nat.reduceEqDiff, Nat.lt_irrefl, reduceCtorEq, nI_or0, nI_or1, h3, h2, thr_g]
theorem t75_t {X : XS} {I : GI} {R : GR} {L : GL} {Z : Nat × Nat × Bool} {v : Int32} (h : inb 0 4 v = true) : exec X 75 [vI v] (gg I R L Z) = some (.inl none, gg I R L Z) := by
  obtain ⟨h1, h2⟩ := inb_tt h
  have h3 : v < nI 5 := (lt_su (n := 4) (by omega)).2 h2
  simp (disch := first | assumption | omega | exact nI_or0 | exact nI_or1 | exact bN_or _) only [in75, x75_0, x75_1, x75_4, x75_5, x75_6, x75_9, x75_20, in75, reduceIte, Nat.reduceLT, nW_ap, nW_up, nI_add, pk_mul, nI_ltI, nI_eq, if_true, if_false, kont_r, kont_v, Nat.reduceAdd, Nat.reduceMul, Nat.not_lt, not_true_eq_false, not_false_eq_true, Nat.one_ne_zero, Nat.reduceEqDiff, Nat.lt_irrefl, reduceCtorEq, nI_or0, nI_or1, h1, h3]
theorem t75_f {X : XS} {I : GI} {R : GR} {L : GL} {Z : Nat × Nat × Bool} {v : Int32} (h : inb 0 4 v = false) : exec X 75 [vI v] (gg I R L Z) = some (.inr 0, gg I R L (tz Z)) := by
  rcases inb_f h with h1 | h1
  · simp (disch := first | assumption | omega | exact nI_or0 | exact nI_or1 | exact bN_or _) only [in75, x75_0, x75_1, x75_4, x75_5, x75_6, x75_9, x75_20, in75, reduceIte, Nat.reduceLT, nW_ap, nW_up, nI_add, pk_mul, nI_ltI, nI_eq, if_true, if_false, kont_r, kont_v, Nat.reduceAdd, Nat.reduceMul, Nat.not_lt, not_true_eq_false, not_false_eq_true, Nat.one_ne_zero, Nat.reduceEqDiff, Nat.lt_irrefl, reduceCtorEq, nI_or0, nI_or1, h1, thr_g]
  · have h2 : ¬ v < nI 5 := fun q => (lt_su (n := 4) (by omega)).1 q h1
    by_cases h3 : v < nI 0
    · simp (disch := first | assumption | omega | exact nI_or0 | exact nI_or1 | exact bN_or _) only [in75, x75_0, x75_1, x75_4, x75_5, x75_6, x75_9, x75_20, in75, reduceIte, Nat.reduceLT, nW_ap, nW_up, nI_add, pk_mul, nI_ltI, nI_eq, if_true, if_false, kont_r, kont_v, Nat.reduceAdd, Nat.reduceMul, Nat.not_lt, not_true_eq_false, not_false_eq_true, Nat.one_ne_zero, Nat.reduceEqDiff, Nat.lt_irrefl, reduceCtorEq, nI_or0, nI_or1, h3, thr_g]
    · simp (disch := first | assumption | omega | exact nI_or0 | exact nI_or1 | exact bN_or _) only [in75, x75_0, x75_1, x75_4, x75_5, x75_6, x75_9, x75_20, in75, reduceIte, Nat.reduceLT, nW_ap, nW_up, nI_add, pk_mul, nI_ltI, nI_eq, if_true, if_false, kont_r, kont_v, Nat.reduceAdd, Nat.reduceMul, Nat.not_lt, not_true_eq_false, not_false_eq_true, Nat.one_ne_zero, Nat.reduceEqDiff, Nat.lt_irrefl, reduceCtorEq, nI_or0, nI_or1, h3, h2, thr_g]
theorem t76_t {X : XS} {I : GI} {R : GR} {L : GL} {Z : Nat × Nat × Bool} {v : Int32} {a b : Nat} (h : inb a b v = true) : exec X 76 [vI v, vI (nI a), vI (nI b)] (gg I R L Z) = some (.inl none, gg I R L Z) := by
  obtain ⟨h1, h2⟩ := inb_tt h
  simp (disch := first | assumption | omega | exact nI_or0 | exact nI_or1 | exact bN_or _) only [in76, x76_0, x76_1, x76_2, x76_5, x76_6, x76_7, x76_10, x76_21, in76, reduceIte, Nat.reduceLT, nW_ap, nW_up, nI_add, pk_mul, nI_ltI, nI_eq, if_true, if_false, kont_r, kont_v, Nat.reduceAdd, Nat.reduceMul, Nat.not_lt, not_true_eq_false, not_false_eq_true, Nat.one_ne_zero, Nat.reduceEqDiff, Nat.lt_irrefl, reduceCtorEq, nI_or0, nI_or1, h1, h2]
theorem t76_f {X : XS} {I : GI} {R : GR} {L : GL} {Z : Nat × Nat × Bool} {v : Int32} {a b : Nat} (h : inb a b v = false) : exec X 76 [vI v, vI (nI a), vI (nI b)] (gg I R L Z) = some (.inr 1, gg I R L (tz Z)) := by
  rcases inb_f h with h1 | h1
  · simp (disch := first | assumption | omega | exact nI_or0 | exact nI_or1 | exact bN_or _) only [in76, x76_0, x76_1, x76_2, x76_5, x76_6, x76_7, x76_10, x76_21, in76, reduceIte, Nat.reduceLT, nW_ap, nW_up, nI_add, pk_mul, nI_ltI, nI_eq, if_true, if_false, kont_r, kont_v, Nat.reduceAdd, Nat.reduceMul, Nat.not_lt, not_true_eq_false, not_false_eq_true, Nat.one_ne_zero, Nat.reduceEqDiff, Nat.lt_irrefl, reduceCtorEq, nI_or0, nI_or1, h1, thr_g]
  · by_cases h3 : v < nI a
    · simp (disch := first | assumption | omega | exact nI_or0 | exact nI_or1 | exact bN_or _) only [in76, x76_0, x76_1, x76_2, x76_5, x76_6, x76_7, x76_10, x76_21, in76, reduceIte, Nat.reduceLT, nW_ap, nW_up, nI_add, pk_mul, nI_ltI, nI_eq, if_true, if_false, kont_r, kont_v, Nat.reduceAdd, Nat.reduceMul, Nat.not_lt, not_true_eq_false, not_false_eq_true, Nat.one_ne_zero, Nat.reduceEqDiff, Nat.lt_irrefl, reduceCtorEq, nI_or0, nI_or1, h3, thr_g]
    · simp (disch := first | assumption | omega | exact nI_or0 | exact nI_or1 | exact bN_or _) only [in76, x76_0, x76_1, x76_2, x76_5, x76_6, x76_7, x76_10, x76_21, in76, reduceIte, Nat.reduceLT, nW_ap, nW_up, nI_add, pk_mul, nI_ltI, nI_eq, if_true, if_false, kont_r, kont_v, Nat.reduceAdd, Nat.reduceMul, Nat.not_lt, not_true_eq_false, not_false_eq_true, Nat.one_ne_zero, Nat.reduceEqDiff, Nat.lt_irrefl, reduceCtorEq, nI_or0, nI_or1, h3, h1, thr_g]
theorem t77_t {X : XS} {I : GI} {R : GR} {L : GL} {Z : Nat × Nat × Bool} {v : Int32} (h : ¬ v < nI 0) : exec X 77 [vI v] (gg I R L Z) = some (.inl none, gg I R L Z) := by
  simp (disch := first | assumption | omega | exact nI_or0 | exact nI_or1 | exact bN_or _) only [in77, x77_0, x77_1, x77_4, x77_15, in77, reduceIte, Nat.reduceLT, nW_ap, nW_up, nI_add, pk_mul, nI_ltI, nI_eq, if_true, if_false, kont_r, kont_v, Nat.reduceAdd, Nat.reduceMul, Nat.not_lt, not_true_eq_false, not_false_eq_true, Nat.one_ne_zero, Nat.reduceEqDiff, Nat.lt_irrefl, reduceCtorEq, nI_or0, nI_or1, h]
theorem t77_f {X : XS} {I : GI} {R : GR} {L : GL} {Z : Nat × Nat × Bool} {v : Int32} (h : v < nI 0) : exec X 77 [vI v] (gg I R L Z) = some (.inr 1, gg I R L (tz Z)) := by
  simp (disch := first | assumption | omega | exact nI_or0 | exact nI_or1 | exact bN_or _) only [in77, x77_0, x77_1, x77_4, x77_15, in77, reduceIte, Nat.reduceLT, nW_ap, nW_up, nI_add, pk_mul, nI_ltI, nI_eq, if_true, if_false, kont_r, kont_v, Nat.reduceAdd, Nat.reduceMul, Nat.not_lt, not_true_eq_false, not_false_eq_true, Nat.one_ne_zero, Nat.reduceEqDiff, Nat.lt_irrefl, reduceCtorEq, nI_or0, nI_or1, h, thr_g]
theorem t78_t {X : XS} {I : GI} {R : GR} {L : GL} {Z : Nat × Nat × Bool} {c g : Int32} (h : inb 1 99 c = true) (h2 : inb 0 7 g = true) : exec X 78 [vI c, vI g] (gg I R L Z) = some (.inl none, gg I R L Z) := by
  simp (disch := first | assumption | omega | exact nI_or0 | exact nI_or1 | exact bN_or _) only [in78, x78_0, x78_1, x78_2, x78_4, x78_7, x78_8, x78_9, x78_11, x78_14, in78, reduceIte, Nat.reduceLT, nW_ap, nW_up, nI_add, pk_mul, nI_ltI, nI_eq, if_true, if_false, kont_r, kont_v, Nat.reduceAdd, Nat.reduceMul, Nat.not_lt, not_true_eq_false, not_false_eq_true, Nat.one_ne_zero, Nat.reduceEqDiff, Nat.lt_irrefl, reduceCtorEq, nI_or0, nI_or1, t76_t h, t76_t h2]
theorem t78_f {X : XS} {I : GI} {R : GR} {L : GL} {Z : Nat × Nat × Bool} {c g : Int32} (h : inb 1 99 c = true → inb 0 7 g = false) : exec X 78 [vI c, vI g] (gg I R L Z) = some (.inr 1, gg I R L (tz Z)) := by
  cases q : inb 1 99 c with
  | false => simp (disch := first | assumption | omega | exact nI_or0 | exact nI_or1 | exact bN_or _) only [in78, x78_0, x78_1, x78_2, x78_4, x78_7, x78_8, x78_9, x78_11, x78_14, in78, reduceIte, Nat.reduceLT, nW_ap, nW_up, nI_add, pk_mul, nI_ltI, nI_eq, if_true, if_false, kont_r, kont_v, Nat.reduceAdd, Nat.reduceMul, Nat.not_lt, not_true_eq_false, not_false_eq_true, Nat.one_ne_zero, Nat.reduceEqDiff, Nat.lt_irrefl, reduceCtorEq, nI_or0, nI_or1, t76_f q, kont_t]
  | true => simp (disch := first | assumption | omega | exact nI_or0 | exact nI_or1 | exact bN_or _) only [in78, x78_0, x78_1, x78_2, x78_4, x78_7, x78_8, x78_9, x78_11, x78_14, in78, reduceIte, Nat.reduceLT, nW_ap, nW_up, nI_add, pk_mul, nI_ltI, nI_eq, if_true, if_false, kont_r, kont_v, Nat.reduceAdd, Nat.reduceMul, Nat.not_lt, not_true_eq_false, not_false_eq_true, Nat.one_ne_zero, Nat.reduceEqDiff, Nat.lt_irrefl, reduceCtorEq, nI_or0, nI_or1, t76_t q, t76_f (h q), kont_t]
theorem t79_t {X : XS} {N : GV} {R : GR} {L : GL} {Z : Nat × Nat × Bool} (hR : Rok R) {p : Nat} (hp : p < 8) (h : N 0 p 2 = 1) : exec X 79 [vR 6 0, vI (nI p)] (gg (nW N) R L Z) = some (.inl none, (gg (nW N) R L Z)) := by
  simp (disch := first | assumption | omega | exact nI_or0 | exact nI_or1 | exact bN_or _) only [in79, x79_0, x79_1, x79_4, x79_7, x79_8, x79_9, x79_12, x79_15, x79_26, in79, reduceIte, Nat.reduceLT, nW_ap, nW_up, nI_add, pk_mul, nI_ltI, nI_eq, if_true, if_false, kont_r, kont_v, Nat.reduceAdd, Nat.reduceMul, Nat.not_lt, not_true_eq_false, not_false_eq_true, Nat.one_ne_zero, Nat.reduceEqDiff, Nat.lt_irrefl, reduceCtorEq, nI_or0, nI_or1, Nat.mul_zero, Nat.zero_add, h]
theorem t79_f {X : XS} {N : GV} {R : GR} {L : GL} {Z : Nat × Nat × Bool} (hR : Rok R) {p : Nat} (hp : p < 8) (h : N 0 p 2 = 0) : exec X 79 [vR 6 0, vI (nI p)] (gg (nW N) R L Z) = some (.inr 2, gg (nW N) R L (tz Z)) := by
  simp (disch := first | assumption | omega | exact nI_or0 | exact nI_or1 | exact bN_or _) only [in79, x79_0, x79_1, x79_4, x79_7, x79_8, x79_9, x79_12, x79_15, x79_26, in79, reduceIte, Nat.reduceLT, nW_ap, nW_up, nI_add, pk_mul, nI_ltI, nI_eq, if_true, if_false, kont_r, kont_v, Nat.reduceAdd, Nat.reduceMul, Nat.not_lt, not_true_eq_false, not_false_eq_true, Nat.one_ne_zero, Nat.reduceEqDiff, Nat.lt_irrefl, reduceCtorEq, nI_or0, nI_or1, Nat.mul_zero, Nat.zero_add, h, thr_g]
/-- the parks that hold saved states -/
def SV (R : GR) (l : List Nat) : Prop := l.length = 6 ∧ l.Nodup ∧ (∀ a, a ∈ l → 2 ≤ a ∧ a < 8) ∧ ∀ i, i < 6 → R 20 0 i = some (l.getD i 0)
theorem SV.b {R : GR} {l : List Nat} (h : SV R l) {i : Nat} (hi : i < 6) : 2 ≤ l.getD i 0 ∧ l.getD i 0 < 8 := h.2.2.1 _ (gD_mem (by rw [h.1]; exact hi))
theorem gD_inj {l : List Nat} (h : l.Nodup) {i j : Nat} (hi : i < l.length) (hj : j < l.length) (e : l.getD i 0 = l.getD j 0) : i = j := by
  rw [List.getD_eq_getElem?_getD, List.getD_eq_getElem?_getD, List.getElem?_eq_getElem hi, List.getElem?_eq_getElem hj] at e
  exact (List.getElem_inj h).1 e
theorem SV.e {R R' : GR} {l : List Nat} (h : SV R l) (e : ∀ i, i < 6 → R' 20 0 i = R 20 0 i) : SV R' l := ⟨h.1, h.2.1, h.2.2.1, fun i hi => by rw [e i hi]; exact h.2.2.2 i hi⟩
/-- rows shifted down by one below k -/
def rsD (R : GR) (k : Nat) : GR := fun k' i s => if k' = 20 ∧ i = 0 ∧ s + 1 < k then R 20 0 (s + 1) else R k' i s
theorem rsD_1 {R : GR} : rsD R 1 = R := by
  funext k i s
  exact if_neg (by omega)
theorem rsD_s {R : GR} {k : Nat} (hk : 1 ≤ k) : up3 (rsD R k) 20 0 (k - 1) (R 20 0 k) = rsD R (k + 1) := by
  funext k' i s
  unfold up3 rsD
  by_cases q : k' = 20 ∧ i = 0 ∧ s = k - 1
  · rw [if_pos q, if_pos (by omega), show s + 1 = k by omega]
  · rw [if_neg q]
    by_cases q2 : k' = 20 ∧ i = 0 ∧ s + 1 < k
    · rw [if_pos q2, if_pos (by omega)]
    · rw [if_neg q2, if_neg (by omega)]
theorem rsD_o {R : GR} {k k' i s : Nat} (h : ¬ (k' = 20 ∧ i = 0 ∧ s + 1 < k)) : rsD R k k' i s = R k' i s := if_neg h
theorem rsD_ok {R : GR} (h : Rok R) {k : Nat} : Rok (rsD R k) := by
  intro k' i s hi hs
  rw [rsD_o fun q => by rw [q.1] at hs; cases hs]
  exact h k' i s hi hs
def rot (l : List Nat) : List Nat := l.tail ++ [l.headD 0]
/-- the shift of the saved states -/
theorem l80 {X : XS} {N : GV} {R : GR} {L : GL} {Z : Nat × Nat × Bool} (hR : Rok R) {l : List Nat} (hl : SV R l) (h6 : N 6 0 3 = 6) : ∃ R', ex X 80 0 [vR 6 0, vU, vU] [] (gg (nW N) R L Z) = ex X 80 56 [vR 6 0, vR 5 (l.getD 0 0), vI (nI 6)] [] (gg (nW (up3 N 6 0 3 5)) R' L Z) ∧ Rok R' ∧ SV R' (rot l) ∧ ∀ k i s, ¬ k = 20 → R' k i s = R k i s := by
  have b0 := hl.b (i := 0) (by omega)
  have r0 := hl.2.2.2 0 (by omega)
  have key : ∀ k, k ≤ 6 → 1 ≤ k → ex X 80 18 [vR 6 0, vR 5 (l.getD 0 0), vI (nI k)] [] (gg (nW N) (rsD R k) L Z) = ex X 80 56 [vR 6 0, vR 5 (l.getD 0 0), vI (nI 6)] [] (gg (nW (up3 N 6 0 3 5)) (up3 (rsD R 6) 20 0 5 (some (l.getD 0 0))) L Z) := by
    refine down _ ?_ ?_
    · intro _
      have hR6 := rsD_ok hR (k := 6)
      generalize rsD R 6 = R6 at hR6 ⊢
      have hR7 : Rok (up3 R6 20 0 5 (some (l.getD 0 0))) := Rok_d (k := 20) (fun _ => rfl) hR6
      rw [x80_18]
      simp (disch := first | assumption | omega | exact nI_or0 | exact nI_or1 | exact bN_or _) only [x80_19, x80_21, x80_24, x80_25, x80_28, x80_29, x80_30, x80_31, x80_32, x80_35, x80_36, x80_37, x80_38, x80_41, x80_44, x80_45, x80_48, x80_49, x80_50, x80_51, x80_52, x80_53, reduceIte, Nat.reduceLT, nW_ap, nW_up, nI_add, pk_mul, nI_ltI, nI_eq, if_true, if_false, kont_r, kont_v, Nat.reduceAdd, Nat.reduceMul, Nat.not_lt, not_true_eq_false, not_false_eq_true, Nat.one_ne_zero, Nat.reduceEqDiff, Nat.lt_irrefl, reduceCtorEq, nI_or0, nI_or1]
    · intro k hk ih h1
      have ih := ih (by omega)
      have hRk := rsD_ok hR (k := k)
      have bk := hl.b (i := k) (by omega)
      have rk : rsD R k 20 0 k = some (l.getD k 0) := by rw [rsD_o (by omega)]; exact hl.2.2.2 k (by omega)
      rw [← rsD_s h1, hl.2.2.2 k (by omega)] at ih
      generalize rsD R k = Rk at hRk rk ih ⊢
      have hRk2 : Rok (up3 Rk 20 0 (k - 1) (some (l.getD k 0))) := Rok_d (k := 20) (fun _ => rfl) hRk
      have hk1 : k - 1 < 6 := by omega
      have bk2 := bk.2
      rw [← ih, x80_18]
      simp (disch := first | assumption | omega | exact nI_or0 | exact nI_or1 | exact bN_or _) only [x80_19, x80_21, x80_24, x80_25, x80_28, x80_29, x80_30, x80_31, x80_32, x80_35, x80_36, x80_37, x80_38, x80_41, reduceIte, Nat.reduceLT, nW_ap, nW_up, nI_add, pk_mul, nI_ltI, nI_eq, if_true, if_false, kont_r, kont_v, Nat.reduceAdd, Nat.reduceMul, Nat.not_lt, not_true_eq_false, not_false_eq_true, Nat.one_ne_zero, Nat.reduceEqDiff, Nat.lt_irrefl, reduceCtorEq, nI_or0, nI_or1, hk, pk_sub]
  have h1 := key 1 (by omega) (by omega)
  rw [rsD_1] at h1
  refine ⟨up3 (rsD R 6) 20 0 5 (some (l.getD 0 0)), ?_, Rok_d (k := 20) (fun _ => rfl) (rsD_ok hR), ⟨?_, ?_, ?_, ?_⟩, fun k i s h => ?_⟩
  · rw [← h1]
    simp (disch := first | assumption | omega | exact nI_or0 | exact nI_or1 | exact bN_or _) only [x80_0, x80_1, x80_4, x80_6, x80_9, x80_10, x80_13, x80_14, x80_15, x80_16, x80_17, reduceIte, Nat.reduceLT, nW_ap, nW_up, nI_add, pk_mul, nI_ltI, nI_eq, if_true, if_false, kont_r, kont_v, Nat.reduceAdd, Nat.reduceMul, Nat.not_lt, not_true_eq_false, not_false_eq_true, Nat.one_ne_zero, Nat.reduceEqDiff, Nat.lt_irrefl, reduceCtorEq, nI_or0, nI_or1, h6]
  · unfold rot
    have := hl.1
    rw [List.length_append, List.length_tail, this]; rfl
  · obtain ⟨a, m, e⟩ : ∃ a m, l = a :: m := by
      cases l with
      | nil => exact absurd hl.1 (by decide)
      | cons a m => exact ⟨a, m, rfl⟩
    subst e
    have hn := hl.2.1
    rw [List.nodup_cons] at hn
    show (m ++ [a]).Nodup
    rw [List.nodup_append]
    refine ⟨hn.2, by simp, fun x hx y hy => ?_⟩
    rw [List.mem_singleton] at hy
    intro e
    exact hn.1 (by rw [← hy, ← e]; exact hx)
  · obtain ⟨a, m, e⟩ : ∃ a m, l = a :: m := by
      cases l with
      | nil => exact absurd hl.1 (by decide)
      | cons a m => exact ⟨a, m, rfl⟩
    subst e
    intro x hx
    refine hl.2.2.1 x ?_
    have hx : x ∈ m ++ [a] := hx
    rcases List.mem_append.1 hx with q | q
    · exact List.mem_cons_of_mem _ q
    · rw [List.mem_singleton] at q; rw [q]; exact List.mem_cons_self
  · obtain ⟨a, m, e⟩ : ∃ a m, l = a :: m := by
      cases l with
      | nil => exact absurd hl.1 (by decide)
      | cons a m => exact ⟨a, m, rfl⟩
    subst e
    have hm : m.length = 5 := by have := hl.1; rw [List.length_cons] at this; omega
    intro i hi
    show _ = some ((m ++ [a]).getD i 0)
    by_cases q : i = 5
    · subst q
      rw [up3_self, gD_r (by omega), hm]; rfl
    · rw [up3_s _ _ q]
      unfold rsD
      rw [if_pos ⟨rfl, rfl, by omega⟩, hl.2.2.2 (i + 1) (by omega), gD_l (by omega)]; rfl
  · rw [up3_k _ _ h]
    exact rsD_o (by omega)
/-- the saved states of the class are T 0 .. T (n - 1) -/
def SAV (N : GV) (R : GR) (n : Nat) (T : Nat → Nat → Nat) : Prop := N 6 0 3 = n ∧ n ≤ 6 ∧ ∃ l, SV R l ∧ ∀ i, i < n → PK N (l.getD i 0) (cw (T i)) ∧ DI (T i 5) (cw (T i))
def svT (n : Nat) (T : Nat → Nat → Nat) (S : Nat → Nat) : Nat → Nat → Nat := fun i => if i = min n 5 then S else if n = 6 then T (i + 1) else T i
theorem rot_gD {l : List Nat} (hl : l.length = 6) {i : Nat} (hi : i < 5) : (rot l).getD i 0 = l.getD (i + 1) 0 := by
  cases l with
  | nil => exact absurd hl (by decide)
  | cons a m =>
    have hm : m.length = 5 := by rw [List.length_cons] at hl; omega
    show (m ++ [a]).getD i 0 = _
    rw [gD_l (by omega)]; rfl
theorem s80 {X : XS} {N : GV} {R : GR} {L : GL} {Z : Nat × Nat × Bool} (hR : Rok R) {n : Nat} {l : List Nat} {V : GV} {l1 l2 : AV} (hl : SV R l) (hn : n < 6) (h3 : N 6 0 3 = n) (hD : DI (V 22 0 5) V) (hP : PK N 0 V) (hJ : JB N) : ∃ N', ex X 80 56 [vR 6 0, l1, l2] [] (gg (nW N) R L Z) = some (.inl none, (gg (nW (N')) R L Z)) ∧ N' 6 0 3 = n + 1 ∧ PK N' (l.getD n 0) V ∧ JB N' ∧ ∀ k i s, ¬ own (l.getD n 0) k i → ¬ (k = 6 ∧ s = 3) → N' k i s = N k i s := by
  have b := hl.b hn
  have r := hl.2.2.2 n hn
  have b2 := b.2
  obtain ⟨N1, s1, p1, f1, j1⟩ := t32 (X := X) (N := N) (L := L) (Z := Z) (P := l.getD n 0) (Q := 0) hR b.2 (by omega) (by omega) hD hP hJ
  have e63 : N1 6 0 3 = n := by rw [f1 _ _ _ (by unfold own; omega), h3]
  have m1 : ∀ k i s, ¬ (k = 6 ∧ s = 3) → up3 N1 6 0 3 (n + 1) k i s = N1 k i s := fun k i s h => u_ne (by omega)
  refine ⟨up3 N1 6 0 3 (n + 1), ?_, up3_self _ _ _ _ _, ?_, fun b hb => ?_, fun k i s a c => by rw [m1 _ _ _ c]; exact f1 _ _ _ a⟩
  · simp (disch := first | assumption | omega | exact nI_or0 | exact nI_or1 | exact bN_or _) only [x80_56, x80_57, x80_60, x80_61, x80_64, x80_65, x80_66, x80_69, x80_72, x80_73, x80_74, x80_77, x80_78, x80_79, x80_82, reduceIte, Nat.reduceLT, nW_ap, nW_up, nI_add, pk_mul, nI_ltI, nI_eq, if_true, if_false, kont_r, kont_v, Nat.reduceAdd, Nat.reduceMul, Nat.not_lt, not_true_eq_false, not_false_eq_true, Nat.one_ne_zero, Nat.reduceEqDiff, Nat.lt_irrefl, reduceCtorEq, nI_or0, nI_or1, h3, r, s1, e63]
  · refine p1.g hD.h6 hD.h7 ?_ ?_ ?_ ?_ ?_ ?_ ?_ ?_ (fun _ _ => rfl) (p1.1.2.2.2.2.2.g fun k i s h => m1 _ _ _ (by omega))
    · intro p s _ _ _; exact m1 _ _ _ (by omega)
    · intro p s _ _ _; exact m1 _ _ _ (by omega)
    · intro s _; exact m1 _ _ _ (by omega)
    · intro s _; exact m1 _ _ _ (by omega)
    · exact m1 _ _ _ (by omega)
    · intro k s _ _; exact m1 _ _ _ (by omega)
    · exact m1 _ _ _ (by omega)
    · intro k s _ _ _; exact m1 _ _ _ (by omega)
  · rw [m1 _ _ _ (by omega), m1 _ _ _ (by omega)]; exact j1 b hb
theorem PK.sm {K P : Nat} {N N' V : GV} (hD : DI K V) (p1 : PK N P V) (m1 : ∀ k i s, own P k i → N' k i s = N k i s) (hS : SB N') : PK N' P V := by
  refine p1.g hD.h6 hD.h7 ?_ ?_ ?_ ?_ ?_ ?_ ?_ ?_ (fun _ _ => rfl) hS
  · intro p s _ _ _; exact m1 _ _ _ (by unfold own; omega)
  · intro p s _ _ _; exact m1 _ _ _ (by unfold own; omega)
  · intro s _; exact m1 _ _ _ (by unfold own; omega)
  · intro s _; exact m1 _ _ _ (by unfold own; omega)
  · exact m1 _ _ _ (by unfold own; omega)
  · intro k s _ _; exact m1 _ _ _ (by unfold own; omega)
  · exact m1 _ _ _ (by unfold own; omega)
  · intro k s _ _ _; exact m1 _ _ _ (by unfold own; omega)
theorem own_ne {P Q k i : Nat} (h : own P k i) (hne : ¬ P = Q) : ¬ own Q k i := by unfold own at *; omega
/-- what a call of the class leaves alone: the text, the reference -/
def KE2 (N N' : GV) : Prop := ∀ k i s, k = 3 ∨ k = 7 ∨ (10 ≤ k ∧ k ≤ 13) ∨ 22 ≤ k → N' k i s = N k i s
theorem t80 {X : XS} {N : GV} {R : GR} {L : GL} {Z : Nat × Nat × Bool} (hR : Rok R) {n : Nat} {T : Nat → Nat → Nat} {V : GV} (hD : DI (V 22 0 5) V) (hP : PK N 0 V) (hJ : JB N) (hT : SAV N R n T) : ∃ N' R', exec X 80 [vR 6 0] (gg (nW N) R L Z) = some (.inl none, gg (nW N') R' L Z) ∧ Rok R' ∧ PK N' 0 V ∧ JB N' ∧ SAV N' R' (min n 5 + 1) (svT n T (V 22 0)) ∧ KE2 N N' ∧ (∀ k i s, own 0 k i → N' k i s = N k i s) := by
  obtain ⟨h3, hn, l, hl, hs⟩ := hT
  have hDc : DI ((cw (V 22 0)) 22 0 5) (cw (V 22 0)) := by rw [cw_22]; exact hD.e0 cw_22
  by_cases q : n = 6
  · subst q
    obtain ⟨R', s1, hR', hl', hr⟩ := l80 (X := X) (N := N) (L := L) (Z := Z) hR hl h3
    have m1 : ∀ k i s, ¬ (k = 6 ∧ s = 3) → up3 N 6 0 3 5 k i s = N k i s := fun k i s h => u_ne (by omega)
    have hS1 : SB (up3 N 6 0 3 5) := hP.1.2.2.2.2.2.g fun k i s h => m1 _ _ _ (by omega)
    have hP1 : PK (up3 N 6 0 3 5) 0 V := hP.sm hD (fun k i s h => m1 _ _ _ (by unfold own at h; omega)) hS1
    obtain ⟨N', s2, e3, p2, j2, f2⟩ := s80 (X := X) (N := up3 N 6 0 3 5) (R := R') (L := L) (Z := Z) (l1 := vR 5 (l.getD 0 0)) (l2 := vI (nI 6)) hR' hl' (show 5 < 6 by omega) (up3_self _ _ _ _ _) hD hP1 (fun b hb => by rw [m1 _ _ _ (by omega), m1 _ _ _ (by omega)]; exact hJ b hb)
    have b5 := hl'.b (i := 5) (by omega)
    have f3 : ∀ k i s, ¬ own ((rot l).getD 5 0) k i → ¬ (k = 6 ∧ s = 3) → N' k i s = N k i s := fun k i s a c => by rw [f2 _ _ _ a c, m1 _ _ _ c]
    have hS' := p2.1.2.2.2.2.2
    refine ⟨N', R', ?_, hR', ?_, j2, ⟨e3, by omega, rot l, hl', fun i hi => ?_⟩, fun k i s h => f3 _ _ _ (by unfold own; omega) (by omega), fun k i s h => f3 _ _ _ (own_ne h (by omega)) (by unfold own at h; omega)⟩
    · rw [in80, s1, s2]
    · exact hP.sm hD (fun k i s h => f3 _ _ _ (own_ne h (by omega)) (by unfold own at h; omega)) hS'
    · unfold svT
      by_cases e : i = 5
      · subst e
        rw [if_pos (by omega)]
        refine ⟨?_, by rw [cw_22] at hDc; exact hDc⟩
        exact ⟨p2.1.e cw_22, ⟨fun k hk => by rw [cw_22]; exact p2.2.1.1 k hk, by rw [cw_22]; exact p2.2.1.2⟩, p2.2.2.1.g hD.h6 rfl (fun _ _ _ _ => rfl) fun s _ => by rw [cw_22], p2.2.2.2.g hD.h7 rfl (fun _ _ _ _ _ => rfl) fun s _ => by rw [cw_22]⟩
      · rw [if_neg (by omega), if_pos rfl]
        obtain ⟨a1, a2⟩ := hs (i + 1) (by omega)
        refine ⟨?_, a2⟩
        rw [rot_gD hl.1 (by omega)]
        have hb := hl.b (i := i + 1) (by omega)
        have hne : ¬ l.getD (i + 1) 0 = (rot l).getD 5 0 := fun x => by
          rw [← rot_gD hl.1 (by omega)] at x
          have := gD_inj hl'.2.1 (by rw [hl'.1]; omega) (by rw [hl'.1]; omega) x
          omega
        exact a1.sm a2 (fun k j s h => f3 _ _ _ (own_ne h hne) (by unfold own at h; omega)) hS'
  · obtain ⟨N', s2, e3, p2, j2, f2⟩ := s80 (X := X) (N := N) (R := R) (L := L) (Z := Z) (l1 := vU) (l2 := vU) hR hl (show n < 6 by omega) h3 hD hP hJ
    have b5 := hl.b (i := n) (by omega)
    have hS' := p2.1.2.2.2.2.2
    have hmin : min n 5 = n := by omega
    refine ⟨N', R, ?_, hR, ?_, j2, ⟨by rw [hmin]; exact e3, by omega, l, hl, fun i hi => ?_⟩, fun k i s h => f2 _ _ _ (by unfold own; omega) (by omega), fun k i s h => f2 _ _ _ (own_ne h (by omega)) (by unfold own at h; omega)⟩
    · rw [in80, ← s2]
      have h6 : n < 6 := by omega
      simp (disch := first | assumption | omega | exact nI_or0 | exact nI_or1 | exact bN_or _) only [x80_0, x80_1, x80_4, x80_6, reduceIte, Nat.reduceLT, nW_ap, nW_up, nI_add, pk_mul, nI_ltI, nI_eq, if_true, if_false, kont_r, kont_v, Nat.reduceAdd, Nat.reduceMul, Nat.not_lt, not_true_eq_false, not_false_eq_true, Nat.one_ne_zero, Nat.reduceEqDiff, Nat.lt_irrefl, reduceCtorEq, nI_or0, nI_or1, h3, h6]
    · exact hP.sm hD (fun k i s h => f2 _ _ _ (own_ne h (by omega)) (by unfold own at h; omega)) hS'
    · unfold svT
      rw [hmin]
      by_cases e : i = n
      · subst e
        rw [if_pos rfl]
        refine ⟨?_, by rw [cw_22] at hDc; exact hDc⟩
        exact ⟨p2.1.e cw_22, ⟨fun k hk => by rw [cw_22]; exact p2.2.1.1 k hk, by rw [cw_22]; exact p2.2.1.2⟩, p2.2.2.1.g hD.h6 rfl (fun _ _ _ _ => rfl) fun s _ => by rw [cw_22], p2.2.2.2.g hD.h7 rfl (fun _ _ _ _ _ => rfl) fun s _ => by rw [cw_22]⟩
      · rw [if_neg e, if_neg q]
        obtain ⟨a1, a2⟩ := hs i (by omega)
        refine ⟨?_, a2⟩
        have hne : ¬ l.getD i 0 = l.getD n 0 := fun x => e (gD_inj hl.2.1 (by rw [hl.1]; omega) (by rw [hl.1]; omega) x)
        exact a1.sm a2 (fun k j s h => f2 _ _ _ (own_ne h hne) (by unfold own at h; omega)) hS'
