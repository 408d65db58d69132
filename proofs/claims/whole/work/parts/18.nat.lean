/-! WORLDS OF NATURALS: every int is nI of a natural -/
abbrev GV : Type := Nat → Nat → Nat → Nat
def nW (N : GV) : GI := fun k i s => nI (N k i s)
theorem nW_ap (N : GV) (k i s : Nat) : nW N k i s = nI (N k i s) := rfl
theorem nW_up (N : GV) (k i s v : Nat) : up3 (nW N) k i s (nI v) = nW (up3 N k i s v) := by
  funext k' i' s'
  show (if k' = k ∧ i' = i ∧ s' = s then nI v else nI (N k' i' s')) = nI (if k' = k ∧ i' = i ∧ s' = s then v else N k' i' s')
  split <;> rfl
theorem nI_sur (x : Int32) : ∃ n, x = nI n := ⟨x.toBitVec.toNat, by
  apply Int32.toBitVec_inj.mp
  apply BitVec.eq_of_toNat_eq
  exact (Nat.mod_eq_of_lt x.toBitVec.isLt).symm⟩
theorem nW_sur (I : GI) : ∃ N, I = nW N := ⟨fun k i s => (nI_sur (I k i s)).choose, by
  funext k i s
  exact (nI_sur (I k i s)).choose_spec⟩
theorem up3_self {α : Type} (f : Nat → Nat → Nat → α) (k i s : Nat) (v : α) : up3 f k i s v k i s = v := if_pos ⟨rfl, rfl, rfl⟩
theorem up3_k {α : Type} (f : Nat → Nat → Nat → α) {k i s : Nat} (v : α) {k' i' s' : Nat} (h : ¬ k' = k) : up3 f k i s v k' i' s' = f k' i' s' := if_neg fun q => h q.1
theorem up3_i {α : Type} (f : Nat → Nat → Nat → α) {k i s : Nat} (v : α) {k' i' s' : Nat} (h : ¬ i' = i) : up3 f k i s v k' i' s' = f k' i' s' := if_neg fun q => h q.2.1
theorem up3_s {α : Type} (f : Nat → Nat → Nat → α) {k i s : Nat} (v : α) {k' i' s' : Nat} (h : ¬ s' = s) : up3 f k i s v k' i' s' = f k' i' s' := if_neg fun q => h q.2.2
theorem up3_id {α : Type} (f : Nat → Nat → Nat → α) (k i s : Nat) : up3 f k i s (f k i s) = f := by
  funext k' i' s'
  unfold up3
  split
  · rename_i h; obtain ⟨rfl, rfl, rfl⟩ := h; rfl
  · rfl
theorem bI_nI (c : Bool) : bI c = nI (if c then 1 else 0) := by cases c <;> rfl
/-! the reference's leaves -/
theorem t91 {X : XS} {I : GI} {R : GR} {L : GL} {Z : Nat × Nat × Bool} {v a b : Int32} : exec X 91 [vI v, vI a, vI b] (gg I R L Z) = some (.inl (some (vI (bI (decide (¬ v < a) && decide (¬ b < v))))), gg I R L Z) := by
  by_cases h1 : v < a <;> by_cases h2 : b < v <;>
    simp (disch := first | assumption | decide) only [x91_0, x91_1, x91_2, x91_5, x91_6, x91_7, x91_10, x91_11, x91_14, x91_15, in91, h1, h2, if_true, if_false, bI, nI_or0, nI_or1, not_true_eq_false, not_false_eq_true, decide_true, decide_false, Bool.and_true, Bool.and_false, Bool.true_and, Bool.false_and, Bool.false_eq_true]
theorem t92 {X : XS} {I : GI} {R : GR} {L : GL} {Z : Nat × Nat × Bool} {c : Int32} : exec X 92 [vR 7 0, vI c] (gg I R L Z) = some (.inl (some (vI (nI 0))), gg (up3 I 7 0 0 c) R L Z) := by
  simp (disch := first | assumption | decide) only [x92_0, x92_1, x92_2, x92_5, x92_6, in92]
theorem t93 {X : XS} {I : GI} {R : GR} {L : GL} {Z : Nat × Nat × Bool} {v : Int32} : exec X 93 [vI v] (gg I R L Z) = some (.inl (some (vI (bI (decide (¬ v < nI 0) && decide (¬ nI 7 < v))))), gg I R L Z) := by
  have h := bI_or (decide (¬ v < nI 0) && decide (¬ nI 7 < v))
  simp (disch := first | assumption | decide) only [x93_0, x93_1, x93_2, x93_4, x93_7, in93, t91, kont_r, Nat.reduceAdd]
theorem t97 {X : XS} {N : GV} {R : GR} {L : GL} {Z : Nat × Nat × Bool} (hR : Rok R) {p w : Nat} (h : 13 + 10 * p + w < 204) : exec X 97 [vR 7 0, vI (nI p), vI (nI w)] (gg (nW N) R L Z) = some (.inl (some (vI (nI (N 22 0 (13 + 10 * p + w))))), gg (nW N) R L Z) := by
  simp (disch := first | assumption | decide) only [x97_0, x97_1, x97_4, x97_6, x97_8, x97_9, x97_10, x97_11, x97_12, x97_13, x97_14, in97, nI_add, pk_mul, nW_ap]
theorem t98 {X : XS} {N : GV} {R : GR} {L : GL} {Z : Nat × Nat × Bool} (hR : Rok R) {p w v : Nat} (h : 13 + 10 * p + w < 204) : exec X 98 [vR 7 0, vI (nI p), vI (nI w), vI (nI v)] (gg (nW N) R L Z) = some (.inl none, gg (nW (up3 N 22 0 (13 + 10 * p + w) v)) R L Z) := by
  simp (disch := first | assumption | decide) only [x98_0, x98_1, x98_4, x98_6, x98_8, x98_9, x98_10, x98_11, x98_12, x98_13, x98_14, x98_15, in98, nI_add, pk_mul, nW_up]
/-! loops: going down -/
theorem down {P : Nat → Prop} (n : Nat) (hn : P n) (hs : ∀ k, k < n → P (k + 1) → P k) : ∀ k, k ≤ n → P k := by
  intro k hk
  obtain ⟨d, hd⟩ : ∃ d, d + k = n := ⟨n - k, by omega⟩
  induction d generalizing k with
  | zero => have : k = n := by omega
            subst this; exact hn
  | succ d ih => exact hs k (by omega) (ih (k + 1) (by omega) (by omega))
/-- whether p holds below n; how much f makes below n -/
def anyN : Nat → (Nat → Bool) → Bool
  | 0, _ => false
  | n + 1, p => anyN n p || p n
def sumN : Nat → (Nat → Nat) → Nat
  | 0, _ => 0
  | n + 1, f => sumN n f + f n
def bN (c : Bool) : Nat := if c then 1 else 0
theorem bI_bN (c : Bool) : bI c = nI (bN c) := bI_nI c
theorem bN_le (c : Bool) : bN c ≤ 1 := by cases c <;> decide
theorem t99 {X : XS} {N : GV} {R : GR} {L : GL} {Z : Nat × Nat × Bool} (hR : Rok R) {j w : Nat} (h : 93 + 3 * j + w < 204) : exec X 99 [vR 7 0, vI (nI j), vI (nI w)] (gg (nW N) R L Z) = some (.inl (some (vI (nI (N 22 0 (93 + 3 * j + w))))), gg (nW N) R L Z) := by
  simp (disch := first | assumption | decide) only [x99_0, x99_1, x99_4, x99_6, x99_7, x99_8, x99_9, x99_10, x99_11, x99_12, x99_13, in99, nI_add, pk_mul, nW_ap]
theorem t100 {X : XS} {N : GV} {R : GR} {L : GL} {Z : Nat × Nat × Bool} (hR : Rok R) {j w : Nat} (h : 153 + 3 * j + w < 204) : exec X 100 [vR 7 0, vI (nI j), vI (nI w)] (gg (nW N) R L Z) = some (.inl (some (vI (nI (N 22 0 (153 + 3 * j + w))))), gg (nW N) R L Z) := by
  simp (disch := first | assumption | decide) only [x100_0, x100_1, x100_4, x100_7, x100_8, x100_9, x100_10, x100_11, x100_12, x100_13, x100_14, in100, nI_add, pk_mul, nW_ap]
/-- whether it freezes on the day d -/
def froB (S : Nat → Nat) (d : Nat) : Bool := anyN (S 6) fun k => decide (S (141 + 2 * k) ≤ d) && decide (d ≤ S (141 + 2 * k + 1))
/-- the slots that are compared hold small numbers -/
def Lt31 (S : Nat → Nat) : Prop := ∀ j, (j < 8 ∨ (13 ≤ j ∧ j < 93 ∧ (j - 13) % 10 < 7) ∨ (93 ≤ j ∧ j < 204)) → S j < 2 ^ 28
theorem l101 {X : XS} {N : GV} {R : GR} {L : GL} {Z : Nat × Nat × Bool} (hR : Rok R) (h6 : N 22 0 6 ≤ 6) (hB : Lt31 (N 22 0)) {d : Nat} (hd : d < 2 ^ 31) {p : Nat → Bool} (hp : p = fun k => decide (N 22 0 (141 + 2 * k) ≤ d) && decide (d ≤ N 22 0 (141 + 2 * k + 1))) {r : Option RS} (hr : ex X 101 64 [vR 7 0, vI (nI d), vI (nI (bN (anyN (N 22 0 6) p))), vI (nI (N 22 0 6))] [] (gg (nW N) R L Z) = r) : ∀ k, k ≤ N 22 0 6 → ex X 101 4 [vR 7 0, vI (nI d), vI (nI (bN (anyN k p))), vI (nI k)] [] (gg (nW N) R L Z) = r := by
  refine down _ ?_ ?_
  · rw [x101_4]
    have h := Nat.lt_irrefl (N 22 0 6)
    simp (disch := first | assumption | omega) only [x101_5, x101_6, x101_9, x101_11, x101_12, x101_15, x101_16, nW_ap, nI_ltI, h, if_false]
    exact hr
  · intro k hk ih
    have h1 := hB (141 + 2 * k) (by omega)
    have h2 := hB (141 + 2 * k + 1) (by omega)
    rw [x101_4]
    simp only [anyN] at ih
    rw [show p k = (decide (N 22 0 (141 + 2 * k) ≤ d) && decide (d ≤ N 22 0 (141 + 2 * k + 1))) from by rw [hp]] at ih
    generalize anyN k p = c at ih ⊢
    cases c <;> by_cases q1 : N 22 0 (141 + 2 * k) ≤ d <;> by_cases q2 : d ≤ N 22 0 (141 + 2 * k + 1) <;>
      simp only [q1, q2, decide_true, decide_false, Bool.and_true, Bool.and_false, Bool.or_false, Bool.or_true, bN, if_true, if_false, Bool.false_eq_true] at ih <;>
      simp (disch := first | assumption | omega) only [x101_5, x101_6, x101_9, x101_11, x101_12, x101_15, x101_16, x101_19, x101_20, x101_21, x101_24, x101_27, x101_28, x101_29, x101_30, x101_31, x101_32, x101_33, x101_36, x101_39, x101_40, x101_41, x101_42, x101_43, x101_44, x101_45, x101_46, x101_49, x101_52, x101_53, x101_56, x101_57, x101_58, x101_61, nW_ap, nI_add, pk_mul, nI_ltI, nI_eq, hk, if_true, if_false, bI, bN, t91, kont_r, Nat.reduceAdd, q1, q2, Nat.not_lt, Bool.and_true, Bool.and_false, decide_true, decide_false, Bool.false_eq_true, Nat.reduceEqDiff, Nat.one_ne_zero] <;> exact ih
theorem t101 {X : XS} {N : GV} {R : GR} {L : GL} {Z : Nat × Nat × Bool} (hR : Rok R) (h6 : N 22 0 6 ≤ 6) (hB : Lt31 (N 22 0)) {d : Nat} (hd : d < 2 ^ 31) : exec X 101 [vR 7 0, vI (nI d)] (gg (nW N) R L Z) = some (.inl (some (vI (nI (bN (froB (N 22 0) d))))), gg (nW N) R L Z) := by
  have hb : nI (bN (froB (N 22 0) d)) = 0 ∨ nI (bN (froB (N 22 0) d)) = 1 := by cases froB (N 22 0) d <;> decide
  simp (disch := first | assumption | omega) only [in101, x101_0, x101_1, x101_2, x101_3]
  exact l101 hR h6 hB hd rfl (by rw [x101_64]; exact x101_65 hb) 0 (Nat.zero_le _)
/-- why a fountain is closed -/
def cloB (S : Nat → Nat) (f : Bool) (p : Nat) : Nat :=
  if S (13 + 10 * p + 6) = 0 then 1
  else if S (13 + 10 * p + 5) = 1 then 2
  else if S (13 + 10 * p + 4) = 1 then 3
  else if f = true ∧ S (13 + 10 * p + 3) = 0 then 4
  else if S (13 + 10 * p + 2) = 4 * S (13 + 10 * p + 1) then 5 else 0
def clo (S : Nat → Nat) (p : Nat) : Nat := cloB S (froB S (S 5)) p
theorem t102 {X : XS} {N : GV} {R : GR} {L : GL} {Z : Nat × Nat × Bool} (hR : Rok R) (h6 : N 22 0 6 ≤ 6) (hB : Lt31 (N 22 0)) {p : Nat} (hp : p < 8) : exec X 102 [vR 7 0, vI (nI p)] (gg (nW N) R L Z) = some (.inl (some (vI (nI (clo (N 22 0) p)))), (gg (nW N) R L Z)) := by
  have b1 := hB (13 + 10 * p + 1) (by omega)
  have b2 := hB (13 + 10 * p + 2) (by omega)
  have b3 := hB (13 + 10 * p + 3) (by omega)
  have b4 := hB (13 + 10 * p + 4) (by omega)
  have b5 := hB (13 + 10 * p + 5) (by omega)
  have b6 := hB (13 + 10 * p + 6) (by omega)
  have b7 := hB 5 (by omega)
  unfold clo cloB
  generalize hf : froB (N 22 0) (N 22 0 5) = f
  cases f <;> by_cases q6 : N 22 0 (13 + 10 * p + 6) = 0 <;> by_cases q5 : N 22 0 (13 + 10 * p + 5) = 1 <;> by_cases q4 : N 22 0 (13 + 10 * p + 4) = 1 <;> by_cases q3 : N 22 0 (13 + 10 * p + 3) = 0 <;> by_cases q2 : N 22 0 (13 + 10 * p + 2) = 4 * N 22 0 (13 + 10 * p + 1) <;>
    simp (disch := first | assumption | omega | exact nI_or0 | exact nI_or1) only [x102_0, x102_1, x102_2, x102_4, x102_7, x102_10, x102_11, x102_12, x102_13, x102_14, x102_15, x102_18, x102_19, x102_22, x102_23, x102_24, x102_25, x102_28, x102_29, x102_32, x102_33, x102_34, x102_35, x102_38, x102_39, x102_42, x102_43, x102_46, x102_47, x102_48, x102_49, x102_50, x102_53, x102_54, x102_55, x102_58, x102_61, x102_62, x102_63, x102_64, x102_67, x102_70, x102_71, x102_72, x102_73, x102_74, x102_75, x102_78, x102_79, x102_80, x102_81, x102_82, x102_85, x102_86, x102_89, x102_90, x102_93, x102_94, in102, reduceIte, Nat.reduceLT, nW_ap, nW_up, nI_add, pk_mul, nI_ltI, nI_eq, if_true, if_false, kont_r, kont_v, Nat.reduceAdd, Nat.reduceMul, Nat.not_lt, not_true_eq_false, not_false_eq_true, Nat.one_ne_zero, Nat.reduceEqDiff, Nat.lt_irrefl, reduceCtorEq, nI_or0, nI_or1, t97, t101, hf, bN, q6, q5, q4, q3, q2, Bool.false_eq_true, and_true, and_false, false_and, true_and]
theorem l103 {X : XS} {N : GV} {R : GR} {L : GL} {Z : Nat × Nat × Bool} (hR : Rok R) (h6 : N 22 0 6 ≤ 6) (hB : Lt31 (N 22 0)) {p : Nat → Nat} (hp : p = fun k => bN (decide (clo (N 22 0) k = 0))) {r : Option RS} (hr : ex X 103 32 [vR 7 0, vI (nI (sumN 8 p)), vI (nI 8)] [] (gg (nW N) R L Z) = r) : ∀ k, k ≤ 8 → ex X 103 4 [vR 7 0, vI (nI (sumN k p)), vI (nI k)] [] (gg (nW N) R L Z) = r := by
  refine down _ ?_ ?_
  · rw [x103_4]
    simp (disch := first | assumption | omega | exact nI_or0 | exact nI_or1) only [x103_5, x103_7, x103_10, x103_11, x103_12, x103_13, x103_16, x103_19, x103_20, x103_23, x103_24, x103_25, x103_26, x103_29, reduceIte, Nat.reduceLT, nW_ap, nW_up, nI_add, pk_mul, nI_ltI, nI_eq, if_true, if_false, kont_r, kont_v, Nat.reduceAdd, Nat.reduceMul, Nat.not_lt, not_true_eq_false, not_false_eq_true, Nat.one_ne_zero, Nat.reduceEqDiff, Nat.lt_irrefl, reduceCtorEq, nI_or0, nI_or1]
    exact hr
  · intro k hk ih
    have b : clo (N 22 0) k < 6 := by unfold clo cloB; (repeat' split) <;> omega
    rw [x103_4]
    simp only [sumN] at ih
    rw [show p k = bN (decide (clo (N 22 0) k = 0)) from by rw [hp]] at ih
    by_cases q1 : clo (N 22 0) k = 0 <;>
      simp only [q1, decide_true, decide_false, bN, if_true, if_false, Bool.false_eq_true] at ih <;>
      simp (disch := first | assumption | omega | exact nI_or0 | exact nI_or1) only [x103_5, x103_7, x103_10, x103_11, x103_12, x103_13, x103_16, x103_19, x103_20, x103_23, x103_24, x103_25, x103_26, x103_29, reduceIte, Nat.reduceLT, nW_ap, nW_up, nI_add, pk_mul, nI_ltI, nI_eq, if_true, if_false, kont_r, kont_v, Nat.reduceAdd, Nat.reduceMul, Nat.not_lt, not_true_eq_false, not_false_eq_true, Nat.one_ne_zero, Nat.reduceEqDiff, Nat.lt_irrefl, reduceCtorEq, nI_or0, nI_or1, hk, t102, q1] <;> exact ih
theorem t103 {X : XS} {N : GV} {R : GR} {L : GL} {Z : Nat × Nat × Bool} (hR : Rok R) (h6 : N 22 0 6 ≤ 6) (hB : Lt31 (N 22 0)) : exec X 103 [vR 7 0] (gg (nW N) R L Z) = some (.inl (some (vI (nI (sumN 8 fun k => bN (decide (clo (N 22 0) k = 0)))))), (gg (nW N) R L Z)) := by
  simp (disch := first | assumption | omega | exact nI_or0 | exact nI_or1) only [in103, x103_0, x103_1, x103_2, x103_3]
  exact l103 hR h6 hB rfl (by rw [x103_32]; exact x103_33) 0 (Nat.zero_le _)
/-- a job is reported; a job ends -/
def repN (N : GV) (j : Nat) : GV := up3 (up3 (up3 N 22 0 (93 + 3 * j) 1) 22 0 (93 + 3 * j + 1) (N 22 0 5)) 22 0 (93 + 3 * j + 2) 0
theorem t104 {X : XS} {N : GV} {R : GR} {L : GL} {Z : Nat × Nat × Bool} (hR : Rok R) {j : Nat} (hj : j < 16) : exec X 104 [vR 7 0, vI (nI j)] (gg (nW N) R L Z) = some (.inl none, (gg (nW (repN N j)) R L Z)) := by
  have h : ¬ 5 = 93 + 3 * j := by omega
  simp (disch := first | assumption | omega | exact nI_or0 | exact nI_or1) only [x104_0, x104_1, x104_4, x104_6, x104_7, x104_8, x104_9, x104_10, x104_11, x104_12, x104_13, x104_14, x104_15, x104_18, x104_20, x104_21, x104_22, x104_23, x104_24, x104_25, x104_26, x104_27, x104_30, x104_31, x104_32, x104_33, x104_34, x104_37, x104_39, x104_40, x104_41, x104_42, x104_43, x104_44, x104_45, x104_46, x104_47, in104, reduceIte, Nat.reduceLT, nW_ap, nW_up, nI_add, pk_mul, nI_ltI, nI_eq, if_true, if_false, kont_r, kont_v, Nat.reduceAdd, Nat.reduceMul, Nat.not_lt, not_true_eq_false, not_false_eq_true, Nat.one_ne_zero, Nat.reduceEqDiff, Nat.lt_irrefl, reduceCtorEq, nI_or0, nI_or1, Nat.add_zero, up3_s _ _ h]
  rfl
def endN (N : GV) (j : Nat) : GV := up3 (up3 (up3 N 22 0 (93 + 3 * j) 0) 22 0 (93 + 3 * j + 1) 0) 22 0 (93 + 3 * j + 2) 0
set_option maxRecDepth 10000 in
theorem t105 {X : XS} {N : GV} {R : GR} {L : GL} {Z : Nat × Nat × Bool} (hR : Rok R) {j : Nat} (hj : j < 16) : exec X 105 [vR 7 0, vI (nI j)] (gg (nW N) R L Z) = some (.inl none, (gg (nW (endN N j)) R L Z)) := by
  simp (disch := first | assumption | omega | decide) only [x105_0, x105_1, x105_2, x105_3, x105_4, x105_7, x105_8, x105_11, x105_13, x105_14, x105_15, x105_16, x105_17, x105_18, x105_19, x105_20, x105_21, x105_24, x105_27, in105, reduceIte, Nat.reduceLT, nW_ap, nW_up, nI_add, pk_mul, nI_ltI, nI_eq, if_true, if_false, kont_r, kont_v, Nat.reduceAdd, Nat.reduceMul, Nat.not_lt, not_true_eq_false, not_false_eq_true, Nat.one_ne_zero, Nat.reduceEqDiff, Nat.lt_irrefl, reduceCtorEq, nI_or0, nI_or1, Nat.add_zero, Nat.zero_add]
  rfl
theorem t106 {X : XS} {N : GV} {R : GR} {L : GL} {Z : Nat × Nat × Bool} (hR : Rok R) {j : Nat} (hj : j < 16) (hw : N 22 0 (93 + 3 * j + 2) ≤ if j % 2 = 0 then 6 else 2) : exec X 106 [vR 7 0, vI (nI j)] (gg (nW N) R L Z) = some (.inl (some (vI (nI ((if j % 2 = 0 then 6 else 2) - N 22 0 (93 + 3 * j + 2))))), (gg (nW N) R L Z)) := by
  have h2 : ¬ nI 2 = 0 := by decide
  by_cases q : j % 2 = 0
  · rw [if_pos q] at hw
    simp (disch := first | assumption | omega | exact nI_or0 | exact nI_or1) only [x106_0, x106_1, x106_2, x106_3, x106_6, x106_8, x106_11, x106_12, x106_13, x106_14, x106_15, x106_18, x106_19, in106, reduceIte, Nat.reduceLT, nW_ap, nW_up, nI_add, pk_mul, nI_ltI, nI_eq, if_true, if_false, kont_r, kont_v, Nat.reduceAdd, Nat.reduceMul, Nat.not_lt, not_true_eq_false, not_false_eq_true, Nat.one_ne_zero, Nat.reduceEqDiff, Nat.lt_irrefl, reduceCtorEq, nI_or0, nI_or1, t99, q, pk_rem, pk_sub]
  · rw [if_neg q] at hw
    simp (disch := first | assumption | omega | exact nI_or0 | exact nI_or1) only [x106_0, x106_1, x106_2, x106_3, x106_6, x106_8, x106_11, x106_12, x106_13, x106_14, x106_15, x106_18, x106_19, in106, reduceIte, Nat.reduceLT, nW_ap, nW_up, nI_add, pk_mul, nI_ltI, nI_eq, if_true, if_false, kont_r, kont_v, Nat.reduceAdd, Nat.reduceMul, Nat.not_lt, not_true_eq_false, not_false_eq_true, Nat.one_ne_zero, Nat.reduceEqDiff, Nat.lt_irrefl, reduceCtorEq, nI_or0, nI_or1, t99, q, pk_rem, pk_sub]
theorem l107 {X : XS} {N : GV} {R : GR} {L : GL} {Z : Nat × Nat × Bool} (hR : Rok R) {p : Nat → Nat} (hp : p = fun k => N 22 0 (93 + 3 * k)) {r : Option RS} (hr : ex X 107 25 [vR 7 0, vI (nI (sumN 16 p)), vI (nI 16)] [] (gg (nW N) R L Z) = r) : ∀ k, k ≤ 16 → ex X 107 4 [vR 7 0, vI (nI (sumN k p)), vI (nI k)] [] (gg (nW N) R L Z) = r := by
  refine down _ ?_ ?_
  · rw [x107_4]
    simp (disch := first | assumption | omega | exact nI_or0 | exact nI_or1) only [x107_5, x107_7, x107_10, x107_11, x107_12, x107_13, x107_14, x107_17, x107_18, x107_19, x107_22, reduceIte, Nat.reduceLT, nW_ap, nW_up, nI_add, pk_mul, nI_ltI, nI_eq, if_true, if_false, kont_r, kont_v, Nat.reduceAdd, Nat.reduceMul, Nat.not_lt, not_true_eq_false, not_false_eq_true, Nat.one_ne_zero, Nat.reduceEqDiff, Nat.lt_irrefl, reduceCtorEq, nI_or0, nI_or1]
    exact hr
  · intro k hk ih
    rw [x107_4]
    simp only [sumN] at ih
    rw [show p k = N 22 0 (93 + 3 * k) from by rw [hp]] at ih
    simp (disch := first | assumption | omega | exact nI_or0 | exact nI_or1) only [x107_5, x107_7, x107_10, x107_11, x107_12, x107_13, x107_14, x107_17, x107_18, x107_19, x107_22, reduceIte, Nat.reduceLT, nW_ap, nW_up, nI_add, pk_mul, nI_ltI, nI_eq, if_true, if_false, kont_r, kont_v, Nat.reduceAdd, Nat.reduceMul, Nat.not_lt, not_true_eq_false, not_false_eq_true, Nat.one_ne_zero, Nat.reduceEqDiff, Nat.lt_irrefl, reduceCtorEq, nI_or0, nI_or1, hk, t99, Nat.add_zero]
    exact ih
theorem t107 {X : XS} {N : GV} {R : GR} {L : GL} {Z : Nat × Nat × Bool} (hR : Rok R) : exec X 107 [vR 7 0] (gg (nW N) R L Z) = some (.inl (some (vI (nI (sumN 16 fun k => N 22 0 (93 + 3 * k))))), (gg (nW N) R L Z)) := by
  simp (disch := first | assumption | omega | exact nI_or0 | exact nI_or1) only [in107, x107_0, x107_1, x107_2, x107_3]
  exact l107 hR rfl (by rw [x107_25]; exact x107_26) 0 (Nat.zero_le _)
