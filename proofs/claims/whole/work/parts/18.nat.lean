/-! WORLDS OF NATURALS: every int is nI of a natural -/
abbrev GV : Type := Nat → Nat → Nat → Nat
def nW (N : GV) : GI := fun k i s => nI (N k i s)
theorem nW_ap (N : GV) (k i s : Nat) : nW N k i s = nI (N k i s) := rfl
theorem nW_up (N : GV) (k i s v : Nat) : up3 (nW N) k i s (nI v) = nW (up3 N k i s v) := by
  funext k' i' s'
  show (if k' = k ∧ i' = i ∧ s' = s then nI v else nI (N k' i' s')) = nI (if k' = k ∧ i' = i ∧ s' = s then v else N k' i' s')
  split <;> rfl
theorem nI_sur (x : Int32) : ∃ n, x = nI n := ⟨x.toBitVec.toNat, by
  apply Int32.toBitVec_inj.mp
  apply BitVec.eq_of_toNat_eq
  exact (Nat.mod_eq_of_lt x.toBitVec.isLt).symm⟩
theorem nW_sur (I : GI) : ∃ N, I = nW N := ⟨fun k i s => (nI_sur (I k i s)).choose, by
  funext k i s
  exact (nI_sur (I k i s)).choose_spec⟩
theorem up3_self {α : Type} (f : Nat → Nat → Nat → α) (k i s : Nat) (v : α) : up3 f k i s v k i s = v := if_pos ⟨rfl, rfl, rfl⟩
theorem up3_k {α : Type} (f : Nat → Nat → Nat → α) {k i s : Nat} (v : α) {k' i' s' : Nat} (h : ¬ k' = k) : up3 f k i s v k' i' s' = f k' i' s' := if_neg fun q => h q.1
theorem up3_i {α : Type} (f : Nat → Nat → Nat → α) {k i s : Nat} (v : α) {k' i' s' : Nat} (h : ¬ i' = i) : up3 f k i s v k' i' s' = f k' i' s' := if_neg fun q => h q.2.1
theorem up3_s {α : Type} (f : Nat → Nat → Nat → α) {k i s : Nat} (v : α) {k' i' s' : Nat} (h : ¬ s' = s) : up3 f k i s v k' i' s' = f k' i' s' := if_neg fun q => h q.2.2
theorem up3_id {α : Type} (f : Nat → Nat → Nat → α) (k i s : Nat) : up3 f k i s (f k i s) = f := by
  funext k' i' s'
  unfold up3
  split
  · rename_i h; obtain ⟨rfl, rfl, rfl⟩ := h; rfl
  · rfl
theorem bI_nI (c : Bool) : bI c = nI (if c then 1 else 0) := by cases c <;> rfl
/-! the reference's leaves -/
theorem t91 {X : XS} {I : GI} {R : GR} {L : GL} {Z : Nat × Nat × Bool} {v a b : Int32} : exec X 91 [vI v, vI a, vI b] (gg I R L Z) = some (.inl (some (vI (bI (decide (¬ v < a) && decide (¬ b < v))))), gg I R L Z) := by
  by_cases h1 : v < a <;> by_cases h2 : b < v <;>
    simp (disch := first | assumption | decide) only [x91_0, x91_1, x91_2, x91_5, x91_6, x91_7, x91_10, x91_11, x91_14, x91_15, in91, h1, h2, if_true, if_false, bI, nI_or0, nI_or1, not_true_eq_false, not_false_eq_true, decide_true, decide_false, Bool.and_true, Bool.and_false, Bool.true_and, Bool.false_and, Bool.false_eq_true]
theorem t92 {X : XS} {I : GI} {R : GR} {L : GL} {Z : Nat × Nat × Bool} {c : Int32} : exec X 92 [vR 7 0, vI c] (gg I R L Z) = some (.inl (some (vI (nI 0))), gg (up3 I 7 0 0 c) R L Z) := by
  simp (disch := first | assumption | decide) only [x92_0, x92_1, x92_2, x92_5, x92_6, in92]
theorem t93 {X : XS} {I : GI} {R : GR} {L : GL} {Z : Nat × Nat × Bool} {v : Int32} : exec X 93 [vI v] (gg I R L Z) = some (.inl (some (vI (bI (decide (¬ v < nI 0) && decide (¬ nI 7 < v))))), gg I R L Z) := by
  have h := bI_or (decide (¬ v < nI 0) && decide (¬ nI 7 < v))
  simp (disch := first | assumption | decide) only [x93_0, x93_1, x93_2, x93_4, x93_7, in93, t91, kont_r, Nat.reduceAdd]
theorem t97 {X : XS} {N : GV} {R : GR} {L : GL} {Z : Nat × Nat × Bool} (hR : Rok R) {p w : Nat} (h : 13 + 10 * p + w < 204) : exec X 97 [vR 7 0, vI (nI p), vI (nI w)] (gg (nW N) R L Z) = some (.inl (some (vI (nI (N 22 0 (13 + 10 * p + w))))), gg (nW N) R L Z) := by
  simp (disch := first | assumption | decide) only [x97_0, x97_1, x97_4, x97_6, x97_8, x97_9, x97_10, x97_11, x97_12, x97_13, x97_14, in97, nI_add, pk_mul, nW_ap]
theorem t98 {X : XS} {N : GV} {R : GR} {L : GL} {Z : Nat × Nat × Bool} (hR : Rok R) {p w v : Nat} (h : 13 + 10 * p + w < 204) : exec X 98 [vR 7 0, vI (nI p), vI (nI w), vI (nI v)] (gg (nW N) R L Z) = some (.inl none, gg (nW (up3 N 22 0 (13 + 10 * p + w) v)) R L Z) := by
  simp (disch := first | assumption | decide) only [x98_0, x98_1, x98_4, x98_6, x98_8, x98_9, x98_10, x98_11, x98_12, x98_13, x98_14, x98_15, in98, nI_add, pk_mul, nW_up]
