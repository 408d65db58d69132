/-! the class begins a day -/
theorem RX.o {P : Nat} {N N' V : GV} (h : RX N P V) (e : ∀ k i s, ¬ (k = 2 ∧ s = 5) → ¬ (k = 5 ∧ s < 7) → ¬ (k = 0 ∧ s = 11) → k < 7 → N' k i s = N k i s) (hB : ∀ b, b < 128 → N' 2 b 5 < 2 ^ 28) : RX N' P V := by
  obtain ⟨hF, hJ, hC, hI, hI2, hS⟩ := h
  refine ⟨fun q hq => ?_, fun j hj => ?_, ?_, hI, hI2, ?_⟩
  · have f := hF q hq
    unfold RF at f ⊢
    rw [e 0 _ 2 (by omega) (by omega) (by omega) (by omega), e 0 _ 3 (by omega) (by omega) (by omega) (by omega), e 0 _ 4 (by omega) (by omega) (by omega) (by omega), e 0 _ 5 (by omega) (by omega) (by omega) (by omega), e 0 _ 6 (by omega) (by omega) (by omega) (by omega), e 0 _ 7 (by omega) (by omega) (by omega) (by omega), e 0 _ 8 (by omega) (by omega) (by omega) (by omega), e 0 _ 9 (by omega) (by omega) (by omega) (by omega), e 0 _ 10 (by omega) (by omega) (by omega) (by omega)]
    exact f
  · have f := hJ j hj
    unfold RJ at f ⊢
    rw [e 2 _ 2 (by omega) (by omega) (by omega) (by omega), e 2 _ 3 (by omega) (by omega) (by omega) (by omega), e 2 _ 4 (by omega) (by omega) (by omega) (by omega)]
    exact f
  · unfold RC at hC ⊢
    rw [e 5 _ 7 (by omega) (by omega) (by omega) (by omega), e 5 _ 8 (by omega) (by omega) (by omega) (by omega), e 5 _ 9 (by omega) (by omega) (by omega) (by omega), e 5 _ 10 (by omega) (by omega) (by omega) (by omega), e 5 _ 11 (by omega) (by omega) (by omega) (by omega)]
    exact hC
  · refine ⟨fun f hf => ?_, fun b hb => ?_⟩
    · rw [e 0 _ 2 (by omega) (by omega) (by omega) (by omega), e 0 _ 3 (by omega) (by omega) (by omega) (by omega), e 0 _ 4 (by omega) (by omega) (by omega) (by omega)]
      exact hS.1 f hf
    · rw [e 2 _ 0 (by omega) (by omega) (by omega) (by omega), e 2 _ 1 (by omega) (by omega) (by omega) (by omega), e 2 _ 2 (by omega) (by omega) (by omega) (by omega)]
      exact ⟨(hS.2 b hb).1, (hS.2 b hb).2.1, (hS.2 b hb).2.2.1, hB b hb⟩
def frzC (c : Bool) (k : Nat) (V : GV) : GV := if c = true then itN frzN k V else V
theorem DI.fzc {K : Nat} {V : GV} {c : Bool} (h : DI K V) {k : Nat} (hk : k ≤ 8) : DI K (frzC c k V) := by
  unfold frzC
  split
  · exact h.fzs k hk
  · exact h
theorem Fr.fzc {V : GV} {c : Bool} {k : Nat} (hk : k ≤ 8) : Fr V (frzC c k V) := by
  unfold frzC
  split
  · exact Fr.rf.fzs k hk
  · exact Fr.rf
/-- a burst of the class -/
def buC (N : GV) (P p d : Nat) : GV := up3 (jrN N (16 * P + 2 * p) d) 0 (8 * P + p) 10 (N 0 (8 * P + p) 10 + 1)
theorem s40 {K P p : Nat} {N V : GV} {c : Bool} (hP : P < 8) (hp : p < 8) (hD : DI K V) (h : RX N P (frzC c p V)) (hd : N 5 P 0 = V 22 0 5) : (cbN N c (8 * P + p) = 4 → RX (buC N P p (N 5 P 0)) P (frzC c (p + 1) V)) ∧ (¬ cbN N c (8 * P + p) = 4 → RX N P (frzC c (p + 1) V)) := by
  have hDk := hD.fzc (c := c) (k := p) (by omega)
  have hF : Fr V (frzC c p V) := Fr.fzc (by omega)
  have e5 : (frzC c p V) 22 0 5 = N 5 P 0 := by rw [hF _ _ _ (by omega) (by decide) (by decide) (by decide), hd]
  have ecb := h.cb (c := c) hDk hp
  rw [ecb]
  have b := hDk.fo hp
  unfold cloB
  unfold frzC at *
  cases c with
  | false =>
    refine ⟨fun q => ?_, fun _ => h⟩
    exfalso
    simp only [Bool.false_eq_true, false_and, if_false] at q
    split at q
    · omega
    · split at q
      · omega
      · split at q
        · omega
        · split at q <;> omega
  | true =>
    simp only [if_true, true_and] at *
    rw [itN_s]
    generalize itN frzN p V = W at *
    refine ⟨fun q => ?_, fun q => ?_⟩
    · have q1 : W 22 0 (13 + 10 * p + 6) = 1 ∧ W 22 0 (13 + 10 * p + 3) + W 22 0 (13 + 10 * p + 4) + W 22 0 (13 + 10 * p + 5) = 0 := by
        split at q
        · omega
        · split at q
          · omega
          · split at q
            · omega
            · split at q
              · omega
              · split at q <;> omega
      rw [frzN_p q1.1 q1.2]
      exact RX.fz hDk h hP hp q1.1 e5
    · have q1 : ¬ (W 22 0 (13 + 10 * p + 6) = 1 ∧ W 22 0 (13 + 10 * p + 3) + W 22 0 (13 + 10 * p + 4) + W 22 0 (13 + 10 * p + 5) = 0) := fun e => q (by
        rw [if_neg (by omega), if_neg (by omega), if_neg (by omega), if_pos (by omega)])
      unfold frzN
      rw [if_neg q1]
      exact h
theorem t40 {X : XS} {N : GV} {R : GR} {L : GL} {Z : Nat × Nat × Bool} (hR : Rok R) {K P : Nat} {V : GV} {c : Bool} (hP : P < 8) (hD : DI K V) (h : RX N P V) (hd : N 5 P 0 = V 22 0 5) : ∃ N', exec X 40 [vR 5 P, vI (nI (bN c))] (gg (nW N) R L Z) = some (.inl none, (gg (nW (N')) R L Z)) ∧ RX N' P (frzC c 8 V) ∧ FrC P N N' ∧ ∀ p, p < 8 → N' 0 (8 * P + p) 11 = 4 * N' 0 (8 * P + p) 5 := by
  have key : ∀ k, k ≤ 8 → ∀ (M : GV) (l3 : AV), RX M P (frzC c k V) → FrC P N M → (∀ p, p < k → M 0 (8 * P + p) 11 = 4 * M 0 (8 * P + p) 5) → ∃ N', ex X 40 2 [vR 5 P, vI (nI (bN c)), vI (nI k), l3] [] (gg (nW (M)) R L Z) = some (.inl none, (gg (nW (N')) R L Z)) ∧ RX N' P (frzC c 8 V) ∧ FrC P N N' ∧ ∀ p, p < 8 → N' 0 (8 * P + p) 11 = 4 * N' 0 (8 * P + p) 5 := by
    refine down _ ?_ ?_
    · intro M l3 hX hF hl
      refine ⟨M, ?_, hX, hF, hl⟩
      rw [x40_2]
      simp (disch := first | assumption | omega | exact nI_or0 | exact nI_or1 | exact bN_or _) only [x40_3, x40_5, x40_8, x40_9, x40_12, x40_13, x40_14, x40_15, x40_16, x40_17, x40_18, x40_21, x40_22, x40_25, x40_26, x40_27, x40_30, x40_31, x40_34, x40_35, x40_38, x40_39, x40_42, x40_45, x40_46, x40_47, x40_50, x40_51, x40_52, x40_55, x40_58, x40_61, reduceIte, Nat.reduceLT, nW_ap, nW_up, nI_add, pk_mul, nI_ltI, nI_eq, if_true, if_false, kont_r, kont_v, Nat.reduceAdd, Nat.reduceMul, Nat.not_lt, not_true_eq_false, not_false_eq_true, Nat.one_ne_zero, Nat.reduceEqDiff, Nat.lt_irrefl, reduceCtorEq, nI_or0, nI_or1]
    · intro k hk ih M l3 hX hF hl
      have hf : 8 * P + k < 64 := by omega
      have e5 : ∀ {M : GV}, FrC P N M → M 5 P 0 = N 5 P 0 := fun q => q _ _ _ (by omega) (by omega) (by omega)
      generalize hM1 : up3 M 0 (8 * P + k) 11 (4 * M 0 (8 * P + k) 5) = M1
      have o1 : ∀ k' i s, ¬ (k' = 0 ∧ s = 11) → M1 k' i s = M k' i s := fun k' i s q => by rw [← hM1]; exact u_ne fun e => q ⟨e.1, e.2.2⟩
      have hX1 : RX M1 P (frzC c k V) := hX.o (fun k' i s _ _ q _ => o1 k' i s q) fun b hb => by rw [o1 _ _ _ (by omega)]; exact (hX.2.2.2.2.2.2 b hb).2.2.2
      have hF1 : FrC P N M1 := by rw [← hM1]; exact hF.up (by omega)
      have hl1 : ∀ p, p < k + 1 → M1 0 (8 * P + p) 11 = 4 * M1 0 (8 * P + p) 5 := fun p hp => by
        rw [o1 0 _ 5 (by omega), ← hM1]
        by_cases e : p = k
        · subst e; rw [up3_self]
        · rw [u_ne (by omega)]; exact hl p (by omega)
      have st := s40 hP hk hD hX1 (by rw [e5 hF1, hd])
      have s1 := t4 (X := X) (N := M1) (L := L) (Z := Z) (f := 8 * P + k) (c := c) hR hf (hX1.2.2.2.2.2.fb hf)
      have hlt := cb_lt (N := M1) (c := c) (f := 8 * P + k)
      have i1 : 2 * (8 * P + k) = 16 * P + 2 * k := by omega
      have s2 := t14 (X := X) (N := M1) (L := L) (Z := Z) (b := 16 * P + 2 * k) (d := M1 5 P 0) hR (by omega)
      by_cases q : cbN M1 c (8 * P + k) = 4
      · have hX2 := st.1 q
        have hl2 : ∀ p, p < k + 1 → (buC M1 P k (M1 5 P 0)) 0 (8 * P + p) 11 = 4 * (buC M1 P k (M1 5 P 0)) 0 (8 * P + p) 5 := fun p hp => by
          unfold buC jrN
          simp (disch := omega) only [u_ne, u_eq]
          exact hl1 p hp
        obtain ⟨N', a, b⟩ := ih _ (vR 0 (8 * P + k)) hX2 (by unfold buC; exact (hF1.jr (by omega)).up (by omega)) hl2
        refine ⟨N', ?_, b⟩
        rw [← a, x40_2]
        unfold buC
        have e10 : (jrN M1 (16 * P + 2 * k) (M1 5 P 0)) 0 (8 * P + k) 10 = M1 0 (8 * P + k) 10 := by
          unfold jrN
          simp (disch := omega) only [u_ne]
        simp (disch := first | assumption | omega | exact nI_or0 | exact nI_or1 | exact bN_or _) only [x40_3, x40_5, x40_8, x40_9, x40_12, x40_13, x40_14, x40_15, x40_16, x40_17, x40_18, x40_21, x40_22, x40_25, x40_26, x40_27, x40_30, x40_31, x40_34, x40_35, x40_38, x40_39, x40_42, x40_45, x40_46, x40_47, x40_50, x40_51, x40_52, x40_55, x40_58, reduceIte, Nat.reduceLT, nW_ap, nW_up, nI_add, pk_mul, nI_ltI, nI_eq, if_true, if_false, kont_r, kont_v, Nat.reduceAdd, Nat.reduceMul, Nat.not_lt, not_true_eq_false, not_false_eq_true, Nat.one_ne_zero, Nat.reduceEqDiff, Nat.lt_irrefl, reduceCtorEq, nI_or0, nI_or1, hk, hM1, s1, q, i1, s2, e10]
      · have hX2 := st.2 q
        obtain ⟨N', a, b⟩ := ih _ (vR 0 (8 * P + k)) hX2 hF1 hl1
        refine ⟨N', ?_, b⟩
        rw [← a, x40_2]
        simp (disch := first | assumption | omega | exact nI_or0 | exact nI_or1 | exact bN_or _) only [x40_3, x40_5, x40_8, x40_9, x40_12, x40_13, x40_14, x40_15, x40_16, x40_17, x40_18, x40_21, x40_22, x40_25, x40_26, x40_27, x40_30, x40_31, x40_34, x40_35, x40_38, x40_39, x40_42, x40_45, x40_46, x40_47, x40_50, x40_51, x40_52, x40_55, x40_58, reduceIte, Nat.reduceLT, nW_ap, nW_up, nI_add, pk_mul, nI_ltI, nI_eq, if_true, if_false, kont_r, kont_v, Nat.reduceAdd, Nat.reduceMul, Nat.not_lt, not_true_eq_false, not_false_eq_true, Nat.one_ne_zero, Nat.reduceEqDiff, Nat.lt_irrefl, reduceCtorEq, nI_or0, nI_or1, hk, hM1, s1, q]
  obtain ⟨N', a, b⟩ := key 0 (Nat.zero_le _) N vU (by unfold frzC; split <;> exact h) FrC.rf fun p hp => by omega
  refine ⟨N', ?_, b⟩
  simp (disch := first | assumption | omega | exact nI_or0 | exact nI_or1 | exact bN_or _) only [in40, x40_0, x40_1, reduceIte, Nat.reduceLT, nW_ap, nW_up, nI_add, pk_mul, nI_ltI, nI_eq, if_true, if_false, kont_r, kont_v, Nat.reduceAdd, Nat.reduceMul, Nat.not_lt, not_true_eq_false, not_false_eq_true, Nat.one_ne_zero, Nat.reduceEqDiff, Nat.lt_irrefl, reduceCtorEq, nI_or0, nI_or1]
  exact a
