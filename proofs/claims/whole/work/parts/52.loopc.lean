/-! the class works on all jobs, as the reference does -/
theorem l41 {X : XS} {R : GR} {L : GL} {Z : Nat × Nat × Bool} (hR : Rok R) {K P o : Nat} {N0 : GV} {c : Bool} {q : List Nat} (hP : P < 8) (hK : K ≤ 1058) (hq : QU R P q) (hq16 : q.length ≤ 16) : ∀ (rest done : List Nat) (N V : GV) (left n : Nat) (l4 l5 : AV), done ++ rest = q → rest.length ≤ n → DI K V → RX N P V → N 18 P 4 = V 22 0 4 → V 22 0 1 = o → left < 2 ^ 28 → N 5 P 6 = q.length → (∀ i, N 2 i 3 = N0 2 i 3) → (rest.Pairwise fun a b => rkC N0 o a < rkC N0 o b) → (∀ a, a ∈ rest ↔ ∃ j, j < 16 ∧ a = 16 * P + j ∧ V 22 0 (93 + 3 * j) = 1 ∧ V 27 0 j = 0) → ∃ N', ex X 41 13 [vR 5 P, vI (nI (bN c)), vI (nI left), vI (nI done.length), l4, l5] [] (gg (nW N) R L Z) = some (.inl none, (gg (nW (N')) R L Z)) ∧ RX N' P (wrkN c n V left) ∧ FrC P N N' ∧ ∀ i s, s = 5 ∨ s = 11 → N' 0 i s = N 0 i s := by
  intro rest
  induction rest with
  | nil =>
    intro done N V left n l4 l5 hdq hn hD hX h4 ho hl h56 h3 hpw hm
    have hdl : done.length = q.length := by rw [← hdq, List.append_nil]
    have hno : nxtJ (V 22 0) (V 27 0) 16 = none := by
      cases e : nxtJ (V 22 0) (V 27 0) 16 with
      | none => rfl
      | some j =>
        have a := nxtJ_1 e
        have := (hm (16 * P + j)).2 ⟨j, nxtJ_lt e, rfl, a.1, a.2⟩
        cases this
    have hw : wrkN c n V left = V := by
      cases n with
      | zero => rfl
      | succ n => simp only [wrkN, hno]
    refine ⟨N, ?_, by rw [hw]; exact hX, FrC.rf, fun _ _ _ => rfl⟩
    rw [hdl, x41_13]
    simp (disch := first | assumption | omega | exact nI_or0 | exact nI_or1 | exact bN_or _) only [x41_14, x41_15, x41_18, x41_110, reduceIte, Nat.reduceLT, nW_ap, nW_up, nI_add, pk_mul, nI_ltI, nI_eq, if_true, if_false, kont_r, kont_v, Nat.reduceAdd, Nat.reduceMul, Nat.not_lt, not_true_eq_false, not_false_eq_true, Nat.one_ne_zero, Nat.reduceEqDiff, Nat.lt_irrefl, reduceCtorEq, nI_or0, nI_or1, h56]
  | cons a bs ih =>
    intro done N V left n l4 l5 hdq hn hD hX h4 ho hl h56 h3 hpw hm
    rw [List.pairwise_cons] at hpw
    obtain ⟨hp1, hp2⟩ := hpw
    obtain ⟨j, hj, ea, hjo, hjd⟩ := (hm a).1 List.mem_cons_self
    subst ea
    have hlen : done.length < q.length := by rw [← hdq, List.length_append, List.length_cons]; omega
    have hR19 : R 19 P done.length = some (16 * P + j) := by
      rw [hq _ hlen, ← hdq, gD_r (Nat.le_refl _), Nat.sub_self]; rfl
    have hrep : ∀ i, i < 16 → V 22 0 (93 + 3 * i) = 1 → V 22 0 (93 + 3 * i + 1) = N0 2 (16 * P + i) 3 := fun i hi h1 => by
      rw [← h3, ((hX.2.1 i hi).2 h1).1]
    have hmin : nxtJ (V 22 0) (V 27 0) 16 = some j := by
      refine nxtJ_min hjo hjd 16 hj fun i hi hne h1 h2 => ?_
      have hmem : 16 * P + i ∈ bs := by
        rcases List.mem_cons.1 ((hm (16 * P + i)).2 ⟨i, hi, rfl, h1, h2⟩) with e | e
        · omega
        · exact e
      have hlt := hp1 _ hmem
      have b1 := (hD.jo hi).2.1
      have b2 := (hD.jo hj).2.1
      rw [ahd_rk (N := N0) (P := P) hj hi (fun e => hne e.symm) ho (hrep j hj hjo) (hrep i hi h1) (by omega) (by omega), ahd_rk (N := N0) (P := P) hi hj hne ho (hrep i hi h1) (hrep j hj hjo) (by omega) (by omega)]
      exact ⟨decide_eq_true hlt, decide_eq_false (by omega)⟩
    obtain ⟨m, hm'⟩ : ∃ m, n = m + 1 := ⟨n - 1, by rw [List.length_cons] at hn; omega⟩
    subst hm'
    have ew : wrkN c (m + 1) V left = wrkN c m (wrk1 c V left j) (left - wrkH c V left j) := by simp only [wrkN, hmin]
    rw [ew]
    obtain ⟨N1, l4', l5', s1, x1, f1, e56, e3, e0⟩ := a41 (X := X) (N := N) (L := L) (Z := Z) (left := left) (m := done.length) (c := c) (l4 := l4) (l5 := l5) hR hP hj hD hX h4 hjo hl (by omega) (by omega) hR19
    have hD1 : DI K (wrk1 c V left j) := hD.wr hj
    have o4 : (wrk1 c V left j) 22 0 4 = V 22 0 4 := wrk1_o hj (by omega)
    have o1 : (wrk1 c V left j) 22 0 1 = V 22 0 1 := wrk1_o hj (by omega)
    obtain ⟨N', a1, a2, a3, a4⟩ := ih (done ++ [16 * P + j]) N1 (wrk1 c V left j) (left - wrkH c V left j) m l4' l5' (by rw [List.append_assoc]; exact hdq) (by rw [List.length_cons] at hn; omega) hD1 x1 (by rw [o4, f1 _ _ _ (by omega) (by omega) (by omega), h4]) (by rw [o1, ho]) (by omega) (by rw [e56, h56]) (fun i => by rw [e3, h3]) hp2 (by
      intro b
      constructor
      · intro hb
        obtain ⟨i, hi, e, g1, g2⟩ := (hm b).1 (List.mem_cons_of_mem _ hb)
        have hne : ¬ i = j := fun x => by
          subst x
          rw [e] at hb
          have := hp1 _ hb
          omega
        refine ⟨i, hi, e, ?_, ?_⟩
        · rw [wrk1_o hj (by omega)]; exact g1
        · rw [wrk1_D, if_neg hne]; exact g2
      · rintro ⟨i, hi, e, g1, g2⟩
        rw [wrk1_D] at g2
        by_cases hne : i = j
        · rw [if_pos hne] at g2; omega
        · rw [if_neg hne] at g2
          rw [wrk1_o hj (by omega)] at g1
          rcases List.mem_cons.1 ((hm b).2 ⟨i, hi, e, g1, g2⟩) with x | x
          · omega
          · exact x)
    refine ⟨N', ?_, a2, f1.tr a3, fun i s hs => (a4 i s hs).trans (e0 i s hs)⟩
    rw [s1]
    have el : (done ++ [16 * P + j]).length = done.length + 1 := by rw [List.length_append]; rfl
    rw [el] at a1
    exact a1
theorem QI_len {N0 N : GV} {R0 R : GR} {P o j : Nat} {q : List Nat} (h : QI N0 R0 P o j N R q) : q.length ≤ j := h.2.2.2.2.2.2.2.2.2
theorem t41 {X : XS} {N : GV} {R : GR} {L : GL} {Z : Nat × Nat × Bool} (hR : Rok R) {K P : Nat} {V : GV} {c : Bool} (hP : P < 8) (hK : K ≤ 1058) (hD : DI K V) (hX : RX N P V) (hs : ∀ k, k < 5 → N 18 P k = V 22 0 k) (h3 : ∀ b, b < 128 → N 2 b 2 = 1 → N 2 b 3 < 2 ^ 20) : ∃ N' R', exec X 41 [vR 5 P, vI (nI (bN c))] (gg (nW N) R L Z) = some (.inl none, gg (nW N') R' L Z) ∧ RX N' P (works c V) ∧ FrC P N N' ∧ Rok R' ∧ (∀ k i s, ¬ (k = 19 ∧ i = P) → R' k i s = R k i s) ∧ ∀ i s, s = 5 ∨ s = 11 → N' 0 i s = N 0 i s := by
  have h1 := hD.h1
  have h0 := hD.h0
  have hs1 := hs 1 (by omega)
  obtain ⟨N1, R1, q, s1, hQ⟩ := t37 (X := X) (N := N) (L := L) (Z := Z) hR hP hX.2.2.2.2.2 (by rw [hs1]; exact h1) h3
  obtain ⟨q1, q2, q3, q4, q5, q6, q7, q8, q9, q10⟩ := hQ
  have hX1 : RX N1 P V := hX.o (fun k i s a b c d => q1 k i s (by omega)) q9
  have hXo : RX N1 P (opnN V) := hX1.e (by rw [opn_22])
  have hDo : DI K (opnN V) := hD.ex opn_22
  have e18 : ∀ k, N1 18 P k = N 18 P k := fun k => q1 _ _ _ (by omega)
  obtain ⟨N', a1, a2, a3, a4⟩ := l41 (X := X) (R := R1) (L := L) (Z := Z) (N0 := N) (o := N 18 P 1) (c := c) (q := q) q4 hP hK q3 q10 q [] N1 (opnN V) (V 22 0 0) 16 vU vU rfl q10 hDo hXo (by rw [e18, hs 4 (by omega), opn_22]) (by rw [opn_22, hs1]) (by omega) q2 (fun i => q1 _ _ _ (by omega)) q6 (by
    intro a
    rw [q7, opn_22]
    constructor
    · rintro ⟨i, hi, e, g⟩
      exact ⟨i, hi, e, by rw [← (hX.2.1 i hi).1]; exact g, opn_0 (by omega)⟩
    · rintro ⟨i, hi, e, g, _⟩
      exact ⟨i, hi, e, by rw [(hX.2.1 i hi).1]; exact g⟩)
  refine ⟨N', R1, ?_, a2, ?_, q4, q5, fun i s hs => (a4 i s hs).trans (q1 _ _ _ (by omega))⟩
  · have hs0 := hs 0 (by omega)
    have a1' : ex X 41 13 [vR 5 P, vI (nI (bN c)), vI (nI (V 22 0 0)), vI (nI 0), vU, vU] [] (gg (nW N1) R1 L Z) = _ := a1
    have e0 : N1 18 P 0 = V 22 0 0 := by rw [e18, hs0]
    simp (disch := first | assumption | omega | exact nI_or0 | exact nI_or1 | exact bN_or _) only [in41, x41_0, x41_1, x41_4, x41_5, x41_8, x41_9, x41_10, x41_11, x41_12, reduceIte, Nat.reduceLT, nW_ap, nW_up, nI_add, pk_mul, nI_ltI, nI_eq, if_true, if_false, kont_r, kont_v, Nat.reduceAdd, Nat.reduceMul, Nat.not_lt, not_true_eq_false, not_false_eq_true, Nat.one_ne_zero, Nat.reduceEqDiff, Nat.lt_irrefl, reduceCtorEq, nI_or0, nI_or1, s1, e0]
    exact a1'
  · intro k i s a b c'
    rw [a3 k i s a b c']
    exact q1 _ _ _ (by omega)
