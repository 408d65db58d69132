/-! the class: the queue of a park's jobs -/
theorem dropW {q : List Nat} {f : Nat → Nat} {c : Nat} (h : q.Pairwise fun a b => f a < f b) : ∀ a, a ∈ q.dropWhile (fun a => decide (f a ≤ c)) → c < f a := by
  induction q with
  | nil => intro a ha; cases ha
  | cons e q ih =>
    intro a ha
    rw [List.dropWhile_cons] at ha
    rw [List.pairwise_cons] at h
    split at ha
    · exact ih h.2 a ha
    · next p =>
      have p : ¬ f e ≤ c := fun q => p (decide_eq_true q)
      rcases List.mem_cons.1 ha with e1 | e1
      · subst e1; omega
      · have := h.1 a e1; omega
theorem takeW {q : List Nat} {f : Nat → Nat} {c : Nat} : ∀ a, a ∈ q.takeWhile (fun a => decide (f a ≤ c)) → f a ≤ c ∧ a ∈ q := by
  induction q with
  | nil => intro a ha; cases ha
  | cons e q ih =>
    intro a ha
    rw [List.takeWhile_cons] at ha
    split at ha
    · next p =>
      rcases List.mem_cons.1 ha with e1 | e1
      · subst e1; exact ⟨of_decide_eq_true p, List.mem_cons_self⟩
      · have := ih a e1; exact ⟨this.1, List.mem_cons_of_mem _ this.2⟩
    · cases ha
/-- what holds while the queue is made, j jobs behind -/
def QI (N0 : GV) (R0 : GR) (P o j : Nat) (N : GV) (R : GR) (q : List Nat) : Prop :=
  (∀ k i s, ¬ ((k = 2 ∧ 16 * P ≤ i ∧ i < 16 * P + 16 ∧ s = 5) ∨ (k = 5 ∧ i = P ∧ s = 6)) → N k i s = N0 k i s) ∧
  N 5 P 6 = q.length ∧ QU R P q ∧ Rok R ∧ (∀ k i s, ¬ (k = 19 ∧ i = P) → R k i s = R0 k i s) ∧
  (q.Pairwise fun a b => rkC N0 o a < rkC N0 o b) ∧
  (∀ a, a ∈ q ↔ ∃ i, i < j ∧ a = 16 * P + i ∧ N0 2 (16 * P + i) 2 = 1) ∧
  (∀ a, a ∈ q → N 2 a 5 = rkC N0 o a) ∧ (∀ a, a < 128 → N 2 a 5 < 2 ^ 28) ∧ q.length ≤ j
theorem rkC_e {N M : GV} {o b : Nat} (h : M 2 b 3 = N 2 b 3) : rkC M o b = rkC N o b := by unfold rkC; rw [h]
theorem rkC_b {N : GV} {o b : Nat} (h : N 2 b 3 < 2 ^ 20) : rkC N o b < 2 ^ 28 := by unfold rkC; split <;> omega
theorem rkC_inj {N : GV} {o P i j : Nat} (hi : i < 16) (hj : j < 16) (h : rkC N o (16 * P + i) = rkC N o (16 * P + j)) : i = j := by
  unfold rkC at h
  generalize (if o < 2 ∧ ¬ (16 * P + i) % 2 = o then 1059 + N 2 (16 * P + i) 3 else N 2 (16 * P + i) 3) = x at h
  generalize (if o < 2 ∧ ¬ (16 * P + j) % 2 = o then 1059 + N 2 (16 * P + j) 3 else N 2 (16 * P + j) 3) = y at h
  omega
theorem s37 {X : XS} {N0 N : GV} {R0 R : GR} {L : GL} {Z : Nat × Nat × Bool} {P o p k : Nat} {q : List Nat} (hP : P < 8) (hp : p < 8) (hk : k < 2) (hS : SB N0) (ho : N0 18 P 1 = o) (ho2 : o ≤ 2) (hr : ∀ b, b < 128 → N0 2 b 2 = 1 → N0 2 b 3 < 2 ^ 20) (hQ : QI N0 R0 P o (2 * p + k) N R q) {l3 : AV} : ∃ N' R' q' l3', ex X 37 15 [vR 5 P, vI (nI p), vI (nI k), l3] [] (gg (nW N) R L Z) = ex X 37 15 [vR 5 P, vI (nI p), vI (nI (k + 1)), l3'] [] (gg (nW N') R' L Z) ∧ QI N0 R0 P o (2 * p + k + 1) N' R' q' := by
  obtain ⟨a1, a2, a3, hR, a5, a6, a7, a8, a9, a10⟩ := hQ
  have hb : 16 * P + (2 * p + k) < 128 := by omega
  have e2 : ∀ b, N 2 b 2 = N0 2 b 2 := fun b => a1 _ _ _ (by omega)
  have sb := hS.2 (16 * P + (2 * p + k)) hb
  have i1 : 2 * (8 * P + p) = 16 * P + 2 * p := by omega
  have i2 : 2 * (8 * P + p) + 1 = 16 * P + 2 * p + 1 := by omega
  by_cases q1 : N0 2 (16 * P + (2 * p + k)) 2 = 1
  · -- an open job
    generalize hbb : 16 * P + (2 * p + k) = b at hb sb q1
    have h3 := hr b hb q1
    have e21 : N 2 b 2 = 1 := by rw [e2, q1]
    have hnq : b ∉ q := fun h => by
      obtain ⟨i, hi, e, _⟩ := (a7 b).1 h
      omega
    have s16 := t16 (X := X) (N := N) (L := L) (Z := Z) (b := b) (o := o) hR hb ho2 (by rw [a1 _ _ _ (by omega)]; exact sb.2.1) (by rw [a1 _ _ _ (by omega)]; exact sb.1)
    have er : rkC N o b = rkC N0 o b := rkC_e (a1 _ _ _ (by omega))
    rw [er] at s16
    have hsp : q.takeWhile (fun a => decide (rkC N0 o a ≤ rkC N0 o b)) ++ q.dropWhile (fun a => decide (rkC N0 o a ≤ rkC N0 o b)) = q := List.takeWhile_append_dropWhile
    have hd := dropW (c := rkC N0 o b) a6
    have ht := takeW (q := q) (f := rkC N0 o) (c := rkC N0 o b)
    generalize q.takeWhile (fun a => decide (rkC N0 o a ≤ rkC N0 o b)) = l1 at hsp ht
    generalize q.dropWhile (fun a => decide (rkC N0 o a ≤ rkC N0 o b)) = l2 at hsp hd
    generalize hM : up3 N 2 b 5 (rkC N0 o b) = M at s16
    have m1 : ∀ k i s, ¬ (k = 2 ∧ i = b ∧ s = 5) → M k i s = N k i s := fun k i s h => by rw [← hM]; exact if_neg h
    have mb : M 2 b 5 = rkC N0 o b := by rw [← hM]; exact up3_self _ _ _ _ _
    have mq : ∀ a, a ∈ q → M 2 a 5 = rkC N0 o a := fun a ha => by
      rw [m1 _ _ _ fun e => hnq (by rw [← e.2.1]; exact ha)]
      exact a8 a ha
    have m56 : M 5 P 6 = q.length := by rw [m1 _ _ _ (by omega), a2]
    have hl2q : ∀ a, a ∈ l2 → a ∈ q := fun a ha => by rw [← hsp]; exact List.mem_append_right _ ha
    obtain ⟨R', s38, r1, r2, r3⟩ := t38 (X := X) (N := M) (R := R) (L := L) (Z := Z) (P := P) (b := b) (q1 := l1) (q2 := l2) hR hP hb (by rw [hsp]; exact a3) (by rw [hsp]; exact m56) (by rw [hsp]; omega) (fun a ha => by
        rw [hsp] at ha
        obtain ⟨i, hi, e, _⟩ := (a7 a).1 ha
        omega) (fun a ha => by
        by_cases e : a = b
        · subst e; rw [mb]; exact rkC_b h3
        · rw [m1 _ _ _ fun x => e x.2.1]; exact a9 a ha) (fun a ha => by rw [mb, mq a (ht a ha).2]; exact (ht a ha).1) (fun a ha => by rw [mb, mq a (hl2q a ha)]; exact hd a ha)
    refine ⟨up3 M 5 P 6 (M 5 P 6 + 1), R', l1 ++ b :: l2, vR 2 b, ?_, ?_⟩
    · have e18 : N 18 P 1 = o := by rw [a1 _ _ _ (by omega), ho]
      have e56 : N 5 P 6 < 16 := by omega
      rw [x37_15]
      rcases (show k = 0 ∨ k = 1 by omega) with e | e
      · subst e
        have hb0 : 16 * P + 2 * p = b := by omega
        simp (disch := first | assumption | omega | exact nI_or0 | exact nI_or1 | exact bN_or _) only [x37_16, x37_17, x37_20, x37_21, x37_24, x37_25, x37_28, x37_29, x37_30, x37_33, x37_36, x37_37, x37_40, x37_41, x37_42, x37_45, x37_46, x37_47, x37_50, x37_53, x37_54, x37_57, x37_58, x37_61, x37_62, x37_65, x37_66, x37_67, x37_70, x37_71, x37_72, x37_75, x37_76, x37_77, x37_80, x37_83, reduceIte, Nat.reduceLT, nW_ap, nW_up, nI_add, pk_mul, nI_ltI, nI_eq, if_true, if_false, kont_r, kont_v, Nat.reduceAdd, Nat.reduceMul, Nat.not_lt, not_true_eq_false, not_false_eq_true, Nat.one_ne_zero, Nat.reduceEqDiff, Nat.lt_irrefl, reduceCtorEq, nI_or0, nI_or1, hk, i1, hb0, e21, e56, e18, s16, s38]
      · subst e
        have hb0 : 16 * P + 2 * p + 1 = b := by omega
        simp (disch := first | assumption | omega | exact nI_or0 | exact nI_or1 | exact bN_or _) only [x37_16, x37_17, x37_20, x37_21, x37_24, x37_25, x37_28, x37_29, x37_30, x37_33, x37_36, x37_37, x37_40, x37_41, x37_42, x37_45, x37_46, x37_47, x37_50, x37_53, x37_54, x37_57, x37_58, x37_61, x37_62, x37_65, x37_66, x37_67, x37_70, x37_71, x37_72, x37_75, x37_76, x37_77, x37_80, x37_83, reduceIte, Nat.reduceLT, nW_ap, nW_up, nI_add, pk_mul, nI_ltI, nI_eq, if_true, if_false, kont_r, kont_v, Nat.reduceAdd, Nat.reduceMul, Nat.not_lt, not_true_eq_false, not_false_eq_true, Nat.one_ne_zero, Nat.reduceEqDiff, Nat.lt_irrefl, reduceCtorEq, nI_or0, nI_or1, hk, i2, hb0, e21, e56, e18, s16, s38]
    · have ml : ∀ a, a ∈ l1 ++ b :: l2 ↔ a ∈ q ∨ a = b := fun a => by
        rw [← hsp, List.mem_append, List.mem_append, List.mem_cons]
        constructor
        · rintro (h | h | h)
          · exact Or.inl (Or.inl h)
          · exact Or.inr h
          · exact Or.inl (Or.inr h)
        · rintro ((h | h) | h)
          · exact Or.inl h
          · exact Or.inr (Or.inr h)
          · exact Or.inr (Or.inl h)
      have hlen : (l1 ++ b :: l2).length = q.length + 1 := by rw [← hsp, List.length_append, List.length_append, List.length_cons]; omega
      have c5 : ∀ i, (up3 M 5 P 6 (M 5 P 6 + 1)) 2 i 5 = M 2 i 5 := fun i => up3_k _ _ (by decide)
      refine ⟨?_, ?_, r2, r1, ?_, ?_, ?_, ?_, ?_, ?_⟩
      · intro k' i s h
        rw [u_ne (by omega), m1 _ _ _ (by omega)]
        exact a1 _ _ _ h
      · rw [up3_self, m56, hlen]
      · intro k' i s h; rw [r3 k' i s h]; exact a5 _ _ _ h
      · rw [← hsp] at a6
        rw [List.pairwise_append] at a6 ⊢
        obtain ⟨p1, p2, p3⟩ := a6
        refine ⟨p1, ?_, ?_⟩
        · rw [List.pairwise_cons]
          exact ⟨fun a ha => hd a ha, p2⟩
        · intro x hx y hy
          rcases List.mem_cons.1 hy with e | e
          · subst e
            have h1 := ht x hx
            have : ¬ rkC N0 o x = rkC N0 o y := fun e => by
              obtain ⟨i, hi, e1, _⟩ := (a7 x).1 h1.2
              subst e1
              rw [← hbb] at e
              have := rkC_inj (by omega) (by omega) e
              omega
            omega
          · exact p3 x hx y e
      · intro a
        rw [ml, a7]
        constructor
        · rintro (⟨i, hi, e, h⟩ | h)
          · exact ⟨i, by omega, e, h⟩
          · exact ⟨2 * p + k, by omega, by omega, by rw [hbb]; exact q1⟩
        · rintro ⟨i, hi, e, h⟩
          by_cases e1 : i = 2 * p + k
          · exact Or.inr (by omega)
          · exact Or.inl ⟨i, by omega, e, h⟩
      · intro a ha
        rw [c5]
        rcases (ml a).1 ha with h | h
        · exact mq a h
        · subst h; exact mb
      · intro a ha
        rw [c5]
        by_cases e : a = b
        · subst e; rw [mb]; exact rkC_b h3
        · rw [m1 _ _ _ fun x => e x.2.1]; exact a9 a ha
      · omega
  · -- not open
    have q0 : N0 2 (16 * P + (2 * p + k)) 2 = 0 := by omega
    refine ⟨N, R, q, vR 2 (16 * P + (2 * p + k)), ?_, a1, a2, a3, hR, a5, a6, ?_, a8, a9, by omega⟩
    · have e20 : N 2 (16 * P + (2 * p + k)) 2 = 0 := by rw [e2, q0]
      rw [x37_15]
      rcases (show k = 0 ∨ k = 1 by omega) with e | e
      · subst e
        have hb0 : 16 * P + 2 * p = 16 * P + (2 * p + 0) := by omega
        simp (disch := first | assumption | omega | exact nI_or0 | exact nI_or1 | exact bN_or _) only [x37_16, x37_17, x37_20, x37_21, x37_24, x37_25, x37_28, x37_29, x37_30, x37_33, x37_36, x37_37, x37_40, x37_41, x37_42, x37_45, x37_46, x37_47, x37_50, x37_53, x37_54, x37_57, x37_58, x37_61, x37_62, x37_65, x37_66, x37_67, x37_70, x37_71, x37_72, x37_75, x37_76, x37_77, x37_80, x37_83, reduceIte, Nat.reduceLT, nW_ap, nW_up, nI_add, pk_mul, nI_ltI, nI_eq, if_true, if_false, kont_r, kont_v, Nat.reduceAdd, Nat.reduceMul, Nat.not_lt, not_true_eq_false, not_false_eq_true, Nat.one_ne_zero, Nat.reduceEqDiff, Nat.lt_irrefl, reduceCtorEq, nI_or0, nI_or1, hk, i1, hb0, e20]
      · subst e
        have hb0 : 16 * P + 2 * p + 1 = 16 * P + (2 * p + 1) := by omega
        simp (disch := first | assumption | omega | exact nI_or0 | exact nI_or1 | exact bN_or _) only [x37_16, x37_17, x37_20, x37_21, x37_24, x37_25, x37_28, x37_29, x37_30, x37_33, x37_36, x37_37, x37_40, x37_41, x37_42, x37_45, x37_46, x37_47, x37_50, x37_53, x37_54, x37_57, x37_58, x37_61, x37_62, x37_65, x37_66, x37_67, x37_70, x37_71, x37_72, x37_75, x37_76, x37_77, x37_80, x37_83, reduceIte, Nat.reduceLT, nW_ap, nW_up, nI_add, pk_mul, nI_ltI, nI_eq, if_true, if_false, kont_r, kont_v, Nat.reduceAdd, Nat.reduceMul, Nat.not_lt, not_true_eq_false, not_false_eq_true, Nat.one_ne_zero, Nat.reduceEqDiff, Nat.lt_irrefl, reduceCtorEq, nI_or0, nI_or1, hk, i2, hb0, e20]
    · intro a
      rw [a7]
      constructor
      · rintro ⟨i, hi, e, h⟩
        exact ⟨i, by omega, e, h⟩
      · rintro ⟨i, hi, e, h⟩
        by_cases e1 : i = 2 * p + k
        · subst e1; omega
        · exact ⟨i, by omega, e, h⟩
theorem t37 {X : XS} {N : GV} {R : GR} {L : GL} {Z : Nat × Nat × Bool} (hR : Rok R) {P : Nat} (hP : P < 8) (hS : SB N) (ho : N 18 P 1 ≤ 2) (hr : ∀ b, b < 128 → N 2 b 2 = 1 → N 2 b 3 < 2 ^ 20) : ∃ N' R' q, exec X 37 [vR 5 P] (gg (nW N) R L Z) = some (.inl none, gg (nW N') R' L Z) ∧ QI N R P (N 18 P 1) 16 N' R' q := by
  have key : ∀ p, p ≤ 8 → ∀ (M : GV) (R1 : GR) (q : List Nat) (l2 l3 : AV), QI N R P (N 18 P 1) (2 * p) M R1 q → ∃ N' R' q', ex X 37 7 [vR 5 P, vI (nI p), l2, l3] [] (gg (nW M) R1 L Z) = some (.inl none, gg (nW N') R' L Z) ∧ QI N R P (N 18 P 1) 16 N' R' q' := by
    refine down _ ?_ ?_
    · intro M R1 q l2 l3 hQ
      refine ⟨M, R1, q, ?_, hQ⟩
      rw [x37_7]
      simp (disch := first | assumption | omega | exact nI_or0 | exact nI_or1 | exact bN_or _) only [x37_8, x37_10, x37_92, reduceIte, Nat.reduceLT, nW_ap, nW_up, nI_add, pk_mul, nI_ltI, nI_eq, if_true, if_false, kont_r, kont_v, Nat.reduceAdd, Nat.reduceMul, Nat.not_lt, not_true_eq_false, not_false_eq_true, Nat.one_ne_zero, Nat.reduceEqDiff, Nat.lt_irrefl, reduceCtorEq, nI_or0, nI_or1]
    · intro p hp ih M R1 q l2 l3 hQ
      obtain ⟨M1, R2, q1, y1, a1, b1⟩ := s37 (X := X) (L := L) (Z := Z) (k := 0) (l3 := l3) hP hp (by omega) hS rfl ho hr hQ
      obtain ⟨M2, R3, q2, y2, a2, b2⟩ := s37 (X := X) (L := L) (Z := Z) (k := 1) (l3 := y1) hP hp (by omega) hS rfl ho hr b1
      obtain ⟨N', R', q', a3, b3⟩ := ih M2 R3 q2 (vI (nI 2)) y2 b2
      refine ⟨N', R', q', ?_, b3⟩
      rw [← a3, x37_7]
      have st : ex X 37 15 [vR 5 P, vI (nI p), vI (nI 2), y2] [] (gg (nW M2) R3 L Z) = ex X 37 7 [vR 5 P, vI (nI (p + 1)), vI (nI 2), y2] [] (gg (nW M2) R3 L Z) := by
        rw [x37_15]
        simp (disch := first | assumption | omega | exact nI_or0 | exact nI_or1 | exact bN_or _) only [x37_16, x37_17, x37_86, x37_89, reduceIte, Nat.reduceLT, nW_ap, nW_up, nI_add, pk_mul, nI_ltI, nI_eq, if_true, if_false, kont_r, kont_v, Nat.reduceAdd, Nat.reduceMul, Nat.not_lt, not_true_eq_false, not_false_eq_true, Nat.one_ne_zero, Nat.reduceEqDiff, Nat.lt_irrefl, reduceCtorEq, nI_or0, nI_or1]
      have a2' : ex X 37 15 [vR 5 P, vI (nI p), vI (nI 1), y1] [] (gg (nW M1) R2 L Z) = _ := a2
      have a1' : ex X 37 15 [vR 5 P, vI (nI p), vI (nI 0), l3] [] (gg (nW M) R1 L Z) = ex X 37 15 [vR 5 P, vI (nI p), vI (nI 1), y1] [] (gg (nW M1) R2 L Z) := a1
      rw [← st]
      have hR1 := hQ.2.2.2.1
      rw [← show ex X 37 15 [vR 5 P, vI (nI p), vI (nI 0), l3] [] (gg (nW M) R1 L Z) = ex X 37 15 [vR 5 P, vI (nI p), vI (nI 2), y2] [] (gg (nW M2) R3 L Z) from a1'.trans a2']
      simp (disch := first | assumption | omega | exact nI_or0 | exact nI_or1 | exact bN_or _) only [x37_8, x37_10, x37_13, x37_14, reduceIte, Nat.reduceLT, nW_ap, nW_up, nI_add, pk_mul, nI_ltI, nI_eq, if_true, if_false, kont_r, kont_v, Nat.reduceAdd, Nat.reduceMul, Nat.not_lt, not_true_eq_false, not_false_eq_true, Nat.one_ne_zero, Nat.reduceEqDiff, Nat.lt_irrefl, reduceCtorEq, nI_or0, nI_or1, hp]
  have h0 : QI N R P (N 18 P 1) (2 * 0) (up3 N 5 P 6 0) R [] := by
    refine ⟨fun k i s h => u_ne (by omega), up3_self _ _ _ _ _, fun k hk => absurd hk (Nat.not_lt_zero _), hR, fun _ _ _ _ => rfl, List.Pairwise.nil, fun a => ?_, fun a h => (by cases h), fun a ha => ?_, Nat.le_refl _⟩
    · constructor
      · intro h; cases h
      · rintro ⟨i, hi, _⟩; omega
    · rw [up3_k _ _ (by decide)]; exact (hS.2 a ha).2.2.2
  obtain ⟨N', R', q, a, b⟩ := key 0 (Nat.zero_le _) _ R [] vU vU h0
  refine ⟨N', R', q, ?_, b⟩
  simp (disch := first | assumption | omega | exact nI_or0 | exact nI_or1 | exact bN_or _) only [in37, x37_0, x37_1, x37_2, x37_5, x37_6, reduceIte, Nat.reduceLT, nW_ap, nW_up, nI_add, pk_mul, nI_ltI, nI_eq, if_true, if_false, kont_r, kont_v, Nat.reduceAdd, Nat.reduceMul, Nat.not_lt, not_true_eq_false, not_false_eq_true, Nat.one_ne_zero, Nat.reduceEqDiff, Nat.lt_irrefl, reduceCtorEq, nI_or0, nI_or1]
  exact a
