/-! the class copies a park -/
theorem SB.of {K P : Nat} {N V : GV} (h : PK N P V) : SB N := h.1.2.2.2.2.2
theorem PK.g {P Q : Nat} {N N' V V' : GV} (h6 : V 22 0 6 ≤ 6) (h7 : V 22 0 7 ≤ 17) (h : PK N Q V) (e0 : ∀ p s, p < 8 → 2 ≤ s → s ≤ 10 → N' 0 (8 * P + p) s = N 0 (8 * Q + p) s) (e2 : ∀ j s, j < 16 → 2 ≤ s → s ≤ 4 → N' 2 (16 * P + j) s = N 2 (16 * Q + j) s) (e5 : ∀ s, s = 0 ∨ (7 ≤ s ∧ s ≤ 11) → N' 5 P s = N 5 Q s) (e18 : ∀ s, s < 5 → N' 18 P s = N 18 Q s) (e1 : N' 1 P 2 = N 1 Q 2) (e8 : ∀ k s, k = 8 ∨ k = 9 → s < N 1 Q 2 → N' k P s = N k Q s) (e4 : N' 4 P 3 = N 4 Q 3) (e14 : ∀ k s, 14 ≤ k → k ≤ 16 → s < N 4 Q 3 → N' k P s = N k Q s) (v : ∀ s, s < 204 → V' 22 0 s = V 22 0 s) (hS : SB N') : PK N' P V' :=
  ⟨h.1.g e0 e2 (fun s a b => e5 s (by omega)) (fun s _ _ => v s (by omega)) hS, h.2.1.g e18 (e5 0 (by omega)) fun s _ => v s (by omega), h.2.2.1.g h6 e1 e8 fun s _ => v s (by omega), h.2.2.2.g h7 e4 e14 fun s _ => v s (by omega)⟩
/-- another park is touched -/
theorem PK.fr {P Q : Nat} {N N' V : GV} (hne : ¬ P = Q) (h6 : V 22 0 6 ≤ 6) (h7 : V 22 0 7 ≤ 17) (h : PK N Q V) (f : FrP P N N') (hS : SB N') : PK N' Q V :=
  h.g h6 h7 (fun p s _ _ _ => f _ _ _ (by unfold own; omega)) (fun p s _ _ _ => f _ _ _ (by unfold own; omega)) (fun s _ => f _ _ _ (by unfold own; omega)) (fun s _ => f _ _ _ (by unfold own; omega)) (f _ _ _ (by unfold own; omega)) (fun k s _ _ => f _ _ _ (by unfold own; omega)) (f _ _ _ (by unfold own; omega)) (fun k s _ _ _ => f _ _ _ (by unfold own; omega)) (fun _ _ => rfl) hS
theorem PK.v {P : Nat} {N V V' : GV} (h6 : V 22 0 6 ≤ 6) (h7 : V 22 0 7 ≤ 17) (h : PK N P V) (v : ∀ s, s < 204 → V' 22 0 s = V 22 0 s) : PK N P V' :=
  h.g h6 h7 (fun _ _ _ _ _ => rfl) (fun _ _ _ _ _ => rfl) (fun _ _ => rfl) (fun _ _ => rfl) rfl (fun _ _ _ _ => rfl) rfl (fun _ _ _ _ _ => rfl) v h.1.2.2.2.2.2
theorem fc_0 {N : GV} {f g s : Nat} (hne : ¬ f = g) (h1 : 2 ≤ s) (h2 : s ≤ 10) : fcN N f g 0 f s = N 0 g s := by
  unfold fcN
  have hM : ∀ i s, (jcN (jcN N (2 * f) (2 * g)) (2 * f + 1) (2 * g + 1)) 0 i s = N 0 i s := fun i s => by rw [jc_k (by decide), jc_k (by decide)]
  generalize jcN (jcN N (2 * f) (2 * g)) (2 * f + 1) (2 * g + 1) = M at hM
  (try simp only)
  rcases (show s = 2 ∨ s = 3 ∨ s = 4 ∨ s = 5 ∨ s = 6 ∨ s = 7 ∨ s = 8 ∨ s = 9 ∨ s = 10 by omega) with e | e | e | e | e | e | e | e | e <;> subst e <;> simp (disch := omega) only [u_ne, u_eq]
theorem fc_2 {N : GV} {f g b s : Nat} (hne : ¬ f = g) (hb : b < 2) (h1 : 2 ≤ s) (h2 : s ≤ 4) : fcN N f g 2 (2 * f + b) s = N 2 (2 * g + b) s := by
  unfold fcN jcN
  (try simp only)
  rcases (show b = 0 ∨ b = 1 by omega) with e | e <;> subst e <;> rcases (show s = 2 ∨ s = 3 ∨ s = 4 by omega) with e | e | e <;> subst e <;> simp (disch := omega) only [u_ne, u_eq, Nat.add_zero]
theorem fc_o {N : GV} {f g k i s : Nat} (h : ¬ (k = 0 ∧ i = f)) (h' : ¬ (k = 2 ∧ (i = 2 * f ∨ i = 2 * f + 1))) : fcN N f g k i s = N k i s := by
  unfold fcN jcN
  (try simp only)
  simp (disch := omega) only [u_ne]
theorem jcS {N : GV} {a b : Nat} (h : SB N) (hb : b < 128) : SB (jcN N a b) := by
  have := h.2 b hb
  unfold jcN
  exact ((h.up (by omega) (by omega)).up (by omega) (by omega)).up (by omega) (by omega)
theorem fcS {N : GV} {f g : Nat} (h : SB N) (hg : g < 64) : SB (fcN N f g) := by
  have h0 := h.1 g hg
  unfold fcN
  (try simp only)
  have hM : SB (jcN (jcN N (2 * f) (2 * g)) (2 * f + 1) (2 * g + 1)) := jcS (jcS h (by omega)) (by omega)
  exact ((((((((hM.up (by omega) (by omega)).up (by omega) (by omega)).up (by omega) (by omega)).up (by omega) (by omega)).up (by omega) (by omega)).up (by omega) (by omega)).up (by omega) (by omega)).up (by omega) (by omega)).up (by omega) (by omega)
theorem cp_i {ks : Nat → Bool} {N : GV} {P Q n k s : Nat} (hk : ks k = true) (h : s < n) : cpR ks N P Q n k P s = N k Q s := if_pos ⟨hk, rfl, h⟩
theorem cp_o {ks : Nat → Bool} {N : GV} {P Q n k i s : Nat} (h : ks k = true → ¬ i = P) : cpR ks N P Q n k i s = N k i s := if_neg fun q => h q.1 q.2.1
theorem kFr_o {k : Nat} (h : ¬ (k = 8 ∨ k = 9)) : ¬ kFr k = true := fun q => h (of_decide_eq_true q)
theorem kU_o {k : Nat} (h : ¬ (14 ≤ k ∧ k ≤ 16)) : ¬ kU k = true := fun q => h (kU_i.1 q)
theorem fcp_o {N : GV} {P Q k i s : Nat} (h : ¬ ((k = 1 ∨ k = 8 ∨ k = 9) ∧ i = P)) : fcpN N P Q k i s = N k i s := by
  unfold fcpN
  rw [cp_o fun a b => kFr_o (by omega) a, u_ne (by omega)]
theorem ocp_o {N : GV} {P Q k i s : Nat} (h : ¬ ((k = 4 ∨ (14 ≤ k ∧ k ≤ 16)) ∧ i = P)) : ocpN N P Q k i s = N k i s := by
  unfold ocpN
  rw [cp_o fun a b => kU_o (by omega) a, u_ne (by omega)]
theorem t32 {X : XS} {N : GV} {R : GR} {L : GL} {Z : Nat × Nat × Bool} (hR : Rok R) {K P Q : Nat} {V : GV} (hP : P < 8) (hQ : Q < 8) (hne : ¬ P = Q) (hD : DI K V) (h : PK N Q V) (hJ : JB N) : ∃ N', exec X 32 [vR 5 P, vR 5 Q] (gg (nW N) R L Z) = some (.inl none, (gg (nW (N')) R L Z)) ∧ PK N' P V ∧ FrP P N N' ∧ JB N' := by
  have hS : SB N := h.1.2.2.2.2.2
  have hF := RW.fb hD h.2.2.1
  have hO := RO.ob hD h.2.2.2
  obtain ⟨M0, hM0⟩ : ∃ M0, M0 = up3 N 5 P 0 (N 5 Q 0) := ⟨_, rfl⟩
  have o0 : ∀ k i s, ¬ (k = 5 ∧ i = P ∧ s = 0) → M0 k i s = N k i s := fun k i s q => by rw [hM0]; exact u_ne q
  have key : ∀ k, k ≤ 8 → ∀ M, SB M → (∀ k i s, ¬ (k = 0 ∧ 8 * P ≤ i ∧ i < 8 * P + 8) → ¬ (k = 2 ∧ 16 * P ≤ i ∧ i < 16 * P + 16) → M k i s = M0 k i s) → (∀ p s, p < k → 2 ≤ s → s ≤ 10 → M 0 (8 * P + p) s = N 0 (8 * Q + p) s) → (∀ j s, j < 2 * k → 2 ≤ s → s ≤ 4 → M 2 (16 * P + j) s = N 2 (16 * Q + j) s) → ∃ M', ex X 32 10 [vR 5 P, vR 5 Q, vI (nI k)] [] (gg (nW (M)) R L Z) = ex X 32 37 [vR 5 P, vR 5 Q, vI (nI 8)] [] (gg (nW (M')) R L Z) ∧ SB M' ∧ (∀ k i s, ¬ (k = 0 ∧ 8 * P ≤ i ∧ i < 8 * P + 8) → ¬ (k = 2 ∧ 16 * P ≤ i ∧ i < 16 * P + 16) → M' k i s = M0 k i s) ∧ (∀ p s, p < 8 → 2 ≤ s → s ≤ 10 → M' 0 (8 * P + p) s = N 0 (8 * Q + p) s) ∧ (∀ j s, j < 16 → 2 ≤ s → s ≤ 4 → M' 2 (16 * P + j) s = N 2 (16 * Q + j) s) := by
    refine down _ ?_ ?_
    · intro M a1 a2 a3 a4
      refine ⟨M, ?_, a1, a2, a3, a4⟩
      rw [x32_10]
      simp (disch := first | assumption | omega | exact nI_or0 | exact nI_or1 | exact bN_or _) only [x32_11, x32_13, reduceIte, Nat.reduceLT, nW_ap, nW_up, nI_add, pk_mul, nI_ltI, nI_eq, if_true, if_false, kont_r, kont_v, Nat.reduceAdd, Nat.reduceMul, Nat.not_lt, not_true_eq_false, not_false_eq_true, Nat.one_ne_zero, Nat.reduceEqDiff, Nat.lt_irrefl, reduceCtorEq, nI_or0, nI_or1]
    · intro k hk ih M a1 a2 a3 a4
      have hg : 8 * Q + k < 64 := by omega
      have hf : 8 * P + k < 64 := by omega
      have hfg : ¬ 8 * P + k = 8 * Q + k := by omega
      have s6 := t6 (X := X) (N := M) (L := L) (Z := Z) (f := 8 * P + k) (g := 8 * Q + k) hR hf hg hfg (a1.2 _ (by omega)).2.2.1 (a1.2 _ (by omega)).2.2.1 (a1.1 _ hg)
      have q0 : ∀ s, M 0 (8 * Q + k) s = N 0 (8 * Q + k) s := fun s => by rw [a2 _ _ _ (by omega) (by omega), o0 _ _ _ (by omega)]
      have q2 : ∀ b s, b < 2 → M 2 (2 * (8 * Q + k) + b) s = N 2 (2 * (8 * Q + k) + b) s := fun b s hb => by rw [a2 _ _ _ (by omega) (by omega), o0 _ _ _ (by omega)]
      obtain ⟨M', b1, b2⟩ := ih (fcN M (8 * P + k) (8 * Q + k)) (fcS a1 hg) (fun k' i s z1 z2 => by rw [fc_o (by omega) (by omega)]; exact a2 _ _ _ z1 z2) (fun p s hp h1 h2 => by
        by_cases e : p = k
        · subst e; rw [fc_0 hfg h1 h2, q0]
        · rw [fc_o (by omega) (by omega)]; exact a3 p s (by omega) h1 h2) (fun j s hj h1 h2 => by
        by_cases e : j = 2 * k ∨ j = 2 * k + 1
        · obtain ⟨b, hb, ej⟩ : ∃ b, b < 2 ∧ j = 2 * k + b := ⟨j - 2 * k, by omega, by omega⟩
          subst ej
          rw [show 16 * P + (2 * k + b) = 2 * (8 * P + k) + b by omega, fc_2 hfg hb h1 h2, q2 b s hb, show 16 * Q + (2 * k + b) = 2 * (8 * Q + k) + b by omega]
        · rw [fc_o (by omega) (by omega)]; exact a4 j s (by omega) h1 h2)
      refine ⟨M', ?_, b2⟩
      rw [← b1, x32_10]
      simp (disch := first | assumption | omega | exact nI_or0 | exact nI_or1 | exact bN_or _) only [x32_11, x32_13, x32_16, x32_17, x32_20, x32_21, x32_22, x32_23, x32_26, x32_27, x32_28, x32_31, x32_34, reduceIte, Nat.reduceLT, nW_ap, nW_up, nI_add, pk_mul, nI_ltI, nI_eq, if_true, if_false, kont_r, kont_v, Nat.reduceAdd, Nat.reduceMul, Nat.not_lt, not_true_eq_false, not_false_eq_true, Nat.one_ne_zero, Nat.reduceEqDiff, Nat.lt_irrefl, reduceCtorEq, nI_or0, nI_or1, hk, s6]
  obtain ⟨M1, s1, S1, f1, g0, g2⟩ := key 0 (Nat.zero_le _) M0 (by rw [hM0]; exact hS.up (by omega) (by omega)) (fun _ _ _ _ _ => rfl) (fun p s hp => by omega) (fun j s hj => by omega)
  have m1 : ∀ k i s, ¬ k = 0 → ¬ k = 2 → ¬ (k = 5 ∧ i = P ∧ s = 0) → M1 k i s = N k i s := fun k i s z1 z2 z3 => by rw [f1 _ _ _ (by omega) (by omega), o0 _ _ _ z3]
  have e12 := m1 1 Q 2 (by omega) (by omega) (by omega)
  have s12 := t12 (X := X) (N := M1) (L := L) (Z := Z) hR hP hQ hne (by rw [e12]; exact hF.1)
  have m2 : ∀ k i s, ¬ ((k = 1 ∨ k = 8 ∨ k = 9) ∧ i = P) → fcpN M1 P Q k i s = M1 k i s := fun k i s z => fcp_o z
  have w1 : fcpN M1 P Q 1 P 2 = N 1 Q 2 := by
    unfold fcpN
    rw [cp_o fun a b => kFr_o (by omega) a, up3_self, e12]
  have w8 : ∀ k s, k = 8 ∨ k = 9 → s < N 1 Q 2 → fcpN M1 P Q k P s = N k Q s := fun k s hk hs => by
    unfold fcpN
    rw [cp_i (decide_eq_true hk) (by rw [e12]; exact hs), u_ne (by omega), m1 _ _ _ (by omega) (by omega) (by omega)]
  generalize fcpN M1 P Q = M2 at s12 m2 w1 w8
  have e43 : M2 4 Q 3 = N 4 Q 3 := by rw [m2 _ _ _ (by omega), m1 _ _ _ (by omega) (by omega) (by omega)]
  have s30 := t30 (X := X) (N := M2) (L := L) (Z := Z) hR hP hQ hne (by rw [e43]; exact hO.1)
  have m3 : ∀ k i s, ¬ ((k = 4 ∨ (14 ≤ k ∧ k ≤ 16)) ∧ i = P) → ocpN M2 P Q k i s = M2 k i s := fun k i s z => ocp_o z
  have w4 : ocpN M2 P Q 4 P 3 = N 4 Q 3 := by
    unfold ocpN
    rw [cp_o fun a b => kU_o (by omega) a, up3_self, e43]
  have w14 : ∀ k s, 14 ≤ k → k ≤ 16 → s < N 4 Q 3 → ocpN M2 P Q k P s = N k Q s := fun k s hk hk' hs => by
    unfold ocpN
    rw [cp_i (kU_i.2 ⟨hk, hk'⟩) (by rw [e43]; exact hs), u_ne (by omega), m2 _ _ _ (by omega), m1 _ _ _ (by omega) (by omega) (by omega)]
  generalize ocpN M2 P Q = M3 at s30 m3 w4 w14
  have r18 : ∀ s, M3 18 Q s = N 18 Q s := fun s => by rw [m3 _ _ _ (by omega), m2 _ _ _ (by omega), m1 _ _ _ (by omega) (by omega) (by omega)]
  obtain ⟨M4, hM4⟩ : ∃ M4, M4 = rowTo M3 18 P 5 fun s => N 18 Q s := ⟨_, rfl⟩
  have s61 : ex X 32 61 [vR 5 P, vR 5 Q, vI (nI 0)] [] (gg (nW (M3)) R L Z) = ex X 32 84 [vR 5 P, vR 5 Q, vI (nI 5)] [] (gg (nW (M4)) R L Z) := by
    rw [hM4]
    have key : ∀ k, k ≤ 5 → ex X 32 61 [vR 5 P, vR 5 Q, vI (nI k)] [] (gg (nW (rowTo M3 18 P k fun s => N 18 Q s)) R L Z) = ex X 32 84 [vR 5 P, vR 5 Q, vI (nI 5)] [] (gg (nW (rowTo M3 18 P 5 fun s => N 18 Q s)) R L Z) := by
      refine down _ ?_ ?_
      · rw [x32_61]
        simp (disch := first | assumption | omega | exact nI_or0 | exact nI_or1 | exact bN_or _) only [x32_62, x32_63, reduceIte, Nat.reduceLT, nW_ap, nW_up, nI_add, pk_mul, nI_ltI, nI_eq, if_true, if_false, kont_r, kont_v, Nat.reduceAdd, Nat.reduceMul, Nat.not_lt, not_true_eq_false, not_false_eq_true, Nat.one_ne_zero, Nat.reduceEqDiff, Nat.lt_irrefl, reduceCtorEq, nI_or0, nI_or1]
      · intro k hk ih
        rw [← ih, ← rowTo_s]
        have eq : (rowTo M3 18 P k fun s => N 18 Q s) 18 Q k = N 18 Q k := by rw [← r18]; exact if_neg fun z => hne z.2.1.symm
        generalize (rowTo M3 18 P k fun s => N 18 Q s) = M at eq ⊢
        rw [x32_61]
        simp (disch := first | assumption | omega | exact nI_or0 | exact nI_or1 | exact bN_or _) only [x32_62, x32_63, x32_66, x32_67, x32_70, x32_71, x32_72, x32_75, x32_76, x32_77, x32_78, x32_81, reduceIte, Nat.reduceLT, nW_ap, nW_up, nI_add, pk_mul, nI_ltI, nI_eq, if_true, if_false, kont_r, kont_v, Nat.reduceAdd, Nat.reduceMul, Nat.not_lt, not_true_eq_false, not_false_eq_true, Nat.one_ne_zero, Nat.reduceEqDiff, Nat.lt_irrefl, reduceCtorEq, nI_or0, nI_or1, hk, eq]
    have := key 0 (Nat.zero_le _)
    rw [rowTo_0] at this
    exact this
  have m4 : ∀ k i s, ¬ (k = 18 ∧ i = P) → M4 k i s = M3 k i s := fun k i s z => by rw [hM4]; exact if_neg fun q => z ⟨q.1, q.2.1⟩
  have w18 : ∀ s, s < 5 → M4 18 P s = N 18 Q s := fun s hs => by rw [hM4]; exact rowTo_in hs
  have r5 : ∀ s, M4 5 Q s = N 5 Q s := fun s => by rw [m4 _ _ _ (by omega), m3 _ _ _ (by omega), m2 _ _ _ (by omega), m1 _ _ _ (by omega) (by omega) (by omega)]
  have fM : ∀ k i s, ¬ own P k i → M4 k i s = N k i s := fun k i s z => by
    unfold own at z
    rw [m4 _ _ _ (by omega), m3 _ _ _ (by omega), m2 _ _ _ (by omega), f1 _ _ _ (by omega) (by omega), o0 _ _ _ (by omega)]
  have S4 : SB M4 := S1.g fun k i s z => by rw [m4 _ _ _ (by omega), m3 _ _ _ (by omega), m2 _ _ _ (by omega)]
  have z0 : M4 5 P 0 = N 5 Q 0 := by rw [m4 _ _ _ (by omega), m3 _ _ _ (by omega), m2 _ _ _ (by omega), f1 _ _ _ (by omega) (by omega), hM0, up3_self]
  have g0' : ∀ p s, p < 8 → 2 ≤ s → s ≤ 10 → M4 0 (8 * P + p) s = N 0 (8 * Q + p) s := fun p s a b c => by rw [m4 _ _ _ (by omega), m3 _ _ _ (by omega), m2 _ _ _ (by omega)]; exact g0 p s a b c
  have g2' : ∀ j s, j < 16 → 2 ≤ s → s ≤ 4 → M4 2 (16 * P + j) s = N 2 (16 * Q + j) s := fun p s a b c => by rw [m4 _ _ _ (by omega), m3 _ _ _ (by omega), m2 _ _ _ (by omega)]; exact g2 p s a b c
  have u1 : M4 1 P 2 = N 1 Q 2 := by rw [m4 _ _ _ (by omega), m3 _ _ _ (by omega)]; exact w1
  have u8 : ∀ k s, k = 8 ∨ k = 9 → s < N 1 Q 2 → M4 k P s = N k Q s := fun k s a b => by rw [m4 _ _ _ (by omega), m3 _ _ _ (by omega)]; exact w8 k s a b
  have u4 : M4 4 P 3 = N 4 Q 3 := by rw [m4 _ _ _ (by omega)]; exact w4
  have u14 : ∀ k s, 14 ≤ k → k ≤ 16 → s < N 4 Q 3 → M4 k P s = N k Q s := fun k s a b c => by rw [m4 _ _ _ (by omega)]; exact w14 k s a b c
  have hE : exec X 32 [vR 5 P, vR 5 Q] (gg (nW N) R L Z) = some (.inl none, (gg (nW (up3 (up3 (up3 (up3 (up3 M4 5 P 7 (N 5 Q 7)) 5 P 8 (N 5 Q 8)) 5 P 9 (N 5 Q 9)) 5 P 10 (N 5 Q 10)) 5 P 11 (N 5 Q 11))) R L Z)) := by
    have gi : ∀ {N : GV} {s v s' : Nat}, up3 N 5 P s v 5 Q s' = N 5 Q s' := up3_i _ _ fun e => hne e.symm
    have st : ex X 32 84 [vR 5 P, vR 5 Q, vI (nI 5)] [] (gg (nW (M4)) R L Z) = some (.inl none, (gg (nW (up3 (up3 (up3 (up3 (up3 M4 5 P 7 (N 5 Q 7)) 5 P 8 (N 5 Q 8)) 5 P 9 (N 5 Q 9)) 5 P 10 (N 5 Q 10)) 5 P 11 (N 5 Q 11))) R L Z)) := by
      simp (disch := first | assumption | omega | exact nI_or0 | exact nI_or1 | exact bN_or _) only [x32_84, x32_85, x32_86, x32_89, x32_92, x32_93, x32_94, x32_97, x32_100, x32_101, x32_102, x32_105, x32_108, x32_109, x32_110, x32_113, x32_116, x32_117, x32_118, x32_121, x32_124, reduceIte, Nat.reduceLT, nW_ap, nW_up, nI_add, pk_mul, nI_ltI, nI_eq, if_true, if_false, kont_r, kont_v, Nat.reduceAdd, Nat.reduceMul, Nat.not_lt, not_true_eq_false, not_false_eq_true, Nat.one_ne_zero, Nat.reduceEqDiff, Nat.lt_irrefl, reduceCtorEq, nI_or0, nI_or1, gi, r5]
    rw [← st, ← s61]
    have st2 : ex X 32 37 [vR 5 P, vR 5 Q, vI (nI 8)] [] (gg (nW (M1)) R L Z) = ex X 32 61 [vR 5 P, vR 5 Q, vI (nI 0)] [] (gg (nW (M3)) R L Z) := by
      simp (disch := first | assumption | omega | exact nI_or0 | exact nI_or1 | exact bN_or _) only [x32_37, x32_38, x32_41, x32_42, x32_45, x32_48, x32_49, x32_52, x32_53, x32_56, x32_59, x32_60, reduceIte, Nat.reduceLT, nW_ap, nW_up, nI_add, pk_mul, nI_ltI, nI_eq, if_true, if_false, kont_r, kont_v, Nat.reduceAdd, Nat.reduceMul, Nat.not_lt, not_true_eq_false, not_false_eq_true, Nat.one_ne_zero, Nat.reduceEqDiff, Nat.lt_irrefl, reduceCtorEq, nI_or0, nI_or1, s12, s30]
    rw [← st2, ← s1, hM0]
    simp (disch := first | assumption | omega | exact nI_or0 | exact nI_or1 | exact bN_or _) only [in32, x32_0, x32_1, x32_2, x32_5, x32_8, x32_9, reduceIte, Nat.reduceLT, nW_ap, nW_up, nI_add, pk_mul, nI_ltI, nI_eq, if_true, if_false, kont_r, kont_v, Nat.reduceAdd, Nat.reduceMul, Nat.not_lt, not_true_eq_false, not_false_eq_true, Nat.one_ne_zero, Nat.reduceEqDiff, Nat.lt_irrefl, reduceCtorEq, nI_or0, nI_or1]
  have S5 : SB (up3 (up3 (up3 (up3 (up3 M4 5 P 7 (N 5 Q 7)) 5 P 8 (N 5 Q 8)) 5 P 9 (N 5 Q 9)) 5 P 10 (N 5 Q 10)) 5 P 11 (N 5 Q 11)) := S4.g fun k i s z => by
    simp (disch := omega) only [u_ne]
  have hfin : PK (up3 (up3 (up3 (up3 (up3 M4 5 P 7 (N 5 Q 7)) 5 P 8 (N 5 Q 8)) 5 P 9 (N 5 Q 9)) 5 P 10 (N 5 Q 10)) 5 P 11 (N 5 Q 11)) P V := by
    refine h.g hD.h6 hD.h7 (fun p s a b c => ?_) (fun p s a b c => ?_) (fun s a => ?_) (fun s a => ?_) ?_ (fun k s a b => ?_) ?_ (fun k s a b c => ?_) (fun _ _ => rfl) S5
    · simp (disch := omega) only [u_ne]; exact g0' p s a b c
    · simp (disch := omega) only [u_ne]; exact g2' p s a b c
    · rcases (show s = 0 ∨ s = 7 ∨ s = 8 ∨ s = 9 ∨ s = 10 ∨ s = 11 by omega) with e | e | e | e | e | e <;> subst e <;> simp (disch := omega) only [u_ne, u_eq]
      exact z0
    · simp (disch := omega) only [u_ne]; exact w18 s a
    · simp (disch := omega) only [u_ne]; exact u1
    · simp (disch := omega) only [u_ne]; exact u8 k s a b
    · simp (disch := omega) only [u_ne]; exact u4
    · simp (disch := omega) only [u_ne]; exact u14 k s a b c
  have hfr : FrP P N (up3 (up3 (up3 (up3 (up3 M4 5 P 7 (N 5 Q 7)) 5 P 8 (N 5 Q 8)) 5 P 9 (N 5 Q 9)) 5 P 10 (N 5 Q 10)) 5 P 11 (N 5 Q 11)) := fun k i s z => by
    have z' := z
    unfold own at z'
    simp (disch := omega) only [u_ne]
    exact fM k i s z
  exact ⟨_, hE, hfin, hfr, hJ.x hfr hfin.1 hD⟩
