/-! the class works on jobs -/
theorem DI.mo {K K' : Nat} {V : GV} (h : DI K V) (h1 : K ≤ K') (h2 : K' ≤ 100000) : DI K' V := by
  refine ⟨h2, fun j => ?_, h.l⟩
  have u := h.u j
  refine ⟨fun q => ?_, fun q => u.2.1 q, fun q => ?_, fun q => u.2.2.2.1 q, fun q => ?_⟩
  · obtain ⟨a1, a2, a3, a4, a5, a6, a7, a8⟩ := u.1 q
    exact ⟨a1, a2, a3, a4, a5, fun e => Nat.le_trans (a6 e) h1, a7, a8⟩
  · obtain ⟨a1, a2, a3, a4⟩ := u.2.2.1 q
    exact ⟨a1, fun e => Nat.le_trans (a2 e) h1, a3, a4⟩
  · obtain ⟨a1, a2, a3⟩ := u.2.2.2.2 q
    exact ⟨fun e => by have := a1 e; omega, a2, a3⟩
theorem t42 {X : XS} {N : GV} {R : GR} {L : GL} {Z : Nat × Nat × Bool} (hR : Rok R) {P j : Nat} (hP : P < 8) (hj : j < 16) (hS : SB N) (hw : N 2 (16 * P + j) 4 ≤ if j % 2 = 0 then 6 else 2) : exec X 42 [vR 5 P, vR 2 (16 * P + j)] (gg (nW N) R L Z) = some (.inl none, (gg (nW (if N 2 (16 * P + j) 4 = (if j % 2 = 0 then 6 else 2) then fnC N P j else N)) R L Z)) := by
  have hb : 16 * P + j < 128 := by omega
  have sb := hS.2 (16 * P + j) hb
  have m2 : (16 * P + j) % 2 = j % 2 := by omega
  have d2 : (16 * P + j) / 2 % 8 = j / 2 := by omega
  have s1 := t15 (X := X) (N := N) (L := L) (Z := Z) (b := 16 * P + j) hR hb (by rw [m2]; rw [m2] at sb; exact sb.2.1) (by rw [m2]; exact hw)
  rw [m2] at s1 sb
  rw [d2] at sb
  have hj2 : j / 2 < 8 := by omega
  have hd2 : j / 2 < 2 ^ 31 := by omega
  by_cases q : N 2 (16 * P + j) 4 = (if j % 2 = 0 then 6 else 2)
  · rw [if_pos q]
    rw [q, Nat.sub_self] at s1
    unfold fnC
    have g1 : ∀ {v : Nat} {s : Nat}, up3 N 2 (16 * P + j) 2 v 0 (8 * P + j / 2) s = N 0 (8 * P + j / 2) s := up3_k _ _ (by decide)
    have g2 : ∀ {v : Nat}, up3 N 2 (16 * P + j) 2 v 2 (16 * P + j) 1 = N 2 (16 * P + j) 1 := up3_s _ _ (by decide)
    have g3 : ∀ {v : Nat}, up3 N 2 (16 * P + j) 2 v 2 (16 * P + j) 0 = N 2 (16 * P + j) 0 := up3_s _ _ (by decide)
    have g4 : ∀ {v w : Nat} {s : Nat}, up3 (up3 N 2 (16 * P + j) 2 v) 0 (8 * P + j / 2) 7 w 2 (16 * P + j) s = up3 N 2 (16 * P + j) 2 v 2 (16 * P + j) s := up3_k _ _ (by decide)
    have g5 : ∀ {v w : Nat}, up3 (up3 N 2 (16 * P + j) 2 v) 0 (8 * P + j / 2) 7 w 0 (8 * P + j / 2) 9 = N 0 (8 * P + j / 2) 9 := fun {v w} => by rw [up3_s _ _ (by decide), g1]
    by_cases qj : j % 2 = 1
    · rw [if_pos qj]
      have k1 : N 2 (16 * P + j) 1 = 1 := by rw [sb.2.1, qj]
      simp (disch := first | assumption | omega | exact nI_or0 | exact nI_or1 | exact bN_or _) only [in42, x42_0, x42_1, x42_4, x42_7, x42_8, x42_9, x42_10, x42_13, x42_14, x42_17, x42_18, x42_21, x42_22, x42_25, x42_26, x42_29, x42_30, x42_31, x42_34, x42_35, x42_38, x42_39, x42_42, x42_43, x42_44, x42_47, x42_48, x42_49, x42_52, in42, reduceIte, Nat.reduceLT, nW_ap, nW_up, nI_add, pk_mul, nI_ltI, nI_eq, if_true, if_false, kont_r, kont_v, Nat.reduceAdd, Nat.reduceMul, Nat.not_lt, not_true_eq_false, not_false_eq_true, Nat.one_ne_zero, Nat.reduceEqDiff, Nat.lt_irrefl, reduceCtorEq, nI_or0, nI_or1, s1, g2, g3, g4, g5, k1, sb.1]
    · rw [if_neg qj]
      have k1 : N 2 (16 * P + j) 1 = 0 := by omega
      simp (disch := first | assumption | omega | exact nI_or0 | exact nI_or1 | exact bN_or _) only [in42, x42_0, x42_1, x42_4, x42_7, x42_8, x42_9, x42_10, x42_13, x42_14, x42_17, x42_18, x42_21, x42_22, x42_25, x42_26, x42_29, x42_30, x42_31, x42_34, x42_35, x42_38, x42_39, x42_42, x42_43, x42_44, x42_47, x42_48, x42_49, x42_52, in42, reduceIte, Nat.reduceLT, nW_ap, nW_up, nI_add, pk_mul, nI_ltI, nI_eq, if_true, if_false, kont_r, kont_v, Nat.reduceAdd, Nat.reduceMul, Nat.not_lt, not_true_eq_false, not_false_eq_true, Nat.one_ne_zero, Nat.reduceEqDiff, Nat.lt_irrefl, reduceCtorEq, nI_or0, nI_or1, s1, g2, k1]
  · rw [if_neg q]
    have hgt : 0 < (if j % 2 = 0 then 6 else 2) - N 2 (16 * P + j) 4 := by omega
    have hle : (if j % 2 = 0 then 6 else 2) - N 2 (16 * P + j) 4 < 2 ^ 28 := by split <;> omega
    generalize (if j % 2 = 0 then 6 else 2) - N 2 (16 * P + j) 4 = x at s1 hgt hle
    simp (disch := first | assumption | omega | exact nI_or0 | exact nI_or1 | exact bN_or _) only [in42, x42_0, x42_1, x42_4, x42_7, x42_8, x42_9, x42_10, x42_13, x42_14, x42_17, x42_18, x42_21, x42_22, x42_25, x42_26, x42_29, x42_30, x42_31, x42_34, x42_35, x42_38, x42_39, x42_42, x42_43, x42_44, x42_47, x42_48, x42_49, x42_52, in42, reduceIte, Nat.reduceLT, nW_ap, nW_up, nI_add, pk_mul, nI_ltI, nI_eq, if_true, if_false, kont_r, kont_v, Nat.reduceAdd, Nat.reduceMul, Nat.not_lt, not_true_eq_false, not_false_eq_true, Nat.one_ne_zero, Nat.reduceEqDiff, Nat.lt_irrefl, reduceCtorEq, nI_or0, nI_or1, s1, hgt]
/-- the least open job that is not gone through -/
theorem nxtJ_min {S D : Nat → Nat} {j : Nat} (h1 : S (93 + 3 * j) = 1) (h2 : D j = 0) : ∀ n, j < n → (∀ i, i < n → ¬ i = j → S (93 + 3 * i) = 1 → D i = 0 → ahd S j i = true ∧ ahd S i j = false) → nxtJ S D n = some j := by
  intro n
  induction n with
  | zero => intro h; omega
  | succ n ih =>
    intro hj ho
    by_cases e : j = n
    · subst e
      unfold nxtJ
      rw [if_pos]
      refine ⟨h1, h2, ?_⟩
      cases hb : nxtJ S D j with
      | none => rfl
      | some b =>
        have hlt := nxtJ_lt hb
        have hb1 := nxtJ_1 hb
        exact (ho b (by omega) (by omega) hb1.1 hb1.2).1
    · have ih := ih (by omega) fun i hi => ho i (by omega)
      unfold nxtJ
      rw [ih, if_neg]
      rintro ⟨a, b, c⟩
      have := (ho n (by omega) (fun q => e q.symm) a b).2
      have c : ahd S n j = true := c
      rw [this] at c
      cases c
/-- the order of two open jobs is that of their ranks -/
theorem ahd_rk {S : Nat → Nat} {N : GV} {P o i j : Nat} (hi : i < 16) (hj : j < 16) (hne : ¬ i = j) (ho : S 1 = o) (h1 : S (93 + 3 * i + 1) = N 2 (16 * P + i) 3) (h2 : S (93 + 3 * j + 1) = N 2 (16 * P + j) 3) (b1 : S (93 + 3 * i + 1) ≤ 1058) (b2 : S (93 + 3 * j + 1) ≤ 1058) : ahd S i j = decide (rkC N o (16 * P + i) < rkC N o (16 * P + j)) := by
  unfold ahd rkC
  rw [ho, h1, h2]
  rw [h1] at b1
  rw [h2] at b2
  generalize N 2 (16 * P + i) 3 = x at *
  generalize N 2 (16 * P + j) 3 = y at *
  rw [Bool.eq_iff_iff]
  by_cases q : o < 2 ∧ ¬ i % 2 = j % 2
  · rw [if_pos q, decide_eq_true_eq, decide_eq_true_eq]
    by_cases q1 : (16 * P + i) % 2 = o
    · rw [if_neg fun e => e.2 q1, if_pos ⟨q.1, by omega⟩]
      omega
    · rw [if_pos ⟨q.1, q1⟩, if_neg fun e => e.2 (by omega)]
      omega
  · rw [if_neg q, Bool.or_eq_true, Bool.and_eq_true, decide_eq_true_eq, decide_eq_true_eq, decide_eq_true_eq, decide_eq_true_eq]
    by_cases q2 : o < 2
    · have q3 : i % 2 = j % 2 := by omega
      by_cases q1 : (16 * P + i) % 2 = o
      · rw [if_neg fun e => e.2 q1, if_neg fun e => e.2 (by omega)]
        omega
      · rw [if_pos ⟨q2, q1⟩, if_pos ⟨q2, by omega⟩]
        omega
    · rw [if_neg fun e => q2 e.1, if_neg fun e => q2 e.1]
      omega
theorem wrk1_o {f : Bool} {V : GV} {l j s : Nat} (hj : j < 16) (h : s < 10 ∨ 141 ≤ s ∨ (93 ≤ s ∧ ¬ (93 + 3 * j ≤ s ∧ s < 93 + 3 * j + 3))) : (wrk1 f V l j) 22 0 s = V 22 0 s := by
  unfold wrk1
  split
  · unfold finN endN wrkM
    split
    · simp (disch := omega) only [u_ne]
    · simp (disch := omega) only [u_ne]
  · unfold wrkM
    simp (disch := omega) only [u_ne]
theorem wrkM0 {V : GV} {j : Nat} : (wrkM V 0 j) 22 0 = V 22 0 := by
  unfold wrkM
  rw [up22, up22, up22, upk0 (by decide)]
  funext s
  simp only [Nat.zero_mul, Nat.add_zero]
  split
  · next e => subst e; rfl
  · split
    · next e => subst e; rfl
    · split
      · next e => subst e; rfl
      · rfl
theorem wm_o {N : GV} {P j h k i s : Nat} (q : ¬ (k = 2 ∧ i = 16 * P + j ∧ s = 4)) (q2 : ¬ (k = 5 ∧ (s = 9 ∨ s = 10))) : wmC N P j h k i s = N k i s := by
  unfold wmC
  rw [u_ne (by omega), u_ne (by omega), u_ne (by omega)]
theorem fn_o {N : GV} {P j k i s : Nat} (q : ¬ (k = 2 ∧ i = 16 * P + j ∧ s = 2)) (q2 : ¬ k = 0) : fnC N P j k i s = N k i s := by
  unfold fnC
  split
  · rw [u_ne (by omega), u_ne (by omega), u_ne (by omega)]
  · rw [u_ne (by omega)]
/-- one job of the class -/
theorem a41 {X : XS} {N : GV} {R : GR} {L : GL} {Z : Nat × Nat × Bool} (hR : Rok R) {K P j left m : Nat} {V : GV} {c : Bool} {l4 l5 : AV} (hP : P < 8) (hj : j < 16) (hD : DI K V) (hX : RX N P V) (h4 : N 18 P 4 = V 22 0 4) (ho : V 22 0 (93 + 3 * j) = 1) (hl : left < 2 ^ 28) (hm : m < N 5 P 6) (hm16 : N 5 P 6 ≤ 16) (hR19 : R 19 P m = some (16 * P + j)) : ∃ N' l4' l5', ex X 41 13 [vR 5 P, vI (nI (bN c)), vI (nI left), vI (nI m), l4, l5] [] (gg (nW N) R L Z) = ex X 41 13 [vR 5 P, vI (nI (bN c)), vI (nI (left - wrkH c V left j)), vI (nI (m + 1)), l4', l5'] [] (gg (nW (N')) R L Z) ∧ RX N' P (wrk1 c V left j) ∧ FrC P N N' ∧ N' 5 P 6 = N 5 P 6 ∧ (∀ i, N' 2 i 3 = N 2 i 3) ∧ ∀ i s, s = 5 ∨ s = 11 → N' 0 i s = N 0 i s := by
  have hb : 16 * P + j < 128 := by omega
  have sb := hX.2.2.2.2.2.2 (16 * P + j) hb
  have m2 : (16 * P + j) % 2 = j % 2 := by omega
  obtain ⟨j1, j2⟩ := hX.2.1 j hj
  obtain ⟨j3, j4⟩ := j2 ho
  have ji := hX.2.2.2.2.1 j hj ho
  obtain ⟨z, hz⟩ : ∃ z, z = if j % 2 = 0 then 6 else 2 := ⟨_, rfl⟩
  have hz6 : z ≤ 6 := by rw [hz]; split <;> omega
  rw [← hz] at ji
  have hnV : ndJ (V 22 0) j = z - V 22 0 (93 + 3 * j + 2) := by unfold ndJ; rw [hz]
  have hnd : ndJ (V 22 0) j = z - N 2 (16 * P + j) 4 := by rw [hnV, j4]
  have hn1 : 1 ≤ ndJ (V 22 0) j := by omega
  have hm16' : m < 16 := by omega
  by_cases qs : c = true ∧ j % 2 = 0
  · have eH : wrkH c V left j = 0 := if_pos qs
    have e1 : wrk1 c V left j = wrkM V 0 j := by
      unfold wrk1
      rw [eH, if_neg (by omega)]
    have k0 : N 2 (16 * P + j) 1 = 0 := by omega
    refine ⟨N, vR 2 (16 * P + j), l5, ?_, ?_, FrC.rf, rfl, fun _ => rfl, fun _ _ _ => rfl⟩
    · rw [eH, x41_13, qs.1]
      simp (disch := first | assumption | omega | exact nI_or0 | exact nI_or1 | exact bN_or _) only [x41_14, x41_15, x41_18, x41_21, x41_22, x41_25, x41_26, x41_27, x41_29, x41_30, x41_33, x41_35, x41_38, x41_41, x41_42, x41_44, x41_47, x41_50, x41_52, x41_53, x41_55, x41_56, x41_57, x41_59, x41_60, x41_63, x41_65, x41_66, x41_69, x41_70, x41_71, x41_74, x41_76, x41_77, x41_80, x41_81, x41_82, x41_85, x41_87, x41_88, x41_91, x41_92, x41_93, x41_94, x41_95, x41_98, x41_99, x41_101, x41_104, x41_107, reduceIte, Nat.reduceLT, nW_ap, nW_up, nI_add, pk_mul, nI_ltI, nI_eq, if_true, if_false, kont_r, kont_v, Nat.reduceAdd, Nat.reduceMul, Nat.not_lt, not_true_eq_false, not_false_eq_true, Nat.one_ne_zero, Nat.reduceEqDiff, Nat.lt_irrefl, reduceCtorEq, nI_or0, nI_or1, hm, hR19, k0, bN, Nat.sub_zero]
    · rw [e1]; exact hX.e wrkM0
  · have eH : wrkH c V left j = min (ndJ (V 22 0) j) left := if_neg qs
    have hH : wrkH c V left j = min left (ndJ (V 22 0) j) := by rw [eH]; omega
    have hHle := wrkH_le (f := c) (N := V) (l := left) (j := j)
    have hnl := ndJ_lt (S := V 22 0) (j := j)
    have s15 := t15 (X := X) (N := N) (L := L) (Z := Z) (b := 16 * P + j) hR hb sb.2.1 (by rw [m2, ← hz, j4]; omega)
    rw [m2, ← hz, ← hnd] at s15
    have mm := mI_n (a := left) (b := ndJ (V 22 0) j) (by omega) (by omega)
    rw [← hH] at mm
    have S1 : SB (wmC N P j (wrkH c V left j)) := by
      unfold wmC
      exact ((hX.2.2.2.2.2.up (by omega) (by omega)).up (by omega) (by omega)).up (by omega) (by omega)
    have w4 : (wmC N P j (wrkH c V left j)) 2 (16 * P + j) 4 = V 22 0 (93 + 3 * j + 2) + wrkH c V left j := by
      unfold wmC
      rw [u_ne (by omega), u_ne (by omega), up3_self, j4]
    have s42 := t42 (X := X) (N := wmC N P j (wrkH c V left j)) (L := L) (Z := Z) (P := P) (j := j) hR hP hj S1 (by
      rw [w4, ← hz]
      omega)
    rw [← hz] at s42
    have F1 : FrC P N (wmC N P j (wrkH c V left j)) := ((FrC.rf.up (by omega)).up (by omega)).up (by omega)
    have o3 : ∀ i, (wmC N P j (wrkH c V left j)) 2 i 3 = N 2 i 3 := fun i => by rw [wm_o (by omega) (by omega)]
    have o0 : ∀ i s, (wmC N P j (wrkH c V left j)) 0 i s = N 0 i s := fun i s => by rw [wm_o (by omega) (by omega)]
    have o56 : (wmC N P j (wrkH c V left j)) 5 P 6 = N 5 P 6 := by rw [wm_o (by omega) (by omega)]
    have step : ∀ {N2 : GV}, exec X 42 [vR 5 P, vR 2 (16 * P + j)] (gg (nW (wmC N P j (wrkH c V left j))) R L Z) = some (.inl none, (gg (nW (N2)) R L Z)) → ex X 41 13 [vR 5 P, vI (nI (bN c)), vI (nI left), vI (nI m), l4, l5] [] (gg (nW N) R L Z) = ex X 41 13 [vR 5 P, vI (nI (bN c)), vI (nI (left - wrkH c V left j)), vI (nI (m + 1)), vR 2 (16 * P + j), vI (nI (wrkH c V left j))] [] (gg (nW (N2)) R L Z) := fun {N2} s => by
      unfold wmC at s
      have r1 : ∀ {v : Nat}, up3 N 2 (16 * P + j) 4 v 5 P 10 = N 5 P 10 := up3_k _ _ (by decide)
      have r2 : ∀ {v w : Nat}, up3 (up3 N 2 (16 * P + j) 4 v) 5 P 10 w 5 P 9 = N 5 P 9 := fun {v w} => by rw [up3_s _ _ (by decide), up3_k _ _ (by decide)]
      have r3 : ∀ {v w : Nat}, up3 (up3 N 2 (16 * P + j) 4 v) 5 P 10 w 18 P 4 = N 18 P 4 := fun {v w} => by rw [up3_k _ _ (by decide), up3_k _ _ (by decide)]
      have hle := hHle.2
      rw [x41_13]
      cases c with
      | false => simp (disch := first | assumption | omega | exact nI_or0 | exact nI_or1 | exact bN_or _) only [x41_14, x41_15, x41_18, x41_21, x41_22, x41_25, x41_26, x41_27, x41_29, x41_30, x41_33, x41_35, x41_38, x41_41, x41_42, x41_44, x41_47, x41_50, x41_52, x41_53, x41_55, x41_56, x41_57, x41_59, x41_60, x41_63, x41_65, x41_66, x41_69, x41_70, x41_71, x41_74, x41_76, x41_77, x41_80, x41_81, x41_82, x41_85, x41_87, x41_88, x41_91, x41_92, x41_93, x41_94, x41_95, x41_98, x41_99, x41_101, x41_104, x41_107, reduceIte, Nat.reduceLT, nW_ap, nW_up, nI_add, pk_mul, nI_ltI, nI_eq, if_true, if_false, kont_r, kont_v, Nat.reduceAdd, Nat.reduceMul, Nat.not_lt, not_true_eq_false, not_false_eq_true, Nat.one_ne_zero, Nat.reduceEqDiff, Nat.lt_irrefl, reduceCtorEq, nI_or0, nI_or1, hm, hR19, bN, Bool.false_eq_true, s15, mm, pk_sub, r1, r2, r3, s]
      | true =>
        have k1 : N 2 (16 * P + j) 1 = 1 := by
          have : ¬ j % 2 = 0 := fun e => qs ⟨rfl, e⟩
          omega
        simp (disch := first | assumption | omega | exact nI_or0 | exact nI_or1 | exact bN_or _) only [x41_14, x41_15, x41_18, x41_21, x41_22, x41_25, x41_26, x41_27, x41_29, x41_30, x41_33, x41_35, x41_38, x41_41, x41_42, x41_44, x41_47, x41_50, x41_52, x41_53, x41_55, x41_56, x41_57, x41_59, x41_60, x41_63, x41_65, x41_66, x41_69, x41_70, x41_71, x41_74, x41_76, x41_77, x41_80, x41_81, x41_82, x41_85, x41_87, x41_88, x41_91, x41_92, x41_93, x41_94, x41_95, x41_98, x41_99, x41_101, x41_104, x41_107, reduceIte, Nat.reduceLT, nW_ap, nW_up, nI_add, pk_mul, nI_ltI, nI_eq, if_true, if_false, kont_r, kont_v, Nat.reduceAdd, Nat.reduceMul, Nat.not_lt, not_true_eq_false, not_false_eq_true, Nat.one_ne_zero, Nat.reduceEqDiff, Nat.lt_irrefl, reduceCtorEq, nI_or0, nI_or1, hm, hR19, bN, k1, s15, mm, pk_sub, r1, r2, r3, s]
    by_cases qf : wrkH c V left j = ndJ (V 22 0) j
    · have ew : (wmC N P j (wrkH c V left j)) 2 (16 * P + j) 4 = z := by
        rw [w4, qf]
        omega
      rw [if_pos ew] at s42
      refine ⟨fnC (wmC N P j (wrkH c V left j)) P j, vR 2 (16 * P + j), vI (nI (wrkH c V left j)), step s42, ?_, ?_, ?_, ?_, ?_⟩
      · unfold wrk1
        rw [if_pos qf]
        exact RX.fn hX hP hj ho h4
      · unfold fnC
        split
        · exact ((F1.up (by omega)).up (by omega)).up (by omega)
        · exact F1.up (by omega)
      · rw [fn_o (by omega) (by omega), o56]
      · intro i
        rw [fn_o (by omega) (by omega), o3]
      · intro i s hs
        rw [← o0 i s]
        unfold fnC
        split
        · rw [u_ne (by omega), u_ne (by omega), u_ne (by omega)]
        · rw [u_ne (by omega)]
    · have ew : ¬ (wmC N P j (wrkH c V left j)) 2 (16 * P + j) 4 = z := by
        rw [w4]
        omega
      rw [if_neg ew] at s42
      refine ⟨wmC N P j (wrkH c V left j), vR 2 (16 * P + j), vI (nI (wrkH c V left j)), step s42, ?_, F1, o56, o3, fun i s _ => o0 i s⟩
      unfold wrk1
      rw [if_neg qf]
      exact RX.wm hX hP hj ho h4 qf hHle.1
