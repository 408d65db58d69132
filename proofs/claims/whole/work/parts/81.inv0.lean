/-! the law's first call -/
theorem law0 {X : XS} : ∃ R' L', exec X 200 [vR 31 0] G0 = ex X 200 23 [vR 31 0, vR 6 0, vR 7 0, vR 30 0, vI (nI 0), vU, vU, vU, vU] [] (gk (up1 (cM (up1 c45 7 1)) 30 1) (nW N0) R' L' (298, 4392, true)) ∧ RQ R' 8 ∧ R' 6 0 4 = some 0 ∧ R' 6 0 5 = some 0 ∧ R' 3 0 0 = some 0 ∧ R' 3 0 2 = some 0 ∧ R' 3 0 3 = some 0 ∧ R' 3 0 4 = some 0 ∧ RM R' := by
  have eG : G0 = gk (fun _ => 0) (nW (Nj 0 0)) (fun _ _ _ => none) (fun _ _ _ => 0) (0, 0, true) := by
    unfold G0 gk
    have : nW (Nj 0 0) = fun _ _ _ => 0 := by
      funext k i s
      rw [nW_ap, Nj_z (fun _ => Nat.zero_le _) fun _ => Nat.zero_le _]
      rfl
    rw [this]
  have e0 : up2 (nW (Nj 0 0)) 6 0 0 = nW (Nj 0 0) := up2_0 fun s => Nj_z (fun q => absurd q (by omega)) fun q => absurd q (by omega)
  have s1 : ∀ lv st, _ := fun lv st => y200_0 (X := X) (lv := lv) (st := st) (c := fun _ => 0) (I := nW (Nj 0 0)) (R := fun _ _ _ => none) (L := fun _ _ _ => 0) (y := 0) (z := 0) (n := 0) rfl rfl
  have ec : up1 (fun _ => 0) 6 1 = cG 0 0 0 0 := by
    funext k
    unfold up1 cG
    by_cases h : k = 6
    · subst h; rfl
    · simp only [h, if_false]
      repeat (first | rfl | (split; rfl))
  simp only [Nat.zero_add] at s1
  rw [e0, ec] at s1
  obtain ⟨R1, L1, s2, h1, a1, a2, a3, a4, a5, a6⟩ := i45 (X := X) (R := up2 (fun _ _ _ => none) 6 0 none) (L := up2 (fun _ _ _ => 0) 6 0 0) (y := 6)
  have s3 : ∀ lv st, _ := fun lv st => y200_8 (X := X) (lv := lv) (st := st) (c := c45) (I := nW (Nj 128 8)) (R := R1) (L := L1) (y := 2555) (z := 288) (n := 0) rfl rfl
  have e1 : up2 (nW (Nj 128 8)) 7 0 0 = nW (Nj 128 8) := up2_0 fun s => Nj_z (fun q => absurd q (by omega)) fun q => absurd q (by omega)
  rw [e1] at s3
  obtain ⟨R2, L2, s4, h2, b⟩ := i89 (X := X) (R := up2 R1 7 0 none) (L := up2 L1 7 0 0) (y := 2570)
  have s5 : ∀ lv st, _ := fun lv st => y200_17 (X := X) (lv := lv) (st := st) (c := cM (up1 c45 7 1)) (I := nW N0) (R := R2) (L := L2) (y := 4391) (z := 297) (n := 0) rfl rfl
  have e2 : up2 (nW N0) 30 0 0 = nW N0 := up2_0 fun s => by
    unfold N0
    rw [u_ne (by omega), u_ne (by omega), u_ne (by omega), u_ne (by omega), u_ne (by omega)]
    exact Nj_z (fun q => absurd q (by omega)) fun q => absurd q (by omega)
  rw [e2] at s5
  simp only [Nat.reduceAdd, Nat.zero_add] at s2 s3 s4 s5
  have fr : ∀ k i s, ¬ k = 7 → ¬ 22 ≤ k → R2 k i s = R1 k i s := fun k i s p q => (b k i s p fun r => q r.1).trans (if_neg fun r => p r.1)
  refine ⟨up2 R2 30 0 none, up2 L2 30 0 0, ?_, ⟨fun q hq => (h1.1 q hq).fr fun k i s a => ?_, ?_, ?_, ?_, fun i hi => ?_⟩, ?_, ?_, ?_, ?_, ?_, ?_, ?_⟩
  · rw [eG, in200]
    simp only [y200_0, y200_3, y200_4, y200_7, y200_8, y200_11, y200_12, y200_15, y200_16, y200_17, y200_19, y200_20, y200_21, s1, s2, s3, s4, s5, kont_v, Nat.reduceAdd]
  · exact (if_neg (by omega)).trans (fr _ _ _ (by omega) (by omega))
  · exact (if_neg (by omega)).trans ((fr _ _ _ (by omega) (by omega)).trans h1.2.1)
  · exact (if_neg (by omega)).trans ((fr _ _ _ (by omega) (by omega)).trans h1.2.2.1)
  · exact (if_neg (by omega)).trans ((fr _ _ _ (by omega) (by omega)).trans h1.2.2.2.1)
  · exact (if_neg (by omega)).trans ((fr _ _ _ (by omega) (by omega)).trans (h1.2.2.2.2 i hi))
  · exact (if_neg (by omega)).trans ((fr _ _ _ (by omega) (by omega)).trans a1)
  · exact (if_neg (by omega)).trans ((fr _ _ _ (by omega) (by omega)).trans a2)
  · exact (if_neg (by omega)).trans ((fr _ _ _ (by omega) (by omega)).trans a3)
  · exact (if_neg (by omega)).trans ((fr _ _ _ (by omega) (by omega)).trans a4)
  · exact (if_neg (by omega)).trans ((fr _ _ _ (by omega) (by omega)).trans a5)
  · exact (if_neg (by omega)).trans ((fr _ _ _ (by omega) (by omega)).trans a6)
  · simpa [RM, up2] using h2
theorem c0_F : up1 (cM (up1 c45 7 1)) 30 1 = cF := by
  funext k
  by_cases hk : k < 31
  · have a : ∀ k, k < 31 → up1 (cM (up1 c45 7 1)) 30 1 k = cF k := by decide +kernel
    exact a k hk
  · have e : cF k = 0 := by
      unfold cF
      split <;> first | omega | rfl
    rw [e]
    unfold cM c45 up1 cG
    repeat rw [if_neg (by omega)]
theorem isr_l {k s : Nat} (h : isr k s = true) : s < 15 := by
  unfold isr at h
  split at h
  · have := of_decide_eq_true h; omega
  · exact absurd h (by decide)
  · exact absurd h (by decide)
  · have hl : ∀ k, (kS k).length ≤ 15 := fun k => by unfold kS; split <;> decide
    split at h
    · next q =>
      have := (List.getElem?_eq_some_iff.1 q).1
      have := hl k
      omega
    · exact absurd h (by decide)
def LrR : List (Nat × Nat) := [(0, 0), (0, 1), (1, 0), (1, 1), (3, 0), (3, 2), (3, 3), (3, 4), (4, 0), (4, 1), (4, 2), (5, 1), (5, 2), (5, 3), (5, 4), (5, 5), (6, 0), (6, 1), (6, 2), (6, 4), (6, 5), (7, 1), (7, 2), (7, 3), (7, 5), (7, 7), (7, 8), (7, 9), (7, 12)]
theorem isr_L {k s : Nat} (hk : k < 31) (h : isr k s = true) : (k = 17 ∧ s < 8) ∨ (k, s) ∈ LrR := by
  have a : ((List.range 31).all fun k => (List.range 15).all fun s => !isr k s || (decide (k = 17 ∧ s < 8) || LrR.contains (k, s))) = true := by decide +kernel
  have b := List.all_eq_true.1 (List.all_eq_true.1 a k (List.mem_range.2 hk)) s (List.mem_range.2 (isr_l h))
  rw [h] at b
  simp only [Bool.not_true, Bool.false_or, Bool.or_eq_true, decide_eq_true_eq, List.contains_iff_mem] at b
  exact b
theorem Rok_0 {R : GR} (h : RQ R 8) (a1 : R 6 0 4 = some 0) (a2 : R 6 0 5 = some 0) (a3 : R 3 0 0 = some 0) (a4 : R 3 0 2 = some 0) (a5 : R 3 0 3 = some 0) (a6 : R 3 0 4 = some 0) (m : RM R) : Rok R := by
  intro k i s hi hs
  have hk : k < 31 := by
    by_cases q : k < 31
    · exact q
    · have e : cF k = 0 := by
        unfold cF
        split <;> first | omega | rfl
      omega
  obtain ⟨hP, b0, b1, b2, b3⟩ := h
  obtain ⟨m1, m2, m3, m4, m5, m6, m7, m8⟩ := m
  rcases isr_L hk hs with ⟨rfl, q⟩ | q
  · exact ((hP i hi).2 s q).1
  · simp only [LrR, List.mem_cons, Prod.mk.injEq, List.not_mem_nil, or_false] at q
    have e8 : 8 * (i / 8) + i % 8 = i := by omega
    rcases q with ⟨rfl, rfl⟩ | ⟨rfl, rfl⟩ | q
    · have hi' : i < 64 := hi
      have := ((hP (i / 8) (by omega)).2 (i % 8) (by omega)).2.1
      rw [e8] at this
      exact this
    · have hi' : i < 64 := hi
      have := ((hP (i / 8) (by omega)).2 (i % 8) (by omega)).2.2
      rw [e8] at this
      exact this
    · have h8 : ∀ j, j < 8 → RA R j := fun j hj => (hP j hj).1
      have z1 : i < 1 → i = 0 := fun q => by omega
      rcases q with ⟨rfl, rfl⟩ | ⟨rfl, rfl⟩ | ⟨rfl, rfl⟩ | ⟨rfl, rfl⟩ | ⟨rfl, rfl⟩ | ⟨rfl, rfl⟩ | ⟨rfl, rfl⟩ | ⟨rfl, rfl⟩ | ⟨rfl, rfl⟩ | ⟨rfl, rfl⟩ | ⟨rfl, rfl⟩ | ⟨rfl, rfl⟩ | ⟨rfl, rfl⟩ | ⟨rfl, rfl⟩ | ⟨rfl, rfl⟩ | ⟨rfl, rfl⟩ | ⟨rfl, rfl⟩ | ⟨rfl, rfl⟩ | ⟨rfl, rfl⟩ | ⟨rfl, rfl⟩ | ⟨rfl, rfl⟩ | ⟨rfl, rfl⟩ | ⟨rfl, rfl⟩ | ⟨rfl, rfl⟩ | ⟨rfl, rfl⟩ | ⟨rfl, rfl⟩ | ⟨rfl, rfl⟩
      · exact (h8 i hi).2.2.2.2.2.1
      · exact (h8 i hi).2.2.2.2.2.2.1
      · rw [z1 hi]; exact a3
      · rw [z1 hi]; exact a4
      · rw [z1 hi]; exact a5
      · rw [z1 hi]; exact a6
      · exact (h8 i hi).2.2.2.2.2.2.2.1
      · exact (h8 i hi).2.2.2.2.2.2.2.2.1
      · exact (h8 i hi).2.2.2.2.2.2.2.2.2
      · exact (h8 i hi).1
      · exact (h8 i hi).2.1
      · exact (h8 i hi).2.2.1
      · exact (h8 i hi).2.2.2.1
      · exact (h8 i hi).2.2.2.2.1
      · rw [z1 hi]; exact b0
      · rw [z1 hi]; exact b1
      · rw [z1 hi]; exact b2
      · rw [z1 hi]; exact a1
      · rw [z1 hi]; exact a2
      · rw [z1 hi]; exact m1
      · rw [z1 hi]; exact m2
      · rw [z1 hi]; exact m3
      · rw [z1 hi]; exact m4
      · rw [z1 hi]; exact m5
      · rw [z1 hi]; exact m6
      · rw [z1 hi]; exact m7
      · rw [z1 hi]; exact m8
theorem n0_0 {k i s : Nat} (h2 : ¬ k = 2) (h18 : ¬ k = 18) (h22 : k = 22 → ¬ s = 0 ∧ ¬ s = 2 ∧ ¬ s = 3 ∧ ¬ s = 4) : N0 k i s = 0 := by
  have z : Nj 128 8 k i s = 0 := Nj_z (fun q => absurd q h2) fun q => absurd q h18
  unfold N0
  rw [u_ne (by omega), u_ne (by omega), u_ne (by omega), u_ne (by omega)]
  by_cases q : k = 7 ∧ i = 0 ∧ s = 0
  · rw [u_eq q]
  · rw [u_ne q]; exact z
theorem n0_2 {i s : Nat} (h : 2 ≤ s) : N0 2 i s = 0 := by
  unfold N0
  rw [u_ne (by omega), u_ne (by omega), u_ne (by omega), u_ne (by omega), u_ne (by omega)]
  unfold Nj
  rw [if_neg (by omega), if_neg (by omega), if_neg (by omega)]
theorem n0_v {s : Nat} (h : ¬ s = 0 ∧ ¬ s = 2 ∧ ¬ s = 3 ∧ ¬ s = 4) : N0 22 0 s = 0 := n0_0 (by omega) (by omega) fun _ => h
theorem n0_s {s : Nat} : N0 22 0 s = stS s := by
  by_cases h : ¬ s = 0 ∧ ¬ s = 2 ∧ ¬ s = 3 ∧ ¬ s = 4
  · rw [n0_v h]
    unfold stS
    rw [if_neg h.1, if_neg h.2.1, if_neg h.2.2.1, if_neg h.2.2.2]
  · have h' : s = 0 ∨ s = 2 ∨ s = 3 ∨ s = 4 := by omega
    rcases h' with rfl | rfl | rfl | rfl
    · exact (u_ne (by omega)).trans ((u_ne (by omega)).trans ((u_ne (by omega)).trans (u_eq ⟨rfl, rfl, rfl⟩)))
    · exact (u_ne (by omega)).trans ((u_ne (by omega)).trans (u_eq ⟨rfl, rfl, rfl⟩))
    · exact (u_ne (by omega)).trans (u_eq ⟨rfl, rfl, rfl⟩)
    · exact u_eq ⟨rfl, rfl, rfl⟩
theorem n0_j {b : Nat} (h : b < 128) : N0 2 b 0 = b / 2 % 8 ∧ N0 2 b 1 = b % 2 := by
  have e : ∀ s, N0 2 b s = Nj 128 8 2 b s := fun s => by
    unfold N0
    rw [u_ne (by omega), u_ne (by omega), u_ne (by omega), u_ne (by omega), u_ne (by omega)]
  rw [e, e]
  unfold Nj
  rw [if_pos ⟨rfl, h, rfl⟩, if_neg (by omega), if_pos ⟨rfl, h, rfl⟩]
  exact ⟨rfl, rfl⟩
theorem n0_18 {k : Nat} : N0 18 0 k = stS k := by
  unfold N0
  rw [u_ne (by omega), u_ne (by omega), u_ne (by omega), u_ne (by omega), u_ne (by omega)]
  unfold Nj
  rw [if_neg (by omega), if_neg (by omega), if_pos ⟨rfl, by omega⟩]
theorem INV_0 {R : GR} (hR : Rok R) (h20 : ∀ i, i + 2 < 8 → R 20 0 i = some (i + 2)) : INV N0 R := by
  have v5 : N0 22 0 5 = 0 := n0_v (by omega)
  have v6 : N0 22 0 6 = 0 := n0_v (by omega)
  have v7 : N0 22 0 7 = 0 := n0_v (by omega)
  have v8 : N0 22 0 8 = 0 := n0_v (by omega)
  have v9 : N0 22 0 9 = 0 := n0_v (by omega)
  have w4 : N0 7 0 4 = 0 := n0_0 (by omega) (by omega) (by omega)
  have w6 : N0 7 0 6 = 0 := n0_0 (by omega) (by omega) (by omega)
  have vz : ∀ s, 5 ≤ s → N0 22 0 s = 0 := fun s h => n0_v (by omega)
  have oz : ∀ k i s, ¬ k = 2 → ¬ k = 18 → ¬ k = 22 → N0 k i s = 0 := fun k i s a b c => n0_0 a b fun q => absurd q c
  refine ⟨hR, fun b hb h => ?_, ⟨⟨fun p hp => ⟨?_, fun h => ?_⟩, fun j hj => ⟨?_, fun h => ?_⟩, ?_, fun p hp => ⟨?_, fun h => ?_, fun _ => ?_⟩, fun j hj h => ?_, ?_⟩, ⟨fun k hk => ?_, ?_⟩, ⟨?_, fun k hk => ?_⟩, ⟨?_, [], ⟨List.Pairwise.nil, fun k => ?_⟩, ?_, fun i hi => ?_⟩⟩, ?_, ?_, fun i hi => ?_, ⟨?_, fun j hj => ?_⟩, ?_, fun j hj => ?_⟩
  · rw [n0_2 (by omega)] at h; omega
  · rw [oz _ _ _ (by omega) (by omega) (by omega), vz _ (by omega)]
  · rw [vz _ (by omega)] at h; omega
  · rw [n0_2 (by omega), vz _ (by omega)]
  · rw [vz _ (by omega)] at h; omega
  · refine ⟨?_, ?_, ?_, ?_, ?_⟩
    all_goals rw [oz _ _ _ (by omega) (by omega) (by omega), vz _ (by omega)]
  · rw [vz _ (by omega), vz _ (by omega)]
  · rw [vz _ (by omega)] at h; omega
  · exact ⟨vz _ (by omega), vz _ (by omega), fun w hw => vz _ (by omega)⟩
  · rw [vz _ (by omega)] at h; omega
  · refine ⟨fun f hf => ?_, fun b hb => ?_⟩
    · rw [oz _ _ _ (by omega) (by omega) (by omega), oz _ _ _ (by omega) (by omega) (by omega), oz _ _ _ (by omega) (by omega) (by omega)]
      omega
    · obtain ⟨a, c⟩ := n0_j hb
      exact ⟨a, c, by rw [n0_2 (by omega)]; omega, by rw [n0_2 (by omega)]; omega⟩
  · rw [n0_18, n0_s]
  · rw [oz _ _ _ (by omega) (by omega) (by omega), v5]
  · rw [oz _ _ _ (by omega) (by omega) (by omega), v6]
  · rw [v6] at hk; omega
  · rw [oz _ _ _ (by omega) (by omega) (by omega), v7]
  · rw [v7]; simp
  · rw [v7]; rfl
  · rw [v7] at hi; omega
  · refine ⟨⟨⟨by omega, fun j => ?_, fun p hp => ?_⟩, fun s h1 h2 => ?_⟩, by omega, by omega, by omega, by omega, ⟨fun k hk => by omega, fun i j _ hj => by omega⟩⟩
    · rw [v5, n0_s]
      unfold stS bd b0 b1 b2 b4
      repeat' split
      all_goals omega
    · rw [vz _ (by omega)]; omega
    · exact vz _ (by omega)
  · refine ⟨?_, by omega, [2, 3, 4, 5, 6, 7], ⟨rfl, by decide, fun a ha => ?_, fun i hi => ?_⟩, fun i hi => by omega⟩
    · rw [oz _ _ _ (by omega) (by omega) (by omega), w4]
    · simp only [List.mem_cons, List.not_mem_nil, or_false] at ha
      omega
    · rw [h20 i (by omega)]
      match i, hi with
      | 0, _ => rfl
      | 1, _ => rfl
      | 2, _ => rfl
      | 3, _ => rfl
      | 4, _ => rfl
      | 5, _ => rfl
      | n + 6, h => omega
  · omega
  · omega
  · omega
  · rw [oz _ _ _ (by omega) (by omega) (by omega), w6]
  · omega
theorem small0 : Small := by
  intro L xs hL
  obtain ⟨R, L0, s, hQ, a1, a2, a3, a4, a5, a6, hM⟩ := law0 (X := (L, xs))
  have hR := Rok_0 hQ a1 a2 a3 a4 a5 a6 hM
  have hI := INV_0 hR hQ.2.2.2.2
  obtain ⟨Ge, t, b1, b2⟩ := L_loop (X := (L, xs)) (by show L < 2 ^ 30; omega) 512 (N := N0) (R := R) (L := L0) (Z := (298, 4392, true)) (i := 0) (l5 := vU) (l6 := vU) (l7 := vU) (l8 := vU) hI (by show L < 0 + 5 + 5 * 512; omega) (by omega)
  refine ⟨Ge, ?_, Nat.le_trans b1 (by decide), Nat.le_trans b2 (by decide)⟩
  rw [s, c0_F]
  exact t
