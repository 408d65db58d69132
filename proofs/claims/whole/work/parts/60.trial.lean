/-! the class tries days -/
theorem cw_up {S : Nat → Nat} {j v : Nat} : up3 (cw S) 22 0 j v = cw fun s => if s = j then v else S s := by
  funext k i s
  unfold up3 cw
  by_cases q1 : k = 22 ∧ i = 0
  · by_cases q2 : s = j
    · rw [if_pos ⟨q1.1, q1.2, q2⟩, if_pos q1]; exact (if_pos q2).symm
    · rw [if_neg (by omega), if_pos q1, if_pos q1]; exact (if_neg q2).symm
  · rw [if_neg (by omega), if_neg q1, if_neg q1]
/-- a state from which days go on -/
def DW (V : GV) : Prop := DI (V 22 0 5) V ∧ ouZ (V 22 0)
theorem DW.day {V : GV} (h : DW V) (h5 : V 22 0 5 ≤ 1058) : DW (dayN V) ∧ (dayN V) 22 0 5 = V 22 0 5 + 1 := by
  have a := day_w (h.1.mo (K' := V 22 0 5 + 1) (by omega) (by omega)) (by omega)
  exact ⟨⟨by rw [a.2.2.2.1]; exact a.1, a.2.1⟩, a.2.2.2.1⟩
theorem DW.days {V : GV} (h : DW V) : ∀ n, V 22 0 5 + n ≤ 1059 → DW (daysN n V) ∧ (daysN n V) 22 0 5 = V 22 0 5 + n
  | 0, _ => ⟨h, rfl⟩
  | n + 1, hn => by
    have a := h.days n (by omega)
    have b := a.1.day (by rw [a.2]; omega)
    exact ⟨b.1, by show (dayN (daysN n V)) 22 0 5 = _; rw [b.2, a.2]; omega⟩
theorem DW.e {V V' : GV} (h : DW V) (e : V' 22 0 = V 22 0) : DW V' := ⟨by rw [e]; exact h.1.e0 e, by rw [e]; exact h.2⟩
/-- another order of jobs -/
theorem DW.or {V : GV} {o : Nat} (h : DW V) (ho : o ≤ 2) : DW (up3 V 22 0 1 o) := by
  refine ⟨?_, fun s a b => ?_⟩
  · rw [up3_s _ _ (by decide)]; exact h.1.up' (bd_S (by omega) (by unfold b0; omega)) (by omega)
  · rw [up3_s _ _ (by decide)] at a
    rw [up3_s _ _ (by omega)]
    exact h.2 s a b
theorem PK.or {P o : Nat} {N V : GV} (hD : DW V) (h : PK N P V) : PK (up3 N 18 P 1 o) P (up3 V 22 0 1 o) := by
  have m : ∀ k i s, ¬ k = 18 → up3 N 18 P 1 o k i s = N k i s := fun k i s q => u_ne (by omega)
  have v : ∀ s, ¬ s = 1 → up3 V 22 0 1 o 22 0 s = V 22 0 s := fun s q => u_ne (by omega)
  refine ⟨h.1.g (fun p s _ _ _ => m _ _ _ (by omega)) (fun p s _ _ _ => m _ _ _ (by omega)) (fun s _ _ => m _ _ _ (by omega)) (fun s _ _ => v _ (by omega)) (h.1.2.2.2.2.2.g fun k i s _ => m _ _ _ (by omega)), ⟨fun k hk => ?_, ?_⟩, h.2.2.1.g hD.1.h6 (m _ _ _ (by omega)) (fun k s _ _ => m _ _ _ (by omega)) (fun s _ => v _ (by omega)), h.2.2.2.g hD.1.h7 (m _ _ _ (by omega)) (fun k s _ _ _ => m _ _ _ (by omega)) (fun s _ => v _ (by omega))⟩
  · by_cases e : k = 1
    · subst e; rw [up3_self, up3_self]
    · rw [u_ne (by omega), v _ e]; exact h.2.1.1 k hk
  · rw [m _ _ _ (by omega), v _ (by omega)]; exact h.2.1.2
/-- what the trials of days change -/
def FrT (N N' : GV) : Prop := ∀ k i s, ¬ own 1 k i → ¬ k = 21 → N' k i s = N k i s
def FrR (R R' : GR) : Prop := Rok R' ∧ ∀ k i s, ¬ k = 19 → R' k i s = R k i s
theorem FrP.t {N N' : GV} (h : FrP 1 N N') : FrT N N' := fun k i s a _ => h k i s a
theorem FrT.tr {N1 N2 N3 : GV} (h1 : FrT N1 N2) (h2 : FrT N2 N3) : FrT N1 N3 := fun k i s a b => (h2 k i s a b).trans (h1 k i s a b)
theorem FrR.tr {R1 R2 R3 : GR} (h1 : FrR R1 R2) (h2 : FrR R2 R3) : FrR R1 R3 := ⟨h2.1, fun k i s a => (h2.2 k i s a).trans (h1.2 k i s a)⟩
theorem FrR.of {R R' : GR} {P : Nat} (h : Rok R') (e : ∀ k i s, ¬ (k = 19 ∧ i = P) → R' k i s = R k i s) : FrR R R' := ⟨h, fun k i s q => e k i s fun x => q x.1⟩
theorem t81 {X : XS} {N : GV} {R : GR} {L : GL} {Z : Nat × Nat × Bool} (hR : Rok R) {n o : Nat} {V : GV} (hD : DW V) (h : PK N 0 V) (hJ : JB N) (hn : V 22 0 5 + n ≤ 1059) (ho : o ≤ 2) : ∃ N' R', exec X 81 [vR 6 0, vI (nI n), vI (nI o)] (gg (nW N) R L Z) = some (.inl none, gg (nW N') R' L Z) ∧ PK N' 1 (daysN n (up3 V 22 0 1 o)) ∧ FrT N N' ∧ FrR R R' ∧ JB N' := by
  obtain ⟨N1, s32, p1, f1, j1⟩ := t32 (X := X) (N := N) (L := L) (Z := Z) (P := 1) (Q := 0) hR (by omega) (by omega) (by omega) hD.1 h hJ
  have p2 := p1.or (o := o) hD
  have hD2 := hD.or ho
  have e5 : (up3 V 22 0 1 o) 22 0 5 = V 22 0 5 := u_ne (by omega)
  have f2 : FrP 1 N (up3 N1 18 1 1 o) := f1.up (by unfold own; omega)
  have j2 : JB (up3 N1 18 1 1 o) := j1.x (P := 1) (FrP.rf.up (by unfold own; omega)) p2.1 hD2.1
  generalize up3 V 22 0 1 o = W at p2 hD2 e5 ⊢
  have key : ∀ k, k ≤ n → ∀ M R1, PK M 1 (daysN k W) → JB M → FrT N M → FrR R R1 → ∃ N' R', ex X 81 23 [vR 6 0, vI (nI n), vI (nI o), vI (nI k)] [] (gg (nW M) R1 L Z) = some (.inl none, gg (nW N') R' L Z) ∧ PK N' 1 (daysN n W) ∧ FrT N N' ∧ FrR R R' ∧ JB N' := by
    refine down _ ?_ ?_
    · intro M R1 a1 a2 a3 a4
      refine ⟨M, R1, ?_, a1, a3, a4, a2⟩
      rw [x81_23]
      simp (disch := first | assumption | omega | exact nI_or0 | exact nI_or1 | exact bN_or _) only [x81_24, x81_25, x81_41, reduceIte, Nat.reduceLT, nW_ap, nW_up, nI_add, pk_mul, nI_ltI, nI_eq, if_true, if_false, kont_r, kont_v, Nat.reduceAdd, Nat.reduceMul, Nat.not_lt, not_true_eq_false, not_false_eq_true, Nat.one_ne_zero, Nat.reduceEqDiff, Nat.lt_irrefl, reduceCtorEq, nI_or0, nI_or1, Nat.lt_irrefl]
    · intro k hk ih M R1 a1 a2 a3 a4
      have d := hD2.days k (by omega)
      obtain ⟨N2, R2, s39, p3, f3, hR2, r2, j3⟩ := t39 (X := X) (N := M) (R := R1) (L := L) (Z := Z) (P := 1) a4.1 (by omega) d.1.1 (by rw [d.2]; omega) a1 a2
      obtain ⟨N', R', b1, b2⟩ := ih N2 R2 p3 j3 (a3.tr f3.t) (a4.tr (FrR.of hR2 r2))
      refine ⟨N', R', ?_, b2⟩
      have hR1 := a4.1
      rw [← b1, x81_23]
      simp (disch := first | assumption | omega | exact nI_or0 | exact nI_or1 | exact bN_or _) only [x81_24, x81_25, x81_28, x81_29, x81_32, x81_35, x81_38, reduceIte, Nat.reduceLT, nW_ap, nW_up, nI_add, pk_mul, nI_ltI, nI_eq, if_true, if_false, kont_r, kont_v, Nat.reduceAdd, Nat.reduceMul, Nat.not_lt, not_true_eq_false, not_false_eq_true, Nat.one_ne_zero, Nat.reduceEqDiff, Nat.lt_irrefl, reduceCtorEq, nI_or0, nI_or1, hk, s39]
  obtain ⟨N', R', b1, b2⟩ := key 0 (Nat.zero_le _) _ R p2 j2 f2.t ⟨hR, fun _ _ _ _ => rfl⟩
  refine ⟨N', R', ?_, b2⟩
  rw [← b1]
  simp (disch := first | assumption | omega | exact nI_or0 | exact nI_or1 | exact bN_or _) only [in81, x81_0, x81_1, x81_4, x81_5, x81_8, x81_11, x81_12, x81_15, x81_18, x81_19, x81_20, x81_21, x81_22, reduceIte, Nat.reduceLT, nW_ap, nW_up, nI_add, pk_mul, nI_ltI, nI_eq, if_true, if_false, kont_r, kont_v, Nat.reduceAdd, Nat.reduceMul, Nat.not_lt, not_true_eq_false, not_false_eq_true, Nat.one_ne_zero, Nat.reduceEqDiff, Nat.lt_irrefl, reduceCtorEq, nI_or0, nI_or1, s32]
/-- one more outing today, or none -/
def mrV (V : GV) (c g : Nat) : GV := if c = 0 then V else plnN V (V 22 0 5) c g
theorem t82 {X : XS} {N : GV} {R : GR} {L : GL} {Z : Nat × Nat × Bool} (hR : Rok R) {c g : Nat} {V : GV} (hD : DW V) (h : PK N 0 V) (hJ : JB N) (h5 : V 22 0 5 ≤ 999) (h7 : V 22 0 7 ≤ 16) (hc : c ≤ 99) (hg : g < 8) : ∃ N' R', exec X 82 [vR 6 0, vI (nI c), vI (nI g)] (gg (nW N) R L Z) = some (.inl (some (vI (nI ((dayN (mrV V c g)) 22 0 8)))), gg (nW N') R' L Z) ∧ FrT N N' ∧ FrR R R' ∧ JB N' ∧ SB N' := by
  obtain ⟨N1, s32, p1, f1, j1⟩ := t32 (X := X) (N := N) (L := L) (Z := Z) (P := 1) (Q := 0) hR (by omega) (by omega) (by omega) hD.1 h hJ
  have fin : ∀ (M W : GV), PK M 1 W → JB M → FrP 1 N M → DW W → W 22 0 5 ≤ 1058 → ∃ N' R', ex X 82 34 [vR 6 0, vI (nI c), vI (nI g)] [] (gg (nW (M)) R L Z) = some (.inl (some (vI (nI ((dayN W) 22 0 8)))), gg (nW N') R' L Z) ∧ FrT N N' ∧ FrR R R' ∧ JB N' ∧ SB N' := by
    intro M W a1 a2 a3 a4 a5
    obtain ⟨N2, R2, s39, p3, f3, hR2, r2, j3⟩ := t39 (X := X) (N := M) (R := R) (L := L) (Z := Z) (P := 1) hR (by omega) a4.1 a5 a1 a2
    refine ⟨N2, R2, ?_, (a3.tr f3).t, FrR.of hR2 r2, j3, p3.1.2.2.2.2.2⟩
    have e7 := p3.1.2.2.1.1
    simp (disch := first | assumption | omega | exact nI_or0 | exact nI_or1 | exact bN_or _) only [x82_34, x82_35, x82_38, x82_41, x82_42, x82_45, x82_48, reduceIte, Nat.reduceLT, nW_ap, nW_up, nI_add, pk_mul, nI_ltI, nI_eq, if_true, if_false, kont_r, kont_v, Nat.reduceAdd, Nat.reduceMul, Nat.not_lt, not_true_eq_false, not_false_eq_true, Nat.one_ne_zero, Nat.reduceEqDiff, Nat.lt_irrefl, reduceCtorEq, nI_or0, nI_or1, s39, e7]
  unfold mrV
  by_cases q : c = 0
  · subst q
    rw [if_pos rfl]
    obtain ⟨N', R', b1, b2⟩ := fin N1 V p1 j1 f1 hD (by omega)
    refine ⟨N', R', ?_, b2⟩
    rw [← b1]
    simp (disch := first | assumption | omega | exact nI_or0 | exact nI_or1 | exact bN_or _) only [in82, x82_0, x82_1, x82_4, x82_5, x82_8, x82_11, x82_12, reduceIte, Nat.reduceLT, nW_ap, nW_up, nI_add, pk_mul, nI_ltI, nI_eq, if_true, if_false, kont_r, kont_v, Nat.reduceAdd, Nat.reduceMul, Nat.not_lt, not_true_eq_false, not_false_eq_true, Nat.one_ne_zero, Nat.reduceEqDiff, Nat.lt_irrefl, reduceCtorEq, nI_or0, nI_or1, s32]
  · rw [if_neg q]
    have hK := hD.1.hK
    obtain ⟨N2, s26, p2, f2⟩ := g26 (X := X) (N := N1) (L := L) (Z := Z) (P := 1) (d := V 22 0 5) (c := c) (g := g) hR (by omega) hD.1 p1 (by omega) (by omega) (by omega)
    have f3 : FrP 1 N1 N2 := fun k i s a => f2 k i s fun x => a (by unfold own; omega)
    have e5 : (plnN V (V 22 0 5) c g) 22 0 5 = V 22 0 5 := pl_s (by omega) (by omega)
    have hW : DW (plnN V (V 22 0 5) c g) := ⟨by rw [e5]; exact hD.1.pl (by omega) (by omega) hc (by omega), pln_z hD.2⟩
    obtain ⟨N', R', b1, b2⟩ := fin N2 _ p2 (j1.x f3 p2.1 hW.1) (f1.tr f3) hW (by rw [e5]; omega)
    refine ⟨N', R', ?_, b2⟩
    have e15 : N1 5 1 0 = V 22 0 5 := p1.2.1.2
    have q0 : 0 < c := by omega
    rw [← b1]
    simp (disch := first | assumption | omega | exact nI_or0 | exact nI_or1 | exact bN_or _) only [in82, x82_0, x82_1, x82_4, x82_5, x82_8, x82_11, x82_12, x82_15, x82_16, x82_19, x82_22, x82_23, x82_26, x82_29, x82_30, x82_31, reduceIte, Nat.reduceLT, nW_ap, nW_up, nI_add, pk_mul, nI_ltI, nI_eq, if_true, if_false, kont_r, kont_v, Nat.reduceAdd, Nat.reduceMul, Nat.not_lt, not_true_eq_false, not_false_eq_true, Nat.one_ne_zero, Nat.reduceEqDiff, Nat.lt_irrefl, reduceCtorEq, nI_or0, nI_or1, s32, q0, e15, s26]
/-- a filter of the reference is used up: the class's job is open -/
theorem usd_j {K P p : Nat} {N V : GV} (hD : DI K V) (h : PK N P V) (hp : p < 8) : usdB (V 22 0) p = decide (N 2 (16 * P + (2 * p + 1)) 2 = 1) := by
  obtain ⟨_, i2, i3⟩ := h.1.2.2.2.1 p hp
  have j := (h.1.2.1 (2 * p + 1) (by omega)).1
  have b := (hD.fo hp).2.2.2.2.2.2
  unfold usdB
  rw [j]
  by_cases q : V 22 0 (13 + 10 * p + 6) = 1
  · have := (i2 q).2
    by_cases e : V 22 0 (93 + 3 * (2 * p + 1)) = 1
    · rw [decide_eq_true ⟨q, this.1 e⟩, decide_eq_true e]
    · rw [decide_eq_false fun x => e (this.2 x.2), decide_eq_false e]
  · have := (i3 q).2.1
    rw [decide_eq_false fun x => q x.1, decide_eq_false (by omega)]
/-- the first day until d behind which a filter is used up -/
def fsd (S : Nat → Nat) (p : Nat) : Nat → Option Nat
  | 0 => if usdB (daysS 0 S) p = true then some 0 else none
  | d + 1 => match fsd S p d with
    | some k => some k
    | none => if usdB (daysS (d + 1) S) p = true then some (d + 1) else none
def oE : Option Nat → Nat
  | none => 4294967295
  | some k => k
theorem m1_n : (-1 : Int32) = nI 4294967295 := by decide
theorem oE_I {o : Option Nat} : nI (oE o) = oI o := by cases o with
  | none => exact m1_n.symm
  | some k => rfl
theorem fsd_le {S : Nat → Nat} {p : Nat} : ∀ d k, fsd S p d = some k → k ≤ d ∧ usdB (daysS k S) p = true
  | 0, k, h => by
    unfold fsd at h
    split at h
    · next q => cases h; exact ⟨Nat.le_refl _, q⟩
    · cases h
  | d + 1, k, h => by
    unfold fsd at h
    cases e : fsd S p d with
    | some j =>
      rw [e] at h
      cases h
      have := fsd_le d k e
      exact ⟨by omega, this.2⟩
    | none =>
      rw [e] at h
      simp only at h
      split at h
      · next q => cases h; exact ⟨Nat.le_refl _, q⟩
      · cases h
theorem fsd_u {S : Nat → Nat} {p : Nat} : ∀ d, d ≤ 60 → (∀ k, fsd S p d = some k → untF S p 61 0 = k) ∧ (fsd S p d = none → untF S p 61 0 = untF S p (60 - d) (d + 1))
  | 0, _ => by
    have e : untF S p 61 0 = if usdB (daysS 0 S) p = true then 0 else untF S p 60 1 := rfl
    unfold fsd
    by_cases q : usdB (daysS 0 S) p = true
    · rw [if_pos q] at e
      rw [if_pos q]
      exact ⟨fun k h => by cases h; exact e, fun h => by cases h⟩
    · rw [if_neg q] at e
      rw [if_neg q]
      exact ⟨fun k h => (by cases h), fun _ => e⟩
  | d + 1, hd => by
    obtain ⟨a, b⟩ := fsd_u (S := S) (p := p) d (by omega)
    unfold fsd
    cases e : fsd S p d with
    | some j => exact ⟨fun k h => by cases h; exact a j e, fun h => by cases h⟩
    | none =>
      simp only
      have b := b e
      obtain ⟨m, hm⟩ : ∃ m, 60 - d = m + 1 := ⟨59 - d, by omega⟩
      rw [hm] at b
      have e2 : untF S p (m + 1) (d + 1) = if usdB (daysS (d + 1) S) p = true then d + 1 else untF S p m (d + 1 + 1) := rfl
      rw [e2] at b
      by_cases q : usdB (daysS (d + 1) S) p = true
      · rw [if_pos q] at b
        rw [if_pos q]
        exact ⟨fun k h => by cases h; exact b, fun h => by cases h⟩
      · rw [if_neg q] at b
        rw [if_neg q]
        exact ⟨fun k h => (by cases h), fun _ => by rw [b, show 60 - (d + 1) = m by omega]⟩
/-- what is built stays built -/
def F6 (N N' : GV) : Prop := ∀ p, p < 8 → N' 22 0 (13 + 10 * p + 6) = N 22 0 (13 + 10 * p + 6)
theorem F6.rf {N : GV} : F6 N N := fun _ _ => rfl
theorem F6.up {N N' : GV} {k i s v : Nat} (h : F6 N N') (hs : k = 22 → s < 13 ∨ 93 ≤ s ∨ ¬ (s - 13) % 10 = 6) : F6 N (up3 N' k i s v) := fun p hp => by
  rw [u_ne (by omega)]; exact h p hp
theorem F6.rw {N N' : GV} {a i n : Nat} {f : Nat → Nat} (h : F6 N N') (ha : ¬ a = 22) : F6 N (rowTo N' a i n f) := fun p hp => by
  rw [rowTo_k (by omega)]; exact h p hp
theorem F6.en {N N' : GV} {j : Nat} (h : F6 N N') : F6 N (endN N' j) := ((h.up (by omega)).up (by omega)).up (by omega)
theorem F6.re {N N' : GV} {j : Nat} (h : F6 N N') : F6 N (repN N' j) := ((h.up (by omega)).up (by omega)).up (by omega)
theorem F6.fi {N N' : GV} {j : Nat} (h : F6 N N') : F6 N (finN N' j) := by
  unfold finN
  split
  · exact (h.up (by omega)).en
  · exact ((h.up (by omega)).up (by omega)).en
theorem F6.fz {N N' : GV} {p : Nat} (h : F6 N N') : F6 N (frzN N' p) := by
  unfold frzN
  split
  · exact ((h.up (by omega)).up (by omega)).re
  · exact h
theorem F6.fzs {N N' : GV} (h : F6 N N') : ∀ k, F6 N (itN frzN k N')
  | 0 => h
  | k + 1 => (F6.fzs h k).fz
theorem F6.wr {f : Bool} {N N' : GV} {l j : Nat} (h : F6 N N') : F6 N (wrk1 f N' l j) := by
  have hM : ∀ k, F6 N (wrkM N' k j) := fun k => (((h.up (by omega)).up (by omega)).up (by omega)).up (by omega)
  unfold wrk1
  split
  · exact (hM _).fi
  · exact hM _
theorem F6.wrs {f : Bool} {N : GV} : ∀ {n : Nat} {N' : GV} {l : Nat}, F6 N N' → F6 N (wrkN f n N' l)
  | 0, _, _, h => h
  | n + 1, N', l, h => by
    unfold wrkN
    split
    · exact h
    · exact F6.wrs h.wr
theorem F6.gv {N N' : GV} {p i : Nat} (h : F6 N N') : F6 N (givN N' p i) := by
  have h4 := (((h.up (k := 26) (i := 0) (s := p) (v := N' 26 0 p - i) (by omega)).up (k := 22) (i := 0) (s := 13 + 10 * p + 2) (v := N' 22 0 (13 + 10 * p + 2) + i) (by omega)).up (k := 22) (i := 0) (s := 13 + 10 * p + 7) (v := N' 22 0 (13 + 10 * p + 7) + i) (by omega)).up (k := 22) (i := 0) (s := 12) (v := N' 22 0 12 + i) (by omega)
  unfold givN
  split
  · exact h4.re
  · exact h4
theorem F6.dk {N : GV} {g : Nat} {q : GV × Nat} (h : F6 N q.1) : F6 N (drk1 g q).1 := by
  unfold drk1
  split
  · exact h
  · split
    · exact (h.up (by omega)).gv
    · exact h.up (by omega)
theorem F6.dkI {N : GV} {g : Nat} {q : GV × Nat} (h : F6 N q.1) : ∀ n, F6 N (drkI g n q).1
  | 0 => h
  | n + 1 => (F6.dkI h n).dk
theorem F6.dr {N N' : GV} {c g : Nat} (h : F6 N N') : F6 N (drkN N' c g) := ((F6.dkI (q := (rowTo N' 28 0 8 (fun _ => 0), c * N' 22 0 2)) (h.rw (by omega)) 8).up (by omega)).up (by omega)
theorem F6.ou {N : GV} {d : Nat} : ∀ {n : Nat} {N' : GV}, F6 N N' → F6 N (outI d n N')
  | 0, _, h => h
  | n + 1, N', h => by
    unfold outI
    split
    · exact h
    · exact F6.ou (h.up (by omega)).dr
theorem F6.vi {N N' : GV} {w p : Nat} (h : F6 N N') : F6 N (visN w N' p) := by
  unfold visN
  split
  · exact h.gv
  · exact h
theorem F6.vis {N N' : GV} {w : Nat} (h : F6 N N') : ∀ k, F6 N (itN (visN w) k N')
  | 0 => h
  | k + 1 => (F6.vis h k).vi
theorem F6.day {N N' : GV} (h : F6 N N') : F6 N (dayN N') := by
  have h1 : F6 N (dayF N') := by
    unfold dayF
    split
    · exact h.fzs 8
    · exact h
  have h2 : ∀ f, F6 N (works f (dayF N')) := fun f => F6.wrs (h1.rw (by omega))
  unfold dayN dayE dayO drops
  refine (F6.vis (fun p hp => ?_) 8).up (by omega)
  rw [setO_o (by omega)]
  exact (F6.ou ((h2 _).rw (by omega) |>.rw (by omega))) p hp
theorem F6.days {N : GV} : ∀ n, F6 N (daysN n N)
  | 0 => F6.rf
  | n + 1 => (F6.days n).day
theorem unt_f {V : GV} {p : Nat} (hD : DW V) (h5 : V 22 0 5 ≤ 999) (hp : p < 8) : untV (V 22 0) p = oI (fsd (V 22 0) p 60) := by
  obtain ⟨a, b⟩ := fsd_u (S := V 22 0) (p := p) 60 (Nat.le_refl _)
  unfold untV
  cases e : fsd (V 22 0) p 60 with
  | none =>
    have := b e
    rw [this]
    exact if_neg fun q => absurd q.1 (Nat.lt_irrefl 61)
  | some k =>
    have hk := fsd_le 60 k e
    rw [a k e]
    refine if_pos ⟨by omega, ?_⟩
    have h1 := hk.2
    rw [← daysS_e (K := 1059) (hD.1.mo (by omega) (by omega)) hD.2 (by omega)] at h1
    unfold usdB at h1
    have h1 := (of_decide_eq_true h1).1
    rw [← F6.days (N := V) k p hp]
    exact h1
