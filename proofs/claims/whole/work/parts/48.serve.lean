/-! the class serves an outing -/
theorem anyN_c {f g : Nat → Bool} : ∀ {n : Nat}, (∀ j, j < n → f j = g j) → anyN n f = anyN n g := by
  intro n
  induction n with
  | zero => intro _; rfl
  | succ n ih => intro h; rw [anyN_s, anyN_s, ih fun j hj => h j (by omega), h n (by omega)]
theorem fro_e {K : Nat} {V V' : GV} (h : DI K V) (e : Fr V V') : froB (V' 22 0) (V' 22 0 5) = froB (V 22 0) (V 22 0 5) := by
  have h6 := h.h6
  have e5 : V' 22 0 5 = V 22 0 5 := e _ _ _ (by omega) (by decide) (by decide) (by decide)
  have e6 : V' 22 0 6 = V 22 0 6 := e _ _ _ (by omega) (by decide) (by decide) (by decide)
  unfold froB
  rw [e5, e6]
  refine anyN_c fun k hk => ?_
  rw [e 22 0 (141 + 2 * k) (by omega) (by decide) (by decide) (by decide), e 22 0 (141 + 2 * k + 1) (by omega) (by decide) (by decide) (by decide)]
/-- only the fountains, jobs and counters of a park are touched -/
def FrC (P : Nat) (N N' : GV) : Prop := ∀ k i s, ¬ (k = 0 ∧ 8 * P ≤ i ∧ i < 8 * P + 8) → ¬ (k = 2 ∧ 16 * P ≤ i ∧ i < 16 * P + 16) → ¬ (k = 5 ∧ i = P ∧ 6 ≤ s) → N' k i s = N k i s
theorem FrC.rf {P : Nat} {N : GV} : FrC P N N := fun _ _ _ _ _ _ => rfl
theorem FrC.tr {P : Nat} {N1 N2 N3 : GV} (h1 : FrC P N1 N2) (h2 : FrC P N2 N3) : FrC P N1 N3 := fun k i s a b c => (h2 k i s a b c).trans (h1 k i s a b c)
theorem FrC.up {P : Nat} {N N' : GV} {k i s v : Nat} (h : FrC P N N') (hk : (k = 0 ∧ 8 * P ≤ i ∧ i < 8 * P + 8) ∨ (k = 2 ∧ 16 * P ≤ i ∧ i < 16 * P + 16) ∨ (k = 5 ∧ i = P ∧ 6 ≤ s)) : FrC P N (up3 N' k i s v) := fun k' i' s' a b c => by
  rw [← h k' i' s' a b c]
  exact u_ne fun q => by
    obtain ⟨e1, e2, e3⟩ := q
    subst e1 e2 e3
    omega
theorem FrC.jr {P b d : Nat} {N N' : GV} (h : FrC P N N') (hb : 16 * P ≤ b ∧ b < 16 * P + 16) : FrC P N (jrN N' b d) := ((h.up (by omega)).up (by omega)).up (by omega)
theorem FrC.gv {P p i : Nat} {N N' : GV} (h : FrC P N N') (hp : p < 8) : FrC P N (gvC N' P p i) := by
  unfold gvC
  split
  · exact ((((h.up (by omega)).up (by omega)).up (by omega)).up (by omega)).jr (by omega)
  · exact (((h.up (by omega)).up (by omega)).up (by omega)).up (by omega)
/-- what holds while the class gives water -/
def GB (K P : Nat) (c : Bool) (N V : GV) : Prop := FI K V ∧ RX N P V ∧ RL N P V ∧ N 5 P 0 = V 22 0 5 ∧ froB (V 22 0) (V 22 0 5) = c
/-- a place gives -/
def vGs (p : Nat) (q : GV × Nat) : GV × Nat := if clo (q.1 22 0) p = 0 then (givN q.1 p (givA q.1 p q.2), q.2 - givA q.1 p q.2) else q
def vGo (o : Option Nat) (q : GV × Nat) : GV × Nat := match o with
  | some p => vGs p q
  | none => q
theorem g44 {X : XS} {N : GV} {R : GR} {L : GL} {Z : Nat × Nat × Bool} (hR : Rok R) {K P p w : Nat} {V : GV} {c : Bool} (hP : P < 8) (hp : p < 8) (hw : w < 2 ^ 28) (h : GB K P c N V) : ∃ N' i, exec X 44 [vR 5 P, vI (nI p), vI (nI w), vI (nI (bN c))] (gg (nW N) R L Z) = some (.inl (some (vI (nI i))), (gg (nW (N')) R L Z)) ∧ GB K P c N' (vGs p (V, w)).1 ∧ (vGs p (V, w)).2 = w - i ∧ i ≤ w ∧ FrC P N N' := by
  obtain ⟨⟨hD, hf⟩, hX, hL, hd, hc⟩ := h
  have ecb := hX.cb (c := c) hD hp
  have eclo : clo (V 22 0) p = cloB (V 22 0) c p := by unfold clo; rw [hc]
  unfold vGs
  by_cases q : clo (V 22 0) p = 0
  · have h1 : V 22 0 (13 + 10 * p + 6) = 1 := by
      have b := (hD.fo hp).2.2.2.2.2.2
      unfold clo cloB at q
      by_cases e : V 22 0 (13 + 10 * p + 6) = 0
      · rw [if_pos e] at q; omega
      · omega
    have hn : ¬ V 22 0 (13 + 10 * p + 2) = 4 * V 22 0 (13 + 10 * p + 1) := by
      intro e
      unfold clo cloB at q
      rw [if_pos e] at q
      split at q
      · omega
      · split at q
        · omega
        · split at q
          · omega
          · split at q <;> omega
    obtain ⟨f1, f2⟩ := hX.1 p hp
    obtain ⟨c3, c4, c5, c6, c7, c8, c9, c10⟩ := f2 h1
    have l11 := hL p hp h1
    have hl := hD.l p hp
    have hb := hD.fo hp
    have hfp := hf p hp
    have hgA := givA_le (N := V) (p := p) (w := w)
    have ei : givA V p w = min w (min (N 0 (8 * P + p) 11) (4 * N 0 (8 * P + p) 6 - N 0 (8 * P + p) 7)) := by
      unfold givA
      rw [l11, c6, c7]
      omega
    have s1 := t44_g (X := X) (N := N) (L := L) (Z := Z) (P := P) (p := p) (w := w) (c := c) hR hP hp hX.2.2.2.2.2 (by rw [ecb, ← eclo, q]) hw (by rw [c6]; exact hb.2.1) (by rw [c6, c7]; exact hl) (by rw [l11]; exact hfp) ei
    have hrel := RX.gv (i := givA V p w) hD hX hL hP hp h1 hd hn hgA.2.2
    refine ⟨gvC N P p (givA V p w), givA V p w, s1, ?_, ?_, hgA.1, FrC.rf.gv hp⟩
    · simp only [if_pos q]
      have hF : Fr V (givN V p (givA V p w)) := Fr.rf.gv hp
      have hC : FrC P N (gvC N P p (givA V p w)) := FrC.rf.gv hp
      refine ⟨FI.giv hp ⟨hD, hf⟩, hrel.1, hrel.2, ?_, by rw [fro_e hD hF, hc]⟩
      rw [hC _ _ _ (by omega) (by omega) (by omega), hF _ _ _ (by omega) (by decide) (by decide) (by decide), hd]
    · simp only [if_pos q]
  · refine ⟨N, 0, ?_, ?_, ?_, Nat.zero_le _, FrC.rf⟩
    · exact t44_c hR hP hp hX.2.2.2.2.2 (by rw [ecb, ← eclo]; exact q)
    · simp only [if_neg q]
      exact ⟨⟨hD, hf⟩, hX, hL, hd, hc⟩
    · simp only [if_neg q]; rfl
def dnO (g d : Nat) : Option Nat := if d ≤ g then some (g - d) else none
def upO (g d : Nat) : Option Nat := if g + d < 8 then some (g + d) else none
theorem g44d {X : XS} {N : GV} {R : GR} {L : GL} {Z : Nat × Nat × Bool} (hR : Rok R) {K P g d w : Nat} {V : GV} {c : Bool} (hP : P < 8) (hg : g < 8) (hd : d < 8) (hw : w < 2 ^ 28) (h : GB K P c N V) : ∃ N' i, exec X 44 [vR 5 P, vI (nI g - nI d), vI (nI w), vI (nI (bN c))] (gg (nW N) R L Z) = some (.inl (some (vI (nI i))), (gg (nW (N')) R L Z)) ∧ GB K P c N' (vGo (dnO g d) (V, w)).1 ∧ (vGo (dnO g d) (V, w)).2 = w - i ∧ i ≤ w ∧ FrC P N N' := by
  unfold dnO
  by_cases q : d ≤ g
  · rw [if_pos q, pk_sub q]
    exact g44 hR hP (by omega) hw h
  · rw [if_neg q]
    exact ⟨N, 0, t44_o hR (Or.inl (pk_sneg (by omega) (by omega))), h, rfl, Nat.zero_le _, FrC.rf⟩
theorem g44u {X : XS} {N : GV} {R : GR} {L : GL} {Z : Nat × Nat × Bool} (hR : Rok R) {K P g d w : Nat} {V : GV} {c : Bool} (hP : P < 8) (hg : g < 8) (hd : d < 8) (hw : w < 2 ^ 28) (h : GB K P c N V) : ∃ N' i, exec X 44 [vR 5 P, vI (nI (g + d)), vI (nI w), vI (nI (bN c))] (gg (nW N) R L Z) = some (.inl (some (vI (nI i))), (gg (nW (N')) R L Z)) ∧ GB K P c N' (vGo (upO g d) (V, w)).1 ∧ (vGo (upO g d) (V, w)).2 = w - i ∧ i ≤ w ∧ FrC P N N' := by
  unfold upO
  by_cases q : g + d < 8
  · rw [if_pos q]
    exact g44 hR hP q hw h
  · rw [if_neg q]
    exact ⟨N, 0, t44_o hR (Or.inr (by rw [nI_ltI (by omega) (by decide)]; exact q)), h, rfl, Nat.zero_le _, FrC.rf⟩
/-- the five places -/
def seq5 (g : Nat) (q : GV × Nat) : GV × Nat := vGo (upO g 2) (vGo (dnO g 2) (vGo (upO g 1) (vGo (dnO g 1) (vGo (some g) q))))
def svC (N : GV) (P ch : Nat) (w : Nat) : GV := up3 (up3 N 5 P 8 (N 5 P 8 + ch)) 5 P 7 (N 5 P 7 + (w + N 18 P 2 - 1) / N 18 P 2)
theorem t43 {X : XS} {N : GV} {R : GR} {L : GL} {Z : Nat × Nat × Bool} (hR : Rok R) {K P ch g : Nat} {V : GV} {c : Bool} (hP : P < 8) (hg : g < 8) (hc : ch ≤ 1000) (h : GB K P c N V) (h2 : 1 ≤ N 18 P 2 ∧ N 18 P 2 ≤ 9) : ∃ N', exec X 43 [vR 5 P, vI (nI ch), vI (nI g), vI (nI (bN c))] (gg (nW N) R L Z) = some (.inl none, (gg (nW (svC N' P ch (seq5 g (V, ch * N 18 P 2)).2)) R L Z)) ∧ GB K P c N' (seq5 g (V, ch * N 18 P 2)).1 ∧ FrC P N N' := by
  have hcw : ch * N 18 P 2 ≤ 9000 := Nat.le_trans (Nat.mul_le_mul hc h2.2) (by decide)
  have e18 : ∀ {M : GV}, FrC P N M → M 18 P 2 = N 18 P 2 := fun q => q _ _ _ (by omega) (by omega) (by omega)
  generalize hw0 : ch * N 18 P 2 = w0 at hcw
  obtain ⟨N1, i1, a1, b1, c1, d1, f1⟩ := g44d (X := X) (L := L) (Z := Z) (g := g) (d := 0) (w := w0) hR hP hg (by omega) (by omega) h
  have eo : dnO g 0 = some g := if_pos (Nat.zero_le _)
  rw [eo] at b1 c1
  obtain ⟨N2, i2, a2, b2, c2, d2, f2⟩ := g44d (X := X) (L := L) (Z := Z) (g := g) (d := 1) (w := w0 - i1) hR hP hg (by omega) (by omega) b1
  obtain ⟨N3, i3, a3, b3, c3, d3, f3⟩ := g44u (X := X) (L := L) (Z := Z) (g := g) (d := 1) (w := w0 - i1 - i2) hR hP hg (by omega) (by omega) b2
  obtain ⟨N4, i4, a4, b4, c4, d4, f4⟩ := g44d (X := X) (L := L) (Z := Z) (g := g) (d := 2) (w := w0 - i1 - i2 - i3) hR hP hg (by omega) (by omega) b3
  obtain ⟨N5, i5, a5, b5, c5, d5, f5⟩ := g44u (X := X) (L := L) (Z := Z) (g := g) (d := 2) (w := w0 - i1 - i2 - i3 - i4) hR hP hg (by omega) (by omega) b4
  have p1 : vGo (some g) (V, w0) = ((vGo (some g) (V, w0)).1, w0 - i1) := by rw [← c1]
  have p2 : vGo (dnO g 1) ((vGo (some g) (V, w0)).1, w0 - i1) = ((vGo (dnO g 1) ((vGo (some g) (V, w0)).1, w0 - i1)).1, w0 - i1 - i2) := by rw [← c2]
  have p3 : vGo (upO g 1) ((vGo (dnO g 1) ((vGo (some g) (V, w0)).1, w0 - i1)).1, w0 - i1 - i2) = ((vGo (upO g 1) ((vGo (dnO g 1) ((vGo (some g) (V, w0)).1, w0 - i1)).1, w0 - i1 - i2)).1, w0 - i1 - i2 - i3) := by rw [← c3]
  have p4 : vGo (dnO g 2) ((vGo (upO g 1) ((vGo (dnO g 1) ((vGo (some g) (V, w0)).1, w0 - i1)).1, w0 - i1 - i2)).1, w0 - i1 - i2 - i3) = ((vGo (dnO g 2) ((vGo (upO g 1) ((vGo (dnO g 1) ((vGo (some g) (V, w0)).1, w0 - i1)).1, w0 - i1 - i2)).1, w0 - i1 - i2 - i3)).1, w0 - i1 - i2 - i3 - i4) := by rw [← c4]
  have es : seq5 g (V, w0) = vGo (upO g 2) ((vGo (dnO g 2) ((vGo (upO g 1) ((vGo (dnO g 1) ((vGo (some g) (V, w0)).1, w0 - i1)).1, w0 - i1 - i2)).1, w0 - i1 - i2 - i3)).1, w0 - i1 - i2 - i3 - i4) := by
    unfold seq5
    rw [p1, p2, p3, p4]
  rw [← es] at b5 c5
  have F5 : FrC P N N5 := (((f1.tr f2).tr f3).tr f4).tr f5
  refine ⟨N5, ?_, b5, F5⟩
  rw [c5]
  have e5 := e18 F5
  have hz : ¬ nI (N 18 P 2) = 0 := nI_ne0 (by omega) (by omega)
  have h0 : 0 < N 18 P 2 := by omega
  have gz : nI g - nI 0 = nI g := by rw [pk_sub (Nat.zero_le _), Nat.sub_zero]
  rw [gz] at a1
  have k1 : ∀ v, up3 N5 5 P 8 v 5 P 7 = N5 5 P 7 := fun v => up3_s _ _ (by decide)
  have k2 : ∀ v, up3 N5 5 P 8 v 18 P 2 = N 18 P 2 := fun v => by rw [up3_k _ _ (by decide), e5]
  unfold svC
  rw [e5]
  have l2 : ¬ 2 < 0 := by decide
  simp (disch := first | assumption | omega | exact nI_or0 | exact nI_or1 | exact bN_or _) only [in43, x43_0, x43_1, x43_4, x43_5, x43_6, x43_8, x43_9, x43_11, x43_12, x43_14, x43_15, reduceIte, Nat.reduceLT, nW_ap, nW_up, nI_add, pk_mul, nI_ltI, nI_eq, if_true, if_false, kont_r, kont_v, Nat.reduceAdd, Nat.reduceMul, Nat.not_lt, not_true_eq_false, not_false_eq_true, Nat.one_ne_zero, Nat.reduceEqDiff, Nat.lt_irrefl, reduceCtorEq, nI_or0, nI_or1, hw0]
  rw [x43_17]
  simp (disch := first | assumption | omega | exact nI_or0 | exact nI_or1 | exact bN_or _) only [x43_19, x43_20, x43_23, x43_25, x43_26, x43_27, x43_29, x43_30, x43_32, x43_33, x43_36, x43_37, x43_39, x43_41, x43_44, x43_46, x43_47, x43_48, x43_50, x43_51, x43_53, x43_54, x43_57, x43_58, x43_60, x43_63, reduceIte, Nat.reduceLT, nW_ap, nW_up, nI_add, pk_mul, nI_ltI, nI_eq, if_true, if_false, kont_r, kont_v, Nat.reduceAdd, Nat.reduceMul, Nat.not_lt, not_true_eq_false, not_false_eq_true, Nat.one_ne_zero, Nat.reduceEqDiff, Nat.lt_irrefl, reduceCtorEq, nI_or0, nI_or1, gz, a1, pk_sub]
  rw [x43_17]
  simp (disch := first | assumption | omega | exact nI_or0 | exact nI_or1 | exact bN_or _) only [x43_19, x43_20, x43_23, x43_25, x43_26, x43_27, x43_29, x43_30, x43_32, x43_33, x43_36, x43_37, x43_39, x43_41, x43_44, x43_46, x43_47, x43_48, x43_50, x43_51, x43_53, x43_54, x43_57, x43_58, x43_60, x43_63, reduceIte, Nat.reduceLT, nW_ap, nW_up, nI_add, pk_mul, nI_ltI, nI_eq, if_true, if_false, kont_r, kont_v, Nat.reduceAdd, Nat.reduceMul, Nat.not_lt, not_true_eq_false, not_false_eq_true, Nat.one_ne_zero, Nat.reduceEqDiff, Nat.lt_irrefl, reduceCtorEq, nI_or0, nI_or1, a2, a3, pk_sub]
  rw [x43_17]
  simp (disch := first | assumption | omega | exact nI_or0 | exact nI_or1 | exact bN_or _) only [x43_19, x43_20, x43_23, x43_25, x43_26, x43_27, x43_29, x43_30, x43_32, x43_33, x43_36, x43_37, x43_39, x43_41, x43_44, x43_46, x43_47, x43_48, x43_50, x43_51, x43_53, x43_54, x43_57, x43_58, x43_60, x43_63, reduceIte, Nat.reduceLT, nW_ap, nW_up, nI_add, pk_mul, nI_ltI, nI_eq, if_true, if_false, kont_r, kont_v, Nat.reduceAdd, Nat.reduceMul, Nat.not_lt, not_true_eq_false, not_false_eq_true, Nat.one_ne_zero, Nat.reduceEqDiff, Nat.lt_irrefl, reduceCtorEq, nI_or0, nI_or1, a4, a5, pk_sub]
  rw [x43_17]
  simp (disch := first | assumption | omega | exact nI_or0 | exact nI_or1 | exact bN_or _) only [x43_19, x43_20, x43_23, x43_25, x43_26, x43_27, x43_29, x43_30, x43_32, x43_33, x43_36, x43_37, x43_39, x43_41, x43_44, x43_46, x43_47, x43_48, x43_50, x43_51, x43_53, x43_54, x43_57, x43_58, x43_60, x43_63, x43_66, x43_67, x43_68, x43_71, x43_72, x43_73, x43_76, x43_78, x43_81, x43_82, x43_83, x43_86, x43_88, x43_90, x43_91, x43_92, x43_93, x43_95, x43_96, x43_97, x43_100, reduceIte, Nat.reduceLT, nW_ap, nW_up, nI_add, pk_mul, nI_ltI, nI_eq, if_true, if_false, kont_r, kont_v, Nat.reduceAdd, Nat.reduceMul, Nat.not_lt, not_true_eq_false, not_false_eq_true, Nat.one_ne_zero, Nat.reduceEqDiff, Nat.lt_irrefl, reduceCtorEq, nI_or0, nI_or1, pk_sub, pk_div, k1, h0]
