/-! the class passes a day, whole -/
def PK (N : GV) (P : Nat) (V : GV) : Prop := RX N P V ∧ RT N P V ∧ RW N P V ∧ RO N P V
/-- open jobs were reported on a day that is a small number -/
def JB (N : GV) : Prop := ∀ b, b < 128 → N 2 b 2 = 1 → N 2 b 3 < 2 ^ 20
/-- what belongs to the park P -/
def own (P k i : Nat) : Prop := (k = 0 ∧ 8 * P ≤ i ∧ i < 8 * P + 8) ∨ (k = 2 ∧ 16 * P ≤ i ∧ i < 16 * P + 16) ∨ ((k = 1 ∨ k = 4 ∨ k = 5 ∨ k = 8 ∨ k = 9 ∨ (14 ≤ k ∧ k ≤ 16) ∨ k = 18) ∧ i = P)
def FrP (P : Nat) (N N' : GV) : Prop := ∀ k i s, ¬ own P k i → N' k i s = N k i s
theorem FrP.rf {P : Nat} {N : GV} : FrP P N N := fun _ _ _ _ => rfl
theorem FrP.tr {P : Nat} {N1 N2 N3 : GV} (h1 : FrP P N1 N2) (h2 : FrP P N2 N3) : FrP P N1 N3 := fun k i s a => (h2 k i s a).trans (h1 k i s a)
theorem FrC.p {P : Nat} {N N' : GV} (h : FrC P N N') : FrP P N N' := fun k i s a => h k i s (fun q => a (by unfold own; omega)) (fun q => a (by unfold own; omega)) fun q => a (by unfold own; omega)
theorem FrP.up {P : Nat} {N N' : GV} {k i s v : Nat} (h : FrP P N N') (hk : own P k i) : FrP P N (up3 N' k i s v) := fun k' i' s' a => by
  rw [u_ne fun q => a (by rw [q.1, q.2.1]; exact hk)]
  exact h k' i' s' a
theorem JB.x {K P : Nat} {N N' V : GV} (hJ : JB N) (f : FrP P N N') (hX : RX N' P V) (hD : DI K V) : JB N' := fun b hb h => by
  by_cases q : 16 * P ≤ b ∧ b < 16 * P + 16
  · obtain ⟨j, hj⟩ : ∃ j, b = 16 * P + j := ⟨b - 16 * P, by omega⟩
    subst hj
    obtain ⟨j1, j2⟩ := hX.2.1 j (by omega)
    rw [j1] at h
    have a1 := (hD.jo (j := j) (by omega)).2.1
    have a2 := hD.hK
    rw [(j2 h).1]
    omega
  · rw [f _ _ _ (by unfold own; omega)] at h
    rw [f _ _ _ (by unfold own; omega)]
    exact hJ b hb h
theorem SB.g {N N' : GV} (h : SB N) (e : ∀ k i s, k = 0 ∨ k = 2 → N' k i s = N k i s) : SB N' := by
  refine ⟨fun f hf => ?_, fun b hb => ?_⟩
  · rw [e _ _ _ (Or.inl rfl), e _ _ _ (Or.inl rfl), e _ _ _ (Or.inl rfl)]
    exact h.1 f hf
  · rw [e _ _ _ (Or.inr rfl), e _ _ _ (Or.inr rfl), e _ _ _ (Or.inr rfl), e _ _ _ (Or.inr rfl)]
    exact h.2 b hb
theorem RX.g {P Q : Nat} {N N' V V' : GV} (h : RX N Q V) (e0 : ∀ p s, p < 8 → 2 ≤ s → s ≤ 10 → N' 0 (8 * P + p) s = N 0 (8 * Q + p) s) (e2 : ∀ j s, j < 16 → 2 ≤ s → s ≤ 4 → N' 2 (16 * P + j) s = N 2 (16 * Q + j) s) (e5 : ∀ s, 7 ≤ s → s ≤ 11 → N' 5 P s = N 5 Q s) (v : ∀ s, 8 ≤ s → s < 141 → V' 22 0 s = V 22 0 s) (hS : SB N') : RX N' P V' := by
  obtain ⟨hF, hJ, hC, hI, hI2, _⟩ := h
  refine ⟨fun q hq => ?_, fun j hj => ?_, ?_, fun q hq => ?_, fun j hj => ?_, hS⟩
  · have f := hF q hq
    unfold RF at f ⊢
    rw [e0 _ 2 hq (by omega) (by omega), e0 _ 3 hq (by omega) (by omega), e0 _ 4 hq (by omega) (by omega), e0 _ 5 hq (by omega) (by omega), e0 _ 6 hq (by omega) (by omega), e0 _ 7 hq (by omega) (by omega), e0 _ 8 hq (by omega) (by omega), e0 _ 9 hq (by omega) (by omega), e0 _ 10 hq (by omega) (by omega)]
    rw [v (13 + 10 * q) (by omega) (by omega), v (13 + 10 * q + 1) (by omega) (by omega), v (13 + 10 * q + 2) (by omega) (by omega), v (13 + 10 * q + 3) (by omega) (by omega), v (13 + 10 * q + 4) (by omega) (by omega), v (13 + 10 * q + 6) (by omega) (by omega), v (13 + 10 * q + 7) (by omega) (by omega), v (13 + 10 * q + 8) (by omega) (by omega), v (13 + 10 * q + 9) (by omega) (by omega)]
    exact f
  · have f := hJ j hj
    unfold RJ at f ⊢
    rw [e2 _ 2 hj (by omega) (by omega), e2 _ 3 hj (by omega) (by omega), e2 _ 4 hj (by omega) (by omega), v (93 + 3 * j) (by omega) (by omega), v (93 + 3 * j + 1) (by omega) (by omega), v (93 + 3 * j + 2) (by omega) (by omega)]
    exact f
  · unfold RC at hC ⊢
    rw [e5 7 (by omega) (by omega), e5 8 (by omega) (by omega), e5 9 (by omega) (by omega), e5 10 (by omega) (by omega), e5 11 (by omega) (by omega), v 8 (by omega) (by omega), v 9 (by omega) (by omega), v 10 (by omega) (by omega), v 11 (by omega) (by omega), v 12 (by omega) (by omega)]
    exact hC
  · have f := hI q hq
    unfold PI at f ⊢
    rw [v (13 + 10 * q + 1) (by omega) (by omega), v (13 + 10 * q + 2) (by omega) (by omega), v (13 + 10 * q + 5) (by omega) (by omega), v (13 + 10 * q + 6) (by omega) (by omega), v (93 + 3 * (2 * q)) (by omega) (by omega), v (93 + 3 * (2 * q + 1)) (by omega) (by omega)]
    refine ⟨f.1, f.2.1, fun x => ⟨(f.2.2 x).1, (f.2.2 x).2.1, fun w hw => ?_⟩⟩
    rw [v (13 + 10 * q + w) (by omega) (by omega)]
    exact (f.2.2 x).2.2 w hw
  · have f := hI2 j hj
    unfold JI at f ⊢
    rw [v (93 + 3 * j) (by omega) (by omega), v (93 + 3 * j + 2) (by omega) (by omega)]
    exact f
theorem RT.g {P Q : Nat} {N N' V V' : GV} (h : RT N Q V) (e : ∀ s, s < 5 → N' 18 P s = N 18 Q s) (e5 : N' 5 P 0 = N 5 Q 0) (v : ∀ s, s < 6 → V' 22 0 s = V 22 0 s) : RT N' P V' := by
  refine ⟨fun k hk => ?_, ?_⟩
  · rw [e _ hk, v _ (by omega)]; exact h.1 k hk
  · rw [e5, v _ (by omega)]; exact h.2
theorem RW.g {P Q : Nat} {N N' V V' : GV} (h6 : V 22 0 6 ≤ 6) (h : RW N Q V) (e1 : N' 1 P 2 = N 1 Q 2) (e : ∀ k s, k = 8 ∨ k = 9 → s < N 1 Q 2 → N' k P s = N k Q s) (v : ∀ s, s = 6 ∨ (141 ≤ s ∧ s < 153) → V' 22 0 s = V 22 0 s) : RW N' P V' := by
  have v6 := v 6 (by omega)
  have h1 := h.1
  refine ⟨?_, fun k hk => ?_⟩
  · rw [e1, v6]; exact h.1
  · rw [v6] at hk
    rw [e _ _ (Or.inl rfl) (by omega), e _ _ (Or.inr rfl) (by omega), v _ (by omega), v _ (by omega)]
    exact h.2 k hk
theorem bef_g {V V' : GV} {a b : Nat} (ha : a < 17) (hb : b < 17) (v : ∀ s, 153 ≤ s → s < 204 → V' 22 0 s = V 22 0 s) : bef (V' 22 0) a b = bef (V 22 0) a b := by
  unfold bef
  rw [v (153 + 3 * a) (by omega) (by omega), v (153 + 3 * b) (by omega) (by omega), v (153 + 3 * a + 1) (by omega) (by omega), v (153 + 3 * b + 1) (by omega) (by omega)]
theorem ouA_g {V V' : GV} {k : Nat} (hk : k < 17) (v : ∀ s, 153 ≤ s → s < 204 → V' 22 0 s = V 22 0 s) : ouA (V' 22 0) k = ouA (V 22 0) k := by
  unfold ouA
  rw [v (153 + 3 * k) (by omega) (by omega), v (153 + 3 * k + 1) (by omega) (by omega), v (153 + 3 * k + 2) (by omega) (by omega)]
theorem SO.g {V V' : GV} {σ : List Nat} (h7 : V 22 0 7 ≤ 17) (hs : SO V σ) (v7 : V' 22 0 7 = V 22 0 7) (v : ∀ s, 153 ≤ s → s < 204 → V' 22 0 s = V 22 0 s) : SO V' σ := by
  refine ⟨hs.1.imp_of_mem ?_, fun k => by rw [v7]; exact hs.2 k⟩
  intro a b ha hb hab
  have ha := (hs.2 a).1 ha
  have hb := (hs.2 b).1 hb
  rw [bef_g (by omega) (by omega) v]
  exact hab
theorem RO.g {P Q : Nat} {N N' V V' : GV} (h7 : V 22 0 7 ≤ 17) (h : RO N Q V) (e : N' 4 P 3 = N 4 Q 3) (e2 : ∀ k s, 14 ≤ k → k ≤ 16 → s < N 4 Q 3 → N' k P s = N k Q s) (v : ∀ s, s = 7 ∨ (153 ≤ s ∧ s < 204) → V' 22 0 s = V 22 0 s) : RO N' P V' := by
  obtain ⟨a, σ, hs, hl, hc⟩ := h
  have v7 := v 7 (by omega)
  have v' : ∀ s, 153 ≤ s → s < 204 → V' 22 0 s = V 22 0 s := fun s h h' => v s (Or.inr ⟨h, h'⟩)
  refine ⟨by rw [e, v7]; exact a, σ, hs.g h7 v7 v', by rw [v7]; exact hl, fun i hi => ?_⟩
  rw [v7] at hi
  have hm : σ.getD i 0 < V 22 0 7 := by
    rw [← hs.2, List.getD_eq_getElem?_getD, List.getElem?_eq_getElem (by omega)]
    exact List.getElem_mem (by omega)
  rw [ouA_g (by omega) v', ← hc i hi]
  unfold coA
  rw [e2 _ _ (by omega) (by omega) (by omega), e2 _ _ (by omega) (by omega) (by omega), e2 _ _ (by omega) (by omega) (by omega)]
theorem fro_g {V V' : GV} (h6 : V 22 0 6 ≤ 6) (v : ∀ s, s = 5 ∨ s = 6 ∨ (141 ≤ s ∧ s < 153) → V' 22 0 s = V 22 0 s) : froB (V' 22 0) (V' 22 0 5) = froB (V 22 0) (V 22 0 5) := by
  unfold froB
  rw [v 5 (by omega), v 6 (by omega)]
  refine anyN_c fun k hk => ?_
  rw [v _ (by omega), v _ (by omega)]
theorem od_o {N : GV} {P d k i s : Nat} (h : ¬ ((k = 4 ∧ s = 3 ∨ (14 ≤ k ∧ k ≤ 16)) ∧ i = P)) : odN N P d k i s = N k i s := by
  unfold odN
  rw [u_ne (by omega)]
  exact (cdI_w (d := d) (P := P) (N := N) (N 4 P 3)).2.2.2.2 _ _ _ (by omega)
theorem vGs_v {V : GV} {p w : Nat} : (vGs p (V, w)).1 = visN w V p := by
  unfold vGs visN
  split <;> rfl
theorem t39 {X : XS} {N : GV} {R : GR} {L : GL} {Z : Nat × Nat × Bool} (hR : Rok R) {P : Nat} {V : GV} (hP : P < 8) (hD : DI (V 22 0 5) V) (h5 : V 22 0 5 ≤ 1058) (h : PK N P V) (hJ : JB N) : ∃ N' R', exec X 39 [vR 5 P] (gg (nW N) R L Z) = some (.inl none, gg (nW N') R' L Z) ∧ PK N' P (dayN V) ∧ FrP P N N' ∧ Rok R' ∧ (∀ k i s, ¬ (k = 19 ∧ i = P) → R' k i s = R k i s) ∧ JB N' := by
  obtain ⟨hX, hT, hW, hO⟩ := h
  obtain ⟨d, hd⟩ : ∃ d, d = V 22 0 5 := ⟨_, rfl⟩
  rw [← hd] at hD h5
  have e5 := hT.2
  obtain ⟨c, hc⟩ : ∃ c, c = froB (V 22 0) (V 22 0 5) := ⟨_, rfl⟩
  have hh3 := hD.h3
  have hh6 := hD.h6
  have hh7 := hD.h7
  have s33 := t33 (X := X) (N := N) (L := L) (Z := Z) hR hP (hW.fb hD) (by omega)
  rw [hW.fry e5, ← hc] at s33
  obtain ⟨N1, s40, x1, f1, g11⟩ := t40 (X := X) (N := N) (L := L) (Z := Z) (c := c) hR hP hD hX e5
  have hD1 : DI d (dayF V) := hD.dF
  have fV1 : Fr V (dayF V) := Fr.rf.dF
  have ex1 : frzC c 8 V = dayF V := by unfold frzC dayF; rw [hc]
  rw [ex1] at x1
  unfold dayN
  rw [← hc]
  generalize dayF V = V1 at x1 hD1 fV1 ⊢
  have j1 := hJ.x f1.p x1 hD1
  obtain ⟨N2, R2, s41, x2, f2, hR2, r2, g2⟩ := t41 (X := X) (N := N1) (L := L) (Z := Z) (c := c) hR hP h5 hD1 x1 (hT.fr f1 fV1).1 j1
  have hD2 : DI d (works c V1) := hD1.ws
  have fV2 : Fr V (works c V1) := Fr.ws fV1
  generalize works c V1 = V2 at x2 hD2 fV2 ⊢
  have hL2 : RL N2 P (opnN (dayR V2)) := fun p hp h1 => by
    rw [opn_22, dR22] at h1
    rw [opn_k (by decide)]
    show _ = rowTo V2 26 0 8 (fun p => 4 * V2 22 0 (13 + 10 * p)) 26 0 p
    rw [rowTo_in hp, g2 _ _ (Or.inr rfl), g11 p hp, ← g2 _ _ (Or.inl rfl), ((x2.1 p hp).2 h1).2.2.1]
  have hOI : OI d (opnN (dayR V2)) := OI.op hD2
  have fW : Fr V (opnN (dayR V2)) := (fV2.rw (by omega)).rw (by omega)
  have x2' : RX N2 P (opnN (dayR V2)) := x2.e (by rw [opn_22, dR22])
  have d5 : (dayR V2) 22 0 5 = d := by rw [dR22, hd]; exact fV2 _ _ _ (by omega) (by decide) (by decide) (by decide)
  have eO : dayO (dayR V2) = drops d (outI d 17 (opnN (dayR V2))) := by unfold dayO; rw [d5]
  rw [eO]
  have h27 : ∀ k, k < 17 → (opnN (dayR V2)) 27 0 k = 0 := fun k hk => opn_0 hk
  generalize opnN (dayR V2) = W at hL2 hOI fW x2' h27 ⊢
  have f12 := f1.tr f2
  have hT2 := hT.fr f12 fW
  have hG : GB d P c N2 W := ⟨⟨hOI.1, hOI.2.1⟩, x2', hL2, hT2.2, by rw [fro_e hD fW, ← hc]⟩
  obtain ⟨a4, σ, hs, hl, hco⟩ := hO.fr f12 fW
  have w5 : W 22 0 5 = d := by rw [hd]; exact fW _ _ _ (by omega) (by decide) (by decide) (by decide)
  have w7 : W 22 0 7 = V 22 0 7 := fW _ _ _ (by omega) (by decide) (by decide) (by decide)
  have hσ : σ.length ≤ 17 := by omega
  obtain ⟨N3, s39, hG3, f3⟩ := l39 (X := X) (R := R2) (L := L) (Z := Z) (d := d) (c := c) (σ := σ) hR2 hP hσ σ [] N2 W 17 rfl (Nat.le_trans (List.length_filter_le _ _) hσ) hG hOI hT2.1 w5 (by omega) (by omega) (fun i hi => hco i (by omega)) hs.1 hs.2 (fun k _ => by
    rw [hs.2 k]
    constructor
    · exact fun q => q.1
    · exact fun q => ⟨q, by
        exact h27 k (by omega)⟩)
  have fW3 : Fr V (outI d 17 W) := Fr.ou fW
  have hO3 : RO N3 P (outI d 17 W) := hO.fr (f12.tr f3) fW3
  have hT3 := hT.fr (f12.tr f3) fW3
  have hW3 := RW.fr hD hW (f12.tr f3) fW3
  generalize outI d 17 W = W3 at hG3 hO3 hT3 hW3 fW3 ⊢
  have hD3 := hG3.1.1
  have e3 : ∀ s, s < 8 ∨ 141 ≤ s → W3 22 0 s = V 22 0 s := fun s h => fW3 _ _ _ (by omega) (by decide) (by decide) (by decide)
  have w35 := e3 5 (by omega)
  have s28 := t28 (X := X) (N := N3) (R := R2) (L := L) (Z := Z) (P := P) (d := d) hR2 hP (hO3.ob hD3) (by omega)
  have hO4 : RO (odN N3 P d) P (drops d W3) := RO.dp hD3 hO3
  have hD4 : DI d (drops d W3) := hD3.dp
  have v4 : ∀ s, ¬ s = 7 → s < 153 → (drops d W3) 22 0 s = W3 22 0 s := fun s a b => by unfold drops; rw [setO_o (by omega)]
  have v426 : (drops d W3) 26 = W3 26 := by funext i s; unfold drops; exact setO_o (by omega)
  have x4 : RX (odN N3 P d) P (drops d W3) := hG3.2.1.g (fun p s _ _ _ => od_o (by omega)) (fun p s _ _ _ => od_o (by omega)) (fun s _ _ => od_o (by omega)) (fun s a b => v4 s (by omega) (by omega)) (hG3.2.1.2.2.2.2.2.g fun k i s h => od_o (by omega))
  have hT4 : RT (odN N3 P d) P (drops d W3) := hT3.g (fun s h => od_o (by omega)) (od_o (by omega)) fun s h => v4 s (by omega) (by omega)
  have hW4 : RW (odN N3 P d) P (drops d W3) := hW3.g hD3.h6 (od_o (by omega)) (fun k s _ _ => od_o (by omega)) fun s h => v4 s (by omega) (by omega)
  have hL4 : RL (odN N3 P d) P (drops d W3) := fun p hp h1 => by
    rw [v4 _ (by omega) (by omega)] at h1
    rw [od_o (by omega), v426]
    exact hG3.2.2.1 p hp h1
  have hG4 : GB d P c (odN N3 P d) (drops d W3) := ⟨⟨hD4, fun p hp => by rw [v426]; exact hG3.1.2 p hp⟩, x4, hL4, hT4.2, by rw [fro_g hD3.h6 fun s h => v4 s (by omega) (by omega)]; exact hG3.2.2.2.2⟩
  have f4 : FrP P N (odN N3 P d) := (f12.tr f3).p.tr fun k i s a => od_o fun q => a (by unfold own; omega)
  have w43 : (drops d W3) 22 0 3 = V 22 0 3 := by rw [v4 _ (by omega) (by omega), e3 _ (by omega)]
  have n39 : (odN N3 P d) 5 P 0 = d := by rw [hT4.2, v4 _ (by omega) (by omega), w35, hd]
  have n35 : N3 5 P 0 = d := by rw [hT3.2, w35, hd]
  generalize hN4 : odN N3 P d = N4 at s28 hO4 x4 hT4 hW4 hL4 hG4 f4 n39
  generalize drops d W3 = W4 at hO4 hD4 x4 hT4 hW4 hL4 hG4 w43 ⊢
  obtain ⟨w, hw⟩ : ∃ w, w = 4 * V 22 0 3 := ⟨_, rfl⟩
  rw [← hw]
  have e183 : ∀ M, FrC P N4 M → M 18 P 3 = V 22 0 3 := fun M f => by rw [f _ _ _ (by omega) (by omega) (by omega), hT4.1 3 (by omega), w43]
  have key : ∀ k, k ≤ 8 → ∀ M, GB d P c M (itN (visN w) k W4) → FrC P N4 M → ∃ N5, ex X 39 87 [vR 5 P, vI (nI (bN c)), vI (nI k)] [] (gg (nW M) R2 L Z) = some (.inl none, gg (nW (up3 N5 5 P 0 (N5 5 P 0 + 1))) R2 L Z) ∧ GB d P c N5 (itN (visN w) 8 W4) ∧ FrC P N4 N5 := by
    refine down _ ?_ ?_
    · intro M hG hF
      refine ⟨M, ?_, hG, hF⟩
      rw [x39_87]
      simp (disch := first | assumption | omega | exact nI_or0 | exact nI_or1 | exact bN_or _) only [x39_88, x39_90, x39_93, x39_94, x39_95, x39_96, x39_97, x39_100, x39_101, x39_102, x39_103, x39_104, x39_107, x39_108, x39_111, x39_114, x39_115, x39_116, x39_119, x39_120, x39_121, x39_124, reduceIte, Nat.reduceLT, nW_ap, nW_up, nI_add, pk_mul, nI_ltI, nI_eq, if_true, if_false, kont_r, kont_v, Nat.reduceAdd, Nat.reduceMul, Nat.not_lt, not_true_eq_false, not_false_eq_true, Nat.one_ne_zero, Nat.reduceEqDiff, Nat.lt_irrefl, reduceCtorEq, nI_or0, nI_or1]
    · intro k hk ih M hG hF
      obtain ⟨M2, i, s44, g2, -, -, ff⟩ := g44 (X := X) (N := M) (R := R2) (L := L) (Z := Z) (w := w) hR2 hP hk (by omega) hG
      obtain ⟨N5, a, b⟩ := ih M2 (by rw [itN_s, ← vGs_v]; exact g2) (hF.tr ff)
      refine ⟨N5, ?_, b⟩
      have e18 := e183 M hF
      rw [← a, x39_87]
      rw [hw] at s44
      simp (disch := first | assumption | omega | exact nI_or0 | exact nI_or1 | exact bN_or _) only [x39_88, x39_90, x39_93, x39_94, x39_95, x39_96, x39_97, x39_100, x39_101, x39_102, x39_103, x39_104, x39_107, x39_108, x39_111, reduceIte, Nat.reduceLT, nW_ap, nW_up, nI_add, pk_mul, nI_ltI, nI_eq, if_true, if_false, kont_r, kont_v, Nat.reduceAdd, Nat.reduceMul, Nat.not_lt, not_true_eq_false, not_false_eq_true, Nat.one_ne_zero, Nat.reduceEqDiff, Nat.lt_irrefl, reduceCtorEq, nI_or0, nI_or1, hk, e18, s44]
  obtain ⟨N5, s5, hG5, f5⟩ := key 0 (Nat.zero_le _) N4 hG4 FrC.rf
  have fW5 : Fr W4 (itN (visN w) 8 W4) := Fr.vis Fr.rf 8 (Nat.le_refl _)
  have hT5 := hT4.fr f5 fW5
  have hW5 := RW.fr hD4 hW4 f5 fW5
  have hO5 := hO4.fr f5 fW5
  generalize itN (visN w) 8 W4 = W5 at hG5 hT5 hW5 hO5 fW5 ⊢
  have hD5 := hG5.1.1
  have v6 : ∀ s, ¬ s = 5 → (dayE W5) 22 0 s = W5 22 0 s := fun s h => up3_s _ _ h
  have n6 : ∀ k i s, ¬ (k = 5 ∧ i = P ∧ s = 0) → (up3 N5 5 P 0 (N5 5 P 0 + 1)) k i s = N5 k i s := fun k i s h => u_ne h
  have x6 : RX (up3 N5 5 P 0 (N5 5 P 0 + 1)) P (dayE W5) := hG5.2.1.g (fun p s _ _ _ => n6 _ _ _ (by omega)) (fun p s _ _ _ => n6 _ _ _ (by omega)) (fun s _ _ => n6 _ _ _ (by omega)) (fun s a b => v6 s (by omega)) (hG5.2.1.2.2.2.2.2.g fun k i s h => n6 _ _ _ (by omega))
  have f6 : FrP P N (up3 N5 5 P 0 (N5 5 P 0 + 1)) := (f4.tr f5.p).up (by unfold own; omega)
  refine ⟨up3 N5 5 P 0 (N5 5 P 0 + 1), R2, ?_, ⟨x6, ⟨fun k hk => ?_, ?_⟩, hW5.g hD5.h6 (n6 _ _ _ (by omega)) (fun k s _ _ => n6 _ _ _ (by omega)) fun s h => v6 s (by omega), hO5.g hD5.h7 (n6 _ _ _ (by omega)) (fun k s _ _ _ => n6 _ _ _ (by omega)) fun s h => v6 s (by omega)⟩, f6, hR2, r2, ?_⟩
  · have s39' : ex X 39 17 [vR 5 P, vI (nI (bN c)), vI (nI 0)] [] (gg (nW N2) R2 L Z) = _ := s39
    have st : ex X 39 73 [vR 5 P, vI (nI (bN c)), vI (nI σ.length)] [] (gg (nW N3) R2 L Z) = ex X 39 87 [vR 5 P, vI (nI (bN c)), vI (nI 0)] [] (gg (nW N4) R2 L Z) := by
      rw [x39_73]
      simp (disch := first | exact hR2 | assumption | omega | exact nI_or0 | exact nI_or1 | exact bN_or _) only [x39_74, x39_77, x39_78, x39_81, x39_84, x39_85, x39_86, reduceIte, Nat.reduceLT, nW_ap, nW_up, nI_add, pk_mul, nI_ltI, nI_eq, if_true, if_false, kont_r, kont_v, Nat.reduceAdd, Nat.reduceMul, Nat.not_lt, not_true_eq_false, not_false_eq_true, Nat.one_ne_zero, Nat.reduceEqDiff, Nat.lt_irrefl, reduceCtorEq, nI_or0, nI_or1, n35, s28]
    rw [← s5, ← st, ← s39']
    simp (disch := first | assumption | omega | exact nI_or0 | exact nI_or1 | exact bN_or _) only [in39, x39_0, x39_1, x39_4, x39_5, x39_6, x39_7, x39_10, x39_11, x39_12, x39_15, x39_16, reduceIte, Nat.reduceLT, nW_ap, nW_up, nI_add, pk_mul, nI_ltI, nI_eq, if_true, if_false, kont_r, kont_v, Nat.reduceAdd, Nat.reduceMul, Nat.not_lt, not_true_eq_false, not_false_eq_true, Nat.one_ne_zero, Nat.reduceEqDiff, Nat.lt_irrefl, reduceCtorEq, nI_or0, nI_or1, s33, s40, s41]
  · rw [n6 _ _ _ (by omega), v6 _ (by omega)]
    exact hT5.1 k hk
  · unfold dayE
    rw [up3_self, up3_self, hT5.2]
  · have w55 : W5 22 0 5 = d := by rw [← hT5.2, f5 _ _ _ (by omega) (by omega) (by omega), n39]
    have hK := hD5.hK
    have hD6 : DI (d + 1) (dayE W5) := by
      unfold dayE
      exact (hD5.mo (K' := d + 1) (by omega) (by omega)).up' (bd_S (by omega) (by unfold b0; omega)) (by omega)
    exact hJ.x f6 x6 hD6
