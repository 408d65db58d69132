/-! settings, frosts, outings of class and reference -/
def RT (N : GV) (P : Nat) (V : GV) : Prop := (∀ k, k < 5 → N 18 P k = V 22 0 k) ∧ N 5 P 0 = V 22 0 5
def RW (N : GV) (P : Nat) (V : GV) : Prop := N 1 P 2 = V 22 0 6 ∧ ∀ k, k < V 22 0 6 → N 8 P k = V 22 0 (141 + 2 * k) ∧ N 9 P k = V 22 0 (141 + 2 * k + 1)
def SO (V : GV) (σ : List Nat) : Prop := (σ.Pairwise fun a b => bef (V 22 0) a b = true) ∧ ∀ k, k ∈ σ ↔ k < V 22 0 7
def RO (N : GV) (P : Nat) (V : GV) : Prop := N 4 P 3 = V 22 0 7 ∧ ∃ σ, SO V σ ∧ σ.length = V 22 0 7 ∧ ∀ i, i < V 22 0 7 → coA N P i = ouA (V 22 0) (σ.getD i 0)
theorem RW.fb {K P : Nat} {N V : GV} (hD : DI K V) (h : RW N P V) : FB N P := by
  have h6 := hD.h6
  refine ⟨by rw [h.1]; exact h6, fun k hk => ?_⟩
  rw [h.1] at hk
  have a := h.2 k hk
  have b1 := hD.fr (k := 2 * k) (by omega)
  have b2 := hD.fr (k := 2 * k + 1) (by omega)
  have b2 : V 22 0 (141 + 2 * k + 1) ≤ 999 := b2
  omega
theorem RW.mt {N V : GV} {P a b : Nat} (h : RW N P V) : mtC N P a b = meetB (V 22 0) a b := by
  unfold mtC meetB
  rw [h.1]
  refine anyN_c fun k hk => ?_
  rw [(h.2 k hk).1, (h.2 k hk).2]
theorem RW.fry {N V : GV} {P : Nat} (h : RW N P V) (hd : N 5 P 0 = V 22 0 5) : fryC N P = froB (V 22 0) (V 22 0 5) := by
  unfold fryC
  rw [hd, h.mt]
  unfold meetB froB
  refine anyN_c fun k hk => ?_
  rw [Bool.and_comm]
theorem RO.ob {K P : Nat} {N V : GV} (hD : DI K V) (h : RO N P V) : OB N P := by
  have h7 := hD.h7
  have hK := hD.hK
  obtain ⟨e, σ, hs, hl, hc⟩ := h
  refine ⟨by omega, fun k hk => ?_⟩
  rw [e] at hk
  have c := hc k hk
  have hm : σ.getD k 0 < V 22 0 7 := by
    rw [← hs.2, List.getD_eq_getElem?_getD, List.getElem?_eq_getElem (by omega)]
    exact List.getElem_mem (by omega)
  have b := hD.ou (k := σ.getD k 0) (by omega)
  unfold coA ouA at c
  injection c with c1 c2
  injection c2 with c2 c3
  omega
/-- the frame of a state's slots that the day's first steps leave -/
theorem RT.fr {N N' V V' : GV} {P : Nat} (h : RT N P V) (f : FrC P N N') (g : Fr V V') : RT N' P V' := by
  refine ⟨fun k hk => ?_, ?_⟩
  · rw [f _ _ _ (by omega) (by omega) (by omega), g _ _ _ (by omega) (by decide) (by decide) (by decide)]; exact h.1 k hk
  · rw [f _ _ _ (by omega) (by omega) (by omega), g _ _ _ (by omega) (by decide) (by decide) (by decide)]; exact h.2
theorem RW.fr {K : Nat} {N N' V V' : GV} {P : Nat} (hD : DI K V) (h : RW N P V) (f : FrC P N N') (g : Fr V V') : RW N' P V' := by
  have h6 := hD.h6
  have e6 : V' 22 0 6 = V 22 0 6 := g _ _ _ (by omega) (by decide) (by decide) (by decide)
  refine ⟨?_, fun k hk => ?_⟩
  · rw [f _ _ _ (by omega) (by omega) (by omega), e6]; exact h.1
  · rw [e6] at hk
    rw [f _ _ _ (by omega) (by omega) (by omega), f _ _ _ (by omega) (by omega) (by omega), g _ _ _ (by omega) (by decide) (by decide) (by decide), g _ _ _ (by omega) (by decide) (by decide) (by decide)]
    exact h.2 k hk
theorem bef_e {V V' : GV} (g : Fr V V') {a b : Nat} : bef (V' 22 0) a b = bef (V 22 0) a b := by
  unfold bef
  rw [g 22 0 (153 + 3 * a) (by omega) (by decide) (by decide) (by decide), g 22 0 (153 + 3 * b) (by omega) (by decide) (by decide) (by decide), g 22 0 (153 + 3 * a + 1) (by omega) (by decide) (by decide) (by decide), g 22 0 (153 + 3 * b + 1) (by omega) (by decide) (by decide) (by decide)]
theorem ouA_e {V V' : GV} (g : Fr V V') {k : Nat} : ouA (V' 22 0) k = ouA (V 22 0) k := by
  unfold ouA
  rw [g 22 0 (153 + 3 * k) (by omega) (by decide) (by decide) (by decide), g 22 0 (153 + 3 * k + 1) (by omega) (by decide) (by decide) (by decide), g 22 0 (153 + 3 * k + 2) (by omega) (by decide) (by decide) (by decide)]
theorem SO.fr {V V' : GV} {σ : List Nat} (h : SO V σ) (g : Fr V V') : SO V' σ := by
  have e7 : V' 22 0 7 = V 22 0 7 := g _ _ _ (by omega) (by decide) (by decide) (by decide)
  refine ⟨?_, fun k => by rw [e7]; exact h.2 k⟩
  have : (fun a b => bef (V' 22 0) a b = true) = fun a b => bef (V 22 0) a b = true := by funext a b; rw [bef_e g]
  rw [this]
  exact h.1
theorem RO.fr {N N' V V' : GV} {P : Nat} (h : RO N P V) (f : FrC P N N') (g : Fr V V') : RO N' P V' := by
  obtain ⟨e, σ, hs, hl, hc⟩ := h
  have e7 : V' 22 0 7 = V 22 0 7 := g _ _ _ (by omega) (by decide) (by decide) (by decide)
  refine ⟨by rw [f _ _ _ (by omega) (by omega) (by omega), e7]; exact e, σ, hs.fr g, by rw [e7]; exact hl, fun i hi => ?_⟩
  rw [e7] at hi
  rw [ouA_e g, ← hc i hi]
  unfold coA
  rw [f _ _ _ (by omega) (by omega) (by omega), f _ _ _ (by omega) (by omega) (by omega), f _ _ _ (by omega) (by omega) (by omega)]
/-- the next outing of a day is the first of the list -/
theorem nxoN_min {S D : Nat → Nat} {d j : Nat} (h1 : S (153 + 3 * j) = d) (h2 : D j = 0) : ∀ n, j < n → (∀ i, i < n → ¬ i = j → S (153 + 3 * i) = d → D i = 0 → S (153 + 3 * i + 1) < S (153 + 3 * j + 1) ∨ (S (153 + 3 * i + 1) = S (153 + 3 * j + 1) ∧ j < i)) → nxoN S D d n = some j := by
  intro n
  induction n with
  | zero => intro h; omega
  | succ n ih =>
    intro hj ho
    by_cases e : j = n
    · subst e
      unfold nxoN
      rw [if_pos]
      refine ⟨h1, h2, ?_⟩
      cases hb : nxoN S D d j with
      | none => rfl
      | some b =>
        have hlt := nxoN_lt hb
        have := ho b (by omega) (by omega) hlt.2.1 hlt.2.2
        exact decide_eq_true (by omega)
    · have ih := ih (by omega) fun i hi => ho i (by omega)
      unfold nxoN
      rw [ih, if_neg]
      rintro ⟨a, b, c⟩
      have := ho n (by omega) (fun q => e q.symm) a b
      have c : decide (S (153 + 3 * j + 1) < S (153 + 3 * n + 1)) = true := c
      have := of_decide_eq_true c
      omega
