/-! what holds between calls -/
def sst (N : GV) : Nat → Nat → Nat := fun i s => N 24 0 (204 * i + s)
def INV (N : GV) (R : GR) : Prop := Rok R ∧ JB N ∧ PK N 0 N ∧ STV N ∧ SAV N R (N 7 0 4) (sst N) ∧ (∀ i, i < N 7 0 4 → STV (cw (sst N i))) ∧ bufW N ∧ N 3 0 1 = N 7 0 6 ∧ ∀ j, j < N 7 0 6 → N 10 0 j = N 25 0 j
theorem DI.v {K : Nat} {V V' : GV} (h : DI K V) (v : ∀ s, s < 204 → V' 22 0 s = V 22 0 s) : DI K V' := by
  refine ⟨h.hK, fun j => ?_, fun p hp => ?_⟩
  · by_cases q : j < 204
    · rw [v j q]; exact h.u j
    · exact ⟨fun _ => by omega, fun _ => by omega, fun _ => by omega, fun _ => by omega, fun _ => by omega⟩
  · rw [v _ (by omega), v _ (by omega)]; exact h.l p hp
theorem STV.v {V V' : GV} (h : STV V) (v : ∀ s, s < 204 → V' 22 0 s = V 22 0 s) : STV V' := by
  obtain ⟨⟨a, a'⟩, b, c, d, f, g⟩ := h
  refine ⟨⟨by rw [v 5 (by omega)]; exact a.v v, fun s x y => ?_⟩, by rw [v 5 (by omega)]; exact b, by rw [v 7 (by omega)]; exact c, by rw [v 8 (by omega), v 9 (by omega)]; exact d, by rw [v 9 (by omega), v 5 (by omega)]; exact f, g.g a.h6 fun s q => v s (by omega)⟩
  rw [v 7 (by omega)] at x
  rw [v s y]
  exact a' s x y
theorem SAV.t {N : GV} {R : GR} {n : Nat} {T T' : Nat → Nat → Nat} (h : SAV N R n T) (e : ∀ i s, i < n → s < 204 → T' i s = T i s) : SAV N R n T' := by
  obtain ⟨h3, hn, l, hl, hs⟩ := h
  refine ⟨h3, hn, l, hl, fun i hi => ?_⟩
  obtain ⟨a, b⟩ := hs i hi
  have v : ∀ s, s < 204 → (cw (T' i)) 22 0 s = (cw (T i)) 22 0 s := fun s q => by rw [cw_22, cw_22]; exact e i s hi q
  exact ⟨a.v b.h6 b.h7 v, by rw [e i 5 hi (by omega)]; exact b.v v⟩
theorem PK.n {P : Nat} {N N' V : GV} (h : PK N P V) (e : ∀ k i s, k < 22 → ¬ k = 7 → ¬ k = 3 → ¬ (10 ≤ k ∧ k ≤ 13) → N' k i s = N k i s) : PK N' P V :=
  ⟨h.1.g (fun p s _ _ _ => e _ _ _ (by omega) (by omega) (by omega) (by omega)) (fun p s _ _ _ => e _ _ _ (by omega) (by omega) (by omega) (by omega)) (fun s _ _ => e _ _ _ (by omega) (by omega) (by omega) (by omega)) (fun _ _ _ => rfl) (h.1.2.2.2.2.2.g fun k i s _ => e _ _ _ (by omega) (by omega) (by omega) (by omega)),
   ⟨fun k hk => by rw [e _ _ _ (by omega) (by omega) (by omega) (by omega)]; exact h.2.1.1 k hk, by rw [e _ _ _ (by omega) (by omega) (by omega) (by omega)]; exact h.2.1.2⟩,
   ⟨by rw [e _ _ _ (by omega) (by omega) (by omega) (by omega)]; exact h.2.2.1.1, fun k hk => by rw [e _ _ _ (by omega) (by omega) (by omega) (by omega), e _ _ _ (by omega) (by omega) (by omega) (by omega)]; exact h.2.2.1.2 k hk⟩,
   by
    obtain ⟨a, σ, b, c, d⟩ := h.2.2.2
    refine ⟨by rw [e _ _ _ (by omega) (by omega) (by omega) (by omega)]; exact a, σ, b, c, fun i hi => ?_⟩
    rw [← d i hi]
    unfold coA
    rw [e _ _ _ (by omega) (by omega) (by omega) (by omega), e _ _ _ (by omega) (by omega) (by omega) (by omega), e _ _ _ (by omega) (by omega) (by omega) (by omega)]⟩
theorem SAV.n {N N' : GV} {R : GR} {n : Nat} {T : Nat → Nat → Nat} (h : SAV N R n T) (e : ∀ k i s, k < 22 → ¬ k = 7 → ¬ k = 3 → ¬ (10 ≤ k ∧ k ≤ 13) → N' k i s = N k i s) : SAV N' R n T := by
  obtain ⟨h3, hn, l, hl, hs⟩ := h
  exact ⟨by rw [e _ _ _ (by omega) (by omega) (by omega) (by omega)]; exact h3, hn, l, hl, fun i hi => ⟨(hs i hi).1.n e, (hs i hi).2⟩⟩
/-- behind a call of the class and one of the reference -/
theorem INV.of {N C W V' : GV} {R' : GR} {n : Nat} {T : Nat → Nat → Nat} (hO : OUT N V' n T C R') (hW : ∀ k i s, k < 22 → ¬ k = 7 → ¬ k = 3 → ¬ (10 ≤ k ∧ k ≤ 13) → W k i s = C k i s) (hD : DW V') (h22 : ∀ s, s < 204 → W 22 0 s = V' 22 0 s) (hV : STV V') (h4 : W 7 0 4 = n) (h24 : ∀ i s, i < n → s < 204 → W 24 0 (204 * i + s) = T i s) (hT : ∀ i, i < n → STV (cw (T i))) (hb : bufW W) (h6 : W 3 0 1 = W 7 0 6) (h10 : ∀ j, j < W 7 0 6 → W 10 0 j = W 25 0 j) : INV W R' := by
  obtain ⟨a, b, c, d, _⟩ := hO
  refine ⟨a, fun x hx q => ?_, (c.v hD.1.h6 hD.1.h7 h22).n hW, hV.v h22, ?_, fun i hi => ?_, hb, h6, h10⟩
  · rw [hW _ _ _ (by omega) (by omega) (by omega) (by omega)] at q
    rw [hW _ _ _ (by omega) (by omega) (by omega) (by omega)]
    exact b x hx q
  · rw [h4]
    exact (d.t fun i s hi hs => h24 i s hi hs).n hW
  · rw [h4] at hi
    exact (hT i hi).v fun s hs => by rw [cw_22, cw_22]; exact h24 i s hi hs
theorem INV.se {N M : GV} {R : GR} (h : INV N R) (e : SE N M) : INV M R := by
  obtain ⟨e1, e2, e3, e4, e5, e6⟩ := e
  obtain ⟨a, b, c, d, f, g, i, j, k⟩ := h
  have eq : ∀ k i s, k < 22 → ¬ k = 7 → M k i s = N k i s := fun k i s x y => e6 k i s (Or.inl x) y
  refine INV.of (N := N) (C := N) (V' := N) (T := sst N) ⟨a, b, c, f, fun _ _ _ _ => rfl⟩ (fun k i s x y _ _ => eq k i s x y) d.1 (fun s _ => by rw [e1]) d e4 (fun i s _ _ => by rw [e2]; rfl) g (i.ss ⟨e1, e2, e3, e4, e5, e6⟩) (by rw [eq _ _ _ (by omega) (by omega), e5]; exact j) fun x hx => ?_
  rw [e5] at hx
  rw [eq _ _ _ (by omega) (by omega), e3]
  exact k x hx
/-- a trial or a look: the class's world, the reference's -/
theorem INV.lk {N C W : GV} {R R' : GR} (hI : INV N R) (hO : OUT N N (N 7 0 4) (sst N) C R') (e : SE C W) : INV W R' := by
  obtain ⟨a, b, c, d, f, g, i, j, k⟩ := hI
  have ke := hO.2.2.2.2
  have hC : INV C R' := by
    refine INV.of hO (fun _ _ _ _ _ _ _ => rfl) d.1 (fun s _ => ke _ _ _ (by omega)) d (ke _ _ _ (by omega)) (fun i s _ _ => ke _ _ _ (by omega)) g ?_ (by rw [ke _ _ _ (by omega), ke _ _ _ (by omega)]; exact j) fun x hx => ?_
    · unfold bufW
      rw [ke _ _ _ (by omega)]
      refine ⟨i.1, fun x hx => ?_⟩
      rw [ke _ _ _ (by omega)]
      exact i.2 x hx
    · rw [ke _ _ _ (by omega)] at hx
      rw [ke _ _ _ (by omega), ke _ _ _ (by omega)]
      exact k x hx
  exact hC.se e
theorem svd_70 {N : GV} : (svd N) 7 0 0 = 0 := by
  unfold svd
  rw [sav_o (by decide) (fun _ => by decide), er_0]
theorem svd_74 {N : GV} (h : N 7 0 4 ≤ 6) : (svd N) 7 0 4 = min (N 7 0 4) 5 + 1 := by
  have e4 : (er N 0) 7 0 4 = N 7 0 4 := er_s (by decide)
  unfold svd savN
  rw [up3_self]
  unfold shfN
  rw [e4]
  split
  · next q => rw [up3_self, q]; rfl
  · next q => rw [e4]; omega
theorem svd_24 {N : GV} (h : N 7 0 4 ≤ 6) {i s : Nat} (hi : i < min (N 7 0 4) 5 + 1) (hs : s < 204) : (svd N) 24 0 (204 * i + s) = svT (N 7 0 4) (sst N) (N 22 0) i s := by
  have e4 : (er N 0) 7 0 4 = N 7 0 4 := er_s (by decide)
  have e24 : ∀ s, (er N 0) 24 0 s = N 24 0 s := fun s => er_k (by decide)
  have m : (shfN (er N 0)) 7 0 4 = min (N 7 0 4) 5 := by
    unfold shfN
    rw [e4]
    split
    · next q => rw [up3_self, q]; rfl
    · next q => rw [e4]; omega
  unfold svd savN svT
  rw [up3_k _ _ (by decide), m]
  by_cases q : i = min (N 7 0 4) 5
  · rw [if_pos q, q, rowAt_in (by omega)]
    rw [show 204 * min (N 7 0 4) 5 + s - 204 * min (N 7 0 4) 5 = s by omega]
    exact er_k (by decide)
  · rw [if_neg q, rowAt_out (fun _ _ => by omega)]
    unfold shfN
    rw [e4]
    by_cases q6 : N 7 0 4 = 6
    · rw [if_pos q6, if_pos q6, up3_k _ _ (by decide), rowTo_in (by omega), e24]
      unfold sst
      rw [show 204 * i + s + 204 = 204 * (i + 1) + s by omega]
    · rw [if_neg q6, if_neg q6, e24]; rfl
theorem svd_o {N : GV} {k i s : Nat} (h : ¬ k = 24) (h' : ¬ (k = 7 ∧ (s = 0 ∨ s = 4))) : (svd N) k i s = N k i s := by
  unfold svd
  rw [sav_o h (fun q => by omega)]
  by_cases q : k = 7
  · subst q; exact er_s (by omega)
  · exact er_k q
/-- a call that saves the state -/
theorem INV.mu {N C V' W : GV} {R R' : GR} (hI : INV N R) (hO : OUT N V' (min (N 7 0 4) 5 + 1) (svT (N 7 0 4) (sst N) (N 22 0)) C R') (hW : ∀ k i s, ¬ k = 22 → ¬ (k = 7 ∧ ¬ s = 0 ∧ ¬ s = 4) → ¬ (26 ≤ k ∧ k ≤ 29) → W k i s = (svd C) k i s) (h76 : W 7 0 6 = C 7 0 6) (h22 : ∀ s, s < 204 → W 22 0 s = V' 22 0 s) (hV : STV V') : INV W R' := by
  obtain ⟨a, b, c, d, f, g, i, j, k⟩ := hI
  have ke := hO.2.2.2.2
  have h6 := f.2.1
  have c4 : C 7 0 4 = N 7 0 4 := ke _ _ _ (by omega)
  refine INV.of hO (fun k i s x y _ _ => by rw [hW _ _ _ (by omega) (by omega) (by omega), svd_o (by omega) (by omega)]) hV.1 h22 hV (by rw [hW _ _ _ (by omega) (by omega) (by omega), svd_74 (by omega), c4]) (fun i s x y => ?_) (fun i hi => ?_) ?_ ?_ fun x hx => ?_
  · rw [hW _ _ _ (by omega) (by omega) (by omega), svd_24 (by omega) (by rw [c4]; exact x) y, c4]
    have e22 : C 22 0 = N 22 0 := by funext s; exact ke _ _ _ (by omega)
    have e24 : sst C = sst N := by funext i s; exact ke _ _ _ (by omega)
    rw [e22, e24]
  · unfold svT
    split
    · exact d.e cw_22
    · split
      · next q => exact g (i + 1) (by omega)
      · next q1 q => exact g i (by omega)
  · unfold bufW
    rw [h76, ke _ _ _ (by omega)]
    refine ⟨i.1, fun x hx => ?_⟩
    rw [hW _ _ _ (by omega) (by omega) (by omega), svd_o (by omega) (by omega), ke _ _ _ (by omega)]
    exact i.2 x hx
  · rw [h76, hW _ _ _ (by omega) (by omega) (by omega), svd_o (by omega) (by omega), ke _ _ _ (by omega), ke _ _ _ (by omega)]
    exact j
  · rw [h76, ke _ _ _ (by omega)] at hx
    rw [hW _ _ _ (by omega) (by omega) (by omega), svd_o (by omega) (by omega), ke _ _ _ (by omega), hW _ _ _ (by omega) (by omega) (by omega), svd_o (by omega) (by omega), ke _ _ _ (by omega)]
    exact k x hx
/-- class and reference answer a call alike -/
def RES (X : XS) (m r : Nat) (as : List AV) (N : GV) (R : GR) (L : GL) (Z : Nat × Nat × Bool) : Prop := ∃ (k : Nat) (y : Int32) (L' : GL) (C : GV) (R' : GR) (W : GV) (Z' : Nat × Nat × Bool),
  exec X m (vR 6 0 :: (as ++ [vR 30 0])) (gg (nW N) R L Z) = some (.inl (some (vI (nI k))), gg (nW C) R' L' Z') ∧
  exec X r (vR 7 0 :: as) (gg (nW C) R' L' Z') = some (.inl (some (vI y)), gg (nW W) R' L' Z') ∧
  W 7 0 0 = k ∧ k < 4 ∧ (k = 0 → L' 30 0 0 = y.toInt64) ∧ INV W R' ∧ (Z' = Z ∨ Z' = tz Z)
theorem RES.t {X : XS} {m r k : Nat} {as : List AV} {N : GV} {R : GR} {L : GL} {Z : Nat × Nat × Bool} (hI : INV N R) (hk : k < 4) (hk0 : ¬ k = 0) (s : exec X m (vR 6 0 :: (as ++ [vR 30 0])) (gg (nW N) R L Z) = some (.inl (some (vI (nI k))), gg (nW N) R L (tz Z))) (t : exec X r (vR 7 0 :: as) (gg (nW N) R L (tz Z)) = some (.inl (some (vI (nI 0))), gg (nW (er N k)) R L (tz Z))) : RES X m r as N R L Z :=
  ⟨k, nI 0, L, N, R, er N k, tz Z, s, t, er_0, hk, fun q => absurd q hk0, hI.se SE.er, Or.inr rfl⟩
theorem RES.o {X : XS} {m r : Nat} {as : List AV} {N C W : GV} {R R' : GR} {L : GL} {Z : Nat × Nat × Bool} {y : Int32} (hI : INV W R') (h0 : W 7 0 0 = 0) (s : exec X m (vR 6 0 :: (as ++ [vR 30 0])) (gg (nW N) R L Z) = some (.inl (some (vI (nI 0))), gg (nW C) R' (up3 L 30 0 0 y.toInt64) Z)) (t : exec X r (vR 7 0 :: as) (gg (nW C) R' (up3 L 30 0 0 y.toInt64) Z) = some (.inl (some (vI y)), gg (nW W) R' (up3 L 30 0 0 y.toInt64) Z)) : RES X m r as N R L Z :=
  ⟨0, y, _, C, R', W, Z, s, t, h0, by omega, fun _ => up3_self _ _ _ _ _, hI, Or.inl rfl⟩
