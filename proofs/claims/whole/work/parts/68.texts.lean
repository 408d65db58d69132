/-! the calls on texts, undo -/
theorem INV.bu {N : GV} {R : GR} (h : INV N R) : BU N N := ⟨h.2.2.2.2.2.2.1, h.2.2.2.2.2.2.2.1, h.2.2.2.2.2.2.2.2⟩
/-- only texts are touched -/
theorem INV.tx {N C W : GV} {R : GR} (hI : INV N R) (hC : ∀ k i s, ¬ k = 3 → ¬ (10 ≤ k ∧ k ≤ 13) → C k i s = N k i s) (hW : ∀ k i s, k < 22 → ¬ k = 7 → W k i s = C k i s) (h22 : W 22 0 = N 22 0) (h24 : W 24 0 = N 24 0) (h4 : W 7 0 4 = N 7 0 4) (hb : BU W W) : INV W R := by
  obtain ⟨a, b, c, d, f, g, i, j, k⟩ := hI
  refine INV.of (N := C) (C := C) (V' := N) (T := sst N) ⟨a, fun x hx q => ?_, c.n fun k i s _ _ y z => hC k i s y z, f.n fun k i s _ _ y z => hC k i s y z, fun _ _ _ _ => rfl⟩ (fun k i s x y _ _ => hW k i s x y) d.1 (fun s _ => by rw [h22]) d h4 (fun i s _ _ => by rw [h24]; rfl) g hb.1 hb.2.1 hb.2.2
  rw [hC _ _ _ (by omega) (by omega)] at q
  rw [hC _ _ _ (by omega) (by omega)]
  exact b x hx q
theorem c184 {X : XS} {N : GV} {R : GR} {L : GL} {Z : Nat × Nat × Bool} (hR : Rok R) {x : Int32} (hI : INV N R) : RES X 184 136 [vI x] N R L Z := by
  obtain ⟨⟨h60, hb⟩, e31, e10⟩ := hI.bu
  cases i1 : inb 33 126 x with
  | false =>
    refine RES.t hI (k := 1) (by omega) (by omega) (w184_1 ?_) (t136_1 hR i1)
    simp (disch := first | assumption | omega | exact nI_or0 | exact nI_or1 | exact bN_or _) only [in56, x56_0, x56_1, x56_3, x56_5, reduceIte, Nat.reduceLT, nW_ap, nW_up, nI_add, pk_mul, nI_ltI, nI_eq, if_true, if_false, kont_r, kont_v, Nat.reduceAdd, Nat.reduceMul, Nat.not_lt, not_true_eq_false, not_false_eq_true, Nat.one_ne_zero, Nat.reduceEqDiff, Nat.lt_irrefl, reduceCtorEq, nI_or0, nI_or1, t76_f i1, kont_t]
  | true =>
    obtain ⟨c, ec, c1, c2⟩ := inb_n i1 (by omega) (by omega)
    subst ec
    by_cases q : N 7 0 6 = 60
    · refine RES.t hI (k := 2) (by omega) (by omega) (w184_2 ?_) (t136_2 hR ⟨c1, c2⟩ q)
      rw [q] at e31
      simp (disch := first | assumption | omega | exact nI_or0 | exact nI_or1 | exact bN_or _) only [in56, x56_0, x56_1, x56_3, x56_5, x56_8, x56_9, x56_12, x56_15, x56_17, x56_20, reduceIte, Nat.reduceLT, nW_ap, nW_up, nI_add, pk_mul, nI_ltI, nI_eq, if_true, if_false, kont_r, kont_v, Nat.reduceAdd, Nat.reduceMul, Nat.not_lt, not_true_eq_false, not_false_eq_true, Nat.one_ne_zero, Nat.reduceEqDiff, Nat.lt_irrefl, reduceCtorEq, nI_or0, nI_or1, t76_t i1, e31, thr_g]
    · have q' : N 7 0 6 < 60 := by omega
      have t := t136_3 (X := X) (N := up3 (up3 N 10 0 (N 7 0 6) c) 3 0 1 (N 7 0 6 + 1)) (R := R) (L := up3 L 30 0 0 (nI (N 7 0 6 + 1)).toInt64) (Z := Z) (c := c) hR ⟨c1, c2⟩ (by rw [u_ne (by omega), u_ne (by omega)]; exact q')
      have e76 : (up3 (up3 N 10 0 (N 7 0 6) c) 3 0 1 (N 7 0 6 + 1)) 7 0 6 = N 7 0 6 := by rw [u_ne (by omega), u_ne (by omega)]
      rw [e76] at t
      have hC : ∀ k i s, ¬ k = 3 → ¬ (10 ≤ k ∧ k ≤ 13) → (up3 (up3 N 10 0 (N 7 0 6) c) 3 0 1 (N 7 0 6 + 1)) k i s = N k i s := fun k i s y z => by rw [u_ne (by omega), u_ne (by omega)]
      have b31 : (up3 (up3 N 10 0 (N 7 0 6) c) 3 0 1 (N 7 0 6 + 1)) 3 0 1 = N 7 0 6 + 1 := up3_self _ _ _ _ _
      have b10 : ∀ j, j < N 7 0 6 + 1 → (up3 (up3 N 10 0 (N 7 0 6) c) 3 0 1 (N 7 0 6 + 1)) 10 0 j = if j = N 7 0 6 then c else N 25 0 j := fun j hj => by
        rw [u_ne (by omega)]
        by_cases e : j = N 7 0 6
        · rw [if_pos e, u_eq (by omega)]
        · rw [if_neg e, u_ne (by omega), e10 j (by omega)]
      have hs : exec X 56 [vR 6 0, vI (nI c)] (gg (nW N) R L Z) = some (.inl (some (vI (nI (N 7 0 6 + 1)))), (gg (nW (up3 (up3 N 10 0 (N 7 0 6) c) 3 0 1 (N 7 0 6 + 1))) R L Z)) := by
        have r1 : ∀ {v : Nat}, up3 N 10 0 (N 7 0 6) v 3 0 1 = N 7 0 6 := fun {v} => by rw [up3_k _ _ (by decide), e31]
        have r2 : ∀ {M : GV} {v : Nat}, up3 M 3 0 1 v 3 0 1 = v := fun {M v} => up3_self _ _ _ _ _
        simp (disch := first | assumption | omega | exact nI_or0 | exact nI_or1 | exact bN_or _) only [in56, x56_0, x56_1, x56_3, x56_5, x56_8, x56_9, x56_12, x56_15, x56_17, x56_20, x56_30, x56_31, x56_34, x56_37, x56_38, x56_41, x56_44, x56_45, x56_46, x56_47, x56_50, x56_51, x56_54, x56_55, x56_56, x56_59, x56_60, x56_63, x56_66, in56, reduceIte, Nat.reduceLT, nW_ap, nW_up, nI_add, pk_mul, nI_ltI, nI_eq, if_true, if_false, kont_r, kont_v, Nat.reduceAdd, Nat.reduceMul, Nat.not_lt, not_true_eq_false, not_false_eq_true, Nat.one_ne_zero, Nat.reduceEqDiff, Nat.lt_irrefl, reduceCtorEq, nI_or0, nI_or1, t76_t i1, e31, q', r1, r2]
      generalize hCC : up3 (up3 N 10 0 (N 7 0 6) c) 3 0 1 (N 7 0 6 + 1) = C at t e76 hC b31 b10 hs
      have w7 : ∀ k i s, k < 22 → ¬ k = 7 → (up3 (up3 (er C 0) 25 0 (N 7 0 6) c) 7 0 6 (N 7 0 6 + 1)) k i s = C k i s := fun k i s y z => by rw [u_ne (by omega), u_ne (by omega), er_k z]
      have w76 : (up3 (up3 (er C 0) 25 0 (N 7 0 6) c) 7 0 6 (N 7 0 6 + 1)) 7 0 6 = N 7 0 6 + 1 := up3_self _ _ _ _ _
      have w25 : ∀ j, (up3 (up3 (er C 0) 25 0 (N 7 0 6) c) 7 0 6 (N 7 0 6 + 1)) 25 0 j = if j = N 7 0 6 then c else N 25 0 j := fun j => by
        rw [u_ne (by omega)]
        by_cases e : j = N 7 0 6
        · rw [if_pos e, u_eq (by omega)]
        · rw [if_neg e, u_ne (by omega), er_k (by decide), hC _ _ _ (by omega) (by omega)]
      refine RES.o (W := up3 (up3 (er C 0) 25 0 (N 7 0 6) c) 7 0 6 (N 7 0 6 + 1)) (hI.tx hC w7 ?_ ?_ ?_ ⟨⟨by rw [w76]; omega, fun j hj => ?_⟩, by rw [w7 _ _ _ (by omega) (by omega), b31, w76], fun j hj => ?_⟩) ?_ (w184 hs) t
      · funext s
        rw [u_ne (by omega), u_ne (by omega), er_k (by decide), hC _ _ _ (by omega) (by omega)]
      · funext s
        rw [u_ne (by omega), u_ne (by omega), er_k (by decide), hC _ _ _ (by omega) (by omega)]
      · rw [u_ne (by omega), u_ne (by omega), er_s (by decide), hC _ _ _ (by omega) (by omega)]
      · rw [w76] at hj
        rw [w25]
        by_cases e : j = N 7 0 6
        · rw [if_pos e]; omega
        · rw [if_neg e]; exact hb j (by omega)
      · rw [w76] at hj
        rw [w7 _ _ _ (by omega) (by omega), b10 j hj, w25]
      · rw [u_ne (by omega), u_ne (by omega)]; exact er_0
/-- class and reference answer a call without arguments alike -/
def RES2 (X : XS) (c r : Nat) (N : GV) (R : GR) (L : GL) (Z : Nat × Nat × Bool) : Prop := ∃ (y : Int32) (C W : GV), exec X c [vR 6 0] (gg (nW N) R L Z) = some (.inl (some (vI y)), (gg (nW (C)) R L Z)) ∧ exec X r [vR 7 0] (gg (nW (C)) R L Z) = some (.inl (some (vI y)), (gg (nW (W)) R L Z)) ∧ INV W R
theorem c57 {X : XS} {N : GV} {R : GR} {L : GL} {Z : Nat × Nat × Bool} (hR : Rok R) (hI : INV N R) : RES2 X 57 137 N R L Z := by
  obtain ⟨⟨h60, hb⟩, e31, e10⟩ := hI.bu
  have t := t137 (X := X) (N := up3 N 3 0 1 0) (R := R) (L := L) (Z := Z) hR
  have e76 : (up3 N 3 0 1 0) 7 0 6 = N 7 0 6 := u_ne (by omega)
  rw [e76] at t
  refine ⟨nI (N 7 0 6), up3 N 3 0 1 0, _, ?_, t, hI.tx (C := up3 N 3 0 1 0) (fun k i s y z => u_ne (by omega)) (fun k i s y z => by rw [u_ne (by omega), er_k z]) ?_ ?_ ?_ ⟨⟨by rw [up3_self]; omega, fun j hj => by rw [up3_self] at hj; omega⟩, ?_, fun j hj => by rw [up3_self] at hj; omega⟩⟩
  · simp (disch := first | assumption | omega | exact nI_or0 | exact nI_or1 | exact bN_or _) only [in57, x57_0, x57_1, x57_4, x57_7, x57_8, x57_9, x57_12, x57_13, x57_16, x57_17, in57, reduceIte, Nat.reduceLT, nW_ap, nW_up, nI_add, pk_mul, nI_ltI, nI_eq, if_true, if_false, kont_r, kont_v, Nat.reduceAdd, Nat.reduceMul, Nat.not_lt, not_true_eq_false, not_false_eq_true, Nat.one_ne_zero, Nat.reduceEqDiff, Nat.lt_irrefl, reduceCtorEq, nI_or0, nI_or1, e31]
  · funext s
    rw [u_ne (by omega), er_k (by decide), u_ne (by omega)]
  · funext s
    rw [u_ne (by omega), er_k (by decide), u_ne (by omega)]
  · rw [u_ne (by omega), er_s (by decide), u_ne (by omega)]
  · rw [up3_self, u_ne (by omega), er_k (by decide), up3_self]
theorem sg_in {V : GV} {p : Nat} (h : p < V 7 0 6) : sg V p = V 25 0 p := if_pos h
theorem c58 {X : XS} {N : GV} {R : GR} {L : GL} {Z : Nat × Nat × Bool} (hR : Rok R) (hI : INV N R) : RES2 X 58 145 N R L Z := by
  have hB := hI.bu
  obtain ⟨p, ok, g, T, a, b⟩ := t145 (X := X) (N := N) (L := L) (Z := Z) hR hB.1
  have hp : p ≤ N 7 0 6 ∧ (PS N p).1 ≤ 8 ∧ (p < N 7 0 6 → stB (PS N p).1 (N 25 0 p) = 9) := by
    rcases b with ⟨_, e, d, c, v, l, e2, _⟩ | ⟨_, e, b1, b2, b3⟩
    · exact ⟨by omega, by rw [e2]; exact Nat.le_refl _, fun q => by omega⟩
    · exact ⟨e, b1, fun q => by rw [← sg_in q]; exact b2 q⟩
  have s20 := t20 (X := X) (N := N) (R := R) (L := L) (Z := Z) hR hB hp.1 hp.2.1 hp.2.2
  refine ⟨nI p, N, _, ?_, a, hI.se (SE.er.tr SS.tx.se)⟩
  simp (disch := first | assumption | omega | exact nI_or0 | exact nI_or1 | exact bN_or _) only [in58, x58_0, x58_1, x58_4, x58_7, in58, reduceIte, Nat.reduceLT, nW_ap, nW_up, nI_add, pk_mul, nI_ltI, nI_eq, if_true, if_false, kont_r, kont_v, Nat.reduceAdd, Nat.reduceMul, Nat.not_lt, not_true_eq_false, not_false_eq_true, Nat.one_ne_zero, Nat.reduceEqDiff, Nat.lt_irrefl, reduceCtorEq, nI_or0, nI_or1, s20]
/-- outings are planned one after the other -/
theorem plnL_e {M M' : GV} (e : M 22 0 = M' 22 0) : ∀ {l : List OT}, (plnL M l) 22 0 = (plnL M' l) 22 0 := by
  intro l
  induction l generalizing M M' with
  | nil => exact e
  | cons o l ih => exact ih (by rw [plnS_e, plnS_e, e])
theorem STV.pls {V : GV} {l : List OT} (h : STV V) (h7 : V 22 0 7 + l.length ≤ 16) (hd : ∀ o, o ∈ l → o.1 ≤ 999 ∧ o.2.1 ≤ 99 ∧ o.2.2 ≤ 7) : STV (plnL V l) := by
  induction l generalizing V with
  | nil => exact h
  | cons o l ih =>
    have b := hd o List.mem_cons_self
    rw [List.length_cons] at h7
    exact ih (h.pl (by omega) b.1 b.2.1 b.2.2) (by rw [pln_7]; omega) fun x hx => hd x (List.mem_cons_of_mem _ hx)
theorem tk_s {l : List OT} {k : Nat} (hk : k < l.length) : l.take (k + 1) = l.take k ++ [l.getD k (0, 0, 0)] := by
  rw [List.take_succ_eq_append_getElem hk, List.getD_eq_getElem?_getD, List.getElem?_eq_getElem hk]; rfl
theorem shf_c {N M : GV} (e4 : M 7 0 4 = N 7 0 4) (e24 : M 24 0 = N 24 0) : (shfN M) 24 0 = (shfN N) 24 0 ∧ (shfN M) 7 0 4 = (shfN N) 7 0 4 := by
  unfold shfN
  rw [e4]
  split
  · refine ⟨?_, by rw [up3_self, up3_self]⟩
    rw [upk0 (by decide), upk0 (by decide)]
    funext s
    unfold rowTo
    rw [e24]
  · exact ⟨e24, e4⟩
theorem sav_c {N M : GV} (e4 : M 7 0 4 = N 7 0 4) (e24 : M 24 0 = N 24 0) (e22 : M 22 0 = N 22 0) : (savN M) 24 0 = (savN N) 24 0 ∧ (savN M) 7 0 4 = (savN N) 7 0 4 := by
  obtain ⟨a, b⟩ := shf_c e4 e24
  unfold savN
  refine ⟨?_, by rw [up3_self, up3_self, b]⟩
  rw [upk0 (by decide), upk0 (by decide), b]
  funext s
  unfold rowAt
  rw [a, e22]
theorem c185 {X : XS} {N : GV} {R : GR} {L : GL} {Z : Nat × Nat × Bool} (hR : Rok R) (hI : INV N R) : RES X 185 146 [] N R L Z := by
  have hB := hI.bu
  obtain ⟨_, hJ, hP, hV, hT, _⟩ := id hI
  have hD := hV.1.1
  have hs := hT.2.1
  have h5 := hV.2.1
  have e5 : N 5 0 0 = N 22 0 5 := hP.2.1.2
  have e43 : N 4 0 3 = N 22 0 7 := hP.2.2.2.1
  have hBe : bufW (er N 0) := hB.1.ss SE.er
  have inv : ∀ {M : GV}, FrX N M → INV M R := fun {M} f => by
    refine hI.tx (C := M) (fun k i s y z => f _ _ _ (by omega) (by omega)) (fun _ _ _ _ _ => rfl) (by funext s; exact f _ _ _ (by omega) (by omega)) (by funext s; exact f _ _ _ (by omega) (by omega)) (f _ _ _ (by omega) (by omega)) ⟨⟨by rw [f _ _ _ (by omega) (by omega)]; exact hB.1.1, fun j hj => ?_⟩, by rw [f _ _ _ (by omega) (by omega), f _ _ _ (by omega) (by omega)]; exact hB.2.1, fun j hj => ?_⟩
    · rw [f _ _ _ (by omega) (by omega)] at hj
      rw [f _ _ _ (by omega) (by omega)]; exact hB.1.2 j hj
    · rw [f _ _ _ (by omega) (by omega)] at hj
      rw [f _ _ _ (by omega) (by omega), f _ _ _ (by omega) (by omega)]; exact hB.2.2 j hj
  -- what the reference reads, in any world with this buffer
  have rd : ∀ {M : GV} {R' : GR} {L' : GL} {Z' : Nat × Nat × Bool}, Rok R' → M 25 0 = N 25 0 → M 7 0 6 = N 7 0 6 → ∃ p ok g T, exec X 144 [vR 7 0] (gg (nW (er M 0)) R' L' Z') = some (.inl none, gg (nW (tx (er M 0) p ok g T)) R' L' Z') ∧ Ea N p ok g T := fun {M R' L' Z'} hR' e25 e6 => by
    have hbM : bufW M := by
      unfold bufW
      rw [e25, e6]
      exact hB.1
    obtain ⟨p, ok, g, T, a, b⟩ := t144 (X := X) (N := er M 0) (R := R') (L := L') (Z := Z') hR' (hbM.ss SE.er)
    refine ⟨p, ok, g, T, a, ?_⟩
    have b := b.ss (N := M) SE.er
    unfold Ea Bad at *
    rw [PS_e e25, sg_e e25 e6, e6] at b
    exact b
  obtain ⟨p0, ok0, g0, T0, a0, b0⟩ := rd (M := N) (L' := L) (Z' := Z) hR rfl rfl
  have thr : ∀ {M W : GV} {k : Nat}, FrX N M → k < 4 → ¬ k = 0 → exec X 185 [vR 6 0, vR 30 0] (gg (nW N) R L Z) = some (.inl (some (vI (nI k))), gg (nW M) R L (tz Z)) → exec X 146 [vR 7 0] (gg (nW M) R L (tz Z)) = some (.inl (some (vI (nI 0))), gg (nW W) R L (tz Z)) → W 7 0 0 = k → SE M W → RES X 185 146 [] N R L Z := fun {M W k} f hk hk0 s t w e =>
    ⟨k, nI 0, L, M, R, W, tz Z, s, t, w, hk, fun q => absurd q hk0, (inv f).se e, Or.inr rfl⟩
  have tx0 : ∀ {M : GV} {p ok g c : Nat} {T : Nat → Nat}, (tx (er M c) p ok g T) 7 0 0 = c := fun {M p ok g c T} => by rw [tx_o (by omega) (by omega)]; exact er_0
  have frf : FrX N N := fun _ _ _ _ _ => rfl
  by_cases h8 : (PS N (N 7 0 6)).1 = 8
  · -- a complete text
    have hle : (PS N (N 7 0 6)).1 ≤ 8 := by omega
    have okc : ∀ {p ok g : Nat} {T : Nat → Nat}, Ea N p ok g T → ok = 1 ∧ TL T (PS N (N 7 0 6)).2.2.2.2 ∧ g = (PS N (N 7 0 6)).2.2.2.2.length ∧ g ≤ 15 := fun {p ok g T} b => by
      rcases b with ⟨x1, x2, d, c, v, l, x3, x4, x5, x6⟩ | ⟨_, x2, y1, y2, y3⟩
      · rw [x2] at x3
        rw [x3]
        have := hB.1.1
        exact ⟨x1, x4, x5, by omega⟩
      · exfalso
        by_cases q : p = N 7 0 6
        · subst q; exact y3 rfl h8
        · have y2 := y2 (by omega)
          rw [sg_in (by omega), ← PS_1] at y2
          have := PS_j hle (show p + 1 ≤ N 7 0 6 by omega)
          omega
    obtain ⟨_, _, o3, o4⟩ := okc b0
    have hl15 : (PS N (N 7 0 6)).2.2.2.2.length ≤ 15 := by omega
    have hd := (PW.a hle (N 7 0 6) (Nat.le_refl _)).1
    have s21 := t21_1 (X := X) (N := N) (R := R) (L := L) (Z := Z) hR hB h8
    obtain ⟨M, s23, gM, fM⟩ := t23 (X := X) (N := N) (R := R) (L := L) (Z := Z) hR hB h8 hl15
    generalize (PS N (N 7 0 6)).2.2.2.2 = l at *
    have m5 : M 5 0 0 = N 22 0 5 := by rw [fM _ _ _ (by omega) (by omega), e5]
    have m43 : M 4 0 3 = N 22 0 7 := by rw [fM _ _ _ (by omega) (by omega), e43]
    have m35 := gM.1
    have s24 := t24 (X := X) (N := M) (R := R) (L := L) (Z := Z) hR gM hl15 hd
    have hmin := mnD_le (l := l) (d := N 22 0 5) h5 l.length (Nat.le_refl _)
    rw [List.take_length] at hmin
    have hmb := mnD_b (l := l) l.length
    have h7 := hV.2.2.1
    have hIM := inv fM
    have hDM : DI (N 22 0 5) M := hD.e0 (by funext s; exact fM _ _ _ (by omega) (by omega))
    have eM22 : M 22 0 = N 22 0 := by funext s; exact fM _ _ _ (by omega) (by omega)
    by_cases fit : N 22 0 7 + l.length ≤ 16 ∧ N 22 0 5 ≤ mnD l l.length
    · -- planned
      have hfit : fitB (N 22 0) l = true := by
        unfold fitB
        rw [decide_eq_true fit.1, hmin.1 fit.2]; rfl
      obtain ⟨_, hJM, hPM, hVM, hTM, _⟩ := id hIM
      obtain ⟨N1, R1, s80, hR1, p1, j1, sv1, k1, f1⟩ := t80 (X := X) (N := M) (R := R) (L := L) (Z := Z) hR hVM.1.1 hPM hJM hTM
      have p1 : PK N1 0 N := p1.v hDM.h6 hDM.h7 fun s _ => by rw [eM22]
      have g1 : GRS N1 l := ⟨by rw [k1 _ _ _ (by omega)]; exact gM.1, fun j hj => by rw [k1 _ _ _ (by omega), k1 _ _ _ (by omega), k1 _ _ _ (by omega)]; exact gM.2 j hj⟩
      have hVt : ∀ k, k ≤ l.length → STV (plnL N (l.take k)) := fun k hk => hV.pls (by rw [List.length_take]; omega) fun o ho => hd o (List.mem_of_mem_take ho)
      have key : ∀ k, k ≤ l.length → ∀ M2, PK M2 0 (plnL N (l.take k)) → FrP 0 N1 M2 → ∃ C, ex X 59 83 [vR 6 0, vI (nI k)] [] (gg (nW M2) R1 L Z) = ex X 59 137 [vR 6 0, vI (nI l.length)] [] (gg (nW C) R1 L Z) ∧ PK C 0 (plnL N l) ∧ FrP 0 N1 C := by
        refine down _ ?_ ?_
        · intro M2 b1 b2
          rw [List.take_length] at b1
          refine ⟨M2, ?_, b1, b2⟩
          have e35 : M2 3 0 5 = l.length := by rw [b2 _ _ _ (by unfold own; omega)]; exact g1.1
          rw [x59_83]
          simp (disch := first | assumption | omega | exact nI_or0 | exact nI_or1 | exact bN_or _) only [x59_84, x59_85, x59_88, x59_91, reduceIte, Nat.reduceLT, nW_ap, nW_up, nI_add, pk_mul, nI_ltI, nI_eq, if_true, if_false, kont_r, kont_v, Nat.reduceAdd, Nat.reduceMul, Nat.not_lt, not_true_eq_false, not_false_eq_true, Nat.one_ne_zero, Nat.reduceEqDiff, Nat.lt_irrefl, reduceCtorEq, nI_or0, nI_or1, e35, Nat.lt_irrefl]
        · intro k hk ih M2 b1 b2
          have e35 : M2 3 0 5 = l.length := by rw [b2 _ _ _ (by unfold own; omega)]; exact g1.1
          have ek := g1.2 k hk
          have e11 : M2 11 0 k = (l.getD k (0, 0, 0)).1 := by rw [b2 _ _ _ (by unfold own; omega)]; exact ek.1
          have e12 : M2 12 0 k = (l.getD k (0, 0, 0)).2.1 := by rw [b2 _ _ _ (by unfold own; omega)]; exact ek.2.1
          have e13 : M2 13 0 k = (l.getD k (0, 0, 0)).2.2 := by rw [b2 _ _ _ (by unfold own; omega)]; exact ek.2.2
          have bo := hd _ (gD_mem (a := (0, 0, 0)) hk)
          have hv := hVt k (by omega)
          have hv7 : (plnL N (l.take k)) 22 0 7 < 17 := by have := hv.2.2.1; omega
          have et : plnL N (l.take (k + 1)) = plnN (plnL N (l.take k)) (l.getD k (0, 0, 0)).1 (l.getD k (0, 0, 0)).2.1 (l.getD k (0, 0, 0)).2.2 := by
            rw [tk_s hk, plnL_ap]; rfl
          obtain ⟨M3, s26, p3, f3'⟩ := g26 (X := X) (N := M2) (R := R1) (L := L) (Z := Z) (P := 0) (d := (l.getD k (0, 0, 0)).1) (c := (l.getD k (0, 0, 0)).2.1) (g := (l.getD k (0, 0, 0)).2.2) hR1 (by omega) hv.1.1 b1 hv7 (by omega) (by omega)
          rw [← et] at p3
          obtain ⟨C, c1, c2⟩ := ih M3 p3 (b2.tr fun k i s x => f3' k i s fun y => x (by unfold own; omega))
          refine ⟨C, ?_, c2⟩
          have k15 : k < 15 := by omega
          rw [← c1, x59_83]
          simp (disch := first | assumption | omega | exact nI_or0 | exact nI_or1 | exact bN_or _) only [x59_84, x59_85, x59_88, x59_91, x59_94, x59_95, x59_98, x59_101, x59_102, x59_105, x59_108, x59_109, x59_110, x59_111, x59_114, x59_117, x59_118, x59_119, x59_120, x59_123, x59_126, x59_127, x59_128, x59_131, x59_134, reduceIte, Nat.reduceLT, nW_ap, nW_up, nI_add, pk_mul, nI_ltI, nI_eq, if_true, if_false, kont_r, kont_v, Nat.reduceAdd, Nat.reduceMul, Nat.not_lt, not_true_eq_false, not_false_eq_true, Nat.one_ne_zero, Nat.reduceEqDiff, Nat.lt_irrefl, reduceCtorEq, nI_or0, nI_or1, e35, hk, e11, e12, e13, s26]
      obtain ⟨C0, s83, p2, f2⟩ := key 0 (Nat.zero_le _) N1 p1 FrP.rf
      have hVl : STV (plnL N l) := by have := hVt l.length (Nat.le_refl _); rw [List.take_length] at this; exact this
      have c0n : ∀ k i s, k < 22 → ¬ k = 7 → ¬ k = 3 → ¬ (10 ≤ k ∧ k ≤ 13) → (up3 C0 3 0 1 0) k i s = C0 k i s := fun k i s _ _ y _ => u_ne (by omega)
      have j2 : JB C0 := j1.x f2 p2.1 hVl.1.1
      have sv2 : SAV C0 R1 (min (N 7 0 4) 5 + 1) (svT (N 7 0 4) (sst N) (N 22 0)) := by
        have eM4 : M 7 0 4 = N 7 0 4 := fM _ _ _ (by omega) (by omega)
        have eMs : sst M = sst N := by funext i s; exact fM _ _ _ (by omega) (by omega)
        rw [eM4, eMs, eM22] at sv1
        exact sv1.fr (fun k i s a _ _ _ _ _ _ => f2 _ _ _ a) (fun _ _ => rfl) p2.1.2.2.2.2.2
      have kC : KE2 M C0 := fun k i s q => by rw [f2 _ _ _ (by unfold own; omega)]; exact k1 _ _ _ q
      have eC : ∀ k i s, k = 7 ∨ 22 ≤ k → (up3 C0 3 0 1 0) k i s = N k i s := fun k i s q => by rw [u_ne (by omega), kC _ _ _ (by omega), fM _ _ _ (by omega) (by omega)]
      have c43 : (up3 C0 3 0 1 0) 4 0 3 = N 22 0 7 + l.length := by rw [u_ne (by omega), p2.2.2.2.1, plnL_7]
      have c31 : (up3 C0 3 0 1 0) 3 0 1 = 0 := up3_self _ _ _ _ _
      have hO : OUT (up3 C0 3 0 1 0) (plnL N l) (min (N 7 0 4) 5 + 1) (svT (N 7 0 4) (sst N) (N 22 0)) (up3 C0 3 0 1 0) R1 := by
        refine ⟨hR1, fun b hb q => ?_, p2.n c0n, sv2.n c0n, fun _ _ _ _ => rfl⟩
        rw [u_ne (by omega)] at q
        rw [u_ne (by omega)]
        exact j2 b hb q
      have hs59 : exec X 59 [vR 6 0] (gg (nW N) R L Z) = some (.inl (some (vI (nI (N 22 0 7 + l.length)))), gg (nW (up3 C0 3 0 1 0)) R1 L Z) := by
        have st : ex X 59 137 [vR 6 0, vI (nI l.length)] [] (gg (nW C0) R1 L Z) = some (.inl (some (vI (nI (N 22 0 7 + l.length)))), gg (nW (up3 C0 3 0 1 0)) R1 L Z) := by
          simp (disch := first | assumption | omega | exact nI_or0 | exact nI_or1 | exact bN_or _) only [x59_137, x59_138, x59_141, x59_142, x59_145, x59_146, x59_149, x59_152, x59_155, reduceIte, Nat.reduceLT, nW_ap, nW_up, nI_add, pk_mul, nI_ltI, nI_eq, if_true, if_false, kont_r, kont_v, Nat.reduceAdd, Nat.reduceMul, Nat.not_lt, not_true_eq_false, not_false_eq_true, Nat.one_ne_zero, Nat.reduceEqDiff, Nat.lt_irrefl, reduceCtorEq, nI_or0, nI_or1, c43]
        have q1 : ¬ 16 < N 22 0 7 + l.length := by omega
        have q2 : ¬ mnD l l.length < N 22 0 5 := by omega
        have hle31 : N 22 0 7 + l.length < 2 ^ 31 := by omega
        have hm31 : mnD l l.length < 2 ^ 31 := by omega
        have h531 : N 22 0 5 < 2 ^ 31 := by omega
        rw [← st, ← s83]
        simp (disch := first | assumption | omega | exact nI_or0 | exact nI_or1 | exact bN_or _) only [in59, x59_0, x59_1, x59_4, x59_7, x59_10, x59_20, x59_21, x59_24, x59_27, x59_28, x59_31, x59_34, x59_37, x59_38, x59_41, x59_44, x59_45, x59_47, x59_50, x59_51, x59_54, x59_57, x59_58, x59_61, x59_64, x59_67, x59_77, x59_78, x59_81, x59_82, reduceIte, Nat.reduceLT, nW_ap, nW_up, nI_add, pk_mul, nI_ltI, nI_eq, if_true, if_false, kont_r, kont_v, Nat.reduceAdd, Nat.reduceMul, Nat.not_lt, not_true_eq_false, not_false_eq_true, Nat.one_ne_zero, Nat.reduceEqDiff, Nat.lt_irrefl, reduceCtorEq, nI_or0, nI_or1, s21, s23, m43, m35, q1, s24, m5, q2, s80]
      generalize hCC : up3 C0 3 0 1 0 = C at eC c43 c31 hO hs59
      have eC22 : C 22 0 = N 22 0 := by funext s; exact eC _ _ _ (by omega)
      obtain ⟨p, ok, g, T, a, b⟩ := rd (M := C) (R' := R1) (L' := up3 L 30 0 0 (nI (N 22 0 7 + l.length)).toInt64) (Z' := Z) hR1 (by funext s; exact eC _ _ _ (by omega)) (eC _ _ _ (by omega))
      obtain ⟨o1, o2, o3', o4'⟩ := okc b
      subst o1
      have t := t146_3 (X := X) (N := C) (R := R1) (L := up3 L 30 0 0 (nI (N 22 0 7 + l.length)).toInt64) (Z := Z) (p := p) (g := g) (T := T) (l := l) hR1 (hD.e0 eC22) (by rw [eC _ _ _ (by omega)]; exact hs) o2 o3' o4' (fun o ho => (hd o ho).1) a (by rw [eC22]; exact hfit)
      rw [eC22] at t
      have x4 : (tx (er C 0) p 1 g T) 7 0 4 = (er C 0) 7 0 4 := tx_o (by omega) (by omega)
      have x24 : (tx (er C 0) p 1 g T) 24 0 = (er C 0) 24 0 := by funext s; exact tx_o (by omega) (by omega)
      have x22 : (tx (er C 0) p 1 g T) 22 0 = (er C 0) 22 0 := by funext s; exact tx_o (by omega) (by omega)
      obtain ⟨y24, y4⟩ := sav_c x4 x24 x22
      have c4 : C 7 0 4 = N 7 0 4 := eC _ _ _ (by omega)
      have pl := fun k i s (h : ¬ k = 22) => plnL_o (N := up3 (savN (tx (er C 0) p 1 g T)) 7 0 6 0) (l := l) (k := k) (i := i) (s := s) fun q => absurd q h
      have w76 : (plnL (up3 (savN (tx (er C 0) p 1 g T)) 7 0 6 0) l) 7 0 6 = 0 := by rw [pl _ _ _ (by omega), up3_self]
      refine RES.o (C := C) (W := plnL (up3 (savN (tx (er C 0) p 1 g T)) 7 0 6 0) l) (INV.of hO (fun k i s x y _ _ => ?_) hVl.1 (fun s hs => ?_) hVl ?_ (fun i s hi hs => ?_) (fun i hi => ?_) ⟨by rw [w76]; omega, fun j hj => by rw [w76] at hj; omega⟩ ?_ fun j hj => by rw [w76] at hj; omega) ?_ (w185 hs59) t
      · rw [pl _ _ _ (by omega), u_ne (by omega), sav_o (by omega) (by omega), tx_o (by omega) (by omega), er_k (by omega)]
      · have : (plnL (up3 (savN (tx (er C 0) p 1 g T)) 7 0 6 0) l) 22 0 = (plnL N l) 22 0 := plnL_e (by
          rw [upk0 (by decide)]
          have : (savN (tx (er C 0) p 1 g T)) 22 0 = (tx (er C 0) p 1 g T) 22 0 := by funext s; exact sav_o (by omega) (by omega)
          rw [this, x22, er_22, eC22])
        rw [this]
      · rw [pl _ _ _ (by omega), u_ne (by omega), y4]
        show (svd C) 7 0 4 = _
        rw [svd_74 (by omega), c4]
      · rw [pl _ _ _ (by omega), u_ne (by omega), y24]
        show (svd C) 24 0 _ = _
        rw [svd_24 (by omega) (by rw [c4]; exact hi) hs, c4, eC22]
        have : sst C = sst N := by funext i s; exact eC _ _ _ (by omega)
        rw [this]
      · have gT := hI.2.2.2.2.2.1
        unfold svT
        split
        · exact hV.e cw_22
        · split
          · next q => exact gT (i + 1) (by omega)
          · next q1 q => exact gT i (by omega)
      · rw [w76, pl _ _ _ (by omega), u_ne (by omega), sav_o (by omega) (by omega), tx_o (by omega) (by omega), er_k (by omega), c31]
      · rw [pl _ _ _ (by omega), u_ne (by omega), sav_o (by omega) (by omega)]
        exact tx0
    · have hfit : fitB (N 22 0) l = false := by
        unfold fitB
        by_cases q : N 22 0 7 + l.length ≤ 16
        · have : ¬ (l.all fun o => decide (N 22 0 5 ≤ o.1)) = true := fun x => fit ⟨q, hmin.2 x⟩
          rw [decide_eq_true q]
          cases e : l.all fun o => decide (N 22 0 5 ≤ o.1) with
          | false => rfl
          | true => exact absurd e this
        · rw [decide_eq_false q]; rfl
      obtain ⟨p, ok, g, T, a, b⟩ := rd (M := M) (L' := L) (Z' := tz Z) hR (by funext s; exact fM _ _ _ (by omega) (by omega)) (fM _ _ _ (by omega) (by omega))
      obtain ⟨o1, o2, o3', o4'⟩ := okc b
      subst o1
      have t := t146_2 (X := X) (N := M) (R := R) (L := L) (Z := tz Z) (p := p) (g := g) (T := T) (l := l) hR hDM o2 o3' o4' (fun o ho => (hd o ho).1) a (by rw [eM22]; exact hfit)
      refine thr (k := 2) fM (by omega) (by omega) (w185_2 ?_) t tx0 (SE.er.tr SS.tx.se)
      by_cases q : 16 < N 22 0 7 + l.length
      · simp (disch := first | assumption | omega | exact nI_or0 | exact nI_or1 | exact bN_or _) only [in59, x59_0, x59_1, x59_4, x59_7, x59_10, x59_20, x59_21, x59_24, x59_27, x59_28, x59_31, x59_34, x59_37, x59_38, x59_41, x59_44, x59_45, x59_47, x59_50, x59_51, x59_54, x59_57, x59_58, x59_61, x59_64, x59_67, reduceIte, Nat.reduceLT, nW_ap, nW_up, nI_add, pk_mul, nI_ltI, nI_eq, if_true, if_false, kont_r, kont_v, Nat.reduceAdd, Nat.reduceMul, Nat.not_lt, not_true_eq_false, not_false_eq_true, Nat.one_ne_zero, Nat.reduceEqDiff, Nat.lt_irrefl, reduceCtorEq, nI_or0, nI_or1, s21, s23, m43, m35, q, thr_g]
      · have q2 : mnD l l.length < N 22 0 5 := by
          by_cases e : mnD l l.length < N 22 0 5
          · exact e
          · exact absurd ⟨by omega, by omega⟩ fit
        simp (disch := first | assumption | omega | exact nI_or0 | exact nI_or1 | exact bN_or _) only [in59, x59_0, x59_1, x59_4, x59_7, x59_10, x59_20, x59_21, x59_24, x59_27, x59_28, x59_31, x59_34, x59_37, x59_38, x59_41, x59_44, x59_45, x59_47, x59_50, x59_51, x59_54, x59_57, x59_58, x59_61, x59_64, x59_67, reduceIte, Nat.reduceLT, nW_ap, nW_up, nI_add, pk_mul, nI_ltI, nI_eq, if_true, if_false, kont_r, kont_v, Nat.reduceAdd, Nat.reduceMul, Nat.not_lt, not_true_eq_false, not_false_eq_true, Nat.one_ne_zero, Nat.reduceEqDiff, Nat.lt_irrefl, reduceCtorEq, nI_or0, nI_or1, s21, s23, m43, m35, q, s24, m5, q2, thr_g]
  · -- not complete
    have hbad : ∃ p, p ≤ N 7 0 6 ∧ (PS N p).1 ≤ 8 ∧ (p < N 7 0 6 → stB (PS N p).1 (N 25 0 p) = 9) ∧ (p = N 7 0 6 → ¬ (PS N p).1 = 8) := by
      rcases b0 with ⟨x1, x2, d, c, v, l, x3, _⟩ | ⟨_, x2, y1, y2, y3⟩
      · rw [x2] at x3; rw [x3] at h8; exact absurd rfl h8
      · exact ⟨p0, x2, y1, fun q => by rw [← sg_in q]; exact y2 q, y3⟩
    obtain ⟨p, b1, b2, b3, b4⟩ := hbad
    have s21 := t21_0 (X := X) (N := N) (R := R) (L := L) (Z := Z) hR hB b1 b2 b3 b4
    obtain ⟨p', ok, g, T, a, b⟩ := rd (M := N) (L' := L) (Z' := tz Z) hR rfl rfl
    have o1 : ok = 0 := by
      rcases b with ⟨x1, x2, d, c, v, l, x3, _⟩ | ⟨x1, _⟩
      · rw [x2] at x3; rw [x3] at h8; exact absurd rfl h8
      · exact x1
    subst o1
    have t := t146_1 (X := X) (N := N) (R := R) (L := L) (Z := tz Z) (p := p') (g := g) (T := T) hR hB.1 a
    refine thr (k := 1) frf (by omega) (by omega) (w185_1 ?_) t tx0 (SE.er.tr SS.tx.se)
    simp (disch := first | assumption | omega | exact nI_or0 | exact nI_or1 | exact bN_or _) only [in59, x59_0, x59_1, x59_4, x59_7, x59_10, reduceIte, Nat.reduceLT, nW_ap, nW_up, nI_add, pk_mul, nI_ltI, nI_eq, if_true, if_false, kont_r, kont_v, Nat.reduceAdd, Nat.reduceMul, Nat.not_lt, not_true_eq_false, not_false_eq_true, Nat.one_ne_zero, Nat.reduceEqDiff, Nat.lt_irrefl, reduceCtorEq, nI_or0, nI_or1, s21, thr_g]
theorem c186 {X : XS} {N : GV} {R : GR} {L : GL} {Z : Nat × Nat × Bool} (hR : Rok R) (hI : INV N R) : RES X 186 147 [] N R L Z := by
  obtain ⟨_, hJ, hP, hV, hT, hg, hb, h31, h10⟩ := id hI
  have hD := hV.1.1
  obtain ⟨h3, hn, l, hl, hs⟩ := id hT
  by_cases q : N 7 0 4 = 0
  · refine RES.t hI (k := 1) (by omega) (by omega) (w186_2 ?_) (t147_1 hR q)
    rw [q] at h3
    simp (disch := first | assumption | omega | exact nI_or0 | exact nI_or1 | exact bN_or _) only [in60, x60_0, x60_1, x60_4, x60_7, reduceIte, Nat.reduceLT, nW_ap, nW_up, nI_add, pk_mul, nI_ltI, nI_eq, if_true, if_false, kont_r, kont_v, Nat.reduceAdd, Nat.reduceMul, Nat.not_lt, not_true_eq_false, not_false_eq_true, Nat.one_ne_zero, Nat.reduceEqDiff, Nat.lt_irrefl, reduceCtorEq, nI_or0, nI_or1, h3, thr_g]
  · obtain ⟨m, hm⟩ : ∃ m, N 7 0 4 = m + 1 := ⟨N 7 0 4 - 1, by omega⟩
    obtain ⟨p0, d0⟩ := hs m (by omega)
    have bl := hl.b (i := m) (by omega)
    have r := hl.2.2.2 m (by omega)
    have n1 : ∀ k i s, ¬ (k = 6 ∧ s = 3) → (up3 N 6 0 3 m) k i s = N k i s := fun k i s h => u_ne (by omega)
    have p1 : PK (up3 N 6 0 3 m) (l.getD m 0) (cw (sst N m)) := p0.sm d0 (fun k i s x => n1 _ _ _ (by unfold own at x; omega)) (p0.1.2.2.2.2.2.g fun k i s _ => n1 _ _ _ (by omega))
    have j1 : JB (up3 N 6 0 3 m) := fun b hb x => by
      rw [n1 _ _ _ (by omega)] at x
      rw [n1 _ _ _ (by omega)]
      exact hJ b hb x
    obtain ⟨C, s32, p2, f2, j2⟩ := t32 (X := X) (N := up3 N 6 0 3 m) (R := R) (L := L) (Z := Z) (P := 0) (Q := l.getD m 0) hR (by omega) bl.2 (by omega) d0 p1 j1
    have e63 : C 6 0 3 = m := by rw [f2 _ _ _ (by unfold own; omega), up3_self]
    have ke : KE2 N C := fun k i s x => by rw [f2 _ _ _ (by unfold own; omega), n1 _ _ _ (by omega)]
    have sv : SAV C R m (sst N) := by
      refine ⟨e63, by omega, l, hl, fun i hi => ?_⟩
      obtain ⟨x1, x2⟩ := hs i (by omega)
      have bi := hl.b (i := i) (by omega)
      exact ⟨x1.sm x2 (fun k j s y => by rw [f2 _ _ _ (own_ne y (by omega)), n1 _ _ _ (by unfold own at y; omega)]) p2.1.2.2.2.2.2, x2⟩
    have hO : OUT N (cw (sst N m)) m (sst N) C R := ⟨hR, j2, p2, sv, ke⟩
    have c4 : C 7 0 4 = m + 1 := by rw [ke _ _ _ (by omega), hm]
    have t := t147_2 (X := X) (N := C) (R := R) (L := up3 L 30 0 0 (nI m).toInt64) (Z := Z) hR (by omega) (by omega)
    rw [c4, Nat.add_sub_cancel] at t
    have wo : ∀ k i s, ¬ k = 22 → ¬ (k = 7 ∧ (s = 0 ∨ s = 4)) → (undN C) k i s = C k i s := fun k i s x y => by
      unfold undN
      rw [rowTo_k x, u_ne (by omega)]
      by_cases e : k = 7
      · subst e; exact er_s (by omega)
      · exact er_k e
    have w4 : (undN C) 7 0 4 = m := by
      unfold undN
      rw [rowTo_k (by decide), up3_self, c4, Nat.add_sub_cancel]
    have hV' : STV (cw (sst N m)) := hg m (by omega)
    refine RES.o (W := undN C) (INV.of hO (fun k i s x y _ _ => wo _ _ _ (by omega) (by omega)) hV'.1 (fun s hs => ?_) hV' w4 (fun i s hi hs => ?_) (fun i hi => hg i (by omega)) ?_ ?_ fun j hj => ?_) ?_ (w186 ?_) t
    · unfold undN
      rw [rowTo_in hs, c4, Nat.add_sub_cancel, cw_22]
      exact ke _ _ _ (by omega)
    · rw [wo _ _ _ (by omega) (by omega), ke _ _ _ (by omega)]; rfl
    · unfold bufW
      rw [wo _ _ _ (by omega) (by omega), ke _ _ _ (by omega)]
      refine ⟨hb.1, fun j hj => ?_⟩
      rw [wo _ _ _ (by omega) (by omega), ke _ _ _ (by omega)]
      exact hb.2 j hj
    · rw [wo _ _ _ (by omega) (by omega), wo _ _ _ (by omega) (by omega), ke _ _ _ (by omega), ke _ _ _ (by omega)]
      exact h31
    · rw [wo _ _ _ (by omega) (by omega), ke _ _ _ (by omega)] at hj
      rw [wo _ _ _ (by omega) (by omega), wo _ _ _ (by omega) (by omega), ke _ _ _ (by omega), ke _ _ _ (by omega)]
      exact h10 j hj
    · unfold undN
      rw [rowTo_k (by decide), u_ne (by omega)]; exact er_0
    · rw [hm] at h3
      have g0 : 0 < m + 1 := by omega
      have m6 : m < 6 := by omega
      simp (disch := first | assumption | omega | exact nI_or0 | exact nI_or1 | exact bN_or _) only [in60, x60_0, x60_1, x60_4, x60_7, x60_17, x60_18, x60_19, x60_22, x60_23, x60_24, x60_27, x60_28, x60_31, x60_32, x60_35, x60_36, x60_39, x60_40, x60_43, x60_44, x60_47, in60, reduceIte, Nat.reduceLT, nW_ap, nW_up, nI_add, pk_mul, nI_ltI, nI_eq, if_true, if_false, kont_r, kont_v, Nat.reduceAdd, Nat.reduceMul, Nat.not_lt, not_true_eq_false, not_false_eq_true, Nat.one_ne_zero, Nat.reduceEqDiff, Nat.lt_irrefl, reduceCtorEq, nI_or0, nI_or1, h3, g0, pk_sub, Nat.add_sub_cancel, r, s32, e63, up3_self]
