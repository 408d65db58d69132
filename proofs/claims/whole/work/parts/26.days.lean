/-! days of the reference -/
/-- as Fr, and the children are not counted either -/
def F9 (N N' : GV) : Prop := ∀ k i s, (k = 22 → i = 0 → s < 10 ∨ 141 ≤ s) → ¬ k = 26 → ¬ k = 27 → ¬ k = 28 → N' k i s = N k i s
theorem F9.rf {N : GV} : F9 N N := fun _ _ _ _ _ _ _ => rfl
theorem F9.tr {N1 N2 N3 : GV} (h1 : F9 N1 N2) (h2 : F9 N2 N3) : F9 N1 N3 := fun k i s a b c d => (h2 k i s a b c d).trans (h1 k i s a b c d)
theorem F9.up {N N' : GV} {s v : Nat} (h : F9 N N') (hs : 10 ≤ s ∧ s < 141) : F9 N (up3 N' 22 0 s v) := fun k i s' a b c d => by
  rw [← h k i s' a b c d]
  exact if_neg fun q => by have := a q.1 q.2.1; omega
theorem F9.u2 {N N' : GV} {a i s v : Nat} (h : F9 N N') (ha : a = 26 ∨ a = 27 ∨ a = 28) : F9 N (up3 N' a i s v) := fun k i s' q b c d => by
  rw [← h k i s' q b c d]
  exact if_neg fun q => by omega
theorem F9.rw {N N' : GV} {a i n : Nat} {f : Nat → Nat} (h : F9 N N') (ha : a = 26 ∨ a = 27 ∨ a = 28) : F9 N (rowTo N' a i n f) := fun k i s' q b c d => by
  rw [← h k i s' q b c d]
  exact if_neg fun q => by omega
theorem F9.en {N N' : GV} {j : Nat} (hj : j < 16) (h : F9 N N') : F9 N (endN N' j) := ((h.up (by omega)).up (by omega)).up (by omega)
theorem F9.re {N N' : GV} {j : Nat} (hj : j < 16) (h : F9 N N') : F9 N (repN N' j) := ((h.up (by omega)).up (by omega)).up (by omega)
theorem F9.fi {N N' : GV} {j : Nat} (hj : j < 16) (h : F9 N N') : F9 N (finN N' j) := by
  unfold finN
  split
  · exact (h.up (by omega)).en hj
  · exact ((h.up (by omega)).up (by omega)).en hj
theorem F9.fz {N N' : GV} {p : Nat} (hp : p < 8) (h : F9 N N') : F9 N (frzN N' p) := by
  unfold frzN
  split
  · exact ((h.up (by omega)).up (by omega)).re (by omega)
  · exact h
theorem F9.fzs {N N' : GV} (h : F9 N N') : ∀ k, k ≤ 8 → F9 N (itN frzN k N')
  | 0, _ => h
  | k + 1, hk => (F9.fzs h k (by omega)).fz (by omega)
theorem F9.wr {f : Bool} {N N' : GV} {l j : Nat} (hj : j < 16) (h : F9 N N') : F9 N (wrk1 f N' l j) := by
  have hM : ∀ k, F9 N (wrkM N' k j) := fun k => (((h.u2 (by omega)).up (by omega)).up (by omega)).up (by omega)
  unfold wrk1
  split
  · exact (hM _).fi hj
  · exact hM _
theorem F9.wrs {f : Bool} {N : GV} : ∀ {n : Nat} {N' : GV} {l : Nat}, F9 N N' → F9 N (wrkN f n N' l)
  | 0, _, _, h => h
  | n + 1, N', l, h => by
    unfold wrkN
    split
    · exact h
    · next j e => exact F9.wrs (h.wr (nxtJ_lt e))
theorem F9.ws {f : Bool} {N N' : GV} (h : F9 N N') : F9 N (works f N') := F9.wrs (h.rw (by omega))
theorem F9.gv {N N' : GV} {p i : Nat} (hp : p < 8) (h : F9 N N') : F9 N (givN N' p i) := by
  unfold givN
  split
  · exact ((((h.u2 (by omega)).up (by omega)).up (by omega)).up (by omega)).re (by omega)
  · exact (((h.u2 (by omega)).up (by omega)).up (by omega)).up (by omega)
theorem F9.dk {N : GV} {g : Nat} {q : GV × Nat} (h : F9 N q.1) : F9 N (drk1 g q).1 := by
  unfold drk1
  split
  · exact h
  · next p e =>
    split
    · exact (h.u2 (by omega)).gv (nrN_lt e).1
    · exact h.u2 (by omega)
theorem F9.dkI {N : GV} {g : Nat} {q : GV × Nat} (h : F9 N q.1) : ∀ n, F9 N (drkI g n q).1
  | 0 => h
  | n + 1 => (F9.dkI h n).dk
theorem F9.vi {N N' : GV} {w p : Nat} (hp : p < 8) (h : F9 N N') : F9 N (visN w N' p) := by
  unfold visN
  split
  · exact h.gv hp
  · exact h
theorem F9.vis {N N' : GV} {w : Nat} (h : F9 N N') : ∀ k, k ≤ 8 → F9 N (itN (visN w) k N')
  | 0, _ => h
  | k + 1, hk => (F9.vis h k (by omega)).vi (by omega)
theorem F9.dF {N N' : GV} (h : F9 N N') : F9 N (dayF N') := by
  unfold dayF
  split
  · exact h.fzs 8 (Nat.le_refl _)
  · exact h
theorem F9.fr {N N' : GV} (h : F9 N N') : Fr N N' := fun k i s a => h k i s fun q q' => by have := a q q'; omega
/-- thirst and guests grow by at most a -/
def Th (a : Nat) (N N' : GV) : Prop := N 22 0 8 ≤ N' 22 0 8 ∧ N' 22 0 8 + N 22 0 9 ≤ N' 22 0 9 + N 22 0 8 ∧ N' 22 0 9 ≤ N 22 0 9 + a
theorem Th.rf {a : Nat} {N : GV} : Th a N N := by unfold Th; omega
theorem Th.tr {a b : Nat} {N1 N2 N3 : GV} (h1 : Th a N1 N2) (h2 : Th b N2 N3) : Th (a + b) N1 N3 := by unfold Th at *; omega
theorem Th.e {a : Nat} {N1 N2 N3 : GV} (h1 : Th a N1 N2) (h8 : N3 22 0 8 = N2 22 0 8) (h9 : N3 22 0 9 = N2 22 0 9) : Th a N1 N3 := by unfold Th at *; omega
theorem Th.f {a : Nat} {N1 N2 N3 : GV} (h1 : Th a N1 N2) (h : F9 N2 N3) : Th a N1 N3 := h1.e (h _ _ _ (by omega) (by decide) (by decide) (by decide)) (h _ _ _ (by omega) (by decide) (by decide) (by decide))
theorem Th.dr {K c g : Nat} {N : GV} (h : DI K N) (hf : ∀ p, p < 8 → N 26 0 p < 2 ^ 28) (hc : c ≤ 99) : Th 99 N (drkN N c g) := by
  have hW : WI K (rowTo N 28 0 8 fun _ => 0) := ⟨h.ex rw28, fun p hp => by rw [rowTo_k (by decide)]; exact hf p hp, fun p hp => by rw [rowTo_in hp]; omega⟩
  have h8 := (drkI_w (g := g) (q := (rowTo N 28 0 8 (fun _ => 0), c * N 22 0 2)) hW 8)
  have f8 : F9 N (drkI g 8 (rowTo N 28 0 8 (fun _ => 0), c * N 22 0 2)).1 := F9.dkI (q := (rowTo N 28 0 8 (fun _ => 0), c * N 22 0 2)) (F9.rf.rw (by omega)) 8
  generalize hq : drkI g 8 (rowTo N 28 0 8 (fun _ => 0), c * N 22 0 2) = q at h8 f8
  have e8 : q.1 22 0 8 = N 22 0 8 := f8 _ _ _ (by omega) (by decide) (by decide) (by decide)
  have e9 : q.1 22 0 9 = N 22 0 9 := f8 _ _ _ (by omega) (by decide) (by decide) (by decide)
  have e2 : q.1 22 0 2 = N 22 0 2 := f8 _ _ _ (by omega) (by decide) (by decide) (by decide)
  have b2 := h.h2
  have b3 : q.2 ≤ c * N 22 0 2 := h8.2
  have hd : (q.2 + N 22 0 2 - 1) / N 22 0 2 ≤ c := by
    rw [Nat.div_le_iff_le_mul_add_pred (by omega)]
    rw [Nat.mul_comm] at b3
    omega
  have a8 : drkN N c g 22 0 8 = N 22 0 8 + (q.2 + N 22 0 2 - 1) / N 22 0 2 := by
    unfold drkN
    rw [hq]
    show up3 (up3 q.1 22 0 8 (q.1 22 0 8 + (q.2 + q.1 22 0 2 - 1) / q.1 22 0 2)) 22 0 9 _ 22 0 8 = _
    rw [up3_s _ _ (by decide), up3_self, e8, e2]
  have a9 : drkN N c g 22 0 9 = N 22 0 9 + c := by
    unfold drkN
    rw [hq]
    show up3 (up3 q.1 22 0 8 (q.1 22 0 8 + (q.2 + q.1 22 0 2 - 1) / q.1 22 0 2)) 22 0 9 _ 22 0 9 = _
    rw [up3_self, e9]
  unfold Th
  generalize (q.2 + N 22 0 2 - 1) / N 22 0 2 = dd at hd a8
  rw [a8, a9]
  omega
theorem Th.ou {K d : Nat} : ∀ {n : Nat} {N : GV}, OI K N → Th (n * 99) N (outI d n N)
  | 0, _, _ => Th.rf
  | n + 1, N, h => by
    unfold outI
    split
    · exact Th.rf
    · next k e =>
      have hk := (nxoN_lt e).1
      have ho := h.1.ou (k := k) (by have := h.1.h7; omega)
      have h1 := Th.dr (c := N 22 0 (153 + 3 * k + 1)) (g := N 22 0 (153 + 3 * k + 2)) (N := up3 N 27 0 k 1) (h.1.k (by decide)) (fun p hp => by rw [up3_k _ _ (by decide)]; exact h.2.1 p hp) ho.2.1
      have h2 := Th.ou (d := d) (n := n) (h.nx (k := k) (c := N 22 0 (153 + 3 * k + 1)) (g := N 22 0 (153 + 3 * k + 2)))
      have h3 : Th 99 N (drkN (up3 N 27 0 k 1) (N 22 0 (153 + 3 * k + 1)) (N 22 0 (153 + 3 * k + 2))) := by
        unfold Th at *
        rw [up3_k _ _ (by decide), up3_k _ _ (by decide)] at h1
        exact h1
      have h4 := h3.tr h2
      rw [show (n + 1) * 99 = 99 + n * 99 by omega]
      exact h4
theorem day_w {K : Nat} {N : GV} (h : DI K N) (h5 : N 22 0 5 < K) : DI K (dayN N) ∧ ouZ ((dayN N) 22 0) ∧ Th (17 * 99) N (dayN N) ∧ (dayN N) 22 0 5 = N 22 0 5 + 1 ∧ (∀ s, s < 5 ∨ s = 6 ∨ (141 ≤ s ∧ s < 153) ∨ 204 ≤ s → (dayN N) 22 0 s = N 22 0 s) ∧ (∀ k i s, k < 22 ∨ 28 < k ∨ k = 23 ∨ k = 24 ∨ k = 25 → (dayN N) k i s = N k i s) := by
  have hF := h.dF
  have fF := F9.dF (N := N) F9.rf
  unfold dayN
  generalize froB (N 22 0) (N 22 0 5) = f
  generalize dayF N = N1 at hF fF
  have hW := hF.ws (f := f)
  have fW := F9.ws (f := f) fF
  generalize works f N1 = N2 at hW fW
  have hO := OI.op hW
  have fR : F9 N (opnN (dayR N2)) := (fW.rw (by omega)).rw (by omega)
  have e5' : (dayR N2) 22 0 5 = N 22 0 5 := by
    rw [← fR 22 0 5 (by omega) (by decide) (by decide) (by decide), opn_22]
  generalize dayR N2 = N3 at hO fR e5'
  have hI := outI_w (d := N 22 0 5) (n := 17) hO
  have tI := Th.ou (d := N 22 0 5) (n := 17) hO
  have fI : Fr N (outI (N 22 0 5) 17 (opnN N3)) := Fr.ou fR.fr
  have hFO := dO_w hO
  have eO : dayO N3 = drops (N 22 0 5) (outI (N 22 0 5) 17 (opnN N3)) := by unfold dayO; rw [e5']
  rw [eO] at hFO ⊢
  have tI : Th (17 * 99) N (outI (N 22 0 5) 17 (opnN N3)) := by
    have e8 := fR 22 0 8 (by omega) (by decide) (by decide) (by decide)
    have e9 := fR 22 0 9 (by omega) (by decide) (by decide) (by decide)
    unfold Th at tI ⊢
    rw [e8, e9] at tI
    exact tI
  generalize outI (N 22 0 5) 17 (opnN N3) = N5 at tI hI fI hFO
  have hz6 : ouZ ((drops (N 22 0 5) N5) 22 0) := setO_z
  have f6 : ∀ k i s, (k = 22 → i = 0 → ¬ s = 7 ∧ ¬ (153 ≤ s ∧ s < 204)) → (drops (N 22 0 5) N5) k i s = N5 k i s := fun k i s => setO_o
  have t6 : Th (17 * 99) N (drops (N 22 0 5) N5) := tI.e (f6 _ _ _ (by omega)) (f6 _ _ _ (by omega))
  generalize drops (N 22 0 5) N5 = N6 at hFO hz6 f6 t6
  have fV : F9 N6 (itN (visN (4 * N 22 0 3)) 8 N6) := F9.vis F9.rf 8 (Nat.le_refl _)
  have hV := hFO.vis (w := 4 * N 22 0 3) 8 (Nat.le_refl _)
  generalize itN (visN (4 * N 22 0 3)) 8 N6 = N7 at fV hV
  have e5 : N7 22 0 5 = N 22 0 5 := by
    rw [fV _ _ _ (by omega) (by decide) (by decide) (by decide), f6 _ _ _ (by omega), fI _ _ _ (by omega) (by decide) (by decide) (by decide)]
  unfold dayE
  refine ⟨hV.1.up' (bd_S (by omega) (by unfold b0; omega)) (by omega), ?_, (t6.f fV).e (up3_s _ _ (by decide)) (up3_s _ _ (by decide)), ?_, ?_, ?_⟩
  · intro s a b
    rw [up3_s _ _ (by omega), fV _ _ _ (by omega) (by decide) (by decide) (by decide)] at a
    rw [up3_s _ _ (by omega), fV _ _ _ (by omega) (by decide) (by decide) (by decide)]
    exact hz6 s a b
  · rw [up3_self, e5]
  · intro s hs
    rw [up3_s _ _ (by omega), fV _ _ _ (by omega) (by decide) (by decide) (by decide), f6 _ _ _ (by omega), fI _ _ _ (by omega) (by decide) (by decide) (by decide)]
  · intro k i s hk
    rw [up3_k _ _ (by omega), fV _ _ _ (by omega) (by omega) (by omega) (by omega), f6 _ _ _ (by omega), fI _ _ _ (by omega) (by omega) (by omega) (by omega)]
def daysN : Nat → GV → GV
  | 0, N => N
  | n + 1, N => dayN (daysN n N)
theorem days_w {K : Nat} {N : GV} (h : DI K N) (hz : ouZ (N 22 0)) : ∀ n, N 22 0 5 + n ≤ K → DI K (daysN n N) ∧ ouZ ((daysN n N) 22 0) ∧ Th (n * (17 * 99)) N (daysN n N) ∧ (daysN n N) 22 0 5 = N 22 0 5 + n ∧ (∀ s, s < 5 ∨ s = 6 ∨ (141 ≤ s ∧ s < 153) ∨ 204 ≤ s → (daysN n N) 22 0 s = N 22 0 s) ∧ (∀ k i s, k < 22 ∨ 28 < k ∨ k = 23 ∨ k = 24 ∨ k = 25 → (daysN n N) k i s = N k i s)
  | 0, _ => ⟨h, hz, Th.rf, rfl, fun _ _ => rfl, fun _ _ _ _ => rfl⟩
  | n + 1, hn => by
    obtain ⟨a1, a2, a3, a4, a5, a6⟩ := days_w h hz n (by omega)
    obtain ⟨b1, b2, b3, b4, b5, b6⟩ := day_w a1 (by omega)
    refine ⟨b1, b2, ?_, by show (dayN (daysN n N)) 22 0 5 = _; omega, fun s hs => (b5 s hs).trans (a5 s hs), fun k i s hk => (b6 k i s hk).trans (a6 k i s hk)⟩
    have := a3.tr b3
    rw [show (n + 1) * (17 * 99) = n * (17 * 99) + 17 * 99 by omega]
    exact this
theorem t121 {X : XS} {N : GV} {R : GR} {L : GL} {Z : Nat × Nat × Bool} (hR : Rok R) {K n : Nat} (h : DI K N) (hz : ouZ (N 22 0)) (hn : N 22 0 5 + n ≤ K) : exec X 121 [vR 7 0, vI (nI n)] (gg (nW N) R L Z) = some (.inl (some (vI (nI ((daysN n N) 22 0 8 - N 22 0 8)))), (gg (nW (daysN n N)) R L Z)) := by
  have hK := h.hK
  have key : ∀ k, k ≤ n → ex X 121 10 [vR 7 0, vI (nI n), vI (nI (N 22 0 8)), vI (nI k)] [] (gg (nW (daysN k N)) R L Z) = some (.inl (some (vI (nI ((daysN n N) 22 0 8 - N 22 0 8)))), (gg (nW (daysN n N)) R L Z)) := by
    refine down _ ?_ ?_
    · have w := (days_w h hz n hn).2.2.1.1
      rw [x121_10]
      simp (disch := first | assumption | omega | exact nI_or0 | exact nI_or1 | exact bN_or _) only [x121_11, x121_12, x121_15, x121_16, x121_19, x121_22, x121_25, x121_26, x121_29, x121_31, x121_32, x121_33, x121_34, reduceIte, Nat.reduceLT, nW_ap, nW_up, nI_add, pk_mul, nI_ltI, nI_eq, if_true, if_false, kont_r, kont_v, Nat.reduceAdd, Nat.reduceMul, Nat.not_lt, not_true_eq_false, not_false_eq_true, Nat.one_ne_zero, Nat.reduceEqDiff, Nat.lt_irrefl, reduceCtorEq, nI_or0, nI_or1, pk_sub]
    · intro k hk ih
      have w := days_w h hz k (by omega)
      have p := t120 (X := X) (L := L) (Z := Z) hR w.1 w.2.1
      have e : dayN (daysN k N) = daysN (k + 1) N := rfl
      rw [e] at p
      rw [x121_10]
      simp (disch := first | assumption | omega | exact nI_or0 | exact nI_or1 | exact bN_or _) only [x121_11, x121_12, x121_15, x121_16, x121_19, x121_22, reduceIte, Nat.reduceLT, nW_ap, nW_up, nI_add, pk_mul, nI_ltI, nI_eq, if_true, if_false, kont_r, kont_v, Nat.reduceAdd, Nat.reduceMul, Nat.not_lt, not_true_eq_false, not_false_eq_true, Nat.one_ne_zero, Nat.reduceEqDiff, Nat.lt_irrefl, reduceCtorEq, nI_or0, nI_or1, hk, p]
      exact ih
  have h0 := key 0 (Nat.zero_le _)
  simp (disch := first | assumption | omega | exact nI_or0 | exact nI_or1 | exact bN_or _) only [in121, x121_0, x121_1, x121_4, x121_6, x121_7, x121_8, x121_9, reduceIte, Nat.reduceLT, nW_ap, nW_up, nI_add, pk_mul, nI_ltI, nI_eq, if_true, if_false, kont_r, kont_v, Nat.reduceAdd, Nat.reduceMul, Nat.not_lt, not_true_eq_false, not_false_eq_true, Nat.one_ne_zero, Nat.reduceEqDiff, Nat.lt_irrefl, reduceCtorEq, nI_or0, nI_or1]
  exact h0
