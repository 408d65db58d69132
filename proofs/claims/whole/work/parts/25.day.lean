/-! a day of the reference, whole -/
/-- only counters, fountains, jobs and the rows of the day are touched -/
def Fr (N N' : GV) : Prop := ∀ k i s, (k = 22 → i = 0 → s < 8 ∨ 141 ≤ s) → ¬ k = 26 → ¬ k = 27 → ¬ k = 28 → N' k i s = N k i s
theorem Fr.rf {N : GV} : Fr N N := fun _ _ _ _ _ _ _ => rfl
theorem Fr.tr {N1 N2 N3 : GV} (h1 : Fr N1 N2) (h2 : Fr N2 N3) : Fr N1 N3 := fun k i s a b c d => (h2 k i s a b c d).trans (h1 k i s a b c d)
theorem Fr.up {N N' : GV} {s v : Nat} (h : Fr N N') (hs : 8 ≤ s ∧ s < 141) : Fr N (up3 N' 22 0 s v) := fun k i s' a b c d => by
  rw [← h k i s' a b c d]
  exact if_neg fun q => by have := a q.1 q.2.1; omega
theorem Fr.u2 {N N' : GV} {a i s v : Nat} (h : Fr N N') (ha : a = 26 ∨ a = 27 ∨ a = 28) : Fr N (up3 N' a i s v) := fun k i s' q b c d => by
  rw [← h k i s' q b c d]
  exact if_neg fun q => by omega
theorem Fr.rw {N N' : GV} {a i n : Nat} {f : Nat → Nat} (h : Fr N N') (ha : a = 26 ∨ a = 27 ∨ a = 28) : Fr N (rowTo N' a i n f) := fun k i s' q b c d => by
  rw [← h k i s' q b c d]
  exact if_neg fun q => by omega
theorem Fr.en {N N' : GV} {j : Nat} (hj : j < 16) (h : Fr N N') : Fr N (endN N' j) := ((h.up (by omega)).up (by omega)).up (by omega)
theorem Fr.re {N N' : GV} {j : Nat} (hj : j < 16) (h : Fr N N') : Fr N (repN N' j) := ((h.up (by omega)).up (by omega)).up (by omega)
theorem Fr.fi {N N' : GV} {j : Nat} (hj : j < 16) (h : Fr N N') : Fr N (finN N' j) := by
  unfold finN
  split
  · exact (h.up (by omega)).en hj
  · exact ((h.up (by omega)).up (by omega)).en hj
theorem Fr.fz {N N' : GV} {p : Nat} (hp : p < 8) (h : Fr N N') : Fr N (frzN N' p) := by
  unfold frzN
  split
  · exact ((h.up (by omega)).up (by omega)).re (by omega)
  · exact h
theorem Fr.fzs {N N' : GV} (h : Fr N N') : ∀ k, k ≤ 8 → Fr N (itN frzN k N')
  | 0, _ => h
  | k + 1, hk => (Fr.fzs h k (by omega)).fz (by omega)
theorem Fr.wr {f : Bool} {N N' : GV} {l j : Nat} (hj : j < 16) (h : Fr N N') : Fr N (wrk1 f N' l j) := by
  have hM : ∀ k, Fr N (wrkM N' k j) := fun k => (((h.u2 (by omega)).up (by omega)).up (by omega)).up (by omega)
  unfold wrk1
  split
  · exact (hM _).fi hj
  · exact hM _
theorem Fr.wrs {f : Bool} {N : GV} : ∀ {n : Nat} {N' : GV} {l : Nat}, Fr N N' → Fr N (wrkN f n N' l)
  | 0, _, _, h => h
  | n + 1, N', l, h => by
    unfold wrkN
    split
    · exact h
    · next j e => exact Fr.wrs (h.wr (nxtJ_lt e))
theorem Fr.ws {f : Bool} {N N' : GV} (h : Fr N N') : Fr N (works f N') := Fr.wrs (h.rw (by omega))
theorem Fr.gv {N N' : GV} {p i : Nat} (hp : p < 8) (h : Fr N N') : Fr N (givN N' p i) := by
  unfold givN
  split
  · exact ((((h.u2 (by omega)).up (by omega)).up (by omega)).up (by omega)).re (by omega)
  · exact (((h.u2 (by omega)).up (by omega)).up (by omega)).up (by omega)
theorem Fr.dk {N : GV} {g : Nat} {q : GV × Nat} (h : Fr N q.1) : Fr N (drk1 g q).1 := by
  unfold drk1
  split
  · exact h
  · next p e =>
    split
    · exact (h.u2 (by omega)).gv (nrN_lt e).1
    · exact h.u2 (by omega)
theorem Fr.dkI {N : GV} {g : Nat} {q : GV × Nat} (h : Fr N q.1) : ∀ n, Fr N (drkI g n q).1
  | 0 => h
  | n + 1 => (Fr.dkI h n).dk
theorem Fr.dr {N N' : GV} {c g : Nat} (h : Fr N N') : Fr N (drkN N' c g) := ((Fr.dkI (q := (rowTo N' 28 0 8 (fun _ => 0), c * N' 22 0 2)) (h.rw (by omega)) 8).up (by omega)).up (by omega)
/-- drinks keeps what is gone through -/
theorem drk1_k {g k i s : Nat} {q : GV × Nat} (h : ¬ k = 22) (h' : ¬ k = 26) (h'' : ¬ k = 28) : (drk1 g q).1 k i s = q.1 k i s := by
  unfold drk1
  split
  · rfl
  · next p e =>
    split
    · show givN (up3 q.1 28 0 p 1) p (givA q.1 p q.2) k i s = _
      rw [giv_k h h', up3_k _ _ h'']
    · exact up3_k _ _ h''
theorem drkI_k {g k i s : Nat} {q : GV × Nat} (h : ¬ k = 22) (h' : ¬ k = 26) (h'' : ¬ k = 28) : ∀ n, (drkI g n q).1 k i s = q.1 k i s
  | 0 => rfl
  | n + 1 => (drk1_k h h' h'').trans (drkI_k h h' h'' n)
theorem drkN_k {N : GV} {c g k i s : Nat} (h : ¬ k = 22) (h' : ¬ k = 26) (h'' : ¬ k = 28) : drkN N c g k i s = N k i s := by
  have := drkI_k (g := g) (i := i) (s := s) (q := (rowTo N 28 0 8 (fun _ => 0), c * N 22 0 2)) h h' h'' 8
  unfold drkN
  show up3 (up3 _ 22 0 8 _) 22 0 9 _ k i s = _
  rw [up3_k _ _ h, up3_k _ _ h, this]
  show rowTo N 28 0 8 (fun _ => 0) k i s = _
  exact rowTo_k h''
theorem rw28 {N : GV} : (rowTo N 28 0 8 fun _ => 0) 22 = N 22 := by funext i s; exact rowTo_k (by decide)
theorem WI.dr {K : Nat} {N : GV} {c g : Nat} (h : DI K N) (hf : ∀ p, p < 8 → N 26 0 p < 2 ^ 28) : DI K (drkN N c g) ∧ ∀ p, p < 8 → drkN N c g 26 0 p < 2 ^ 28 := by
  have hW : WI K (rowTo N 28 0 8 fun _ => 0) := ⟨h.ex rw28, fun p hp => by rw [rowTo_k (by decide)]; exact hf p hp, fun p hp => by rw [rowTo_in hp]; omega⟩
  have h8 := (drkI_w (g := g) (q := (rowTo N 28 0 8 (fun _ => 0), c * N 22 0 2)) hW 8).1
  generalize hq : drkI g 8 (rowTo N 28 0 8 (fun _ => 0), c * N 22 0 2) = q at h8
  unfold drkN
  rw [hq]
  refine ⟨(h8.1.up' (bd_S (by omega) (by unfold b0; omega)) (by omega)).up' (bd_S (by omega) (by unfold b0; omega)) (by omega), fun p hp => ?_⟩
  show up3 (up3 _ 22 0 8 _) 22 0 9 _ 26 0 p < _
  rw [up3_k _ _ (by decide), up3_k _ _ (by decide)]
  exact h8.2.1 p hp
/-- the outings of the day d -/
def outI (d : Nat) : Nat → GV → GV
  | 0, N => N
  | n + 1, N => match nxoN (N 22 0) (N 27 0) d (N 22 0 7) with
    | none => N
    | some k => outI d n (drkN (up3 N 27 0 k 1) (N 22 0 (153 + 3 * k + 1)) (N 22 0 (153 + 3 * k + 2)))
theorem nxoN_0 {S D : Nat → Nat} {d : Nat} : ∀ {k : Nat}, (∀ j, j < k → ¬ D j = 0) → nxoN S D d k = none := by
  intro k
  induction k with
  | zero => intro _; rfl
  | succ k ih =>
    intro h
    rw [nxoN, if_neg fun q => h k (by omega) q.2.1]
    exact ih fun j hj => h j (by omega)
def und17 (D : Nat → Nat) : Nat := sumN 17 fun j => bN (decide (D j = 0))
theorem und17_1 {D D' : Nat → Nat} {a : Nat} (ha : a < 17) (h0 : D a = 0) (hD : ∀ i, D' i = if i = a then 1 else D i) : und17 D' + 1 = und17 D := by
  refine sumN_1 (a := a) (fun j hj => ?_) ?_ ha
  · show bN (decide (D j = 0)) = bN (decide (D' j = 0))
    rw [hD, if_neg hj]
  · show bN (decide (D' a = 0)) + 1 = bN (decide (D a = 0))
    rw [hD, if_pos rfl, h0]; rfl
theorem und17_0 {D : Nat → Nat} (h : und17 D = 0) : ∀ j, j < 17 → ¬ D j = 0 := fun j hj q => by
  have := sumN_0 h j hj
  simp [q, bN] at this
/-- the state of the loop over outings -/
def OI (K : Nat) (N : GV) : Prop := DI K N ∧ (∀ p, p < 8 → N 26 0 p < 2 ^ 28) ∧ ∀ k, k < 17 → N 27 0 k ≤ 1
theorem OI.nx {K : Nat} {N : GV} {k c g : Nat} (h : OI K N) : OI K (drkN (up3 N 27 0 k 1) c g) := by
  have h1 := WI.dr (c := c) (g := g) (N := up3 N 27 0 k 1) (h.1.k (by decide)) fun p hp => by rw [up3_k _ _ (by decide)]; exact h.2.1 p hp
  refine ⟨h1.1, h1.2, fun j hj => ?_⟩
  rw [drkN_k (by decide) (by decide) (by decide), up27]
  have := h.2.2 j hj
  split <;> omega
theorem outI_w {K d : Nat} : ∀ {n : Nat} {N : GV}, OI K N → OI K (outI d n N)
  | 0, _, h => h
  | n + 1, N, h => by
    unfold outI
    split
    · exact h
    · exact outI_w h.nx
theorem Fr.ou {N : GV} {d : Nat} : ∀ {n : Nat} {N' : GV}, Fr N N' → Fr N (outI d n N')
  | 0, _, h => h
  | n + 1, N', h => by
    unfold outI
    split
    · exact h
    · exact Fr.ou (h.u2 (by omega)).dr
theorem l120 {X : XS} {R : GR} {L : GL} {Z : Nat × Nat × Bool} (hR : Rok R) {K d : Nat} {lf : Int32} {l3 : AV} : ∀ (n : Nat) (N : GV), OI K N → N 22 0 5 = d → und17 (N 27 0) ≤ n → ex X 120 67 [vR 7 0, vI lf, vI (oI (nxoN (N 22 0) (N 27 0) d (N 22 0 7))), l3] [] (gg (nW N) R L Z) = ex X 120 109 [vR 7 0, vI lf, vI (-1), l3] [] (gg (nW (outI d n N)) R L Z) := by
  intro n
  induction n with
  | zero =>
    intro N h hd hu
    have e : nxoN (N 22 0) (N 27 0) d (N 22 0 7) = none := nxoN_0 fun j hj => und17_0 (by omega) j (by have := h.1.h7; omega)
    rw [x120_67]
    simp (disch := first | assumption | omega | exact nI_or0 | exact nI_or1) only [x120_68, x120_69, reduceIte, Nat.reduceLT, nW_ap, nW_up, nI_add, pk_mul, nI_ltI, nI_eq, if_true, if_false, kont_r, kont_v, Nat.reduceAdd, Nat.reduceMul, Nat.not_lt, not_true_eq_false, not_false_eq_true, Nat.one_ne_zero, Nat.reduceEqDiff, Nat.lt_irrefl, reduceCtorEq, nI_or0, nI_or1, e, oI]
    rfl
  | succ n ih =>
    intro N h hd hu
    cases e : nxoN (N 22 0) (N 27 0) d (N 22 0 7) with
    | none =>
      rw [x120_67]
      simp (disch := first | assumption | omega | exact nI_or0 | exact nI_or1) only [x120_68, x120_69, reduceIte, Nat.reduceLT, nW_ap, nW_up, nI_add, pk_mul, nI_ltI, nI_eq, if_true, if_false, kont_r, kont_v, Nat.reduceAdd, Nat.reduceMul, Nat.not_lt, not_true_eq_false, not_false_eq_true, Nat.one_ne_zero, Nat.reduceEqDiff, Nat.lt_irrefl, reduceCtorEq, nI_or0, nI_or1, oI]
      simp only [outI, e]
    | some k =>
      have h7 := h.1.h7
      have hb := nxoN_lt e
      have hk := hb.1
      have hK := h.1.hK
      have hdb := h.1.h5
      have hb1 := nI_m1 (n := k) (by omega)
      have h1 : DI K (up3 N 27 0 k 1) := h.1.k (by decide)
      have ho := h.1.ou (k := k) (by omega)
      have e22 : ∀ i s, (up3 N 27 0 k 1) 22 i s = N 22 i s := fun i s => up3_k _ _ (by decide)
      have p1 := t117 (X := X) (N := up3 N 27 0 k 1) (L := L) (Z := Z) (c := N 22 0 (153 + 3 * k + 1)) (g := N 22 0 (153 + 3 * k + 2)) hR h1 (fun p hp => by rw [up3_k _ _ (by decide)]; exact h.2.1 p hp) (by omega) (by omega)
      have hn := h.nx (k := k) (c := N 22 0 (153 + 3 * k + 1)) (g := N 22 0 (153 + 3 * k + 2))
      have hf : Fr N (drkN (up3 N 27 0 k 1) (N 22 0 (153 + 3 * k + 1)) (N 22 0 (153 + 3 * k + 2))) := (Fr.rf.u2 (by omega)).dr
      have hu2 := und17_1 (D' := (drkN (up3 N 27 0 k 1) (N 22 0 (153 + 3 * k + 1)) (N 22 0 (153 + 3 * k + 2))) 27 0) (D := N 27 0) (show k < 17 by omega) hb.2.2 fun i => by rw [drkN_k (by decide) (by decide) (by decide), up27]
      simp only [outI, e]
      generalize drkN (up3 N 27 0 k 1) (N 22 0 (153 + 3 * k + 1)) (N 22 0 (153 + 3 * k + 2)) = M at p1 hn hf hu2 ⊢
      have e5 : M 22 0 5 = d := by rw [hf _ _ _ (by omega) (by decide) (by decide) (by decide), hd]
      have p2 := t118 (X := X) (N := M) (L := L) (Z := Z) hR hn.1 hn.2.2 (show d < 2 ^ 28 by omega)
      have hi := ih M hn e5 (by omega)
      rw [← hi, x120_67]
      simp (disch := first | assumption | omega | exact nI_or0 | exact nI_or1) only [x120_68, x120_69, x120_72, x120_73, x120_76, x120_77, x120_78, x120_79, x120_80, x120_81, x120_82, x120_83, x120_86, x120_87, x120_88, x120_89, x120_92, x120_95, x120_96, x120_97, x120_100, x120_101, x120_102, x120_105, x120_106, reduceIte, Nat.reduceLT, nW_ap, nW_up, nI_add, pk_mul, nI_ltI, nI_eq, if_true, if_false, kont_r, kont_v, Nat.reduceAdd, Nat.reduceMul, Nat.not_lt, not_true_eq_false, not_false_eq_true, Nat.one_ne_zero, Nat.reduceEqDiff, Nat.lt_irrefl, reduceCtorEq, nI_or0, nI_or1, show oI (some k) = nI k from rfl, hb1, t100, e22, p1, p2, e5]
/-- a fountain gives to visitors -/
def visN (w : Nat) (N : GV) (p : Nat) : GV := if clo (N 22 0) p = 0 then givN N p (givA N p w) else N
def FI (K : Nat) (N : GV) : Prop := DI K N ∧ ∀ p, p < 8 → N 26 0 p < 2 ^ 28
theorem FI.giv {K : Nat} {N : GV} {p w : Nat} (hp : p < 8) (h : FI K N) : FI K (givN N p (givA N p w)) := by
  refine ⟨h.1.gv hp givA_le.2.2, fun q hq => ?_⟩
  rw [giv_26]
  have := h.2 q hq
  have := h.2 p hp
  split <;> omega
theorem FI.vi {K w p : Nat} {N : GV} (hp : p < 8) (h : FI K N) : FI K (visN w N p) := by
  unfold visN
  split
  · exact h.giv hp
  · exact h
theorem FI.vis {K w : Nat} {N : GV} (h : FI K N) : ∀ k, k ≤ 8 → FI K (itN (visN w) k N)
  | 0, _ => h
  | k + 1, hk => (FI.vis h k (by omega)).vi (by omega)
theorem Fr.vi {N N' : GV} {w p : Nat} (hp : p < 8) (h : Fr N N') : Fr N (visN w N' p) := by
  unfold visN
  split
  · exact h.gv hp
  · exact h
theorem Fr.vis {N N' : GV} {w : Nat} (h : Fr N N') : ∀ k, k ≤ 8 → Fr N (itN (visN w) k N')
  | 0, _ => h
  | k + 1, hk => (Fr.vis h k (by omega)).vi (by omega)
theorem DI.st {K : Nat} {N : GV} {l : List OT} (h : DI K N) (hl : ∀ o, o ∈ l → o.1 ≤ K + 999 ∧ o.2.1 ≤ 99 ∧ o.2.2 ≤ 7) (hn : l.length ≤ 17) : DI K (setO N l) := by
  have hg : ∀ k, (l.getD k (0, 0, 0)).1 ≤ K + 999 ∧ (l.getD k (0, 0, 0)).2.1 ≤ 99 ∧ (l.getD k (0, 0, 0)).2.2 ≤ 7 := fun k => by
    rw [List.getD_eq_getElem?_getD]
    cases e : l[k]? with
    | none => show (0 : Nat) ≤ _ ∧ (0 : Nat) ≤ 99 ∧ (0 : Nat) ≤ 7; omega
    | some o => exact hl o (List.mem_of_getElem? e)
  refine ⟨h.hK, fun j => ?_, fun p hp => ?_⟩
  · unfold setO
    by_cases q : 153 ≤ j ∧ j < 204
    · rw [if_pos ⟨rfl, rfl, q.1, q.2⟩]
      refine bd_O q ?_
      have := hg ((j - 153) / 3)
      generalize l.getD ((j - 153) / 3) (0, 0, 0) = o at this
      refine ⟨fun e => ?_, fun e => ?_, fun e => ?_⟩ <;> rw [e]
      · exact this.1
      · exact this.2.1
      · exact this.2.2
    · rw [if_neg fun e => q ⟨e.2.2.1, e.2.2.2⟩]
      by_cases q7 : j = 7
      · subst q7; rw [if_pos ⟨rfl, rfl, rfl⟩]; exact (bd_S (by omega) (by unfold b0; omega))
      · rw [if_neg fun e => q7 e.2.2]; exact h.u j
  · unfold setO
    rw [if_neg (by omega), if_neg (by omega), if_neg (by omega), if_neg (by omega)]
    exact h.l p hp
theorem setO_o {N : GV} {l : List OT} {k i s : Nat} (h : k = 22 → i = 0 → ¬ s = 7 ∧ ¬ (153 ≤ s ∧ s < 204)) : setO N l k i s = N k i s := by
  unfold setO
  rw [if_neg fun q => (h q.1 q.2.1).2 q.2.2, if_neg fun q => (h q.1 q.2.1).1 q.2.2]
theorem setO_7 {N : GV} {l : List OT} : setO N l 22 0 7 = l.length := by
  unfold setO
  rw [if_neg (by omega), if_pos ⟨rfl, rfl, rfl⟩]
theorem setO_z {N : GV} {l : List OT} : ouZ ((setO N l) 22 0) := by
  intro s h1 h2
  rw [setO_7] at h1
  unfold setO
  rw [if_pos (by omega), gD_out (by omega)]
  match (s - 153) % 3 with
  | 0 => rfl
  | 1 => rfl
  | _ + 2 => rfl
theorem ouL_b {K : Nat} {N : GV} (h : DI K N) : ∀ o, o ∈ ouL (N 22 0) (N 22 0 7) → o.1 ≤ K + 999 ∧ o.2.1 ≤ 99 ∧ o.2.2 ≤ 7 := by
  intro o ho
  unfold ouL at ho
  obtain ⟨k, hk, e⟩ := List.mem_map.1 ho
  rw [List.mem_range] at hk
  subst e
  exact h.ou (by have := h.h7; omega)
theorem DI.dp {K d : Nat} {N : GV} (h : DI K N) : DI K (drops d N) :=
  h.st (fun o ho => ouL_b h o ((List.mem_filter.1 ho).1)) (Nat.le_trans (List.length_filter_le _ _) (by rw [ouL_len]; exact h.h7))
/-- a whole day -/
def dayF (N : GV) : GV := if froB (N 22 0) (N 22 0 5) = true then itN frzN 8 N else N
def dayR (N : GV) : GV := rowTo N 26 0 8 fun p => 4 * N 22 0 (13 + 10 * p)
def dayO (N : GV) : GV := drops (N 22 0 5) (outI (N 22 0 5) 17 (opnN N))
def dayE (N : GV) : GV := up3 N 22 0 5 (N 22 0 5 + 1)
def dayN (N : GV) : GV := dayE (itN (visN (4 * N 22 0 3)) 8 (dayO (dayR (works (froB (N 22 0) (N 22 0 5)) (dayF N)))))
theorem v120 {X : XS} {N : GV} {R : GR} {L : GL} {Z : Nat × Nat × Bool} (hR : Rok R) {K w : Nat} {lf lo : Int32} (h : FI K N) (hw : w = 4 * N 22 0 3) {r : Option RS} (hr : ex X 120 156 [vR 7 0, vI lf, vI lo, vI (nI 8)] [] (gg (nW (itN (visN w) 8 N)) R L Z) = r) : ∀ k, k ≤ 8 → ex X 120 122 [vR 7 0, vI lf, vI lo, vI (nI k)] [] (gg (nW (itN (visN w) k N)) R L Z) = r := by
  have h3 := h.1.h3
  refine down _ ?_ ?_
  · rw [x120_122]
    simp (disch := first | assumption | omega | exact nI_or0 | exact nI_or1) only [x120_123, x120_125, reduceIte, Nat.reduceLT, nW_ap, nW_up, nI_add, pk_mul, nI_ltI, nI_eq, if_true, if_false, kont_r, kont_v, Nat.reduceAdd, Nat.reduceMul, Nat.not_lt, not_true_eq_false, not_false_eq_true, Nat.one_ne_zero, Nat.reduceEqDiff, Nat.lt_irrefl, reduceCtorEq, nI_or0, nI_or1]
    exact hr
  · intro k hk ih
    have hW := FI.vis (w := w) h k (by omega)
    have e3 : (itN (visN w) k N) 22 0 3 = N 22 0 3 := (Fr.vis (w := w) Fr.rf k (by omega)) _ _ _ (by omega) (by decide) (by decide) (by decide)
    rw [itN_s] at ih
    generalize itN (visN w) k N = M at hW e3 ih ⊢
    have p1 := t102 (X := X) (N := M) (L := L) (Z := Z) hR hW.1.h6 hW.1.lt hk
    have p2 := t114 (X := X) (N := M) (L := L) (Z := Z) (w := w) hR hW.1.lt hk (by omega) (hW.2 k hk) (hW.1.l k hk)
    have e4 : 4 * M 22 0 3 = w := by rw [e3, hw]
    have hc5 : clo (M 22 0) k < 2 ^ 28 := by unfold clo cloB; split; omega; split; omega; split; omega; split; omega; split <;> omega
    unfold visN at ih
    rw [x120_122]
    by_cases q : clo (M 22 0) k = 0
    · rw [if_pos q] at ih
      simp (disch := first | assumption | omega | exact nI_or0 | exact nI_or1) only [x120_123, x120_125, x120_128, x120_129, x120_130, x120_133, x120_136, x120_137, x120_138, x120_139, x120_140, x120_143, x120_144, x120_145, x120_146, x120_149, x120_150, x120_153, reduceIte, Nat.reduceLT, nW_ap, nW_up, nI_add, pk_mul, nI_ltI, nI_eq, if_true, if_false, kont_r, kont_v, Nat.reduceAdd, Nat.reduceMul, Nat.not_lt, not_true_eq_false, not_false_eq_true, Nat.one_ne_zero, Nat.reduceEqDiff, Nat.lt_irrefl, reduceCtorEq, nI_or0, nI_or1, hk, p1, p2, q, e4]
      exact ih
    · rw [if_neg q] at ih
      simp (disch := first | assumption | omega | exact nI_or0 | exact nI_or1) only [x120_123, x120_125, x120_128, x120_129, x120_130, x120_133, x120_136, x120_137, x120_138, x120_139, x120_140, x120_143, x120_144, x120_145, x120_146, x120_149, x120_150, x120_153, reduceIte, Nat.reduceLT, nW_ap, nW_up, nI_add, pk_mul, nI_ltI, nI_eq, if_true, if_false, kont_r, kont_v, Nat.reduceAdd, Nat.reduceMul, Nat.not_lt, not_true_eq_false, not_false_eq_true, Nat.one_ne_zero, Nat.reduceEqDiff, Nat.lt_irrefl, reduceCtorEq, nI_or0, nI_or1, hk, p1, q]
      exact ih
theorem r120 {X : XS} {N : GV} {R : GR} {L : GL} {Z : Nat × Nat × Bool} (hR : Rok R) {lf : Int32} {l3 : AV} {r : Option RS} (hr : ex X 120 52 [vR 7 0, vI lf, vI (nI 8), l3] [] (gg (nW (dayR N)) R L Z) = r) : ex X 120 26 [vR 7 0, vI lf, vI (nI 0), l3] [] (gg (nW N) R L Z) = r := by
  have key : ∀ k, k ≤ 8 → ex X 120 26 [vR 7 0, vI lf, vI (nI k), l3] [] (gg (nW (rowTo N 26 0 k fun p => 4 * N 22 0 (13 + 10 * p))) R L Z) = r := by
    refine down _ ?_ ?_
    · rw [x120_26]
      simp (disch := first | assumption | omega | exact nI_or0 | exact nI_or1) only [x120_27, x120_29, reduceIte, Nat.reduceLT, nW_ap, nW_up, nI_add, pk_mul, nI_ltI, nI_eq, if_true, if_false, kont_r, kont_v, Nat.reduceAdd, Nat.reduceMul, Nat.not_lt, not_true_eq_false, not_false_eq_true, Nat.one_ne_zero, Nat.reduceEqDiff, Nat.lt_irrefl, reduceCtorEq, nI_or0, nI_or1]
      exact hr
    · intro k hk ih
      rw [← rowTo_s] at ih
      have e : (rowTo N 26 0 k fun p => 4 * N 22 0 (13 + 10 * p)) 22 0 (13 + 10 * k) = N 22 0 (13 + 10 * k) := rowTo_k (by decide)
      rw [x120_26]
      simp (disch := first | assumption | omega | exact nI_or0 | exact nI_or1) only [x120_27, x120_29, x120_32, x120_33, x120_36, x120_37, x120_38, x120_39, x120_40, x120_41, x120_44, x120_45, x120_46, x120_49, reduceIte, Nat.reduceLT, nW_ap, nW_up, nI_add, pk_mul, nI_ltI, nI_eq, if_true, if_false, kont_r, kont_v, Nat.reduceAdd, Nat.reduceMul, Nat.not_lt, not_true_eq_false, not_false_eq_true, Nat.one_ne_zero, Nat.reduceEqDiff, Nat.lt_irrefl, reduceCtorEq, nI_or0, nI_or1, hk, t97, Nat.add_zero, e]
      exact ih
  have h := key 0 (Nat.zero_le _)
  rw [rowTo_0] at h
  exact h
theorem DI.dF {K : Nat} {N : GV} (h : DI K N) : DI K (dayF N) := by
  unfold dayF
  split
  · exact h.fzs 8 (Nat.le_refl _)
  · exact h
theorem Fr.dF {N N' : GV} (h : Fr N N') : Fr N (dayF N') := by
  unfold dayF
  split
  · exact h.fzs 8 (Nat.le_refl _)
  · exact h
theorem dR22 {N : GV} : (dayR N) 22 = N 22 := by funext i s; exact rowTo_k (by decide)
/-- what is before the visitors -/
def dayM (N : GV) : GV := dayO (dayR (works (froB (N 22 0) (N 22 0 5)) (dayF N)))
theorem OI.op {K : Nat} {N : GV} (h : DI K N) : OI K (opnN (dayR N)) :=
  ⟨(h.ex dR22).ex opn_22, fun p hp => by
    rw [opn_k (by decide)]
    show rowTo N 26 0 8 (fun p => 4 * N 22 0 (13 + 10 * p)) 26 0 p < _
    rw [rowTo_in hp]
    have := (h.fo hp).1
    show 4 * N 22 0 (13 + 10 * p) < _
    omega, fun k hk => by rw [opn_0 hk]; omega⟩
theorem dO_w {K : Nat} {N : GV} (h : OI K (opnN N)) : FI K (dayO N) := by
  have h1 := outI_w (d := N 22 0 5) (n := 17) h
  refine ⟨h1.1.dp, fun p hp => ?_⟩
  unfold dayO drops
  rw [setO_o fun q => absurd q (by decide)]
  exact h1.2.1 p hp
theorem t120 {X : XS} {N : GV} {R : GR} {L : GL} {Z : Nat × Nat × Bool} (hR : Rok R) {K : Nat} (h : DI K N) (hz : ouZ (N 22 0)) : exec X 120 [vR 7 0] (gg (nW N) R L Z) = some (.inl none, (gg (nW (dayN N)) R L Z)) := by
  have hK := h.hK
  have h5 := h.h5
  have s1 : exec X 120 [vR 7 0] (gg (nW N) R L Z) = ex X 120 19 [vR 7 0, vI (nI (bN (froB (N 22 0) (N 22 0 5)))), vU, vU] [] (gg (nW (dayF N)) R L Z) := by
    have p1 := t101 (X := X) (N := N) (L := L) (Z := Z) hR h.h6 h.lt (d := N 22 0 5) (by omega)
    have p2 := t111 (X := X) (N := N) (L := L) (Z := Z) hR h.lt
    unfold dayF
    cases q : froB (N 22 0) (N 22 0 5) with
    | true =>
      rw [q] at p1
      simp (disch := first | assumption | omega | exact nI_or0 | exact nI_or1) only [in120, x120_0, x120_1, x120_2, x120_5, x120_6, x120_7, x120_10, x120_11, x120_12, x120_15, x120_16, reduceIte, Nat.reduceLT, nW_ap, nW_up, nI_add, pk_mul, nI_ltI, nI_eq, if_true, if_false, kont_r, kont_v, Nat.reduceAdd, Nat.reduceMul, Nat.not_lt, not_true_eq_false, not_false_eq_true, Nat.one_ne_zero, Nat.reduceEqDiff, Nat.lt_irrefl, reduceCtorEq, nI_or0, nI_or1, p1, p2, bN]
    | false =>
      rw [q] at p1
      simp (disch := first | assumption | omega | exact nI_or0 | exact nI_or1) only [in120, x120_0, x120_1, x120_2, x120_5, x120_6, x120_7, x120_10, x120_11, x120_12, x120_15, x120_16, reduceIte, Nat.reduceLT, nW_ap, nW_up, nI_add, pk_mul, nI_ltI, nI_eq, if_true, if_false, kont_r, kont_v, Nat.reduceAdd, Nat.reduceMul, Nat.not_lt, not_true_eq_false, not_false_eq_true, Nat.one_ne_zero, Nat.reduceEqDiff, Nat.lt_irrefl, reduceCtorEq, nI_or0, nI_or1, p1, p2, bN, Bool.false_eq_true]
  rw [s1]
  have hF := h.dF
  have fF := Fr.dF (N := N) Fr.rf
  unfold dayN
  generalize froB (N 22 0) (N 22 0 5) = f
  generalize dayF N = N1 at hF fF
  have p3 := t113 (X := X) (N := N1) (L := L) (Z := Z) (f := f) hR hF.lt hF.wo
  have hW := hF.ws (f := f)
  have fW := Fr.ws (f := f) fF
  generalize works f N1 = N2 at p3 hW fW
  have hO := OI.op hW
  have fR : Fr N (dayR N2) := fW.rw (by omega)
  generalize hR3 : dayR N2 = N3 at hO fR
  have p4 := t110' (X := X) (N := N3) (L := L) (Z := Z) hR
  have e5 : (opnN N3) 22 0 5 = N 22 0 5 := by rw [opn_22]; exact fR _ _ _ (by omega) (by decide) (by decide) (by decide)
  have e5' : N3 22 0 5 = N 22 0 5 := by rw [← e5, opn_22]
  have e3 : N3 22 0 3 = N 22 0 3 := fR _ _ _ (by omega) (by decide) (by decide) (by decide)
  have p5 := t118 (X := X) (N := opnN N3) (L := L) (Z := Z) hR hO.1 hO.2.2 (show N 22 0 5 < 2 ^ 28 by omega)
  have p6 := l120 (X := X) (L := L) (Z := Z) (lf := nI (bN f)) (l3 := vU) hR 17 (opnN N3) hO e5 (sumN_le (a := 1) (n := 17) fun j _ => bN_le _)
  have hI := outI_w (d := N 22 0 5) (n := 17) hO
  have fI : Fr N (outI (N 22 0 5) 17 (opnN N3)) := Fr.ou (fR.rw (by omega))
  have hFO := dO_w hO
  have eO : dayO N3 = drops (N 22 0 5) (outI (N 22 0 5) 17 (opnN N3)) := by unfold dayO; rw [e5']
  rw [eO] at hFO ⊢
  generalize outI (N 22 0 5) 17 (opnN N3) = N5 at p6 hI fI hFO
  have e6 : N5 22 0 5 = N 22 0 5 := fI _ _ _ (by omega) (by decide) (by decide) (by decide)
  have hz5 : ouZ (N5 22 0) := by
    have e7 : N5 22 0 7 = N 22 0 7 := fI _ _ _ (by omega) (by decide) (by decide) (by decide)
    intro s a b
    rw [e7] at a
    rw [fI _ _ _ (by omega) (by decide) (by decide) (by decide)]
    exact hz s a b
  have p7 := t119 (X := X) (L := L) (Z := Z) hR hI.1 hz5 (show N 22 0 5 < 2 ^ 28 by omega)
  have e8 : (drops (N 22 0 5) N5) 22 0 5 = N 22 0 5 := by unfold drops; rw [setO_o (by omega), e6]
  have e83 : (drops (N 22 0 5) N5) 22 0 3 = N 22 0 3 := by
    unfold drops
    rw [setO_o (by omega)]
    exact fI _ _ _ (by omega) (by decide) (by decide) (by decide)
  generalize drops (N 22 0 5) N5 = N6 at p7 hFO e8 e83
  have fV : Fr N6 (itN (visN (4 * N 22 0 3)) 8 N6) := Fr.vis Fr.rf 8 (Nat.le_refl _)
  have e9 : (itN (visN (4 * N 22 0 3)) 8 N6) 22 0 5 = N 22 0 5 := by rw [fV _ _ _ (by omega) (by decide) (by decide) (by decide), e8]
  have p8 := v120 (X := X) (L := L) (Z := Z) (lf := nI (bN f)) (lo := -1) (w := 4 * N 22 0 3) hR hFO (by rw [e83]) (r := some (.inl none, (gg (nW (dayE (itN (visN (4 * N 22 0 3)) 8 N6))) R L Z))) (by
    unfold dayE
    simp (disch := first | assumption | omega | exact nI_or0 | exact nI_or1) only [x120_156, x120_157, x120_160, x120_161, x120_162, x120_163, x120_164, x120_165, x120_166, reduceIte, Nat.reduceLT, nW_ap, nW_up, nI_add, pk_mul, nI_ltI, nI_eq, if_true, if_false, kont_r, kont_v, Nat.reduceAdd, Nat.reduceMul, Nat.not_lt, not_true_eq_false, not_false_eq_true, Nat.one_ne_zero, Nat.reduceEqDiff, Nat.lt_irrefl, reduceCtorEq, nI_or0, nI_or1, e9]) 0 (Nat.zero_le _)
  have s2 : ex X 120 19 [vR 7 0, vI (nI (bN f)), vU, vU] [] (gg (nW (N1)) R L Z) = ex X 120 26 [vR 7 0, vI (nI (bN f)), vI (nI 0), vU] [] (gg (nW (N2)) R L Z) := by
    simp (disch := first | assumption | omega | exact nI_or0 | exact nI_or1) only [x120_19, x120_20, x120_21, x120_24, x120_25, reduceIte, Nat.reduceLT, nW_ap, nW_up, nI_add, pk_mul, nI_ltI, nI_eq, if_true, if_false, kont_r, kont_v, Nat.reduceAdd, Nat.reduceMul, Nat.not_lt, not_true_eq_false, not_false_eq_true, Nat.one_ne_zero, Nat.reduceEqDiff, Nat.lt_irrefl, reduceCtorEq, nI_or0, nI_or1, p3]
  rw [s2]
  refine r120 hR ?_
  rw [hR3]
  have s3 : ex X 120 52 [vR 7 0, vI (nI (bN f)), vI (nI 8), vU] [] (gg (nW (N3)) R L Z) = ex X 120 67 [vR 7 0, vI (nI (bN f)), vI (oI (nxoN ((opnN N3) 22 0) ((opnN N3) 27 0) (N 22 0 5) ((opnN N3) 22 0 7))), vU] [] (gg (nW (opnN N3)) R L Z) := by
    simp (disch := first | assumption | omega | exact nI_or0 | exact nI_or1) only [x120_52, x120_53, x120_56, x120_57, x120_58, x120_61, x120_62, x120_63, x120_66, reduceIte, Nat.reduceLT, nW_ap, nW_up, nI_add, pk_mul, nI_ltI, nI_eq, if_true, if_false, kont_r, kont_v, Nat.reduceAdd, Nat.reduceMul, Nat.not_lt, not_true_eq_false, not_false_eq_true, Nat.one_ne_zero, Nat.reduceEqDiff, Nat.lt_irrefl, reduceCtorEq, nI_or0, nI_or1, p4, p5, e5]
  rw [s3, p6]
  refine Eq.trans ?_ p8
  show _ = ex X 120 122 [vR 7 0, vI (nI (bN f)), vI (-1), vI (nI 0)] [] (gg (nW (N6)) R L Z)
  simp (disch := first | assumption | omega | exact nI_or0 | exact nI_or1) only [x120_109, x120_110, x120_111, x120_114, x120_115, x120_116, x120_119, x120_120, x120_121, reduceIte, Nat.reduceLT, nW_ap, nW_up, nI_add, pk_mul, nI_ltI, nI_eq, if_true, if_false, kont_r, kont_v, Nat.reduceAdd, Nat.reduceMul, Nat.not_lt, not_true_eq_false, not_false_eq_true, Nat.one_ne_zero, Nat.reduceEqDiff, Nat.lt_irrefl, reduceCtorEq, nI_or0, nI_or1, p7, e6]
