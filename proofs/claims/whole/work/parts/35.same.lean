/-! a day depends on the state alone -/
def Qs (c : Nat) (N M : GV) : Prop := M 22 0 = N 22 0 ∧ (1 ≤ c → ∀ p, p < 8 → M 26 0 p = N 26 0 p) ∧ (∀ j, j < 17 → M 27 0 j = N 27 0 j) ∧ (2 ≤ c → ∀ p, p < 8 → M 28 0 p = N 28 0 p)
theorem Qs.lo {c c' : Nat} {N M : GV} (h : Qs c N M) (hc : c' ≤ c) : Qs c' N M := ⟨h.1, fun q => h.2.1 (by omega), h.2.2.1, fun q => h.2.2.2 (by omega)⟩
theorem up22 {N : GV} {s v : Nat} : (up3 N 22 0 s v) 22 0 = fun j => if j = s then v else N 22 0 j := by
  funext j
  by_cases h : j = s
  · subst h; rw [up3_self, if_pos rfl]
  · rw [up3_s _ _ h, if_neg h]
theorem upk0 {N : GV} {k i s v : Nat} {a : Nat} (h : ¬ a = k) : (up3 N k i s v) a 0 = N a 0 := by funext j; exact up3_k _ _ h
theorem Qs.up {c : Nat} {N M : GV} {s v v' : Nat} (h : Qs c N M) (hv : v' = v) : Qs c (up3 N 22 0 s v) (up3 M 22 0 s v') := by
  subst hv
  refine ⟨by rw [up22, up22, h.1], fun hc p hp => ?_, fun j hj => ?_, fun hc p hp => ?_⟩
  · rw [up3_k _ _ (by decide), up3_k _ _ (by decide)]; exact h.2.1 hc p hp
  · rw [up3_k _ _ (by decide), up3_k _ _ (by decide)]; exact h.2.2.1 j hj
  · rw [up3_k _ _ (by decide), up3_k _ _ (by decide)]; exact h.2.2.2 hc p hp
theorem up3_c {N M : GV} {k i s v v' k' i' s' : Nat} (hv : v' = v) (h : M k' i' s' = N k' i' s') : up3 M k i s v' k' i' s' = up3 N k i s v k' i' s' := by
  subst hv
  unfold up3
  rw [h]
theorem Qs.u2 {c : Nat} {N M : GV} {a s v v' : Nat} (h : Qs c N M) (ha : ¬ 22 = a) (hv : v' = v) : Qs c (up3 N a 0 s v) (up3 M a 0 s v') := by
  refine ⟨by rw [upk0 ha, upk0 ha, h.1], fun hc p hp => ?_, fun j hj => ?_, fun hc p hp => ?_⟩
  · exact up3_c hv (h.2.1 hc p hp)
  · exact up3_c hv (h.2.2.1 j hj)
  · exact up3_c hv (h.2.2.2 hc p hp)
theorem Qs.en {c : Nat} {N M : GV} {j : Nat} (h : Qs c N M) : Qs c (endN N j) (endN M j) := ((h.up rfl).up rfl).up rfl
theorem Qs.re {c : Nat} {N M : GV} {j : Nat} (h : Qs c N M) : Qs c (repN N j) (repN M j) := ((h.up rfl).up (by rw [h.1])).up rfl
theorem Qs.fi {c : Nat} {N M : GV} {j : Nat} (h : Qs c N M) : Qs c (finN N j) (finN M j) := by
  unfold finN
  split
  · exact (h.up rfl).en
  · exact ((h.up rfl).up (by rw [h.1])).en
theorem Qs.fz {c : Nat} {N M : GV} {p : Nat} (h : Qs c N M) : Qs c (frzN N p) (frzN M p) := by
  unfold frzN
  rw [h.1]
  split
  · exact ((h.up rfl).up rfl).re
  · exact h
theorem Qs.fzs {c : Nat} {N M : GV} (h : Qs c N M) : ∀ k, Qs c (itN frzN k N) (itN frzN k M)
  | 0 => h
  | k + 1 => (Qs.fzs h k).fz
theorem Qs.wr {c : Nat} {f : Bool} {N M : GV} {l j : Nat} (h : Qs c N M) : Qs c (wrk1 f N l j) (wrk1 f M l j) := by
  have hk : wrkH f M l j = wrkH f N l j := by unfold wrkH; rw [h.1]
  have hM : ∀ k, Qs c (wrkM N k j) (wrkM M k j) := fun k => (((h.u2 (by decide) rfl).up (by rw [h.1])).up (by rw [h.1])).up (by rw [h.1])
  unfold wrk1
  rw [hk, h.1]
  split
  · exact (hM _).fi
  · exact hM _
theorem nxtJ_c {S D D' : Nat → Nat} : ∀ {k : Nat}, (∀ j, j < k → D' j = D j) → nxtJ S D' k = nxtJ S D k := by
  intro k
  induction k with
  | zero => intro _; rfl
  | succ k ih =>
    intro h
    unfold nxtJ
    rw [ih fun j hj => h j (by omega), h k (by omega)]
theorem Qs.wrs {c : Nat} {f : Bool} : ∀ {n : Nat} {N M : GV} {l : Nat}, Qs c N M → Qs c (wrkN f n N l) (wrkN f n M l)
  | 0, _, _, _, h => h
  | n + 1, N, M, l, h => by
    have hk : ∀ j, wrkH f M l j = wrkH f N l j := fun j => by unfold wrkH; rw [h.1]
    unfold wrkN
    rw [h.1, nxtJ_c (D' := M 27 0) (D := N 27 0) fun j hj => h.2.2.1 j (by omega)]
    split
    · exact h
    · next j e => rw [hk]; exact Qs.wrs h.wr
theorem Qs.op {c : Nat} {N M : GV} (h : Qs c N M) : Qs c (opnN N) (opnN M) :=
  ⟨by rw [opn_22, opn_22, h.1], fun hc p hp => by rw [opn_k (by decide), opn_k (by decide)]; exact h.2.1 hc p hp, fun j hj => by rw [opn_0 hj, opn_0 hj], fun hc p hp => by rw [opn_k (by decide), opn_k (by decide)]; exact h.2.2.2 hc p hp⟩
theorem Qs.ws {c : Nat} {f : Bool} {N M : GV} (h : Qs c N M) : Qs c (works f N) (works f M) := by
  unfold works
  rw [h.1]
  exact h.op.wrs
theorem Qs.gA {c : Nat} {N M : GV} {p w : Nat} (hp : p < 8) (hc : 1 ≤ c) (h : Qs c N M) : givA M p w = givA N p w := by
  unfold givA
  rw [h.1, h.2.1 hc p hp]
theorem Qs.gv {c : Nat} {N M : GV} {p i : Nat} (hp : p < 8) (hc : 1 ≤ c) (h : Qs c N M) : Qs c (givN N p i) (givN M p i) := by
  unfold givN
  rw [h.1]
  split
  · exact ((((h.u2 (by decide) (by rw [h.2.1 hc p hp])).up rfl).up rfl).up rfl).re
  · exact (((h.u2 (by decide) (by rw [h.2.1 hc p hp])).up rfl).up rfl).up rfl
theorem nrN_c {A A' : Nat → Nat} {g : Nat} : ∀ {k : Nat}, (∀ j, j < k → A' j = A j) → nrN A' g k = nrN A g k := by
  intro k
  induction k with
  | zero => intro _; rfl
  | succ k ih =>
    intro h
    unfold nrN
    rw [ih fun j hj => h j (by omega), h k (by omega)]
theorem Qs.dk {g : Nat} {q q' : GV × Nat} (h : Qs 2 q.1 q'.1) (h2 : q'.2 = q.2) : Qs 2 (drk1 g q).1 (drk1 g q').1 ∧ (drk1 g q').2 = (drk1 g q).2 := by
  unfold drk1
  rw [nrN_c (A' := q'.1 28 0) (A := q.1 28 0) (h.2.2.2 (Nat.le_refl _)), h.1, h2]
  split
  · exact ⟨h, h2⟩
  · next p e =>
    have hp := (nrN_lt e).1
    rw [h.gA hp (by decide)]
    split
    · exact ⟨(h.u2 (by decide) rfl).gv hp (by decide), rfl⟩
    · exact ⟨h.u2 (by decide) rfl, rfl⟩
theorem Qs.dkI {g : Nat} {q q' : GV × Nat} (h : Qs 2 q.1 q'.1) (h2 : q'.2 = q.2) : ∀ n, Qs 2 (drkI g n q).1 (drkI g n q').1 ∧ (drkI g n q').2 = (drkI g n q).2
  | 0 => ⟨h, h2⟩
  | n + 1 => Qs.dk (Qs.dkI h h2 n).1 (Qs.dkI h h2 n).2
theorem Qs.dr {N M : GV} {c g : Nat} (h : Qs 1 N M) : Qs 1 (drkN N c g) (drkN M c g) := by
  have h0 : Qs 2 (rowTo N 28 0 8 fun _ => 0) (rowTo M 28 0 8 fun _ => 0) := by
    refine ⟨by rw [rw28, rw28, h.1], fun _ p hp => ?_, fun j hj => ?_, fun _ p hp => ?_⟩
    · rw [rowTo_k (by decide), rowTo_k (by decide)]; exact h.2.1 (Nat.le_refl _) p hp
    · rw [rowTo_k (by decide), rowTo_k (by decide)]; exact h.2.2.1 j hj
    · rw [rowTo_in hp, rowTo_in hp]
  have h8 := Qs.dkI (g := g) (q := (rowTo N 28 0 8 (fun _ => 0), c * N 22 0 2)) (q' := (rowTo M 28 0 8 (fun _ => 0), c * M 22 0 2)) h0 (by show c * M 22 0 2 = c * N 22 0 2; rw [h.1]) 8
  unfold drkN
  generalize drkI g 8 (rowTo N 28 0 8 (fun _ => 0), c * N 22 0 2) = q at h8
  generalize drkI g 8 (rowTo M 28 0 8 (fun _ => 0), c * M 22 0 2) = q' at h8
  exact ((h8.1.up (by rw [h8.1.1, h8.2])).up (by rw [h8.1.1])).lo (by decide)
theorem nxoN_c {S D D' : Nat → Nat} {d : Nat} : ∀ {k : Nat}, (∀ j, j < k → D' j = D j) → nxoN S D' d k = nxoN S D d k := by
  intro k
  induction k with
  | zero => intro _; rfl
  | succ k ih =>
    intro h
    unfold nxoN
    rw [ih fun j hj => h j (by omega), h k (by omega)]
theorem Qs.ou {K d : Nat} : ∀ {n : Nat} {N M : GV}, OI K N → Qs 1 N M → Qs 1 (outI d n N) (outI d n M)
  | 0, _, _, _, h => h
  | n + 1, N, M, hO, h => by
    have h7 := hO.1.h7
    unfold outI
    rw [h.1, nxoN_c (D' := M 27 0) (D := N 27 0) fun j hj => h.2.2.1 j (by omega)]
    split
    · exact h
    · exact Qs.ou hO.nx (h.u2 (by decide) rfl).dr
theorem Qs.so {c : Nat} {N M : GV} {l : List OT} (h : Qs c N M) : Qs c (setO N l) (setO M l) := by
  refine ⟨?_, fun hc p hp => ?_, fun j hj => ?_, fun hc p hp => ?_⟩
  · funext s
    unfold setO
    rw [h.1]
  · rw [setO_o fun q => absurd q (by decide), setO_o fun q => absurd q (by decide)]; exact h.2.1 hc p hp
  · rw [setO_o fun q => absurd q (by decide), setO_o fun q => absurd q (by decide)]; exact h.2.2.1 j hj
  · rw [setO_o fun q => absurd q (by decide), setO_o fun q => absurd q (by decide)]; exact h.2.2.2 hc p hp
theorem Qs.dp {c : Nat} {N M : GV} {d : Nat} (h : Qs c N M) : Qs c (drops d N) (drops d M) := by
  unfold drops keepO
  rw [h.1]
  exact h.so
theorem Qs.vi {c : Nat} {N M : GV} {w p : Nat} (hp : p < 8) (hc : 1 ≤ c) (h : Qs c N M) : Qs c (visN w N p) (visN w M p) := by
  unfold visN
  rw [h.1]
  split
  · rw [h.gA hp hc]; exact h.gv hp hc
  · exact h
theorem Qs.vis {c : Nat} {N M : GV} {w : Nat} (hc : 1 ≤ c) (h : Qs c N M) : ∀ k, k ≤ 8 → Qs c (itN (visN w) k N) (itN (visN w) k M)
  | 0, _ => h
  | k + 1, hk => (Qs.vis hc h k (by omega)).vi (by omega) hc
/-- the same where the state alone counts -/
def Q0 (N M : GV) : Prop := M 22 0 = N 22 0
theorem Q0.fz {N M : GV} {p : Nat} (h : M 22 0 = N 22 0) : (frzN M p) 22 0 = (frzN N p) 22 0 := by
  unfold frzN
  rw [h]
  split
  · unfold repN
    simp only [up22, h]
  · exact h
theorem Q0.fzs {N M : GV} (h : M 22 0 = N 22 0) : ∀ k, (itN frzN k M) 22 0 = (itN frzN k N) 22 0
  | 0 => h
  | k + 1 => Q0.fz (Q0.fzs h k)
theorem Q0.dF {N M : GV} (h : M 22 0 = N 22 0) : (dayF M) 22 0 = (dayF N) 22 0 := by
  unfold dayF
  rw [h]
  split
  · exact Q0.fzs h 8
  · exact h
theorem Qs.st {N M : GV} (h : M 22 0 = N 22 0) : Qs 0 (opnN N) (opnN M) :=
  ⟨by rw [opn_22, opn_22, h], fun hc => absurd hc (by decide), fun j hj => by rw [opn_0 hj, opn_0 hj], fun hc => absurd hc (by decide)⟩
theorem Qs.dR {N M : GV} (h : Qs 0 N M) : Qs 1 (dayR N) (dayR M) := by
  refine ⟨by rw [dR22, dR22, h.1], fun _ p hp => ?_, fun j hj => ?_, fun hc => absurd hc (by decide)⟩
  · show rowTo M 26 0 8 (fun p => 4 * M 22 0 (13 + 10 * p)) 26 0 p = rowTo N 26 0 8 (fun p => 4 * N 22 0 (13 + 10 * p)) 26 0 p
    rw [rowTo_in hp, rowTo_in hp, h.1]
  · show rowTo M 26 0 8 (fun p => 4 * M 22 0 (13 + 10 * p)) 27 0 j = rowTo N 26 0 8 (fun p => 4 * N 22 0 (13 + 10 * p)) 27 0 j
    rw [rowTo_k (by decide), rowTo_k (by decide)]; exact h.2.2.1 j hj
theorem day_e {K : Nat} {N M : GV} (hD : DI K N) (h : M 22 0 = N 22 0) : (dayN M) 22 0 = (dayN N) 22 0 := by
  have hF := hD.dF
  have e1 := Q0.dF h
  unfold dayN
  rw [h]
  generalize froB (N 22 0) (N 22 0 5) = f
  generalize dayF N = N1 at hF e1
  generalize dayF M = M1 at e1
  have q2 : Qs 0 (works f N1) (works f M1) := by
    unfold works
    rw [e1]
    exact (Qs.st e1).wrs
  have hW := hF.ws (f := f)
  generalize works f N1 = N2 at q2 hW
  generalize works f M1 = M2 at q2
  have hO := OI.op hW
  have q3 := q2.dR
  generalize dayR N2 = N3 at q3 hO
  generalize dayR M2 = M3 at q3
  have q4 : Qs 1 (dayO N3) (dayO M3) := by
    unfold dayO
    rw [q3.1]
    exact (Qs.ou hO q3.op).dp
  have q5 := q4.vis (w := 4 * N 22 0 3) (by decide) 8 (Nat.le_refl _)
  unfold dayE
  rw [up22, up22, q5.1]
theorem days_e {K : Nat} {N M : GV} (hD : DI K N) (hz : ouZ (N 22 0)) (h : M 22 0 = N 22 0) : ∀ n, N 22 0 5 + n ≤ K → (daysN n M) 22 0 = (daysN n N) 22 0
  | 0, _ => h
  | n + 1, hn => day_e (days_w hD hz n (by omega)).1 (days_e hD hz h n (by omega))
/-- the world of a state alone -/
def cw (S : Nat → Nat) : GV := fun k i s => if k = 22 ∧ i = 0 then S s else 0
theorem cw_22 {S : Nat → Nat} : (cw S) 22 0 = S := by funext s; exact if_pos ⟨rfl, rfl⟩
def daysS (n : Nat) (S : Nat → Nat) : Nat → Nat := (daysN n (cw S)) 22 0
theorem daysS_e {K : Nat} {N : GV} (hD : DI K N) (hz : ouZ (N 22 0)) {n : Nat} (hn : N 22 0 5 + n ≤ K) : (daysN n N) 22 0 = daysS n (N 22 0) := (days_e hD hz cw_22 n hn).symm
