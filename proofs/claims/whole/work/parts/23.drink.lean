/-! what a state keeps; the reference's outings -/
/-- the bound of a slot -/
def b0 (K j v : Nat) : Prop := (j = 0 → v ≤ 20) ∧ (j = 1 → v ≤ 2) ∧ (j = 2 → 1 ≤ v ∧ v ≤ 9) ∧ (j = 3 → v ≤ 90) ∧ (j = 4 → v ≤ 50) ∧ (j = 5 → v ≤ K) ∧ (j = 6 → v ≤ 6) ∧ (j = 7 → v ≤ 17)
def b1 (j v : Nat) : Prop := ((j - 13) % 10 = 0 → v ≤ 90) ∧ ((j - 13) % 10 = 1 → v ≤ 900) ∧ ((j - 13) % 10 = 2 → v ≤ 3600) ∧ (3 ≤ (j - 13) % 10 → (j - 13) % 10 < 7 → v ≤ 1)
def b2 (K j v : Nat) : Prop := ((j - 93) % 3 = 0 → v ≤ 1) ∧ ((j - 93) % 3 = 1 → v ≤ K) ∧ ((j - 93) % 3 = 2 → v ≤ 6) ∧ ((j - 93) % 6 = 5 → v ≤ 2)
def b4 (K j v : Nat) : Prop := ((j - 153) % 3 = 0 → v ≤ K + 999) ∧ ((j - 153) % 3 = 1 → v ≤ 99) ∧ ((j - 153) % 3 = 2 → v ≤ 7)
def bd (K j v : Nat) : Prop := (j < 13 → b0 K j v) ∧ (13 ≤ j ∧ j < 93 → b1 j v) ∧ (93 ≤ j ∧ j < 141 → b2 K j v) ∧ (141 ≤ j ∧ j < 153 → v ≤ 999) ∧ (153 ≤ j ∧ j < 204 → b4 K j v)
theorem bd_S {K j v : Nat} (h : j < 13) (b : b0 K j v) : bd K j v := ⟨fun _ => b, fun q => by omega, fun q => by omega, fun q => by omega, fun q => by omega⟩
theorem bd_F {K j v : Nat} (h : 13 ≤ j ∧ j < 93) (b : b1 j v) : bd K j v := ⟨fun q => by omega, fun _ => b, fun q => by omega, fun q => by omega, fun q => by omega⟩
theorem bd_J {K j v : Nat} (h : 93 ≤ j ∧ j < 141) (b : b2 K j v) : bd K j v := ⟨fun q => by omega, fun q => by omega, fun _ => b, fun q => by omega, fun q => by omega⟩
theorem bd_W {K j v : Nat} (h : 141 ≤ j ∧ j < 153) (b : v ≤ 999) : bd K j v := ⟨fun q => by omega, fun q => by omega, fun q => by omega, fun _ => b, fun q => by omega⟩
theorem bd_O {K j v : Nat} (h : 153 ≤ j ∧ j < 204) (b : b4 K j v) : bd K j v := ⟨fun q => by omega, fun q => by omega, fun q => by omega, fun q => by omega, fun _ => b⟩
def DI (K : Nat) (N : GV) : Prop := K ≤ 100000 ∧ (∀ j, bd K j (N 22 0 j)) ∧ ∀ p, p < 8 → N 22 0 (13 + 10 * p + 2) ≤ 4 * N 22 0 (13 + 10 * p + 1)
theorem DI.hK {K : Nat} {N : GV} (h : DI K N) : K ≤ 100000 := h.1
theorem DI.u {K : Nat} {N : GV} (h : DI K N) : ∀ j, bd K j (N 22 0 j) := h.2.1
theorem DI.l {K : Nat} {N : GV} (h : DI K N) : ∀ p, p < 8 → N 22 0 (13 + 10 * p + 2) ≤ 4 * N 22 0 (13 + 10 * p + 1) := h.2.2
theorem DI.S {K : Nat} {N : GV} (h : DI K N) : ∀ j, j < 13 → b0 K j (N 22 0 j) := fun j hj => (h.u j).1 hj
theorem DI.h0 {K : Nat} {N : GV} (h : DI K N) : N 22 0 0 ≤ 20 := (h.S 0 (by decide)).1 rfl
theorem DI.h1 {K : Nat} {N : GV} (h : DI K N) : N 22 0 1 ≤ 2 := (h.S 1 (by decide)).2.1 rfl
theorem DI.h2 {K : Nat} {N : GV} (h : DI K N) : 1 ≤ N 22 0 2 ∧ N 22 0 2 ≤ 9 := (h.S 2 (by decide)).2.2.1 rfl
theorem DI.h3 {K : Nat} {N : GV} (h : DI K N) : N 22 0 3 ≤ 90 := (h.S 3 (by decide)).2.2.2.1 rfl
theorem DI.h4 {K : Nat} {N : GV} (h : DI K N) : N 22 0 4 ≤ 50 := (h.S 4 (by decide)).2.2.2.2.1 rfl
theorem DI.h5 {K : Nat} {N : GV} (h : DI K N) : N 22 0 5 ≤ K := (h.S 5 (by decide)).2.2.2.2.2.1 rfl
theorem DI.h6 {K : Nat} {N : GV} (h : DI K N) : N 22 0 6 ≤ 6 := (h.S 6 (by decide)).2.2.2.2.2.2.1 rfl
theorem DI.h7 {K : Nat} {N : GV} (h : DI K N) : N 22 0 7 ≤ 17 := (h.S 7 (by decide)).2.2.2.2.2.2.2 rfl
theorem DI.fo {K : Nat} {N : GV} (h : DI K N) {p : Nat} (hp : p < 8) : N 22 0 (13 + 10 * p) ≤ 90 ∧ N 22 0 (13 + 10 * p + 1) ≤ 900 ∧ N 22 0 (13 + 10 * p + 2) ≤ 3600 ∧ N 22 0 (13 + 10 * p + 3) ≤ 1 ∧ N 22 0 (13 + 10 * p + 4) ≤ 1 ∧ N 22 0 (13 + 10 * p + 5) ≤ 1 ∧ N 22 0 (13 + 10 * p + 6) ≤ 1 :=
  ⟨((h.u (13 + 10 * p)).2.1 (by omega)).1 (by omega), ((h.u (13 + 10 * p + 1)).2.1 (by omega)).2.1 (by omega), ((h.u (13 + 10 * p + 2)).2.1 (by omega)).2.2.1 (by omega), ((h.u (13 + 10 * p + 3)).2.1 (by omega)).2.2.2 (by omega) (by omega), ((h.u (13 + 10 * p + 4)).2.1 (by omega)).2.2.2 (by omega) (by omega), ((h.u (13 + 10 * p + 5)).2.1 (by omega)).2.2.2 (by omega) (by omega), ((h.u (13 + 10 * p + 6)).2.1 (by omega)).2.2.2 (by omega) (by omega)⟩
theorem DI.jo {K : Nat} {N : GV} (h : DI K N) {j : Nat} (hj : j < 16) : N 22 0 (93 + 3 * j) ≤ 1 ∧ N 22 0 (93 + 3 * j + 1) ≤ K ∧ N 22 0 (93 + 3 * j + 2) ≤ if j % 2 = 0 then 6 else 2 :=
  ⟨((h.u (93 + 3 * j)).2.2.1 (by omega)).1 (by omega), ((h.u (93 + 3 * j + 1)).2.2.1 (by omega)).2.1 (by omega), by
    have h2 := (h.u (93 + 3 * j + 2)).2.2.1 (by omega)
    split
    · exact h2.2.2.1 (by omega)
    · exact h2.2.2.2 (by omega)⟩
theorem DI.fr {K : Nat} {N : GV} (h : DI K N) {k : Nat} (hk : k < 12) : N 22 0 (141 + k) ≤ 999 := (h.u (141 + k)).2.2.2.1 (by omega)
theorem DI.ou {K : Nat} {N : GV} (h : DI K N) {k : Nat} (hk : k < 17) : N 22 0 (153 + 3 * k) ≤ K + 999 ∧ N 22 0 (153 + 3 * k + 1) ≤ 99 ∧ N 22 0 (153 + 3 * k + 2) ≤ 7 :=
  ⟨((h.u (153 + 3 * k)).2.2.2.2 (by omega)).1 (by omega), ((h.u (153 + 3 * k + 1)).2.2.2.2 (by omega)).2.1 (by omega), ((h.u (153 + 3 * k + 2)).2.2.2.2 (by omega)).2.2 (by omega)⟩
theorem DI.wo {K : Nat} {N : GV} (h : DI K N) : WOk (N 22 0) := fun _ hj => (h.jo hj).2.2
theorem DI.lt {K : Nat} {N : GV} (h : DI K N) : Lt31 (N 22 0) := fun j hj => by
  have hK := h.hK
  rcases hj with q | q | q
  · have := h.S j (by omega); unfold b0 at this; omega
  · have := (h.u j).2.1 (by omega); unfold b1 at this; omega
  · by_cases q1 : j < 141
    · have := (h.u j).2.2.1 (by omega); unfold b2 at this; omega
    · by_cases q2 : j < 153
      · have := (h.u j).2.2.2.1 (by omega); omega
      · have := (h.u j).2.2.2.2 (by omega); unfold b4 at this; omega
theorem DI.up {K : Nat} {N : GV} {s v : Nat} (h : DI K N) (hb : bd K s v) (h2 : ∀ p, p < 8 → s = 13 + 10 * p + 2 → v ≤ 4 * N 22 0 (13 + 10 * p + 1)) (h1 : ∀ p, p < 8 → s = 13 + 10 * p + 1 → N 22 0 (13 + 10 * p + 2) ≤ 4 * v) : DI K (up3 N 22 0 s v) := by
  refine ⟨h.hK, fun j => ?_, fun p hp => ?_⟩
  · by_cases q : j = s
    · subst q; rw [up3_self]; exact hb
    · rw [up3_s _ _ q]; exact h.u j
  · by_cases q : 13 + 10 * p + 2 = s
    · rw [up3_s _ _ (show ¬ 13 + 10 * p + 1 = s by omega), ← q, up3_self]; exact h2 p hp q.symm
    · rw [up3_s _ _ q]
      by_cases q' : 13 + 10 * p + 1 = s
      · rw [← q', up3_self]; exact h1 p hp q'.symm
      · rw [up3_s _ _ q']; exact h.l p hp
/-- a slot that is neither a filter nor what it let through -/
theorem DI.up' {K : Nat} {N : GV} {s v : Nat} (h : DI K N) (hb : bd K s v) (hs : 13 ≤ s → s < 93 → ¬ (s - 13) % 10 = 1 ∧ ¬ (s - 13) % 10 = 2) : DI K (up3 N 22 0 s v) :=
  h.up hb (fun p hp q => by omega) fun p hp q => by omega
theorem DI.k {K : Nat} {N : GV} {k i s v : Nat} (h : DI K N) (hk : ¬ 22 = k) : DI K (up3 N k i s v) := ⟨h.hK, fun j => by rw [up3_k _ _ hk]; exact h.u j, fun p hp => by rw [up3_k _ _ hk, up3_k _ _ hk]; exact h.l p hp⟩
theorem DI.ex {K : Nat} {N N' : GV} (h : DI K N) (e : N' 22 = N 22) : DI K N' := ⟨h.hK, fun j => by rw [e]; exact h.u j, fun p hp => by rw [e]; exact h.l p hp⟩
theorem bd_0 {K s v : Nat} (h : 93 ≤ s ∧ s < 141) (hv : v = 0) : bd K s v := bd_J h (by unfold b2; omega)
theorem DI.en {K : Nat} {N : GV} {j : Nat} (hj : j < 16) (h : DI K N) : DI K (endN N j) :=
  ((h.up' (bd_0 (by omega) rfl) (by omega)).up' (bd_0 (by omega) rfl) (by omega)).up' (bd_0 (by omega) rfl) (by omega)
theorem DI.fi {K : Nat} {N : GV} {j : Nat} (hj : j < 16) (h : DI K N) : DI K (finN N j) := by
  unfold finN
  split
  · exact (h.up' (bd_F (by omega) (by unfold b1; omega)) (by omega)).en hj
  · exact ((h.up (bd_F (by omega) (by unfold b1; omega)) (fun _ _ _ => Nat.zero_le _) (fun _ _ _ => by omega)).up' (bd_F (by omega) (by unfold b1; omega)) (by omega)).en hj
theorem DI.re {K : Nat} {N : GV} {j : Nat} (hj : j < 16) (h : DI K N) : DI K (repN N j) := by
  have h5 := h.h5
  unfold repN
  exact ((h.up' (bd_J (by omega) (by unfold b2; omega)) (by omega)).up' (bd_J (by omega) (by unfold b2; omega)) (by omega)).up' (bd_J (by omega) (by unfold b2; omega)) (by omega)
theorem DI.fz {K : Nat} {N : GV} {p : Nat} (hp : p < 8) (h : DI K N) : DI K (frzN N p) := by
  unfold frzN
  split
  · exact ((h.up' (bd_F (by omega) (by unfold b1; omega)) (by omega)).up' (bd_F (by omega) (by unfold b1; omega)) (by omega)).re (by omega)
  · exact h
theorem DI.fzs {K : Nat} {N : GV} (h : DI K N) : ∀ k, k ≤ 8 → DI K (itN frzN k N)
  | 0, _ => h
  | k + 1, hk => (DI.fzs h k (by omega)).fz (by omega)
theorem DI.wr {f : Bool} {K : Nat} {N : GV} {l j : Nat} (hj : j < 16) (h : DI K N) : DI K (wrk1 f N l j) := by
  have q1 := (wrkH_le (f := f) (N := N) (l := l) (j := j)).1
  have q3 := h.wo j hj
  have hM : ∀ k, k ≤ ndJ (N 22 0) j → DI K (wrkM N k j) := fun k hk => by
    have q : j % 2 = 0 ∧ N 22 0 (93 + 3 * j + 2) + k ≤ 6 ∨ j % 2 = 1 ∧ N 22 0 (93 + 3 * j + 2) + k ≤ 2 := by
      unfold ndJ at hk
      by_cases e : j % 2 = 0
      · rw [if_pos e] at hk q3; omega
      · rw [if_neg e] at hk q3; omega
    exact (((h.k (by decide)).up' (bd_S (by omega) (by unfold b0; omega)) (by omega)).up' (bd_S (by omega) (by unfold b0; omega)) (by omega)).up' (bd_J (by omega) (by unfold b2; omega)) (by omega)
  unfold wrk1
  split
  · exact (hM _ q1).fi hj
  · exact hM _ q1
theorem DI.wrs {f : Bool} {K : Nat} : ∀ {n : Nat} {N : GV} {l : Nat}, DI K N → DI K (wrkN f n N l)
  | 0, _, _, h => h
  | n + 1, N, l, h => by
    unfold wrkN
    split
    · exact h
    · next j e => exact DI.wrs (h.wr (nxtJ_lt e))
theorem DI.ws {f : Bool} {K : Nat} {N : GV} (h : DI K N) : DI K (works f N) := DI.wrs (h.ex opn_22)
theorem DI.gv {K : Nat} {N : GV} {p i : Nat} (hp : p < 8) (h : DI K N) (hi : i ≤ 4 * N 22 0 (13 + 10 * p + 1) - N 22 0 (13 + 10 * p + 2)) : DI K (givN N p i) := by
  have hl := h.l p hp
  have hf := h.fo hp
  have e1 : ∀ v, up3 N 26 0 p v 22 0 (13 + 10 * p + 1) = N 22 0 (13 + 10 * p + 1) := fun v => up3_k _ _ (by decide)
  have h1 : DI K (up3 N 26 0 p (N 26 0 p - i)) := h.k (by decide)
  have h2 : DI K (up3 (up3 N 26 0 p (N 26 0 p - i)) 22 0 (13 + 10 * p + 2) (N 22 0 (13 + 10 * p + 2) + i)) := h1.up (bd_F (by omega) (by unfold b1; omega)) (fun p' _ q => by
    have e : p' = p := by omega
    subst e
    rw [e1]
    omega) (fun _ _ _ => by omega)
  have h3 : DI K (up3 (up3 (up3 (up3 N 26 0 p (N 26 0 p - i)) 22 0 (13 + 10 * p + 2) (N 22 0 (13 + 10 * p + 2) + i)) 22 0 (13 + 10 * p + 7) (N 22 0 (13 + 10 * p + 7) + i)) 22 0 12 (N 22 0 12 + i)) := (h2.up' (bd_F (by omega) (by unfold b1; omega)) (by omega)).up' (bd_S (by omega) (by unfold b0; omega)) (by omega)
  unfold givN
  split
  · exact h3.re (by omega)
  · exact h3
/-- one fountain of those an outing goes to -/
def drk1 (g : Nat) (q : GV × Nat) : GV × Nat :=
  match nrN (q.1 28 0) g 8 with
  | none => q
  | some p => if clo (q.1 22 0) p = 0 ∧ apN p g < 3 then (givN (up3 q.1 28 0 p 1) p (givA q.1 p q.2), q.2 - givA q.1 p q.2) else (up3 q.1 28 0 p 1, q.2)
def drkI (g : Nat) : Nat → GV × Nat → GV × Nat
  | 0, q => q
  | n + 1, q => drk1 g (drkI g n q)
def drkN (N : GV) (c g : Nat) : GV :=
  let q := drkI g 8 (rowTo N 28 0 8 (fun _ => 0), c * N 22 0 2)
  up3 (up3 q.1 22 0 8 (q.1 22 0 8 + (q.2 + q.1 22 0 2 - 1) / q.1 22 0 2)) 22 0 9 (q.1 22 0 9 + c)
/-- what holds while water is given -/
def WI (K : Nat) (N : GV) : Prop := DI K N ∧ (∀ p, p < 8 → N 26 0 p < 2 ^ 28) ∧ (∀ p, p < 8 → N 28 0 p ≤ 1)
theorem rep_k {N : GV} {j k i s : Nat} (h : ¬ k = 22) : repN N j k i s = N k i s := by
  unfold repN
  rw [up3_k _ _ h, up3_k _ _ h, up3_k _ _ h]
theorem giv_26 {N : GV} {p i q : Nat} : givN N p i 26 0 q = if q = p then N 26 0 p - i else N 26 0 q := by
  have : givN N p i 26 0 q = up3 N 26 0 p (N 26 0 p - i) 26 0 q := by
    unfold givN
    split
    · rw [rep_k (by decide), up3_k _ _ (by decide), up3_k _ _ (by decide), up3_k _ _ (by decide)]
    · show up3 (up3 (up3 _ 22 0 _ _) 22 0 _ _) 22 0 12 _ 26 0 q = _
      rw [up3_k _ _ (by decide), up3_k _ _ (by decide), up3_k _ _ (by decide)]
  rw [this]
  by_cases h : q = p
  · subst h; rw [up3_self, if_pos rfl]
  · rw [up3_s _ _ h, if_neg h]
theorem giv_k {N : GV} {p i k a s : Nat} (h : ¬ k = 22) (h' : ¬ k = 26) : givN N p i k a s = N k a s := by
  unfold givN
  split
  · rw [rep_k h, up3_k _ _ h, up3_k _ _ h, up3_k _ _ h, up3_k _ _ h']
  · show up3 (up3 (up3 _ 22 0 _ _) 22 0 _ _) 22 0 12 _ k a s = _
    rw [up3_k _ _ h, up3_k _ _ h, up3_k _ _ h, up3_k _ _ h']
theorem giv_up28 {N : GV} {p i s v : Nat} : givA (up3 N 28 0 s v) p i = givA N p i := by
  unfold givA
  rw [up3_k _ _ (by decide), up3_k _ _ (by decide), up3_k _ _ (by decide)]
theorem up28 {N : GV} {s v p : Nat} : up3 N 28 0 s v 28 0 p = if p = s then v else N 28 0 p := by
  by_cases h : p = s
  · subst h; rw [up3_self, if_pos rfl]
  · rw [up3_s _ _ h, if_neg h]
theorem givA_le {N : GV} {p w : Nat} : givA N p w ≤ w ∧ givA N p w ≤ N 26 0 p ∧ givA N p w ≤ 4 * N 22 0 (13 + 10 * p + 1) - N 22 0 (13 + 10 * p + 2) := by unfold givA; omega
theorem WI.giv {K : Nat} {N : GV} {p w : Nat} (hp : p < 8) (h : WI K N) : WI K (givN N p (givA N p w)) := by
  refine ⟨h.1.gv hp givA_le.2.2, fun q hq => ?_, fun q hq => ?_⟩
  · rw [giv_26]
    have := h.2.1 q hq
    have := h.2.1 p hp
    split <;> omega
  · rw [giv_k (by decide) (by decide)]; exact h.2.2 q hq
theorem WI.as {K : Nat} {N : GV} {p : Nat} (h : WI K N) : WI K (up3 N 28 0 p 1) :=
  ⟨h.1.k (by decide), fun q hq => by rw [up3_k _ _ (by decide)]; exact h.2.1 q hq, fun q hq => by
    rw [up28]
    have := h.2.2 q hq
    split <;> omega⟩
theorem drk1_w {K g : Nat} {q : GV × Nat} (h : WI K q.1) : WI K (drk1 g q).1 ∧ (drk1 g q).2 ≤ q.2 := by
  unfold drk1
  split
  · exact ⟨h, Nat.le_refl _⟩
  · next p e =>
    have hp := (nrN_lt e).1
    split
    · refine ⟨?_, Nat.sub_le _ _⟩
      have := (WI.as (p := p) h).giv (w := q.2) hp
      rw [giv_up28] at this
      exact this
    · exact ⟨h.as, Nat.le_refl _⟩
theorem drkI_w {K g : Nat} {q : GV × Nat} (h : WI K q.1) : ∀ n, WI K (drkI g n q).1 ∧ (drkI g n q).2 ≤ q.2
  | 0 => ⟨h, Nat.le_refl _⟩
  | n + 1 => by
    have h1 := drkI_w h n (g := g)
    have h2 := drk1_w (g := g) h1.1
    exact ⟨h2.1, Nat.le_trans h2.2 h1.2⟩
/-- those not asked -/
def unas (A : Nat → Nat) : Nat := sumN 8 fun p => bN (decide (A p = 0))
theorem sumN_p {f : Nat → Nat} : ∀ {n : Nat}, 0 < sumN n f → ∃ p, p < n ∧ 0 < f p := by
  intro n
  induction n with
  | zero => intro h; exact absurd h (Nat.lt_irrefl _)
  | succ n ih =>
    intro h
    simp only [sumN] at h
    by_cases q : 0 < f n
    · exact ⟨n, by omega, q⟩
    · obtain ⟨p, h1, h2⟩ := ih (by omega)
      exact ⟨p, by omega, h2⟩
theorem unas_p {A : Nat → Nat} (h : 0 < unas A) : ∃ p, p < 8 ∧ A p = 0 := by
  obtain ⟨p, h1, h2⟩ := sumN_p h
  refine ⟨p, h1, ?_⟩
  by_cases q : A p = 0
  · exact q
  · simp [q, bN] at h2
theorem drk1_28 {g p : Nat} {q : GV × Nat} (e : nrN (q.1 28 0) g 8 = some p) : ∀ i, (drk1 g q).1 28 0 i = if i = p then 1 else q.1 28 0 i := fun i => by
  unfold drk1
  rw [e]
  show (if clo (q.1 22 0) p = 0 ∧ apN p g < 3 then (givN (up3 q.1 28 0 p 1) p (givA q.1 p q.2), q.2 - givA q.1 p q.2) else (up3 q.1 28 0 p 1, q.2)).1 28 0 i = _
  split
  · show givN (up3 q.1 28 0 p 1) p (givA q.1 p q.2) 28 0 i = _
    rw [giv_k (by decide) (by decide)]; exact up28
  · exact up28
theorem unas_1 {g : Nat} {q : GV × Nat} (h : 0 < unas (q.1 28 0)) : ∃ p, nrN (q.1 28 0) g 8 = some p ∧ p < 8 ∧ unas ((drk1 g q).1 28 0) + 1 = unas (q.1 28 0) := by
  obtain ⟨p, e⟩ := nrN_some (g := g) (unas_p h)
  have hp := nrN_lt e
  refine ⟨p, e, hp.1, sumN_1 (a := p) (fun j hj => ?_) ?_ hp.1⟩
  · show bN (decide (q.1 28 0 j = 0)) = bN (decide ((drk1 g q).1 28 0 j = 0))
    rw [drk1_28 e, if_neg hj]
  · show bN (decide ((drk1 g q).1 28 0 p = 0)) + 1 = bN (decide (q.1 28 0 p = 0))
    rw [drk1_28 e, if_pos rfl, hp.2]; rfl
theorem unas_n {g : Nat} {q : GV × Nat} (h : unas (q.1 28 0) = 8) : ∀ n, n ≤ 8 → unas ((drkI g n q).1 28 0) = 8 - n
  | 0, _ => h
  | n + 1, hn => by
    have h1 := unas_n h n (by omega) (g := g)
    obtain ⟨p, _, _, h2⟩ := unas_1 (g := g) (q := drkI g n q) (by omega)
    show unas ((drk1 g (drkI g n q)).1 28 0) = _
    omega
theorem a117 {X : XS} {N : GV} {R : GR} {L : GL} {Z : Nat × Nat × Bool} (hR : Rok R) {K : Nat} {w g c p k : Nat} {l5 : AV} (h : WI K N) (hw : w < 2 ^ 28) (hg : g < 8) (hk : k < 8) (e : nrN (N 28 0) g 8 = some p) (hp : p < 8) : ex X 117 36 [vR 7 0, vI (nI c), vI (nI g), vI (nI w), vI (nI k), l5] [] (gg (nW N) R L Z) = ex X 117 36 [vR 7 0, vI (nI c), vI (nI g), vI (nI (drk1 g (N, w)).2), vI (nI (k + 1)), vI (nI p)] [] (gg (nW ((drk1 g (N, w)).1)) R L Z) := by
  have h1 := t116 (X := X) (N := N) (L := L) (Z := Z) hR h.2.2 (show g < 16 by omega)
  rw [e] at h1
  have hW := h.as (p := p)
  generalize hM : up3 N 28 0 p 1 = M at hW
  have eg : givA N p w = givA M p w := by rw [← hM]; exact giv_up28.symm
  have ec : clo (N 22 0) p = clo (M 22 0) p := by rw [← hM, show (up3 N 28 0 p 1) 22 = N 22 from by funext i s; exact up3_k _ _ (by decide)]
  have h2 := t102 (X := X) (N := M) (L := L) (Z := Z) hR hW.1.h6 hW.1.lt hp
  have h3 := t115 (X := X) (N := M) (R := R) (L := L) (Z := Z) (a := p) (b := g) (by omega) (by omega)
  have h4 := t114 (X := X) (N := M) (L := L) (Z := Z) hR hW.1.lt hp hw (hW.2.1 p hp) (hW.1.l p hp)
  have hle := (givA_le (N := M) (p := p) (w := w)).1
  have hd : drk1 g (N, w) = if clo (M 22 0) p = 0 ∧ apN p g < 3 then (givN M p (givA M p w), w - givA M p w) else (M, w) := by
    unfold drk1
    rw [e]
    show (if clo (N 22 0) p = 0 ∧ apN p g < 3 then (givN (up3 N 28 0 p 1) p (givA N p w), w - givA N p w) else (up3 N 28 0 p 1, w)) = _
    rw [eg, ec, hM]
  have m := apN_lt (a := p) (b := g) (by omega) (by omega)
  have hc5 : clo (M 22 0) p < 2 ^ 28 := by unfold clo cloB; split; omega; split; omega; split; omega; split; omega; split <;> omega
  rw [hd, x117_36]
  by_cases q1 : clo (M 22 0) p = 0
  · by_cases q2 : apN p g < 3
    · simp (disch := first | assumption | omega | exact nI_or0 | exact nI_or1) only [x117_38, x117_40, x117_43, x117_44, x117_45, x117_48, x117_50, x117_51, x117_54, x117_56, x117_57, x117_58, x117_59, x117_60, x117_62, x117_65, x117_68, x117_70, x117_71, x117_74, x117_75, x117_78, x117_79, x117_81, x117_82, x117_85, x117_88, x117_89, x117_90, x117_91, x117_94, reduceIte, Nat.reduceLT, nW_ap, nW_up, nI_add, pk_mul, nI_ltI, nI_eq, if_true, if_false, kont_r, kont_v, Nat.reduceAdd, Nat.reduceMul, Nat.not_lt, not_true_eq_false, not_false_eq_true, Nat.one_ne_zero, Nat.reduceEqDiff, Nat.lt_irrefl, reduceCtorEq, nI_or0, nI_or1, hk, h1, oI, hM, h2, h3, h4, q1, q2, and_self, pk_sub]
    · simp (disch := first | assumption | omega | exact nI_or0 | exact nI_or1) only [x117_38, x117_40, x117_43, x117_44, x117_45, x117_48, x117_50, x117_51, x117_54, x117_56, x117_57, x117_58, x117_59, x117_60, x117_62, x117_65, x117_68, x117_70, x117_71, x117_74, x117_75, x117_78, x117_79, x117_81, x117_82, x117_85, x117_88, x117_89, x117_90, x117_91, x117_94, reduceIte, Nat.reduceLT, nW_ap, nW_up, nI_add, pk_mul, nI_ltI, nI_eq, if_true, if_false, kont_r, kont_v, Nat.reduceAdd, Nat.reduceMul, Nat.not_lt, not_true_eq_false, not_false_eq_true, Nat.one_ne_zero, Nat.reduceEqDiff, Nat.lt_irrefl, reduceCtorEq, nI_or0, nI_or1, hk, h1, oI, hM, h2, h3, q1, q2, and_false, pk_sub, Nat.zero_le, Nat.sub_zero]
  · simp (disch := first | assumption | omega | exact nI_or0 | exact nI_or1) only [x117_38, x117_40, x117_43, x117_44, x117_45, x117_48, x117_50, x117_51, x117_54, x117_56, x117_57, x117_58, x117_59, x117_60, x117_62, x117_65, x117_68, x117_70, x117_71, x117_74, x117_75, x117_78, x117_79, x117_81, x117_82, x117_85, x117_88, x117_89, x117_90, x117_91, x117_94, reduceIte, Nat.reduceLT, nW_ap, nW_up, nI_add, pk_mul, nI_ltI, nI_eq, if_true, if_false, kont_r, kont_v, Nat.reduceAdd, Nat.reduceMul, Nat.not_lt, not_true_eq_false, not_false_eq_true, Nat.one_ne_zero, Nat.reduceEqDiff, Nat.lt_irrefl, reduceCtorEq, nI_or0, nI_or1, hk, h1, oI, hM, h2, h3, q1, false_and, pk_sub, Nat.zero_le, Nat.sub_zero]
theorem l117 {X : XS} {R : GR} {L : GL} {Z : Nat × Nat × Bool} (hR : Rok R) {K : Nat} {c g : Nat} {q : GV × Nat} (h : WI K q.1) (hw : q.2 < 2 ^ 28) (hg : g < 8) (hu : unas (q.1 28 0) = 8) {r : Option RS} (hr : ∀ l5 : AV, ex X 117 36 [vR 7 0, vI (nI c), vI (nI g), vI (nI (drkI g 8 q).2), vI (nI 8), l5] [] (gg (nW ((drkI g 8 q).1)) R L Z) = r) : ∀ k, k ≤ 8 → ∀ l5 : AV, ex X 117 36 [vR 7 0, vI (nI c), vI (nI g), vI (nI (drkI g k q).2), vI (nI k), l5] [] (gg (nW ((drkI g k q).1)) R L Z) = r := by
  refine down _ hr ?_
  intro k hk ih l5
  have hW := drkI_w (g := g) h k
  obtain ⟨p, e, hp, _⟩ := unas_1 (g := g) (q := drkI g k q) (by rw [unas_n hu k (by omega)]; omega)
  have h1 := a117 (X := X) (L := L) (Z := Z) (c := c) (l5 := l5) hR hW.1 (w := (drkI g k q).2) (by omega) hg hk e hp
  rw [h1]
  exact ih _
theorem t117 {X : XS} {N : GV} {R : GR} {L : GL} {Z : Nat × Nat × Bool} (hR : Rok R) {K : Nat} {g c : Nat} (h : DI K N) (hf : ∀ p, p < 8 → N 26 0 p < 2 ^ 28) (hc : c ≤ 1000) (hg : g < 8) : exec X 117 [vR 7 0, vI (nI c), vI (nI g)] (gg (nW N) R L Z) = some (.inl none, (gg (nW (drkN N c g)) R L Z)) := by
  have h2 := h.h2
  have hcw : c * N 22 0 2 ≤ 9000 := Nat.le_trans (Nat.mul_le_mul hc h2.2) (by decide)
  have key : ∀ k, k ≤ 8 → ex X 117 12 [vR 7 0, vI (nI c), vI (nI g), vI (nI (c * N 22 0 2)), vI (nI k), vU] [] (gg (nW (rowTo N 28 0 k fun _ => 0)) R L Z) = ex X 117 33 [vR 7 0, vI (nI c), vI (nI g), vI (nI (c * N 22 0 2)), vI (nI 8), vU] [] (gg (nW (rowTo N 28 0 8 fun _ => 0)) R L Z) := by
    refine down _ ?_ ?_
    · rw [x117_12]
      simp (disch := first | assumption | omega | exact nI_or0 | exact nI_or1) only [x117_14, x117_16, x117_19, x117_20, x117_23, x117_25, x117_26, x117_27, x117_30, reduceIte, Nat.reduceLT, nW_ap, nW_up, nI_add, pk_mul, nI_ltI, nI_eq, if_true, if_false, kont_r, kont_v, Nat.reduceAdd, Nat.reduceMul, Nat.not_lt, not_true_eq_false, not_false_eq_true, Nat.one_ne_zero, Nat.reduceEqDiff, Nat.lt_irrefl, reduceCtorEq, nI_or0, nI_or1]
    · intro k hk ih
      rw [x117_12]
      simp (disch := first | assumption | omega | exact nI_or0 | exact nI_or1) only [x117_14, x117_16, x117_19, x117_20, x117_23, x117_25, x117_26, x117_27, x117_30, reduceIte, Nat.reduceLT, nW_ap, nW_up, nI_add, pk_mul, nI_ltI, nI_eq, if_true, if_false, kont_r, kont_v, Nat.reduceAdd, Nat.reduceMul, Nat.not_lt, not_true_eq_false, not_false_eq_true, Nat.one_ne_zero, Nat.reduceEqDiff, Nat.lt_irrefl, reduceCtorEq, nI_or0, nI_or1, hk, rowTo_s]
      exact ih
  have h0 := key 0 (Nat.zero_le _)
  rw [rowTo_0] at h0
  have e22 : (rowTo N 28 0 8 fun _ => 0) 22 = N 22 := by funext i s; exact rowTo_k (by decide)
  have hW : WI K (rowTo N 28 0 8 fun _ => 0) := ⟨h.ex e22, fun p hp => by rw [rowTo_k (by decide)]; exact hf p hp, fun p hp => by rw [rowTo_in hp]; omega⟩
  have hu : unas ((rowTo N 28 0 8 fun _ => 0) 28 0) = 8 := by
    unfold unas
    rw [sumN_c (g := fun _ => 1) fun j hj => by rw [rowTo_in hj]; rfl]
    rfl
  have h8 := drkI_w (g := g) (q := (rowTo N 28 0 8 (fun _ => 0), c * N 22 0 2)) hW 8
  generalize hq : drkI g 8 (rowTo N 28 0 8 (fun _ => 0), c * N 22 0 2) = q at h8
  have hl := l117 (X := X) (L := L) (Z := Z) (c := c) hR (q := (rowTo N 28 0 8 (fun _ => 0), c * N 22 0 2)) (r := some (.inl none, (gg (nW (drkN N c g)) R L Z))) hW (by show c * N 22 0 2 < _; omega) hg hu (by
    intro l5
    rw [hq, x117_36]
    have b2 := h8.1.1.h2
    have b3 : q.2 ≤ c * N 22 0 2 := h8.2
    have b4 : ¬ nI (q.1 22 0 2) = 0 := nI_ne0 (by omega) (by omega)
    have g1 : ¬ 2 = 8 := by omega
    have g2 : ¬ 9 = 8 := by omega
    unfold drkN
    simp (disch := first | assumption | omega | exact nI_or0 | exact nI_or1) only [x117_38, x117_40, x117_97, x117_98, x117_101, x117_103, x117_104, x117_105, x117_106, x117_107, x117_110, x117_111, x117_112, x117_113, x117_114, x117_115, x117_116, x117_119, x117_120, x117_121, x117_122, x117_123, x117_124, x117_125, x117_128, x117_130, x117_131, x117_132, x117_133, x117_134, x117_135, reduceIte, Nat.reduceLT, nW_ap, nW_up, nI_add, pk_mul, nI_ltI, nI_eq, if_true, if_false, kont_r, kont_v, Nat.reduceAdd, Nat.reduceMul, Nat.not_lt, not_true_eq_false, not_false_eq_true, Nat.one_ne_zero, Nat.reduceEqDiff, Nat.lt_irrefl, reduceCtorEq, nI_or0, nI_or1, pk_sub, pk_div, up3_s _ _ g1, up3_s _ _ g2, hq]) 0 (Nat.zero_le _) vU
  simp (disch := first | assumption | omega | exact nI_or0 | exact nI_or1) only [in117, x117_0, x117_1, x117_2, x117_5, x117_6, x117_7, x117_8, x117_9, x117_10, reduceIte, Nat.reduceLT, nW_ap, nW_up, nI_add, pk_mul, nI_ltI, nI_eq, if_true, if_false, kont_r, kont_v, Nat.reduceAdd, Nat.reduceMul, Nat.not_lt, not_true_eq_false, not_false_eq_true, Nat.one_ne_zero, Nat.reduceEqDiff, Nat.lt_irrefl, reduceCtorEq, nI_or0, nI_or1, h0, x117_33, x117_34]
  exact hl
