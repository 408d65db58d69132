/-! what a state keeps; the reference's outings -/
/-- the bound of a slot -/
def b0 (K j v : Nat) : Prop := (j = 0 → v ≤ 20) ∧ (j = 1 → v ≤ 2) ∧ (j = 2 → 1 ≤ v ∧ v ≤ 9) ∧ (j = 3 → v ≤ 90) ∧ (j = 4 → v ≤ 50) ∧ (j = 5 → v ≤ K) ∧ (j = 6 → v ≤ 6) ∧ (j = 7 → v ≤ 17)
def b1 (j v : Nat) : Prop := ((j - 13) % 10 = 0 → v ≤ 90) ∧ ((j - 13) % 10 = 1 → v ≤ 900) ∧ ((j - 13) % 10 = 2 → v ≤ 3600) ∧ (3 ≤ (j - 13) % 10 → (j - 13) % 10 < 7 → v ≤ 1)
def b2 (K j v : Nat) : Prop := ((j - 93) % 3 = 0 → v ≤ 1) ∧ ((j - 93) % 3 = 1 → v ≤ K) ∧ ((j - 93) % 3 = 2 → v ≤ 6) ∧ ((j - 93) % 6 = 5 → v ≤ 2)
def b4 (K j v : Nat) : Prop := ((j - 153) % 3 = 0 → v ≤ K + 999) ∧ ((j - 153) % 3 = 1 → v ≤ 99) ∧ ((j - 153) % 3 = 2 → v ≤ 7)
def bd (K j v : Nat) : Prop := (j < 13 → b0 K j v) ∧ (13 ≤ j ∧ j < 93 → b1 j v) ∧ (93 ≤ j ∧ j < 141 → b2 K j v) ∧ (141 ≤ j ∧ j < 153 → v ≤ 999) ∧ (153 ≤ j ∧ j < 204 → b4 K j v)
theorem bd_S {K j v : Nat} (h : j < 13) (b : b0 K j v) : bd K j v := ⟨fun _ => b, fun q => by omega, fun q => by omega, fun q => by omega, fun q => by omega⟩
theorem bd_F {K j v : Nat} (h : 13 ≤ j ∧ j < 93) (b : b1 j v) : bd K j v := ⟨fun q => by omega, fun _ => b, fun q => by omega, fun q => by omega, fun q => by omega⟩
theorem bd_J {K j v : Nat} (h : 93 ≤ j ∧ j < 141) (b : b2 K j v) : bd K j v := ⟨fun q => by omega, fun q => by omega, fun _ => b, fun q => by omega, fun q => by omega⟩
theorem bd_W {K j v : Nat} (h : 141 ≤ j ∧ j < 153) (b : v ≤ 999) : bd K j v := ⟨fun q => by omega, fun q => by omega, fun q => by omega, fun _ => b, fun q => by omega⟩
theorem bd_O {K j v : Nat} (h : 153 ≤ j ∧ j < 204) (b : b4 K j v) : bd K j v := ⟨fun q => by omega, fun q => by omega, fun q => by omega, fun q => by omega, fun _ => b⟩
def DI (K : Nat) (N : GV) : Prop := K ≤ 100000 ∧ (∀ j, bd K j (N 22 0 j)) ∧ ∀ p, p < 8 → N 22 0 (13 + 10 * p + 2) ≤ 4 * N 22 0 (13 + 10 * p + 1)
theorem DI.hK {K : Nat} {N : GV} (h : DI K N) : K ≤ 100000 := h.1
theorem DI.u {K : Nat} {N : GV} (h : DI K N) : ∀ j, bd K j (N 22 0 j) := h.2.1
theorem DI.l {K : Nat} {N : GV} (h : DI K N) : ∀ p, p < 8 → N 22 0 (13 + 10 * p + 2) ≤ 4 * N 22 0 (13 + 10 * p + 1) := h.2.2
theorem DI.S {K : Nat} {N : GV} (h : DI K N) : ∀ j, j < 13 → b0 K j (N 22 0 j) := fun j hj => (h.u j).1 hj
theorem DI.h0 {K : Nat} {N : GV} (h : DI K N) : N 22 0 0 ≤ 20 := (h.S 0 (by decide)).1 rfl
theorem DI.h1 {K : Nat} {N : GV} (h : DI K N) : N 22 0 1 ≤ 2 := (h.S 1 (by decide)).2.1 rfl
theorem DI.h2 {K : Nat} {N : GV} (h : DI K N) : 1 ≤ N 22 0 2 ∧ N 22 0 2 ≤ 9 := (h.S 2 (by decide)).2.2.1 rfl
theorem DI.h3 {K : Nat} {N : GV} (h : DI K N) : N 22 0 3 ≤ 90 := (h.S 3 (by decide)).2.2.2.1 rfl
theorem DI.h4 {K : Nat} {N : GV} (h : DI K N) : N 22 0 4 ≤ 50 := (h.S 4 (by decide)).2.2.2.2.1 rfl
theorem DI.h5 {K : Nat} {N : GV} (h : DI K N) : N 22 0 5 ≤ K := (h.S 5 (by decide)).2.2.2.2.2.1 rfl
theorem DI.h6 {K : Nat} {N : GV} (h : DI K N) : N 22 0 6 ≤ 6 := (h.S 6 (by decide)).2.2.2.2.2.2.1 rfl
theorem DI.h7 {K : Nat} {N : GV} (h : DI K N) : N 22 0 7 ≤ 17 := (h.S 7 (by decide)).2.2.2.2.2.2.2 rfl
theorem DI.fo {K : Nat} {N : GV} (h : DI K N) {p : Nat} (hp : p < 8) : N 22 0 (13 + 10 * p) ≤ 90 ∧ N 22 0 (13 + 10 * p + 1) ≤ 900 ∧ N 22 0 (13 + 10 * p + 2) ≤ 3600 ∧ N 22 0 (13 + 10 * p + 3) ≤ 1 ∧ N 22 0 (13 + 10 * p + 4) ≤ 1 ∧ N 22 0 (13 + 10 * p + 5) ≤ 1 ∧ N 22 0 (13 + 10 * p + 6) ≤ 1 :=
  ⟨((h.u (13 + 10 * p)).2.1 (by omega)).1 (by omega), ((h.u (13 + 10 * p + 1)).2.1 (by omega)).2.1 (by omega), ((h.u (13 + 10 * p + 2)).2.1 (by omega)).2.2.1 (by omega), ((h.u (13 + 10 * p + 3)).2.1 (by omega)).2.2.2 (by omega) (by omega), ((h.u (13 + 10 * p + 4)).2.1 (by omega)).2.2.2 (by omega) (by omega), ((h.u (13 + 10 * p + 5)).2.1 (by omega)).2.2.2 (by omega) (by omega), ((h.u (13 + 10 * p + 6)).2.1 (by omega)).2.2.2 (by omega) (by omega)⟩
theorem DI.jo {K : Nat} {N : GV} (h : DI K N) {j : Nat} (hj : j < 16) : N 22 0 (93 + 3 * j) ≤ 1 ∧ N 22 0 (93 + 3 * j + 1) ≤ K ∧ N 22 0 (93 + 3 * j + 2) ≤ if j % 2 = 0 then 6 else 2 :=
  ⟨((h.u (93 + 3 * j)).2.2.1 (by omega)).1 (by omega), ((h.u (93 + 3 * j + 1)).2.2.1 (by omega)).2.1 (by omega), by
    have h2 := (h.u (93 + 3 * j + 2)).2.2.1 (by omega)
    split
    · exact h2.2.2.1 (by omega)
    · exact h2.2.2.2 (by omega)⟩
theorem DI.fr {K : Nat} {N : GV} (h : DI K N) {k : Nat} (hk : k < 12) : N 22 0 (141 + k) ≤ 999 := (h.u (141 + k)).2.2.2.1 (by omega)
theorem DI.ou {K : Nat} {N : GV} (h : DI K N) {k : Nat} (hk : k < 17) : N 22 0 (153 + 3 * k) ≤ K + 999 ∧ N 22 0 (153 + 3 * k + 1) ≤ 99 ∧ N 22 0 (153 + 3 * k + 2) ≤ 7 :=
  ⟨((h.u (153 + 3 * k)).2.2.2.2 (by omega)).1 (by omega), ((h.u (153 + 3 * k + 1)).2.2.2.2 (by omega)).2.1 (by omega), ((h.u (153 + 3 * k + 2)).2.2.2.2 (by omega)).2.2 (by omega)⟩
theorem DI.wo {K : Nat} {N : GV} (h : DI K N) : WOk (N 22 0) := fun _ hj => (h.jo hj).2.2
theorem DI.lt {K : Nat} {N : GV} (h : DI K N) : Lt31 (N 22 0) := fun j hj => by
  have hK := h.hK
  rcases hj with q | q | q
  · have := h.S j (by omega); unfold b0 at this; omega
  · have := (h.u j).2.1 (by omega); unfold b1 at this; omega
  · by_cases q1 : j < 141
    · have := (h.u j).2.2.1 (by omega); unfold b2 at this; omega
    · by_cases q2 : j < 153
      · have := (h.u j).2.2.2.1 (by omega); omega
      · have := (h.u j).2.2.2.2 (by omega); unfold b4 at this; omega
theorem DI.up {K : Nat} {N : GV} {s v : Nat} (h : DI K N) (hb : bd K s v) (h2 : ∀ p, p < 8 → s = 13 + 10 * p + 2 → v ≤ 4 * N 22 0 (13 + 10 * p + 1)) (h1 : ∀ p, p < 8 → s = 13 + 10 * p + 1 → N 22 0 (13 + 10 * p + 2) ≤ 4 * v) : DI K (up3 N 22 0 s v) := by
  refine ⟨h.hK, fun j => ?_, fun p hp => ?_⟩
  · by_cases q : j = s
    · subst q; rw [up3_self]; exact hb
    · rw [up3_s _ _ q]; exact h.u j
  · by_cases q : 13 + 10 * p + 2 = s
    · rw [up3_s _ _ (show ¬ 13 + 10 * p + 1 = s by omega), ← q, up3_self]; exact h2 p hp q.symm
    · rw [up3_s _ _ q]
      by_cases q' : 13 + 10 * p + 1 = s
      · rw [← q', up3_self]; exact h1 p hp q'.symm
      · rw [up3_s _ _ q']; exact h.l p hp
/-- a slot that is neither a filter nor what it let through -/
theorem DI.up' {K : Nat} {N : GV} {s v : Nat} (h : DI K N) (hb : bd K s v) (hs : 13 ≤ s → s < 93 → ¬ (s - 13) % 10 = 1 ∧ ¬ (s - 13) % 10 = 2) : DI K (up3 N 22 0 s v) :=
  h.up hb (fun p hp q => by omega) fun p hp q => by omega
theorem DI.k {K : Nat} {N : GV} {k i s v : Nat} (h : DI K N) (hk : ¬ 22 = k) : DI K (up3 N k i s v) := ⟨h.hK, fun j => by rw [up3_k _ _ hk]; exact h.u j, fun p hp => by rw [up3_k _ _ hk, up3_k _ _ hk]; exact h.l p hp⟩
theorem DI.ex {K : Nat} {N N' : GV} (h : DI K N) (e : N' 22 = N 22) : DI K N' := ⟨h.hK, fun j => by rw [e]; exact h.u j, fun p hp => by rw [e]; exact h.l p hp⟩
theorem bd_0 {K s v : Nat} (h : 93 ≤ s ∧ s < 141) (hv : v = 0) : bd K s v := bd_J h (by unfold b2; omega)
theorem DI.en {K : Nat} {N : GV} {j : Nat} (hj : j < 16) (h : DI K N) : DI K (endN N j) :=
  ((h.up' (bd_0 (by omega) rfl) (by omega)).up' (bd_0 (by omega) rfl) (by omega)).up' (bd_0 (by omega) rfl) (by omega)
theorem DI.fi {K : Nat} {N : GV} {j : Nat} (hj : j < 16) (h : DI K N) : DI K (finN N j) := by
  unfold finN
  split
  · exact (h.up' (bd_F (by omega) (by unfold b1; omega)) (by omega)).en hj
  · exact ((h.up (bd_F (by omega) (by unfold b1; omega)) (fun _ _ _ => Nat.zero_le _) (fun _ _ _ => by omega)).up' (bd_F (by omega) (by unfold b1; omega)) (by omega)).en hj
theorem DI.re {K : Nat} {N : GV} {j : Nat} (hj : j < 16) (h : DI K N) : DI K (repN N j) := by
  have h5 := h.h5
  unfold repN
  exact ((h.up' (bd_J (by omega) (by unfold b2; omega)) (by omega)).up' (bd_J (by omega) (by unfold b2; omega)) (by omega)).up' (bd_J (by omega) (by unfold b2; omega)) (by omega)
theorem DI.fz {K : Nat} {N : GV} {p : Nat} (hp : p < 8) (h : DI K N) : DI K (frzN N p) := by
  unfold frzN
  split
  · exact ((h.up' (bd_F (by omega) (by unfold b1; omega)) (by omega)).up' (bd_F (by omega) (by unfold b1; omega)) (by omega)).re (by omega)
  · exact h
theorem DI.fzs {K : Nat} {N : GV} (h : DI K N) : ∀ k, k ≤ 8 → DI K (itN frzN k N)
  | 0, _ => h
  | k + 1, hk => (DI.fzs h k (by omega)).fz (by omega)
theorem DI.wr {f : Bool} {K : Nat} {N : GV} {l j : Nat} (hj : j < 16) (h : DI K N) : DI K (wrk1 f N l j) := by
  have q1 := (wrkH_le (f := f) (N := N) (l := l) (j := j)).1
  have q3 := h.wo j hj
  have hM : ∀ k, k ≤ ndJ (N 22 0) j → DI K (wrkM N k j) := fun k hk => by
    have q : j % 2 = 0 ∧ N 22 0 (93 + 3 * j + 2) + k ≤ 6 ∨ j % 2 = 1 ∧ N 22 0 (93 + 3 * j + 2) + k ≤ 2 := by
      unfold ndJ at hk
      by_cases e : j % 2 = 0
      · rw [if_pos e] at hk q3; omega
      · rw [if_neg e] at hk q3; omega
    exact (((h.k (by decide)).up' (bd_S (by omega) (by unfold b0; omega)) (by omega)).up' (bd_S (by omega) (by unfold b0; omega)) (by omega)).up' (bd_J (by omega) (by unfold b2; omega)) (by omega)
  unfold wrk1
  split
  · exact (hM _ q1).fi hj
  · exact hM _ q1
theorem DI.wrs {f : Bool} {K : Nat} : ∀ {n : Nat} {N : GV} {l : Nat}, DI K N → DI K (wrkN f n N l)
  | 0, _, _, h => h
  | n + 1, N, l, h => by
    unfold wrkN
    split
    · exact h
    · next j e => exact DI.wrs (h.wr (nxtJ_lt e))
theorem DI.ws {f : Bool} {K : Nat} {N : GV} (h : DI K N) : DI K (works f N) := DI.wrs (h.ex opn_22)
theorem DI.gv {K : Nat} {N : GV} {p i : Nat} (hp : p < 8) (h : DI K N) (hi : i ≤ 4 * N 22 0 (13 + 10 * p + 1) - N 22 0 (13 + 10 * p + 2)) : DI K (givN N p i) := by
  have hl := h.l p hp
  have hf := h.fo hp
  have e1 : ∀ v, up3 N 26 0 p v 22 0 (13 + 10 * p + 1) = N 22 0 (13 + 10 * p + 1) := fun v => up3_k _ _ (by decide)
  have h1 : DI K (up3 N 26 0 p (N 26 0 p - i)) := h.k (by decide)
  have h2 : DI K (up3 (up3 N 26 0 p (N 26 0 p - i)) 22 0 (13 + 10 * p + 2) (N 22 0 (13 + 10 * p + 2) + i)) := h1.up (bd_F (by omega) (by unfold b1; omega)) (fun p' _ q => by
    have e : p' = p := by omega
    subst e
    rw [e1]
    omega) (fun _ _ _ => by omega)
  have h3 : DI K (up3 (up3 (up3 (up3 N 26 0 p (N 26 0 p - i)) 22 0 (13 + 10 * p + 2) (N 22 0 (13 + 10 * p + 2) + i)) 22 0 (13 + 10 * p + 7) (N 22 0 (13 + 10 * p + 7) + i)) 22 0 12 (N 22 0 12 + i)) := (h2.up' (bd_F (by omega) (by unfold b1; omega)) (by omega)).up' (bd_S (by omega) (by unfold b0; omega)) (by omega)
  unfold givN
  split
  · exact h3.re (by omega)
  · exact h3
