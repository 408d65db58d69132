/-! the class's park stands for a state of the reference: fountains, jobs, counters -/
def RF (N : GV) (P : Nat) (V : GV) (p : Nat) : Prop := N 0 (8 * P + p) 2 = V 22 0 (13 + 10 * p + 6) ∧ (V 22 0 (13 + 10 * p + 6) = 1 → N 0 (8 * P + p) 3 = V 22 0 (13 + 10 * p + 3) ∧ N 0 (8 * P + p) 4 = V 22 0 (13 + 10 * p + 4) ∧ N 0 (8 * P + p) 5 = V 22 0 (13 + 10 * p) ∧ N 0 (8 * P + p) 6 = V 22 0 (13 + 10 * p + 1) ∧ N 0 (8 * P + p) 7 = V 22 0 (13 + 10 * p + 2) ∧ N 0 (8 * P + p) 8 = V 22 0 (13 + 10 * p + 7) ∧ N 0 (8 * P + p) 9 = V 22 0 (13 + 10 * p + 8) ∧ N 0 (8 * P + p) 10 = V 22 0 (13 + 10 * p + 9))
def RJ (N : GV) (P : Nat) (V : GV) (j : Nat) : Prop := N 2 (16 * P + j) 2 = V 22 0 (93 + 3 * j) ∧ (V 22 0 (93 + 3 * j) = 1 → N 2 (16 * P + j) 3 = V 22 0 (93 + 3 * j + 1) ∧ N 2 (16 * P + j) 4 = V 22 0 (93 + 3 * j + 2))
def RC (N : GV) (P : Nat) (V : GV) : Prop := N 5 P 7 = V 22 0 8 ∧ N 5 P 8 = V 22 0 9 ∧ N 5 P 9 = V 22 0 10 ∧ N 5 P 10 = V 22 0 11 ∧ N 5 P 11 = V 22 0 12
/-- further facts of a state: of a place, of a job -/
def PI (V : GV) (p : Nat) : Prop := V 22 0 (13 + 10 * p + 5) = V 22 0 (93 + 3 * (2 * p)) ∧ (V 22 0 (13 + 10 * p + 6) = 1 → 10 ≤ V 22 0 (13 + 10 * p + 1) ∧ (V 22 0 (93 + 3 * (2 * p + 1)) = 1 ↔ V 22 0 (13 + 10 * p + 2) = 4 * V 22 0 (13 + 10 * p + 1))) ∧ (¬ V 22 0 (13 + 10 * p + 6) = 1 → V 22 0 (93 + 3 * (2 * p)) = 0 ∧ V 22 0 (93 + 3 * (2 * p + 1)) = 0 ∧ ∀ w, w < 10 → V 22 0 (13 + 10 * p + w) = 0)
def JI (V : GV) (j : Nat) : Prop := V 22 0 (93 + 3 * j) = 1 → V 22 0 (93 + 3 * j + 2) < if j % 2 = 0 then 6 else 2
def RX (N : GV) (P : Nat) (V : GV) : Prop := (∀ p, p < 8 → RF N P V p) ∧ (∀ j, j < 16 → RJ N P V j) ∧ RC N P V ∧ (∀ p, p < 8 → PI V p) ∧ (∀ j, j < 16 → JI V j) ∧ SB N
theorem SB.up {N : GV} {k i s v : Nat} (h : SB N) (h0 : k = 0 → 2 ≤ s → s ≤ 4 → v ≤ 1) (h2 : k = 2 → ¬ s = 0 ∧ ¬ s = 1 ∧ (s = 2 → v ≤ 1) ∧ (s = 5 → v < 2 ^ 28)) : SB (up3 N k i s v) := by
  refine ⟨fun f hf => ?_, fun b hb => ?_⟩
  · have a := h.1 f hf
    refine ⟨?_, ?_, ?_⟩
    all_goals
      unfold up3
      split
      · next q => exact h0 (by omega) (by omega) (by omega)
      · first | exact a.1 | exact a.2.1 | exact a.2.2
  · have a := h.2 b hb
    refine ⟨?_, ?_, ?_, ?_⟩
    · rw [u_ne fun q => (h2 (by omega)).1 (by omega)]; exact a.1
    · rw [u_ne fun q => (h2 (by omega)).2.1 (by omega)]; exact a.2.1
    · unfold up3
      split
      · next q => exact (h2 (by omega)).2.2.1 (by omega)
      · exact a.2.2.1
    · unfold up3
      split
      · next q => exact (h2 (by omega)).2.2.2 (by omega)
      · exact a.2.2.2
theorem RX.cb {K P p : Nat} {N V : GV} {c : Bool} (hD : DI K V) (h : RX N P V) (hp : p < 8) : cbN N c (8 * P + p) = cloB (V 22 0) c p := by
  obtain ⟨hF, hJ, _, hI, _, _⟩ := h
  obtain ⟨f1, f2⟩ := hF p hp
  obtain ⟨i1, i2, i3⟩ := hI p hp
  have j1 := (hJ (2 * p) (by omega)).1
  have j2 := (hJ (2 * p + 1) (by omega)).1
  have b := hD.fo hp
  have b1 := (hD.jo (j := 2 * p) (by omega)).1
  have b2 := (hD.jo (j := 2 * p + 1) (by omega)).1
  have e1 : 2 * (8 * P + p) = 16 * P + 2 * p := by omega
  have e2 : 2 * (8 * P + p) + 1 = 16 * P + (2 * p + 1) := by omega
  unfold cbN cloB
  rw [e2, e1, f1, j1, j2]
  by_cases q : V 22 0 (13 + 10 * p + 6) = 0
  · rw [if_pos q, if_pos q]
  · have q1 : V 22 0 (13 + 10 * p + 6) = 1 := by omega
    obtain ⟨g3, g4, _⟩ := f2 q1
    have i2 := (i2 q1).2
    rw [if_neg q, if_neg q, g3, g4, i1]
    by_cases q5 : V 22 0 (93 + 3 * (2 * p + 1)) = 1
    · rw [if_pos q5, if_pos (i2.1 q5)]
    · rw [if_neg q5, if_neg fun e => q5 (i2.2 e)]
/-- a fountain bursts -/
theorem RX.fz {K P p d : Nat} {N V : GV} (hD : DI K V) (h : RX N P V) (hP : P < 8) (hp : p < 8) (h1 : V 22 0 (13 + 10 * p + 6) = 1) (hd : V 22 0 5 = d) : RX (up3 (jrN N (16 * P + 2 * p) d) 0 (8 * P + p) 10 (N 0 (8 * P + p) 10 + 1)) P (repN (up3 (up3 V 22 0 (13 + 10 * p + 5) 1) 22 0 (13 + 10 * p + 9) (V 22 0 (13 + 10 * p + 9) + 1)) (2 * p)) := by
  obtain ⟨hF, hJ, hC, hI, hI2, hS⟩ := h
  subst hd
  refine ⟨fun q hq => ?_, fun j hj => ?_, ?_, fun q hq => ?_, fun j hj => ?_, ?_⟩
  · have f := hF q hq
    unfold RF at f ⊢
    unfold jrN repN
    by_cases e : q = p
    · subst e
      obtain ⟨f1, f2⟩ := f
      obtain ⟨c3, c4, c5, c6, c7, c8, c9, c10⟩ := f2 h1
      simp (disch := omega) only [u_ne, u_eq]
      exact ⟨f1, fun _ => ⟨c3, c4, c5, c6, c7, c8, c9, by omega⟩⟩
    · simp (disch := omega) only [u_ne, u_eq]
      exact f
  · have f := hJ j hj
    unfold RJ at f ⊢
    unfold jrN repN
    by_cases e : j = 2 * p
    · subst e
      simp (disch := omega) only [u_ne, u_eq]
      exact ⟨trivial, fun _ => ⟨trivial, trivial⟩⟩
    · simp (disch := omega) only [u_ne, u_eq]
      exact f
  · unfold RC at hC ⊢
    unfold jrN repN
    simp (disch := omega) only [u_ne, u_eq]
    exact hC
  · have f := hI q hq
    unfold PI at f ⊢
    unfold repN
    by_cases e : q = p
    · subst e
      simp (disch := omega) only [u_ne, u_eq]
      exact ⟨trivial, f.2.1, fun x => absurd h1 x⟩
    · simp (disch := omega) only [u_ne, u_eq]
      refine ⟨f.1, f.2.1, fun x => ⟨(f.2.2 x).1, (f.2.2 x).2.1, fun w hw => ?_⟩⟩
      rw [u_ne (by omega), u_ne (by omega), u_ne (by omega), u_ne (by omega), u_ne (by omega)]
      exact (f.2.2 x).2.2 w hw
  · have f := hI2 j hj
    unfold JI at f ⊢
    unfold repN
    by_cases e : j = 2 * p
    · subst e
      simp (disch := omega) only [u_ne, u_eq]
      intro _
      split <;> omega
    · simp (disch := omega) only [u_ne, u_eq]
      exact f
  · exact ((((hS.up (by omega) (by omega)).up (by omega) (by omega)).up (by omega) (by omega)).up (by omega) (by omega))
