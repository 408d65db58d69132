/-! giving water, working on jobs: class and reference -/
def RL (N : GV) (P : Nat) (V : GV) : Prop := ∀ p, p < 8 → V 22 0 (13 + 10 * p + 6) = 1 → N 0 (8 * P + p) 11 = V 26 0 p
def gvC (N : GV) (P p i : Nat) : GV :=
  let M := up3 (up3 (up3 (up3 N 0 (8 * P + p) 11 (N 0 (8 * P + p) 11 - i)) 0 (8 * P + p) 7 (N 0 (8 * P + p) 7 + i)) 0 (8 * P + p) 8 (N 0 (8 * P + p) 8 + i)) 5 P 11 (N 5 P 11 + i)
  if i = 4 * N 0 (8 * P + p) 6 - N 0 (8 * P + p) 7 then jrN M (16 * P + (2 * p + 1)) (N 5 P 0) else M
theorem RX.gv {K P p i : Nat} {N V : GV} (hD : DI K V) (h : RX N P V) (hL : RL N P V) (hP : P < 8) (hp : p < 8) (h1 : V 22 0 (13 + 10 * p + 6) = 1) (hd : N 5 P 0 = V 22 0 5) (hn : ¬ V 22 0 (13 + 10 * p + 2) = 4 * V 22 0 (13 + 10 * p + 1)) (hi : i ≤ 4 * V 22 0 (13 + 10 * p + 1) - V 22 0 (13 + 10 * p + 2)) : RX (gvC N P p i) P (givN V p i) ∧ RL (gvC N P p i) P (givN V p i) := by
  obtain ⟨hF, hJ, hC, hI, hI2, hS⟩ := h
  have hl := hD.l p hp
  obtain ⟨f1, f2⟩ := hF p hp
  obtain ⟨c3, c4, c5, c6, c7, c8, c9, c10⟩ := f2 h1
  have hIp := hI p hp
  have l11 := hL p hp h1
  unfold gvC givN
  rw [c6, c7]
  by_cases qi : i = 4 * V 22 0 (13 + 10 * p + 1) - V 22 0 (13 + 10 * p + 2)
  · simp only [if_pos qi]
    unfold jrN repN
    refine ⟨⟨fun q hq => ?_, fun j hj => ?_, ?_, fun q hq => ?_, fun j hj => ?_, ?_⟩, fun q hq => ?_⟩
    · have f := hF q hq
      unfold RF at f ⊢
      by_cases e : q = p
      · subst e
        simp (disch := omega) only [u_ne, u_eq]
        exact ⟨f1, fun _ => ⟨c3, c4, c5, c6, (by first | trivial | omega), (by first | trivial | omega), c9, c10⟩⟩
      · simp (disch := omega) only [u_ne, u_eq]
        exact f
    · have f := hJ j hj
      unfold RJ at f ⊢
      by_cases e : j = 2 * p + 1
      · subst e
        simp (disch := omega) only [u_ne, u_eq]
        exact ⟨trivial, fun _ => ⟨hd, trivial⟩⟩
      · simp (disch := omega) only [u_ne, u_eq]
        exact f
    · unfold RC at hC ⊢
      simp (disch := omega) only [u_ne, u_eq]
      obtain ⟨z1, z2, z3, z4, z5⟩ := hC
      exact ⟨z1, z2, z3, z4, by omega⟩
    · have f := hI q hq
      unfold PI at f ⊢
      by_cases e : q = p
      · subst e
        simp (disch := omega) only [u_ne, u_eq]
        exact ⟨f.1, fun _ => ⟨(f.2.1 h1).1, fun _ => by omega, fun _ => trivial⟩, fun x => absurd h1 x⟩
      · simp (disch := omega) only [u_ne, u_eq]
        refine ⟨f.1, f.2.1, fun x => ⟨(f.2.2 x).1, (f.2.2 x).2.1, fun w hw => ?_⟩⟩
        simp (disch := omega) only [u_ne, u_eq]
        exact (f.2.2 x).2.2 w hw
    · have f := hI2 j hj
      unfold JI at f ⊢
      by_cases e : j = 2 * p + 1
      · subst e
        simp (disch := omega) only [u_ne, u_eq]
        intro _
        split <;> omega
      · simp (disch := omega) only [u_ne, u_eq]
        exact f
    · exact ((((((hS.up (by omega) (by omega)).up (by omega) (by omega)).up (by omega) (by omega)).up (by omega) (by omega)).up (by omega) (by omega)).up (by omega) (by omega)).up (by omega) (by omega)
    · have f := hL q hq
      by_cases e : q = p
      · subst e
        simp (disch := omega) only [u_ne, u_eq]
        intro _
        omega
      · simp (disch := omega) only [u_ne, u_eq]
        exact f
  · simp only [if_neg qi]
    refine ⟨⟨fun q hq => ?_, fun j hj => ?_, ?_, fun q hq => ?_, fun j hj => ?_, ?_⟩, fun q hq => ?_⟩
    · have f := hF q hq
      unfold RF at f ⊢
      by_cases e : q = p
      · subst e
        simp (disch := omega) only [u_ne, u_eq]
        exact ⟨f1, fun _ => ⟨c3, c4, c5, c6, (by first | trivial | omega), (by first | trivial | omega), c9, c10⟩⟩
      · simp (disch := omega) only [u_ne, u_eq]
        exact f
    · have f := hJ j hj
      unfold RJ at f ⊢
      simp (disch := omega) only [u_ne, u_eq]
      exact f
    · unfold RC at hC ⊢
      simp (disch := omega) only [u_ne, u_eq]
      obtain ⟨z1, z2, z3, z4, z5⟩ := hC
      exact ⟨z1, z2, z3, z4, by omega⟩
    · have f := hI q hq
      unfold PI at f ⊢
      by_cases e : q = p
      · subst e
        simp (disch := omega) only [u_ne, u_eq]
        have f2 := (f.2.1 h1).2
        refine ⟨f.1, fun _ => ⟨(f.2.1 h1).1, fun x => absurd (f2.1 x) hn, fun x => by omega⟩, fun x => absurd h1 x⟩
      · simp (disch := omega) only [u_ne, u_eq]
        refine ⟨f.1, f.2.1, fun x => ⟨(f.2.2 x).1, (f.2.2 x).2.1, fun w hw => ?_⟩⟩
        simp (disch := omega) only [u_ne, u_eq]
        exact (f.2.2 x).2.2 w hw
    · have f := hI2 j hj
      unfold JI at f ⊢
      simp (disch := omega) only [u_ne, u_eq]
      exact f
    · exact (((hS.up (by omega) (by omega)).up (by omega) (by omega)).up (by omega) (by omega)).up (by omega) (by omega)
    · have f := hL q hq
      by_cases e : q = p
      · subst e
        simp (disch := omega) only [u_ne, u_eq]
        intro _
        omega
      · simp (disch := omega) only [u_ne, u_eq]
        exact f
/-- a job of the class is worked on -/
def wmC (N : GV) (P j h : Nat) : GV := up3 (up3 (up3 N 2 (16 * P + j) 4 (N 2 (16 * P + j) 4 + h)) 5 P 10 (N 5 P 10 + h)) 5 P 9 (N 5 P 9 + h * N 18 P 4)
def fnC (N : GV) (P j : Nat) : GV := if j % 2 = 1 then up3 (up3 (up3 N 2 (16 * P + j) 2 0) 0 (8 * P + j / 2) 7 0) 0 (8 * P + j / 2) 9 (N 0 (8 * P + j / 2) 9 + 1) else up3 N 2 (16 * P + j) 2 0
theorem RX.wm {P j h : Nat} {N V : GV} (hX : RX N P V) (hP : P < 8) (hj : j < 16) (h1 : V 22 0 (93 + 3 * j) = 1) (h4 : N 18 P 4 = V 22 0 4) (hl : ¬ h = ndJ (V 22 0) j) (hle : h ≤ ndJ (V 22 0) j) : RX (wmC N P j h) P (wrkM V h j) := by
  obtain ⟨hF, hJ, hC, hI, hI2, hS⟩ := hX
  obtain ⟨j1, j2⟩ := hJ j hj
  obtain ⟨j3, j4⟩ := j2 h1
  have ji := hI2 j hj h1
  unfold wmC wrkM
  refine ⟨fun q hq => ?_, fun i hi => ?_, ?_, fun q hq => ?_, fun i hi => ?_, ?_⟩
  · have f := hF q hq
    unfold RF at f ⊢
    simp (disch := omega) only [u_ne, u_eq]
    exact f
  · have f := hJ i hi
    unfold RJ at f ⊢
    by_cases e : i = j
    · subst e
      simp (disch := omega) only [u_ne, u_eq]
      exact ⟨j1, fun _ => ⟨j3, by omega⟩⟩
    · simp (disch := omega) only [u_ne, u_eq]
      exact f
  · unfold RC at hC ⊢
    simp (disch := omega) only [u_ne, u_eq]
    obtain ⟨z1, z2, z3, z4, z5⟩ := hC
    exact ⟨z1, z2, by rw [z3, h4], by omega, z5⟩
  · have f := hI q hq
    unfold PI at f ⊢
    simp (disch := omega) only [u_ne, u_eq]
    refine ⟨f.1, f.2.1, fun x => ⟨(f.2.2 x).1, (f.2.2 x).2.1, fun w hw => ?_⟩⟩
    simp (disch := omega) only [u_ne, u_eq]
    exact (f.2.2 x).2.2 w hw
  · have f := hI2 i hi
    unfold JI at f ⊢
    by_cases e : i = j
    · subst e
      simp (disch := omega) only [u_ne, u_eq]
      intro _
      unfold ndJ at hl hle
      omega
    · simp (disch := omega) only [u_ne, u_eq]
      exact f
  · exact ((hS.up (by omega) (by omega)).up (by omega) (by omega)).up (by omega) (by omega)
theorem RX.fn {P j h : Nat} {N V : GV} (hX : RX N P V) (hP : P < 8) (hj : j < 16) (h1 : V 22 0 (93 + 3 * j) = 1) (h4 : N 18 P 4 = V 22 0 4) : RX (fnC (wmC N P j h) P j) P (finN (wrkM V h j) j) := by
  obtain ⟨hF, hJ, hC, hI, hI2, hS⟩ := hX
  have hb : V 22 0 (13 + 10 * (j / 2) + 6) = 1 := by
    by_cases q : V 22 0 (13 + 10 * (j / 2) + 6) = 1
    · exact q
    · have f := (hI (j / 2) (by omega)).2.2 q
      rcases (show j = 2 * (j / 2) ∨ j = 2 * (j / 2) + 1 by omega) with e | e
      · rw [← e] at f; omega
      · rw [← e] at f; omega
  unfold fnC finN endN
  rcases (show j % 2 = 0 ∨ j % 2 = 1 by omega) with qj | qj
  · obtain ⟨p, hp⟩ : ∃ p, j = 2 * p := ⟨j / 2, by omega⟩
    subst hp
    have ed : 2 * p / 2 = p := by omega
    rw [ed] at hb
    rw [if_neg (by omega), if_pos qj, ed]
    unfold wmC wrkM
    refine ⟨fun q hq => ?_, fun i hi => ?_, ?_, fun q hq => ?_, fun i hi => ?_, ?_⟩
    · have f := hF q hq
      unfold RF at f ⊢
      simp (disch := omega) only [u_ne, u_eq]
      exact f
    · have f := hJ i hi
      unfold RJ at f ⊢
      by_cases e : i = 2 * p
      · subst e
        simp (disch := omega) only [u_ne, u_eq]
        exact ⟨trivial, fun x => absurd x (by decide)⟩
      · simp (disch := omega) only [u_ne, u_eq]
        exact f
    · unfold RC at hC ⊢
      simp (disch := omega) only [u_ne, u_eq]
      obtain ⟨z1, z2, z3, z4, z5⟩ := hC
      exact ⟨z1, z2, by rw [z3, h4], by omega, z5⟩
    · have f := hI q hq
      unfold PI at f ⊢
      by_cases e : q = p
      · subst e
        simp (disch := omega) only [u_ne, u_eq]
        exact ⟨trivial, f.2.1, fun x => absurd hb x⟩
      · simp (disch := omega) only [u_ne, u_eq]
        refine ⟨f.1, f.2.1, fun x => ⟨(f.2.2 x).1, (f.2.2 x).2.1, fun w hw => ?_⟩⟩
        simp (disch := omega) only [u_ne, u_eq]
        exact (f.2.2 x).2.2 w hw
    · have f := hI2 i hi
      unfold JI at f ⊢
      by_cases e : i = 2 * p
      · subst e
        simp (disch := omega) only [u_ne, u_eq]
        intro x
        exact absurd x (by decide)
      · simp (disch := omega) only [u_ne, u_eq]
        exact f
    · exact (((hS.up (by omega) (by omega)).up (by omega) (by omega)).up (by omega) (by omega)).up (by omega) (by omega)
  · obtain ⟨p, hp⟩ : ∃ p, j = 2 * p + 1 := ⟨j / 2, by omega⟩
    subst hp
    have ed : (2 * p + 1) / 2 = p := by omega
    rw [ed] at hb
    rw [if_pos qj, if_neg (by omega), ed]
    obtain ⟨f1, f2⟩ := hF p (by omega)
    obtain ⟨c3, c4, c5, c6, c7, c8, c9, c10⟩ := f2 hb
    have hIp := hI p (by omega)
    unfold wmC wrkM
    refine ⟨fun q hq => ?_, fun i hi => ?_, ?_, fun q hq => ?_, fun i hi => ?_, ?_⟩
    · have f := hF q hq
      unfold RF at f ⊢
      by_cases e : q = p
      · subst e
        simp (disch := omega) only [u_ne, u_eq]
        exact ⟨f1, fun _ => ⟨c3, c4, c5, c6, trivial, c8, by omega, c10⟩⟩
      · simp (disch := omega) only [u_ne, u_eq]
        exact f
    · have f := hJ i hi
      unfold RJ at f ⊢
      by_cases e : i = 2 * p + 1
      · subst e
        simp (disch := omega) only [u_ne, u_eq]
        exact ⟨trivial, fun x => absurd x (by decide)⟩
      · simp (disch := omega) only [u_ne, u_eq]
        exact f
    · unfold RC at hC ⊢
      simp (disch := omega) only [u_ne, u_eq]
      obtain ⟨z1, z2, z3, z4, z5⟩ := hC
      exact ⟨z1, z2, by rw [z3, h4], by omega, z5⟩
    · have f := hI q hq
      unfold PI at f ⊢
      by_cases e : q = p
      · subst e
        simp (disch := omega) only [u_ne, u_eq]
        have a10 := (f.2.1 hb).1
        exact ⟨f.1, fun _ => ⟨a10, fun x => absurd x (by decide), fun x => by omega⟩, fun x => absurd hb x⟩
      · simp (disch := omega) only [u_ne, u_eq]
        refine ⟨f.1, f.2.1, fun x => ⟨(f.2.2 x).1, (f.2.2 x).2.1, fun w hw => ?_⟩⟩
        simp (disch := omega) only [u_ne, u_eq]
        exact (f.2.2 x).2.2 w hw
    · have f := hI2 i hi
      unfold JI at f ⊢
      by_cases e : i = 2 * p + 1
      · subst e
        simp (disch := omega) only [u_ne, u_eq]
        intro x
        exact absurd x (by decide)
      · simp (disch := omega) only [u_ne, u_eq]
        exact f
    · exact (((((hS.up (by omega) (by omega)).up (by omega) (by omega)).up (by omega) (by omega)).up (by omega) (by omega)).up (by omega) (by omega)).up (by omega) (by omega)
