/-! the nearest fountains, one after the other -/
/-- the places in the order of their distance from g -/
def ordG (g : Nat) : List Nat := (List.range 8).flatMap fun d => (List.range 8).filter fun p => decide (apN p g = d)
def aOf (l : List Nat) : Nat → Nat := fun p => if l.contains p then 1 else 0
theorem ordG_n : ∀ g, g < 8 → ∀ k, k < 8 → nrN (aOf ((ordG g).take k)) g 8 = some ((ordG g).getD k 0) := by decide +kernel
theorem ordG_l : ∀ g, g < 8 → (ordG g).length = 8 := by decide +kernel
theorem ordG_b : ∀ g, g < 8 → ∀ p, p ∈ ordG g → p < 8 := by decide +kernel
theorem ordG_f : ∀ g, g < 8 → (ordG g).filter (fun p => decide (apN p g < 3)) = [g] ++ (dnO g 1).toList ++ (upO g 1).toList ++ (dnO g 2).toList ++ (upO g 2).toList := by decide +kernel
/-- what a place does when it is asked -/
def drkP (g p : Nat) (q : GV × Nat) : GV × Nat := if clo (q.1 22 0) p = 0 ∧ apN p g < 3 then (givN (up3 q.1 28 0 p 1) p (givA q.1 p q.2), q.2 - givA q.1 p q.2) else (up3 q.1 28 0 p 1, q.2)
theorem drkP_28 {g p : Nat} {q : GV × Nat} {i : Nat} : (drkP g p q).1 28 0 i = if i = p then 1 else q.1 28 0 i := by
  unfold drkP
  split
  · show givN (up3 q.1 28 0 p 1) p (givA q.1 p q.2) 28 0 i = _
    rw [giv_k (by decide) (by decide)]; exact up28
  · exact up28
def foP (g : Nat) (q : GV × Nat) : List Nat → GV × Nat
  | [] => q
  | p :: l => foP g (drkP g p q) l
theorem foP_ap {g : Nat} {q : GV × Nat} {l m : List Nat} : foP g q (l ++ m) = foP g (foP g q l) m := by
  induction l generalizing q with
  | nil => rfl
  | cons p l ih => exact ih
theorem drkI_fo {g : Nat} (hg : g < 8) {q : GV × Nat} (h0 : ∀ p, p < 8 → q.1 28 0 p = 0) : ∀ k, k ≤ 8 → drkI g k q = foP g q ((ordG g).take k) ∧ ∀ p, p < 8 → (drkI g k q).1 28 0 p = aOf ((ordG g).take k) p
  | 0, _ => ⟨rfl, h0⟩
  | k + 1, hk => by
    obtain ⟨a, b⟩ := drkI_fo hg h0 k (by omega)
    have hl := ordG_l g hg
    have hn := ordG_n g hg k (by omega)
    have hkl : k < (ordG g).length := by omega
    have e1 : (ordG g).getD k 0 = (ordG g)[k] := by rw [List.getD_eq_getElem?_getD, List.getElem?_eq_getElem hkl]; rfl
    have et : (ordG g).take (k + 1) = (ordG g).take k ++ [(ordG g).getD k 0] := by rw [List.take_succ_eq_append_getElem hkl, e1]
    have es : drkI g (k + 1) q = drkP g ((ordG g).getD k 0) (drkI g k q) := by
      show drk1 g (drkI g k q) = _
      unfold drk1
      rw [nrN_c (A := aOf ((ordG g).take k)) b, hn]
      rfl
    refine ⟨?_, fun p hp => ?_⟩
    · rw [es, et, foP_ap, ← a]; rfl
    · rw [es, drkP_28, b p hp, et]
      unfold aOf
      rw [List.contains_eq_any_beq, List.contains_eq_any_beq, List.any_append]
      by_cases e : p = (ordG g).getD k 0
      · rw [if_pos e, ← e]
        simp
      · rw [if_neg e]
        have : ([(ordG g).getD k 0].any fun x => p == x) = false := by
          simp only [List.any_cons, List.any_nil, Bool.or_false]
          exact beq_eq_false_iff_ne.2 e
        rw [this, Bool.or_false]
/-- the same state and water -/
def E2 (V V' : GV) : Prop := V' 22 0 = V 22 0 ∧ V' 26 0 = V 26 0
theorem E2.gA {V V' : GV} {p w : Nat} (h : E2 V V') : givA V' p w = givA V p w := by unfold givA; rw [h.1, h.2]
theorem up26 {N : GV} {s v : Nat} : (up3 N 26 0 s v) 26 0 = fun j => if j = s then v else N 26 0 j := by
  funext j
  by_cases h : j = s
  · subst h; rw [up3_self, if_pos rfl]
  · rw [up3_s _ _ h, if_neg h]
theorem E2.u {V V' : GV} {s v : Nat} (h : E2 V V') : E2 (up3 V 22 0 s v) (up3 V' 22 0 s v) := ⟨by rw [up22, up22, h.1], by rw [upk0 (by decide), upk0 (by decide), h.2]⟩
theorem E2.re {V V' : GV} {j : Nat} (h : E2 V V') : E2 (repN V j) (repN V' j) := by
  unfold repN
  rw [h.1]
  exact ((h.u).u).u
theorem E2.gv {V V' : GV} {p i : Nat} (h : E2 V V') : E2 (givN V p i) (givN V' p i) := by
  have h1 : E2 (up3 V 26 0 p (V 26 0 p - i)) (up3 V' 26 0 p (V' 26 0 p - i)) := ⟨by rw [upk0 (by decide), upk0 (by decide), h.1], by rw [up26, up26, h.2]⟩
  unfold givN
  rw [h.1]
  have h2 := ((h1.u (s := 13 + 10 * p + 2) (v := V 22 0 (13 + 10 * p + 2) + i)).u (s := 13 + 10 * p + 7) (v := V 22 0 (13 + 10 * p + 7) + i)).u (s := 12) (v := V 22 0 12 + i)
  split
  · exact h2.re
  · exact h2
theorem E2.a {V V' : GV} {p : Nat} (h : E2 V V') : E2 V (up3 V' 28 0 p 1) := ⟨by rw [upk0 (by decide), h.1], by rw [upk0 (by decide), h.2]⟩
/-- the near places alone give -/
def foS (q : GV × Nat) : List Nat → GV × Nat
  | [] => q
  | p :: l => foS (vGs p q) l
theorem foS_ap {q : GV × Nat} {l m : List Nat} : foS q (l ++ m) = foS (foS q l) m := by
  induction l generalizing q with
  | nil => rfl
  | cons p l ih => exact ih
theorem foS_o {q : GV × Nat} {o : Option Nat} : foS q o.toList = vGo o q := by cases o <;> rfl
theorem fo_E {g : Nat} : ∀ (l : List Nat) (q q' : GV × Nat), E2 q.1 q'.1 → q'.2 = q.2 → E2 (foS q (l.filter fun p => decide (apN p g < 3))).1 (foP g q' l).1 ∧ (foP g q' l).2 = (foS q (l.filter fun p => decide (apN p g < 3))).2
  | [], _, _, h, h2 => ⟨h, h2⟩
  | p :: l, q, q', h, h2 => by
    by_cases e : apN p g < 3
    · rw [List.filter_cons_of_pos (by exact decide_eq_true e)]
      show E2 (foS (vGs p q) _).1 (foP g (drkP g p q') l).1 ∧ (foP g (drkP g p q') l).2 = (foS (vGs p q) _).2
      refine fo_E l _ _ ?_ ?_
      · unfold drkP vGs
        rw [h.1, h.gA, h2]
        by_cases c : clo (q.1 22 0) p = 0
        · rw [if_pos c, if_pos ⟨c, e⟩]
          exact h.a.gv
        · rw [if_neg c, if_neg fun x => c x.1]
          exact h.a
      · unfold drkP vGs
        rw [h.1, h.gA, h2]
        by_cases c : clo (q.1 22 0) p = 0
        · rw [if_pos c, if_pos ⟨c, e⟩]
        · rw [if_neg c, if_neg fun x => c x.1]
    · rw [List.filter_cons_of_neg (by intro x; exact e (of_decide_eq_true x))]
      show E2 _ (foP g (drkP g p q') l).1 ∧ (foP g (drkP g p q') l).2 = _
      refine fo_E l _ _ ?_ ?_
      · unfold drkP
        rw [if_neg fun x => e x.2]
        exact h.a
      · unfold drkP
        rw [if_neg fun x => e x.2]
        exact h2
theorem drk_seq {g w : Nat} {V : GV} (hg : g < 8) : E2 (seq5 g (V, w)).1 (drkI g 8 (rowTo V 28 0 8 (fun _ => 0), w)).1 ∧ (drkI g 8 (rowTo V 28 0 8 (fun _ => 0), w)).2 = (seq5 g (V, w)).2 := by
  have h := (drkI_fo (g := g) hg (q := (rowTo V 28 0 8 (fun _ => 0), w)) (fun p hp => by show rowTo V 28 0 8 (fun _ => 0) 28 0 p = 0; rw [rowTo_in hp]) 8 (Nat.le_refl _)).1
  rw [← ordG_l g hg, List.take_length, ordG_l g hg] at h
  rw [h]
  have e := fo_E (g := g) (ordG g) (V, w) (rowTo V 28 0 8 (fun _ => 0), w) ⟨by show (rowTo V 28 0 8 fun _ => 0) 22 0 = V 22 0; rw [rw28], by show (rowTo V 28 0 8 fun _ => 0) 26 0 = V 26 0; funext s; exact rowTo_k (by decide)⟩ rfl
  rw [ordG_f g hg, foS_ap, foS_ap, foS_ap, foS_ap, foS_o, foS_o, foS_o, foS_o] at e
  exact e
/-- class and reference behind an outing -/
theorem RX.e {N V V' : GV} {P : Nat} (h : RX N P V) (e : V' 22 0 = V 22 0) : RX N P V' := by
  unfold RX RF RJ RC PI JI at *
  rw [e]
  exact h
theorem RL.e {N V V' : GV} {P : Nat} (h : RL N P V) (e : V' 22 0 = V 22 0) (e2 : V' 26 0 = V 26 0) : RL N P V' := by
  unfold RL at *
  rw [e, e2]
  exact h
theorem RX.cu {P a b : Nat} {N V : GV} (h : RX N P V) : RX (up3 (up3 N 5 P 8 (N 5 P 8 + a)) 5 P 7 (N 5 P 7 + b)) P (up3 (up3 V 22 0 8 (V 22 0 8 + b)) 22 0 9 (V 22 0 9 + a)) := by
  obtain ⟨hF, hJ, hC, hI, hI2, hS⟩ := h
  refine ⟨fun q hq => ?_, fun j hj => ?_, ?_, fun q hq => ?_, fun j hj => ?_, ?_⟩
  · have f := hF q hq
    unfold RF at f ⊢
    simp (disch := omega) only [u_ne, u_eq]
    exact f
  · have f := hJ j hj
    unfold RJ at f ⊢
    simp (disch := omega) only [u_ne, u_eq]
    exact f
  · unfold RC at hC ⊢
    simp (disch := omega) only [u_ne, u_eq]
    obtain ⟨z1, z2, z3, z4, z5⟩ := hC
    exact ⟨by omega, by omega, z3, z4, z5⟩
  · have f := hI q hq
    unfold PI at f ⊢
    simp (disch := omega) only [u_ne, u_eq]
    refine ⟨f.1, f.2.1, fun x => ⟨(f.2.2 x).1, (f.2.2 x).2.1, fun w hw => ?_⟩⟩
    exact (f.2.2 x).2.2 w hw
  · have f := hI2 j hj
    unfold JI at f ⊢
    simp (disch := omega) only [u_ne, u_eq]
    exact f
  · exact (hS.up (by omega) (by omega)).up (by omega) (by omega)
theorem g43 {X : XS} {N : GV} {R : GR} {L : GL} {Z : Nat × Nat × Bool} (hR : Rok R) {K P ch g : Nat} {V : GV} {c : Bool} (hP : P < 8) (hg : g < 8) (hc : ch ≤ 1000) (h : GB K P c N V) (h2 : N 18 P 2 = V 22 0 2) : ∃ N', exec X 43 [vR 5 P, vI (nI ch), vI (nI g), vI (nI (bN c))] (gg (nW N) R L Z) = some (.inl none, (gg (nW (N')) R L Z)) ∧ GB K P c N' (drkN V ch g) ∧ FrC P N N' := by
  have hV2 := h.1.1.h2
  obtain ⟨N', a, b, f⟩ := t43 (X := X) (L := L) (Z := Z) (g := g) hR hP hg hc h (by rw [h2]; exact hV2)
  have hs := drk_seq (g := g) (w := ch * N 18 P 2) (V := V) hg
  have hwi := WI.dr (c := ch) (g := g) h.1.1 h.1.2
  have hF : Fr V (drkN V ch g) := Fr.rf.dr
  rw [h2] at a b hs
  refine ⟨_, a, ?_, (f.up (by omega)).up (by omega)⟩
  have e18 : N' 18 P 2 = V 22 0 2 := by rw [f _ _ _ (by omega) (by omega) (by omega), h2]
  obtain ⟨⟨b1, b2⟩, b3, b4, b5, b6⟩ := b
  have eS2 : (seq5 g (V, ch * V 22 0 2)).1 22 0 2 = V 22 0 2 := by
    have f8 : Fr V (drkI g 8 (rowTo V 28 0 8 (fun _ => 0), ch * V 22 0 2)).1 := Fr.dkI (q := (rowTo V 28 0 8 (fun _ => 0), ch * V 22 0 2)) (Fr.rf.rw (by omega)) 8
    rw [← hs.1.1]
    exact f8 _ _ _ (by omega) (by decide) (by decide) (by decide)
  have key : E2 (up3 (up3 (seq5 g (V, ch * V 22 0 2)).1 22 0 8 ((seq5 g (V, ch * V 22 0 2)).1 22 0 8 + ((seq5 g (V, ch * V 22 0 2)).2 + V 22 0 2 - 1) / V 22 0 2)) 22 0 9 ((seq5 g (V, ch * V 22 0 2)).1 22 0 9 + ch)) (drkN V ch g) := by
    unfold drkN
    generalize hq : drkI g 8 (rowTo V 28 0 8 (fun _ => 0), ch * V 22 0 2) = q at hs
    obtain ⟨⟨s1, s2⟩, s3⟩ := hs
    simp only [s1, s3, eS2]
    exact (E2.u ⟨s1, s2⟩).u
  refine ⟨hwi, ?_, ?_, ?_, ?_⟩
  · unfold svC
    rw [e18]
    exact (RX.cu b3).e key.1
  · unfold svC
    refine RL.e ?_ key.1 key.2
    intro p hp
    have f := b4 p hp
    simp (disch := omega) only [u_ne, u_eq]
    exact f
  · unfold svC
    rw [up3_s _ _ (by decide), up3_s _ _ (by decide), b5, key.1, up3_s _ _ (by decide), up3_s _ _ (by decide)]
  · rw [fro_e h.1.1 hF]
    exact h.2.2.2.2
