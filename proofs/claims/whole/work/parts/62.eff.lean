/-! what the calls do to the park and to the state -/
/-- a state as it should be -/
def STV (V : GV) : Prop := DW V ∧ V 22 0 5 ≤ 999 ∧ V 22 0 7 ≤ 16 ∧ V 22 0 8 ≤ V 22 0 9 ∧ V 22 0 9 ≤ 1683 * V 22 0 5 ∧ FS (V 22 0)
theorem STV.e {V V' : GV} (h : STV V) (e : V' 22 0 = V 22 0) : STV V' := by
  obtain ⟨a, b⟩ := h
  refine ⟨a.e e, ?_⟩
  rw [e]
  exact b
theorem FS.g {S S' : Nat → Nat} (h : FS S) (h6 : S 6 ≤ 6) (e : ∀ s, s = 6 ∨ (141 ≤ s ∧ s < 153) → S' s = S s) : FS S' := by
  have e6 := e 6 (by omega)
  refine ⟨fun k hk => ?_, fun i j a b => ?_⟩
  · rw [e6] at hk
    rw [e _ (by omega), e _ (by omega)]; exact h.1 k hk
  · rw [e6] at b
    rw [e _ (by omega), e _ (by omega)]; exact h.2 i j a b
theorem STV.g {V V' : GV} (h : STV V) (hD : DI (V 22 0 5) V') (e : ∀ s, (5 ≤ s ∧ s < 10) ∨ 141 ≤ s → V' 22 0 s = V 22 0 s) : STV V' := by
  obtain ⟨⟨a, a'⟩, b, c, d, f, g⟩ := h
  refine ⟨⟨by rw [e 5 (by omega)]; exact hD, fun s x y => ?_⟩, by rw [e 5 (by omega)]; exact b, by rw [e 7 (by omega)]; exact c, by rw [e 8 (by omega), e 9 (by omega)]; exact d, by rw [e 9 (by omega), e 5 (by omega)]; exact f, g.g a.h6 fun s q => e s (by omega)⟩
  rw [e 7 (by omega)] at x
  rw [e s (by omega)]
  exact a' s x y
/-! build -/
theorem bu_s {V : GV} {p fl fi : Nat} {c : Bool} {s : Nat} (h : ¬ (13 + 10 * p ≤ s ∧ s < 13 + 10 * p + 10)) : (buiN V p fl fi c) 22 0 s = V 22 0 s := by
  unfold buiN
  simp (disch := omega) only [u_ne]
theorem DI.bu {K p fl fi : Nat} {c : Bool} {V : GV} (h : DI K V) (hp : p < 8) (hz : V 22 0 (13 + 10 * p + 2) = 0) (h1 : fl ≤ 90) (h2 : fi ≤ 900) : DI K (buiN V p fl fi c) := by
  have hc := bN_le c
  unfold buiN
  refine (((h.up' (bd_F (by omega) (by unfold b1; omega)) (by omega)).up' (bd_F (by omega) (by unfold b1; omega)) (by omega)).up (bd_F (by omega) (by unfold b1; omega)) (fun _ _ _ => by omega) (fun q hq e => ?_)).up' (bd_F (by omega) (by unfold b1; omega)) (by omega)
  have : q = p := by omega
  subst this
  rw [u_ne (by omega), u_ne (by omega), hz]
  exact Nat.zero_le _
theorem bg_o {N : GV} {f a b : Nat} {c : Bool} {k i s : Nat} (h : ¬ (k = 0 ∧ i = f ∧ 2 ≤ s ∧ s ≤ 10)) : bgN N f a b c k i s = N k i s := by
  unfold bgN
  simp (disch := omega) only [u_ne]
theorem PK.bu {K p fl fi : Nat} {c : Bool} {N V : GV} (hD : DI K V) (h : PK N 0 V) (hp : p < 8) (h0 : ¬ V 22 0 (13 + 10 * p + 6) = 1) (hf : 10 ≤ fi) : PK (bgN N p fl fi c) 0 (buiN V p fl fi c) := by
  have hcl := bN_le c
  obtain ⟨⟨hF, hJ, hC, hI, hI2, hS⟩, hT, hW, hO⟩ := h
  obtain ⟨z1, z2, z3⟩ := (hI p hp).2.2 h0
  have z0 := z3 0 (by omega)
  have z4 := z3 4 (by omega)
  have z5 := z3 5 (by omega)
  have z22 := z3 2 (by omega)
  have z7 := z3 7 (by omega)
  have z8 := z3 8 (by omega)
  have z9 := z3 9 (by omega)
  have hS' : SB (bgN N p fl fi c) := by
    unfold bgN
    exact ((((((((hS.up (by omega) (by omega)).up (by omega) (by omega)).up (by omega) (by omega)).up (by omega) (by omega)).up (by omega) (by omega)).up (by omega) (by omega)).up (by omega) (by omega)).up (by omega) (by omega)).up (by omega) (by omega)
  refine ⟨⟨fun q hq => ?_, fun j hj => ?_, ?_, fun q hq => ?_, fun j hj => ?_, hS'⟩, hT.g (fun s _ => bg_o (by omega)) (bg_o (by omega)) fun s _ => bu_s (by omega), hW.g hD.h6 (bg_o (by omega)) (fun k s _ _ => bg_o (by omega)) fun s _ => bu_s (by omega), hO.g hD.h7 (bg_o (by omega)) (fun k s _ _ _ => bg_o (by omega)) fun s _ => bu_s (by omega)⟩
  · by_cases e : q = p
    · subst e
      unfold RF bgN buiN
      rw [Nat.mul_zero, Nat.zero_add]
      simp (disch := omega) only [u_ne, u_eq]
      exact ⟨trivial, fun _ => ⟨by first | trivial | rfl, by omega, by first | trivial | rfl, by first | trivial | rfl, by omega, by omega, by omega, by omega⟩⟩
    · have f := hF q hq
      unfold RF bgN buiN at *
      simp (disch := omega) only [u_ne]
      exact f
  · have f := hJ j hj
    unfold RJ at f ⊢
    rw [bg_o (by omega), bg_o (by omega), bg_o (by omega), bu_s (by omega), bu_s (by omega), bu_s (by omega)]
    exact f
  · unfold RC at hC ⊢
    rw [bg_o (by omega), bg_o (by omega), bg_o (by omega), bg_o (by omega), bg_o (by omega), bu_s (by omega), bu_s (by omega), bu_s (by omega), bu_s (by omega), bu_s (by omega)]
    exact hC
  · have f := hI q hq
    unfold PI at f ⊢
    rw [bu_s (s := 93 + 3 * (2 * q)) (by omega), bu_s (s := 93 + 3 * (2 * q + 1)) (by omega)]
    by_cases e : q = p
    · subst e
      unfold buiN
      simp (disch := omega) only [u_ne, u_eq]
      refine ⟨f.1, fun _ => ⟨hf, fun x => by omega, fun x => by omega⟩, fun x => absurd (by first | trivial | rfl) x⟩
    · rw [bu_s (by omega), bu_s (by omega), bu_s (by omega), bu_s (by omega)]
      refine ⟨f.1, f.2.1, fun x => ⟨(f.2.2 x).1, (f.2.2 x).2.1, fun w hw => ?_⟩⟩
      rw [bu_s (by omega)]
      exact (f.2.2 x).2.2 w hw
  · have f := hI2 j hj
    unfold JI at f ⊢
    rw [bu_s (by omega), bu_s (by omega)]
    exact f
/-! remove -/
theorem re_s {V : GV} {p s : Nat} (h : ¬ (13 + 10 * p ≤ s ∧ s < 13 + 10 * p + 10)) (h' : ¬ (93 + 6 * p ≤ s ∧ s < 93 + 6 * p + 6)) : (remN V p) 22 0 s = V 22 0 s := by
  unfold remN endN
  simp (disch := omega) only [u_ne]
  exact rowAt_out (by omega)
theorem re_z {V : GV} {p s : Nat} (h : (13 + 10 * p ≤ s ∧ s < 13 + 10 * p + 10) ∨ (93 + 6 * p ≤ s ∧ s < 93 + 6 * p + 6)) (hp : p < 8) : (remN V p) 22 0 s = 0 := by
  unfold remN endN up3
  simp only [true_and, Nat.add_zero]
  repeat' split
  all_goals first | rfl | exact rowAt_in (by omega) | omega
theorem DI.rm {K p : Nat} {V : GV} (h : DI K V) (hp : p < 8) : DI K (remN V p) := by
  refine ⟨h.hK, fun j => ?_, fun q hq => ?_⟩
  · by_cases e : (13 + 10 * p ≤ j ∧ j < 13 + 10 * p + 10) ∨ (93 + 6 * p ≤ j ∧ j < 93 + 6 * p + 6)
    · rw [re_z e hp]
      by_cases q : j < 93
      · exact bd_F (by omega) (by unfold b1; omega)
      · exact bd_0 (by omega) rfl
    · rw [re_s (by omega) (by omega)]; exact h.u j
  · by_cases e : q = p
    · subst e; rw [re_z (by omega) hp]; exact Nat.zero_le _
    · rw [re_s (by omega) (by omega), re_s (by omega) (by omega)]; exact h.l q hq
theorem ed_o {N : GV} {f k i s : Nat} (h : ¬ (k = 0 ∧ i = f ∧ s = 2)) (h' : ¬ (k = 2 ∧ (i = 2 * f ∨ i = 2 * f + 1) ∧ s = 2)) : edN N f k i s = N k i s := by
  unfold edN
  rw [u_ne (by omega), u_ne (by omega), u_ne (by omega)]
theorem PK.rm {K p : Nat} {N V : GV} (hD : DI K V) (h : PK N 0 V) (hp : p < 8) : PK (edN N p) 0 (remN V p) := by
  obtain ⟨⟨hF, hJ, hC, hI, hI2, hS⟩, hT, hW, hO⟩ := h
  have hS' : SB (edN N p) := by
    unfold edN
    exact ((hS.up (by omega) (by omega)).up (by omega) (by omega)).up (by omega) (by omega)
  refine ⟨⟨fun q hq => ?_, fun j hj => ?_, ?_, fun q hq => ?_, fun j hj => ?_, hS'⟩, hT.g (fun s _ => ed_o (by omega) (by omega)) (ed_o (by omega) (by omega)) fun s _ => re_s (by omega) (by omega), hW.g hD.h6 (ed_o (by omega) (by omega)) (fun k s _ _ => ed_o (by omega) (by omega)) fun s _ => re_s (by omega) (by omega), hO.g hD.h7 (ed_o (by omega) (by omega)) (fun k s _ _ _ => ed_o (by omega) (by omega)) fun s _ => re_s (by omega) (by omega)⟩
  · by_cases e : q = p
    · subst e
      unfold RF
      rw [re_z (s := 13 + 10 * q + 6) (by omega) hp]
      refine ⟨?_, fun x => absurd x (by decide)⟩
      unfold edN
      rw [Nat.mul_zero, Nat.zero_add]
      simp (disch := omega) only [u_ne, u_eq]
    · have f := hF q hq
      unfold RF at f ⊢
      rw [ed_o (s := 2) (by omega) (by omega), ed_o (s := 3) (by omega) (by omega), ed_o (s := 4) (by omega) (by omega), ed_o (s := 5) (by omega) (by omega), ed_o (s := 6) (by omega) (by omega), ed_o (s := 7) (by omega) (by omega), ed_o (s := 8) (by omega) (by omega), ed_o (s := 9) (by omega) (by omega), ed_o (s := 10) (by omega) (by omega)]
      rw [re_s (s := 13 + 10 * q + 6) (by omega) (by omega), re_s (s := 13 + 10 * q + 3) (by omega) (by omega), re_s (s := 13 + 10 * q + 4) (by omega) (by omega), re_s (s := 13 + 10 * q) (by omega) (by omega), re_s (s := 13 + 10 * q + 1) (by omega) (by omega), re_s (s := 13 + 10 * q + 2) (by omega) (by omega), re_s (s := 13 + 10 * q + 7) (by omega) (by omega), re_s (s := 13 + 10 * q + 8) (by omega) (by omega), re_s (s := 13 + 10 * q + 9) (by omega) (by omega)]
      exact f
  · by_cases e : j = 2 * p ∨ j = 2 * p + 1
    · unfold RJ
      rw [re_z (s := 93 + 3 * j) (by omega) hp]
      refine ⟨?_, fun x => absurd x (by decide)⟩
      unfold edN
      rw [Nat.mul_zero, Nat.zero_add]
      rcases e with e | e
      · subst e; simp (disch := omega) only [u_ne, u_eq]
      · subst e; simp (disch := omega) only [u_ne, u_eq]
    · have f := hJ j hj
      unfold RJ at f ⊢
      rw [ed_o (s := 2) (by omega) (by omega), ed_o (s := 3) (by omega) (by omega), ed_o (s := 4) (by omega) (by omega), re_s (s := 93 + 3 * j) (by omega) (by omega), re_s (s := 93 + 3 * j + 1) (by omega) (by omega), re_s (s := 93 + 3 * j + 2) (by omega) (by omega)]
      exact f
  · unfold RC at hC ⊢
    rw [ed_o (by omega) (by omega), ed_o (by omega) (by omega), ed_o (by omega) (by omega), ed_o (by omega) (by omega), ed_o (by omega) (by omega), re_s (by omega) (by omega), re_s (by omega) (by omega), re_s (by omega) (by omega), re_s (by omega) (by omega), re_s (by omega) (by omega)]
    exact hC
  · by_cases e : q = p
    · subst e
      unfold PI
      rw [re_z (s := 13 + 10 * q + 5) (by omega) hp, re_z (s := 93 + 3 * (2 * q)) (by omega) hp, re_z (s := 13 + 10 * q + 6) (by omega) hp, re_z (s := 93 + 3 * (2 * q + 1)) (by omega) hp]
      exact ⟨rfl, fun x => absurd x (by decide), fun _ => ⟨rfl, rfl, fun w hw => re_z (by omega) hp⟩⟩
    · have f := hI q hq
      unfold PI at f ⊢
      rw [re_s (s := 13 + 10 * q + 5) (by omega) (by omega), re_s (s := 93 + 3 * (2 * q)) (by omega) (by omega), re_s (s := 13 + 10 * q + 6) (by omega) (by omega), re_s (s := 93 + 3 * (2 * q + 1)) (by omega) (by omega), re_s (s := 13 + 10 * q + 1) (by omega) (by omega), re_s (s := 13 + 10 * q + 2) (by omega) (by omega)]
      refine ⟨f.1, f.2.1, fun x => ⟨(f.2.2 x).1, (f.2.2 x).2.1, fun w hw => ?_⟩⟩
      rw [re_s (by omega) (by omega)]
      exact (f.2.2 x).2.2 w hw
  · by_cases e : j = 2 * p ∨ j = 2 * p + 1
    · unfold JI
      rw [re_z (s := 93 + 3 * j) (by omega) hp]
      exact fun x => absurd x (by decide)
    · have f := hI2 j hj
      unfold JI at f ⊢
      rw [re_s (by omega) (by omega), re_s (by omega) (by omega)]
      exact f
/-! turns -/
theorem PK.tu {K p w b : Nat} {N V : GV} (hD : DI K V) (h : PK N 0 V) (hp : p < 8) (hw : w = 3 ∨ w = 4) (hb : b ≤ 1) (h1 : V 22 0 (13 + 10 * p + 6) = 1) : PK (up3 N 0 p w b) 0 (up3 V 22 0 (13 + 10 * p + w) b) := by
  obtain ⟨⟨hF, hJ, hC, hI, hI2, hS⟩, hT, hW, hO⟩ := h
  have n : ∀ k i s, ¬ (k = 0 ∧ i = p ∧ s = w) → up3 N 0 p w b k i s = N k i s := fun k i s q => u_ne q
  have v : ∀ s, ¬ s = 13 + 10 * p + w → up3 V 22 0 (13 + 10 * p + w) b 22 0 s = V 22 0 s := fun s q => u_ne (by omega)
  refine ⟨⟨fun q hq => ?_, fun j hj => ?_, ?_, fun q hq => ?_, fun j hj => ?_, hS.up (by omega) (by omega)⟩, hT.g (fun s _ => n _ _ _ (by omega)) (n _ _ _ (by omega)) fun s _ => v _ (by omega), hW.g hD.h6 (n _ _ _ (by omega)) (fun k s _ _ => n _ _ _ (by omega)) fun s _ => v _ (by omega), hO.g hD.h7 (n _ _ _ (by omega)) (fun k s _ _ _ => n _ _ _ (by omega)) fun s _ => v _ (by omega)⟩
  · have f := hF q hq
    unfold RF at f ⊢
    by_cases e : q = p
    · subst e
      rw [Nat.mul_zero, Nat.zero_add] at f ⊢
      obtain ⟨f1, f2⟩ := f
      obtain ⟨c3, c4, c5, c6, c7, c8, c9, c10⟩ := f2 h1
      rcases hw with hw | hw <;> subst hw <;> simp (disch := omega) only [u_ne, u_eq]
      · exact ⟨f1, fun _ => ⟨trivial, c4, c5, c6, c7, c8, c9, c10⟩⟩
      · exact ⟨f1, fun _ => ⟨c3, trivial, c5, c6, c7, c8, c9, c10⟩⟩
    · simp (disch := omega) only [u_ne]
      exact f
  · have f := hJ j hj
    unfold RJ at f ⊢
    simp (disch := omega) only [u_ne]
    exact f
  · unfold RC at hC ⊢
    simp (disch := omega) only [u_ne]
    exact hC
  · have f := hI q hq
    unfold PI at f ⊢
    rw [v (13 + 10 * q + 5) (by omega), v (13 + 10 * q + 6) (by omega), v (13 + 10 * q + 1) (by omega), v (13 + 10 * q + 2) (by omega), v (93 + 3 * (2 * q)) (by omega), v (93 + 3 * (2 * q + 1)) (by omega)]
    refine ⟨f.1, f.2.1, fun x => ⟨(f.2.2 x).1, (f.2.2 x).2.1, fun u hu => ?_⟩⟩
    have : ¬ q = p := fun e => by subst e; exact x h1
    rw [v _ (by omega)]
    exact (f.2.2 x).2.2 u hu
  · have f := hI2 j hj
    unfold JI at f ⊢
    simp (disch := omega) only [u_ne]
    exact f
/-! settings -/
theorem PK.se {K k x : Nat} {N V : GV} (hD : DI K V) (h : PK N 0 V) (hk : k < 5) : PK (up3 N 18 0 k x) 0 (up3 V 22 0 k x) := by
  have m : ∀ k' i s, ¬ k' = 18 → up3 N 18 0 k x k' i s = N k' i s := fun k i s q => u_ne (by omega)
  have v : ∀ s, ¬ s = k → up3 V 22 0 k x 22 0 s = V 22 0 s := fun s q => u_ne (by omega)
  refine ⟨h.1.g (fun p s _ _ _ => m _ _ _ (by omega)) (fun p s _ _ _ => m _ _ _ (by omega)) (fun s _ _ => m _ _ _ (by omega)) (fun s _ _ => v _ (by omega)) (h.1.2.2.2.2.2.g fun k i s _ => m _ _ _ (by omega)), ⟨fun j hj => ?_, ?_⟩, h.2.2.1.g hD.h6 (m _ _ _ (by omega)) (fun k s _ _ => m _ _ _ (by omega)) (fun s _ => v _ (by omega)), h.2.2.2.g hD.h7 (m _ _ _ (by omega)) (fun k s _ _ _ => m _ _ _ (by omega)) (fun s _ => v _ (by omega))⟩
  · by_cases e : j = k
    · subst e; rw [up3_self, up3_self]
    · rw [u_ne (by omega), v _ e]; exact h.2.1.1 j hj
  · rw [m _ _ _ (by omega), v _ (by omega)]; exact h.2.1.2
/-! callOff -/
theorem dp_s {V : GV} {d s : Nat} (h : ¬ s = 7) (h' : s < 153) : (drops d V) 22 0 s = V 22 0 s := by unfold drops; rw [setO_o (by omega)]
theorem PK.dp {K P d : Nat} {N V : GV} (hD : DI K V) (h : PK N P V) : PK (odN N P d) P (drops d V) :=
  ⟨h.1.g (fun p s _ _ _ => od_o (by omega)) (fun p s _ _ _ => od_o (by omega)) (fun s _ _ => od_o (by omega)) (fun s a b => dp_s (by omega) (by omega)) (h.1.2.2.2.2.2.g fun k i s h => od_o (by omega)), h.2.1.g (fun s h => od_o (by omega)) (od_o (by omega)) fun s h => dp_s (by omega) (by omega), h.2.2.1.g hD.h6 (od_o (by omega)) (fun k s _ _ => od_o (by omega)) fun s h => dp_s (by omega) (by omega), RO.dp hD h.2.2.2⟩
theorem kids_perm {l m : List OT} (h : l.Perm m) : kids l = kids m := by
  unfold kids
  exact (h.map _).sum_nat
theorem SO.perm {V : GV} {σ : List Nat} (h : SO V σ) : σ.Perm (List.range (V 22 0 7)) :=
  (List.perm_ext_iff_of_nodup h.nd List.nodup_range).2 fun k => by rw [h.2, List.mem_range]
theorem RO.cl {N V : GV} {P : Nat} {σ : List Nat} (h4 : N 4 P 3 = V 22 0 7) (hl : σ.length = V 22 0 7) (hc : ∀ i, i < V 22 0 7 → coA N P i = ouA (V 22 0) (σ.getD i 0)) : coL N P (N 4 P 3) = σ.map (ouA (V 22 0)) := by
  rw [h4]
  apply List.ext_getElem
  · unfold coL
    rw [List.length_map, List.length_map, List.length_range, hl]
  · intro i h1 h2
    unfold coL at h1
    rw [List.length_map, List.length_range] at h1
    have := hc i h1
    rw [List.getElem_map]
    unfold coL
    rw [List.getElem_map, List.getElem_range, this, List.getD_eq_getElem?_getD, List.getElem?_eq_getElem (by omega)]
    rfl
theorem RO.ki {N V : GV} {P d : Nat} (h : RO N P V) : (cdI d P N (N 4 P 3)).2.2 = kids (goneO d V) := by
  obtain ⟨h4, σ, hs, hl, hc⟩ := h
  rw [(cdI_w (d := d) (P := P) (N := N) (N 4 P 3)).2.2.1, RO.cl h4 hl hc]
  unfold goneO ouL
  exact kids_perm ((hs.perm.map _).filter _)
theorem STV.dp {V : GV} {d : Nat} (h : STV V) : STV (drops d V) := by
  obtain ⟨⟨a, a'⟩, b, c, e, f, g⟩ := h
  have s := fun s (q : ¬ s = 7) (q' : s < 153) => dp_s (V := V) (d := d) q q'
  have hl : (drops d V) 22 0 7 ≤ V 22 0 7 := by
    unfold drops keepO
    rw [setO_7]
    have := List.length_filter_le (fun o : OT => decide (¬ o.1 = d)) (ouL (V 22 0) (V 22 0 7))
    rw [ouL_len] at this
    exact this
  refine ⟨⟨by rw [s 5 (by omega) (by omega)]; exact a.dp, setO_z⟩, by rw [s 5 (by omega) (by omega)]; exact b, by omega, by rw [s 8 (by omega) (by omega), s 9 (by omega) (by omega)]; exact e, by rw [s 9 (by omega) (by omega), s 5 (by omega) (by omega)]; exact f, g.g a.h6 fun x q => s x (by omega) (by omega)⟩
theorem STV.pl {V : GV} {d c g : Nat} (h : STV V) (h7 : V 22 0 7 < 16) (hd : d ≤ 999) (hc : c ≤ 99) (hg : g ≤ 7) : STV (plnN V d c g) := by
  obtain ⟨⟨a, a'⟩, b, c', e, f, fs⟩ := h
  have s := fun s (q : ¬ s = 7) (q' : s < 153) => pl_s (V := V) (d := d) (c := c) (g := g) (s := s) (by omega) q
  exact ⟨⟨by rw [s 5 (by omega) (by omega)]; exact a.pl (by omega) (by omega) hc hg, pln_z a'⟩, by rw [s 5 (by omega) (by omega)]; exact b, by rw [pln_7]; omega, by rw [s 8 (by omega) (by omega), s 9 (by omega) (by omega)]; exact e, by rw [s 9 (by omega) (by omega), s 5 (by omega) (by omega)]; exact f, fs.g a.h6 fun x q => s x (by omega) (by omega)⟩
theorem STV.day {V : GV} {n : Nat} (h : STV V) (hn : V 22 0 5 + n ≤ 999) : STV (daysN n V) := by
  obtain ⟨hD, b, c, e, f, fs⟩ := h
  have w := hD.days n (by omega)
  have v := days_w (K := 999) (hD.1.mo (by omega) (by omega)) hD.2 n (by omega)
  have t := v.2.2.1
  unfold Th at t
  have h7 : (daysN n V) 22 0 7 ≤ 16 := by
    clear w v t e f fs
    have d7 : ∀ W : GV, (dayN W) 22 0 7 ≤ W 22 0 7 := fun W => by
      unfold dayN dayE dayO drops
      rw [u_ne (by omega)]
      refine Nat.le_trans (Nat.le_of_eq ((Fr.vis Fr.rf 8 (Nat.le_refl _)) 22 0 7 (by omega) (by decide) (by decide) (by decide))) ?_
      rw [setO_7]
      unfold keepO
      have x := fun (W' : GV) (d : Nat) => List.length_filter_le (fun o : OT => decide (¬ o.1 = d)) (ouL (W' 22 0) (W' 22 0 7))
      refine Nat.le_trans (x _ _) ?_
      rw [ouL_len]
      have q : ∀ f d, Fr W (outI d 17 (opnN (dayR (works f (dayF W))))) := fun f d => Fr.ou (((Fr.ws (Fr.dF Fr.rf)).rw (by omega)).rw (by omega))
      exact Nat.le_of_eq (q _ _ 22 0 7 (by omega) (by decide) (by decide) (by decide))
    clear hn
    induction n with
    | zero => exact c
    | succ n ih => exact Nat.le_trans (d7 _) ih
  refine ⟨w.1, by omega, h7, by omega, by rw [w.2]; omega, ?_⟩
  exact fs.g hD.1.h6 fun s q => v.2.2.2.2.1 s (by omega)
