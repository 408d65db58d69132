/-! the reference reads groups, parts, all -/
def TL (T : Nat → Nat) (l : List OT) : Prop := ∀ j w, j < l.length → w < 3 → T (3 * j + w) = fld (l.getD j (0, 0, 0)) w
theorem TL_ap {T : Nat → Nat} {l : List OT} {a b c : Nat} (h : TL T l) : TL (upT (upT (upT T (3 * l.length) a) (3 * l.length + 1) b) (3 * l.length + 2) c) (l ++ [(a, b, c)]) := by
  intro j w hj hw
  rw [List.length_append] at hj
  have hj : j < l.length + 1 := hj
  unfold upT
  by_cases e : j = l.length
  · subst e
    rw [gD_r (Nat.le_refl _), Nat.sub_self]
    match w, hw with
    | 0, _ => rw [if_neg (by omega), if_neg (by omega), if_pos (Nat.add_zero _)]; rfl
    | 1, _ => rw [if_neg (by omega), if_pos rfl]; rfl
    | 2, _ => rw [if_pos rfl]; rfl
  · rw [if_neg (by omega), if_neg (by omega), if_neg (by omega), gD_l (by omega)]
    exact h j w (by omega) hw
/-- here the reading went wrong -/
def Bad (N : GV) (p : Nat) : Prop := (PS N p).1 ≤ 8 ∧ (p < N 7 0 6 → stB (PS N p).1 (sg N p) = 9) ∧ (p = N 7 0 6 → ¬ (PS N p).1 = 8)
/-- behind a group: right, or wrong -/
def Eg (N : GV) (d p ok g : Nat) (T : Nat → Nat) : Prop := p ≤ N 7 0 6 ∧ ((ok = 1 ∧ ∃ c v l, PS N p = (8, d, c, v, l) ∧ TL T l ∧ g = l.length ∧ 4 * l.length ≤ p) ∨ (ok = 0 ∧ Bad N p))
theorem tkB_0 {N : GV} {p c : Nat} : tkB N p 0 c = false := decide_eq_false (by omega)
theorem t142_0 {X : XS} {N : GV} {R : GR} {L : GL} {Z : Nat × Nat × Bool} (hR : Rok R) (h : bufW N) {p g : Nat} {T : Nat → Nat} {x : Int32} (hp : p ≤ N 7 0 6) : exec X 142 [vR 7 0, vI x] (gg (nW (tx N p 0 g T)) R L Z) = some (.inl none, (gg (nW (tx N p 0 g T)) R L Z)) := by
  have s1 := t141_0 (X := X) (L := L) (Z := Z) (g := g) (T := T) (lo := 1) (hi := 99) hR h hp
  have s2 := t140 (X := X) (L := L) (Z := Z) (ok := 0) (g := g) (T := T) (c := 64) hR h hp (Or.inl rfl) (by omega)
  have s3 := t141_0 (X := X) (L := L) (Z := Z) (g := g) (T := T) (lo := 0) (hi := 7) hR h hp
  rw [tkB_0] at s2
  have s2 : exec X 140 [vR 7 0, vI (nI 64)] (gg (nW (tx N p 0 g T)) R L Z) = some (.inl none, (gg (nW (tx N p 0 g T)) R L Z)) := s2
  simp (disch := first | assumption | omega | exact nI_or0 | exact nI_or1 | exact bN_or _) only [in142, x142_0, x142_1, x142_2, x142_4, x142_7, x142_8, x142_9, x142_11, x142_14, x142_15, x142_16, x142_18, x142_21, x142_22, x142_23, x142_26, x142_29, x142_30, x142_33, x142_34, x142_35, x142_38, x142_39, x142_40, x142_41, x142_42, x142_45, x142_46, x142_47, x142_50, x142_51, x142_52, x142_53, x142_54, x142_55, x142_56, x142_59, x142_60, x142_61, x142_64, x142_65, x142_66, x142_67, x142_68, x142_69, x142_70, x142_71, x142_74, x142_75, x142_76, x142_79, in142, reduceIte, Nat.reduceLT, nW_ap, nW_up, nI_add, pk_mul, nI_ltI, nI_eq, if_true, if_false, kont_r, kont_v, Nat.reduceAdd, Nat.reduceMul, Nat.not_lt, not_true_eq_false, not_false_eq_true, Nat.one_ne_zero, Nat.reduceEqDiff, Nat.lt_irrefl, reduceCtorEq, nI_or0, nI_or1, s1, s2, s3, tx_11]
theorem t142_1 {X : XS} {N : GV} {R : GR} {L : GL} {Z : Nat × Nat × Bool} (hR : Rok R) (h : bufW N) {p g d c0 : Nat} {T : Nat → Nat} {l : List OT} (hp : p ≤ N 7 0 6) (hS : PS N p = (4, d, c0, 0, l)) (hT : TL T l) (hg : g = l.length) (hl : 4 * l.length + 1 ≤ p) : ∃ p' ok' g' T', exec X 142 [vR 7 0, vI (nI d)] (gg (nW (tx N p 1 g T)) R L Z) = some (.inl none, (gg (nW (tx N p' ok' g' T')) R L Z)) ∧ Eg N d p' ok' g' T' ∧ p ≤ p' := by
  have h6 := h.1
  by_cases q : 48 + 1 ≤ sg N p ∧ sg N p ≤ upD 99
  · have q' : 49 ≤ sg N p ∧ sg N p ≤ 57 := q
    obtain ⟨s1, s1p⟩ := t141_t (X := X) (L := L) (Z := Z) (g := g) (T := T) (lo := 1) (hi := 99) hR h hp (by omega) (by omega) q
    obtain ⟨q1, v, e1, e2, e3, e4, e5, e6, e7, e8⟩ := num_c hS q'
    rw [← e2] at s1
    generalize (numV N 99 100 (p + 1) (sg N p - 48)).1 = p1 at s1 s1p e1 e5 e8
    have s2 := t140 (X := X) (L := L) (Z := Z) (ok := 1) (g := g) (T := T) (c := 64) hR h s1p (Or.inr rfl) (by omega)
    by_cases k : sg N p1 = 64
    · have ek : tkB N p1 1 64 = true := decide_eq_true ⟨rfl, k⟩
      rw [ek] at s2
      have s2 : exec X 140 [vR 7 0, vI (nI 64)] (gg (nW (tx N p1 1 g T)) R L Z) = some (.inl none, (gg (nW (tx N (p1 + 1) 1 g T)) R L Z)) := s2
      have lt1 := sg_lt (N := N) (p := p1) (by omega)
      have hP : PS N (p1 + 1) = (7, d, v, 0, l) := by
        rw [PS_s (by omega), e1, k]
        have hq : stB q1 64 = 7 := by
          rcases (show q1 = 5 ∨ q1 = 6 by omega) with e | e <;> subst e <;> rfl
        unfold stP
        simp only [hq]
        rfl
      by_cases k2 : 48 + 0 ≤ sg N (p1 + 1) ∧ sg N (p1 + 1) ≤ upD 7
      · have k2' : 48 ≤ sg N (p1 + 1) ∧ sg N (p1 + 1) ≤ 55 := k2
        obtain ⟨s3, s3p⟩ := t141_t (X := X) (L := L) (Z := Z) (g := g) (T := T) (lo := 0) (hi := 7) hR h (show p1 + 1 ≤ N 7 0 6 by omega) (by omega) (by omega) k2
        obtain ⟨f1, f2⟩ := num_g hP rfl k2'
        rw [f2] at s3 s3p
        have s3p : p1 + 1 + 1 ≤ N 7 0 6 := s3p
        subst hg
        have ha : 3 * l.length < 96 := by omega
        have hb : 3 * l.length + 1 < 96 := by omega
        have hc : 3 * l.length + 2 < 96 := by omega
        refine ⟨p1 + 1 + 1, 1, l.length + 1, upT (upT (upT T (3 * l.length) d) (3 * l.length + 1) v) (3 * l.length + 2) (sg N (p1 + 1) - 48), ?_, ⟨s3p, Or.inl ⟨rfl, v, sg N (p1 + 1) - 48, l ++ [(d, v, sg N (p1 + 1) - 48)], f1, TL_ap hT, by rw [List.length_append]; rfl, by rw [List.length_append]; show 4 * (l.length + 1) ≤ _; omega⟩⟩, by omega⟩
        simp (disch := first | assumption | omega | exact nI_or0 | exact nI_or1 | exact bN_or _) only [in142, x142_0, x142_1, x142_2, x142_4, x142_7, x142_8, x142_9, x142_11, x142_14, x142_15, x142_16, x142_18, x142_21, x142_22, x142_23, x142_26, x142_29, x142_30, x142_33, x142_34, x142_35, x142_38, x142_39, x142_40, x142_41, x142_42, x142_45, x142_46, x142_47, x142_50, x142_51, x142_52, x142_53, x142_54, x142_55, x142_56, x142_59, x142_60, x142_61, x142_64, x142_65, x142_66, x142_67, x142_68, x142_69, x142_70, x142_71, x142_74, x142_75, x142_76, x142_79, in142, reduceIte, Nat.reduceLT, nW_ap, nW_up, nI_add, pk_mul, nI_ltI, nI_eq, if_true, if_false, kont_r, kont_v, Nat.reduceAdd, Nat.reduceMul, Nat.not_lt, not_true_eq_false, not_false_eq_true, Nat.one_ne_zero, Nat.reduceEqDiff, Nat.lt_irrefl, reduceCtorEq, nI_or0, nI_or1, s1, s2, s3, tx_11, tx_13, tx_u29, tx_u13, ha, hb, hc]
      · have s3 := t141_f (X := X) (L := L) (Z := Z) (g := g) (T := T) (lo := 0) (hi := 7) hR h (show p1 + 1 ≤ N 7 0 6 by omega) (by omega) (by omega) k2
        refine ⟨p1 + 1, 0, g, T, ?_, ⟨by omega, Or.inr ⟨rfl, ?_⟩⟩, by omega⟩
        · simp (disch := first | assumption | omega | exact nI_or0 | exact nI_or1 | exact bN_or _) only [in142, x142_0, x142_1, x142_2, x142_4, x142_7, x142_8, x142_9, x142_11, x142_14, x142_15, x142_16, x142_18, x142_21, x142_22, x142_23, x142_26, x142_29, x142_30, x142_33, x142_34, x142_35, x142_38, x142_39, x142_40, x142_41, x142_42, x142_45, x142_46, x142_47, x142_50, x142_51, x142_52, x142_53, x142_54, x142_55, x142_56, x142_59, x142_60, x142_61, x142_64, x142_65, x142_66, x142_67, x142_68, x142_69, x142_70, x142_71, x142_74, x142_75, x142_76, x142_79, in142, reduceIte, Nat.reduceLT, nW_ap, nW_up, nI_add, pk_mul, nI_ltI, nI_eq, if_true, if_false, kont_r, kont_v, Nat.reduceAdd, Nat.reduceMul, Nat.not_lt, not_true_eq_false, not_false_eq_true, Nat.one_ne_zero, Nat.reduceEqDiff, Nat.lt_irrefl, reduceCtorEq, nI_or0, nI_or1, s1, s2, s3, tx_11]
        · have k2' : ¬ (48 ≤ sg N (p1 + 1) ∧ sg N (p1 + 1) ≤ 55) := k2
          refine ⟨by rw [hP]; show 7 ≤ 8; omega, fun _ => ?_, fun _ => by rw [hP]; show ¬ 7 = 8; omega⟩
          rw [hP]
          show (if 48 ≤ sg N (p1 + 1) ∧ sg N (p1 + 1) ≤ 55 then 8 else 9) = 9
          rw [if_neg k2']
    · have ek : tkB N p1 1 64 = false := decide_eq_false fun e => k e.2
      rw [ek] at s2
      have s2 : exec X 140 [vR 7 0, vI (nI 64)] (gg (nW (tx N p1 1 g T)) R L Z) = some (.inl none, (gg (nW (tx N p1 0 g T)) R L Z)) := s2
      have s3 := t141_0 (X := X) (L := L) (Z := Z) (g := g) (T := T) (lo := 0) (hi := 7) hR h s1p
      refine ⟨p1, 0, g, T, ?_, ⟨s1p, Or.inr ⟨rfl, ?_⟩⟩, by omega⟩
      · simp (disch := first | assumption | omega | exact nI_or0 | exact nI_or1 | exact bN_or _) only [in142, x142_0, x142_1, x142_2, x142_4, x142_7, x142_8, x142_9, x142_11, x142_14, x142_15, x142_16, x142_18, x142_21, x142_22, x142_23, x142_26, x142_29, x142_30, x142_33, x142_34, x142_35, x142_38, x142_39, x142_40, x142_41, x142_42, x142_45, x142_46, x142_47, x142_50, x142_51, x142_52, x142_53, x142_54, x142_55, x142_56, x142_59, x142_60, x142_61, x142_64, x142_65, x142_66, x142_67, x142_68, x142_69, x142_70, x142_71, x142_74, x142_75, x142_76, x142_79, in142, reduceIte, Nat.reduceLT, nW_ap, nW_up, nI_add, pk_mul, nI_ltI, nI_eq, if_true, if_false, kont_r, kont_v, Nat.reduceAdd, Nat.reduceMul, Nat.not_lt, not_true_eq_false, not_false_eq_true, Nat.one_ne_zero, Nat.reduceEqDiff, Nat.lt_irrefl, reduceCtorEq, nI_or0, nI_or1, s1, s2, s3, tx_11]
      · refine ⟨by rw [e1]; show q1 ≤ 8; omega, fun _ => ?_, fun _ => by rw [e1]; show ¬ q1 = 8; omega⟩
        rw [e1]
        show stB q1 (sg N p1) = 9
        rcases (show q1 = 5 ∨ q1 = 6 by omega) with e | e
        · subst e
          have e5 : dig (sg N p1) = false := by rcases e5 with e | e; exact absurd e (by decide); exact e
          show (if dig (sg N p1) then 6 else if sg N p1 = 64 then 7 else 9) = 9
          rw [e5, if_neg k]; rfl
        · subst e
          show (if sg N p1 = 64 then 7 else 9) = 9
          rw [if_neg k]
  · have s1 := t141_f (X := X) (L := L) (Z := Z) (g := g) (T := T) (lo := 1) (hi := 99) hR h hp (by omega) (by omega) q
    have s2 := t140 (X := X) (L := L) (Z := Z) (ok := 0) (g := g) (T := T) (c := 64) hR h hp (Or.inl rfl) (by omega)
    have s3 := t141_0 (X := X) (L := L) (Z := Z) (g := g) (T := T) (lo := 0) (hi := 7) hR h hp
    rw [tkB_0] at s2
    have s2 : exec X 140 [vR 7 0, vI (nI 64)] (gg (nW (tx N p 0 g T)) R L Z) = some (.inl none, (gg (nW (tx N p 0 g T)) R L Z)) := s2
    refine ⟨p, 0, g, T, ?_, ⟨hp, Or.inr ⟨rfl, ?_⟩⟩, Nat.le_refl _⟩
    · simp (disch := first | assumption | omega | exact nI_or0 | exact nI_or1 | exact bN_or _) only [in142, x142_0, x142_1, x142_2, x142_4, x142_7, x142_8, x142_9, x142_11, x142_14, x142_15, x142_16, x142_18, x142_21, x142_22, x142_23, x142_26, x142_29, x142_30, x142_33, x142_34, x142_35, x142_38, x142_39, x142_40, x142_41, x142_42, x142_45, x142_46, x142_47, x142_50, x142_51, x142_52, x142_53, x142_54, x142_55, x142_56, x142_59, x142_60, x142_61, x142_64, x142_65, x142_66, x142_67, x142_68, x142_69, x142_70, x142_71, x142_74, x142_75, x142_76, x142_79, in142, reduceIte, Nat.reduceLT, nW_ap, nW_up, nI_add, pk_mul, nI_ltI, nI_eq, if_true, if_false, kont_r, kont_v, Nat.reduceAdd, Nat.reduceMul, Nat.not_lt, not_true_eq_false, not_false_eq_true, Nat.one_ne_zero, Nat.reduceEqDiff, Nat.lt_irrefl, reduceCtorEq, nI_or0, nI_or1, s1, s2, s3, tx_11]
    · have q' : ¬ (49 ≤ sg N p ∧ sg N p ≤ 57) := q
      refine ⟨by rw [hS]; show 4 ≤ 8; omega, fun _ => ?_, fun _ => by rw [hS]; show ¬ 4 = 8; omega⟩
      rw [hS]
      show (if dig (sg N p) = true ∧ ¬ sg N p = 48 then 5 else 9) = 9
      rw [if_neg fun e => q' (by have := of_decide_eq_true e.1; omega)]
/-- behind a part -/
def Ep (N : GV) (p ok g : Nat) (T : Nat → Nat) : Prop := p ≤ N 7 0 6 ∧ ((ok = 1 ∧ ∃ d c v l, PS N p = (8, d, c, v, l) ∧ TL T l ∧ g = l.length ∧ 4 * l.length ≤ p ∧ ¬ sg N p = 43) ∨ (ok = 0 ∧ Bad N p))
theorem l143 {X : XS} {N : GV} {R : GR} {L : GL} {Z : Nat × Nat × Bool} (hR : Rok R) (h : bufW N) {d : Nat} {x : Int32} : ∀ (m p ok g : Nat) (T : Nat → Nat), N 7 0 6 - p ≤ m → Eg N d p ok g T → (ok = 1 → x = nI d) → ∃ p' ok' g' T', ex X 143 20 [vR 7 0, vI x] [] (gg (nW (tx N p ok g T)) R L Z) = some (.inl none, (gg (nW (tx N p' ok' g' T')) R L Z)) ∧ Ep N p' ok' g' T' ∧ p ≤ p' := by
  intro m
  induction m with
  | zero =>
    intro p ok g T hm hE hx
    obtain ⟨hp, hE⟩ := hE
    have s1 := t139 (X := X) (L := L) (Z := Z) (ok := ok) (g := g) (T := T) (c := 43) hR h hp (by omega) (by omega)
    have e0 : sg N p = 0 := by unfold sg; rw [if_neg (by omega)]
    have ek : tkB N p ok 43 = false := decide_eq_false fun e => by omega
    rw [ek] at s1
    have s1 : exec X 139 [vR 7 0, vI (nI 43)] (gg (nW (tx N p ok g T)) R L Z) = some (.inl (some (vI (nI 0))), (gg (nW (tx N p ok g T)) R L Z)) := s1
    refine ⟨p, ok, g, T, ?_, ⟨hp, ?_⟩, Nat.le_refl _⟩
    · rw [x143_20]
      simp (disch := first | assumption | omega | exact nI_or0 | exact nI_or1 | exact bN_or _) only [x143_21, x143_23, x143_26, x143_29, x143_30, x143_31, x143_34, x143_37, reduceIte, Nat.reduceLT, nW_ap, nW_up, nI_add, pk_mul, nI_ltI, nI_eq, if_true, if_false, kont_r, kont_v, Nat.reduceAdd, Nat.reduceMul, Nat.not_lt, not_true_eq_false, not_false_eq_true, Nat.one_ne_zero, Nat.reduceEqDiff, Nat.lt_irrefl, reduceCtorEq, nI_or0, nI_or1, s1]
    · rcases hE with ⟨e, c, v, l, a1, a2, a3, a4⟩ | e
      · exact Or.inl ⟨e, d, c, v, l, a1, a2, a3, a4, by omega⟩
      · exact Or.inr e
  | succ m ih =>
    intro p ok g T hm hE hx
    obtain ⟨hp, hE⟩ := hE
    have s1 := t139 (X := X) (L := L) (Z := Z) (ok := ok) (g := g) (T := T) (c := 43) hR h hp (by omega) (by omega)
    cases ek : tkB N p ok 43 with
    | false =>
      rw [ek] at s1
      have s1 : exec X 139 [vR 7 0, vI (nI 43)] (gg (nW (tx N p ok g T)) R L Z) = some (.inl (some (vI (nI 0))), (gg (nW (tx N p ok g T)) R L Z)) := s1
      refine ⟨p, ok, g, T, ?_, ⟨hp, ?_⟩, Nat.le_refl _⟩
      · rw [x143_20]
        simp (disch := first | assumption | omega | exact nI_or0 | exact nI_or1 | exact bN_or _) only [x143_21, x143_23, x143_26, x143_29, x143_30, x143_31, x143_34, x143_37, reduceIte, Nat.reduceLT, nW_ap, nW_up, nI_add, pk_mul, nI_ltI, nI_eq, if_true, if_false, kont_r, kont_v, Nat.reduceAdd, Nat.reduceMul, Nat.not_lt, not_true_eq_false, not_false_eq_true, Nat.one_ne_zero, Nat.reduceEqDiff, Nat.lt_irrefl, reduceCtorEq, nI_or0, nI_or1, s1]
      · rcases hE with ⟨e, c, v, l, a1, a2, a3, a4⟩ | e
        · exact Or.inl ⟨e, d, c, v, l, a1, a2, a3, a4, fun q => by have := of_decide_eq_false ek; omega⟩
        · exact Or.inr e
    | true =>
      obtain ⟨k1, k2⟩ := of_decide_eq_true ek
      subst k1
      have hx := hx rfl
      subst hx
      rw [ek] at s1
      have s1 : exec X 139 [vR 7 0, vI (nI 43)] (gg (nW (tx N p 1 g T)) R L Z) = some (.inl (some (vI (nI 1))), (gg (nW (tx N (p + 1) 1 g T)) R L Z)) := s1
      have hlt := sg_lt (N := N) (p := p) (by omega)
      rcases hE with ⟨_, c, v, l, a1, a2, a3, a4⟩ | e
      · have hP : PS N (p + 1) = (4, d, c, 0, l) := by
          rw [PS_s (by omega), a1, k2]
          rfl
        obtain ⟨p', ok', g', T', b1, b2, b3⟩ := t142_1 (X := X) (L := L) (Z := Z) hR h (show p + 1 ≤ N 7 0 6 by omega) hP a2 a3 (by omega)
        obtain ⟨p2, ok2, g2, T2, c1, c2, c3⟩ := ih p' ok' g' T' (by omega) b2 fun _ => rfl
        refine ⟨p2, ok2, g2, T2, ?_, c2, by omega⟩
        rw [← c1, x143_20]
        simp (disch := first | assumption | omega | exact nI_or0 | exact nI_or1 | exact bN_or _) only [x143_21, x143_23, x143_26, x143_29, x143_30, x143_31, x143_34, reduceIte, Nat.reduceLT, nW_ap, nW_up, nI_add, pk_mul, nI_ltI, nI_eq, if_true, if_false, kont_r, kont_v, Nat.reduceAdd, Nat.reduceMul, Nat.not_lt, not_true_eq_false, not_false_eq_true, Nat.one_ne_zero, Nat.reduceEqDiff, Nat.lt_irrefl, reduceCtorEq, nI_or0, nI_or1, s1, b1]
      · omega
theorem t143 {X : XS} {N : GV} {R : GR} {L : GL} {Z : Nat × Nat × Bool} (hR : Rok R) (h : bufW N) {p g d c0 : Nat} {T : Nat → Nat} {l : List OT} (hp : p ≤ N 7 0 6) (hS : PS N p = (0, d, c0, 0, l)) (hT : TL T l) (hg : g = l.length) (hl : 4 * l.length ≤ p) : ∃ p' ok' g' T', exec X 143 [vR 7 0] (gg (nW (tx N p 1 g T)) R L Z) = some (.inl none, (gg (nW (tx N p' ok' g' T')) R L Z)) ∧ Ep N p' ok' g' T' ∧ p ≤ p' := by
  have h6 := h.1
  by_cases q : 48 + 0 ≤ sg N p ∧ sg N p ≤ upD 999
  · have q' : 48 ≤ sg N p ∧ sg N p ≤ 57 := q
    obtain ⟨s1, s1p⟩ := t141_t (X := X) (L := L) (Z := Z) (g := g) (T := T) (lo := 0) (hi := 999) hR h hp (by omega) (by omega) q
    obtain ⟨q1, v, e1, e2, e3, e4, e5, e6, e7⟩ := num_d hS q'
    rw [← e2] at s1
    generalize (numV N 999 100 (p + 1) (sg N p - 48)).1 = p1 at s1 s1p e1 e5 e7
    have s2 := t140 (X := X) (L := L) (Z := Z) (ok := 1) (g := g) (T := T) (c := 58) hR h s1p (Or.inr rfl) (by omega)
    by_cases k : sg N p1 = 58
    · have ek : tkB N p1 1 58 = true := decide_eq_true ⟨rfl, k⟩
      rw [ek] at s2
      have s2 : exec X 140 [vR 7 0, vI (nI 58)] (gg (nW (tx N p1 1 g T)) R L Z) = some (.inl none, (gg (nW (tx N (p1 + 1) 1 g T)) R L Z)) := s2
      have lt1 := sg_lt (N := N) (p := p1) (by omega)
      have hP : PS N (p1 + 1) = (4, v, c0, 0, l) := by
        rw [PS_s (by omega), e1, k]
        have hq : stB q1 58 = 4 := by
          rcases (show q1 = 1 ∨ q1 = 2 ∨ q1 = 3 by omega) with e | e | e <;> subst e <;> rfl
        unfold stP
        simp only [hq]
        rfl
      obtain ⟨p', ok', g', T', b1, b2, b3⟩ := t142_1 (X := X) (L := L) (Z := Z) hR h (show p1 + 1 ≤ N 7 0 6 by omega) hP hT hg (by omega)
      obtain ⟨p2, ok2, g2, T2, c1, c2, c3⟩ := l143 (X := X) (L := L) (Z := Z) (x := nI v) hR h 100 p' ok' g' T' (by omega) b2 fun _ => rfl
      refine ⟨p2, ok2, g2, T2, ?_, c2, by omega⟩
      rw [← c1]
      simp (disch := first | assumption | omega | exact nI_or0 | exact nI_or1 | exact bN_or _) only [in143, x143_0, x143_1, x143_2, x143_5, x143_8, x143_9, x143_10, x143_12, x143_15, x143_16, x143_17, reduceIte, Nat.reduceLT, nW_ap, nW_up, nI_add, pk_mul, nI_ltI, nI_eq, if_true, if_false, kont_r, kont_v, Nat.reduceAdd, Nat.reduceMul, Nat.not_lt, not_true_eq_false, not_false_eq_true, Nat.one_ne_zero, Nat.reduceEqDiff, Nat.lt_irrefl, reduceCtorEq, nI_or0, nI_or1, s1, s2, b1]
    · have ek : tkB N p1 1 58 = false := decide_eq_false fun e => k e.2
      rw [ek] at s2
      have s2 : exec X 140 [vR 7 0, vI (nI 58)] (gg (nW (tx N p1 1 g T)) R L Z) = some (.inl none, (gg (nW (tx N p1 0 g T)) R L Z)) := s2
      have b1 := t142_0 (X := X) (L := L) (Z := Z) (g := g) (T := T) (x := nI v) hR h s1p
      have hB : Bad N p1 := by
        refine ⟨by rw [e1]; show q1 ≤ 8; omega, fun _ => ?_, fun _ => by rw [e1]; show ¬ q1 = 8; omega⟩
        rw [e1]
        show stB q1 (sg N p1) = 9
        rcases (show q1 = 1 ∨ q1 = 2 ∨ q1 = 3 by omega) with e | e | e
        · subst e
          have e5 : dig (sg N p1) = false := by rcases e5 with e | e; exact absurd e (by decide); exact e
          show (if dig (sg N p1) then 2 else if sg N p1 = 58 then 4 else 9) = 9
          rw [e5, if_neg k]; rfl
        · subst e
          have e5 : dig (sg N p1) = false := by rcases e5 with e | e; exact absurd e (by decide); exact e
          show (if dig (sg N p1) then 3 else if sg N p1 = 58 then 4 else 9) = 9
          rw [e5, if_neg k]; rfl
        · subst e
          show (if sg N p1 = 58 then 4 else 9) = 9
          rw [if_neg k]
      obtain ⟨p2, ok2, g2, T2, c1, c2, c3⟩ := l143 (X := X) (L := L) (Z := Z) (x := nI v) (d := 0) hR h 100 p1 0 g T (by omega) ⟨s1p, Or.inr ⟨rfl, hB⟩⟩ fun e => by omega
      refine ⟨p2, ok2, g2, T2, ?_, c2, by omega⟩
      rw [← c1]
      simp (disch := first | assumption | omega | exact nI_or0 | exact nI_or1 | exact bN_or _) only [in143, x143_0, x143_1, x143_2, x143_5, x143_8, x143_9, x143_10, x143_12, x143_15, x143_16, x143_17, reduceIte, Nat.reduceLT, nW_ap, nW_up, nI_add, pk_mul, nI_ltI, nI_eq, if_true, if_false, kont_r, kont_v, Nat.reduceAdd, Nat.reduceMul, Nat.not_lt, not_true_eq_false, not_false_eq_true, Nat.one_ne_zero, Nat.reduceEqDiff, Nat.lt_irrefl, reduceCtorEq, nI_or0, nI_or1, s1, s2, b1]
  · have s1 := t141_f (X := X) (L := L) (Z := Z) (g := g) (T := T) (lo := 0) (hi := 999) hR h hp (by omega) (by omega) q
    have s2 := t140 (X := X) (L := L) (Z := Z) (ok := 0) (g := g) (T := T) (c := 58) hR h hp (Or.inl rfl) (by omega)
    have b1 := t142_0 (X := X) (L := L) (Z := Z) (g := g) (T := T) (x := nI (sg N p) - nI 48) hR h hp
    rw [tkB_0] at s2
    have s2 : exec X 140 [vR 7 0, vI (nI 58)] (gg (nW (tx N p 0 g T)) R L Z) = some (.inl none, (gg (nW (tx N p 0 g T)) R L Z)) := s2
    have q' : ¬ (48 ≤ sg N p ∧ sg N p ≤ 57) := q
    have hB : Bad N p := by
      refine ⟨by rw [hS]; show 0 ≤ 8; omega, fun _ => ?_, fun _ => by rw [hS]; show ¬ 0 = 8; omega⟩
      rw [hS]
      have e5 : dig (sg N p) = false := decide_eq_false q'
      show (if sg N p = 48 then 3 else if dig (sg N p) then 1 else 9) = 9
      rw [e5, if_neg (by omega)]; rfl
    obtain ⟨p2, ok2, g2, T2, c1, c2, c3⟩ := l143 (X := X) (L := L) (Z := Z) (x := nI (sg N p) - nI 48) (d := 0) hR h 100 p 0 g T (by omega) ⟨hp, Or.inr ⟨rfl, hB⟩⟩ fun e => by omega
    refine ⟨p2, ok2, g2, T2, ?_, c2, by omega⟩
    rw [← c1]
    simp (disch := first | assumption | omega | exact nI_or0 | exact nI_or1 | exact bN_or _) only [in143, x143_0, x143_1, x143_2, x143_5, x143_8, x143_9, x143_10, x143_12, x143_15, x143_16, x143_17, reduceIte, Nat.reduceLT, nW_ap, nW_up, nI_add, pk_mul, nI_ltI, nI_eq, if_true, if_false, kont_r, kont_v, Nat.reduceAdd, Nat.reduceMul, Nat.not_lt, not_true_eq_false, not_false_eq_true, Nat.one_ne_zero, Nat.reduceEqDiff, Nat.lt_irrefl, reduceCtorEq, nI_or0, nI_or1, s1, s2, b1]
/-- behind all -/
def Ea (N : GV) (p ok g : Nat) (T : Nat → Nat) : Prop := (ok = 1 ∧ p = N 7 0 6 ∧ ∃ d c v l, PS N p = (8, d, c, v, l) ∧ TL T l ∧ g = l.length ∧ 4 * l.length ≤ p) ∨ (ok = 0 ∧ p ≤ N 7 0 6 ∧ Bad N p)
theorem l144 {X : XS} {N : GV} {R : GR} {L : GL} {Z : Nat × Nat × Bool} (hR : Rok R) (h : bufW N) : ∀ (m p ok g : Nat) (T : Nat → Nat), N 7 0 6 - p ≤ m → Ep N p ok g T → ∃ p' ok' g' T', ex X 144 19 [vR 7 0] [] (gg (nW (tx N p ok g T)) R L Z) = some (.inl none, (gg (nW (tx N p' ok' g' T')) R L Z)) ∧ Ea N p' ok' g' T' := by
  have h6 := h.1
  intro m
  induction m with
  | zero =>
    intro p ok g T hm hE
    obtain ⟨hp, hE⟩ := hE
    rcases hE with ⟨e, d, c, v, l, a1, a2, a3, a4, a5⟩ | ⟨e, hB⟩
    · subst e
      refine ⟨p, 1, g, T, ?_, Or.inl ⟨rfl, by omega, d, c, v, l, a1, a2, a3, a4⟩⟩
      have q : ¬ p < N 7 0 6 := by omega
      rw [x144_19]
      simp (disch := first | assumption | omega | exact nI_or0 | exact nI_or1 | exact bN_or _) only [x144_20, x144_23, x144_26, x144_27, x144_30, x144_31, x144_34, x144_37, x144_38, x144_40, x144_43, x144_44, x144_47, x144_50, x144_51, x144_54, x144_57, reduceIte, Nat.reduceLT, nW_ap, nW_up, nI_add, pk_mul, nI_ltI, nI_eq, if_true, if_false, kont_r, kont_v, Nat.reduceAdd, Nat.reduceMul, Nat.not_lt, not_true_eq_false, not_false_eq_true, Nat.one_ne_zero, Nat.reduceEqDiff, Nat.lt_irrefl, reduceCtorEq, nI_or0, nI_or1, tx_11, tx_10, tx_6, q]
    · subst e
      refine ⟨p, 0, g, T, ?_, Or.inr ⟨rfl, hp, hB⟩⟩
      rw [x144_19]
      simp (disch := first | assumption | omega | exact nI_or0 | exact nI_or1 | exact bN_or _) only [x144_20, x144_23, x144_26, x144_27, x144_30, x144_31, x144_34, x144_37, x144_38, x144_40, x144_43, x144_44, x144_47, x144_50, x144_51, x144_54, x144_57, reduceIte, Nat.reduceLT, nW_ap, nW_up, nI_add, pk_mul, nI_ltI, nI_eq, if_true, if_false, kont_r, kont_v, Nat.reduceAdd, Nat.reduceMul, Nat.not_lt, not_true_eq_false, not_false_eq_true, Nat.one_ne_zero, Nat.reduceEqDiff, Nat.lt_irrefl, reduceCtorEq, nI_or0, nI_or1, tx_11]
  | succ m ih =>
    intro p ok g T hm hE
    obtain ⟨hp, hE⟩ := hE
    rcases hE with ⟨e, d, c, v, l, a1, a2, a3, a4, a5⟩ | ⟨e, hB⟩
    · subst e
      by_cases q : p < N 7 0 6
      · have s1 := t140 (X := X) (L := L) (Z := Z) (ok := 1) (g := g) (T := T) (c := 59) hR h hp (Or.inr rfl) (by omega)
        by_cases k : sg N p = 59
        · have ek : tkB N p 1 59 = true := decide_eq_true ⟨rfl, k⟩
          rw [ek] at s1
          have s1 : exec X 140 [vR 7 0, vI (nI 59)] (gg (nW (tx N p 1 g T)) R L Z) = some (.inl none, (gg (nW (tx N (p + 1) 1 g T)) R L Z)) := s1
          have hP : PS N (p + 1) = (0, d, c, 0, l) := by
            rw [PS_s (by omega), a1, k]
            rfl
          obtain ⟨p', ok', g', T', b1, b2, b3⟩ := t143 (X := X) (L := L) (Z := Z) hR h (show p + 1 ≤ N 7 0 6 by omega) hP a2 a3 (by omega)
          obtain ⟨p2, ok2, g2, T2, c1, c2⟩ := ih p' ok' g' T' (by omega) b2
          refine ⟨p2, ok2, g2, T2, ?_, c2⟩
          rw [← c1, x144_19]
          simp (disch := first | assumption | omega | exact nI_or0 | exact nI_or1 | exact bN_or _) only [x144_20, x144_23, x144_26, x144_27, x144_30, x144_31, x144_34, x144_37, x144_38, x144_40, x144_43, x144_44, x144_47, x144_50, x144_51, x144_54, reduceIte, Nat.reduceLT, nW_ap, nW_up, nI_add, pk_mul, nI_ltI, nI_eq, if_true, if_false, kont_r, kont_v, Nat.reduceAdd, Nat.reduceMul, Nat.not_lt, not_true_eq_false, not_false_eq_true, Nat.one_ne_zero, Nat.reduceEqDiff, Nat.lt_irrefl, reduceCtorEq, nI_or0, nI_or1, tx_11, tx_10, tx_6, q, s1, b1]
        · have ek : tkB N p 1 59 = false := decide_eq_false fun e => k e.2
          rw [ek] at s1
          have s1 : exec X 140 [vR 7 0, vI (nI 59)] (gg (nW (tx N p 1 g T)) R L Z) = some (.inl none, (gg (nW (tx N p 0 g T)) R L Z)) := s1
          refine ⟨p, 0, g, T, ?_, Or.inr ⟨rfl, hp, ?_⟩⟩
          · have s2 : ex X 144 19 [vR 7 0] [] (gg (nW (tx N p 0 g T)) R L Z) = some (.inl none, (gg (nW (tx N p 0 g T)) R L Z)) := by
              rw [x144_19]
              simp (disch := first | assumption | omega | exact nI_or0 | exact nI_or1 | exact bN_or _) only [x144_20, x144_23, x144_26, x144_27, x144_30, x144_31, x144_34, x144_37, x144_38, x144_40, x144_43, x144_44, x144_47, x144_50, x144_51, x144_54, x144_57, reduceIte, Nat.reduceLT, nW_ap, nW_up, nI_add, pk_mul, nI_ltI, nI_eq, if_true, if_false, kont_r, kont_v, Nat.reduceAdd, Nat.reduceMul, Nat.not_lt, not_true_eq_false, not_false_eq_true, Nat.one_ne_zero, Nat.reduceEqDiff, Nat.lt_irrefl, reduceCtorEq, nI_or0, nI_or1, tx_11]
            rw [x144_19]
            simp (disch := first | assumption | omega | exact nI_or0 | exact nI_or1 | exact bN_or _) only [x144_20, x144_23, x144_26, x144_27, x144_30, x144_31, x144_34, x144_37, x144_38, x144_40, x144_43, x144_44, x144_47, x144_50, x144_51, x144_54, reduceIte, Nat.reduceLT, nW_ap, nW_up, nI_add, pk_mul, nI_ltI, nI_eq, if_true, if_false, kont_r, kont_v, Nat.reduceAdd, Nat.reduceMul, Nat.not_lt, not_true_eq_false, not_false_eq_true, Nat.one_ne_zero, Nat.reduceEqDiff, Nat.lt_irrefl, reduceCtorEq, nI_or0, nI_or1, tx_11, tx_10, tx_6, q, s1, s2]
          · refine ⟨by rw [a1]; show 8 ≤ 8; omega, fun _ => ?_, fun e => by omega⟩
            rw [a1]
            show (if sg N p = 43 then 4 else if sg N p = 59 then 0 else 9) = 9
            rw [if_neg a5, if_neg k]
      · refine ⟨p, 1, g, T, ?_, Or.inl ⟨rfl, by omega, d, c, v, l, a1, a2, a3, a4⟩⟩
        rw [x144_19]
        simp (disch := first | assumption | omega | exact nI_or0 | exact nI_or1 | exact bN_or _) only [x144_20, x144_23, x144_26, x144_27, x144_30, x144_31, x144_34, x144_37, x144_38, x144_40, x144_43, x144_44, x144_47, x144_50, x144_51, x144_54, x144_57, reduceIte, Nat.reduceLT, nW_ap, nW_up, nI_add, pk_mul, nI_ltI, nI_eq, if_true, if_false, kont_r, kont_v, Nat.reduceAdd, Nat.reduceMul, Nat.not_lt, not_true_eq_false, not_false_eq_true, Nat.one_ne_zero, Nat.reduceEqDiff, Nat.lt_irrefl, reduceCtorEq, nI_or0, nI_or1, tx_11, tx_10, tx_6, q]
    · subst e
      refine ⟨p, 0, g, T, ?_, Or.inr ⟨rfl, hp, hB⟩⟩
      rw [x144_19]
      simp (disch := first | assumption | omega | exact nI_or0 | exact nI_or1 | exact bN_or _) only [x144_20, x144_23, x144_26, x144_27, x144_30, x144_31, x144_34, x144_37, x144_38, x144_40, x144_43, x144_44, x144_47, x144_50, x144_51, x144_54, x144_57, reduceIte, Nat.reduceLT, nW_ap, nW_up, nI_add, pk_mul, nI_ltI, nI_eq, if_true, if_false, kont_r, kont_v, Nat.reduceAdd, Nat.reduceMul, Nat.not_lt, not_true_eq_false, not_false_eq_true, Nat.one_ne_zero, Nat.reduceEqDiff, Nat.lt_irrefl, reduceCtorEq, nI_or0, nI_or1, tx_11]
theorem t144 {X : XS} {N : GV} {R : GR} {L : GL} {Z : Nat × Nat × Bool} (hR : Rok R) (h : bufW N) : ∃ p' ok' g' T', exec X 144 [vR 7 0] (gg (nW N) R L Z) = some (.inl none, (gg (nW (tx N p' ok' g' T')) R L Z)) ∧ Ea N p' ok' g' T' := by
  have h6 := h.1
  obtain ⟨p', ok', g', T', b1, b2, b3⟩ := t143 (X := X) (L := L) (Z := Z) (N := N) (p := 0) (g := 0) (T := N 29 0) (l := []) hR h (Nat.zero_le _) rfl (fun j w hj => absurd hj (Nat.not_lt_zero _)) rfl (Nat.le_refl _)
  obtain ⟨p2, ok2, g2, T2, c1, c2⟩ := l144 (X := X) (L := L) (Z := Z) hR h 100 p' ok' g' T' (by omega) b2
  refine ⟨p2, ok2, g2, T2, ?_, c2⟩
  rw [← c1]
  have e : up3 (up3 (up3 N 7 0 10 0) 7 0 11 1) 7 0 13 0 = tx N 0 1 0 (N 29 0) := by
    have := tx_self (N := N)
    rw [← tx_u13 (g := N 7 0 13), ← tx_u11 (ok := N 7 0 11), ← tx_u10 (p := N 7 0 10), this]
  simp (disch := first | assumption | omega | exact nI_or0 | exact nI_or1 | exact bN_or _) only [in144, x144_0, x144_1, x144_2, x144_5, x144_6, x144_7, x144_10, x144_11, x144_12, x144_15, x144_16, reduceIte, Nat.reduceLT, nW_ap, nW_up, nI_add, pk_mul, nI_ltI, nI_eq, if_true, if_false, kont_r, kont_v, Nat.reduceAdd, Nat.reduceMul, Nat.not_lt, not_true_eq_false, not_false_eq_true, Nat.one_ne_zero, Nat.reduceEqDiff, Nat.lt_irrefl, reduceCtorEq, nI_or0, nI_or1, e, b1]
