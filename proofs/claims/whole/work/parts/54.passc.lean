/-! the class passes a day -/
theorem l39 {X : XS} {R : GR} {L : GL} {Z : Nat × Nat × Bool} (hR : Rok R) {K P d : Nat} {c : Bool} {σ : List Nat} (hP : P < 8) (hs17 : σ.length ≤ 17) : ∀ (rest done : List Nat) (N V : GV) (n : Nat), done ++ rest = σ → (rest.filter fun k => decide (V 22 0 (153 + 3 * k) = d)).length ≤ n → GB K P c N V → OI K V → (∀ k, k < 5 → N 18 P k = V 22 0 k) → V 22 0 5 = d → N 4 P 3 = σ.length → V 22 0 7 = σ.length → (∀ i, i < σ.length → coA N P i = ouA (V 22 0) (σ.getD i 0)) → (rest.Pairwise fun a b => bef (V 22 0) a b = true) → (∀ k, k ∈ σ ↔ k < V 22 0 7) → (∀ k, V 22 0 (153 + 3 * k) = d → ((k < V 22 0 7 ∧ V 27 0 k = 0) ↔ k ∈ rest)) → ∃ N', ex X 39 17 [vR 5 P, vI (nI (bN c)), vI (nI done.length)] [] (gg (nW N) R L Z) = ex X 39 73 [vR 5 P, vI (nI (bN c)), vI (nI σ.length)] [] (gg (nW (N')) R L Z) ∧ GB K P c N' (outI d n V) ∧ FrC P N N' := by
  intro rest
  induction rest with
  | nil =>
    intro done N V n hdq hn hG hO h18 hd h4 h7 hco hpw hm hu
    have hdl : done.length = σ.length := by rw [← hdq, List.append_nil]
    have hno : nxoN (V 22 0) (V 27 0) d (V 22 0 7) = none := by
      cases e : nxoN (V 22 0) (V 27 0) d (V 22 0 7) with
      | none => rfl
      | some k =>
        have a := nxoN_lt e
        have := (hu k a.2.1).1 ⟨a.1, a.2.2⟩
        cases this
    have hw : outI d n V = V := by
      cases n with
      | zero => rfl
      | succ n => simp only [outI, hno]
    refine ⟨N, ?_, by rw [hw]; exact hG, FrC.rf⟩
    rw [hdl, x39_17]
    simp (disch := first | assumption | omega | exact nI_or0 | exact nI_or1 | exact bN_or _) only [x39_18, x39_19, x39_22, x39_25, reduceIte, Nat.reduceLT, nW_ap, nW_up, nI_add, pk_mul, nI_ltI, nI_eq, if_true, if_false, kont_r, kont_v, Nat.reduceAdd, Nat.reduceMul, Nat.not_lt, not_true_eq_false, not_false_eq_true, Nat.one_ne_zero, Nat.reduceEqDiff, Nat.lt_irrefl, reduceCtorEq, nI_or0, nI_or1, h4]
  | cons k bs ih =>
    intro done N V n hdq hn hG hO h18 hd h4 h7 hco hpw hm hu
    rw [List.pairwise_cons] at hpw
    obtain ⟨hp1, hp2⟩ := hpw
    have hlen : done.length < σ.length := by rw [← hdq, List.length_append, List.length_cons]; omega
    have hk : σ.getD done.length 0 = k := by rw [← hdq, gD_r (Nat.le_refl _), Nat.sub_self]; rfl
    have hkm : k < V 22 0 7 := by rw [← hm, ← hdq]; exact List.mem_append_right _ List.mem_cons_self
    have hD := hG.1.1
    have hK := hD.hK
    have hc := hco done.length hlen
    rw [hk] at hc
    unfold coA ouA at hc
    injection hc with c14 c15
    injection c15 with c15 c16
    have ho := hD.ou (k := k) (by omega)
    have h5 := hD.h5
    have e5 : N 5 P 0 = V 22 0 5 := hG.2.2.2.1
    have hi17 : done.length < 17 := by omega
    have hnb : k ∉ bs := fun x => by
      have := hp1 k x
      unfold bef at this
      have := of_decide_eq_true this
      omega
    have el : (done ++ [k]).length = done.length + 1 := by rw [List.length_append]; rfl
    by_cases q : V 22 0 (153 + 3 * k) = d
    · have hmin : nxoN (V 22 0) (V 27 0) d (V 22 0 7) = some k := by
        have hu' := (hu k q).2 List.mem_cons_self
        refine nxoN_min q hu'.2 _ hkm fun i hi hne h1 h2 => ?_
        rcases List.mem_cons.1 ((hu i h1).1 ⟨hi, h2⟩) with e | e
        · exact absurd e hne
        · have := hp1 i e
          unfold bef at this
          have := of_decide_eq_true this
          omega
      have hf : ((k :: bs).filter fun k => decide (V 22 0 (153 + 3 * k) = d)).length = (bs.filter fun k => decide (V 22 0 (153 + 3 * k) = d)).length + 1 := by
        rw [List.filter_cons_of_pos (by exact decide_eq_true q)]; rfl
      obtain ⟨m, hm'⟩ : ∃ m, n = m + 1 := ⟨n - 1, by omega⟩
      subst hm'
      have ew : outI d (m + 1) V = outI d m (drkN (up3 V 27 0 k 1) (V 22 0 (153 + 3 * k + 1)) (V 22 0 (153 + 3 * k + 2))) := by simp only [outI, hmin]
      rw [ew]
      have hG' : GB K P c N (up3 V 27 0 k 1) := by
        obtain ⟨⟨g1, g2⟩, g3, g4, g5, g6⟩ := hG
        have e22 : (up3 V 27 0 k 1) 22 0 = V 22 0 := upk0 (by decide)
        refine ⟨⟨g1.k (by decide), fun p hp => by rw [up3_k _ _ (by decide)]; exact g2 p hp⟩, g3.e e22, g4.e e22 (upk0 (by decide)), by rw [e22]; exact g5, by rw [e22]; exact g6⟩
      obtain ⟨N1, s1, g1, f1⟩ := g43 (X := X) (N := N) (L := L) (Z := Z) (ch := V 22 0 (153 + 3 * k + 1)) (g := V 22 0 (153 + 3 * k + 2)) hR hP (by omega) (by omega) hG' (by rw [up3_k _ _ (by decide)]; exact h18 2 (by omega))
      have hF : Fr V (drkN (up3 V 27 0 k 1) (V 22 0 (153 + 3 * k + 1)) (V 22 0 (153 + 3 * k + 2))) := (Fr.rf.u2 (by omega)).dr
      have h27 : ∀ i, (drkN (up3 V 27 0 k 1) (V 22 0 (153 + 3 * k + 1)) (V 22 0 (153 + 3 * k + 2))) 27 0 i = if i = k then 1 else V 27 0 i := fun i => by rw [drkN_k (by decide) (by decide) (by decide), up27]
      have hO1 := hO.nx (k := k) (c := V 22 0 (153 + 3 * k + 1)) (g := V 22 0 (153 + 3 * k + 2))
      generalize drkN (up3 V 27 0 k 1) (V 22 0 (153 + 3 * k + 1)) (V 22 0 (153 + 3 * k + 2)) = W at g1 hF h27 hO1 ⊢
      have w5 : W 22 0 5 = d := by rw [hF _ _ _ (by omega) (by decide) (by decide) (by decide), hd]
      have w7 : W 22 0 7 = V 22 0 7 := hF _ _ _ (by omega) (by decide) (by decide) (by decide)
      have wo : ∀ i, W 22 0 (153 + 3 * i) = V 22 0 (153 + 3 * i) := fun i => hF _ _ _ (by omega) (by decide) (by decide) (by decide)
      have wb : (fun a b => bef (W 22 0) a b = true) = fun a b => bef (V 22 0) a b = true := by funext a b; rw [bef_e hF]
      obtain ⟨N', a1, a2, a3⟩ := ih (done ++ [k]) N1 W m (by rw [List.append_assoc]; exact hdq) (by simp only [wo]; omega) g1 hO1 (fun i hi => by rw [f1 _ _ _ (by omega) (by omega) (by omega), hF _ _ _ (by omega) (by decide) (by decide) (by decide)]; exact h18 i hi) w5 (by rw [f1 _ _ _ (by omega) (by omega) (by omega), h4]) (by rw [w7, h7]) (fun i hi => by
          rw [ouA_e hF, ← hco i hi]
          unfold coA
          rw [f1 _ _ _ (by omega) (by omega) (by omega), f1 _ _ _ (by omega) (by omega) (by omega), f1 _ _ _ (by omega) (by omega) (by omega)]) (by rw [wb]; exact hp2) (fun i => by rw [w7]; exact hm i) (fun i hi => by
          rw [wo] at hi
          rw [w7, h27]
          have hui := hu i hi
          constructor
          · rintro ⟨x, y⟩
            by_cases e : i = k
            · rw [if_pos e] at y; omega
            · rw [if_neg e] at y
              rcases List.mem_cons.1 (hui.1 ⟨x, y⟩) with z | z
              · exact absurd z e
              · exact z
          · intro x
            have e : ¬ i = k := fun e => hnb (e ▸ x)
            rw [if_neg e]
            exact hui.2 (List.mem_cons_of_mem _ x))
      refine ⟨N', ?_, a2, f1.tr a3⟩
      rw [el] at a1
      rw [← a1, x39_17]
      have h14 : N 14 P done.length = V 22 0 5 := by rw [c14, q, hd]
      simp (disch := first | assumption | omega | exact nI_or0 | exact nI_or1 | exact bN_or _) only [x39_18, x39_19, x39_22, x39_25, x39_28, x39_29, x39_32, x39_35, x39_36, x39_37, x39_38, x39_41, x39_44, x39_45, x39_46, x39_49, x39_52, x39_53, x39_54, x39_55, x39_58, x39_61, x39_62, x39_63, x39_64, x39_67, x39_70, reduceIte, Nat.reduceLT, nW_ap, nW_up, nI_add, pk_mul, nI_ltI, nI_eq, if_true, if_false, kont_r, kont_v, Nat.reduceAdd, Nat.reduceMul, Nat.not_lt, not_true_eq_false, not_false_eq_true, Nat.one_ne_zero, Nat.reduceEqDiff, Nat.lt_irrefl, reduceCtorEq, nI_or0, nI_or1, h4, hlen, h14, e5, c15, c16, s1]
    · have hf : ((k :: bs).filter fun k => decide (V 22 0 (153 + 3 * k) = d)) = bs.filter fun k => decide (V 22 0 (153 + 3 * k) = d) := List.filter_cons_of_neg (by intro x; exact q (of_decide_eq_true x))
      rw [hf] at hn
      obtain ⟨N', a1, a2, a3⟩ := ih (done ++ [k]) N V n (by rw [List.append_assoc]; exact hdq) hn hG hO h18 hd h4 h7 hco hp2 hm (fun i hi => by
        rw [hu i hi]
        constructor
        · intro x
          rcases List.mem_cons.1 x with z | z
          · subst z; exact absurd hi q
          · exact z
        · exact fun x => List.mem_cons_of_mem _ x)
      refine ⟨N', ?_, a2, a3⟩
      rw [el] at a1
      rw [← a1, x39_17]
      have q' : ¬ V 22 0 (153 + 3 * k) = V 22 0 5 := by rw [hd]; exact q
      simp (disch := first | assumption | omega | exact nI_or0 | exact nI_or1 | exact bN_or _) only [x39_18, x39_19, x39_22, x39_25, x39_28, x39_29, x39_32, x39_35, x39_36, x39_37, x39_38, x39_41, x39_44, x39_45, x39_46, x39_49, x39_52, x39_53, x39_54, x39_55, x39_58, x39_61, x39_62, x39_63, x39_64, x39_67, x39_70, reduceIte, Nat.reduceLT, nW_ap, nW_up, nI_add, pk_mul, nI_ltI, nI_eq, if_true, if_false, kont_r, kont_v, Nat.reduceAdd, Nat.reduceMul, Nat.not_lt, not_true_eq_false, not_false_eq_true, Nat.one_ne_zero, Nat.reduceEqDiff, Nat.lt_irrefl, reduceCtorEq, nI_or0, nI_or1, h4, hlen, c14, e5, q']
