/-! outings of a day leave both lists -/
theorem len_n : ∀ {n : Nat} {l : List Nat}, l.Nodup → (∀ k, k ∈ l ↔ k < n) → l.length = n := by
  intro n
  induction n with
  | zero =>
    intro l _ h
    cases l with
    | nil => rfl
    | cons a l => have := (h a).1 List.mem_cons_self; omega
  | succ n ih =>
    intro l hd h
    have hm : n ∈ l := (h n).2 (by omega)
    have h1 := ih (l := l.erase n) (hd.erase n) fun k => by
      rw [hd.mem_erase_iff, h]
      omega
    have h2 := List.length_erase_of_mem hm
    have h3 : 0 < l.length := List.length_pos_of_mem hm
    omega
theorem bef_ir {S : Nat → Nat} {a b : Nat} (h : bef S a b = true) : ¬ a = b := fun e => by
  subst e
  unfold bef at h
  have := of_decide_eq_true h
  omega
theorem SO.nd {V : GV} {σ : List Nat} (h : SO V σ) : σ.Nodup := h.1.imp fun h => bef_ir h
theorem SO.len {V : GV} {σ : List Nat} (h : SO V σ) : σ.length = V 22 0 7 := len_n h.nd h.2
/-- the new number of an outing that stays -/
def cnt (S : Nat → Nat) (d k : Nat) : Nat := ((ouL S k).filter fun o => decide (¬ o.1 = d)).length
theorem cnt_s {S : Nat → Nat} {d k : Nat} : cnt S d (k + 1) = cnt S d k + if S (153 + 3 * k) = d then 0 else 1 := by
  unfold cnt
  rw [ouL_s, List.filter_append, List.length_append]
  by_cases q : S (153 + 3 * k) = d
  · rw [if_pos q]
    simp [ouA, q]
  · rw [if_neg q]
    simp [ouA, q]
theorem cnt_m {S : Nat → Nat} {d i : Nat} : ∀ j, i ≤ j → cnt S d i ≤ cnt S d j := by
  intro j
  induction j with
  | zero => intro h; rw [show i = 0 by omega]; exact Nat.le_refl _
  | succ j ih =>
    intro h
    by_cases e : i = j + 1
    · subst e; exact Nat.le_refl _
    · have := ih (by omega)
      rw [cnt_s]
      omega
theorem cnt_l {S : Nat → Nat} {d i j : Nat} (hi : ¬ S (153 + 3 * i) = d) (h : i < j) : cnt S d i < cnt S d j := by
  have := cnt_m (S := S) (d := d) (i := i + 1) j h
  rw [cnt_s, if_neg hi] at this
  omega
theorem cnt_g {S : Nat → Nat} {d k : Nat} (hk : ¬ S (153 + 3 * k) = d) : ∀ n, k < n → ((ouL S n).filter fun o => decide (¬ o.1 = d)).getD (cnt S d k) (0, 0, 0) = ouA S k := by
  intro n
  induction n with
  | zero => intro h; omega
  | succ n ih =>
    intro h
    rw [ouL_s, List.filter_append]
    by_cases e : k = n
    · subst e
      unfold cnt
      rw [gD_r (Nat.le_refl _), Nat.sub_self, List.filter_cons_of_pos (by exact decide_eq_true hk)]
      rfl
    · have hlt := cnt_l (d := d) hk (show k < n by omega)
      rw [gD_l hlt]
      exact ih (by omega)
theorem cnt_j {S : Nat → Nat} {d : Nat} : ∀ n x, x < cnt S d n → ∃ k, k < n ∧ ¬ S (153 + 3 * k) = d ∧ cnt S d k = x := by
  intro n
  induction n with
  | zero => intro x h; exact absurd h (Nat.not_lt_zero _)
  | succ n ih =>
    intro x h
    by_cases q : x < cnt S d n
    · obtain ⟨k, a, b⟩ := ih x q
      exact ⟨k, by omega, b⟩
    · rw [cnt_s] at h
      by_cases e : S (153 + 3 * n) = d
      · rw [if_pos e] at h; omega
      · rw [if_neg e] at h
        exact ⟨n, by omega, e, by omega⟩
theorem fld_3 {o : OT} : (fld o 0, fld o 1, fld o 2) = o := rfl
theorem ouA_set {V : GV} {l : List OT} {k : Nat} (hk : k < 17) : ouA ((setO V l) 22 0) k = l.getD k (0, 0, 0) := by
  unfold ouA setO
  rw [if_pos (by omega), if_pos (by omega), if_pos (by omega), show (153 + 3 * k - 153) / 3 = k by omega, show (153 + 3 * k - 153) % 3 = 0 by omega, show (153 + 3 * k + 1 - 153) / 3 = k by omega, show (153 + 3 * k + 1 - 153) % 3 = 1 by omega, show (153 + 3 * k + 2 - 153) / 3 = k by omega, show (153 + 3 * k + 2 - 153) % 3 = 2 by omega]
  rfl
theorem gD_map {α β : Type} {f : α → β} {l : List α} {i : Nat} {a : α} {b : β} (h : i < l.length) : (l.map f).getD i b = f (l.getD i a) := by
  rw [List.getD_eq_getElem?_getD, List.getD_eq_getElem?_getD, List.getElem?_map, List.getElem?_eq_getElem h]; rfl
theorem gD_mem {α : Type} {l : List α} {i : Nat} {a : α} (h : i < l.length) : l.getD i a ∈ l := by
  rw [List.getD_eq_getElem?_getD, List.getElem?_eq_getElem h]
  exact List.getElem_mem h
theorem RO.dp {K P d : Nat} {N V : GV} (hD : DI K V) (h : RO N P V) : RO (odN N P d) P (drops d V) := by
  have h7 := hD.h7
  obtain ⟨e4, σ, hs, hl, hc⟩ := h
  obtain ⟨w1, w2, w3, w4, w5⟩ := cdI_w (d := d) (P := P) (N := N) (N 4 P 3)
  have hlen : (keepO d V).length = cnt (V 22 0) d (V 22 0 7) := rfl
  have hle : cnt (V 22 0) d (V 22 0 7) ≤ V 22 0 7 := by
    have := List.length_filter_le (fun o : OT => decide (¬ o.1 = d)) (ouL (V 22 0) (V 22 0 7))
    rw [ouL_len] at this
    exact this
  have d7 : (drops d V) 22 0 7 = cnt (V 22 0) d (V 22 0 7) := by unfold drops; rw [setO_7, hlen]
  have dA : ∀ k, k < V 22 0 7 → ¬ V 22 0 (153 + 3 * k) = d → ouA ((drops d V) 22 0) (cnt (V 22 0) d k) = ouA (V 22 0) k := fun k hk hq => by
    have hlt := cnt_l (d := d) hq hk
    unfold drops
    rw [ouA_set (by omega)]
    exact cnt_g hq _ hk
  have hSO : SO (drops d V) ((σ.filter fun k => decide (¬ V 22 0 (153 + 3 * k) = d)).map (cnt (V 22 0) d)) := by
    refine ⟨?_, fun k => ?_⟩
    · rw [List.pairwise_map]
      refine List.Pairwise.imp_of_mem ?_ (hs.1.filter _)
      intro a b ha hb hab
      obtain ⟨ha1, ha2⟩ := List.mem_filter.1 ha
      obtain ⟨hb1, hb2⟩ := List.mem_filter.1 hb
      have ha2 := of_decide_eq_true ha2
      have hb2 := of_decide_eq_true hb2
      have A := dA a ((hs.2 a).1 ha1) ha2
      have B := dA b ((hs.2 b).1 hb1) hb2
      unfold ouA at A B
      injection A with A1 A2
      injection A2 with A2 A3
      injection B with B1 B2
      injection B2 with B2 B3
      unfold bef at hab ⊢
      have hab := of_decide_eq_true hab
      rw [A1, A2, B1, B2]
      refine decide_eq_true ?_
      have hm : a < b → cnt (V 22 0) d a < cnt (V 22 0) d b := fun x => cnt_l ha2 x
      omega
    · rw [d7, List.mem_map]
      constructor
      · rintro ⟨a, ha, e⟩
        obtain ⟨ha1, ha2⟩ := List.mem_filter.1 ha
        rw [← e]
        exact cnt_l (of_decide_eq_true ha2) ((hs.2 a).1 ha1)
      · intro hk
        obtain ⟨a, x1, x2, x3⟩ := cnt_j _ _ hk
        exact ⟨a, List.mem_filter.2 ⟨(hs.2 a).2 x1, decide_eq_true x2⟩, x3⟩
  have hlen2 := hSO.len
  rw [List.length_map, d7] at hlen2
  have ecl : coL N P (N 4 P 3) = σ.map (ouA (V 22 0)) := by
    rw [e4]
    apply List.ext_getElem
    · unfold coL
      rw [List.length_map, List.length_map, List.length_range, hl]
    · intro i h1 h2
      unfold coL at h1
      rw [List.length_map, List.length_range] at h1
      have := hc i h1
      rw [List.getElem_map]
      unfold coL
      rw [List.getElem_map, List.getElem_range, this, List.getD_eq_getElem?_getD, List.getElem?_eq_getElem (by omega)]
      rfl
  have ef : (coL N P (N 4 P 3)).filter (fun o => decide (¬ o.1 = d)) = (σ.filter fun k => decide (¬ V 22 0 (153 + 3 * k) = d)).map (ouA (V 22 0)) := by
    rw [ecl, List.filter_map]
    rfl
  rw [ef, List.length_map] at w1
  refine ⟨?_, _, hSO, by rw [List.length_map, d7]; exact hlen2, fun i hi => ?_⟩
  · unfold odN
    rw [up3_self, w1, d7, hlen2]
  · rw [d7] at hi
    have hi2 : i < (σ.filter fun k => decide (¬ V 22 0 (153 + 3 * k) = d)).length := by omega
    have a := w4 i (by omega)
    rw [ef] at a
    have ec : coA (odN N P d) P i = coA (cdI d P N (N 4 P 3)).1 P i := by
      unfold odN coA
      rw [up3_k _ _ (by decide), up3_k _ _ (by decide), up3_k _ _ (by decide)]
    rw [ec, a, gD_map (a := 0) hi2, gD_map (a := 0) hi2]
    have hm := gD_mem (a := 0) hi2
    obtain ⟨hm1, hm2⟩ := List.mem_filter.1 hm
    exact (dA _ ((hs.2 _).1 hm1) (of_decide_eq_true hm2)).symm
