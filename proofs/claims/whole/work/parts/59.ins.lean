/-! frosts and outings come in and go, in class and reference -/
theorem dropQ {q : List Nat} {p : Nat → Bool} {r : Nat → Nat → Prop} (h : q.Pairwise r) (m : ∀ a b, r a b → p a = false → p b = false) : ∀ a, a ∈ q.dropWhile p → p a = false := by
  induction q with
  | nil => intro a ha; cases ha
  | cons e q ih =>
    intro a ha
    rw [List.dropWhile_cons] at ha
    rw [List.pairwise_cons] at h
    split at ha
    · exact ih h.2 a ha
    · next pp =>
      have pp : p e = false := by
        cases x : p e with
        | false => rfl
        | true => exact absurd x pp
      rcases List.mem_cons.1 ha with e1 | e1
      · subst e1; exact pp
      · exact m e a (h.1 a e1) pp
theorem takeQ {q : List Nat} {p : Nat → Bool} : ∀ a, a ∈ q.takeWhile p → p a = true ∧ a ∈ q := by
  induction q with
  | nil => intro a ha; cases ha
  | cons e q ih =>
    intro a ha
    rw [List.takeWhile_cons] at ha
    split at ha
    · next pp =>
      rcases List.mem_cons.1 ha with e1 | e1
      · subst e1; exact ⟨pp, List.mem_cons_self⟩
      · exact ⟨(ih a e1).1, List.mem_cons_of_mem _ (ih a e1).2⟩
    · cases ha
/-- is an outing of the reference behind one of the day d with c children -/
def bhV (S : Nat → Nat) (d c k : Nat) : Bool := decide (d < S (153 + 3 * k) ∨ (S (153 + 3 * k) = d ∧ S (153 + 3 * k + 1) < c))
theorem pl_s {V : GV} {d c g s : Nat} (h : s < 153 + 3 * V 22 0 7 ∨ 153 + 3 * V 22 0 7 + 3 ≤ s) (h' : ¬ s = 7) : (plnN V d c g) 22 0 s = V 22 0 s := by
  unfold plnN
  simp (disch := omega) only [u_ne]
theorem pl_n {V : GV} {d c g : Nat} : (plnN V d c g) 22 0 (153 + 3 * V 22 0 7) = d ∧ (plnN V d c g) 22 0 (153 + 3 * V 22 0 7 + 1) = c ∧ (plnN V d c g) 22 0 (153 + 3 * V 22 0 7 + 2) = g := by
  unfold plnN
  simp (disch := omega) only [u_ne, u_eq]
  exact ⟨trivial, trivial, trivial⟩
theorem oi_o {N : GV} {P a d c g k i s : Nat} (h : ¬ ((k = 4 ∧ s = 3 ∨ (14 ≤ k ∧ k ≤ 16)) ∧ i = P)) : oiN N P a d c g k i s = N k i s := by
  unfold oiN
  rw [u_ne (by omega), u_ne (by omega), u_ne (by omega), u_ne (by omega)]
  unfold shU
  rw [if_neg fun q => by have := kU_i.1 q.1; omega]
theorem RO.pl {K P d c g : Nat} {N V : GV} (hD : DI K V) (h : RO N P V) (h7 : V 22 0 7 < 17) (hd : d < 2 ^ 28) (hc28 : c < 2 ^ 28) : ∃ a, a ≤ N 4 P 3 ∧ (∀ j, a ≤ j → j < N 4 P 3 → bhB N P j d c = true) ∧ (∀ j, j < a → bhB N P j d c = false) ∧ RO (oiN N P a d c g) P (plnN V d c g) := by
  obtain ⟨e4, σ, hs, hl, hc⟩ := h
  obtain ⟨n, hn⟩ : ∃ n, n = V 22 0 7 := ⟨_, rfl⟩
  have hsp : σ.takeWhile (fun k => !bhV (V 22 0) d c k) ++ σ.dropWhile (fun k => !bhV (V 22 0) d c k) = σ := List.takeWhile_append_dropWhile
  have h1 := takeQ (q := σ) (p := fun k => !bhV (V 22 0) d c k)
  have h2 := dropQ (q := σ) (p := fun k => !bhV (V 22 0) d c k) hs.1 (fun a b hab ha => by
    simp only [Bool.not_eq_false'] at ha ⊢
    unfold bef at hab
    unfold bhV at ha ⊢
    have hab := of_decide_eq_true hab
    have ha := of_decide_eq_true ha
    exact decide_eq_true (by omega))
  generalize σ.takeWhile (fun k => !bhV (V 22 0) d c k) = l1 at hsp h1
  generalize σ.dropWhile (fun k => !bhV (V 22 0) d c k) = l2 at hsp h2
  have hlen : l1.length + l2.length = n := by rw [← List.length_append, hsp, hl, hn]
  have hb : ∀ j, j < n → bhB N P j d c = bhV (V 22 0) d c (σ.getD j 0) := fun j hj => by
    have := hc j (by omega)
    unfold coA ouA at this
    injection this with a1 a2
    injection a2 with a2 a3
    unfold bhB bhV
    rw [a1, a2]
  have m1 : ∀ a, a ∈ l1 → bhV (V 22 0) d c a = false ∧ a < n := fun a ha => by
    obtain ⟨x, y⟩ := h1 a ha
    simp only [Bool.not_eq_true'] at x
    exact ⟨x, by rw [hn]; exact (hs.2 a).1 y⟩
  have m2 : ∀ a, a ∈ l2 → bhV (V 22 0) d c a = true ∧ a < n := fun a ha => by
    have x := h2 a ha
    simp only [Bool.not_eq_false'] at x
    exact ⟨x, by rw [hn]; exact (hs.2 a).1 (by rw [← hsp]; exact List.mem_append_right _ ha)⟩
  have g1 : ∀ j, j < l1.length → σ.getD j 0 = l1.getD j 0 := fun j hj => by rw [← hsp, gD_l hj]
  have g2 : ∀ j, l1.length ≤ j → σ.getD j 0 = l2.getD (j - l1.length) 0 := fun j hj => by rw [← hsp, gD_r hj]
  have w7 : (plnN V d c g) 22 0 7 = n + 1 := by rw [pln_7, hn]
  obtain ⟨p1, p2, p3⟩ := pl_n (V := V) (d := d) (c := c) (g := g)
  rw [← hn] at p1 p2 p3
  have po : ∀ a, a < n → (plnN V d c g) 22 0 (153 + 3 * a) = V 22 0 (153 + 3 * a) ∧ (plnN V d c g) 22 0 (153 + 3 * a + 1) = V 22 0 (153 + 3 * a + 1) ∧ (plnN V d c g) 22 0 (153 + 3 * a + 2) = V 22 0 (153 + 3 * a + 2) := fun a ha => ⟨pl_s (by omega) (by omega), pl_s (by omega) (by omega), pl_s (by omega) (by omega)⟩
  refine ⟨l1.length, by omega, fun j ha hj => ?_, fun j hj => ?_, ?_⟩
  · rw [hb j (by omega), g2 j ha]
    exact (m2 _ (gD_mem (by omega))).1
  · rw [hb j (by omega), g1 j hj]
    exact (m1 _ (gD_mem (by omega))).1
  · refine ⟨?_, l1 ++ n :: l2, ⟨?_, fun k => ?_⟩, ?_, fun i hi => ?_⟩
    · unfold oiN
      rw [up3_self, w7, e4, hn]
    · have hpw := hs.1
      rw [← hsp, List.pairwise_append] at hpw
      obtain ⟨q1, q2, q3⟩ := hpw
      have tr : ∀ a b, a < n → b < n → bef (V 22 0) a b = true → bef ((plnN V d c g) 22 0) a b = true := fun a b ha hb h => by
        unfold bef at h ⊢
        rw [(po a ha).1, (po b hb).1, (po a ha).2.1, (po b hb).2.1]
        exact h
      rw [List.pairwise_append]
      refine ⟨q1.imp_of_mem fun ha hb h => tr _ _ (m1 _ ha).2 (m1 _ hb).2 h, ?_, ?_⟩
      · rw [List.pairwise_cons]
        refine ⟨fun b hb => ?_, q2.imp_of_mem fun ha hb h => tr _ _ (m2 _ ha).2 (m2 _ hb).2 h⟩
        obtain ⟨x, y⟩ := m2 b hb
        unfold bhV at x
        have x := of_decide_eq_true x
        unfold bef
        rw [p1, p2, (po b y).1, (po b y).2.1]
        exact decide_eq_true (by omega)
      · intro a ha b hb
        obtain ⟨x, y⟩ := m1 a ha
        rcases List.mem_cons.1 hb with e | e
        · subst e
          unfold bhV at x
          have x := of_decide_eq_false x
          unfold bef
          rw [p1, p2, (po a y).1, (po a y).2.1]
          exact decide_eq_true (by omega)
        · exact tr _ _ y (m2 b e).2 (q3 a ha b e)
    · rw [w7]
      have := hs.2 k
      rw [← hsp, List.mem_append, ← hn] at this
      rw [List.mem_append, List.mem_cons]
      constructor
      · rintro (h | h | h)
        · have := this.1 (Or.inl h); omega
        · omega
        · have := this.1 (Or.inr h); omega
      · intro h
        by_cases e : k = n
        · exact Or.inr (Or.inl e)
        · rcases this.2 (by omega) with x | x
          · exact Or.inl x
          · exact Or.inr (Or.inr x)
    · rw [w7, List.length_append, List.length_cons]; omega
    · rw [w7] at hi
      have cc : ∀ j, j < n → coA N P j = ouA (V 22 0) (σ.getD j 0) := fun j hj => hc j (by omega)
      have oo : ∀ a, a < n → ouA ((plnN V d c g) 22 0) a = ouA (V 22 0) a := fun a ha => by
        unfold ouA
        rw [(po a ha).1, (po a ha).2.1, (po a ha).2.2]
      by_cases i1 : i < l1.length
      · rw [gD_l i1, oo _ (m1 _ (gD_mem i1)).2, ← g1 i i1, ← cc i (by omega)]
        unfold coA oiN shU
        rw [u_ne (by omega), u_ne (by omega), u_ne (by omega), u_ne (by omega), u_ne (by omega), u_ne (by omega), u_ne (by omega), u_ne (by omega), u_ne (by omega), u_ne (by omega), u_ne (by omega), u_ne (by omega), if_neg (by omega), if_neg (by omega), if_neg (by omega)]
      · by_cases i2 : i = l1.length
        · subst i2
          rw [gD_r (Nat.le_refl _), Nat.sub_self]
          show _ = ouA ((plnN V d c g) 22 0) n
          unfold ouA
          rw [p1, p2, p3]
          unfold coA oiN
          simp (disch := omega) only [u_ne, u_eq]
        · obtain ⟨x, hx⟩ : ∃ x, i = l1.length + 1 + x := ⟨i - l1.length - 1, by omega⟩
          have ix : i - l1.length = x + 1 := by omega
          rw [gD_r (by omega), ix]
          show _ = ouA ((plnN V d c g) 22 0) (l2.getD x 0)
          have hm := (m2 _ (gD_mem (a := 0) (show x < l2.length by omega))).2
          rw [oo _ hm]
          have := cc (i - 1) (by omega)
          rw [g2 (i - 1) (by omega), show i - 1 - l1.length = x by omega] at this
          rw [← this]
          have k14 : kU 14 = true := by decide
          have k15 : kU 15 = true := by decide
          have k16 : kU 16 = true := by decide
          unfold coA oiN shU
          rw [u_ne (by omega), u_ne (by omega), u_ne (by omega), u_ne (by omega), u_ne (by omega), u_ne (by omega), u_ne (by omega), u_ne (by omega), u_ne (by omega), u_ne (by omega), u_ne (by omega), u_ne (by omega), if_pos ⟨k14, rfl, by omega, by omega⟩, if_pos ⟨k15, rfl, by omega, by omega⟩, if_pos ⟨k16, rfl, by omega, by omega⟩]
theorem PK.pl {K P d c g a : Nat} {N V : GV} (hD : DI K V) (h : PK N P V) (hO : RO (oiN N P a d c g) P (plnN V d c g)) : PK (oiN N P a d c g) P (plnN V d c g) :=
  ⟨h.1.g (fun p s _ _ _ => oi_o (by omega)) (fun p s _ _ _ => oi_o (by omega)) (fun s _ _ => oi_o (by omega)) (fun s _ _ => pl_s (by omega) (by omega)) (h.1.2.2.2.2.2.g fun k i s _ => oi_o (by omega)), h.2.1.g (fun s _ => oi_o (by omega)) (oi_o (by omega)) (fun s _ => pl_s (by omega) (by omega)), h.2.2.1.g hD.h6 (oi_o (by omega)) (fun k s _ _ => oi_o (by omega)) (fun s _ => pl_s (by omega) (by omega)), hO⟩
/-- an outing is planned: class and reference -/
theorem g26 {X : XS} {N : GV} {R : GR} {L : GL} {Z : Nat × Nat × Bool} (hR : Rok R) {K P d c g : Nat} {V : GV} (hP : P < 8) (hD : DI K V) (h : PK N P V) (h7 : V 22 0 7 < 17) (hd : d < 2 ^ 28) (hc : c < 2 ^ 28) : ∃ N', exec X 26 [vR 4 P, vI (nI d), vI (nI c), vI (nI g)] (gg (nW N) R L Z) = some (.inl none, (gg (nW (N')) R L Z)) ∧ PK N' P (plnN V d c g) ∧ ∀ k i s, ¬ ((k = 4 ∧ s = 3 ∨ (14 ≤ k ∧ k ≤ 16)) ∧ i = P) → N' k i s = N k i s := by
  obtain ⟨a, ha, h1, h2, hO⟩ := RO.pl (g := g) hD h.2.2.2 h7 hd hc
  have e4 := h.2.2.2.1
  exact ⟨oiN N P a d c g, t26 hR hP (by omega) (h.2.2.2.ob hD) ha hd hc h1 h2, h.pl hD hO, fun k i s q => oi_o q⟩
/-! frosts -/
/-- the frosts are in order and apart -/
def FS (S : Nat → Nat) : Prop := (∀ k, k < S 6 → S (141 + 2 * k) ≤ S (141 + 2 * k + 1)) ∧ ∀ i j, i < j → j < S 6 → S (141 + 2 * i + 1) < S (141 + 2 * j)
theorem FS.lt {S : Nat → Nat} (h : FS S) {i j : Nat} (hij : i < j) (hj : j < S 6) : S (141 + 2 * i) < S (141 + 2 * j) := by
  have := h.1 i (by omega)
  have := h.2 i j hij hj
  omega
theorem cnt_b {f : Nat → Bool} : ∀ n, (∀ i j, i < j → j < n → f j = true → f i = true) → ∀ k, k < n → (f k = true ↔ k < sumN n fun i => bN (f i)) := by
  intro n
  induction n with
  | zero => intro _ k hk; omega
  | succ n ih =>
    intro hm k hk
    have ih := ih fun i j a b => hm i j a (by omega)
    have hle : sumN n (fun i => bN (f i)) ≤ n := sumN_b
    simp only [sumN]
    cases hf : f n with
    | false =>
      show _ ↔ k < sumN n (fun i => bN (f i)) + 0
      by_cases e : k = n
      · subst e; rw [hf]
        constructor
        · intro h; cases h
        · intro h; omega
      · rw [Nat.add_zero]; exact ih k (by omega)
    | true =>
      show _ ↔ k < sumN n (fun i => bN (f i)) + 1
      have hall : ∀ i, i < n → f i = true := fun i hi => hm i n hi (by omega) hf
      have hs : sumN n (fun i => bN (f i)) = n := by
        have : ∀ m, m ≤ n → sumN m (fun i => bN (f i)) = m := by
          intro m
          induction m with
          | zero => intro _; rfl
          | succ m im => intro h; simp only [sumN]; rw [im (by omega), hall m (by omega)]; rfl
        exact this n (Nat.le_refl _)
      rw [hs]
      constructor
      · intro _; omega
      · intro _
        by_cases e : k = n
        · subst e; exact hf
        · exact hall k (by omega)
theorem atF_s {S : Nat → Nat} {a k : Nat} (h : FS S) (hk : k < S 6) : S (141 + 2 * k) < a ↔ k < atF S a := by
  have := cnt_b (f := fun k => decide (S (141 + 2 * k) < a)) (S 6) (fun i j hij hj hf => by
    have hf := of_decide_eq_true hf
    have := h.lt hij hj
    exact decide_eq_true (by omega)) k hk
  rw [decide_eq_true_eq] at this
  exact this
theorem meet_n {S : Nat → Nat} {a b k : Nat} (h : meetB S a b = false) (hk : k < S 6) : S (141 + 2 * k + 1) < a ∨ b < S (141 + 2 * k) := by
  by_cases q : a ≤ S (141 + 2 * k + 1) ∧ S (141 + 2 * k) ≤ b
  · unfold meetB at h
    rw [anyN_t (k := k) (by rw [decide_eq_true q.1, decide_eq_true q.2]; rfl) hk] at h
    cases h
  · omega
theorem fr_s {V : GV} {t a b s : Nat} (h : s < 141 + 2 * t ∨ 141 + 2 * V 22 0 6 + 2 ≤ s) (h' : ¬ s = 6) (ht : t ≤ V 22 0 6) : (frsN V t a b) 22 0 s = V 22 0 s := by
  unfold frsN
  (try simp only)
  rw [u_ne (by omega), u_ne (by omega), u_ne (by omega), rowAt_out (by omega)]
theorem fr_n {V : GV} {t a b : Nat} : (frsN V t a b) 22 0 (141 + 2 * t) = a ∧ (frsN V t a b) 22 0 (141 + 2 * t + 1) = b ∧ (frsN V t a b) 22 0 6 = V 22 0 6 + 1 := by
  unfold frsN
  (try simp only)
  refine ⟨?_, ?_, up3_self _ _ _ _ _⟩
  · rw [u_ne (by omega), u_ne (by omega), up3_self]
  · rw [u_ne (by omega), up3_self]
theorem fr_b {V : GV} {t a b k w : Nat} (h1 : t < k) (h2 : k ≤ V 22 0 6) (hw : w < 2) : (frsN V t a b) 22 0 (141 + 2 * k + w) = V 22 0 (141 + 2 * (k - 1) + w) := by
  unfold frsN
  (try simp only)
  rw [u_ne (by omega), u_ne (by omega), u_ne (by omega), rowAt_in (by omega)]
  congr 1
  omega
theorem fi_o {N : GV} {P t a b k i s : Nat} (h : ¬ ((k = 1 ∧ s = 2 ∨ k = 8 ∨ k = 9) ∧ i = P)) : fiN N P t a b k i s = N k i s := by
  unfold fiN
  rw [u_ne (by omega), u_ne (by omega), u_ne (by omega)]
  unfold shU
  rw [if_neg fun q => by have := of_decide_eq_true q.1; omega]
theorem RW.fi {K P a b : Nat} {N V : GV} (hD : DI K V) (hS : FS (V 22 0)) (h : RW N P V) (h6 : V 22 0 6 < 6) : RW (fiN N P (atF (V 22 0) a) a b) P (frsN V (atF (V 22 0) a) a b) := by
  have hle : atF (V 22 0) a ≤ V 22 0 6 := atF_le
  generalize atF (V 22 0) a = t at hle
  obtain ⟨n1, n2, n6⟩ := fr_n (V := V) (t := t) (a := a) (b := b)
  refine ⟨?_, fun k hk => ?_⟩
  · unfold fiN
    rw [up3_self, n6, h.1]
  · rw [n6] at hk
    have k8 : kFr 8 = true := by decide
    have k9 : kFr 9 = true := by decide
    have h1 := h.1
    by_cases q1 : k < t
    · have := h.2 k (by omega)
      rw [fr_s (by omega) (by omega) hle, fr_s (by omega) (by omega) hle, ← this.1, ← this.2]
      unfold fiN shU
      rw [u_ne (by omega), u_ne (by omega), u_ne (by omega), u_ne (by omega), u_ne (by omega), u_ne (by omega), if_neg (by omega), if_neg (by omega)]
      exact ⟨by first | trivial | rfl, by first | trivial | rfl⟩
    · by_cases q2 : k = t
      · subst q2
        rw [n1, n2]
        unfold fiN
        simp (disch := omega) only [u_ne, u_eq]
        exact ⟨by first | trivial | rfl, by first | trivial | rfl⟩
      · have := h.2 (k - 1) (by omega)
        have e1 := fr_b (V := V) (t := t) (a := a) (b := b) (k := k) (w := 0) (by omega) (by omega) (by omega)
        have e2 := fr_b (V := V) (t := t) (a := a) (b := b) (k := k) (w := 1) (by omega) (by omega) (by omega)
        rw [Nat.add_zero, Nat.add_zero] at e1
        rw [e1, e2, ← this.1, ← this.2]
        unfold fiN shU
        rw [u_ne (by omega), u_ne (by omega), u_ne (by omega), u_ne (by omega), u_ne (by omega), u_ne (by omega), if_pos ⟨k8, rfl, by omega, by omega⟩, if_pos ⟨k9, rfl, by omega, by omega⟩]
        exact ⟨by first | trivial | rfl, by first | trivial | rfl⟩
/-- a frost comes in -/
theorem g10 {X : XS} {N : GV} {R : GR} {L : GL} {Z : Nat × Nat × Bool} (hR : Rok R) {K P a b : Nat} {V : GV} (hP : P < 8) (hD : DI K V) (hS : FS (V 22 0)) (h : PK N P V) (h6 : V 22 0 6 < 6) (hab : a ≤ b) (hb : b ≤ 999) (hm : meetB (V 22 0) a b = false) : ∃ N', exec X 10 [vR 1 P, vI (nI a), vI (nI b)] (gg (nW N) R L Z) = some (.inl none, (gg (nW (N')) R L Z)) ∧ PK N' P (frsN V (atF (V 22 0) a) a b) ∧ ∀ k i s, ¬ ((k = 1 ∧ s = 2 ∨ k = 8 ∨ k = 9) ∧ i = P) → N' k i s = N k i s := by
  have hW := h.2.2.1
  have hle : atF (V 22 0) a ≤ V 22 0 6 := atF_le
  have h1 := hW.1
  refine ⟨fiN N P (atF (V 22 0) a) a b, t10 hR hP (by omega) (hW.fb hD) (by omega) (by omega) (fun j ja jn => ?_) (fun j ja => ?_), ⟨h.1.g (fun p s _ _ _ => fi_o (by omega)) (fun p s _ _ _ => fi_o (by omega)) (fun s _ _ => fi_o (by omega)) (fun s _ _ => fr_s (by omega) (by omega) hle) (h.1.2.2.2.2.2.g fun k i s _ => fi_o (by omega)), h.2.1.g (fun s _ => fi_o (by omega)) (fi_o (by omega)) (fun s _ => fr_s (by omega) (by omega) hle), hW.fi hD hS h6, h.2.2.2.g hD.h7 (fi_o (by omega)) (fun k s _ _ _ => fi_o (by omega)) (fun s _ => fr_s (by omega) (by omega) hle)⟩, fun k i s q => fi_o q⟩
  · rw [(hW.2 j (by omega)).1]
    have x := atF_s (a := a) hS (show j < V 22 0 6 by omega)
    have y := meet_n hm (show j < V 22 0 6 by omega)
    have z := hS.1 j (by omega)
    omega
  · rw [(hW.2 j (by omega)).1]
    have x := atF_s (a := a) hS (show j < V 22 0 6 by omega)
    omega
theorem FS.fi {V : GV} {a b : Nat} (hS : FS (V 22 0)) (hab : a ≤ b) (hm : meetB (V 22 0) a b = false) : FS ((frsN V (atF (V 22 0) a) a b) 22 0) := by
  have hle : atF (V 22 0) a ≤ V 22 0 6 := atF_le
  have hat := fun k hk => atF_s (S := V 22 0) (a := a) (k := k) hS hk
  generalize atF (V 22 0) a = t at hle hat
  obtain ⟨n1, n2, n6⟩ := fr_n (V := V) (t := t) (a := a) (b := b)
  have val : ∀ k, k < V 22 0 6 + 1 → (k < t ∧ (frsN V t a b) 22 0 (141 + 2 * k) = V 22 0 (141 + 2 * k) ∧ (frsN V t a b) 22 0 (141 + 2 * k + 1) = V 22 0 (141 + 2 * k + 1)) ∨ (k = t ∧ (frsN V t a b) 22 0 (141 + 2 * k) = a ∧ (frsN V t a b) 22 0 (141 + 2 * k + 1) = b) ∨ (∃ x, k = x + 1 ∧ t ≤ x ∧ (frsN V t a b) 22 0 (141 + 2 * k) = V 22 0 (141 + 2 * x) ∧ (frsN V t a b) 22 0 (141 + 2 * k + 1) = V 22 0 (141 + 2 * x + 1)) := by
    intro k hk
    by_cases q1 : k < t
    · exact Or.inl ⟨q1, fr_s (by omega) (by omega) hle, fr_s (by omega) (by omega) hle⟩
    · by_cases q2 : k = t
      · subst q2; exact Or.inr (Or.inl ⟨rfl, n1, n2⟩)
      · have e1 := fr_b (V := V) (t := t) (a := a) (b := b) (k := k) (w := 0) (by omega) (by omega) (by omega)
        have e2 := fr_b (V := V) (t := t) (a := a) (b := b) (k := k) (w := 1) (by omega) (by omega) (by omega)
        exact Or.inr (Or.inr ⟨k - 1, by omega, by omega, e1, e2⟩)
  refine ⟨fun k hk => ?_, fun i j hij hj => ?_⟩
  · rw [n6] at hk
    rcases val k hk with ⟨q, e1, e2⟩ | ⟨q, e1, e2⟩ | ⟨x, q, q', e1, e2⟩
    · rw [e1, e2]; exact hS.1 k (by omega)
    · rw [e1, e2]; exact hab
    · rw [e1, e2]; exact hS.1 x (by omega)
  · rw [n6] at hj
    rcases val i (by omega) with ⟨q, e1, e2⟩ | ⟨q, e1, e2⟩ | ⟨x, q, q', e1, e2⟩ <;> rcases val j hj with ⟨r, f1, f2⟩ | ⟨r, f1, f2⟩ | ⟨y, r, r', f1, f2⟩
    · rw [e2, f1]; exact hS.2 i j hij (by omega)
    · rw [e2, f1]
      have x := (hat i (by omega)).2 (by omega)
      have y := meet_n hm (show i < V 22 0 6 by omega)
      omega
    · rw [e2, f1]; exact hS.2 i y (by omega) (by omega)
    · omega
    · omega
    · rw [e2, f1]
      have x := hat y (by omega)
      have y' := meet_n hm (show y < V 22 0 6 by omega)
      have z := hS.1 y (by omega)
      omega
    · omega
    · omega
    · rw [e2, f1]; exact hS.2 x y (by omega) (by omega)
/-- a frost goes -/
theorem th_s {V : GV} {i s : Nat} (h : s < 141 + 2 * i ∨ 141 + 2 * V 22 0 6 ≤ s) (h' : ¬ s = 6) (hi : i < V 22 0 6) : (thwN V i) 22 0 s = V 22 0 s := by
  unfold thwN
  (try simp only)
  rw [u_ne (by omega), u_ne (by omega), rowAt_out (by omega), u_ne (by omega)]
theorem th_b {V : GV} {i k w : Nat} (h1 : i ≤ k) (h2 : k + 1 < V 22 0 6) (hw : w < 2) : (thwN V i) 22 0 (141 + 2 * k + w) = V 22 0 (141 + 2 * (k + 1) + w) := by
  unfold thwN
  (try simp only)
  rw [u_ne (by omega), u_ne (by omega), rowAt_in (by omega)]
  congr 1
  omega
theorem th_6 {V : GV} {i : Nat} (hi : i < V 22 0 6) (h6 : V 22 0 6 ≤ 6) : (thwN V i) 22 0 6 = V 22 0 6 - 1 := by
  unfold thwN
  (try simp only)
  rw [u_ne (by omega), u_ne (by omega), rowAt_out (by omega), up3_self]
theorem fd_o {N : GV} {P i0 k i s : Nat} (h : ¬ ((k = 1 ∧ s = 2 ∨ k = 8 ∨ k = 9) ∧ i = P)) : fdN N P i0 k i s = N k i s := by
  unfold fdN
  rw [u_ne (by omega)]
  unfold shD
  rw [if_neg fun q => by have := of_decide_eq_true q.1; omega]
theorem RW.fd {K P i : Nat} {N V : GV} (hD : DI K V) (h : RW N P V) (hi : i < V 22 0 6) : RW (fdN N P i) P (thwN V i) := by
  have e6 := th_6 hi hD.h6
  have h1 := h.1
  refine ⟨?_, fun k hk => ?_⟩
  · unfold fdN
    rw [up3_self, e6, h1]
  · rw [e6] at hk
    have k8 : kFr 8 = true := by decide
    have k9 : kFr 9 = true := by decide
    by_cases q1 : k < i
    · have := h.2 k (by omega)
      rw [th_s (by omega) (by omega) hi, th_s (by omega) (by omega) hi, ← this.1, ← this.2]
      unfold fdN shD
      rw [u_ne (by omega), u_ne (by omega), if_neg (by omega), if_neg (by omega)]
      exact ⟨by first | trivial | rfl, by first | trivial | rfl⟩
    · have := h.2 (k + 1) (by omega)
      have e1 := th_b (V := V) (i := i) (k := k) (w := 0) (by omega) (by omega) (by omega)
      have e2 := th_b (V := V) (i := i) (k := k) (w := 1) (by omega) (by omega) (by omega)
      rw [Nat.add_zero, Nat.add_zero] at e1
      rw [e1, e2, ← this.1, ← this.2]
      unfold fdN shD
      rw [u_ne (by omega), u_ne (by omega), if_pos ⟨k8, rfl, by omega, by omega⟩, if_pos ⟨k9, rfl, by omega, by omega⟩]
      exact ⟨by first | trivial | rfl, by first | trivial | rfl⟩
theorem g11 {X : XS} {N : GV} {R : GR} {L : GL} {Z : Nat × Nat × Bool} (hR : Rok R) {K P i : Nat} {V : GV} (hP : P < 8) (hD : DI K V) (h : PK N P V) (hi : i < V 22 0 6) : ∃ N', exec X 11 [vR 1 P, vI (nI i)] (gg (nW N) R L Z) = some (.inl none, (gg (nW (N')) R L Z)) ∧ PK N' P (thwN V i) ∧ ∀ k i s, ¬ ((k = 1 ∧ s = 2 ∨ k = 8 ∨ k = 9) ∧ i = P) → N' k i s = N k i s := by
  have hW := h.2.2.1
  have h1 := hW.1
  have h6 := hD.h6
  exact ⟨fdN N P i, t11 hR hP (by omega) (by omega), ⟨h.1.g (fun p s _ _ _ => fd_o (by omega)) (fun p s _ _ _ => fd_o (by omega)) (fun s _ _ => fd_o (by omega)) (fun s _ _ => th_s (by omega) (by omega) hi) (h.1.2.2.2.2.2.g fun k i s _ => fd_o (by omega)), h.2.1.g (fun s _ => fd_o (by omega)) (fd_o (by omega)) (fun s _ => th_s (by omega) (by omega) hi), hW.fd hD hi, h.2.2.2.g hD.h7 (fd_o (by omega)) (fun k s _ _ _ => fd_o (by omega)) (fun s _ => th_s (by omega) (by omega) hi)⟩, fun k i s q => fd_o q⟩
theorem FS.fd {V : GV} {i : Nat} (hS : FS (V 22 0)) (hi : i < V 22 0 6) (h6 : V 22 0 6 ≤ 6) : FS ((thwN V i) 22 0) := by
  have e6 := th_6 hi h6
  have val : ∀ k, k < V 22 0 6 - 1 → (k < i ∧ (thwN V i) 22 0 (141 + 2 * k) = V 22 0 (141 + 2 * k) ∧ (thwN V i) 22 0 (141 + 2 * k + 1) = V 22 0 (141 + 2 * k + 1)) ∨ (i ≤ k ∧ (thwN V i) 22 0 (141 + 2 * k) = V 22 0 (141 + 2 * (k + 1)) ∧ (thwN V i) 22 0 (141 + 2 * k + 1) = V 22 0 (141 + 2 * (k + 1) + 1)) := by
    intro k hk
    by_cases q1 : k < i
    · exact Or.inl ⟨q1, th_s (by omega) (by omega) hi, th_s (by omega) (by omega) hi⟩
    · have e1 := th_b (V := V) (i := i) (k := k) (w := 0) (by omega) (by omega) (by omega)
      have e2 := th_b (V := V) (i := i) (k := k) (w := 1) (by omega) (by omega) (by omega)
      exact Or.inr ⟨by omega, e1, e2⟩
  refine ⟨fun k hk => ?_, fun a j hij hj => ?_⟩
  · rw [e6] at hk
    rcases val k hk with ⟨q, e1, e2⟩ | ⟨q, e1, e2⟩
    · rw [e1, e2]; exact hS.1 k (by omega)
    · rw [e1, e2]; exact hS.1 (k + 1) (by omega)
  · rw [e6] at hj
    rcases val a (by omega) with ⟨q, e1, e2⟩ | ⟨q, e1, e2⟩ <;> rcases val j hj with ⟨r, f1, f2⟩ | ⟨r, f1, f2⟩
    · rw [e2, f1]; exact hS.2 a j hij (by omega)
    · rw [e2, f1]; exact hS.2 a (j + 1) (by omega) (by omega)
    · omega
    · rw [e2, f1]; exact hS.2 (a + 1) (j + 1) (by omega) (by omega)
