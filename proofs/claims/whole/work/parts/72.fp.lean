/-! doubles: shares of children -/
/-- a number between 0 and infinity, not too small: its exponent E, its fraction F -/
def NB (x : UInt64) (E F : Nat) : Prop := x.toNat = E * 2 ^ 52 + F ∧ F < 2 ^ 52 ∧ 1 ≤ E ∧ E ≤ 2046
theorem f_t : FP.Core.b64.tails = 2 ^ 52 := by decide
theorem f_e : FP.Core.b64.exps = 2048 := by decide
theorem f_q : FP.Core.b64.qmin = -1074 := by decide
theorem f_m : FP.Core.b64.qmax = 971 := by decide
theorem f_p : FP.Core.b64.p = 53 := by decide
theorem f_mask (x : UInt64) : (x &&& 0x7fffffffffffffff).toNat = x.toNat % 2 ^ 63 := by
  rw [UInt64.toNat_and]
  exact Nat.and_two_pow_sub_one_eq_mod x.toNat 63
theorem NB.n {x : UInt64} {E F : Nat} (h : NB x E F) : n64 x = true := by
  unfold n64
  rw [decide_eq_true_eq, UInt64.le_iff_toNat_le, f_mask]
  obtain ⟨a, b, c, d⟩ := h
  show x.toNat % 2 ^ 63 ≤ 9218868437227405312
  omega
theorem dec_n {n E F : Nat} (a : n = E * 2 ^ 52 + F) (hF : F < 2 ^ 52) (h1 : 1 ≤ E) (h2 : E ≤ 2046) : FP.Core.decode FP.Core.b64 n = .fin false (2 ^ 52 + F) ((E : Int) - 1075) := by
  have e1 : FP.Core.fieldE FP.Core.b64 n = E := by
    unfold FP.Core.fieldE
    rw [f_t, f_e]
    omega
  have e2 : FP.Core.fieldT FP.Core.b64 n = F := by
    unfold FP.Core.fieldT
    rw [f_t]
    omega
  have e3 : FP.Core.fieldS FP.Core.b64 n = false := by
    unfold FP.Core.fieldS
    rw [f_t, f_e, show n / 2 ^ 52 / 2048 % 2 = 0 by omega]
    rfl
  unfold FP.Core.decode
  rw [e1, e2, e3, f_e, if_neg (by omega), if_neg (by omega), f_t, f_q]
  congr 1
  omega
theorem NB.val {x : UInt64} {E F : Nat} (h : NB x E F) : FP.Core.decode FP.Core.b64 x.toNat = .fin false (2 ^ 52 + F) ((E : Int) - 1075) := dec_n h.1 h.2.1 h.2.2.1 h.2.2.2
theorem enc_n {c : Nat} {q : Int} (h1 : 2 ^ 52 ≤ c) (h3 : -1074 ≤ q) : FP.Core.encode FP.Core.b64 (.fin false c q) = ((q + 1074).toNat + 1) * 2 ^ 52 + (c - 2 ^ 52) := by
  unfold FP.Core.encode
  simp only
  rw [f_t, if_neg (by omega)]
  unfold FP.Core.assemble
  rw [f_t, f_q, f_e, show q - -1074 = q + 1074 by omega]
  show (0 * 2048 + ((q + 1074).toNat + 1)) * 2 ^ 52 + (c - 2 ^ 52) = _
  rw [Nat.zero_mul, Nat.zero_add]
/-- the bits of a number that is rounded already -/
theorem NB.of {c : Nat} {q : Int} (h1 : 2 ^ 52 ≤ c) (h2 : c < 2 ^ 53) (h3 : -1074 ≤ q) (h4 : q ≤ 971) : NB (UInt64.ofNat (FP.Core.encode FP.Core.b64 (.fin false c q))) ((q + 1075).toNat) (c - 2 ^ 52) := by
  rw [enc_n h1 h3]
  refine ⟨?_, by omega, by omega, by omega⟩
  rw [UInt64.toNat_ofNat', Nat.mod_eq_of_lt (by omega)]
  omega
theorem log2_e {A k : Nat} (h1 : 2 ^ k ≤ A) (h2 : A < 2 ^ (k + 1)) : A.log2 = k := by
  have h0 : A ≠ 0 := by have := Nat.two_pow_pos k; omega
  have a := (Nat.le_log2 h0).2 h1
  have b := (Nat.log2_lt h0).2 h2
  omega
theorem near_x {c d : Nat} (h : 0 < d) : FP.Core.nearest (c * d) d = c := by
  unfold FP.Core.nearest
  rw [Nat.mul_mod_left, if_pos (by omega), Nat.mul_div_cancel _ h]
theorem near_1 {c : Nat} : FP.Core.nearest c 1 = c := by
  have := near_x (c := c) (d := 1) (by decide)
  rw [Nat.mul_one] at this
  exact this
theorem lead_1 {A k : Nat} (h1 : 2 ^ k ≤ A) (h2 : A < 2 ^ (k + 1)) : FP.Core.leading A 1 = k := by
  have e : Nat.log2 1 = 0 := by decide
  unfold FP.Core.leading
  rw [log2_e h1 h2, e]
  simp only
  rw [if_pos (by
    rw [show ((k : Int) - ((0 : Nat) : Int)).toNat = k by omega, show (-((k : Int) - ((0 : Nat) : Int))).toNat = 0 by omega, Nat.one_mul, Nat.pow_zero, Nat.mul_one]
    exact h1)]
  omega
/-- a number of k + 1 digits, rounded; q: the last digit's exponent -/
theorem rr_1 {A k : Nat} {e q : Int} {s : Bool} (h1 : 2 ^ k ≤ A) (h2 : A < 2 ^ (k + 1)) (hq : q = (k : Int) + e - 52) (hm : -1074 ≤ q) : FP.Core.roundRatio FP.Core.b64 s A 1 e = FP.Core.settle FP.Core.b64 s (FP.Core.nearest (A * 2 ^ (e - q).toNat) (1 * 2 ^ (q - e).toNat)) q := by
  have h0 : ¬ A = 0 := by have := Nat.two_pow_pos k; omega
  have eq : FP.Core.quantum FP.Core.b64 A 1 e = q := by
    unfold FP.Core.quantum
    rw [lead_1 h1 h2, f_q, f_p]
    omega
  unfold FP.Core.roundRatio
  rw [if_neg h0, eq]
  rfl
theorem set_n {c : Nat} {q : Int} {s : Bool} (h : c < 2 ^ 53) (hq : q ≤ 971) : FP.Core.settle FP.Core.b64 s c q = .fin s c q := by
  unfold FP.Core.settle FP.Core.bound
  rw [f_p, f_m, if_pos h, if_pos hq]
theorem two_val : FP.Core.decode FP.Core.b64 (UInt64.ofNat 4611686018427387904).toNat = .fin false (2 ^ 52) (-51) := by decide +kernel
theorem big_val : FP.Core.decode FP.Core.b64 (UInt64.ofNat 4841369599423283200).toNat = .fin false (2 ^ 52) 0 := by decide +kernel
theorem one_val : FP.Core.decode FP.Core.b64 FP.dconst1.toNat = .fin false (2 ^ 52) (-52) := by decide +kernel
theorem zer_val : FP.Core.decode FP.Core.b64 FP.dconst0.toNat = .fin false 0 (-1074) := by decide +kernel
/-- a product of two numbers of 53 digits the second of which is a power of two -/
theorem rr_p {c : Nat} {e : Int} {s : Bool} (h1 : 2 ^ 52 ≤ c) (h2 : c < 2 ^ 53) (h3 : -1126 ≤ e) (h4 : e ≤ 919) : FP.Core.roundRatio FP.Core.b64 s (c * 2 ^ 52) 1 e = .fin s c (e + 52) := by
  rw [rr_1 (k := 104) (q := e + 52) (by omega) (by omega) (by omega) (by omega), show (e - (e + 52)).toNat = 0 by omega, show (e + 52 - e).toNat = 52 by omega, Nat.pow_zero, Nat.mul_one, Nat.one_mul, near_x (by decide)]
  exact set_n h2 (by omega)
theorem NB.two {x : UInt64} {E F : Nat} (h : NB x E F) (h2 : E ≤ 2045) : NB (FP.dmul x (UInt64.ofNat 4611686018427387904)) (E + 1) F := by
  obtain ⟨_, hF, h1, _⟩ := id h
  have e : FP.dmul x (UInt64.ofNat 4611686018427387904) = UInt64.ofNat (FP.Core.encode FP.Core.b64 (.fin false (2 ^ 52 + F) ((E : Int) - 1074))) := by
    show UInt64.ofNat (FP.Core.encode FP.Core.b64 (FP.Core.round FP.Core.b64 (FP.Core.exactProduct (FP.Core.decode FP.Core.b64 x.toNat) (FP.Core.decode FP.Core.b64 (UInt64.ofNat 4611686018427387904).toNat)))) = _
    rw [h.val, two_val]
    show UInt64.ofNat (FP.Core.encode FP.Core.b64 (FP.Core.roundRatio FP.Core.b64 (false != false) ((2 ^ 52 + F) * 2 ^ 52) 1 ((E : Int) - 1075 + -51))) = _
    rw [rr_p (by omega) (by omega) (by omega) (by omega), show (E : Int) - 1075 + -51 + 52 = (E : Int) - 1074 by omega]
    rfl
  rw [e]
  have := NB.of (c := 2 ^ 52 + F) (q := (E : Int) - 1074) (by omega) (by omega) (by omega) (by omega)
  rw [show ((E : Int) - 1074 + 1075).toNat = E + 1 by omega, show 2 ^ 52 + F - 2 ^ 52 = F by omega] at this
  exact this
/-- a whole number as a double -/
theorem i2d_n {a k : Nat} (h1 : 2 ^ k ≤ a) (h2 : a < 2 ^ (k + 1)) (hk : k ≤ 30) : FP.Core.decode FP.Core.b64 (FP.i2d (nI a)).toNat = .fin false (a * 2 ^ (52 - k)) ((k : Int) - 52) := by
  have hp : a < 2 ^ 31 := Nat.lt_of_lt_of_le h2 (Nat.pow_le_pow_right (by decide) (by omega))
  have a0 : 0 < a := by have := Nat.two_pow_pos k; omega
  have e : FP.i2d (nI a) = UInt64.ofNat (FP.Core.encode FP.Core.b64 (FP.Core.round FP.Core.b64 (FP.Core.ofInt (nI a).toInt))) := rfl
  have eo : FP.Core.ofInt (nI a).toInt = .fin false a 0 := by
    rw [nI_toInt hp]
    unfold FP.Core.ofInt
    rw [decide_eq_false (by omega)]
    rfl
  have c1 : 2 ^ 52 ≤ a * 2 ^ (52 - k) := by
    have : 2 ^ k * 2 ^ (52 - k) = 2 ^ 52 := by rw [← Nat.pow_add]; congr 1; omega
    have := Nat.mul_le_mul_right (2 ^ (52 - k)) h1
    omega
  have c2 : a * 2 ^ (52 - k) < 2 ^ 53 := by
    have e53 : 2 ^ (k + 1) * 2 ^ (52 - k) = 2 ^ 53 := by rw [← Nat.pow_add]; congr 1; omega
    have := Nat.mul_lt_mul_of_pos_right h2 (Nat.two_pow_pos (52 - k))
    omega
  have er : FP.Core.round FP.Core.b64 (FP.Core.ofInt (nI a).toInt) = .fin false (a * 2 ^ (52 - k)) ((k : Int) - 52) := by
    rw [eo]
    show FP.Core.roundRatio FP.Core.b64 false a 1 0 = _
    rw [rr_1 (k := k) (q := (k : Int) - 52) h1 h2 (by omega) (by omega), show ((0 : Int) - ((k : Int) - 52)).toNat = 52 - k by omega, show ((k : Int) - 52 - 0).toNat = 0 by omega, Nat.pow_zero, Nat.mul_one, near_1]
    exact set_n c2 (by omega)
  rw [e, er]
  have := (NB.of c1 c2 (show -1074 ≤ (k : Int) - 52 by omega) (by omega)).val
  rw [this]
  rw [show 2 ^ 52 + (a * 2 ^ (52 - k) - 2 ^ 52) = a * 2 ^ (52 - k) by omega]
  congr 1
  omega
theorem near_b {A B M : Nat} (hB : 0 < B) (h1 : M * B ≤ A) (h2 : A < 2 * M * B) : M ≤ FP.Core.nearest A B ∧ FP.Core.nearest A B ≤ 2 * M := by
  have d1 : M ≤ A / B := (Nat.le_div_iff_mul_le hB).2 h1
  have d2 : A / B < 2 * M := (Nat.div_lt_iff_lt_mul hB).2 h2
  unfold FP.Core.nearest
  split
  · omega
  · split
    · omega
    · omega
/-- two numbers of 53 digits, divided -/
theorem quo {c d : Nat} {e : Int} (c1 : 2 ^ 52 ≤ c) (c2 : c < 2 ^ 53) (d1 : 2 ^ 52 ≤ d) (d2 : d < 2 ^ 53) (e1 : -30 ≤ e) (e2 : e ≤ 0) (he : e = 0 → c ≤ d) : ∃ E F, NB (UInt64.ofNat (FP.Core.encode FP.Core.b64 (FP.Core.roundRatio FP.Core.b64 false c d e))) E F ∧ 990 ≤ E ∧ (E ≤ 1022 ∨ (E = 1023 ∧ F = 0)) := by
  have l1 := log2_e (A := c) (k := 52) c1 c2
  have l2 := log2_e (A := d) (k := 52) d1 d2
  -- the leading digit
  obtain ⟨k, hk, hk2⟩ : ∃ k : Int, FP.Core.leading c d = k ∧ ((k = 0 ∧ d ≤ c) ∨ (k = -1 ∧ c < d)) := by
    unfold FP.Core.leading
    rw [l1, l2]
    simp only [Int.sub_self, Int.toNat_zero, Int.neg_zero, Nat.pow_zero, Nat.mul_one]
    by_cases q : d ≤ c
    · rw [if_pos q]; exact ⟨0, rfl, Or.inl ⟨rfl, q⟩⟩
    · rw [if_neg q]; exact ⟨-1, rfl, Or.inr ⟨rfl, by omega⟩⟩
  have eq : FP.Core.quantum FP.Core.b64 c d e = k + e - 52 := by
    unfold FP.Core.quantum
    rw [hk, f_q, f_p]
    omega
  have er : FP.Core.roundRatio FP.Core.b64 false c d e = FP.Core.settle FP.Core.b64 false (FP.Core.nearest (c * 2 ^ (52 - k).toNat) d) (k + e - 52) := by
    unfold FP.Core.roundRatio
    rw [if_neg (by omega), eq]
    unfold FP.Core.roundAt FP.Core.unitsNum FP.Core.unitsDen
    rw [show (e - (k + e - 52)).toNat = (52 - k).toNat by omega, show (k + e - 52 - e).toNat = 0 by omega, Nat.pow_zero, Nat.mul_one]
  have nb : 2 ^ 52 ≤ FP.Core.nearest (c * 2 ^ (52 - k).toNat) d ∧ FP.Core.nearest (c * 2 ^ (52 - k).toNat) d ≤ 2 * 2 ^ 52 := by
    rcases hk2 with ⟨h1, h2⟩ | ⟨h1, h2⟩
    · subst h1
      refine near_b (by omega) ?_ ?_
      · show 2 ^ 52 * d ≤ c * 2 ^ 52
        omega
      · show c * 2 ^ 52 < 2 * 2 ^ 52 * d
        omega
    · subst h1
      refine near_b (by omega) ?_ ?_
      · show 2 ^ 52 * d ≤ c * 2 ^ 53
        omega
      · show c * 2 ^ 53 < 2 * 2 ^ 52 * d
        omega
  have m0 : k + e = 0 → FP.Core.nearest (c * 2 ^ (52 - k).toNat) d = 2 ^ 52 := fun z => by
    have k0 : k = 0 := by omega
    have cd : c = d := by
      have := he (by omega)
      omega
    subst k0
    rw [cd, Nat.mul_comm]
    exact near_x (by omega)
  rw [er]
  generalize FP.Core.nearest (c * 2 ^ (52 - k).toNat) d = m at nb m0
  by_cases q : m < 2 ^ 53
  · rw [set_n q (by omega)]
    refine ⟨_, _, NB.of nb.1 q (by omega) (by omega), by omega, ?_⟩
    by_cases z : k + e = 0
    · have := m0 z
      omega
    · omega
  · have em : FP.Core.settle FP.Core.b64 false m (k + e - 52) = .fin false (2 ^ 52) (k + e - 52 + 1) := by
      unfold FP.Core.settle FP.Core.bound
      rw [f_p, f_m, f_t, if_neg q, if_pos (by omega)]
    rw [em]
    refine ⟨_, _, NB.of (Nat.le_refl _) (by decide) (by omega) (by omega), by omega, ?_⟩
    by_cases z : k + e = 0
    · have := m0 z
      omega
    · omega
theorem share {a b : Nat} (ha : 0 < a) (hab : a ≤ b) (hb : b < 2 ^ 28) : ∃ E F, NB (FP.ddiv (FP.i2d (nI a)) (FP.i2d (nI b))) E F ∧ 990 ≤ E ∧ (E ≤ 1022 ∨ (E = 1023 ∧ F = 0)) := by
  have a1 := Nat.log2_self_le (n := a) (by omega)
  have a2 := Nat.lt_log2_self (n := a)
  have b1 := Nat.log2_self_le (n := b) (by omega)
  have b2 := Nat.lt_log2_self (n := b)
  generalize a.log2 = k at a1 a2
  generalize b.log2 = l at b1 b2
  have hkl : k < l + 1 := (Nat.pow_lt_pow_iff_right (a := 2) (by decide)).1 (by omega)
  have hl : l < 28 := (Nat.pow_lt_pow_iff_right (a := 2) (by decide)).1 (by omega)
  have va := i2d_n a1 a2 (by omega)
  have vb := i2d_n b1 b2 (by omega)
  have e : FP.ddiv (FP.i2d (nI a)) (FP.i2d (nI b)) = UInt64.ofNat (FP.Core.encode FP.Core.b64 (FP.Core.quotient FP.Core.b64 (FP.Core.decode FP.Core.b64 (FP.i2d (nI a)).toNat) (FP.Core.decode FP.Core.b64 (FP.i2d (nI b)).toNat))) := rfl
  have bnd : ∀ x m : Nat, 2 ^ m ≤ x → x < 2 ^ (m + 1) → m ≤ 52 → 2 ^ 52 ≤ x * 2 ^ (52 - m) ∧ x * 2 ^ (52 - m) < 2 ^ 53 := fun x m h1 h2 hm => by
    have e1 : 2 ^ m * 2 ^ (52 - m) = 2 ^ 52 := by rw [← Nat.pow_add]; congr 1; omega
    have e2 : 2 ^ (m + 1) * 2 ^ (52 - m) = 2 ^ 53 := by rw [← Nat.pow_add]; congr 1; omega
    have f1 := Nat.mul_le_mul_right (2 ^ (52 - m)) h1
    have f2 := Nat.mul_lt_mul_of_pos_right h2 (Nat.two_pow_pos (52 - m))
    omega
  obtain ⟨c1, c2⟩ := bnd a k a1 a2 (by omega)
  obtain ⟨d1, d2⟩ := bnd b l b1 b2 (by omega)
  rw [e, va, vb]
  have eq : FP.Core.quotient FP.Core.b64 (.fin false (a * 2 ^ (52 - k)) ((k : Int) - 52)) (.fin false (b * 2 ^ (52 - l)) ((l : Int) - 52)) = FP.Core.roundRatio FP.Core.b64 false (a * 2 ^ (52 - k)) (b * 2 ^ (52 - l)) ((k : Int) - 52 - ((l : Int) - 52)) := if_neg (by omega)
  rw [eq]
  refine quo c1 c2 d1 d2 (by omega) (by omega) fun z => ?_
  have : k = l := by omega
  rw [this]
  exact Nat.mul_le_mul_right _ hab
theorem icmp_lt {a b : Int} (h : a < b) : compare a b = .lt := by
  show compareOfLessAndEq a b = _
  unfold compareOfLessAndEq
  rw [if_pos h]
theorem icmp_gt {a b : Int} (h : b < a) : compare a b = .gt := by
  show compareOfLessAndEq a b = _
  unfold compareOfLessAndEq
  rw [if_neg (by omega), if_neg (by omega)]
theorem icmp_eq {a : Int} : compare a a = .eq := by
  show compareOfLessAndEq a a = _
  unfold compareOfLessAndEq
  rw [if_neg (by omega), if_pos rfl]
theorem cmp_self {x : UInt64} {E F : Nat} (h : NB x E F) : FP.dcmp x x = some .eq := by
  show FP.Core.order (FP.Core.decode FP.Core.b64 x.toNat) (FP.Core.decode FP.Core.b64 x.toNat) = _
  rw [h.val]
  exact congrArg some icmp_eq
theorem cmp_one {x : UInt64} {E F : Nat} (h : NB x E F) (hE : E ≤ 1022) : FP.dcmp x FP.dconst1 = some .lt := by
  obtain ⟨_, hF, h1, _⟩ := id h
  show FP.Core.order (FP.Core.decode FP.Core.b64 x.toNat) (FP.Core.decode FP.Core.b64 FP.dconst1.toNat) = _
  rw [h.val, one_val]
  refine congrArg some (icmp_lt ?_)
  unfold FP.Core.inUnits
  rw [show min ((E : Int) - 1075) (-52) = (E : Int) - 1075 by omega, show ((E : Int) - 1075 - ((E : Int) - 1075)).toNat = 0 by omega]
  obtain ⟨d, hd⟩ : ∃ d, (-52 - ((E : Int) - 1075)).toNat = d + 1 := ⟨(-52 - ((E : Int) - 1075)).toNat - 1, by omega⟩
  rw [hd, Nat.pow_succ]
  have := Nat.two_pow_pos d
  show ((2 ^ 52 + F) * 2 ^ 0 : Nat) < ((2 ^ 52 * (2 ^ d * 2) : Nat) : Int)
  generalize 2 ^ d = y at this
  omega
theorem cmp_oneg {x : UInt64} {F : Nat} (h : NB x 1023 F) : ¬ Op.cmpValue (FP.dcmp x FP.dconst1) .g < nI 0 := by
  have e : FP.dcmp x FP.dconst1 = some .gt ∨ FP.dcmp x FP.dconst1 = some .eq := by
    show FP.Core.order (FP.Core.decode FP.Core.b64 x.toNat) (FP.Core.decode FP.Core.b64 FP.dconst1.toNat) = _ ∨ FP.Core.order (FP.Core.decode FP.Core.b64 x.toNat) (FP.Core.decode FP.Core.b64 FP.dconst1.toNat) = _
    rw [h.val, one_val]
    by_cases z : F = 0
    · subst z; exact Or.inr rfl
    · refine Or.inl (congrArg some (icmp_gt ?_))
      unfold FP.Core.inUnits
      show ((2 ^ 52 * 2 ^ 0 : Nat) : Int) < ((2 ^ 52 + F) * 2 ^ 0 : Nat)
      omega
  rcases e with e | e <;> rw [e] <;> decide
theorem cmp_zero {x : UInt64} {E F : Nat} (h : NB x E F) : nI 0 < Op.cmpValue (FP.dcmp x FP.dconst0) .g := by
  obtain ⟨_, hF, h1, _⟩ := id h
  have e : FP.dcmp x FP.dconst0 = some .gt := by
    show FP.Core.order (FP.Core.decode FP.Core.b64 x.toNat) (FP.Core.decode FP.Core.b64 FP.dconst0.toNat) = _
    rw [h.val, zer_val]
    refine congrArg some (icmp_gt ?_)
    unfold FP.Core.inUnits
    have := Nat.two_pow_pos ((E : Int) - 1075 - min ((E : Int) - 1075) (-1074)).toNat
    generalize 2 ^ ((E : Int) - 1075 - min ((E : Int) - 1075) (-1074)).toNat = y at this ⊢
    rw [Nat.zero_mul]
    show ((0 : Nat) : Int) < ((2 ^ 52 + F) * y : Nat)
    have := Nat.mul_pos (show 0 < 2 ^ 52 + F by omega) this
    omega
  rw [e]; decide
/-- the fraction as a whole number -/
theorem frac {y : UInt64} {F : Nat} (h : NB y 1023 F) : n64 (FP.dsub y FP.dconst1) = true ∧ n64 (FP.dmul (FP.dsub y FP.dconst1) (UInt64.ofNat 4841369599423283200)) = true ∧ FP.d2l (FP.dmul (FP.dsub y FP.dconst1) (UInt64.ofNat 4841369599423283200)) = Int64.ofInt (F : Int) := by
  obtain ⟨hy, hF, _, _⟩ := id h
  by_cases z : F = 0
  · subst z
    have : y = FP.dconst1 := UInt64.toNat_inj.1 (by rw [hy]; decide)
    subst this
    decide +kernel
  · have f1 := Nat.log2_self_le (n := F) z
    have f2 := Nat.lt_log2_self (n := F)
    generalize F.log2 = l at f1 f2
    have hl : l < 52 := (Nat.pow_lt_pow_iff_right (a := 2) (by decide)).1 (by omega)
    have e1 : 2 ^ l * 2 ^ (52 - l) = 2 ^ 52 := by rw [← Nat.pow_add]; congr 1; omega
    have e2 : 2 ^ (l + 1) * 2 ^ (52 - l) = 2 ^ 53 := by rw [← Nat.pow_add]; congr 1; omega
    have c1 := Nat.mul_le_mul_right (2 ^ (52 - l)) f1
    have c2 := Nat.mul_lt_mul_of_pos_right f2 (Nat.two_pow_pos (52 - l))
    rw [e1] at c1
    rw [e2] at c2
    have hc : F * 2 ^ (52 - l) / 2 ^ (52 - l) = F := Nat.mul_div_cancel _ (Nat.two_pow_pos _)
    have hsub : FP.dsub y FP.dconst1 = UInt64.ofNat (FP.Core.encode FP.Core.b64 (.fin false (F * 2 ^ (52 - l)) ((l : Int) - 104))) := by
      show UInt64.ofNat (FP.Core.encode FP.Core.b64 (FP.Core.round FP.Core.b64 (FP.Core.exactSum (FP.Core.decode FP.Core.b64 y.toNat) (FP.Core.negate (FP.Core.decode FP.Core.b64 FP.dconst1.toNat))))) = _
      rw [h.val, one_val]
      have es : FP.Core.exactSum (.fin false (2 ^ 52 + F) (((1023 : Nat) : Int) - 1075)) (FP.Core.negate (.fin false (2 ^ 52) (-52))) = .fin false F (-52) := by
        have hv : FP.Core.sumUnits false (2 ^ 52 + F) (((1023 : Nat) : Int) - 1075) true (2 ^ 52) (-52) (-52) = (F : Int) := by
          show (((2 ^ 52 + F) * 2 ^ 0 : Nat) : Int) + -((2 ^ 52 * 2 ^ 0 : Nat) : Int) = F
          omega
        show FP.Core.Datum.fin (FP.Core.sumSign false true (FP.Core.sumUnits false (2 ^ 52 + F) (((1023 : Nat) : Int) - 1075) true (2 ^ 52) (-52) (-52))) (FP.Core.sumUnits false (2 ^ 52 + F) (((1023 : Nat) : Int) - 1075) true (2 ^ 52) (-52) (-52)).natAbs (-52) = _
        rw [hv]
        unfold FP.Core.sumSign
        rw [if_neg (by omega), decide_eq_false (by omega)]
        rfl
      rw [es]
      show UInt64.ofNat (FP.Core.encode FP.Core.b64 (FP.Core.roundRatio FP.Core.b64 false F 1 (-52))) = _
      rw [rr_1 (k := l) (q := (l : Int) - 104) f1 f2 (by omega) (by omega), show ((-52 : Int) - ((l : Int) - 104)).toNat = 52 - l by omega, show ((l : Int) - 104 - -52).toNat = 0 by omega, Nat.pow_zero, Nat.mul_one, near_1, set_n c2 (by omega)]
    have N1 := NB.of (q := (l : Int) - 104) c1 c2 (by omega) (by omega)
    have hmul : FP.dmul (FP.dsub y FP.dconst1) (UInt64.ofNat 4841369599423283200) = UInt64.ofNat (FP.Core.encode FP.Core.b64 (.fin false (F * 2 ^ (52 - l)) ((l : Int) - 52))) := by
      rw [hsub]
      have v := N1.val
      rw [show 2 ^ 52 + (F * 2 ^ (52 - l) - 2 ^ 52) = F * 2 ^ (52 - l) by omega, show ((((l : Int) - 104 + 1075).toNat : Nat) : Int) - 1075 = (l : Int) - 104 by omega] at v
      generalize UInt64.ofNat (FP.Core.encode FP.Core.b64 (.fin false (F * 2 ^ (52 - l)) ((l : Int) - 104))) = w at v
      show UInt64.ofNat (FP.Core.encode FP.Core.b64 (FP.Core.round FP.Core.b64 (FP.Core.exactProduct (FP.Core.decode FP.Core.b64 w.toNat) (FP.Core.decode FP.Core.b64 (UInt64.ofNat 4841369599423283200).toNat)))) = _
      rw [v, big_val]
      show UInt64.ofNat (FP.Core.encode FP.Core.b64 (FP.Core.roundRatio FP.Core.b64 (false != false) (F * 2 ^ (52 - l) * 2 ^ 52) 1 ((l : Int) - 104 + 0))) = _
      rw [rr_p c1 c2 (by omega) (by omega), show (l : Int) - 104 + 0 + 52 = (l : Int) - 52 by omega]
      rfl
    have N2 := NB.of (q := (l : Int) - 52) c1 c2 (by omega) (by omega)
    refine ⟨by rw [hsub]; exact N1.n, by rw [hmul]; exact N2.n, ?_⟩
    rw [hmul]
    have v := N2.val
    rw [show 2 ^ 52 + (F * 2 ^ (52 - l) - 2 ^ 52) = F * 2 ^ (52 - l) by omega, show ((((l : Int) - 52 + 1075).toNat : Nat) : Int) - 1075 = (l : Int) - 52 by omega] at v
    generalize UInt64.ofNat (FP.Core.encode FP.Core.b64 (.fin false (F * 2 ^ (52 - l)) ((l : Int) - 52))) = w at v
    show FP.Core.toL (FP.Core.decode FP.Core.b64 w.toNat) = _
    rw [v]
    unfold FP.Core.toL FP.Core.toInt FP.Core.truncate
    simp only
    rw [show ((l : Int) - 52).toNat = 0 by omega, show (-((l : Int) - 52)).toNat = 52 - l by omega, Nat.pow_zero, Nat.mul_one, hc]
    show Int64.ofInt (max (-2 ^ 63) (min (2 ^ 63 - 1) ((F : Nat) : Int))) = _
    rw [show max (-2 ^ 63) (min (2 ^ 63 - 1) ((F : Nat) : Int)) = (F : Int) by omega]
theorem expo : ∀ k, k < 34 → (lN 1023 - (nI k).toInt64) <<< ((nI 52).toInt64 &&& 63) = Int64.ofInt ((((1023 - k) * 2 ^ 52 : Nat)) : Int) := by decide +kernel
theorem u_i64 {x : UInt64} : x.toInt64 = Int64.ofInt (x.toNat : Int) := by
  apply Int64.toBitVec_inj.1
  show x.toBitVec = BitVec.ofInt 64 (x.toNat : Int)
  rw [BitVec.ofInt_natCast]
  exact (BitVec.ofNat_toNat 64 x.toBitVec).symm ▸ rfl
theorem t88_n {X : XS} {I : GI} {R : GR} {L : GL} {Z : Nat × Nat × Bool} {x : UInt64} {E F : Nat} (h : NB x E F) (h1 : 990 ≤ E) (h2 : E ≤ 1023) : exec X 88 [vD x] (gg I R L Z) = some (.inl (some (vL x.toInt64)), gg I R L Z) := by
  obtain ⟨hx, hF, _, _⟩ := id h
  have z := cmp_zero h
  have key : ∀ k, k ≤ 1023 - E → ∀ y, NB y (E + k) F → ex X 88 13 [vD x, vU, vD y, vU, vI (nI k), vU, vU] [] (gg I R L Z) = some (.inl (some (vL x.toInt64)), gg I R L Z) := by
    refine down _ ?_ ?_
    · intro y hy
      rw [show E + (1023 - E) = 1023 by omega] at hy
      have c := cmp_oneg hy
      obtain ⟨f1, f2, f3⟩ := frac hy
      have ex := expo (1023 - E) (by omega)
      have er : (lN 1023 - (nI (1023 - E)).toInt64) <<< ((nI 52).toInt64 &&& 63) + Int64.ofInt (F : Int) = x.toInt64 := by
        have es : ((((1023 - (1023 - E)) * 2 ^ 52 : Nat)) : Int) + (F : Int) = ((E * 2 ^ 52 + F : Nat) : Int) := by omega
        rw [ex, ← Int64.ofInt_add, u_i64, hx, es]
      rw [x88_13]
      simp (disch := first | assumption | omega | exact nI_or0 | exact nI_or1 | exact bN_or _) only [x88_14, x88_15, x88_16, x88_39, x88_40, x88_41, x88_42, x88_45, x88_46, x88_47, x88_49, x88_52, x88_54, x88_55, x88_56, x88_58, x88_59, x88_61, x88_62, c, f3, er, if_false]
    · intro k hk ih y hy
      have c := cmp_one hy (by omega)
      have c2 : Op.cmpValue (FP.dcmp y FP.dconst1) .g < nI 0 := by rw [c]; decide
      have ht := hy.two (by omega)
      have hn := ht.n
      have ih := ih _ ht
      have k22 : k < 1022 := by omega
      have k31 : k < 2 ^ 31 := by omega
      rw [← ih, x88_13]
      simp (disch := first | assumption | omega | exact nI_or0 | exact nI_or1 | exact bN_or _) only [x88_14, x88_15, x88_16, x88_19, x88_21, x88_24, x88_27, x88_28, x88_31, x88_32, x88_33, x88_36, reduceIte, Nat.reduceLT, nW_ap, nW_up, nI_add, pk_mul, nI_ltI, nI_eq, if_true, if_false, kont_r, kont_v, Nat.reduceAdd, Nat.reduceMul, Nat.not_lt, not_true_eq_false, not_false_eq_true, Nat.one_ne_zero, Nat.reduceEqDiff, Nat.lt_irrefl, reduceCtorEq, nI_or0, nI_or1, c2, k22]
  have h0 := key 0 (Nat.zero_le _) x h
  simp (disch := first | assumption | omega | exact nI_or0 | exact nI_or1 | exact bN_or _) only [in88, x88_0, x88_1, x88_2, x88_3, x88_6, x88_7, x88_8, x88_9, x88_10, x88_11, reduceIte, Nat.reduceLT, nW_ap, nW_up, nI_add, pk_mul, nI_ltI, nI_eq, if_true, if_false, kont_r, kont_v, Nat.reduceAdd, Nat.reduceMul, Nat.not_lt, not_true_eq_false, not_false_eq_true, Nat.one_ne_zero, Nat.reduceEqDiff, Nat.lt_irrefl, reduceCtorEq, nI_or0, nI_or1, z]
  exact h0
theorem t88_0 {X : XS} {I : GI} {R : GR} {L : GL} {Z : Nat × Nat × Bool} : exec X 88 [vD FP.dconst0] (gg I R L Z) = some (.inl (some (vL FP.dconst0.toInt64)), gg I R L Z) := by
  have c : ¬ nI 0 < Op.cmpValue (FP.dcmp FP.dconst0 FP.dconst0) .g := by decide +kernel
  have e : lN 0 = FP.dconst0.toInt64 := by decide +kernel
  simp (disch := first | assumption | omega | exact nI_or0 | exact nI_or1 | exact bN_or _) only [in88, x88_0, x88_1, x88_2, x88_3, x88_6, x88_7, reduceIte, Nat.reduceLT, nW_ap, nW_up, nI_add, pk_mul, nI_ltI, nI_eq, if_true, if_false, kont_r, kont_v, Nat.reduceAdd, Nat.reduceMul, Nat.not_lt, not_true_eq_false, not_false_eq_true, Nat.one_ne_zero, Nat.reduceEqDiff, Nat.lt_irrefl, reduceCtorEq, nI_or0, nI_or1, c, e]
/-- the share of the fed -/
theorem fed_c {S : Nat → Nat} (h8 : S 8 ≤ S 9) (h9 : S 9 < 2 ^ 28) : (∃ E F, NB (fedV S) E F ∧ 990 ≤ E ∧ E ≤ 1023) ∨ fedV S = FP.dconst0 := by
  unfold fedV
  by_cases q : S 9 = 0
  · rw [if_pos q]
    exact Or.inl ⟨1023, 0, by unfold NB; decide +kernel, by omega, by omega⟩
  · rw [if_neg q]
    by_cases q2 : S 9 - S 8 = 0
    · right
      have b1 := Nat.log2_self_le (n := S 9) q
      have b2 := Nat.lt_log2_self (n := S 9)
      generalize (S 9).log2 = l at b1 b2
      have hl : l < 28 := (Nat.pow_lt_pow_iff_right (a := 2) (by decide)).1 (by omega)
      have vb := i2d_n b1 b2 (by omega)
      have v0 : FP.Core.decode FP.Core.b64 (FP.i2d (nI 0)).toNat = .fin false 0 (-1074) := by decide +kernel
      rw [q2]
      show UInt64.ofNat (FP.Core.encode FP.Core.b64 (FP.Core.quotient FP.Core.b64 (FP.Core.decode FP.Core.b64 (FP.i2d (nI 0)).toNat) (FP.Core.decode FP.Core.b64 (FP.i2d (nI (S 9))).toNat))) = _
      rw [v0, vb]
      have hp := Nat.mul_pos (show 0 < S 9 by omega) (Nat.two_pow_pos (52 - l))
      have eq : FP.Core.quotient FP.Core.b64 (.fin false 0 (-1074)) (.fin false (S 9 * 2 ^ (52 - l)) ((l : Int) - 52)) = FP.Core.roundRatio FP.Core.b64 (false != false) 0 (S 9 * 2 ^ (52 - l)) (-1074 - ((l : Int) - 52)) := if_neg (by omega)
      rw [eq]
      unfold FP.Core.roundRatio
      rw [if_pos rfl]
      decide +kernel
    · obtain ⟨E, F, a, b, c⟩ := share (a := S 9 - S 8) (b := S 9) (by omega) (by omega) h9
      exact Or.inl ⟨E, F, a, b, by omega⟩
theorem fed_ok {S : Nat → Nat} (h8 : S 8 ≤ S 9) (h9 : S 9 < 2 ^ 28) : okD (fedV S) := by
  rcases fed_c h8 h9 with ⟨E, F, a, _, _⟩ | a
  · exact ⟨a.n, by rw [cmp_self a]; decide⟩
  · rw [a]; exact ⟨by decide +kernel, by decide +kernel⟩
theorem t88 {X : XS} {I : GI} {R : GR} {L : GL} {Z : Nat × Nat × Bool} {S : Nat → Nat} (h8 : S 8 ≤ S 9) (h9 : S 9 < 2 ^ 28) : exec X 88 [vD (fedV S)] (gg I R L Z) = some (.inl (some (vL (fedV S).toInt64)), gg I R L Z) := by
  rcases fed_c h8 h9 with ⟨E, F, a, b, c⟩ | a
  · exact t88_n a b c
  · rw [a]; exact t88_0
theorem k72 {X : XS} {N : GV} {R : GR} {L : GL} {Z : Nat × Nat × Bool} (hR : Rok R) {V : GV} (hP : PK N 0 V) (h8 : V 22 0 8 ≤ V 22 0 9) (h9 : V 22 0 9 < 2 ^ 28) : exec X 72 [vR 6 0] (gg (nW N) R L Z) = some (.inl (some (vD (fedV (V 22 0)))), (gg (nW N) R L Z)) := by
  obtain ⟨r7, r8, _⟩ := hP.1.2.2.1
  have ok := (fed_ok h8 h9).1
  unfold fedV at ok ⊢
  by_cases q : V 22 0 9 = 0
  · rw [if_pos q]
    rw [q] at r8
    simp (disch := first | assumption | omega | exact nI_or0 | exact nI_or1 | exact bN_or _) only [in72, x72_0, x72_1, x72_4, x72_7, x72_10, x72_11, x72_12, x72_13, x72_16, x72_19, x72_20, x72_23, x72_26, x72_27, x72_28, x72_29, x72_32, x72_35, x72_36, x72_37, in72, reduceIte, Nat.reduceLT, nW_ap, nW_up, nI_add, pk_mul, nI_ltI, nI_eq, if_true, if_false, kont_r, kont_v, Nat.reduceAdd, Nat.reduceMul, Nat.not_lt, not_true_eq_false, not_false_eq_true, Nat.one_ne_zero, Nat.reduceEqDiff, Nat.lt_irrefl, reduceCtorEq, nI_or0, nI_or1, r8]
  · rw [if_neg q] at ok ⊢
    have q' : 0 < V 22 0 9 := by omega
    simp (disch := first | assumption | omega | exact nI_or0 | exact nI_or1 | exact bN_or _) only [in72, x72_0, x72_1, x72_4, x72_7, x72_10, x72_11, x72_12, x72_13, x72_16, x72_19, x72_20, x72_23, x72_26, x72_27, x72_28, x72_29, x72_32, x72_35, x72_36, x72_37, in72, reduceIte, Nat.reduceLT, nW_ap, nW_up, nI_add, pk_mul, nI_ltI, nI_eq, if_true, if_false, kont_r, kont_v, Nat.reduceAdd, Nat.reduceMul, Nat.not_lt, not_true_eq_false, not_false_eq_true, Nat.one_ne_zero, Nat.reduceEqDiff, Nat.lt_irrefl, reduceCtorEq, nI_or0, nI_or1, r7, r8, q', pk_sub]
