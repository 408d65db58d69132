/-! doubles: shares of children -/
/-- a number between 0 and infinity, not too small: its exponent E, its fraction F -/
def NB (x : UInt64) (E F : Nat) : Prop := x.toNat = E * 2 ^ 52 + F ∧ F < 2 ^ 52 ∧ 1 ≤ E ∧ E ≤ 2046
theorem f_t : FP.Core.b64.tails = 2 ^ 52 := by decide
theorem f_e : FP.Core.b64.exps = 2048 := by decide
theorem f_q : FP.Core.b64.qmin = -1074 := by decide
theorem f_m : FP.Core.b64.qmax = 971 := by decide
theorem f_p : FP.Core.b64.p = 53 := by decide
theorem f_mask (x : UInt64) : (x &&& 0x7fffffffffffffff).toNat = x.toNat % 2 ^ 63 := by
  rw [UInt64.toNat_and]
  exact Nat.and_two_pow_sub_one_eq_mod x.toNat 63
theorem NB.n {x : UInt64} {E F : Nat} (h : NB x E F) : n64 x = true := by
  unfold n64
  rw [decide_eq_true_eq, UInt64.le_iff_toNat_le, f_mask]
  obtain ⟨a, b, c, d⟩ := h
  show x.toNat % 2 ^ 63 ≤ 9218868437227405312
  omega
theorem dec_n {n E F : Nat} (a : n = E * 2 ^ 52 + F) (hF : F < 2 ^ 52) (h1 : 1 ≤ E) (h2 : E ≤ 2046) : FP.Core.decode FP.Core.b64 n = .fin false (2 ^ 52 + F) ((E : Int) - 1075) := by
  have e1 : FP.Core.fieldE FP.Core.b64 n = E := by
    unfold FP.Core.fieldE
    rw [f_t, f_e]
    omega
  have e2 : FP.Core.fieldT FP.Core.b64 n = F := by
    unfold FP.Core.fieldT
    rw [f_t]
    omega
  have e3 : FP.Core.fieldS FP.Core.b64 n = false := by
    unfold FP.Core.fieldS
    rw [f_t, f_e, show n / 2 ^ 52 / 2048 % 2 = 0 by omega]
    rfl
  unfold FP.Core.decode
  rw [e1, e2, e3, f_e, if_neg (by omega), if_neg (by omega), f_t, f_q]
  congr 1
  omega
theorem NB.val {x : UInt64} {E F : Nat} (h : NB x E F) : FP.Core.decode FP.Core.b64 x.toNat = .fin false (2 ^ 52 + F) ((E : Int) - 1075) := dec_n h.1 h.2.1 h.2.2.1 h.2.2.2
theorem enc_n {c : Nat} {q : Int} (h1 : 2 ^ 52 ≤ c) (h3 : -1074 ≤ q) : FP.Core.encode FP.Core.b64 (.fin false c q) = ((q + 1074).toNat + 1) * 2 ^ 52 + (c - 2 ^ 52) := by
  unfold FP.Core.encode
  simp only
  rw [f_t, if_neg (by omega)]
  unfold FP.Core.assemble
  rw [f_t, f_q, f_e, show q - -1074 = q + 1074 by omega]
  show (0 * 2048 + ((q + 1074).toNat + 1)) * 2 ^ 52 + (c - 2 ^ 52) = _
  rw [Nat.zero_mul, Nat.zero_add]
/-- the bits of a number that is rounded already -/
theorem NB.of {c : Nat} {q : Int} (h1 : 2 ^ 52 ≤ c) (h2 : c < 2 ^ 53) (h3 : -1074 ≤ q) (h4 : q ≤ 971) : NB (UInt64.ofNat (FP.Core.encode FP.Core.b64 (.fin false c q))) ((q + 1075).toNat) (c - 2 ^ 52) := by
  rw [enc_n h1 h3]
  refine ⟨?_, by omega, by omega, by omega⟩
  rw [UInt64.toNat_ofNat', Nat.mod_eq_of_lt (by omega)]
  omega
theorem log2_e {A k : Nat} (h1 : 2 ^ k ≤ A) (h2 : A < 2 ^ (k + 1)) : A.log2 = k := by
  have h0 : A ≠ 0 := by have := Nat.two_pow_pos k; omega
  have a := (Nat.le_log2 h0).2 h1
  have b := (Nat.log2_lt h0).2 h2
  omega
theorem near_x {c d : Nat} (h : 0 < d) : FP.Core.nearest (c * d) d = c := by
  unfold FP.Core.nearest
  rw [Nat.mul_mod_left, if_pos (by omega), Nat.mul_div_cancel _ h]
theorem near_1 {c : Nat} : FP.Core.nearest c 1 = c := by
  have := near_x (c := c) (d := 1) (by decide)
  rw [Nat.mul_one] at this
  exact this
theorem lead_1 {A k : Nat} (h1 : 2 ^ k ≤ A) (h2 : A < 2 ^ (k + 1)) : FP.Core.leading A 1 = k := by
  have e : Nat.log2 1 = 0 := by decide
  unfold FP.Core.leading
  rw [log2_e h1 h2, e]
  simp only
  rw [if_pos (by
    rw [show ((k : Int) - ((0 : Nat) : Int)).toNat = k by omega, show (-((k : Int) - ((0 : Nat) : Int))).toNat = 0 by omega, Nat.one_mul, Nat.pow_zero, Nat.mul_one]
    exact h1)]
  omega
/-- a number of k + 1 digits, rounded; q: the last digit's exponent -/
theorem rr_1 {A k : Nat} {e q : Int} {s : Bool} (h1 : 2 ^ k ≤ A) (h2 : A < 2 ^ (k + 1)) (hq : q = (k : Int) + e - 52) (hm : -1074 ≤ q) : FP.Core.roundRatio FP.Core.b64 s A 1 e = FP.Core.settle FP.Core.b64 s (FP.Core.nearest (A * 2 ^ (e - q).toNat) (1 * 2 ^ (q - e).toNat)) q := by
  have h0 : ¬ A = 0 := by have := Nat.two_pow_pos k; omega
  have eq : FP.Core.quantum FP.Core.b64 A 1 e = q := by
    unfold FP.Core.quantum
    rw [lead_1 h1 h2, f_q, f_p]
    omega
  unfold FP.Core.roundRatio
  rw [if_neg h0, eq]
  rfl
theorem set_n {c : Nat} {q : Int} {s : Bool} (h : c < 2 ^ 53) (hq : q ≤ 971) : FP.Core.settle FP.Core.b64 s c q = .fin s c q := by
  unfold FP.Core.settle FP.Core.bound
  rw [f_p, f_m, if_pos h, if_pos hq]
theorem two_val : FP.Core.decode FP.Core.b64 (UInt64.ofNat 4611686018427387904).toNat = .fin false (2 ^ 52) (-51) := by decide +kernel
theorem big_val : FP.Core.decode FP.Core.b64 (UInt64.ofNat 4841369599423283200).toNat = .fin false (2 ^ 52) 0 := by decide +kernel
theorem one_val : FP.Core.decode FP.Core.b64 FP.dconst1.toNat = .fin false (2 ^ 52) (-52) := by decide +kernel
theorem zer_val : FP.Core.decode FP.Core.b64 FP.dconst0.toNat = .fin false 0 (-1074) := by decide +kernel
/-- a product of two numbers of 53 digits the second of which is a power of two -/
theorem rr_p {c : Nat} {e : Int} {s : Bool} (h1 : 2 ^ 52 ≤ c) (h2 : c < 2 ^ 53) (h3 : -1126 ≤ e) (h4 : e ≤ 919) : FP.Core.roundRatio FP.Core.b64 s (c * 2 ^ 52) 1 e = .fin s c (e + 52) := by
  rw [rr_1 (k := 104) (q := e + 52) (by omega) (by omega) (by omega) (by omega), show (e - (e + 52)).toNat = 0 by omega, show (e + 52 - e).toNat = 52 by omega, Nat.pow_zero, Nat.mul_one, Nat.one_mul, near_x (by decide)]
  exact set_n h2 (by omega)
theorem NB.two {x : UInt64} {E F : Nat} (h : NB x E F) (h2 : E ≤ 2045) : NB (FP.dmul x (UInt64.ofNat 4611686018427387904)) (E + 1) F := by
  obtain ⟨_, hF, h1, _⟩ := id h
  have e : FP.dmul x (UInt64.ofNat 4611686018427387904) = UInt64.ofNat (FP.Core.encode FP.Core.b64 (.fin false (2 ^ 52 + F) ((E : Int) - 1074))) := by
    show UInt64.ofNat (FP.Core.encode FP.Core.b64 (FP.Core.round FP.Core.b64 (FP.Core.exactProduct (FP.Core.decode FP.Core.b64 x.toNat) (FP.Core.decode FP.Core.b64 (UInt64.ofNat 4611686018427387904).toNat)))) = _
    rw [h.val, two_val]
    show UInt64.ofNat (FP.Core.encode FP.Core.b64 (FP.Core.roundRatio FP.Core.b64 (false != false) ((2 ^ 52 + F) * 2 ^ 52) 1 ((E : Int) - 1075 + -51))) = _
    rw [rr_p (by omega) (by omega) (by omega) (by omega), show (E : Int) - 1075 + -51 + 52 = (E : Int) - 1074 by omega]
    rfl
  rw [e]
  have := NB.of (c := 2 ^ 52 + F) (q := (E : Int) - 1074) (by omega) (by omega) (by omega) (by omega)
  rw [show ((E : Int) - 1074 + 1075).toNat = E + 1 by omega, show 2 ^ 52 + F - 2 ^ 52 = F by omega] at this
  exact this
/-- a whole number as a double -/
theorem i2d_n {a k : Nat} (h1 : 2 ^ k ≤ a) (h2 : a < 2 ^ (k + 1)) (hk : k ≤ 30) : FP.Core.decode FP.Core.b64 (FP.i2d (nI a)).toNat = .fin false (a * 2 ^ (52 - k)) ((k : Int) - 52) := by
  have hp : a < 2 ^ 31 := Nat.lt_of_lt_of_le h2 (Nat.pow_le_pow_right (by decide) (by omega))
  have a0 : 0 < a := by have := Nat.two_pow_pos k; omega
  have e : FP.i2d (nI a) = UInt64.ofNat (FP.Core.encode FP.Core.b64 (FP.Core.round FP.Core.b64 (FP.Core.ofInt (nI a).toInt))) := rfl
  have eo : FP.Core.ofInt (nI a).toInt = .fin false a 0 := by
    rw [nI_toInt hp]
    unfold FP.Core.ofInt
    rw [decide_eq_false (by omega)]
    rfl
  have c1 : 2 ^ 52 ≤ a * 2 ^ (52 - k) := by
    have : 2 ^ k * 2 ^ (52 - k) = 2 ^ 52 := by rw [← Nat.pow_add]; congr 1; omega
    have := Nat.mul_le_mul_right (2 ^ (52 - k)) h1
    omega
  have c2 : a * 2 ^ (52 - k) < 2 ^ 53 := by
    have e53 : 2 ^ (k + 1) * 2 ^ (52 - k) = 2 ^ 53 := by rw [← Nat.pow_add]; congr 1; omega
    have := Nat.mul_lt_mul_of_pos_right h2 (Nat.two_pow_pos (52 - k))
    omega
  have er : FP.Core.round FP.Core.b64 (FP.Core.ofInt (nI a).toInt) = .fin false (a * 2 ^ (52 - k)) ((k : Int) - 52) := by
    rw [eo]
    show FP.Core.roundRatio FP.Core.b64 false a 1 0 = _
    rw [rr_1 (k := k) (q := (k : Int) - 52) h1 h2 (by omega) (by omega), show ((0 : Int) - ((k : Int) - 52)).toNat = 52 - k by omega, show ((k : Int) - 52 - 0).toNat = 0 by omega, Nat.pow_zero, Nat.mul_one, near_1]
    exact set_n c2 (by omega)
  rw [e, er]
  have := (NB.of c1 c2 (show -1074 ≤ (k : Int) - 52 by omega) (by omega)).val
  rw [this]
  rw [show 2 ^ 52 + (a * 2 ^ (52 - k) - 2 ^ 52) = a * 2 ^ (52 - k) by omega]
  congr 1
  omega
theorem near_b {A B M : Nat} (hB : 0 < B) (h1 : M * B ≤ A) (h2 : A < 2 * M * B) : M ≤ FP.Core.nearest A B ∧ FP.Core.nearest A B ≤ 2 * M := by
  have d1 : M ≤ A / B := (Nat.le_div_iff_mul_le hB).2 h1
  have d2 : A / B < 2 * M := (Nat.div_lt_iff_lt_mul hB).2 h2
  unfold FP.Core.nearest
  split
  · omega
  · split
    · omega
    · omega
/-- two numbers of 53 digits, divided -/
theorem quo {c d : Nat} {e : Int} (c1 : 2 ^ 52 ≤ c) (c2 : c < 2 ^ 53) (d1 : 2 ^ 52 ≤ d) (d2 : d < 2 ^ 53) (e1 : -30 ≤ e) (e2 : e ≤ 0) (he : e = 0 → c ≤ d) : ∃ E F, NB (UInt64.ofNat (FP.Core.encode FP.Core.b64 (FP.Core.roundRatio FP.Core.b64 false c d e))) E F ∧ 990 ≤ E ∧ (E ≤ 1022 ∨ (E = 1023 ∧ F = 0)) := by
  have l1 := log2_e (A := c) (k := 52) c1 c2
  have l2 := log2_e (A := d) (k := 52) d1 d2
  -- the leading digit
  obtain ⟨k, hk, hk2⟩ : ∃ k : Int, FP.Core.leading c d = k ∧ ((k = 0 ∧ d ≤ c) ∨ (k = -1 ∧ c < d)) := by
    unfold FP.Core.leading
    rw [l1, l2]
    simp only [Int.sub_self, Int.toNat_zero, Int.neg_zero, Nat.pow_zero, Nat.mul_one]
    by_cases q : d ≤ c
    · rw [if_pos q]; exact ⟨0, rfl, Or.inl ⟨rfl, q⟩⟩
    · rw [if_neg q]; exact ⟨-1, rfl, Or.inr ⟨rfl, by omega⟩⟩
  have eq : FP.Core.quantum FP.Core.b64 c d e = k + e - 52 := by
    unfold FP.Core.quantum
    rw [hk, f_q, f_p]
    omega
  have er : FP.Core.roundRatio FP.Core.b64 false c d e = FP.Core.settle FP.Core.b64 false (FP.Core.nearest (c * 2 ^ (52 - k).toNat) d) (k + e - 52) := by
    unfold FP.Core.roundRatio
    rw [if_neg (by omega), eq]
    unfold FP.Core.roundAt FP.Core.unitsNum FP.Core.unitsDen
    rw [show (e - (k + e - 52)).toNat = (52 - k).toNat by omega, show (k + e - 52 - e).toNat = 0 by omega, Nat.pow_zero, Nat.mul_one]
  have nb : 2 ^ 52 ≤ FP.Core.nearest (c * 2 ^ (52 - k).toNat) d ∧ FP.Core.nearest (c * 2 ^ (52 - k).toNat) d ≤ 2 * 2 ^ 52 := by
    rcases hk2 with ⟨h1, h2⟩ | ⟨h1, h2⟩
    · subst h1
      refine near_b (by omega) ?_ ?_
      · show 2 ^ 52 * d ≤ c * 2 ^ 52
        omega
      · show c * 2 ^ 52 < 2 * 2 ^ 52 * d
        omega
    · subst h1
      refine near_b (by omega) ?_ ?_
      · show 2 ^ 52 * d ≤ c * 2 ^ 53
        omega
      · show c * 2 ^ 53 < 2 * 2 ^ 52 * d
        omega
  have m0 : k + e = 0 → FP.Core.nearest (c * 2 ^ (52 - k).toNat) d = 2 ^ 52 := fun z => by
    have k0 : k = 0 := by omega
    have cd : c = d := by
      have := he (by omega)
      omega
    subst k0
    rw [cd, Nat.mul_comm]
    exact near_x (by omega)
  rw [er]
  generalize FP.Core.nearest (c * 2 ^ (52 - k).toNat) d = m at nb m0
  by_cases q : m < 2 ^ 53
  · rw [set_n q (by omega)]
    refine ⟨_, _, NB.of nb.1 q (by omega) (by omega), by omega, ?_⟩
    by_cases z : k + e = 0
    · have := m0 z
      omega
    · omega
  · have em : FP.Core.settle FP.Core.b64 false m (k + e - 52) = .fin false (2 ^ 52) (k + e - 52 + 1) := by
      unfold FP.Core.settle FP.Core.bound
      rw [f_p, f_m, f_t, if_neg q, if_pos (by omega)]
    rw [em]
    refine ⟨_, _, NB.of (Nat.le_refl _) (by decide) (by omega) (by omega), by omega, ?_⟩
    by_cases z : k + e = 0
    · have := m0 z
      omega
    · omega
