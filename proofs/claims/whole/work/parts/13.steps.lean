/-! THE SMALL MACHINE'S STEPS AS EQUATIONS, when all cells are made -/
def cF : Nat → Nat := fun k => match k with
  | 0 => 64
  | 1 => 8
  | 2 => 128
  | 3 => 1
  | 4 => 8
  | 5 => 8
  | 6 => 1
  | 7 => 1
  | 8 => 8
  | 9 => 8
  | 10 => 1
  | 11 => 1
  | 12 => 1
  | 13 => 1
  | 14 => 8
  | 15 => 8
  | 16 => 8
  | 17 => 8
  | 18 => 8
  | 19 => 8
  | 20 => 1
  | 21 => 1
  | 22 => 1
  | 23 => 1
  | 24 => 1
  | 25 => 1
  | 26 => 1
  | 27 => 1
  | 28 => 1
  | 29 => 1
  | 30 => 1
  | _ => 0
def gg (I : GI) (R : GR) (L : GL) (Z : Nat × Nat × Bool) : GG := (I, R, L, (cF, Z))
/-- the references that never change -/
def rs (k i s : Nat) : Nat := match k with
  | 0 => 2 * i + s
  | 17 => 8 * i + s
  | 6 => match s with
    | 1 => 1
    | _ => 0
  | _ => i
def isr (k s : Nat) : Bool := match k with
  | 17 => decide (s < 8)
  | 19 => false
  | 20 => false
  | k => match (kS k)[s]? with
    | some (_ + 3) => true
    | _ => false
def Rok (R : GR) : Prop := ∀ k i s, i < cF k → isr k s = true → R k i s = some (rs k i s)
def bI (c : Bool) : Int32 := if c then nI 1 else nI 0
theorem bI_or (c : Bool) : bI c = 0 ∨ bI c = 1 := by cases c <;> decide
theorem bI_t : bI true = nI 1 := rfl
theorem bI_f : bI false = nI 0 := rfl
theorem bI_0 (c : Bool) : (bI c = nI 0) = (c = false) := by cases c <;> simp [bI] <;> decide
theorem nI_or0 : (nI 0 = 0 ∨ nI 0 = 1) := by decide
theorem nI_or1 : (nI 1 = 0 ∨ nI 1 = 1) := by decide
section
variable {X : XS} {m pc : Nat} {lv st : List AV} {I : GI} {R : GR} {L : GL} {Z : Nat × Nat × Bool}
theorem e_nx {G : GG} {en : EN} {s' : ST} (h : entry m pc = some en) (hs : stepI X (retT m) en.2.1 en.2.2.1 en.2.2.2.1 en.2.2.2.2.1 en.2.2.2.2.2.1 pc lv st G = some (.inl s')) : ex X m pc lv st G = ex X m s'.1 s'.2.1 s'.2.2.1 s'.2.2.2 := by
  rw [ex_step]
  unfold step
  simp only [h]
  rw [hs]
  rfl
theorem e_if {G : GG} {en : EN} {P : Prop} [Decidable P] {t f : Nat} {lv' st' : List AV} (h : entry m pc = some en) (hs : stepI X (retT m) en.2.1 en.2.2.1 en.2.2.2.1 en.2.2.2.2.1 en.2.2.2.2.2.1 pc lv st G = some (.inl (if P then t else f, lv', st', G))) : ex X m pc lv st G = if P then ex X m t lv' st' G else ex X m f lv' st' G := by
  rw [e_nx h hs]
  split <;> rfl
theorem e_ret {G : GG} {en : EN} {r : Option AV} (h : entry m pc = some en) (hs : stepI X (retT m) en.2.1 en.2.2.1 en.2.2.2.1 en.2.2.2.2.1 en.2.2.2.2.2.1 pc lv st G = some (.inr (.inl r))) : ex X m pc lv st G = some (.inl r, G) := by
  rw [ex_step]
  unfold step
  simp only [h]
  rw [hs]
  rfl
theorem e_thr {G : GG} {en : EN} {E : Nat} (h : entry m pc = some en) (hs : stepI X (retT m) en.2.1 en.2.2.1 en.2.2.2.1 en.2.2.2.2.1 en.2.2.2.2.2.1 pc lv st G = some (.inr (.inr (.inr E)))) : ex X m pc lv st G = some (.inr E, thrG G) := by
  rw [ex_step]
  unfold step
  simp only [h]
  rw [hs]
  rfl
/-- behind a call -/
noncomputable def kont (X : XS) (m pc : Nat) (lv st : List AV) : Option RS → Option RS
  | none => none
  | some (.inl r, G') => ex X m (pc + 3) lv (r.toList ++ st) G'
  | some (.inr E, G') => match hand m pc E with
    | some (h, k) => ex X m h (kill lv k) [] G'
    | none => some (.inr E, G')
theorem e_call {G : GG} {en : EN} {y : Nat} {av lv' st' : List AV} (h : entry m pc = some en) (hs : stepI X (retT m) en.2.1 en.2.2.1 en.2.2.2.1 en.2.2.2.2.1 en.2.2.2.2.2.1 pc lv st G = some (.inr (.inr (.inl (y, av, lv', st'))))) : ex X m pc lv st G = kont X m pc lv' st' (exec X y av G) := by
  rw [ex_step]
  unfold step
  simp only [h]
  rw [hs]
  show (match exec X y av G with | none => none | some (.inl r, G') => ex X m (pc + 3) lv' (r.toList ++ st') G' | some (.inr E, G') => match hand m pc E with | some (h, k) => ex X m h (kill lv' k) [] G' | none => some (.inr E, G')) = _
  cases exec X y av G with
  | none => rfl
  | some z =>
    obtain ⟨o, G'⟩ := z
    cases o <;> rfl
theorem kont_r {r : AV} {G' : GG} : kont X m pc lv st (some (.inl (some r), G')) = ex X m (pc + 3) lv (r :: st) G' := rfl
theorem kont_v {G' : GG} : kont X m pc lv st (some (.inl none, G')) = ex X m (pc + 3) lv st G' := rfl
theorem kont_x {E : Nat} {G' : GG} (h : hand m pc E = none) : kont X m pc lv st (some (.inr E, G')) = some (.inr E, G') := by
  show (match hand m pc E with | some (h, k) => ex X m h (kill lv k) [] G' | none => some (.inr E, G')) = _
  rw [h]
theorem kont_h {E h k : Nat} {G' : GG} (hh : hand m pc E = some (h, k)) : kont X m pc lv st (some (.inr E, G')) = ex X m h (kill lv k) [] G' := by
  show (match hand m pc E with | some (h, k) => ex X m h (kill lv k) [] G' | none => some (.inr E, G')) = _
  rw [hh]
theorem kont_if {P : Prop} [Decidable P] {a b : Option RS} : kont X m pc lv st (if P then a else b) = if P then kont X m pc lv st a else kont X m pc lv st b := by
  split <;> rfl
/-! cells -/
theorem s_geti {a b i : Nat} (hi : i < cF a) (ht : (kS a)[b]? = some 0) : o_get a b pc lv (vR a i :: st) (gg I R L Z) = some (.inl (pc + 3, lv, vI (I a i b) :: st, gg I R L Z)) := by
  simp [o_get, vR, has, gg, hi, ht, nx]
theorem s_getz {a b i : Nat} (hi : i < cF a) (ht : (kS a)[b]? = some 1) : o_get a b pc lv (vR a i :: st) (gg I R L Z) = some (.inl (pc + 3, lv, vI (I a i b) :: st, gg I R L Z)) := by
  simp [o_get, vR, has, gg, hi, ht, nx]
theorem s_getl {a b i : Nat} (hi : i < cF a) (ht : (kS a)[b]? = some 2) : o_get a b pc lv (vR a i :: st) (gg I R L Z) = some (.inl (pc + 3, lv, vL (L a i b) :: st, gg I R L Z)) := by
  simp [o_get, vR, has, gg, hi, ht, nx]
theorem s_getr {a b i t : Nat} (hR : Rok R) (hi : i < cF a) (ht : (kS a)[b]? = some (t + 3)) (hs : isr a b = true) : o_get a b pc lv (vR a i :: st) (gg I R L Z) = some (.inl (pc + 3, lv, vR t (rs a i b) :: st, gg I R L Z)) := by
  simp [o_get, vR, has, gg, hi, ht, nx, hR a i b hi hs]
theorem s_puti {a b i : Nat} {x : Int32} (hi : i < cF a) (ht : (kS a)[b]? = some 0) : o_put a b pc lv (vI x :: vR a i :: st) (gg I R L Z) = some (.inl (pc + 3, lv, st, gg (up3 I a i b x) R L Z)) := by
  simp [o_put, vI, vR, has, gg, hi, ht, nx]
theorem s_putz {a b i : Nat} {x : Int32} (hx : x = 0 ∨ x = 1) (hi : i < cF a) (ht : (kS a)[b]? = some 1) : o_put a b pc lv (vI x :: vR a i :: st) (gg I R L Z) = some (.inl (pc + 3, lv, st, gg (up3 I a i b x) R L Z)) := by
  simp [o_put, vI, vR, has, gg, hi, ht, nx, hx]
theorem s_putl {a b i : Nat} {x : Int64} (hi : i < cF a) (ht : (kS a)[b]? = some 2) : o_put a b pc lv (vL x :: vR a i :: st) (gg I R L Z) = some (.inl (pc + 3, lv, st, gg I R (up3 L a i b x) Z)) := by
  simp [o_put, vL, vR, has, gg, hi, ht, nx]
theorem inR_nI {j n : Nat} (h : j < n) (hn : n < 2 ^ 31) : inR (nI j) n = true := by
  unfold inR
  rw [nI_clamp (by omega)]
  simp [h, nI_pos (show j < 2 ^ 31 by omega)]
theorem kA_small (k : Nat) : (kA k).2 < 2 ^ 31 := by unfold kA; split <;> decide
theorem s_iald {k i j : Nat} (h31 : ¬ k = 31 ∧ ¬ 32 ≤ k) (hk : (kA k).1 = 0) (hi : i < cF k) (hj : j < (kA k).2) : o_ald 0 X pc lv (vI (nI j) :: vR k i :: st) (gg I R L Z) = some (.inl (pc + 1, lv, vI (I k i j) :: st, gg I R L Z)) := by
  have h2 := inR_nI hj (kA_small k)
  have h3 : (nI j).toNatClampNeg = j := nI_clamp (Nat.lt_trans hj (kA_small k))
  simp [o_ald, vI, vR, has, gg, hi, nx, h31.1, h31.2, hk, h2, h3]
theorem s_zald {k i j : Nat} (h31 : ¬ k = 31 ∧ ¬ 32 ≤ k) (hk : (kA k).1 = 1) (hi : i < cF k) (hj : j < (kA k).2) : o_ald 1 X pc lv (vI (nI j) :: vR k i :: st) (gg I R L Z) = some (.inl (pc + 1, lv, vI (I k i j) :: st, gg I R L Z)) := by
  have h2 := inR_nI hj (kA_small k)
  have h3 : (nI j).toNatClampNeg = j := nI_clamp (Nat.lt_trans hj (kA_small k))
  simp [o_ald, vI, vR, has, gg, hi, nx, h31.1, h31.2, hk, h2, h3]
theorem s_lald {k i j : Nat} (h31 : ¬ k = 31 ∧ ¬ 32 ≤ k) (hk : (kA k).1 = 2) (hi : i < cF k) (hj : j < (kA k).2) : o_ald 2 X pc lv (vI (nI j) :: vR k i :: st) (gg I R L Z) = some (.inl (pc + 1, lv, vL (L k i j) :: st, gg I R L Z)) := by
  have h2 := inR_nI hj (kA_small k)
  have h3 : (nI j).toNatClampNeg = j := nI_clamp (Nat.lt_trans hj (kA_small k))
  simp [o_ald, vI, vR, has, gg, hi, nx, h31.1, h31.2, hk, h2, h3]
theorem s_sld {i j : Nat} (hj : j < X.1) (hX : X.1 < 2 ^ 31) {G : GG} : o_ald 0 X pc lv (vI (nI j) :: vR 31 i :: st) G = some (.inl (pc + 1, lv, vI (X.2 j) :: st, G)) := by
  have h2 := inR_nI hj hX
  have h3 : (nI j).toNatClampNeg = j := nI_clamp (Nat.lt_trans hj hX)
  simp [o_ald, vI, vR, nx, h2, h3]
theorem s_tld {k i j : Nat} (hk : 32 ≤ k ∧ k < 35) (hj : j < 5) {G : GG} : o_ald 0 X pc lv (vI (nI j) :: vR k i :: st) G = some (.inl (pc + 1, lv, vI ((stat3 k).getD j 0) :: st, G)) := by
  have h2 := inR_nI hj (by decide)
  have h3 : (nI j).toNatClampNeg = j := nI_clamp (by omega)
  have h4 : ¬ k = 31 := by omega
  simp only [o_ald, vI, vR, nx, h2, h3, h4, hk.1, hk.2, if_true, if_false, decide_true, Bool.and_self]
theorem s_aald {k i j t r : Nat} (hk : (kA k).1 = t + 3) (hi : i < cF k) (hj : j < (kA k).2) (hr : R k i j = some r) : o_aald pc lv (vI (nI j) :: vR k i :: st) (gg I R L Z) = some (.inl (pc + 1, lv, vR t r :: st, gg I R L Z)) := by
  have h2 := inR_nI hj (kA_small k)
  have h3 : (nI j).toNatClampNeg = j := nI_clamp (Nat.lt_trans hj (kA_small k))
  simp [o_aald, vI, vR, has, gg, hi, nx, hk, h2, h3, hr]
theorem s_iast {k i j : Nat} {x : Int32} (hk : (kA k).1 = 0) (hi : i < cF k) (hj : j < (kA k).2) : o_ast 0 pc lv (vI x :: vI (nI j) :: vR k i :: st) (gg I R L Z) = some (.inl (pc + 1, lv, st, gg (up3 I k i j x) R L Z)) := by
  have h2 := inR_nI hj (kA_small k)
  have h3 : (nI j).toNatClampNeg = j := nI_clamp (Nat.lt_trans hj (kA_small k))
  simp [o_ast, vI, vR, has, gg, hi, nx, hk, h2, h3]
theorem s_zast {k i j : Nat} {x : Int32} (hx : x = 0 ∨ x = 1) (hk : (kA k).1 = 1) (hi : i < cF k) (hj : j < (kA k).2) : o_ast 1 pc lv (vI x :: vI (nI j) :: vR k i :: st) (gg I R L Z) = some (.inl (pc + 1, lv, st, gg (up3 I k i j x) R L Z)) := by
  have h2 := inR_nI hj (kA_small k)
  have h3 : (nI j).toNatClampNeg = j := nI_clamp (Nat.lt_trans hj (kA_small k))
  simp [o_ast, vI, vR, has, gg, hi, nx, hk, h2, h3, hx]
theorem s_last {k i j : Nat} {x : Int64} (hk : (kA k).1 = 2) (hi : i < cF k) (hj : j < (kA k).2) : o_ast 2 pc lv (vL x :: vI (nI j) :: vR k i :: st) (gg I R L Z) = some (.inl (pc + 1, lv, st, gg I R (up3 L k i j x) Z)) := by
  have h2 := inR_nI hj (kA_small k)
  have h3 : (nI j).toNatClampNeg = j := nI_clamp (Nat.lt_trans hj (kA_small k))
  simp [o_ast, vI, vL, vR, has, gg, hi, nx, hk, h2, h3]
theorem s_aast {k i j k' r : Nat} (hk : (kA k).1 = k' + 3) (hk' : k' < 8) (hi : i < cF k) (hr : r < cF k') (hj : j < (kA k).2) : o_aast pc lv (vR k' r :: vI (nI j) :: vR k i :: st) (gg I R L Z) = some (.inl (pc + 1, lv, st, gg I (up3 R k i j (some r)) L Z)) := by
  have h2 := inR_nI hj (kA_small k)
  have h3 : (nI j).toNatClampNeg = j := nI_clamp (Nat.lt_trans hj (kA_small k))
  simp [o_aast, vI, vR, has, gg, hi, hr, nx, hk, hk', h2, h3]
theorem s_len {k i : Nat} (h8 : 8 ≤ k ∧ k < 31) (hi : i < cF k) : o_len X pc lv (vR k i :: st) (gg I R L Z) = some (.inl (pc + 1, lv, vI (nI (kA k).2) :: st, gg I R L Z)) := by
  have h3 : ¬ k = 31 := by omega
  simp [o_len, vR, has, gg, hi, nx, h3, h8.1, h8.2, nI]
theorem s_slen {i : Nat} {G : GG} : o_len X pc lv (vR 31 i :: st) G = some (.inl (pc + 1, lv, vI (nI X.1) :: st, G)) := by
  simp [o_len, vR, nx, nI]
theorem s_bi0 {f : Int32 → Int32 → Int32} {x y : Int32} (hy : ¬ y = 0) {G : GG} : o_bi0 f pc lv (vI y :: vI x :: st) G = some (.inl (pc + 1, lv, vI (f x y) :: st, G)) := by
  simp [o_bi0, vI, hy, nx]
theorem s_bd {f : UInt64 → UInt64 → UInt64} {x y : UInt64} (hy : n64 (f x y) = true) {G : GG} : o_bd f pc lv (vD y :: vD x :: st) G = some (.inl (pc + 1, lv, vD (f x y) :: st, G)) := by
  simp [o_bd, vD, hy, nx]
theorem s_callV {a b k i : Nat} {ar rest : List AV} (hl : ar.length = b) (hi : i < cF k) (hc : ct rest ≤ 8) : o_callV a b k lv (ar ++ vR k i :: rest) (gg I R L Z) = some (.inr (.inr (.inl (a, vR k i :: ar.reverse, lv, rest)))) := by
  subst hl
  simp [o_callV, vR, has, gg, hi, hc]
theorem s_callR {a b k i : Nat} {ar rest : List AV} (hl : ar.length = b) (hc : ct rest ≤ 8) : o_callR a b lv (ar ++ vR k i :: rest) = some (.inr (.inr (.inl (a, vR k i :: ar.reverse, lv, rest)))) := by
  subst hl
  simp [o_callR, vR, hc]
theorem s_callS {a b : Nat} {ar rest : List AV} (hl : ar.length = b) (hc : ct rest ≤ 8) : o_callS a b lv (ar ++ rest) = some (.inr (.inr (.inl (a, ar.reverse, lv, rest)))) := by
  subst hl
  simp [o_callS, hc]
/-! branches, by = and < alone -/
theorem s_if {c : Bool} {o : Int} {P : Prop} [Decidable P] {t f : Nat} {G : GG} (ho : okT pc o = true) (h : (if c then tgt pc o else pc + 3) = if P then t else f) : o_if c pc o lv st G = some (.inl (if P then t else f, lv, st, G)) := by
  unfold o_if
  rw [if_pos ho, ← h]
  rfl
theorem b_eq {x y : Int32} {t f : Nat} : (if cnd .eq x y then t else f) = if x = y then t else f := by simp [cnd]
theorem b_ne {x y : Int32} {t f : Nat} : (if cnd .ne x y then t else f) = if x = y then f else t := by simp [cnd]
theorem b_lt {x y : Int32} {t f : Nat} : (if cnd .lt x y then t else f) = if x < y then t else f := by simp [cnd]
theorem b_ge {x y : Int32} {t f : Nat} : (if cnd .ge x y then t else f) = if x < y then f else t := by
  have h : (x ≥ y) ↔ ¬ x < y := Int32.not_lt.symm
  by_cases q : x < y <;> simp [cnd, h, q]
theorem b_gt {x y : Int32} {t f : Nat} : (if cnd .gt x y then t else f) = if y < x then t else f := by simp [cnd]
theorem b_le {x y : Int32} {t f : Nat} : (if cnd .le x y then t else f) = if y < x then f else t := by
  have h : (x ≤ y) ↔ ¬ y < x := Int32.not_lt.symm
  by_cases q : y < x <;> simp [cnd, h, q]
end
/-! more of the same, for the printed rows -/
theorem s_ifT {pc : Nat} {lv st : List AV} {c : Bool} {o : Int} {P : Prop} [Decidable P] {t f T F : Nat} {G : GG} (ho : (okT pc o && decide (tgt pc o = T) && decide (pc + 3 = F)) = true) (ho2 : okT pc o = true) (h : (if c then T else F) = if P then t else f) : o_if c pc o lv st G = some (.inl (if P then t else f, lv, st, G)) := by
  simp only [Bool.and_eq_true, decide_eq_true_eq] at ho
  refine s_if ho2 ?_
  rw [ho.1.2, ho.2, h]
theorem s_ifC {X : XS} {r : Option FieldType} {len a b cc pc : Nat} {x : Int32} {q : ClassFile.Cond} {lv st : List AV} {o : Int} {P : Prop} [Decidable P] {t f T F : Nat} {G : GG} (ho : (okT pc o && decide (tgt pc o = T) && decide (pc + 3 = F)) = true) (ho2 : okT pc o = true) (h : (if cnd q x (nI 0) then T else F) = if P then t else f) : stepI X r (.ifCond q o) len a b cc pc lv (vI x :: st) G = some (.inl (if P then t else f, lv, st, G)) := s_ifT ho ho2 h
theorem en_of {m pc : Nat} {tb : List EN} {e : EN} (h : tabs[m]? = some tb) (h2 : tb.find? (fun e => e.1 == pc) = some e) : entry m pc = some e := by
  unfold entry
  rw [h]
  exact h2
section
variable {X : XS} {m pc : Nat} {lv st : List AV} {I : GI} {R : GR} {L : GL} {Z : Nat × Nat × Bool}
def mI (x y : Int32) : Int32 := if y < x then y else x
theorem s_ic {n : Int} {v : Int32} {G : GG} (hv : Int32.ofInt n = v) : nx (pc + 1) lv (vI (Int32.ofInt n) :: st) G = some (.inl (pc + 1, lv, vI v :: st, G)) := by rw [hv]; rfl
theorem s_bp {n : Int} {v : Int32} {G : GG} (hv : (Int8.ofInt n).toInt32 = v) : nx (pc + 2) lv (vI (Int8.ofInt n).toInt32 :: st) G = some (.inl (pc + 2, lv, vI v :: st, G)) := by rw [hv]; rfl
theorem s_sp {n : Int} {v : Int32} {G : GG} (hv : (Int16.ofInt n).toInt32 = v) : nx (pc + 3) lv (vI (Int16.ofInt n).toInt32 :: st) G = some (.inl (pc + 3, lv, vI v :: st, G)) := by rw [hv]; rfl
theorem s_iinc {r : Option FieldType} {len a b c k : Nat} {n : Int} {v w : Int32} {lv' : List AV} {G : GG} (hv : Int32.ofInt n = w) (h : lv[k]? = some (vI v)) (ho : okSt lv k = true) (hl : lv.set k (vI (v + w)) = lv') : stepI X r (.iinc k n) len a b c pc lv st G = some (.inl (pc + 3, lv', st, G)) := by
  unfold stepI
  simp only [h, vI, ho]
  subst hv hl
  rfl
theorem s_tswI {r : Option FieldType} {len a b c : Nat} {d lo hi o : Int} {offs : Array Int} {x : Int32} {G : GG} (h1 : ¬ (x.toInt < lo ∨ hi < x.toInt)) (h2 : offs[(x.toInt - lo).toNat]? = some o) (h3 : okT pc o = true) : stepI X r (.tableswitch d lo hi offs) len a b c pc lv (vI x :: st) G = some (.inl (tgt pc o, lv, st, G)) := by
  unfold stepI
  simp only [vI, h1, if_false, h2, h3, if_true]
  rfl
theorem s_tswO {r : Option FieldType} {len a b c : Nat} {d lo hi : Int} {offs : Array Int} {x : Int32} {G : GG} (h1 : x.toInt < lo ∨ hi < x.toInt) (h3 : okT pc d = true) : stepI X r (.tableswitch d lo hi offs) len a b c pc lv (vI x :: st) G = some (.inl (tgt pc d, lv, st, G)) := by
  unfold stepI
  simp only [vI, h1, if_true, h3]
  rfl
theorem s_lsw {r : Option FieldType} {len a b c : Nat} {d o : Int} {ps : Array (Int × Int)} {x : Int32} {G : GG} (h1 : Op.lookupswitch.offset ps.toList d x.toInt = o) (h3 : okT pc o = true) : stepI X r (.lookupswitch d ps) len a b c pc lv (vI x :: st) G = some (.inl (tgt pc o, lv, st, G)) := by
  unfold stepI
  simp only [vI, h1, h3, if_true]
  rfl
theorem s_st1 {P : AV → Bool} {k len : Nat} {v : AV} {lv' : List AV} {G : GG} (hP : P v = true) (hc : cat v = 1) (ho : okSt lv k = true) (hk : k + cat v ≤ lv.length) (hl : lv.set k v = lv') : o_st P k len pc lv (v :: st) G = some (.inl (pc + len, lv', st, G)) := by
  subst hl
  rw [hc] at hk
  simp [o_st, hP, ho, hk, nx, hc]
theorem s_st2 {P : AV → Bool} {k len : Nat} {v : AV} {lv' : List AV} {G : GG} (hP : P v = true) (hc : cat v = 2) (ho : okSt lv k = true) (hk : k + cat v ≤ lv.length) (hl : (lv.set k v).set (k + 1) vU = lv') : o_st P k len pc lv (v :: st) G = some (.inl (pc + len, lv', st, G)) := by
  subst hl
  rw [hc] at hk
  simp [o_st, hP, ho, hk, nx, hc]
theorem e_in {a : List AV} {l : List AV} {G : GG} {ml : Nat} (hm : maxL m = ml) (hs : (spread a).length ≤ ml) (hi : spread a ++ List.replicate (ml - (spread a).length) vU = l) : exec X m a G = ex X m 0 l [] G := by
  rw [exec_ex (by rw [hm]; exact hs)]
  unfold init
  rw [hm, hi]
theorem s_reti {x : Int32} (hr : retT m = some .int) : o_ret pI (retT m) [vI x] = some (.inr (.inl (some (vI x)))) := by rw [hr]; rfl
theorem s_retl {x : Int64} (hr : retT m = some .long) : o_ret pL (retT m) [vL x] = some (.inr (.inl (some (vL x)))) := by rw [hr]; rfl
theorem s_retd {x : UInt64} (hr : retT m = some .double) : o_ret pD (retT m) [vD x] = some (.inr (.inl (some (vD x)))) := by rw [hr]; rfl
theorem s_retz {x : Int32} (hr : retT m = some .boolean) (hx : x = 0 ∨ x = 1) : o_ret pI (retT m) [vI x] = some (.inr (.inl (some (vI x)))) := by
  rw [hr]
  simp [o_ret, vI, pI, retk, hx]
theorem s_retv (hr : retT m = none) : (if retT m = none ∧ ([] : List AV) = [] then some (.inr (.inl none)) else none : Option NX) = some (.inr (.inl none)) := by rw [if_pos ⟨hr, rfl⟩]
end
