/-! EACH INSTRUCTION OF THE SMALL MACHINE, IN THE BIG ONE -/
section
variable {p : Program} {l : Launch} {e : Env} {R : Room} {s : State} {m : MethodId} {args : Array Value} {below : List Frame} {meth : Method} {c : Code} {Q : State → Prop} {K : KE} {mi : MI} {c0 s0 : Nat}
/-- what a method's walk stands on -/
def CX (p : Program) (R : Room) (s : State) (m : MethodId) (args : Array Value) (meth : Method) (c : Code) (K : KE) (mi : MI) : Prop :=
  p.tables.exec = Jvm.exec ∧ c.code = mi.2.1 ∧ c.maxLocals = mi.2.2.1 ∧ s.vm.findClass mi.1.cls = some m.cls ∧ (∀ w ∈ GW, w.before args s = true) ∧ VF K s ∧ mi.2.2.2.2.1 ≤ R.frames ∧ 30 * mi.2.2.2.2.1 ≤ R.locals ∧ (mi.1.name = "<init>" → meth.name = "<init>") ∧ meth.locks = false
/-- from this state of the small machine the big one reaches its end -/
def GS (p : Program) (l : Launch) (e : Env) (R : Room) (s : State) (m : MethodId) (args : Array Value) (below : List Frame) (meth : Method) (c : Code) (Q : State → Prop) (K : KE) (mi : MI) (c0 s0 : Nat) (z : ST) : Prop :=
  c0 ≤ z.2.2.2.2.2.2.2.1 → s0 ≤ z.2.2.2.2.2.2.2.2.1 → ∀ (H : Heap) (locs : List Loc) (ls : Array Slot), lr K ls mi.2.2.1 z.2.1 → HF K z.2.2.2 H → va_S (kO K) s.heap H locs →
    W p l e R s m args below meth c H locs (z.2.2.2.2.2.2.2.1 - c0) (z.2.2.2.2.2.2.2.2.1 - s0) Q (F0 m z.1 ls (z.2.2.1.map (sh K)))
theorem w_of_gw {w : Cond} (h : w ∈ lw_tbl) (hg : goodWord w = true) : w ∈ GW := List.mem_filter.mpr ⟨h, hg⟩
theorem lnk_in {j : Nat} {w : Cond} (h : lnk[j]? = some w) : w ∈ GW := by
  have h0 := lnk_ok
  rw [Bool.and_eq_true] at h0
  obtain ⟨h1, h2⟩ := h0
  have hlen : lnk.length = lix.length := of_decide_eq_true h2
  have hjl := (List.getElem?_eq_some_iff.mp h).1
  have hz : (lnk.zip lix)[j]? = some (w, lix[j]'(by rw [← hlen]; exact hjl)) := by
    rw [List.getElem?_zip_eq_some]
    exact ⟨h, List.getElem?_eq_getElem _⟩
  have h3 := List.all_eq_true.mp h1 _ (List.mem_of_getElem? hz)
  simp only [Bool.and_eq_true, decide_eq_true_eq] at h3
  exact w_of_gw (List.mem_of_getElem? h3.1) h3.2
theorem so_ld {P : AV → Bool} {k len pc : Nat} {lv st : List AV} {G : GG} {s' : ST} (hP : ∀ v, P v = true → v ≠ vU)
    (row : ∀ (v : AV) (ls : Array Slot) (H : Heap) (locs : List Loc) (cells slots : Nat) (rest : List Value), P v = true → ls[k]? = some (.val (sh K v)) → W p l e R s m args below meth c H locs cells slots Q (F0 m (pc + len) ls (sh K v :: rest)) → W p l e R s m args below meth c H locs cells slots Q (F0 m pc ls rest))
    (h : o_ld P k len pc lv st G = some (.inl s')) (g : GS p l e R s m args below meth c Q K mi c0 s0 s') : GS p l e R s m args below meth c Q K mi c0 s0 (pc, lv, st, G) := by
  unfold o_ld at h
  cases hv : lv[k]? with
  | none => rw [hv] at h; cases h
  | some v =>
    rw [hv] at h
    simp only at h
    by_cases hp : P v = true
    · rw [if_pos hp] at h
      cases h
      intro hc hs H locs ls hl hf hS
      exact row v ls H locs _ _ _ hp (lr_at hl hv (hP v hp)) (g hc hs H locs ls hl hf hS)
    · rw [if_neg hp] at h; cases h
theorem so_st1 {P : AV → Bool} {k len pc : Nat} {lv st : List AV} {G : GG} {s' : ST} (hP : ∀ v, P v = true → cat v = 1)
    (row : ∀ (v : AV) (ls : Array Slot) (L : List (Nat × Value)) (H : Heap) (locs : List Loc) (cells slots : Nat) (rest : List Value), P v = true → lv_has ls mi.2.2.1 L → k < mi.2.2.1 → (∀ ls' : Array Slot, lv_has ls' mi.2.2.1 ((k, sh K v) :: L.filter (fun q => !(q.1 == k) && !(q.1 + 1 == k && q.2.category == 2))) → W p l e R s m args below meth c H locs cells slots Q (F0 m (pc + len) ls' rest)) → W p l e R s m args below meth c H locs cells slots Q (F0 m pc ls (sh K v :: rest)))
    (h : o_st P k len pc lv st G = some (.inl s')) (g : GS p l e R s m args below meth c Q K mi c0 s0 s') : GS p l e R s m args below meth c Q K mi c0 s0 (pc, lv, st, G) := by
  unfold o_st at h
  cases st with
  | nil => cases h
  | cons v st =>
    simp only at h
    by_cases hp : (P v && okSt lv k && decide (k + cat v ≤ lv.length)) = true
    · rw [if_pos hp] at h
      simp only [Bool.and_eq_true, decide_eq_true_eq] at hp
      obtain ⟨⟨h1, h2⟩, h3⟩ := hp
      rw [hP v h1] at h h3
      rw [if_neg (by decide)] at h
      cases h
      intro hc hs H locs ls hl hf hS
      have hll : lv.length = mi.2.2.1 := hl.1
      exact row v ls (toL K lv) H locs _ _ _ h1 hl.2 (by omega) fun ls' hl' => g hc hs H locs ls' (lr_set1 hl.1 h2 hl') hf hS
    · rw [if_neg hp] at h; cases h
theorem so_st2 {P : AV → Bool} {k len pc : Nat} {lv st : List AV} {G : GG} {s' : ST} (hP : ∀ v, P v = true → cat v = 2)
    (row : ∀ (v : AV) (ls : Array Slot) (L : List (Nat × Value)) (H : Heap) (locs : List Loc) (cells slots : Nat) (rest : List Value), P v = true → lv_has ls mi.2.2.1 L → k + 1 < mi.2.2.1 → (∀ ls' : Array Slot, lv_has ls' mi.2.2.1 ((k, sh K v) :: L.filter (fun q => !(q.1 == k) && (!(q.1 == k + 1) && !(q.1 + 1 == k && q.2.category == 2)))) → W p l e R s m args below meth c H locs cells slots Q (F0 m (pc + len) ls' rest)) → W p l e R s m args below meth c H locs cells slots Q (F0 m pc ls (sh K v :: rest)))
    (h : o_st P k len pc lv st G = some (.inl s')) (g : GS p l e R s m args below meth c Q K mi c0 s0 s') : GS p l e R s m args below meth c Q K mi c0 s0 (pc, lv, st, G) := by
  unfold o_st at h
  cases st with
  | nil => cases h
  | cons v st =>
    simp only at h
    by_cases hp : (P v && okSt lv k && decide (k + cat v ≤ lv.length)) = true
    · rw [if_pos hp] at h
      simp only [Bool.and_eq_true, decide_eq_true_eq] at hp
      obtain ⟨⟨h1, h2⟩, h3⟩ := hp
      rw [hP v h1] at h h3
      rw [if_pos rfl] at h
      cases h
      intro hc hs H locs ls hl hf hS
      have hll : lv.length = mi.2.2.1 := hl.1
      exact row v ls (toL K lv) H locs _ _ _ h1 hl.2 (by omega) fun ls' hl' => g hc hs H locs ls' (lr_set2 hl.1 h2 hl') hf hS
    · rw [if_neg hp] at h; cases h
theorem pI_is {v : AV} (h : pI v = true) : ∃ x, v = .inl x := by
  rcases v with x | x | x | x | x
  · exact ⟨x, rfl⟩
  all_goals cases h
theorem pL_is {v : AV} (h : pL v = true) : ∃ x, v = .inr (.inl x) := by
  rcases v with x | x | x | x | x
  · cases h
  · exact ⟨x, rfl⟩
  all_goals cases h
theorem pD_is {v : AV} (h : pD v = true) : ∃ x, v = .inr (.inr (.inl x)) := by
  rcases v with x | x | x | x | x
  · cases h
  · cases h
  · exact ⟨x, rfl⟩
  all_goals cases h
theorem pR_is {v : AV} (h : pR v = true) : ∃ x, v = .inr (.inr (.inr (.inl x))) := by
  rcases v with x | x | x | x | x
  · cases h
  · cases h
  · cases h
  · exact ⟨x, rfl⟩
  · cases h
theorem pI_u (v : AV) (h : pI v = true) : v ≠ vU := by obtain ⟨x, rfl⟩ := pI_is h; intro q; cases q
theorem pL_u (v : AV) (h : pL v = true) : v ≠ vU := by obtain ⟨x, rfl⟩ := pL_is h; intro q; cases q
theorem pD_u (v : AV) (h : pD v = true) : v ≠ vU := by obtain ⟨x, rfl⟩ := pD_is h; intro q; cases q
theorem pR_u (v : AV) (h : pR v = true) : v ≠ vU := by obtain ⟨x, rfl⟩ := pR_is h; intro q; cases q
theorem pI_c (v : AV) (h : pI v = true) : cat v = 1 := by obtain ⟨x, rfl⟩ := pI_is h; rfl
theorem pL_c (v : AV) (h : pL v = true) : cat v = 2 := by obtain ⟨x, rfl⟩ := pL_is h; rfl
theorem pD_c (v : AV) (h : pD v = true) : cat v = 2 := by obtain ⟨x, rfl⟩ := pD_is h; rfl
theorem pR_c (v : AV) (h : pR v = true) : cat v = 1 := by obtain ⟨x, rfl⟩ := pR_is h; rfl
/-- two ints become one -/
theorem so_bi {f : Int32 → Int32 → Int32} {pc : Nat} {lv st : List AV} {G : GG} {s' : ST}
    (row : ∀ (x y : Int32) (ls : Array Slot) (H : Heap) (locs : List Loc) (cells slots : Nat) (rest : List Value), W p l e R s m args below meth c H locs cells slots Q (F0 m (pc + 1) ls (.int (f x y) :: rest)) → W p l e R s m args below meth c H locs cells slots Q (F0 m pc ls (.int y :: .int x :: rest)))
    (h : o_bi f pc lv st G = some (.inl s')) (g : GS p l e R s m args below meth c Q K mi c0 s0 s') : GS p l e R s m args below meth c Q K mi c0 s0 (pc, lv, st, G) := by
  unfold o_bi at h
  split at h
  · cases h
    intro hc hs H locs ls hl hf hS
    exact row _ _ ls H locs _ _ _ (g hc hs H locs ls hl hf hS)
  · cases h
theorem so_bi0 {f : Int32 → Int32 → Int32} {pc : Nat} {lv st : List AV} {G : GG} {s' : ST}
    (row : ∀ (x y : Int32) (ls : Array Slot) (H : Heap) (locs : List Loc) (cells slots : Nat) (rest : List Value), ¬ y = 0 → W p l e R s m args below meth c H locs cells slots Q (F0 m (pc + 1) ls (.int (f x y) :: rest)) → W p l e R s m args below meth c H locs cells slots Q (F0 m pc ls (.int y :: .int x :: rest)))
    (h : o_bi0 f pc lv st G = some (.inl s')) (g : GS p l e R s m args below meth c Q K mi c0 s0 s') : GS p l e R s m args below meth c Q K mi c0 s0 (pc, lv, st, G) := by
  unfold o_bi0 at h
  split at h
  · split at h
    · cases h
    · rename_i hy
      cases h
      intro hc hs H locs ls hl hf hS
      exact row _ _ ls H locs _ _ _ hy (g hc hs H locs ls hl hf hS)
  · cases h
theorem so_bl {f : Int64 → Int64 → Int64} {pc : Nat} {lv st : List AV} {G : GG} {s' : ST}
    (row : ∀ (x y : Int64) (ls : Array Slot) (H : Heap) (locs : List Loc) (cells slots : Nat) (rest : List Value), W p l e R s m args below meth c H locs cells slots Q (F0 m (pc + 1) ls (.long (f x y) :: rest)) → W p l e R s m args below meth c H locs cells slots Q (F0 m pc ls (.long y :: .long x :: rest)))
    (h : o_bl f pc lv st G = some (.inl s')) (g : GS p l e R s m args below meth c Q K mi c0 s0 s') : GS p l e R s m args below meth c Q K mi c0 s0 (pc, lv, st, G) := by
  unfold o_bl at h
  split at h
  · cases h
    intro hc hs H locs ls hl hf hS
    exact row _ _ ls H locs _ _ _ (g hc hs H locs ls hl hf hS)
  · cases h
theorem so_bd {f : UInt64 → UInt64 → UInt64} {pc : Nat} {lv st : List AV} {G : GG} {s' : ST}
    (row : ∀ (x y : UInt64) (ls : Array Slot) (H : Heap) (locs : List Loc) (cells slots : Nat) (rest : List Value), vf_n64 (f x y) → W p l e R s m args below meth c H locs cells slots Q (F0 m (pc + 1) ls (.double (f x y) :: rest)) → W p l e R s m args below meth c H locs cells slots Q (F0 m pc ls (.double y :: .double x :: rest)))
    (h : o_bd f pc lv st G = some (.inl s')) (g : GS p l e R s m args below meth c Q K mi c0 s0 s') : GS p l e R s m args below meth c Q K mi c0 s0 (pc, lv, st, G) := by
  unfold o_bd at h
  split at h
  · split at h
    · rename_i hy
      cases h
      intro hc hs H locs ls hl hf hS
      exact row _ _ ls H locs _ _ _ (by unfold n64 at hy; unfold vf_n64; exact of_decide_eq_true hy) (g hc hs H locs ls hl hf hS)
    · cases h
  · cases h
theorem tgt_eq {pc : Nat} {o : Int} (h : okT pc o = true) : (pc : Int) + o = (tgt pc o : Int) := by
  have h1 : 0 ≤ (pc : Int) + o := of_decide_eq_true h
  unfold tgt
  exact (Int.toNat_of_nonneg h1).symm
theorem so_cmp {f : Int32 → Int32 → Bool} {pc : Nat} {o : Int} {lv st : List AV} {G : GG} {s' : ST}
    (row : ∀ (x y : Int32) (ls : Array Slot) (H : Heap) (locs : List Loc) (cells slots : Nat) (rest : List Value), (pc : Int) + o = (tgt pc o : Int) → (f x y = true → W p l e R s m args below meth c H locs cells slots Q (F0 m (tgt pc o) ls rest)) → (f x y = false → W p l e R s m args below meth c H locs cells slots Q (F0 m (pc + 3) ls rest)) → W p l e R s m args below meth c H locs cells slots Q (F0 m pc ls (.int y :: .int x :: rest)))
    (h : o_cmp f pc o lv st G = some (.inl s')) (g : GS p l e R s m args below meth c Q K mi c0 s0 s') : GS p l e R s m args below meth c Q K mi c0 s0 (pc, lv, st, G) := by
  unfold o_cmp at h
  split at h
  · unfold o_if at h
    split at h
    · rename_i ht
      cases h
      intro hc hs H locs ls hl hf hS
      have k := g hc hs H locs ls hl hf hS
      refine row _ _ ls H locs _ _ _ (tgt_eq ht) (fun q => ?_) (fun q => ?_)
      · simp only [q] at k
        exact k
      · simp only [q] at k
        exact k
    · cases h
  · cases h
theorem so_cm0 {f : Int32 → Int32 → Bool} {pc : Nat} {o : Int} {lv st : List AV} {G : GG} {s' : ST}
    (row : ∀ (x : Int32) (ls : Array Slot) (H : Heap) (locs : List Loc) (cells slots : Nat) (rest : List Value), (pc : Int) + o = (tgt pc o : Int) → (f x 0 = true → W p l e R s m args below meth c H locs cells slots Q (F0 m (tgt pc o) ls rest)) → (f x 0 = false → W p l e R s m args below meth c H locs cells slots Q (F0 m (pc + 3) ls rest)) → W p l e R s m args below meth c H locs cells slots Q (F0 m pc ls (.int x :: rest)))
    (h : o_cm0 f pc o lv st G = some (.inl s')) (g : GS p l e R s m args below meth c Q K mi c0 s0 s') : GS p l e R s m args below meth c Q K mi c0 s0 (pc, lv, st, G) := by
  unfold o_cm0 at h
  split at h
  · unfold o_if at h
    split at h
    · rename_i ht
      cases h
      intro hc hs H locs ls hl hf hS
      have k := g hc hs H locs ls hl hf hS
      refine row _ ls H locs _ _ _ (tgt_eq ht) (fun q => ?_) (fun q => ?_)
      · simp only [q] at k
        exact k
      · simp only [q] at k
        exact k
    · cases h
  · cases h
end
/-! the instructions that read and write cells -/
theorem k_ws : ∀ k, k < 8 → ((u_ws (kC k) (kT k) (kN k)).all (fun w => decide (w ∈ lw_tbl) && goodWord w)) = true := by decide +kernel
theorem k_in {k : Nat} (hk : k < 8) : ∀ w ∈ u_ws (kC k) (kT k) (kN k), w ∈ GW := fun w hw => by
  have h := List.all_eq_true.mp (k_ws k hk) w hw
  simp only [Bool.and_eq_true, decide_eq_true_eq] at h
  exact w_of_gw h.1 h.2
theorem k_cl {k : Nat} (hk : k < 8) : classes[k]? = some (kC k, kT k, kN k) := by
  match k, hk with
  | 0, _ => rfl
  | 1, _ => rfl
  | 2, _ => rfl
  | 3, _ => rfl
  | 4, _ => rfl
  | 5, _ => rfl
  | 6, _ => rfl
  | 7, _ => rfl
theorem k_nm : ∀ k, k < 8 → ∀ a, a < kN k → ∀ b, b < kN k → a ≠ b → (kT k a).2.1 ≠ (kT k b).2.1 := by decide +kernel
theorem k_ty : ∀ k, k < 8 → ∀ b, b < kN k → parseFieldDescriptor (kT k b).2.2.1 = some (tyS ((kS k).getD b 0)) := by decide +kernel
theorem k_sl : ∀ k, k < 8 → (kS k).length = kN k := by decide +kernel
theorem k_st : ∀ k, k < 8 → ∀ b, b < kN k → (kS k).getD b 0 < 34 := by decide +kernel
theorem tyS3 (t : Nat) : tyS (t + 3) = if t < 8 then .object (kC t) else match (kA t).1 with
    | 0 => .array .int
    | 1 => .array .boolean
    | 2 => .array .long
    | e + 3 => .array (.object (kC e)) := rfl
theorem tyS_ref (t : Nat) (v : Nat) : narrow (tyS (t + 3)) (.ref v) = .ref v ∧ fits (tyS (t + 3)) (.ref v) = true := by
  rw [tyS3]
  split
  · exact ⟨rfl, rfl⟩
  · split <;> exact ⟨rfl, rfl⟩
theorem kA_all : ∀ k, k < 31 → 8 ≤ k → (kA k).1 = 0 ∨ (kA k).1 = 1 ∨ (kA k).1 = 2 ∨ (kA k).1 = 3 ∨ (kA k).1 = 5 ∨ (kA k).1 = 8 := by decide
theorem inR_in {j : Int32} {n : Nat} (h : inR j n = true) : vp_in j n := by
  unfold inR at h
  simp only [Bool.and_eq_true, decide_eq_true_eq] at h
  intro q
  rcases q with q | q
  · exact h.1 q
  · omega
theorem enc_obj {K : KE} {G : GG} {k i : Nat} (h : k < 8) : enc K G k i = .inr (k, flds K G k i) := by unfold enc; rw [if_pos h]
section
variable {p : Program} {l : Launch} {e : Env} {R : Room} {s : State} {m : MethodId} {args : Array Value} {below : List Frame} {meth : Method} {c : Code} {Q : State → Prop} {K : KE} {mi : MI} {c0 s0 : Nat}
theorem ad_in {k i : Nat} (h : k < 31) : ad K k i = K.1 + off k i := by
  unfold ad
  rw [if_neg (by omega), if_neg (by omega)]
theorem hf_get {G : GG} {H : Heap} {k i : Nat} (hf : HF K G H) (hk : k < 31) (hi : has G k i = true) : ∃ (ks : List (Nat × Nat)) (j : Nat), (∀ q, q ∈ ks ↔ q.1 < 31 ∧ q.2 < G.2.2.2.1 q.1) ∧ va_P K.2.2.2.1 classes (wl K G ks) H ∧ va_D (kO K) (wl K G ks) ∧ (G.2.2.2.2.2.2 = true → H.size = K.1 + G.2.2.2.2.1) ∧ K.1 ≤ H.size ∧ ks[j]? = some (k, i) ∧ (wl K G ks)[j]? = some (ad K k i, enc K G k i) := by
  obtain ⟨ks, h1, h2, h3, h4, h5⟩ := hf
  obtain ⟨j, a, b⟩ := wl_get (K := K) (G := G) ((h1 (k, i)).mpr ⟨hk, of_decide_eq_true hi⟩)
  exact ⟨ks, j, h1, h2, h3, h4, h5, a, b⟩
theorem so_get {idx a b pc : Nat} {lv st : List AV} {G : GG} {s' : ST} (C : CX p R s m args meth c K mi) (ha : a < 8) (hb : b < kN a) (h1 : (kT a b).1 = kC a) (hlk : Cond.fieldLink mi.1.cls idx (kC a) (kT a b).2.1 (kT a b).2.2.1 ∈ GW) (hd : decode mi.2.1 pc = .ok (.getfield idx, 3))
    (h : o_get a b pc lv st G = some (.inl s')) (g : GS p l e R s m args below meth c Q K mi c0 s0 s') : GS p l e R s m args below meth c Q K mi c0 s0 (pc, lv, st, G) := by
  unfold o_get at h
  split at h
  · rename_i k i st'
    by_cases hc : (decide (k = a) && has G k i) = true
    · rw [if_pos hc] at h
      rw [Bool.and_eq_true] at hc
      obtain ⟨hc1, hi⟩ := hc
      have hka : k = a := of_decide_eq_true hc1
      subst hka
      have hlen := k_sl k ha
      have hgd : (kS k)[b]? = some ((kS k).getD b 0) := by
        rw [List.getElem?_eq_getElem (by omega), List.getD_eq_getElem?_getD, List.getElem?_eq_getElem (by omega)]
        rfl
      have key : ∃ w, s' = (pc + 3, lv, w :: st', G) ∧ sh K w = sv K G k i b ((kS k).getD b 0) := by
        rw [hgd] at h
        generalize (kS k).getD b 0 = t at h
        match t, h with
        | 0, h => cases h; exact ⟨_, rfl, rfl⟩
        | 1, h => cases h; exact ⟨_, rfl, rfl⟩
        | 2, h => cases h; exact ⟨_, rfl, rfl⟩
        | t + 3, h =>
          simp only at h
          cases hr : G.2.1 k i b with
          | none => rw [hr] at h; cases h
          | some r =>
            rw [hr] at h
            cases h
            refine ⟨_, rfl, ?_⟩
            show Value.ref (ad K t r) = va_rf ((G.2.1 k i b).map (ad K t))
            rw [hr]
            rfl
      obtain ⟨w, rfl, hw⟩ := key
      intro hcc hss H locs ls hl hf hS
      obtain ⟨ks, j, g1, g2, g3, g4, g5, g6, g7⟩ := hf_get (K := K) hf (by omega) hi
      rw [enc_obj ha] at g7
      refine va_get (D := K.2.2.2.1) (tys := tysL K) (ci := k) (v := sh K w) C.1 C.2.1 C.2.2.2.2.1 (k_in ha) C.2.2.2.1 C.2.2.2.2.2.1.1 g2 j g7 (k_cl ha) b hb (C.2.2.2.2.1 _ hlk) (by rw [h1]; exact fun _ h9 => h9) ?_ hd (g hcc hss H locs ls hl hf hS)
      rw [flds_at hb, hw]
    · rw [if_neg hc] at h; cases h
  · cases h
/-- a field is written, the heap's size stays -/
theorem mi_put {idx a b pc : Nat} (C : CX p R s m args meth c K mi) (ha : a < 8) (hb : b < kN a) (h1 : (kT a b).1 = kC a) (hlk : Cond.fieldLink mi.1.cls idx (kC a) (kT a b).2.1 (kT a b).2.2.1 ∈ GW) (hd : decode mi.2.1 pc = .ok (.putfield idx, 3)) (hfn : (kT a b).2.2.2 = false ∨ (mi.1.name = "<init>" ∧ mi.1.cls = kC a))
    {G : GG} {i : Nat} {H : Heap} {locs : List Loc} {ls : Array Slot} {cells slots : Nat} {rest : List Value} {ws : va_W} {j : Nat} (hP : va_P K.2.2.2.1 classes ws H) (hD : va_D (kO K) ws) (hS : va_S (kO K) s.heap H locs) (he : ws[j]? = some (ad K a i, .inr (a, flds K G a i))) {v : Value} (hn : narrow (tyS ((kS a).getD b 0)) v = v) (hfit : fits (tyS ((kS a).getD b 0)) v = true)
    (kk : ∀ (H1 : Heap) (locs1 : List Loc), va_P K.2.2.2.1 classes (ws.set j (ad K a i, .inr (a, (flds K G a i).set b v))) H1 → va_D (kO K) (ws.set j (ad K a i, .inr (a, (flds K G a i).set b v))) → va_S (kO K) s.heap H1 locs1 → H1.size = H.size → W p l e R s m args below meth c H1 locs1 cells slots Q (F0 m (pc + 3) ls rest)) : W p l e R s m args below meth c H locs cells slots Q (F0 m pc ls (v :: .ref (ad K a i) :: rest)) := by
  have hts := C.2.2.2.2.1
  have hown := C.2.2.2.1
  have hK := C.2.2.2.2.2.1.1
  have hd' := k_ty a ha b hb
  have hap := va_apart (own := mi.1.cls) hts (k_in ha) (fun b => tyS ((kS a).getD b 0)) (k_ty a ha) (k_nm a ha) hK (k_cl ha)
  obtain ⟨r, e1, cell, q1, q2, q3, q4⟩ := hP j _ he
  have hr : r = (kC a, kT a, kN a) := Option.some.inj (e1.symm.trans (k_cl ha))
  subst hr
  obtain ⟨hSl, hfc, kC', hkC, hkind⟩ := hK.1 a _ (k_cl ha)
  obtain ⟨cf, kf, fi, f, hi, hsl⟩ := hSl b hb
  have hlay := hts _ (k_in ha _ (u_in_lay hb))
  have hst := (u_facts hfc hkC (u_lays hts (k_in ha) hb) hi).1
  have hl : b < (flds K G a i).length := by rw [flds_len]; exact hb
  have hsame : s.fieldFound? (kC a) (kT a b).2.1 (kT a b).2.2.1 = some (cf, kf, fi, f) := by rw [← h1]; exact hi
  unfold u_lay at hlay
  cases hf : (kT a b).2.2.2 with
  | false =>
    rw [if_neg (by rw [hf]; decide)] at hlay
    have h6 := u_store hfc hkC hkind hlay hi hd' hn hfit
    refine W.putK C.1 C.2.1 (f := f) ⟨hown, hts _ hlk, ⟨_, _, _, hsame⟩, hst⟩ (by rw [q2]; exact h6) q1 q3 (by rw [hsl]; exact k2_hasslot (q4 b hb)) rfl rfl hd fun H' x1 x2 x3 => ?_
    rw [hsl] at x1 ⊢
    exact kk H' _ (hP.set hD he ⟨_, k_cl ha, t_OB.to (V := updV (vp_V (flds K G a i)) b v) ⟨_, x1, q2, q3, t_set q4 hap hb v⟩ (fun j _ => vp_updV_set hl v j)⟩ x3) (hD.set he) (hS.put x2 x3 (hD.2 j _ he)) x2
  | true =>
    rw [if_pos hf] at hlay
    have hin2 : meth.name = "<init>" ∧ mi.1.cls = kC a := by
      rcases hfn with q | q
      · rw [hf] at q; cases q
      · exact ⟨C.2.2.2.2.2.2.2.2.1 q.1, q.2⟩
    have hcf : m.cls = cf := by
      obtain ⟨_, _, c', _, _, _, -, -, hf', -, -, -, hown2, -⟩ := Cond.laysFinal_spec hlay
      have e1 : c' = cf := by have := hi.symm.trans hf'; simp at this; exact this.1.symm
      rw [h1, ← hin2.2] at hown2
      rw [← e1]; exact Option.some.inj (hown.symm.trans hown2)
    have h6 := u_fits hfc hkC hkind (Or.inr hlay) hi hd' hn hfit
    refine W.putFinK C.1 C.2.1 hown (hts _ hlk) hsame hst hcf hin2.1 (by rw [q2]; exact h6) q1 q3 (by rw [hsl]; exact k2_hasslot (q4 b hb)) rfl rfl hd fun H' x1 x2 x3 => ?_
    rw [hsl] at x1 ⊢
    exact kk H' _ (hP.set hD he ⟨_, k_cl ha, t_OB.to (V := updV (vp_V (flds K G a i)) b v) ⟨_, x1, q2, q3, t_set q4 hap hb v⟩ (fun j _ => vp_updV_set hl v j)⟩ x3) (hD.set he) (hS.put x2 x3 (hD.2 j _ he)) x2
theorem so_put {idx a b pc : Nat} {lv st : List AV} {G : GG} {s' : ST} (C : CX p R s m args meth c K mi) (ha : a < 8) (hb : b < kN a) (h1 : (kT a b).1 = kC a) (hlk : Cond.fieldLink mi.1.cls idx (kC a) (kT a b).2.1 (kT a b).2.2.1 ∈ GW) (hd : decode mi.2.1 pc = .ok (.putfield idx, 3)) (hfn : (kT a b).2.2.2 = false ∨ (mi.1.name = "<init>" ∧ mi.1.cls = kC a))
    (h : o_put a b pc lv st G = some (.inl s')) (g : GS p l e R s m args below meth c Q K mi c0 s0 s') : GS p l e R s m args below meth c Q K mi c0 s0 (pc, lv, st, G) := by
  unfold o_put at h
  split at h
  · rename_i v k i st'
    by_cases hc : (decide (k = a) && has G k i) = true
    · rw [if_pos hc] at h
      rw [Bool.and_eq_true] at hc
      obtain ⟨hc1, hi⟩ := hc
      have hka : k = a := of_decide_eq_true hc1
      subst hka
      have hlen := k_sl k ha
      have hgd : (kS k)[b]? = some ((kS k).getD b 0) := by
        rw [List.getElem?_eq_getElem (by omega), List.getD_eq_getElem?_getD, List.getElem?_eq_getElem (by omega)]
        rfl
      rw [hgd] at h
      have hother : ∀ k' i', ¬ (k' = k ∧ i' = i) → ∀ (x : Int32) (y : Option Nat) (z : Int64), enc K (up3 G.1 k i b x, G.2) k' i' = enc K G k' i' ∧ enc K (G.1, up3 G.2.1 k i b y, G.2.2) k' i' = enc K G k' i' ∧ enc K (G.1, G.2.1, up3 G.2.2.1 k i b z, G.2.2.2) k' i' = enc K G k' i' := fun k' i' hne x y z =>
        ⟨enc_congr (up3_ne hne) rfl rfl, enc_congr rfl (up3_ne hne) rfl, enc_congr rfl rfl (up3_ne hne)⟩
      have key : ∃ G', s' = (pc + 3, lv, st', G') ∧ G'.2.2.2 = G.2.2.2 ∧ narrow (tyS ((kS k).getD b 0)) (sh K v) = sh K v ∧ fits (tyS ((kS k).getD b 0)) (sh K v) = true ∧ (∀ k' i', ¬ (k' = k ∧ i' = i) → enc K G' k' i' = enc K G k' i') ∧ flds K G' k i = (flds K G k i).set b (sh K v) := by
        have hat : ∀ (x : Int32), flds K (up3 G.1 k i b x, G.2) k i = (flds K G k i).set b (sv K (up3 G.1 k i b x, G.2) k i b ((kS k).getD b 0)) := fun x => flds_set hb rfl (fun q hq => by
          generalize (kS k).getD q 0 = tq
          match tq with
          | 0 => simp [sv, up3_at, hq]
          | 1 => simp [sv, up3_at, hq]
          | 2 => rfl
          | t + 3 => rfl)
        have hatR : ∀ (x : Option Nat), flds K (G.1, up3 G.2.1 k i b x, G.2.2) k i = (flds K G k i).set b (sv K (G.1, up3 G.2.1 k i b x, G.2.2) k i b ((kS k).getD b 0)) := fun x => flds_set hb rfl (fun q hq => by
          generalize (kS k).getD q 0 = tq
          match tq with
          | 0 => rfl
          | 1 => rfl
          | 2 => rfl
          | t + 3 => simp [sv, up3_at, hq])
        have hatL : ∀ (x : Int64), flds K (G.1, G.2.1, up3 G.2.2.1 k i b x, G.2.2.2) k i = (flds K G k i).set b (sv K (G.1, G.2.1, up3 G.2.2.1 k i b x, G.2.2.2) k i b ((kS k).getD b 0)) := fun x => flds_set hb rfl (fun q hq => by
          generalize (kS k).getD q 0 = tq
          match tq with
          | 0 => rfl
          | 1 => rfl
          | 2 => simp [sv, up3_at, hq]
          | t + 3 => rfl)
        generalize (kS k).getD b 0 = t at h hat hatR hatL
        match t, v, h with
        | 0, .inl x, h =>
          cases h
          exact ⟨_, rfl, rfl, rfl, rfl, fun k' i' hne => (hother k' i' hne x none 0).1, by rw [hat x]; simp [sv, up3_at, sh]⟩
        | 1, .inl x, h =>
          simp only at h
          by_cases hx : (decide (x = 0) || decide (x = 1)) = true
          · rw [if_pos hx] at h
            cases h
            simp only [Bool.or_eq_true, decide_eq_true_eq] at hx
            refine ⟨_, rfl, rfl, ?_, ?_, fun k' i' hne => (hother k' i' hne x none 0).1, by rw [hat x]; simp [sv, up3_at, sh]⟩
            · rcases hx with rfl | rfl
              · exact (show narrow .boolean (.int 0) = .int 0 by decide +kernel)
              · exact (show narrow .boolean (.int 1) = .int 1 by decide +kernel)
            · rcases hx with rfl | rfl
              · exact (show fits .boolean (.int 0) = true by decide +kernel)
              · exact (show fits .boolean (.int 1) = true by decide +kernel)
          · rw [if_neg hx] at h; cases h
        | 2, .inr (.inl x), h =>
          cases h
          exact ⟨_, rfl, rfl, rfl, rfl, fun k' i' hne => (hother k' i' hne 0 none x).2.2, by rw [hatL x]; simp [sv, up3_at, sh]⟩
        | t + 3, .inr (.inr (.inr (.inl (k', r)))), h =>
          simp only at h
          by_cases hx : k' = t
          · rw [if_pos hx] at h
            cases h
            subst hx
            exact ⟨_, rfl, rfl, (tyS_ref k' _).1, (tyS_ref k' _).2, fun k2 i2 hne => (hother k2 i2 hne 0 (some r) 0).2.1, by rw [hatR (some r)]; simp [sv, up3_at, sh, va_rf]⟩
          · rw [if_neg hx] at h; cases h
      obtain ⟨G', rfl, hN, k1, k2, k3, k4⟩ := key
      intro hcc hss H locs ls hl hf hS
      obtain ⟨ks, j, g1, g2, g3, g4, g5, g6, g7⟩ := hf_get (K := K) hf (by omega) hi
      rw [enc_obj ha] at g7
      refine mi_put (v := sh K v) C ha hb h1 hlk hd hfn g2 g3 hS g7 k1 k2 fun H1 locs1 hP hD hS1 hz => ?_
      have hw := wl_set (e := .inr (k, (flds K G k i).set b (sh K v))) (G' := G') g3 g6 (by rw [enc_obj ha, k4]) k3
      rw [hw] at hP hD
      have hcc' : c0 ≤ G'.2.2.2.2.1 := by rw [hN]; exact hcc
      have hss' : s0 ≤ G'.2.2.2.2.2.1 := by rw [hN]; exact hss
      have fin := g hcc' hss' H1 locs1 ls hl ⟨ks, by rw [hN]; exact g1, hP, hD, by rw [hN, hz]; exact g4, by rw [hz]; exact g5⟩ hS1
      simp only [hN] at fin
      exact fin
    · rw [if_neg hc] at h; cases h
  · cases h
end
/-! rows: read, written, made -/
section
variable {p : Program} {l : Launch} {e : Env} {R : Room} {s : State} {m : MethodId} {args : Array Value} {below : List Frame} {meth : Method} {c : Code} {Q : State → Prop} {K : KE} {mi : MI} {c0 s0 : Nat}
theorem enc_i {G : GG} {k i : Nat} (hk : ¬ k < 8) (h : (kA k).1 = 0) : enc K G k i = .inl (K.2.2.2.2.1 0, (kA k).2, .inl (G.1 k i)) := by
  unfold enc; rw [if_neg hk, h]
theorem enc_z {G : GG} {k i : Nat} (hk : ¬ k < 8) (h : (kA k).1 = 1) : enc K G k i = .inl (K.2.2.2.2.1 1, (kA k).2, .inl (G.1 k i)) := by
  unfold enc; rw [if_neg hk, h]
theorem enc_l {G : GG} {k i : Nat} (hk : ¬ k < 8) (h : (kA k).1 = 2) : enc K G k i = .inl (K.2.2.2.2.1 2, (kA k).2, .inr (.inl (G.2.2.1 k i))) := by
  unfold enc; rw [if_neg hk, h]
theorem enc_q {G : GG} {k i t : Nat} (hk : ¬ k < 8) (h : (kA k).1 = t + 3) : enc K G k i = .inl (K.2.2.2.2.1 (t + 3), (kA k).2, .inr (.inr (.inr (.inr fun j => (G.2.1 k i j).map (ad K t))))) := by
  unfold enc; rw [if_neg hk, h]
theorem kA_lt {k : Nat} (h : (kA k).1 ≠ 99) : 8 ≤ k ∧ k < 31 := by
  unfold kA at h
  split at h <;> first | omega | (exfalso; simp at h; done) | (exact ⟨by omega, by omega⟩)
theorem kA_8 {k t : Nat} (h : (kA k).1 = t + 3) (h9 : (kA k).1 ≠ 99) : t = 0 ∨ t = 2 ∨ t = 5 := by
  unfold kA at h h9
  split at h <;> simp at h h9 <;> omega
theorem upd_up {f : Nat → Nat → Nat → Int32} {k i j : Nat} {x : Int32} : upd (f k i) j x = up3 f k i j x k i := by
  funext q
  rw [up3_at]
  rfl
theorem updL_up {f : Nat → Nat → Nat → Int64} {k i j : Nat} {x : Int64} : vp_updL (f k i) j x = up3 f k i j x k i := by
  funext q
  rw [up3_at]
  rfl
theorem upq_up {f : Nat → Nat → Nat → Option Nat} {k i j r t : Nat} : va_up (fun j => (f k i j).map (ad K t)) j (some (ad K t r)) = fun q => (up3 f k i j (some r) k i q).map (ad K t) := by
  funext q
  rw [up3_at]
  unfold va_up
  split <;> rfl
theorem so_ald {ee pc : Nat} {lv st : List AV} {G : GG} {s' : ST} (C : CX p R s m args meth c K mi) (hd : (ee = 0 ∧ decode mi.2.1 pc = .ok (.iaload, 1)) ∨ (ee = 1 ∧ decode mi.2.1 pc = .ok (.baload, 1)) ∨ (ee = 2 ∧ decode mi.2.1 pc = .ok (.laload, 1)))
    (h : o_ald ee K.2.2.1 pc lv st G = some (.inl s')) (g : GS p l e R s m args below meth c Q K mi c0 s0 s') : GS p l e R s m args below meth c Q K mi c0 s0 (pc, lv, st, G) := by
  have hV := C.2.2.2.2.2.1
  unfold o_ald at h
  split at h
  · rename_i jx k i st'
    by_cases h31 : k = 31
    · rw [if_pos h31] at h
      by_cases hc : (decide (ee = 0) && inR jx K.2.2.1.1) = true
      · rw [if_pos hc] at h
        rw [Bool.and_eq_true, decide_eq_true_eq] at hc
        cases h
        have hd0 : decode mi.2.1 pc = .ok (.iaload, 1) := by
          rcases hd with q | q | q
          · exact q.2
          · omega
          · omega
        intro hcc hss H locs ls hl hf hS
        have fin := g hcc hss H locs ls hl hf hS
        have had : ad K k i = K.2.1 := by unfold ad; rw [if_pos h31]
        show W p l e R s m args below meth c H locs _ _ Q (F0 m pc ls (.int jx :: .ref (ad K k i) :: st'.map (sh K)))
        rw [had]
        exact va_sld (b := K.2.1) (L := K.2.2.1.1) (xs := K.2.2.1.2) C.1 C.2.1 hV.2.1 hV.2.2.1 (Nat.not_le.mpr hV.2.2.2.1) hS (inR_in hc.2) hd0 fin
      · rw [if_neg hc] at h; cases h
    · rw [if_neg h31] at h
      by_cases h32 : 32 ≤ k
      · rw [if_pos h32] at h
        by_cases hc : (decide (ee = 0) && inR jx 5 && decide (k < 35)) = true
        · rw [if_pos hc] at h
          simp only [Bool.and_eq_true, decide_eq_true_eq] at hc
          cases h
          have hd0 : decode mi.2.1 pc = .ok (.iaload, 1) := by
            rcases hd with q | q | q
            · exact q.2
            · omega
            · omega
          intro hcc hss H locs ls hl hf hS
          have fin := g hcc hss H locs ls hl hf hS
          have had : ad K k i = K.2.2.2.2.2.1 k := by unfold ad; rw [if_neg h31, if_pos h32]
          show W p l e R s m args below meth c H locs _ _ Q (F0 m pc ls (.int jx :: .ref (ad K k i) :: st'.map (sh K)))
          rw [had]
          exact va_ti C.1 C.2.1 (hV.2.2.2.2.2.1 k h32 hc.2).2 hS (inR_in hc.1.2) rfl hd0 fin
        · rw [if_neg hc] at h; cases h
      · rw [if_neg h32] at h
        by_cases hc : (decide ((kA k).1 = ee) && inR jx (kA k).2 && has G k i) = true
        · rw [if_pos hc] at h
          simp only [Bool.and_eq_true, decide_eq_true_eq] at hc
          obtain ⟨⟨hc1, hc2⟩, hc3⟩ := hc
          have hkr : 8 ≤ k ∧ k < 31 := kA_lt (by rcases hd with q | q | q <;> omega)
          have hk8 : ¬ k < 8 := by omega
          intro hcc hss H locs ls hl hf hS
          obtain ⟨ks, j, g1, g2, g3, g4, g5, g6, g7⟩ := hf_get (K := K) hf hkr.2 hc3
          rcases hd with ⟨rfl, hd⟩ | ⟨rfl, hd⟩ | ⟨rfl, hd⟩
          · cases h
            rw [enc_i hk8 hc1] at g7
            exact va_iald (tys := tysL K) C.1 C.2.1 hV.1 g2 j 0 g7 rfl (inR_in hc2) hd (g hcc hss H locs ls hl hf hS)
          · cases h
            rw [enc_z hk8 hc1] at g7
            exact va_zald (tys := tysL K) C.1 C.2.1 hV.1 g2 j 1 g7 rfl (inR_in hc2) hd (g hcc hss H locs ls hl hf hS)
          · cases h
            rw [enc_l hk8 hc1] at g7
            exact va_lald (tys := tysL K) C.1 C.2.1 hV.1 g2 j 2 g7 rfl (inR_in hc2) hd (g hcc hss H locs ls hl hf hS)
        · rw [if_neg hc] at h; cases h
  · cases h
theorem so_aald {pc : Nat} {lv st : List AV} {G : GG} {s' : ST} (C : CX p R s m args meth c K mi) (hd : decode mi.2.1 pc = .ok (.aaload, 1))
    (h : o_aald pc lv st G = some (.inl s')) (g : GS p l e R s m args below meth c Q K mi c0 s0 s') : GS p l e R s m args below meth c Q K mi c0 s0 (pc, lv, st, G) := by
  have hV := C.2.2.2.2.2.1
  unfold o_aald at h
  split at h
  · rename_i jx k i st'
    by_cases hc : (inR jx (kA k).2 && has G k i) = true
    · rw [if_pos hc] at h
      rw [Bool.and_eq_true] at hc
      split at h
      · rename_i t hk
        split at h
        · rename_i r hr
          cases h
          intro hcc hss H locs ls hl hf hS
          have h99 : (kA k).1 ≠ 99 := by
            intro q
            have h2 : (kA k).2 = 0 := by
              unfold kA at q ⊢
              split at q <;> first | rfl | (simp at q; done)
            have := hc.1
            rw [h2] at this
            unfold inR at this
            simp at this
          have hkr := kA_lt h99
          have ht := kA_8 hk h99
          obtain ⟨ks, j, g1, g2, g3, g4, g5, g6, g7⟩ := hf_get (K := K) hf hkr.2 hc.2
          rw [enc_q (by omega) hk] at g7
          obtain ⟨t0, ht0⟩ := tys_ref K hk (by omega)
          have fin := g hcc hss H locs ls hl hf hS
          refine va_aldq (tys := tysL K) C.1 C.2.1 hV.1 g2 j t0 g7 ht0 (inR_in hc.1) hd ?_
          show W p l e R s m args below meth c H locs _ _ Q (F0 m (pc + 1) ls (va_rf ((G.2.1 k i jx.toNatClampNeg).map (ad K t)) :: st'.map (sh K)))
          rw [hr]
          exact fin
        · cases h
      · cases h
    · rw [if_neg hc] at h; cases h
  · cases h
theorem hf_put {G G' : GG} {H H1 : Heap} {ks : List (Nat × Nat)} {j k i : Nat} {ev : va_E} (g1 : ∀ q, q ∈ ks ↔ q.1 < 31 ∧ q.2 < G.2.2.2.1 q.1) (g3 : va_D (kO K) (wl K G ks)) (g4 : G.2.2.2.2.2.2 = true → H.size = K.1 + G.2.2.2.2.1) (g5 : K.1 ≤ H.size) (g6 : ks[j]? = some (k, i)) (hN : G'.2.2.2 = G.2.2.2) (he : enc K G' k i = ev) (ho : ∀ k' i', ¬ (k' = k ∧ i' = i) → enc K G' k' i' = enc K G k' i')
    (hP : va_P K.2.2.2.1 classes ((wl K G ks).set j (ad K k i, ev)) H1) (hD : va_D (kO K) ((wl K G ks).set j (ad K k i, ev))) (hz : H1.size = H.size) : HF K G' H1 := by
  rw [wl_set g3 g6 he ho] at hP hD
  exact ⟨ks, by rw [hN]; exact g1, hP, hD, by rw [hN, hz]; exact g4, by rw [hz]; exact g5⟩
theorem so_ast {ee pc : Nat} {lv st : List AV} {G : GG} {s' : ST} (C : CX p R s m args meth c K mi) (hd : (ee = 0 ∧ decode mi.2.1 pc = .ok (.iastore, 1)) ∨ (ee = 1 ∧ decode mi.2.1 pc = .ok (.bastore, 1)) ∨ (ee = 2 ∧ decode mi.2.1 pc = .ok (.lastore, 1)))
    (h : o_ast ee pc lv st G = some (.inl s')) (g : GS p l e R s m args below meth c Q K mi c0 s0 s') : GS p l e R s m args below meth c Q K mi c0 s0 (pc, lv, st, G) := by
  have hV := C.2.2.2.2.2.1
  unfold o_ast at h
  split at h
  · rename_i v jx k i st'
    by_cases hc : (decide ((kA k).1 = ee) && inR jx (kA k).2 && has G k i) = true
    · rw [if_pos hc] at h
      simp only [Bool.and_eq_true, decide_eq_true_eq] at hc
      obtain ⟨⟨hc1, hc2⟩, hc3⟩ := hc
      have hkr : 8 ≤ k ∧ k < 31 := kA_lt (by rcases hd with q | q | q <;> omega)
      have hk8 : ¬ k < 8 := by omega
      have hin := inR_in hc2
      have hother : ∀ k' i', ¬ (k' = k ∧ i' = i) → ∀ (x : Int32) (z : Int64), enc K (up3 G.1 k i jx.toNatClampNeg x, G.2) k' i' = enc K G k' i' ∧ enc K (G.1, G.2.1, up3 G.2.2.1 k i jx.toNatClampNeg z, G.2.2.2) k' i' = enc K G k' i' := fun k' i' hne x z =>
        ⟨enc_congr (up3_ne hne) rfl rfl, enc_congr rfl rfl (up3_ne hne)⟩
      rcases hd with ⟨rfl, hd⟩ | ⟨rfl, hd⟩ | ⟨rfl, hd⟩
      · split at h
        · rename_i x hq9
          cases h
          intro hcc hss H locs ls hl hf hS
          obtain ⟨ks, j, g1, g2, g3, g4, g5, g6, g7⟩ := hf_get (K := K) hf hkr.2 hc3
          rw [enc_i hk8 hc1] at g7
          refine W.iast C.1 C.2.1 (g2 j _ g7) ((hV.1.2 0 _ rfl).1 (kA k).2 (fun q => .int (G.1 k i q))) (fun q => by cases q) (by show ¬ (jx < 0 ∨ (arrV _ _ _).slots.size ≤ _); rw [arrV_size]; exact hin) rfl rfl hd fun H1 x1 x2 x3 => ?_
          have hat : va_at K.2.2.2.1 classes (ad K k i, enc K (up3 G.1 k i jx.toNatClampNeg x, G.2) k i) H1 := by
            rw [enc_i hk8 hc1]
            show H1[ad K k i]? = some (vp_cell _ _)
            rw [x1, vp_cell_i, vp_cell_i, arrV_store]
            congr 2
            funext q
            simp only [up3_at, updV]
            split <;> rfl
          exact g hcc hss H1 _ ls hl (hf_put g1 g3 g4 g5 g6 rfl rfl (fun k' i' hne => (hother k' i' hne x 0).1) (g2.set g3 g7 hat x3) (g3.set g7) x2) (hS.put x2 x3 (g3.2 j _ g7))
        · cases ‹(0 : Nat) = 1›
        · cases ‹(0 : Nat) = 2›
        · cases h
      · split at h
        · cases ‹(1 : Nat) = 0›
        · rename_i x hq9
          by_cases hx : (decide (x = 0) || decide (x = 1)) = true
          · rw [if_pos hx] at h
            cases h
            simp only [Bool.or_eq_true, decide_eq_true_eq] at hx
            have hnar : narrow .boolean (.int x) = .int x := by rcases hx with rfl | rfl <;> decide +kernel
            intro hcc hss H locs ls hl hf hS
            obtain ⟨ks, j, g1, g2, g3, g4, g5, g6, g7⟩ := hf_get (K := K) hf hkr.2 hc3
            rw [enc_z hk8 hc1] at g7
            refine W.zast C.1 C.2.1 (g2 j _ g7) ((hV.1.2 1 _ rfl).1 (kA k).2 (fun q => .int (G.1 k i q))) (fun q => by cases q) (by show ¬ (jx < 0 ∨ (arrV _ _ _).slots.size ≤ _); rw [arrV_size]; exact hin) rfl rfl hd fun H1 x1 x2 x3 => ?_
            have hat : va_at K.2.2.2.1 classes (ad K k i, enc K (up3 G.1 k i jx.toNatClampNeg x, G.2) k i) H1 := by
              rw [enc_z hk8 hc1]
              show H1[ad K k i]? = some (vp_cell _ _)
              rw [x1, hnar, vp_cell_i, vp_cell_i, arrV_store]
              congr 2
              funext q
              simp only [up3_at, updV]
              split <;> rfl
            exact g hcc hss H1 _ ls hl (hf_put g1 g3 g4 g5 g6 rfl rfl (fun k' i' hne => (hother k' i' hne x 0).1) (g2.set g3 g7 hat x3) (g3.set g7) x2) (hS.put x2 x3 (g3.2 j _ g7))
          · rw [if_neg hx] at h; cases h
        · cases ‹(1 : Nat) = 2›
        · cases h
      · split at h
        · cases ‹(2 : Nat) = 0›
        · cases ‹(2 : Nat) = 1›
        · rename_i x hq9
          cases h
          intro hcc hss H locs ls hl hf hS
          obtain ⟨ks, j, g1, g2, g3, g4, g5, g6, g7⟩ := hf_get (K := K) hf hkr.2 hc3
          rw [enc_l hk8 hc1] at g7
          refine W.last C.1 C.2.1 (g2 j _ g7) ((hV.1.2 2 _ rfl).1 (kA k).2 (fun q => .long (G.2.2.1 k i q))) (fun q => by cases q) (by show ¬ (jx < 0 ∨ (arrV _ _ _).slots.size ≤ _); rw [arrV_size]; exact hin) rfl rfl hd fun H1 x1 x2 x3 => ?_
          have hat : va_at K.2.2.2.1 classes (ad K k i, enc K (G.1, G.2.1, up3 G.2.2.1 k i jx.toNatClampNeg x, G.2.2.2) k i) H1 := by
            rw [enc_l hk8 hc1]
            show H1[ad K k i]? = some (vp_cell _ _)
            rw [x1, vp_cell_l, vp_cell_l, arrV_store]
            congr 2
            funext q
            simp only [up3_at, updV]
            split <;> rfl
          exact g hcc hss H1 _ ls hl (hf_put g1 g3 g4 g5 g6 rfl rfl (fun k' i' hne => (hother k' i' hne 0 x).2) (g2.set g3 g7 hat x3) (g3.set g7) x2) (hS.put x2 x3 (g3.2 j _ g7))
        · cases h
    · rw [if_neg hc] at h; cases h
  · cases h
theorem so_aast {pc : Nat} {lv st : List AV} {G : GG} {s' : ST} (C : CX p R s m args meth c K mi) (hd : decode mi.2.1 pc = .ok (.aastore, 1))
    (h : o_aast pc lv st G = some (.inl s')) (g : GS p l e R s m args below meth c Q K mi c0 s0 s') : GS p l e R s m args below meth c Q K mi c0 s0 (pc, lv, st, G) := by
  have hV := C.2.2.2.2.2.1
  unfold o_aast at h
  split at h
  · rename_i k' r jx k i st'
    by_cases hc : (inR jx (kA k).2 && has G k i && has G k' r && decide ((kA k).1 = k' + 3) && decide (k' < 8)) = true
    · rw [if_pos hc] at h
      simp only [Bool.and_eq_true, decide_eq_true_eq] at hc
      obtain ⟨⟨⟨⟨hc1, hc2⟩, hc3⟩, hc4⟩, hc5⟩ := hc
      cases h
      have hkr := kA_lt (k := k) (by omega)
      have hk8 : ¬ k < 8 := by omega
      have hin := inR_in hc1
      have hlt : jx.toNatClampNeg < (kA k).2 := Nat.not_le.mp fun q => hin (Or.inr q)
      intro hcc hss H locs ls hl hf hS
      obtain ⟨ks, j, g1, g2, g3, g4, g5, g6, g7⟩ := hf_get (K := K) hf hkr.2 hc2
      obtain ⟨j2, g8, g9⟩ := wl_get (K := K) (G := G) ((g1 (k', r)).mpr ⟨by omega, of_decide_eq_true hc3⟩)
      rw [enc_q hk8 hc4] at g7
      rw [enc_obj hc5] at g9
      obtain ⟨t0, ht0⟩ := tys_ref K hc4 hc5
      obtain ⟨r', hr', cellV, v1, v2, v3, -⟩ := g2 j2 _ g9
      have hcls := (hV.1.1 k' _ (k_cl hc5)).2
      obtain ⟨kA', comp, y1, y2, y3, -⟩ := (hV.1.2 t0 _ ht0).2
      have hcomp : comp = K.2.2.2.1.1 k' := Option.some.inj (y3.symm.trans hcls.1)
      subst hcomp
      obtain ⟨kC', hkC, -⟩ := hcls.2
      refine W.aast C.1 C.2.1 (g2 j _ g7) (fun q h => by cases h) (fun h => by cases h) y1 y2 rfl hkC ⟨fun q => hin (Or.inl q), by show _ < (arrV _ _ _).slots.size; rw [arrV_size]; exact hlt⟩ v1 (fun q h => by rw [v3] at h; cases h) (by rw [v2]; exact hkC) (by rw [v2]; exact va_assign hcls) rfl rfl hd fun H1 x1 x2 x3 => ?_
      have hat : va_at K.2.2.2.1 classes (ad K k i, enc K (G.1, up3 G.2.1 k i jx.toNatClampNeg (some r), G.2.2) k i) H1 := by
        rw [enc_q hk8 hc4]
        show H1[ad K k i]? = some (vp_cell _ _)
        rw [x1, vp_cell_q, vp_cell_q, arrV_store]
        congr 2
        funext q
        simp only [up3_at, updV]
        split <;> rfl
      exact g hcc hss H1 _ ls hl (hf_put g1 g3 g4 g5 g6 rfl rfl (fun k2 i2 hne => enc_congr rfl (up3_ne hne) rfl) (g2.set g3 g7 hat x3) (g3.set g7) x2) (hS.put x2 x3 (g3.2 j _ g7))
    · rw [if_neg hc] at h; cases h
  · cases h
theorem so_len {pc : Nat} {lv st : List AV} {G : GG} {s' : ST} (C : CX p R s m args meth c K mi) (hd : decode mi.2.1 pc = .ok (.arraylength, 1))
    (h : o_len K.2.2.1 pc lv st G = some (.inl s')) (g : GS p l e R s m args below meth c Q K mi c0 s0 s') : GS p l e R s m args below meth c Q K mi c0 s0 (pc, lv, st, G) := by
  have hV := C.2.2.2.2.2.1
  unfold o_len at h
  split at h
  · rename_i k i st'
    by_cases h31 : k = 31
    · rw [if_pos h31] at h
      cases h
      intro hcc hss H locs ls hl hf hS
      have fin := g hcc hss H locs ls hl hf hS
      have had : ad K k i = K.2.1 := by unfold ad; rw [if_pos h31]
      show W p l e R s m args below meth c H locs _ _ Q (F0 m pc ls (.ref (ad K k i) :: st'.map (sh K)))
      rw [had]
      exact va_slen (b := K.2.1) (L := K.2.2.1.1) (xs := K.2.2.1.2) C.1 C.2.1 hV.2.1 hV.2.2.1 (Nat.not_le.mpr hV.2.2.2.1) hS hd fin
    · rw [if_neg h31] at h
      by_cases hc : (decide (8 ≤ k) && decide (k < 31) && has G k i) = true
      · rw [if_pos hc] at h
        simp only [Bool.and_eq_true, decide_eq_true_eq] at hc
        cases h
        intro hcc hss H locs ls hl hf hS
        obtain ⟨ks, j, g1, g2, g3, g4, g5, g6, g7⟩ := hf_get (K := K) hf hc.1.2 hc.2
        have hk8 : ¬ k < 8 := by omega
        have fin := g hcc hss H locs ls hl hf hS
        have h99 : (kA k).1 = 0 ∨ (kA k).1 = 1 ∨ (kA k).1 = 2 ∨ ∃ t, (kA k).1 = t + 3 ∧ t < 8 := by
          rcases kA_all k hc.1.2 hc.1.1 with q | q | q | q | q | q
          · exact Or.inl q
          · exact Or.inr (Or.inl q)
          · exact Or.inr (Or.inr (Or.inl q))
          · exact Or.inr (Or.inr (Or.inr ⟨0, q, by omega⟩))
          · exact Or.inr (Or.inr (Or.inr ⟨2, q, by omega⟩))
          · exact Or.inr (Or.inr (Or.inr ⟨5, q, by omega⟩))
        rcases h99 with h9 | h9 | h9 | ⟨t, h9, h8⟩
        · rw [enc_i hk8 h9] at g7
          exact va_alen (tys := tysL K) C.1 C.2.1 hV.1 g2 j 0 g7 rfl rfl hd fin
        · rw [enc_z hk8 h9] at g7
          exact va_alen (tys := tysL K) C.1 C.2.1 hV.1 g2 j 1 g7 rfl rfl hd fin
        · rw [enc_l hk8 h9] at g7
          exact va_alen (tys := tysL K) C.1 C.2.1 hV.1 g2 j 2 g7 rfl rfl hd fin
        · rw [enc_q hk8 h9] at g7
          obtain ⟨t0, ht0⟩ := tys_ref K h9 h8
          exact va_alen (tys := tysL K) C.1 C.2.1 hV.1 g2 j t0 g7 ht0 rfl hd fin
      · rw [if_neg hc] at h; cases h
  · cases h
end
/-! cells that are made -/
section
variable {p : Program} {l : Launch} {e : Env} {R : Room} {s : State} {m : MethodId} {args : Array Value} {below : List Frame} {meth : Method} {c : Code} {Q : State → Prop} {K : KE} {mi : MI} {c0 s0 : Nat}
theorem k_ini : ∀ k, k < 8 → (decide (Cond.instantiable (kC k) (kN k) ∈ lw_tbl) && decide (Cond.initialized (kC k) ∈ lw_tbl)) = true := by decide +kernel
theorem in_inst {k : Nat} (hk : k < 8) : Cond.instantiable (kC k) (kN k) ∈ GW := by
  have h := k_ini k hk
  simp only [Bool.and_eq_true, decide_eq_true_eq] at h
  exact w_of_gw h.1 rfl
theorem in_init {k : Nat} (hk : k < 8) : Cond.initialized (kC k) ∈ GW := by
  have h := k_ini k hk
  simp only [Bool.and_eq_true, decide_eq_true_eq] at h
  exact w_of_gw h.2 rfl
theorem up2_ne {α : Type} {f : Nat → Nat → Nat → α} {k i : Nat} {v : α} {k' i' : Nat} (h : ¬ (k' = k ∧ i' = i)) : up2 f k i v k' i' = f k' i' := by
  funext s'
  unfold up2
  rw [if_neg h]
theorem up2_at {α : Type} {f : Nat → Nat → Nat → α} {k i : Nat} {v : α} : up2 f k i v k i = fun _ => v := by
  funext s'
  unfold up2
  rw [if_pos ⟨rfl, rfl⟩]
theorem mk_ne {k n : Nat} {G : GG} {k' i' : Nat} (h : ¬ (k' = k ∧ i' = G.2.2.2.1 k)) : enc K (mk k n G) k' i' = enc K G k' i' := enc_congr (up2_ne h) (up2_ne h) (up2_ne h)
theorem hf_push {G : GG} {k n : Nat} {H H1 : Heap} (hk : k < 31) (hf : HF K G H) (hok : okN k G = true) (e1 : va_at K.2.2.2.1 classes (ad K k (G.2.2.2.1 k), enc K (mk k n G) k (G.2.2.2.1 k)) H1) (z1 : H1.size = H.size + 1) (o1 : ∀ q : Nat, q < H.size → H1[q]? = H[q]?) : HF K (mk k n G) H1 := by
  obtain ⟨ks, g1, g2, g3, g4, g5⟩ := hf
  unfold okN at hok
  rw [Bool.and_eq_true, decide_eq_true_eq] at hok
  have hsz := g4 hok.1
  have had : ad K k (G.2.2.2.1 k) = H.size := by rw [ad_in hk, hok.2, hsz]
  have hw : wl K (mk k n G) (ks ++ [(k, G.2.2.2.1 k)]) = wl K G ks ++ [(ad K k (G.2.2.2.1 k), enc K (mk k n G) k (G.2.2.2.1 k))] := by
    unfold wl
    rw [List.map_append]
    congr 1
    apply List.map_congr_left
    intro q hq
    have h2 := ((g1 q).mp hq).2
    rw [mk_ne]
    rintro ⟨a, b⟩
    rw [a] at h2
    omega
  refine ⟨ks ++ [(k, G.2.2.2.1 k)], fun q => ?_, ?_, ?_, fun _ => ?_, by omega⟩
  · rw [List.mem_append, List.mem_singleton, g1]
    show _ ↔ q.1 < 31 ∧ q.2 < up1 G.2.2.2.1 k (G.2.2.2.1 k + 1) q.1
    unfold up1
    by_cases hq : q.1 = k
    · rw [if_pos hq]
      constructor
      · rintro (⟨a, b⟩ | rfl)
        · exact ⟨a, by rw [hq] at b; omega⟩
        · exact ⟨hk, Nat.lt_succ_self _⟩
      · rintro ⟨a, b⟩
        by_cases h3 : q.2 < G.2.2.2.1 k
        · exact Or.inl ⟨a, by rw [hq]; exact h3⟩
        · exact Or.inr (Prod.ext hq (by show q.2 = G.2.2.2.1 k; omega))
    · rw [if_neg hq]
      constructor
      · rintro (a | rfl)
        · exact a
        · exact absurd rfl hq
      · exact fun a => Or.inl a
  · rw [hw]
    refine (va_P.kept g2 fun j q hq => o1 q.1 (g2 j q hq).lt).app fun j x hx => ?_
    have hz : j < 1 := (List.getElem?_eq_some_iff.mp hx).1
    rw [show j = 0 by omega] at hx
    cases hx
    exact e1
  · rw [hw]
    exact g3.push g2 had (by show K.1 ≤ _; rw [had]; exact g5)
  · show H1.size = K.1 + (G.2.2.2.2.1 + 1)
    omega
theorem vs_push {H H1 : Heap} {locs : List Loc} (hS : va_S (kO K) s.heap H locs) (z1 : H1.size = H.size + 1) (o1 : ∀ q : Nat, q < H.size → H1[q]? = H[q]?) : va_S (kO K) s.heap H1 locs :=
  ⟨Nat.le_trans hS.1 (by omega), fun x h1 h2 => (o1 x (Nat.lt_of_lt_of_le h1 hS.1)).trans (hS.2.1 x h1 h2), hS.2.2⟩
theorem dflt {k j t : Nat} {G : GG} {n : Nat} : sv K (mk k n G) k (G.2.2.2.1 k) j t = defaultValue (tyS t) := by
  match t with
  | 0 => show Value.int (up2 G.1 k (G.2.2.2.1 k) 0 k (G.2.2.2.1 k) j) = _; rw [up2_at]; rfl
  | 1 => show Value.int (up2 G.1 k (G.2.2.2.1 k) 0 k (G.2.2.2.1 k) j) = _; rw [up2_at]; rfl
  | 2 => show Value.long (up2 G.2.2.1 k (G.2.2.2.1 k) 0 k (G.2.2.2.1 k) j) = _; rw [up2_at]; rfl
  | t + 3 =>
    show va_rf ((up2 G.2.1 k (G.2.2.2.1 k) none k (G.2.2.2.1 k) j).map (ad K t)) = _
    rw [up2_at, tyS3]
    split
    · rfl
    · split <;> rfl
theorem flds_getD {G : GG} {k i j : Nat} (h : j < kN k) : (flds K G k i).getD j .null = sv K G k i j ((kS k).getD j 0) := by
  rw [List.getD_eq_getElem?_getD, flds_at h]
  rfl
theorem so_new {idx a b pc : Nat} {lv st : List AV} {G : GG} {s' : ST} (C : CX p R s m args meth c K mi) (ha : a < 8) (hb : b = kN a) (hlk : Cond.classLink mi.1.cls idx (kC a) ∈ GW) (hd : decode mi.2.1 pc = .ok (.new idx, 3))
    (h : o_new a b pc lv st G = some (.inl s')) (hbud : s'.2.2.2.2.2.2.2.1 - c0 ≤ R.cells ∧ s'.2.2.2.2.2.2.2.2.1 - s0 ≤ R.slots) (g : GS p l e R s m args below meth c Q K mi c0 s0 s') : GS p l e R s m args below meth c Q K mi c0 s0 (pc, lv, st, G) := by
  have hV := C.2.2.2.2.2.1
  have hts := C.2.2.2.2.1
  unfold o_new at h
  rw [if_neg (by omega)] at h
  by_cases hc : (decide (a < 8) && okN a G) = true
  · rw [if_pos hc] at h
    rw [Bool.and_eq_true] at hc
    cases h
    subst hb
    intro hcc hss H locs ls hl hf hS
    have hcc : c0 ≤ G.2.2.2.2.1 := hcc
    have hss : s0 ≤ G.2.2.2.2.2.1 := hss
    have hb1 : (G.2.2.2.2.1 + 1) - c0 ≤ R.cells := hbud.1
    have hb2 : (G.2.2.2.2.2.1 + kN a) - s0 ≤ R.slots := hbud.2
    have hKn := hV.1.1 a _ (k_cl ha)
    have had : H.size = ad K a (G.2.2.2.1 a) := by
      obtain ⟨ks, g1, g2, g3, g4, g5⟩ := hf
      have h9 := hc.2
      unfold okN at h9
      rw [Bool.and_eq_true, decide_eq_true_eq] at h9
      rw [ad_in (by omega), h9.2, g4 h9.1]
    refine W.newcK C.1 C.2.1 C.2.2.2.1 (hts _ hlk) (hts _ (in_inst ha)) (hts _ (in_init ha)) rfl hd (by show G.2.2.2.2.1 - c0 + 1 ≤ _; omega) (by show G.2.2.2.2.2.1 - s0 + _ ≤ _; omega) hKn.2.1 had fun H1 kC' hkC e1 z1 o1 => ?_
    have hat : va_at K.2.2.2.1 classes (ad K a (G.2.2.2.1 a), enc K (mk a (kN a) G) a (G.2.2.2.1 a)) H1 := by
      rw [enc_obj ha]
      refine ⟨_, k_cl ha, (u_born (fun j => tyS ((kS a).getD j 0)) hts (k_in ha) hKn hkC e1 (k_ty a ha)).to fun j hj => ?_⟩
      show defaultValue _ = (flds K (mk a (kN a) G) a (G.2.2.2.1 a)).getD j .null
      rw [flds_getD hj, dflt]
    have z1' : H1.size = H.size + 1 := by rw [z1, had]
    have o1' : ∀ q : Nat, q < H.size → H1[q]? = H[q]? := fun q hq => o1 q (by rw [← had]; exact hq)
    have fin := g (by show c0 ≤ G.2.2.2.2.1 + 1; omega) (by show s0 ≤ G.2.2.2.2.2.1 + kN a; omega) H1 locs ls hl (hf_push (by omega) hf hc.2 hat z1' o1') (vs_push hS z1' o1')
    have q1 : G.2.2.2.2.1 - c0 + 1 = (G.2.2.2.2.1 + 1) - c0 := by omega
    have q2 : G.2.2.2.2.2.1 - s0 + kN a = (G.2.2.2.2.2.1 + kN a) - s0 := by omega
    show W p l e R s m args below meth c H1 locs (G.2.2.2.2.1 - c0 + 1) (G.2.2.2.2.2.1 - s0 + kN a) Q _
    rw [q1, q2]
    exact fin
  · rw [if_neg hc] at h; cases h
theorem so_newa {i : Instr} {len a pc : Nat} {lv st : List AV} {G : GG} {s' : ST} (C : CX p R s m args meth c K mi)
    (hd : (∃ t, i = .newarray t ∧ len = 2 ∧ (kA a).1 = aTy t) ∨ (∃ idx t, i = .anewarray idx ∧ len = 3 ∧ (kA a).1 = t + 3 ∧ t < 8 ∧ Cond.classLink mi.1.cls idx (kC t) ∈ GW)) (hdd : decode mi.2.1 pc = .ok (i, len))
    (h : o_newa len a pc lv st G = some (.inl s')) (hbud : s'.2.2.2.2.2.2.2.1 - c0 ≤ R.cells ∧ s'.2.2.2.2.2.2.2.2.1 - s0 ≤ R.slots) (g : GS p l e R s m args below meth c Q K mi c0 s0 s') : GS p l e R s m args below meth c Q K mi c0 s0 (pc, lv, st, G) := by
  have hV := C.2.2.2.2.2.1
  have hts := C.2.2.2.2.1
  unfold o_newa at h
  split at h
  · rename_i n st'
    by_cases hc : (decide (8 ≤ a) && decide (a < 31) && okN a G && decide (n = Int32.ofNat (kA a).2)) = true
    · rw [if_pos hc] at h
      simp only [Bool.and_eq_true, decide_eq_true_eq] at hc
      obtain ⟨⟨⟨h8, h31⟩, hok⟩, hn⟩ := hc
      cases h
      have hlen : (kA a).2 ≤ 1224 := by unfold kA; split <;> decide
      have hN : n.toNatClampNeg = (kA a).2 := by rw [hn]; exact nI_clamp (by omega)
      have hn0 : ¬ n < 0 := by rw [hn]; exact nI_pos (by omega)
      intro hcc hss H locs ls hl hf hS
      have hcc : c0 ≤ G.2.2.2.2.1 := hcc
      have hss : s0 ≤ G.2.2.2.2.2.1 := hss
      have hb1 : (G.2.2.2.2.1 + 1) - c0 ≤ R.cells := hbud.1
      have hb2 : (G.2.2.2.2.2.1 + (kA a).2) - s0 ≤ R.slots := hbud.2
      have had : H.size = ad K a (G.2.2.2.1 a) := by
        obtain ⟨ks, g1, g2, g3, g4, g5⟩ := hf
        have h9 := hok
        unfold okN at h9
        rw [Bool.and_eq_true, decide_eq_true_eq] at h9
        rw [ad_in h31, h9.2, g4 h9.1]
      have q1 : G.2.2.2.2.1 - c0 + 1 = (G.2.2.2.2.1 + 1) - c0 := by omega
      have q2 : G.2.2.2.2.2.1 - s0 + (kA a).2 = (G.2.2.2.2.2.1 + (kA a).2) - s0 := by omega
      have fin : ∀ H1 : Heap, va_at K.2.2.2.1 classes (ad K a (G.2.2.2.1 a), enc K (mk a (kA a).2 G) a (G.2.2.2.1 a)) H1 → H1.size = H.size + 1 → (∀ q : Nat, q < H.size → H1[q]? = H[q]?) → W p l e R s m args below meth c H1 locs (G.2.2.2.2.1 - c0 + 1) (G.2.2.2.2.2.1 - s0 + (kA a).2) Q (F0 m (pc + len) ls (.ref (ad K a (G.2.2.2.1 a)) :: st'.map (sh K))) := fun H1 hat z1 o1 => by
        rw [q1, q2]
        exact g (by show c0 ≤ G.2.2.2.2.1 + 1; omega) (by show s0 ≤ G.2.2.2.2.2.1 + (kA a).2; omega) H1 locs ls hl (hf_push h31 hf hok hat z1 o1) (vs_push hS z1 o1)
      have hk8 : ¬ a < 8 := by omega
      rcases hd with ⟨t, rfl, rfl, ht⟩ | ⟨idx, t, rfl, rfl, ht, ht8, hlk⟩
      · have harr : ∀ ty : FieldType, ty = .int ∨ ty = .boolean ∨ ty = .long → (Cond.arrayClass ty).before args s = true := by
          intro ty hty
          have hin : Cond.arrayClass ty ∈ lw_tbl := by
            rcases hty with rfl | rfl | rfl <;> decide +kernel
          exact hts _ (w_of_gw hin rfl)
        have three : (t = .int ∧ (kA a).1 = 0) ∨ (t = .boolean ∧ (kA a).1 = 1) ∨ (t = .long ∧ (kA a).1 = 2) := by
          have h99 : (kA a).1 ≠ 99 := by have := kA_all a h31 h8; omega
          cases t <;> first | (exact Or.inl ⟨rfl, ht⟩) | (exact Or.inr (Or.inl ⟨rfl, ht⟩)) | (exact Or.inr (Or.inr ⟨rfl, ht⟩)) | (exact absurd ht h99)
        rcases three with ⟨rfl, h0⟩ | ⟨rfl, h0⟩ | ⟨rfl, h0⟩
        · refine va_newaK (atype := .int) C.1 C.2.1 (harr _ (Or.inl rfl)) rfl hdd rfl hn0 hN (by show (kA a).2 * 4 ≤ _; omega) (by show G.2.2.2.2.1 - c0 + 1 ≤ _; omega) (by show G.2.2.2.2.2.1 - s0 + _ ≤ _; omega) had fun H1 cA e1 z1 o1 hAr hNm => ?_
          have hcA : cA = K.2.2.2.2.1 0 := Option.some.inj (hNm.symm.trans (hV.1.2 0 _ rfl).2)
          subst hcA
          refine fin H1 ?_ (by rw [z1, had]) (fun q hq => o1 q (by rw [← had]; exact hq))
          rw [enc_i hk8 h0]
          show H1[ad K a _]? = some (vp_cell _ _)
          rw [e1, vp_cell_i]
          congr 2
          funext q
          show Value.int 0 = .int (up2 G.1 a (G.2.2.2.1 a) 0 a (G.2.2.2.1 a) q)
          rw [up2_at]
        · refine va_newaK (atype := .boolean) C.1 C.2.1 (harr _ (Or.inr (Or.inl rfl))) rfl hdd rfl hn0 hN (by show (kA a).2 * 1 ≤ _; omega) (by show G.2.2.2.2.1 - c0 + 1 ≤ _; omega) (by show G.2.2.2.2.2.1 - s0 + _ ≤ _; omega) had fun H1 cA e1 z1 o1 hAr hNm => ?_
          have hcA : cA = K.2.2.2.2.1 1 := Option.some.inj (hNm.symm.trans (hV.1.2 1 _ rfl).2)
          subst hcA
          refine fin H1 ?_ (by rw [z1, had]) (fun q hq => o1 q (by rw [← had]; exact hq))
          rw [enc_z hk8 h0]
          show H1[ad K a _]? = some (vp_cell _ _)
          rw [e1, vp_cell_i]
          congr 2
          funext q
          show Value.int 0 = .int (up2 G.1 a (G.2.2.2.1 a) 0 a (G.2.2.2.1 a) q)
          rw [up2_at]
        · refine va_newaK (atype := .long) C.1 C.2.1 (harr _ (Or.inr (Or.inr rfl))) rfl hdd rfl hn0 hN (by show (kA a).2 * 8 ≤ _; omega) (by show G.2.2.2.2.1 - c0 + 1 ≤ _; omega) (by show G.2.2.2.2.2.1 - s0 + _ ≤ _; omega) had fun H1 cA e1 z1 o1 hAr hNm => ?_
          have hcA : cA = K.2.2.2.2.1 2 := Option.some.inj (hNm.symm.trans (hV.1.2 2 _ rfl).2)
          subst hcA
          refine fin H1 ?_ (by rw [z1, had]) (fun q hq => o1 q (by rw [← had]; exact hq))
          rw [enc_l hk8 h0]
          show H1[ad K a _]? = some (vp_cell _ _)
          rw [e1, vp_cell_l]
          congr 2
          funext q
          show Value.long 0 = .long (up2 G.2.2.1 a (G.2.2.2.1 a) 0 a (G.2.2.2.1 a) q)
          rw [up2_at]
      · obtain ⟨t0, ht0⟩ := tys_ref K ht ht8
        have h99 : (kA a).1 ≠ 99 := by have := kA_all a h31 h8; omega
        have ht5 := kA_8 ht h99
        refine W.anew C.1 C.2.1 C.2.2.2.1 (hts _ hlk) (va_AO.use (hV.2.2.2.2.2.2.2.2.2.1 t ht5)) rfl hdd rfl hn0 (by rw [hN]; omega) (by show G.2.2.2.2.1 - c0 + 1 ≤ _; omega) (by show G.2.2.2.2.2.1 - s0 + _ ≤ _; rw [hN]; omega) fun cA kA' comp f1 f2 f3 f4 => ?_
        generalize hH1 : H.push ({ cls := cA, slots := Array.replicate n.toNatClampNeg .null, vm := .none } : Cell) = H1
        have z1 : H1.size = H.size + 1 := by rw [← hH1, Array.size_push]
        have e1 : H1[H.size]? = some (arrV cA n.toNatClampNeg (fun _ => .null)) := by rw [← hH1, Array.getElem?_push_size, ← arrV_new]
        have o1 : ∀ q : Nat, q < H.size → H1[q]? = H[q]? := fun q hq => by rw [← hH1, Array.getElem?_push, if_neg (Nat.ne_of_lt hq)]
        have hcA : cA = K.2.2.2.2.1 (t + 3) := by
          obtain ⟨_, _, _, _, _, y4⟩ := (hV.1.2 t0 _ ht0).2
          exact Option.some.inj (f1.symm.trans y4)
        subst hcA
        rw [hN, had] 
        rw [hN] at e1
        refine fin H1 ?_ z1 o1
        rw [enc_q hk8 ht]
        show H1[ad K a _]? = some (vp_cell _ _)
        rw [← had, e1, vp_cell_q]
        congr 2
        funext q
        show Value.null = va_rf ((up2 G.2.1 a (G.2.2.2.1 a) none a (G.2.2.2.1 a) q).map (ad K t))
        rw [up2_at]
        rfl
    · rw [if_neg hc] at h; cases h
  · cases h
end
/-! one step that is no call, no answer and no throw -/
section
variable {p : Program} {l : Launch} {e : Env} {R : Room} {s : State} {m : MethodId} {args : Array Value} {below : List Frame} {meth : Method} {c : Code} {Q : State → Prop} {K : KE} {mi : MI} {c0 s0 : Nat}
theorem ct_le {K : KE} {st : List AV} {n : Nat} (h : ct st ≤ n) : ((st.map (sh K)).map fun v => v.category).sum ≤ n := by
  have h1 : (st.map (sh K)).map (fun v => v.category) = st.map cat := by
    rw [List.map_map]
    apply List.map_congr_left
    intro v _
    exact sh_cat K v
  rw [h1]
  exact h
theorem jw : ([Cond.static Lib.Math.min.name, .initialized "java/lang/Math", .code Lib.Math.min.name Lib.Math.min.code 2 (some .int), .native ⟨"java/lang/Double", "doubleToRawLongBits", "(D)J"⟩, .static ⟨"java/lang/Double", "doubleToRawLongBits", "(D)J"⟩, .initialized "java/lang/Double", .instanceMethod Lib.objectInit, .code Lib.objectInit ⟨#[0xb1]⟩ 1 none].all (fun w => decide (w ∈ lw_tbl) && goodWord w)) = true := by decide +kernel
theorem jw_in {w : Cond} (h : w ∈ [Cond.static Lib.Math.min.name, .initialized "java/lang/Math", .code Lib.Math.min.name Lib.Math.min.code 2 (some .int), .native ⟨"java/lang/Double", "doubleToRawLongBits", "(D)J"⟩, .static ⟨"java/lang/Double", "doubleToRawLongBits", "(D)J"⟩, .initialized "java/lang/Double", .instanceMethod Lib.objectInit, .code Lib.objectInit ⟨#[0xb1]⟩ 1 none]) : w ∈ GW := by
  have h1 := List.all_eq_true.mp jw w h
  simp only [Bool.and_eq_true, decide_eq_true_eq] at h1
  exact w_of_gw h1.1 h1.2
set_option maxHeartbeats 4000000 in
theorem so_next {i : Instr} {len a b cc j pc : Nat} {lv st : List AV} {G : GG} {s' : ST} (C : CX p R s m args meth c K mi) (hk : okE mi (pc, i, len, a, b, cc, j) = true)
    (h : stepI K.2.2.1 mi.2.2.2.1 i len a b cc pc lv st G = some (.inl s')) (hbud : s'.2.2.2.2.2.2.2.1 - c0 ≤ R.cells ∧ s'.2.2.2.2.2.2.2.2.1 - s0 ≤ R.slots) (g : GS p l e R s m args below meth c Q K mi c0 s0 s') : GS p l e R s m args below meth c Q K mi c0 s0 (pc, lv, st, G) := by
  have hx := C.1
  have hb := C.2.1
  have hts := C.2.2.2.2.1
  have hown := C.2.2.2.1
  have hV := C.2.2.2.2.2.1
  unfold okE at hk
  simp only [Bool.and_eq_true, decide_eq_true_eq] at hk
  obtain ⟨⟨hd, hlen⟩, hw⟩ := hk
  cases i with
  | iconst n =>
    simp only [decide_eq_true_eq] at hlen; subst hlen; cases h
    exact fun hc hs H locs ls hl hf hS => lv_iconst hx hb hd rfl (g hc hs H locs ls hl hf hS)
  | bipush n =>
    simp only [decide_eq_true_eq] at hlen; subst hlen; cases h
    exact fun hc hs H locs ls hl hf hS => lv_bipush hx hb hd rfl (g hc hs H locs ls hl hf hS)
  | sipush n =>
    simp only [decide_eq_true_eq] at hlen; subst hlen; cases h
    exact fun hc hs H locs ls hl hf hS => lv_sipush hx hb hd rfl (g hc hs H locs ls hl hf hS)
  | lconst n =>
    simp only [decide_eq_true_eq] at hlen; subst hlen; cases h
    exact fun hc hs H locs ls hl hf hS => lv_lconst hx hb hd rfl (g hc hs H locs ls hl hf hS)
  | dconst n =>
    simp only [decide_eq_true_eq] at hlen; subst hlen
    simp only [okW, Bool.or_eq_true, decide_eq_true_eq] at hw
    unfold stepI at h
    rcases hw with rfl | rfl
    · cases h
      exact fun hc hs H locs ls hl hf hS => lv_dconst0 hx hb hd (g hc hs H locs ls hl hf hS)
    · cases h
      exact fun hc hs H locs ls hl hf hS => lv_dconst1 hx hb hd (g hc hs H locs ls hl hf hS)
  | ldc2_w idx =>
    simp only [decide_eq_true_eq] at hlen; subst hlen
    unfold stepI at h
    unfold okW at hw
    by_cases ha : a = 0
    · simp only [ha, if_true, decide_eq_true_eq] at h hw
      cases h
      exact fun hc hs H locs ls hl hf hS => lv_ldc2 hx hb hown (hts _ (lnk_in hw)) hd (g hc hs H locs ls hl hf hS)
    · simp only [ha, if_false, decide_eq_true_eq] at h hw
      cases h
      exact fun hc hs H locs ls hl hf hS => lv_ldc2d hx hb hown (hts _ (lnk_in hw)) hd (g hc hs H locs ls hl hf hS)
  | iload k =>
    simp only [decide_eq_true_eq] at hlen; subst hlen
    exact so_ld pI_u (fun v ls H locs cells slots rest hp hlk kk => by obtain ⟨x, rfl⟩ := pI_is hp; exact lv_iload hx hb hd hlk kk) h g
  | iload_n k =>
    simp only [decide_eq_true_eq] at hlen; subst hlen
    exact so_ld pI_u (fun v ls H locs cells slots rest hp hlk kk => by obtain ⟨x, rfl⟩ := pI_is hp; exact lv_iload_n hx hb hd rfl hlk kk) h g
  | lload k =>
    simp only [decide_eq_true_eq] at hlen; subst hlen
    exact so_ld pL_u (fun v ls H locs cells slots rest hp hlk kk => by obtain ⟨x, rfl⟩ := pL_is hp; exact lv_lload hx hb hd hlk kk) h g
  | lload_n k =>
    simp only [decide_eq_true_eq] at hlen; subst hlen
    exact so_ld pL_u (fun v ls H locs cells slots rest hp hlk kk => by obtain ⟨x, rfl⟩ := pL_is hp; exact lv_lload_n hx hb hd rfl hlk kk) h g
  | dload k =>
    simp only [decide_eq_true_eq] at hlen; subst hlen
    exact so_ld pD_u (fun v ls H locs cells slots rest hp hlk kk => by obtain ⟨x, rfl⟩ := pD_is hp; exact lv_dload hx hb hd hlk kk) h g
  | dload_n k =>
    simp only [decide_eq_true_eq] at hlen; subst hlen
    exact so_ld pD_u (fun v ls H locs cells slots rest hp hlk kk => by obtain ⟨x, rfl⟩ := pD_is hp; exact lv_dload_n hx hb hd rfl hlk kk) h g
  | aload k =>
    simp only [decide_eq_true_eq] at hlen; subst hlen
    exact so_ld pR_u (fun v ls H locs cells slots rest hp hlk kk => by obtain ⟨x, rfl⟩ := pR_is hp; exact lv_aload hx hb hd hlk kk) h g
  | aload_n k =>
    simp only [decide_eq_true_eq] at hlen; subst hlen
    exact so_ld pR_u (fun v ls H locs cells slots rest hp hlk kk => by obtain ⟨x, rfl⟩ := pR_is hp; exact lv_aload_n hx hb hd rfl hlk kk) h g
  | istore k =>
    simp only [decide_eq_true_eq] at hlen; subst hlen
    exact so_st1 pI_c (fun v ls L H locs cells slots rest hp hL hkn kk => by obtain ⟨x, rfl⟩ := pI_is hp; exact lv_istore hx hb hd hL hkn rfl kk) h g
  | istore_n k =>
    simp only [decide_eq_true_eq] at hlen; subst hlen
    exact so_st1 pI_c (fun v ls L H locs cells slots rest hp hL hkn kk => by obtain ⟨x, rfl⟩ := pI_is hp; exact lv_istore_n hx hb hd rfl hL hkn rfl kk) h g
  | astore k =>
    simp only [decide_eq_true_eq] at hlen; subst hlen
    exact so_st1 pR_c (fun v ls L H locs cells slots rest hp hL hkn kk => by obtain ⟨x, rfl⟩ := pR_is hp; exact lv_astore hx hb hd hL hkn rfl kk) h g
  | astore_n k =>
    simp only [decide_eq_true_eq] at hlen; subst hlen
    exact so_st1 pR_c (fun v ls L H locs cells slots rest hp hL hkn kk => by obtain ⟨x, rfl⟩ := pR_is hp; exact lv_astore_n hx hb hd rfl hL hkn rfl kk) h g
  | lstore k =>
    simp only [decide_eq_true_eq] at hlen; subst hlen
    exact so_st2 pL_c (fun v ls L H locs cells slots rest hp hL hkn kk => by obtain ⟨x, rfl⟩ := pL_is hp; exact lv_lstore hx hb hd hL hkn rfl kk) h g
  | lstore_n k =>
    simp only [decide_eq_true_eq] at hlen; subst hlen
    exact so_st2 pL_c (fun v ls L H locs cells slots rest hp hL hkn kk => by obtain ⟨x, rfl⟩ := pL_is hp; exact lv_lstore_n hx hb hd rfl hL hkn rfl kk) h g
  | dstore k =>
    simp only [decide_eq_true_eq] at hlen; subst hlen
    exact so_st2 pD_c (fun v ls L H locs cells slots rest hp hL hkn kk => by obtain ⟨x, rfl⟩ := pD_is hp; exact lv_dstore hx hb hd hL hkn rfl kk) h g
  | dstore_n k =>
    simp only [decide_eq_true_eq] at hlen; subst hlen
    exact so_st2 pD_c (fun v ls L H locs cells slots rest hp hL hkn kk => by obtain ⟨x, rfl⟩ := pD_is hp; exact lv_dstore_n hx hb hd rfl hL hkn rfl kk) h g
  | iinc k n =>
    simp only [decide_eq_true_eq] at hlen; subst hlen
    unfold stepI at h
    simp only at h
    split at h
    · rename_i x hv
      by_cases ho : okSt lv k = true
      · rw [if_pos ho] at h
        cases h
        intro hc hs H locs ls hl hf hS
        have hm : (k, sh K (.inl x)) ∈ toL K lv := mem_toL.mpr ⟨_, hv, (fun q => by cases q), rfl⟩
        obtain ⟨q0, hq0⟩ := List.getElem?_of_mem hm
        have hkl := (List.getElem?_eq_some_iff.mp hv).1
        exact lv_iinc hx hb hd hl.2 hq0 rfl (by rw [← hl.1]; exact hkl) rfl fun ls' hl' => g hc hs H locs ls' (lr_set1 (v := vI (x + Int32.ofInt n)) hl.1 ho hl') hf hS
      · rw [if_neg ho] at h; cases h
    · cases h
  | iadd => simp only [decide_eq_true_eq] at hlen; subst hlen; exact so_bi (fun x y ls H locs cells slots rest kk => lv_iadd hx hb hd kk) h g
  | isub => simp only [decide_eq_true_eq] at hlen; subst hlen; exact so_bi (fun x y ls H locs cells slots rest kk => lv_isub hx hb hd kk) h g
  | imul => simp only [decide_eq_true_eq] at hlen; subst hlen; exact so_bi (fun x y ls H locs cells slots rest kk => lv_imul hx hb hd kk) h g
  | iand => simp only [decide_eq_true_eq] at hlen; subst hlen; exact so_bi (fun x y ls H locs cells slots rest kk => lv_iand hx hb hd kk) h g
  | idiv => simp only [decide_eq_true_eq] at hlen; subst hlen; exact so_bi0 (fun x y ls H locs cells slots rest hy kk => lv_idiv hx hb hd hy kk) h g
  | irem => simp only [decide_eq_true_eq] at hlen; subst hlen; exact so_bi0 (fun x y ls H locs cells slots rest hy kk => lv_irem hx hb hd hy kk) h g
  | ladd => simp only [decide_eq_true_eq] at hlen; subst hlen; exact so_bl (fun x y ls H locs cells slots rest kk => lv_ladd hx hb hd kk) h g
  | lsub => simp only [decide_eq_true_eq] at hlen; subst hlen; exact so_bl (fun x y ls H locs cells slots rest kk => lv_lsub hx hb hd kk) h g
  | lmul => simp only [decide_eq_true_eq] at hlen; subst hlen; exact so_bl (fun x y ls H locs cells slots rest kk => lv_lmul hx hb hd kk) h g
  | dmul => simp only [decide_eq_true_eq] at hlen; subst hlen; exact so_bd (fun x y ls H locs cells slots rest hy kk => lv_dmul hx hb hd hy kk) h g
  | ddiv => simp only [decide_eq_true_eq] at hlen; subst hlen; exact so_bd (fun x y ls H locs cells slots rest hy kk => lv_ddiv hx hb hd hy kk) h g
  | dsub => simp only [decide_eq_true_eq] at hlen; subst hlen; exact so_bd (fun x y ls H locs cells slots rest hy kk => lv_dsub hx hb hd hy kk) h g
  | lshl =>
    simp only [decide_eq_true_eq] at hlen; subst hlen
    unfold stepI at h; simp only at h
    split at h
    · cases h; exact fun hc hs H locs ls hl hf hS => lv_lshl hx hb hd rfl (g hc hs H locs ls hl hf hS)
    · cases h
  | lcmp =>
    simp only [decide_eq_true_eq] at hlen; subst hlen
    unfold stepI at h; simp only at h
    split at h
    · cases h; exact fun hc hs H locs ls hl hf hS => W.lcmp hx hb hd (g hc hs H locs ls hl hf hS)
    · cases h
  | i2l =>
    simp only [decide_eq_true_eq] at hlen; subst hlen
    unfold stepI at h; simp only at h
    split at h
    · cases h; exact fun hc hs H locs ls hl hf hS => lv_i2l hx hb hd rfl (g hc hs H locs ls hl hf hS)
    · cases h
  | i2d =>
    simp only [decide_eq_true_eq] at hlen; subst hlen
    unfold stepI at h; simp only at h
    split at h
    · cases h; exact fun hc hs H locs ls hl hf hS => lv_i2d hx hb hd (g hc hs H locs ls hl hf hS)
    · cases h
  | d2l =>
    simp only [decide_eq_true_eq] at hlen; subst hlen
    unfold stepI at h; simp only at h
    split at h
    · cases h; exact fun hc hs H locs ls hl hf hS => lv_d2l hx hb hd (g hc hs H locs ls hl hf hS)
    · cases h
  | dcmp op =>
    simp only [decide_eq_true_eq] at hlen; subst hlen
    unfold stepI at h; simp only at h
    split at h
    · cases h; exact fun hc hs H locs ls hl hf hS => lv_dcmp hx hb hd (g hc hs H locs ls hl hf hS)
    · cases h
  | dup =>
    simp only [decide_eq_true_eq] at hlen; subst hlen
    unfold stepI at h; simp only at h
    split at h
    · split at h
      · rename_i hv
        cases h; exact fun hc hs H locs ls hl hf hS => lv_dup hx hb hd (by rw [sh_cat]; exact hv) (g hc hs H locs ls hl hf hS)
      · cases h
    · cases h
  | dup2 =>
    simp only [decide_eq_true_eq] at hlen; subst hlen
    unfold stepI at h; simp only at h
    split at h
    · split at h
      · rename_i hv
        simp only [Bool.and_eq_true, decide_eq_true_eq] at hv
        cases h; exact fun hc hs H locs ls hl hf hS => lv_dup2_11 hx hb hd (by rw [sh_cat]; exact hv.1) (by rw [sh_cat]; exact hv.2) (g hc hs H locs ls hl hf hS)
      · cases h
    · cases h
  | pop =>
    simp only [decide_eq_true_eq] at hlen; subst hlen
    unfold stepI at h; simp only at h
    split at h
    · split at h
      · rename_i hv
        cases h; exact fun hc hs H locs ls hl hf hS => lv_pop hx hb hd (by rw [sh_cat]; exact hv) (g hc hs H locs ls hl hf hS)
      · cases h
    · cases h
  | ifCond q o =>
    simp only [decide_eq_true_eq] at hlen; subst hlen
    cases q with
    | eq => exact so_cm0 (fun x ls H locs cells slots rest ht kt kf => lv_if_eq hx hb hd ht (fun q => kt (decide_eq_true q)) (fun q => kf (decide_eq_false q))) h g
    | ne => exact so_cm0 (fun x ls H locs cells slots rest ht kt kf => lv_if_ne hx hb hd ht (fun q => kt (decide_eq_true q)) (fun q => kf (decide_eq_false (fun n => n q)))) h g
    | lt => exact so_cm0 (fun x ls H locs cells slots rest ht kt kf => lv_if_lt hx hb hd ht (fun q => kt (decide_eq_true q)) (fun q => kf (decide_eq_false q))) h g
    | ge => exact so_cm0 (fun x ls H locs cells slots rest ht kt kf => lv_if_ge hx hb hd ht (fun q => kt (decide_eq_true q)) (fun q => kf (decide_eq_false q))) h g
    | gt => exact so_cm0 (fun x ls H locs cells slots rest ht kt kf => lv_if_gt hx hb hd ht (fun q => kt (decide_eq_true q)) (fun q => kf (decide_eq_false q))) h g
    | le => exact so_cm0 (fun x ls H locs cells slots rest ht kt kf => lv_if_le hx hb hd ht (fun q => kt (decide_eq_true q)) (fun q => kf (decide_eq_false q))) h g
  | if_icmp q o =>
    simp only [decide_eq_true_eq] at hlen; subst hlen
    cases q with
    | eq => exact so_cmp (fun x y ls H locs cells slots rest ht kt kf => lv_icmp_eq hx hb hd ht (fun q => kt (decide_eq_true q)) (fun q => kf (decide_eq_false q))) h g
    | ne => exact so_cmp (fun x y ls H locs cells slots rest ht kt kf => lv_icmp_ne hx hb hd ht (fun q => kt (decide_eq_true q)) (fun q => kf (decide_eq_false (fun n => n q)))) h g
    | lt => exact so_cmp (fun x y ls H locs cells slots rest ht kt kf => lv_icmp_lt hx hb hd ht (fun q => kt (decide_eq_true q)) (fun q => kf (decide_eq_false q))) h g
    | ge => exact so_cmp (fun x y ls H locs cells slots rest ht kt kf => lv_icmp_ge hx hb hd ht (fun q => kt (decide_eq_true q)) (fun q => kf (decide_eq_false q))) h g
    | gt => exact so_cmp (fun x y ls H locs cells slots rest ht kt kf => lv_icmp_gt hx hb hd ht (fun q => kt (decide_eq_true q)) (fun q => kf (decide_eq_false q))) h g
    | le => exact so_cmp (fun x y ls H locs cells slots rest ht kt kf => lv_icmp_le hx hb hd ht (fun q => kt (decide_eq_true q)) (fun q => kf (decide_eq_false q))) h g
  | goto o =>
    simp only [decide_eq_true_eq] at hlen; subst hlen
    unfold stepI at h; simp only at h
    split at h
    · rename_i ht
      cases h; exact fun hc hs H locs ls hl hf hS => lv_goto hx hb hd (tgt_eq ht) (g hc hs H locs ls hl hf hS)
    · cases h
  | tableswitch d lo hi offs =>
    unfold stepI at h; simp only at h
    split at h
    · rename_i x st'
      split at h
      · rename_i hout
        split at h
        · rename_i ht
          cases h; exact fun hc hs H locs ls hl hf hS => lv_tableOut hx hb hd hout (tgt_eq ht) (g hc hs H locs ls hl hf hS)
        · cases h
      · rename_i hout
        split at h
        · rename_i o ho
          split at h
          · rename_i ht
            cases h; exact fun hc hs H locs ls hl hf hS => lv_tableIn hx hb hd (fun q => hout (Or.inl q)) (fun q => hout (Or.inr q)) ho (tgt_eq ht) (g hc hs H locs ls hl hf hS)
          · cases h
        · cases h
    · cases h
  | lookupswitch d ps =>
    unfold stepI at h; simp only at h
    split at h
    · split at h
      · rename_i ht
        cases h
        have hw' : (ps.toList.zip (ps.toList.drop 1)).all (fun (a, next) => a.1 < next.1) = true := hw
        exact fun hc hs H locs ls hl hf hS => lv_lookup hx hb hd hw' rfl (tgt_eq ht) (g hc hs H locs ls hl hf hS)
      · cases h
    · cases h
  | getfield idx =>
    simp only [decide_eq_true_eq] at hlen; subst hlen
    simp only [okW, Bool.and_eq_true, decide_eq_true_eq] at hw
    exact so_get C hw.1.1.1 hw.1.1.2 hw.1.2 (lnk_in hw.2) hd h g
  | putfield idx =>
    simp only [decide_eq_true_eq] at hlen; subst hlen
    simp only [okW, Bool.and_eq_true, Bool.or_eq_true, decide_eq_true_eq] at hw
    exact so_put C hw.1.1.1.1 hw.1.1.1.2 hw.1.1.2 (lnk_in hw.1.2) hd hw.2 h g
  | getstatic idx =>
    simp only [decide_eq_true_eq] at hlen; subst hlen
    unfold okW at hw
    simp only [Bool.and_eq_true, decide_eq_true_eq] at hw
    obtain ⟨⟨h1, h2⟩, h3⟩ := hw
    cases h
    intro hc hs H locs ls hl hf hS
    have fin := g hc hs H locs ls hl hf hS
    have had : sh K (vR a 0) = .ref (K.2.2.2.2.2.1 a) := by
      show Value.ref (ad K a 0) = _
      unfold ad
      rw [if_neg (by omega), if_pos h1]
    have fin : W p l e R s m args below meth c H locs (G.2.2.2.2.1 - c0) (G.2.2.2.2.2.1 - s0) Q (F0 m (pc + 3) ls (sh K (vR a 0) :: st.map (sh K))) := fin
    rw [had] at fin
    by_cases hcc : cc = 0
    · rw [if_pos hcc, decide_eq_true_eq] at h3
      exact va_gets hx hb (hV.2.2.2.2.2.1 a h1 h2).1 hS hown (hts _ (lnk_in h3)) (fun _ q => q) hd fin
    · rw [if_neg hcc] at h3
      simp only [Bool.and_eq_true, decide_eq_true_eq] at h3
      obtain ⟨h4, h5⟩ := h3
      subst h4
      exact va_getsN hx hb (hV.2.2.2.2.2.1 32 h1 h2).1 hS hown (va_Nw.use rfl (hV.2.2.2.2.2.2.2.2.1 _ h5)) (fun _ q => q) hd fin
  | iaload => simp only [decide_eq_true_eq] at hlen; subst hlen; exact so_ald C (Or.inl ⟨rfl, hd⟩) h g
  | baload => simp only [decide_eq_true_eq] at hlen; subst hlen; exact so_ald C (Or.inr (Or.inl ⟨rfl, hd⟩)) h g
  | laload => simp only [decide_eq_true_eq] at hlen; subst hlen; exact so_ald C (Or.inr (Or.inr ⟨rfl, hd⟩)) h g
  | aaload => simp only [decide_eq_true_eq] at hlen; subst hlen; exact so_aald C hd h g
  | iastore => simp only [decide_eq_true_eq] at hlen; subst hlen; exact so_ast C (Or.inl ⟨rfl, hd⟩) h g
  | bastore => simp only [decide_eq_true_eq] at hlen; subst hlen; exact so_ast C (Or.inr (Or.inl ⟨rfl, hd⟩)) h g
  | lastore => simp only [decide_eq_true_eq] at hlen; subst hlen; exact so_ast C (Or.inr (Or.inr ⟨rfl, hd⟩)) h g
  | aastore => simp only [decide_eq_true_eq] at hlen; subst hlen; exact so_aast C hd h g
  | arraylength => simp only [decide_eq_true_eq] at hlen; subst hlen; exact so_len C hd h g
  | new idx =>
    simp only [decide_eq_true_eq] at hlen; subst hlen
    unfold okW at hw
    by_cases ha : 100 ≤ a
    · exfalso
      unfold stepI o_new at h
      simp only [ha, if_true] at h
      split at h <;> cases h
    · simp only [ha, if_false, Bool.and_eq_true, decide_eq_true_eq] at hw
      exact so_new C hw.1.1 hw.1.2 (lnk_in hw.2) hd h hbud g
  | newarray t =>
    simp only [decide_eq_true_eq] at hlen; subst hlen
    simp only [okW, decide_eq_true_eq] at hw
    exact so_newa C (Or.inl ⟨t, rfl, rfl, hw⟩) hd h hbud g
  | anewarray idx =>
    simp only [decide_eq_true_eq] at hlen; subst hlen
    simp only [okW, Bool.and_eq_true, decide_eq_true_eq] at hw
    exact so_newa C (Or.inr ⟨idx, (kA a).1 - 3, rfl, rfl, by omega, by omega, lnk_in hw.2⟩) hd h hbud g
  | invokevirtual idx =>
    exfalso
    unfold stepI o_callV at h; simp only at h
    split at h
    · split at h <;> cases h
    · cases h
  | invokestatic idx =>
    simp only [decide_eq_true_eq] at hlen; subst hlen
    unfold stepI at h; unfold okW at hw
    simp only at h hw
    by_cases h6 : cc = 6
    · simp only [h6, if_true, Bool.and_eq_true, decide_eq_true_eq] at h hw
      split at h
      · split at h
        · rename_i x st' hct
          cases h
          intro hc hs H locs ls hl hf hS
          have fin := g hc hs H locs ls hl hf hS
          have hr : 1 ≤ R.frames ∧ 21 ≤ R.locals := ⟨Nat.le_trans hw.2 C.2.2.2.2.2.2.1, by have := C.2.2.2.2.2.2.2.1; omega⟩
          have hst := ct_le (K := K) hct
          exact va_mmin hx hb (by rw [C.2.2.1, hl.2.1]) hown (hts _ (lnk_in hw.1)) (hts _ (jw_in (by simp))) (hts _ (jw_in (by simp))) (hts _ (jw_in (by simp))) hr.1 (by omega) hbud.1 hbud.2 hd fin
        · cases h
      · cases h
    · simp only [h6, if_false] at h hw
      by_cases h7 : cc = 7
      · simp only [h7, if_true, Bool.and_eq_true, decide_eq_true_eq] at h hw
        split at h
        · split at h
          · rename_i x st' hct
            cases h
            intro hc hs H locs ls hl hf hS
            have fin := g hc hs H locs ls hl hf hS
            have hr : 1 ≤ R.frames ∧ 23 ≤ R.locals := ⟨Nat.le_trans hw.2 C.2.2.2.2.2.2.1, by have := C.2.2.2.2.2.2.2.1; omega⟩
            have hst := ct_le (K := K) hct
            exact vn_d2l hx hb (by rw [C.2.2.1, hl.2.1]) hown (hts _ (lnk_in hw.1)) (hts _ (jw_in (by simp))) (hts _ (jw_in (by simp))) (hts _ (jw_in (by simp))) hr.1 (by omega) hd fin
          · cases h
        · cases h
      · exfalso
        simp only [h7, if_false] at h
        unfold o_callS at h
        split at h <;> cases h
  | invokespecial idx =>
    simp only [decide_eq_true_eq] at hlen; subst hlen
    unfold stepI at h; unfold okW at hw
    simp only at h hw
    by_cases h8 : cc = 8
    · simp only [h8, if_true, Bool.and_eq_true, decide_eq_true_eq] at h hw
      split at h
      · split at h
        · rename_i st' hct
          cases h
          intro hc hs H locs ls hl hf hS
          have fin := g hc hs H locs ls hl hf hS
          have hr : 1 ≤ R.frames ∧ 20 ≤ R.locals := ⟨Nat.le_trans hw.2 C.2.2.2.2.2.2.1, by have := C.2.2.2.2.2.2.2.1; omega⟩
          have hst := ct_le (K := K) hct
          exact W.objInit hx hb hown (hts _ (lnk_in hw.1)) (hts _ (jw_in (by simp))) (hts _ (jw_in (by simp))) rfl (by rw [C.2.2.1]; exact hl.2.1) rfl hd hr.1 (by show 2 * 0 + _ + 12 ≤ _; omega) fin
        · cases h
      · cases h
    · exfalso
      simp only [h8, if_false] at h
      split at h
      · cases h
      · unfold o_callR at h
        split at h
        · split at h <;> cases h
        · cases h
  | ireturn => exfalso; unfold stepI o_ret at h; simp only at h; split at h <;> first | (split at h <;> cases h) | cases h
  | lreturn => exfalso; unfold stepI o_ret at h; simp only at h; split at h <;> first | (split at h <;> cases h) | cases h
  | dreturn => exfalso; unfold stepI o_ret at h; simp only at h; split at h <;> first | (split at h <;> cases h) | cases h
  | return_ => exfalso; unfold stepI at h; simp only at h; split at h <;> cases h
  | _ => exact absurd h (by simp [stepI])
end
