/-! THE SMALL MACHINE'S WORLD IN THE BIG ONE'S HEAP -/
/-- where our cells begin, the script's cell, the script, class numbers and slots, the classes of rows by what they hold, the cells of the static rows, of the texts -/
abbrev KE : Type := Nat × Nat × XS × va_G × (Nat → ClassId) × (Nat → Nat) × (Nat → Nat)
def kO (K : KE) : Nat → Prop := fun q => K.1 ≤ q
def ad (K : KE) (k i : Nat) : Nat := if k = 31 then K.2.1 else if 32 ≤ k then K.2.2.2.2.2.1 k else K.1 + off k i
def sh (K : KE) (v : AV) : Value := match v with
  | .inl x => .int x
  | .inr (.inl x) => .long x
  | .inr (.inr (.inl x)) => .double x
  | .inr (.inr (.inr (.inl q))) => .ref (ad K q.1 q.2)
  | .inr (.inr (.inr (.inr _))) => .null
theorem sh_cat (K : KE) (v : AV) : (sh K v).category = cat v := by
  rcases v with x | x | x | q | u <;> rfl
def sv (K : KE) (G : GG) (k i s t : Nat) : Value := match t with
  | 0 => .int (G.1 k i s)
  | 1 => .int (G.1 k i s)
  | 2 => .long (G.2.2.1 k i s)
  | t + 3 => va_rf ((G.2.1 k i s).map (ad K t))
def flds (K : KE) (G : GG) (k i : Nat) : List Value := (List.range (kN k)).map fun s => sv K G k i s ((kS k).getD s 0)
def enc (K : KE) (G : GG) (k i : Nat) : va_E := if k < 8 then .inr (k, flds K G k i) else match (kA k).1 with
  | 0 => .inl (K.2.2.2.2.1 0, (kA k).2, .inl (G.1 k i))
  | 1 => .inl (K.2.2.2.2.1 1, (kA k).2, .inl (G.1 k i))
  | 2 => .inl (K.2.2.2.2.1 2, (kA k).2, .inr (.inl (G.2.2.1 k i)))
  | t + 3 => .inl (K.2.2.2.2.1 (t + 3), (kA k).2, .inr (.inr (.inr (.inr fun j => (G.2.1 k i j).map (ad K t)))))
def wl (K : KE) (G : GG) (ks : List (Nat × Nat)) : va_W := ks.map fun q => (ad K q.1 q.2, enc K G q.1 q.2)
def tysL (K : KE) : List (ClassId × FieldType) := [(K.2.2.2.2.1 0, .int), (K.2.2.2.2.1 1, .boolean), (K.2.2.2.2.1 2, .long), (K.2.2.2.2.1 3, .object (kC 0)), (K.2.2.2.2.1 5, .object (kC 2)), (K.2.2.2.2.1 8, .object (kC 5))]
theorem tys_ref (K : KE) {k t : Nat} (h : (kA k).1 = t + 3) (ht : t < 8) : ∃ j : Nat, (tysL K)[j]? = some (K.2.2.2.2.1 (t + 3), .object (kC t)) := by
  unfold kA at h
  split at h <;> first
    | (exfalso; simp at h; done)
    | (exfalso; simp at h; omega)
    | (have h3 : t = 0 := by simpa using h.symm
       subst h3; exact ⟨3, rfl⟩)
    | (have h3 : t = 2 := by simp at h; omega
       subst h3; exact ⟨4, rfl⟩)
    | (have h3 : t = 5 := by simp at h; omega
       subst h3; exact ⟨5, rfl⟩)
/-- the heap holds the world -/
def HF (K : KE) (G : GG) (H : Heap) : Prop := ∃ ks : List (Nat × Nat), (∀ q, q ∈ ks ↔ q.1 < 31 ∧ q.2 < G.2.2.2.1 q.1) ∧ va_P K.2.2.2.1 classes (wl K G ks) H ∧ va_D (kO K) (wl K G ks) ∧ (G.2.2.2.2.2.2 = true → H.size = K.1 + G.2.2.2.2.1) ∧ K.1 ≤ H.size
/-- what holds of the machine, in a method that begins in s -/
def VF (K : KE) (s : State) : Prop := va_K K.2.2.2.1 classes (tysL K) s ∧ va_X K.2.1 K.2.2.1.1 K.2.2.1.2 s s.heap ∧ K.2.1 < s.heap.size ∧ K.2.1 < K.1 ∧ K.1 ≤ s.heap.size ∧
  (∀ k, 32 ≤ k → k < 35 → va_Z "FountainPark" (sNm k) "[I" (.ref (K.2.2.2.2.2.1 k)) (kO K) s s.heap ∧ va_T .int (K.2.2.2.2.2.1 k) 5 (fun j => .int ((stat3 k).getD j 0)) (kO K) s s.heap) ∧
  vx_Zq Bundle.tN "UNASSIGNED_STACK" Bundle.steD (kO K) s s.heap ∧ vx_Zq Bundle.tN "SUPPRESSED_SENTINEL" Bundle.listD (kO K) s s.heap ∧
  (∀ w ∈ NG, va_Nw w s) ∧ (∀ t, t = 0 ∨ t = 2 ∨ t = 5 → va_AO (kC t) s) ∧ (∀ a b, a < 3 → b < 3 → a ≠ b → va_Nc (exNm a) (exNm b) s) ∧ ∀ q ∈ strs, vk_R "FountainPark" q.1 q.2.1 (K.2.2.2.2.2.2 q.1) s
theorem ng_warm {s U : State} (hW : s.WarmedH U.vm) (h : ∀ w ∈ NG, va_Nw w s) : ∀ w ∈ NG, va_Nw w U := by
  intro w hw
  have h0 := h w hw
  simp only [NG, List.mem_cons, List.not_mem_nil, or_false] at hw
  rcases hw with rfl | rfl | rfl | rfl | rfl | rfl | rfl | rfl | rfl | rfl | rfl | rfl
  · exact va_Nw.warmM hW h0
  · exact va_Nw.warmM hW h0
  · exact va_Nw.warmM hW h0
  · exact va_Nw.warmM hW h0
  · exact va_Nw.warmM hW h0
  · exact va_Nw.warmF hW h0
  · exact va_Nw.warmD hW h0
  · exact va_Nw.warmD hW h0
  · exact va_Nw.warmD hW h0
  · exact va_Nw.warmC hW h0
  · exact va_Nw.warmC hW h0
  · exact va_Nw.warmC hW h0
theorem VF.move {K : KE} {s U : State} (h : VF K s) (hW : s.WarmedH U.vm) (hz : s.heap.size ≤ U.heap.size) (hk : ∀ q : Nat, q < s.heap.size → ¬ kO K q → U.heap[q]? = s.heap[q]?) : VF K U := by
  obtain ⟨h1, h2, h3, h4, h5, h6, h7, h8, h9, h9b, h10, h11⟩ := h
  have hA := hW.alike
  refine ⟨va_K.moved hA h1, (va_X.moved hA h2).kept (hk _ h3 (Nat.not_le.mpr h4)), Nat.lt_of_lt_of_le h3 hz, h4, Nat.le_trans h5 hz, fun k a b => ⟨va_Z.moved hA ((h6 k a b).1.kept hk), va_T.moved hA ((h6 k a b).2.kept hk)⟩, vx_Zq.moved hA (h7.kept hk), vx_Zq.moved hA (h8.kept hk), ng_warm hW h9, fun t ht => va_AO.moved hA (h9b t ht), fun a b ha hb hab => va_Nc.moved hA (h10 a b ha hb hab), fun q hq => vk_R.warm hW (h11 q hq)⟩
/-- the whole world at a state -/
def WD (K : KE) (G : GG) (U : State) : Prop := VF K U ∧ HF K G U.heap
theorem vf_same {K : KE} {s U : State} (h : VF K s) (hv : U.vm = s.vm) (hh : U.heap = s.heap) : VF K U := h.move (by rw [hv]; exact State.WarmedH.refl s) (by rw [hh]; exact Nat.le_refl _) (fun q _ _ => by rw [hh])
theorem WD.blind {K : KE} {G : GG} {av : List Value} : FrameBlind (va_Pc av (WD K G)) := fun a U g mk q => ⟨q.1, vf_same q.2.1 rfl rfl, q.2.2⟩
/-! worlds, cell by cell -/
theorem wl_get {K : KE} {G : GG} {ks : List (Nat × Nat)} {k i : Nat} (h : (k, i) ∈ ks) : ∃ j : Nat, ks[j]? = some (k, i) ∧ (wl K G ks)[j]? = some (ad K k i, enc K G k i) := by
  obtain ⟨j, hj⟩ := List.getElem?_of_mem h
  exact ⟨j, hj, by simp [wl, hj]⟩
theorem wl_set {K : KE} {G G' : GG} {A : Nat → Prop} {ks : List (Nat × Nat)} {j k i : Nat} {e : va_E} (hD : va_D A (wl K G ks)) (hj : ks[j]? = some (k, i)) (he : enc K G' k i = e) (ho : ∀ k' i', ¬ (k' = k ∧ i' = i) → enc K G' k' i' = enc K G k' i') : (wl K G ks).set j (ad K k i, e) = wl K G' ks := by
  have hjl : (wl K G ks)[j]? = some (ad K k i, enc K G k i) := by simp [wl, hj]
  have hl := (List.getElem?_eq_some_iff.mp hjl).1
  apply List.ext_getElem?
  intro x
  by_cases hx : x = j
  · subst hx
    rw [List.getElem?_set_self hl]
    simp [wl, hj, he]
  · rw [List.getElem?_set_ne (Ne.symm hx)]
    simp only [wl, List.getElem?_map]
    cases hq : ks[x]? with
    | none => rfl
    | some q =>
      simp only [Option.map_some]
      rw [ho q.1 q.2]
      rintro ⟨e1, e2⟩
      have hq2 : ks[x]? = some (k, i) := by rw [hq, ← e1, ← e2]
      have hxl : (wl K G ks)[x]? = some (ad K k i, enc K G k i) := by simp [wl, hq2]
      exact hx (hD.1 x j _ _ hxl hjl rfl)
theorem enc_congr {K : KE} {G G' : GG} {k i : Nat} (h1 : G'.1 k i = G.1 k i) (h2 : G'.2.1 k i = G.2.1 k i) (h3 : G'.2.2.1 k i = G.2.2.1 k i) : enc K G' k i = enc K G k i := by
  simp only [enc, flds, sv, h1, h2, h3]
theorem up3_ne {α : Type} {f : Nat → Nat → Nat → α} {k i s : Nat} {v : α} {k' i' : Nat} (h : ¬ (k' = k ∧ i' = i)) : up3 f k i s v k' i' = f k' i' := by
  funext s'
  unfold up3
  rw [if_neg (fun q => h ⟨q.1, q.2.1⟩)]
theorem up3_at {α : Type} {f : Nat → Nat → Nat → α} {k i s : Nat} {v : α} {s' : Nat} : up3 f k i s v k i s' = if s' = s then v else f k i s' := by
  unfold up3
  by_cases h : s' = s <;> simp [h]
theorem flds_len {K : KE} {G : GG} {k i : Nat} : (flds K G k i).length = kN k := by simp [flds]
theorem flds_at {K : KE} {G : GG} {k i s : Nat} (h : s < kN k) : (flds K G k i)[s]? = some (sv K G k i s ((kS k).getD s 0)) := by
  simp [flds, h]
theorem flds_set {K : KE} {G G' : GG} {k i b : Nat} {w : Value} (hb : b < kN k) (hw : sv K G' k i b ((kS k).getD b 0) = w) (ho : ∀ s, s ≠ b → sv K G' k i s ((kS k).getD s 0) = sv K G k i s ((kS k).getD s 0)) : flds K G' k i = (flds K G k i).set b w := by
  apply List.ext_getElem?
  intro x
  by_cases hx : x = b
  · subst hx
    rw [List.getElem?_set_self (by rw [flds_len]; exact hb), flds_at hb, hw]
  · rw [List.getElem?_set_ne (Ne.symm hx)]
    by_cases hl : x < kN k
    · rw [flds_at hl, flds_at hl, ho x hx]
    · rw [List.getElem?_eq_none (by rw [flds_len]; omega), List.getElem?_eq_none (by rw [flds_len]; omega)]
/-! locals -/
def toL (K : KE) (lv : List AV) : List (Nat × Value) := (List.range lv.length).filterMap fun i => match lv[i]? with
  | some v => if v = vU then none else some (i, sh K v)
  | none => none
theorem mem_toL {K : KE} {lv : List AV} {q : Nat × Value} : q ∈ toL K lv ↔ ∃ v, lv[q.1]? = some v ∧ v ≠ vU ∧ q.2 = sh K v := by
  unfold toL
  rw [List.mem_filterMap]
  constructor
  · rintro ⟨i, -, h⟩
    cases hv : lv[i]? with
    | none => rw [hv] at h; cases h
    | some v =>
      rw [hv] at h
      simp only at h
      by_cases hu : v = vU
      · rw [if_pos hu] at h; cases h
      · rw [if_neg hu] at h
        cases h
        exact ⟨v, hv, hu, rfl⟩
  · rintro ⟨v, hv, hu, hq⟩
    refine ⟨q.1, List.mem_range.mpr (List.getElem?_eq_some_iff.mp hv).1, ?_⟩
    rw [hv]
    simp only
    rw [if_neg hu, ← hq]
def lr (K : KE) (ls : Array Slot) (nL : Nat) (lv : List AV) : Prop := lv.length = nL ∧ lv_has ls nL (toL K lv)
theorem lv_mono {ls : Array Slot} {nL : Nat} {L L' : List (Nat × Value)} (h : lv_has ls nL L) (hs : ∀ q ∈ L', q ∈ L) : lv_has ls nL L' := ⟨h.1, h.2.1, fun q hq => h.2.2 q (hs q hq)⟩
theorem lr_at {K : KE} {ls : Array Slot} {nL k : Nat} {lv : List AV} {v : AV} (h : lr K ls nL lv) (hk : lv[k]? = some v) (hv : v ≠ vU) : ls[k]? = some (.val (sh K v)) := h.2.2.2 (k, sh K v) (mem_toL.mpr ⟨v, hk, hv, rfl⟩)
theorem okSt_prev {lv : List AV} {k : Nat} (h : okSt lv k = true) {i : Nat} (hi : i + 1 = k) {v : AV} (hv : lv[i]? = some v) : cat v = 1 := by
  subst hi
  simp only [okSt, hv] at h
  exact of_decide_eq_true h
theorem lr_set1 {K : KE} {ls' : Array Slot} {nL k : Nat} {lv : List AV} {v : AV} (hl : lv.length = nL) (ho : okSt lv k = true) (h : lv_has ls' nL ((k, sh K v) :: (toL K lv).filter (fun q => !(q.1 == k) && !(q.1 + 1 == k && q.2.category == 2)))) : lr K ls' nL (lv.set k v) := by
  refine ⟨by rw [List.length_set]; exact hl, lv_mono h fun q hq => ?_⟩
  obtain ⟨w, h1, h2, h3⟩ := mem_toL.mp hq
  by_cases hk : q.1 = k
  · rw [hk] at h1
    have hlt : k < lv.length := by
      have := (List.getElem?_eq_some_iff.mp h1).1
      rwa [List.length_set] at this
    rw [List.getElem?_set_self hlt] at h1
    cases h1
    rw [List.mem_cons]
    exact Or.inl (Prod.ext hk h3)
  · rw [List.getElem?_set_ne (Ne.symm hk)] at h1
    refine List.mem_cons_of_mem _ (List.mem_filter.mpr ⟨mem_toL.mpr ⟨w, h1, h2, h3⟩, ?_⟩)
    have h4 : ¬ (q.1 + 1 = k ∧ q.2.category = 2) := by
      rintro ⟨a, b⟩
      rw [h3, sh_cat, okSt_prev ho a h1] at b
      omega
    simp only [Bool.and_eq_true, Bool.not_eq_true', beq_eq_false_iff_ne, ne_eq, Bool.and_eq_false_iff]
    refine ⟨hk, ?_⟩
    by_cases h5 : q.1 + 1 = k
    · exact Or.inr (fun h6 => h4 ⟨h5, h6⟩)
    · exact Or.inl h5
theorem lr_set2 {K : KE} {ls' : Array Slot} {nL k : Nat} {lv : List AV} {v : AV} (hl : lv.length = nL) (ho : okSt lv k = true) (h : lv_has ls' nL ((k, sh K v) :: (toL K lv).filter (fun q => !(q.1 == k) && (!(q.1 == k + 1) && !(q.1 + 1 == k && q.2.category == 2))))) : lr K ls' nL ((lv.set k v).set (k + 1) vU) := by
  refine ⟨by rw [List.length_set, List.length_set]; exact hl, lv_mono h fun q hq => ?_⟩
  obtain ⟨w, h1, h2, h3⟩ := mem_toL.mp hq
  by_cases hk1 : q.1 = k + 1
  · exfalso
    rw [hk1] at h1
    have hlt : k + 1 < (lv.set k v).length := by
      have := (List.getElem?_eq_some_iff.mp h1).1
      rwa [List.length_set] at this
    rw [List.getElem?_set_self hlt] at h1
    exact h2 (Option.some.inj h1).symm
  rw [List.getElem?_set_ne (Ne.symm hk1)] at h1
  by_cases hk : q.1 = k
  · rw [hk] at h1
    have hlt : k < lv.length := by
      have := (List.getElem?_eq_some_iff.mp h1).1
      rwa [List.length_set] at this
    rw [List.getElem?_set_self hlt] at h1
    cases h1
    rw [List.mem_cons]
    exact Or.inl (Prod.ext hk h3)
  · rw [List.getElem?_set_ne (Ne.symm hk)] at h1
    refine List.mem_cons_of_mem _ (List.mem_filter.mpr ⟨mem_toL.mpr ⟨w, h1, h2, h3⟩, ?_⟩)
    have h4 : ¬ (q.1 + 1 = k ∧ q.2.category = 2) := by
      rintro ⟨a, b⟩
      rw [h3, sh_cat, okSt_prev ho a h1] at b
      omega
    simp only [Bool.and_eq_true, Bool.not_eq_true', beq_eq_false_iff_ne, ne_eq, Bool.and_eq_false_iff]
    refine ⟨hk, hk1, ?_⟩
    by_cases h5 : q.1 + 1 = k
    · exact Or.inr (fun h6 => h4 ⟨h5, h6⟩)
    · exact Or.inl h5
theorem set_none {lv : List AV} {k i : Nat} {w : AV} (h : (lv.set k vU)[i]? = some w) (hw : w ≠ vU) : i ≠ k ∧ lv[i]? = some w := by
  by_cases hk : i = k
  · exfalso
    subst hk
    have hlt : i < lv.length := by
      have := (List.getElem?_eq_some_iff.mp h).1
      rwa [List.length_set] at this
    rw [List.getElem?_set_self hlt] at h
    exact hw (Option.some.inj h).symm
  · rw [List.getElem?_set_ne (Ne.symm hk)] at h
    exact ⟨hk, h⟩
theorem kill_at {lv : List AV} {k i : Nat} {w : AV} (h : (kill lv k)[i]? = some w) (hw : w ≠ vU) : i ≠ k ∧ lv[i]? = some w ∧ ¬ (i + 1 = k ∧ cat w = 2) := by
  unfold kill at h
  split at h
  · obtain ⟨a, b⟩ := set_none h hw
    exact ⟨a, b, by omega⟩
  · rename_i k
    split at h
    · rename_i v hv
      split at h
      · obtain ⟨a, b⟩ := set_none h hw
        obtain ⟨a2, b2⟩ := set_none b hw
        exact ⟨a, b2, by omega⟩
      · rename_i hc
        obtain ⟨a, b⟩ := set_none h hw
        refine ⟨a, b, ?_⟩
        rintro ⟨q1, q2⟩
        have : i = k := by omega
        subst this
        rw [hv] at b
        cases b
        exact hc q2
    · rename_i hv
      obtain ⟨a, b⟩ := set_none h hw
      refine ⟨a, b, ?_⟩
      rintro ⟨q1, q2⟩
      have : i = k := by omega
      subst this
      rw [hv] at b
      cases b
theorem kill_len {lv : List AV} {k : Nat} : (kill lv k).length = lv.length := by
  unfold kill
  split
  · simp
  · split
    · split <;> simp
    · simp
theorem lr_kill {K : KE} {ls' : Array Slot} {nL k : Nat} {lv : List AV} {v : Value} (hl : lv.length = nL) (h : lv_has ls' nL ((k, v) :: (toL K lv).filter (fun q => !(q.1 == k) && !(q.1 + 1 == k && q.2.category == 2)))) : lr K ls' nL (kill lv k) := by
  refine ⟨by rw [kill_len]; exact hl, lv_mono h fun q hq => ?_⟩
  obtain ⟨w, h1, h2, h3⟩ := mem_toL.mp hq
  obtain ⟨a, b, d⟩ := kill_at h1 h2
  refine List.mem_cons_of_mem _ (List.mem_filter.mpr ⟨mem_toL.mpr ⟨w, b, h2, h3⟩, ?_⟩)
  have h4 : ¬ (q.1 + 1 = k ∧ q.2.category = 2) := by
    rintro ⟨x, y⟩
    rw [h3, sh_cat] at y
    exact d ⟨x, y⟩
  simp only [Bool.and_eq_true, Bool.not_eq_true', beq_eq_false_iff_ne, ne_eq, Bool.and_eq_false_iff]
  refine ⟨a, ?_⟩
  by_cases h5 : q.1 + 1 = k
  · exact Or.inr (fun h6 => h4 ⟨h5, h6⟩)
  · exact Or.inl h5
