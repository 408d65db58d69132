/-! calls, and the whole walk -/
def mono (G G' : GG) : Prop := G.2.2.2.2.1 ≤ G'.2.2.2.2.1 ∧ G.2.2.2.2.2.1 ≤ G'.2.2.2.2.2.1
theorem mono.rf {G : GG} : mono G G := ⟨Nat.le_refl _, Nat.le_refl _⟩
theorem mono.tr {A B C : GG} (h : mono A B) (k : mono B C) : mono A C := ⟨Nat.le_trans h.1 k.1, Nat.le_trans h.2 k.2⟩
theorem mono_of {G G' : GG} (h : G'.2.2.2 = G.2.2.2) : mono G G' := by unfold mono; rw [h]; exact mono.rf
set_option maxHeartbeats 4000000 in
theorem stepI_mono {X : XS} {Rr : Option FieldType} {i : Instr} {len a b c pc : Nat} {lv st : List AV} {G : GG} {s' : ST} (h : stepI X Rr i len a b c pc lv st G = some (.inl s')) : mono G s'.2.2.2 := by
  unfold stepI at h
  split at h <;> (try unfold o_ld at h) <;> (try unfold o_st at h) <;> (try unfold o_bi at h) <;> (try unfold o_bi0 at h) <;> (try unfold o_bl at h) <;> (try unfold o_bd at h) <;> (try unfold o_cmp at h) <;> (try unfold o_cm0 at h) <;> (try unfold o_get at h) <;> (try unfold o_put at h) <;> (try unfold o_ald at h) <;> (try unfold o_aald at h) <;> (try unfold o_ast at h) <;> (try unfold o_aast at h) <;> (try unfold o_len at h) <;> (try unfold o_new at h) <;> (try unfold o_newa at h) <;> (try unfold o_callV at h) <;> (try unfold o_callS at h) <;> (try unfold o_callR at h) <;> (try unfold o_ret at h) <;> (try unfold o_if at h) <;> (try unfold nx at h)
  all_goals first
    | (cases h; done)
    | (cases h; exact mono.rf)
    | ((repeat' split at h) <;> first
      | (cases h; done)
      | (cases h; exact mono.rf)
      | (cases h; exact mono_of rfl)
      | (cases h; exact ⟨Nat.le_succ _, Nat.le_add_right _ _⟩))
theorem run_mono_cc {X : XS} {call : Nat → List AV → GG → Option RS} {m : Nat} (hc : ∀ y a G r, call y a G = some r → mono G r.2) : ∀ n s r, run X call m n s = some r → mono s.2.2.2 r.2 := by
  intro n
  induction n with
  | zero => intro s r h; simp [run] at h
  | succ n ih =>
    intro s r h
    unfold run at h
    cases hs : step X m s with
    | none => rw [hs] at h; cases h
    | some x =>
      rw [hs] at h
      rcases x with s' | r' | ⟨y, a, lv, st⟩ | E
      · have h1 : mono s.2.2.2 s'.2.2.2 := by
          unfold step at hs
          split at hs
          · exact stepI_mono hs
          · cases hs
        exact h1.tr (ih s' r h)
      · cases h; exact mono.rf
      · simp only at h
        cases hy : call y a s.2.2.2 with
        | none => rw [hy] at h; cases h
        | some z =>
          rw [hy] at h
          have h1 := hc _ _ _ _ hy
          obtain ⟨o, G'⟩ := z
          cases o with
          | inl v => exact h1.tr (ih _ r h)
          | inr E =>
            simp only at h
            split at h
            · exact h1.tr (ih _ r h)
            · cases h; exact h1
      · cases h
        exact ⟨Nat.le_succ _, Nat.le_add_right _ _⟩
theorem ev_mono_cc {X : XS} : ∀ N m a G r, ev X N m a G = some r → mono G r.2 := by
  intro N
  induction N with
  | zero => intro m a G r h; simp [ev] at h
  | succ N ih =>
    intro m a G r h
    unfold ev at h
    split at h
    · exact run_mono_cc ih N _ r h
    · cases h
/-! what the tables give of a method -/
def okC (e : EN) : Bool := match e.2.1 with
  | .invokevirtual _ => match mw[e.2.2.2.1]? with
    | some q => decide (e.2.2.2.1 < 200) && decide (q.2.2.1 ≠ 9999) && decide (q.2.2.2.1 ≠ 9999)
    | none => false
  | .invokestatic _ => if decide (e.2.2.2.2.2.1 = 6) || decide (e.2.2.2.2.2.1 = 7) then true else match mw[e.2.2.2.1]?, mths[e.2.2.2.1]? with
    | some q, some z => decide (e.2.2.2.1 < 200) && decide (q.2.1 ≠ 9999) && (decide (e.2.2.2.2.2.1 ≠ 3) || decide (z.2.2.2.2.1 < 6))
    | _, _ => false
  | .invokespecial _ => if decide (e.2.2.2.2.2.1 = 8) || decide (e.2.2.2.2.2.1 = 99) then true else match mw[e.2.2.2.1]?, mths[e.2.2.2.1]? with
    | some q, some z => decide (e.2.2.2.1 < 200) && decide (q.2.2.1 ≠ 9999) && decide (z.2.2.2.2.1 < 6) && decide (z.2.2.2.1 = none)
    | _, _ => false
  | _ => true
theorem calls_ok : (tabs.all (fun tb => tb.all okC)) = true := by decide +kernel
theorem calls5_ok : ((tabs.take 200).all (fun tb => tb.all (fun e => match e.2.1 with
  | .invokestatic _ => decide (e.2.2.2.2.2.1 ≠ 5)
  | _ => true))) = true := by decide +kernel
theorem len_ok : mths.length = 201 ∧ mw.length = 201 ∧ tabs.length = 201 := by decide +kernel
theorem tk_0 : ∀ m, m < 20 → okT' (0 + m) = true := fun m h => match m, h with
  | 0, _ => tok_0
  | 1, _ => tok_1
  | 2, _ => tok_2
  | 3, _ => tok_3
  | 4, _ => tok_4
  | 5, _ => tok_5
  | 6, _ => tok_6
  | 7, _ => tok_7
  | 8, _ => tok_8
  | 9, _ => tok_9
  | 10, _ => tok_10
  | 11, _ => tok_11
  | 12, _ => tok_12
  | 13, _ => tok_13
  | 14, _ => tok_14
  | 15, _ => tok_15
  | 16, _ => tok_16
  | 17, _ => tok_17
  | 18, _ => tok_18
  | 19, _ => tok_19
  | k + 20, h => absurd h (by omega)
theorem tk_20 : ∀ m, m < 20 → okT' (20 + m) = true := fun m h => match m, h with
  | 0, _ => tok_20
  | 1, _ => tok_21
  | 2, _ => tok_22
  | 3, _ => tok_23
  | 4, _ => tok_24
  | 5, _ => tok_25
  | 6, _ => tok_26
  | 7, _ => tok_27
  | 8, _ => tok_28
  | 9, _ => tok_29
  | 10, _ => tok_30
  | 11, _ => tok_31
  | 12, _ => tok_32
  | 13, _ => tok_33
  | 14, _ => tok_34
  | 15, _ => tok_35
  | 16, _ => tok_36
  | 17, _ => tok_37
  | 18, _ => tok_38
  | 19, _ => tok_39
  | k + 20, h => absurd h (by omega)
theorem tk_40 : ∀ m, m < 20 → okT' (40 + m) = true := fun m h => match m, h with
  | 0, _ => tok_40
  | 1, _ => tok_41
  | 2, _ => tok_42
  | 3, _ => tok_43
  | 4, _ => tok_44
  | 5, _ => tok_45
  | 6, _ => tok_46
  | 7, _ => tok_47
  | 8, _ => tok_48
  | 9, _ => tok_49
  | 10, _ => tok_50
  | 11, _ => tok_51
  | 12, _ => tok_52
  | 13, _ => tok_53
  | 14, _ => tok_54
  | 15, _ => tok_55
  | 16, _ => tok_56
  | 17, _ => tok_57
  | 18, _ => tok_58
  | 19, _ => tok_59
  | k + 20, h => absurd h (by omega)
theorem tk_60 : ∀ m, m < 20 → okT' (60 + m) = true := fun m h => match m, h with
  | 0, _ => tok_60
  | 1, _ => tok_61
  | 2, _ => tok_62
  | 3, _ => tok_63
  | 4, _ => tok_64
  | 5, _ => tok_65
  | 6, _ => tok_66
  | 7, _ => tok_67
  | 8, _ => tok_68
  | 9, _ => tok_69
  | 10, _ => tok_70
  | 11, _ => tok_71
  | 12, _ => tok_72
  | 13, _ => tok_73
  | 14, _ => tok_74
  | 15, _ => tok_75
  | 16, _ => tok_76
  | 17, _ => tok_77
  | 18, _ => tok_78
  | 19, _ => tok_79
  | k + 20, h => absurd h (by omega)
theorem tk_80 : ∀ m, m < 20 → okT' (80 + m) = true := fun m h => match m, h with
  | 0, _ => tok_80
  | 1, _ => tok_81
  | 2, _ => tok_82
  | 3, _ => tok_83
  | 4, _ => tok_84
  | 5, _ => tok_85
  | 6, _ => tok_86
  | 7, _ => tok_87
  | 8, _ => tok_88
  | 9, _ => tok_89
  | 10, _ => tok_90
  | 11, _ => tok_91
  | 12, _ => tok_92
  | 13, _ => tok_93
  | 14, _ => tok_94
  | 15, _ => tok_95
  | 16, _ => tok_96
  | 17, _ => tok_97
  | 18, _ => tok_98
  | 19, _ => tok_99
  | k + 20, h => absurd h (by omega)
theorem tk_100 : ∀ m, m < 20 → okT' (100 + m) = true := fun m h => match m, h with
  | 0, _ => tok_100
  | 1, _ => tok_101
  | 2, _ => tok_102
  | 3, _ => tok_103
  | 4, _ => tok_104
  | 5, _ => tok_105
  | 6, _ => tok_106
  | 7, _ => tok_107
  | 8, _ => tok_108
  | 9, _ => tok_109
  | 10, _ => tok_110
  | 11, _ => tok_111
  | 12, _ => tok_112
  | 13, _ => tok_113
  | 14, _ => tok_114
  | 15, _ => tok_115
  | 16, _ => tok_116
  | 17, _ => tok_117
  | 18, _ => tok_118
  | 19, _ => tok_119
  | k + 20, h => absurd h (by omega)
theorem tk_120 : ∀ m, m < 20 → okT' (120 + m) = true := fun m h => match m, h with
  | 0, _ => tok_120
  | 1, _ => tok_121
  | 2, _ => tok_122
  | 3, _ => tok_123
  | 4, _ => tok_124
  | 5, _ => tok_125
  | 6, _ => tok_126
  | 7, _ => tok_127
  | 8, _ => tok_128
  | 9, _ => tok_129
  | 10, _ => tok_130
  | 11, _ => tok_131
  | 12, _ => tok_132
  | 13, _ => tok_133
  | 14, _ => tok_134
  | 15, _ => tok_135
  | 16, _ => tok_136
  | 17, _ => tok_137
  | 18, _ => tok_138
  | 19, _ => tok_139
  | k + 20, h => absurd h (by omega)
theorem tk_140 : ∀ m, m < 20 → okT' (140 + m) = true := fun m h => match m, h with
  | 0, _ => tok_140
  | 1, _ => tok_141
  | 2, _ => tok_142
  | 3, _ => tok_143
  | 4, _ => tok_144
  | 5, _ => tok_145
  | 6, _ => tok_146
  | 7, _ => tok_147
  | 8, _ => tok_148
  | 9, _ => tok_149
  | 10, _ => tok_150
  | 11, _ => tok_151
  | 12, _ => tok_152
  | 13, _ => tok_153
  | 14, _ => tok_154
  | 15, _ => tok_155
  | 16, _ => tok_156
  | 17, _ => tok_157
  | 18, _ => tok_158
  | 19, _ => tok_159
  | k + 20, h => absurd h (by omega)
theorem tk_160 : ∀ m, m < 20 → okT' (160 + m) = true := fun m h => match m, h with
  | 0, _ => tok_160
  | 1, _ => tok_161
  | 2, _ => tok_162
  | 3, _ => tok_163
  | 4, _ => tok_164
  | 5, _ => tok_165
  | 6, _ => tok_166
  | 7, _ => tok_167
  | 8, _ => tok_168
  | 9, _ => tok_169
  | 10, _ => tok_170
  | 11, _ => tok_171
  | 12, _ => tok_172
  | 13, _ => tok_173
  | 14, _ => tok_174
  | 15, _ => tok_175
  | 16, _ => tok_176
  | 17, _ => tok_177
  | 18, _ => tok_178
  | 19, _ => tok_179
  | k + 20, h => absurd h (by omega)
theorem tk_180 : ∀ m, m < 20 → okT' (180 + m) = true := fun m h => match m, h with
  | 0, _ => tok_180
  | 1, _ => tok_181
  | 2, _ => tok_182
  | 3, _ => tok_183
  | 4, _ => tok_184
  | 5, _ => tok_185
  | 6, _ => tok_186
  | 7, _ => tok_187
  | 8, _ => tok_188
  | 9, _ => tok_189
  | 10, _ => tok_190
  | 11, _ => tok_191
  | 12, _ => tok_192
  | 13, _ => tok_193
  | 14, _ => tok_194
  | 15, _ => tok_195
  | 16, _ => tok_196
  | 17, _ => tok_197
  | 18, _ => tok_198
  | 19, _ => tok_199
  | k + 20, h => absurd h (by omega)
theorem tok_all : ∀ m, m < 200 → okT' m = true := by
  intro m h
  rcases Nat.lt_or_ge m 20 with h1 | h1
  · have := tk_0 (m - 0) (by omega); rwa [show 0 + (m - 0) = m by omega] at this
  rcases Nat.lt_or_ge m 40 with h1 | h1
  · have := tk_20 (m - 20) (by omega); rwa [show 20 + (m - 20) = m by omega] at this
  rcases Nat.lt_or_ge m 60 with h1 | h1
  · have := tk_40 (m - 40) (by omega); rwa [show 40 + (m - 40) = m by omega] at this
  rcases Nat.lt_or_ge m 80 with h1 | h1
  · have := tk_60 (m - 60) (by omega); rwa [show 60 + (m - 60) = m by omega] at this
  rcases Nat.lt_or_ge m 100 with h1 | h1
  · have := tk_80 (m - 80) (by omega); rwa [show 80 + (m - 80) = m by omega] at this
  rcases Nat.lt_or_ge m 120 with h1 | h1
  · have := tk_100 (m - 100) (by omega); rwa [show 100 + (m - 100) = m by omega] at this
  rcases Nat.lt_or_ge m 140 with h1 | h1
  · have := tk_120 (m - 120) (by omega); rwa [show 120 + (m - 120) = m by omega] at this
  rcases Nat.lt_or_ge m 160 with h1 | h1
  · have := tk_140 (m - 140) (by omega); rwa [show 140 + (m - 140) = m by omega] at this
  rcases Nat.lt_or_ge m 180 with h1 | h1
  · have := tk_160 (m - 160) (by omega); rwa [show 160 + (m - 160) = m by omega] at this
  rcases Nat.lt_or_ge m 200 with h1 | h1
  · have := tk_180 (m - 180) (by omega); rwa [show 180 + (m - 180) = m by omega] at this
  · omega
theorem tokL_all : ∀ k, k < 27 → okTc 200 (40 * k) 40 = true := fun k h => match k, h with
  | 0, _ => tokL_0
  | 1, _ => tokL_40
  | 2, _ => tokL_80
  | 3, _ => tokL_120
  | 4, _ => tokL_160
  | 5, _ => tokL_200
  | 6, _ => tokL_240
  | 7, _ => tokL_280
  | 8, _ => tokL_320
  | 9, _ => tokL_360
  | 10, _ => tokL_400
  | 11, _ => tokL_440
  | 12, _ => tokL_480
  | 13, _ => tokL_520
  | 14, _ => tokL_560
  | 15, _ => tokL_600
  | 16, _ => tokL_640
  | 17, _ => tokL_680
  | 18, _ => tokL_720
  | 19, _ => tokL_760
  | 20, _ => tokL_800
  | 21, _ => tokL_840
  | 22, _ => tokL_880
  | 23, _ => tokL_920
  | 24, _ => tokL_960
  | 25, _ => tokL_1000
  | 26, _ => tokL_1040
  | k + 27, h => absurd h (by omega)
theorem mths_all : ∀ k, k < 40 → ((((mths.zip mw).drop (5 * k)).take 5).all (fun q => okMw q.1 q.2)) = true := fun k h => match k, h with
  | 0, _ => mths_ok_0
  | 1, _ => mths_ok_5
  | 2, _ => mths_ok_10
  | 3, _ => mths_ok_15
  | 4, _ => mths_ok_20
  | 5, _ => mths_ok_25
  | 6, _ => mths_ok_30
  | 7, _ => mths_ok_35
  | 8, _ => mths_ok_40
  | 9, _ => mths_ok_45
  | 10, _ => mths_ok_50
  | 11, _ => mths_ok_55
  | 12, _ => mths_ok_60
  | 13, _ => mths_ok_65
  | 14, _ => mths_ok_70
  | 15, _ => mths_ok_75
  | 16, _ => mths_ok_80
  | 17, _ => mths_ok_85
  | 18, _ => mths_ok_90
  | 19, _ => mths_ok_95
  | 20, _ => mths_ok_100
  | 21, _ => mths_ok_105
  | 22, _ => mths_ok_110
  | 23, _ => mths_ok_115
  | 24, _ => mths_ok_120
  | 25, _ => mths_ok_125
  | 26, _ => mths_ok_130
  | 27, _ => mths_ok_135
  | 28, _ => mths_ok_140
  | 29, _ => mths_ok_145
  | 30, _ => mths_ok_150
  | 31, _ => mths_ok_155
  | 32, _ => mths_ok_160
  | 33, _ => mths_ok_165
  | 34, _ => mths_ok_170
  | 35, _ => mths_ok_175
  | 36, _ => mths_ok_180
  | 37, _ => mths_ok_185
  | 38, _ => mths_ok_190
  | 39, _ => mths_ok_195
  | k + 40, h => absurd h (by omega)
theorem ent_tb {m pc : Nat} {en : EN} (h : entry m pc = some en) : ∃ tb, tabs[m]? = some tb ∧ en ∈ tb ∧ en.1 = pc := by
  unfold entry at h
  cases ht : tabs[m]? with
  | none => rw [ht] at h; cases h
  | some tb =>
    rw [ht] at h
    refine ⟨tb, rfl, List.mem_of_find?_eq_some h, ?_⟩
    have := List.find?_some h
    simpa using this
theorem law_tb : ∃ tb, tabs[200]? = some tb ∧ tb.length = 1066 := ⟨_, rfl, by decide +kernel⟩
theorem ent_ok {m pc : Nat} {en : EN} {mi : MI} (hm : mths[m]? = some mi) (h : entry m pc = some en) : okE mi en = true ∧ okC en = true ∧ en.1 = pc := by
  obtain ⟨tb, h1, h2, h3⟩ := ent_tb h
  have hc := List.all_eq_true.mp (List.all_eq_true.mp calls_ok tb (List.mem_of_getElem? h1)) en h2
  have hml : m < 201 := by rw [← len_ok.1]; exact (List.getElem?_eq_some_iff.mp hm).1
  refine ⟨?_, hc, h3⟩
  rcases Nat.lt_or_ge m 200 with q | q
  · have hk := tok_all m q
    unfold okT' at hk
    rw [hm, h1] at hk
    exact List.all_eq_true.mp hk en h2
  · have hm2 : m = 200 := by omega
    subst hm2
    obtain ⟨tb2, l1, l2⟩ := law_tb
    cases h1.symm.trans l1
    obtain ⟨j, hj⟩ := List.getElem?_of_mem h2
    have hjl := (List.getElem?_eq_some_iff.mp hj).1
    have hk := tokL_all (j / 40) (by omega)
    unfold okTc at hk
    rw [hm, h1] at hk
    refine List.all_eq_true.mp hk en (List.mem_of_getElem? (i := j % 40) ?_)
    rw [List.getElem?_take_of_lt (Nat.mod_lt _ (by omega)), List.getElem?_drop, show 40 * (j / 40) + j % 40 = j by omega]
    exact hj
theorem mth_ok {m : Nat} {mi : MI} (hm : mths[m]? = some mi) (hl : m < 200) : ∃ q, mw[m]? = some q ∧ okMw mi q = true := by
  have hq : m < mw.length := by rw [len_ok.2.1]; omega
  refine ⟨mw[m], List.getElem?_eq_getElem hq, ?_⟩
  have hz : (mths.zip mw)[m]? = some (mi, mw[m]) := by
    rw [List.getElem?_zip_eq_some]
    exact ⟨hm, List.getElem?_eq_getElem hq⟩
  have hk := mths_all (m / 5) (by omega)
  exact List.all_eq_true.mp hk (mi, mw[m]) (List.mem_of_getElem? (i := m % 5) (by
    rw [List.getElem?_take_of_lt (Nat.mod_lt _ (by omega)), List.getElem?_drop, show 5 * (m / 5) + m % 5 = m by omega]
    exact hz))
def rmM (mi : MI) (G G' : GG) : Room := { frames := mi.2.2.2.2.1, cells := G'.2.2.2.2.1 - G.2.2.2.2.1, slots := G'.2.2.2.2.2.1 - G.2.2.2.2.2.1, locals := 30 * mi.2.2.2.2.1 }
def QR (K : KE) (r : Option AV) (G' : GG) : Array Value → State → Outcome → State → Prop := fun _ st o t => o = .returned (r.map (sh K)) ∧ HF K G' t.heap ∧ va_F (kO K) st t
def QX (K : KE) (E : Nat) (G' : GG) : String → State → State → Prop := fun C st t => C = exNm E ∧ HF K G' t.heap ∧ va_F (kO K) st t
/-- a method's contract, for what it answers in the small machine -/
def Ctr (K : KE) (l : Launch) (mi : MI) (av : List AV) (G : GG) (o : Option AV ⊕ Nat) (G' : GG) : Prop := match o with
  | .inl r => Met l mi.1 (codeW mi :: GW) (rmM mi G G') (va_Pc (av.map (sh K)) (WD K G)) (QR K r G') (G'.2.2.2.2.1 - G.2.2.2.2.1) (G'.2.2.2.2.2.1 - G.2.2.2.2.2.1) (kO K)
  | .inr E => mi.2.2.2.2.2.2 = false → vx_Met l mi.1 (codeW mi :: GW) (rmM mi G G') (va_Pc (av.map (sh K)) (WD K G)) (fun _ _ _ _ => False) (QX K E G') (G'.2.2.2.2.1 - G.2.2.2.2.1) (G'.2.2.2.2.2.1 - G.2.2.2.2.2.1) (kO K)
section
variable {p : Program} {l : Launch} {e : Env} {R : Room} {s : State} {m : MethodId} {args : Array Value} {below : List Frame} {meth : Method} {c : Code} {Q : State → Prop} {K : KE} {mi : MI} {c0 s0 : Nat} {H : Heap} {locs : List Loc} {cells slots : Nat} {pc : Nat} {ls : Array Slot}
theorem call_ret {mc ms : Nat} {st0 restV : List Value} {r : Option AV} {G' : GG} {av : Array Value} (hr : va_Run p l e R s m args below meth c H locs cells slots mc ms (F0 m pc ls st0) restV (QR K r G' av) (kO K)) (hS : va_S (kO K) s.heap H locs)
    (kk : ∀ (H1 : Heap) (locs1 : List Loc), HF K G' H1 → va_S (kO K) s.heap H1 locs1 → W p l e R s m args below meth c H1 locs1 (cells + mc) (slots + ms) Q (F0 m (pc + 3) ls ((r.map (sh K)).toList ++ restV))) : W p l e R s m args below meth c H locs cells slots Q (F0 m pc ls st0) := by
  intro T hT X
  obtain ⟨v, st₀, t, T', L, h0, X', hL, e1, e2, ⟨hv, hWD, hz, hk⟩, st⟩ := hr T hT X
  cases hv
  rw [h0] at hz hk
  have hS' : va_S (kO K) s.heap T'.heap (locs ++ L) := ⟨Nat.le_trans hS.1 (by rw [e1]; exact hz), fun q h1 h2 => by rw [e1, hk q (Nat.lt_of_lt_of_le h1 hS.1) h2]; exact hS.2.1 q h1 h2, fun q hq => by
    rcases List.mem_append.mp hq with h | h
    · exact hS.2.2 q h
    · exact hL q h⟩
  obtain ⟨t2, a1, b1⟩ := kk T'.heap (locs ++ L) (by rw [e1]; exact hWD) hS' T' rfl X'
  exact ⟨t2, st t2 a1, b1⟩
theorem call_thr {mc ms : Nat} {st0 restV : List Value} {E : Nat} {G' : GG} {av : Array Value} (hr : vx_Run p l e R s m args below meth c H locs cells slots mc ms (F0 m pc ls st0) restV ((fun _ _ _ _ => False : Array Value → State → Outcome → State → Prop) av) (QX K E G') (kO K)) (hS : va_S (kO K) s.heap H locs)
    (kx : ∀ (H1 : Heap) (locs1 : List Loc) (q : Addr) (ce : Cell), HF K G' H1 → va_S (kO K) s.heap H1 locs1 → H1[q]? = some ce → ce.vm = .none → s.vm.findClass (exNm E) = some ce.cls → vx_W p l e R s m args below meth c H1 locs1 (cells + mc) (slots + ms) Q (F0 m pc ls restV) q) : W p l e R s m args below meth c H locs cells slots Q (F0 m pc ls st0) := by
  intro T hT X
  rcases hr T hT X with ⟨v, st₀, t, T', L, h0, X', hL, e1, e2, hF, st⟩ | ⟨q, st₀, t, T', L, C, ce, h0, X', hL, e1, e2, ⟨hC, hWD, hz, hk⟩, hce, hcv, hcl, st⟩
  · exact hF.elim
  · subst hC
    rw [h0] at hz hk
    have hS' : va_S (kO K) s.heap T'.heap (locs ++ L) := ⟨Nat.le_trans hS.1 (by rw [e1]; exact hz), fun q h1 h2 => by rw [e1, hk q (Nat.lt_of_lt_of_le h1 hS.1) h2]; exact hS.2.1 q h1 h2, fun q hq => by
      rcases List.mem_append.mp hq with h | h
      · exact hS.2.2 q h
      · exact hL q h⟩
    obtain ⟨t2, a1, b1⟩ := kx T'.heap (locs ++ L) q ce (by rw [e1]; exact hWD) hS' (by rw [e1]; exact hce) hcv hcl T' rfl X'
    exact ⟨t2, st.trans a1, b1⟩
theorem gw_good {w : Cond} (h : w ∈ GW) : goodWord w = true := (List.mem_filter.mp h).2
theorem code_in {y : Nat} {z : MI} (hz : mths[y]? = some z) (hl : y < 200) : codeW z ∈ GW ∧ Cond.initialized z.1.cls ∈ GW ∧ plainName z.1.cls = true ∧ (z.1.cls ≠ "java/lang/invoke/MethodHandle" ∧ z.1.cls ≠ "java/lang/invoke/VarHandle") ∧ z.2.2.1 ≤ 9 ∧ z.2.2.2.2.1 ≤ 11 := by
  obtain ⟨q, -, h⟩ := mth_ok hz hl
  unfold okMw at h
  simp only [Bool.and_eq_true, decide_eq_true_eq] at h
  obtain ⟨⟨⟨⟨⟨⟨⟨⟨h1, h2⟩, h3⟩, h4⟩, h5⟩, h6⟩, h7⟩, h8⟩, h9⟩ := h
  refine ⟨w_of_gw (List.mem_of_getElem? h5) ?_, w_of_gw (List.mem_of_getElem? h9) rfl, h1, h2, h3, h4⟩
  unfold codeW
  split <;> rfl
theorem good_ws {z : MI} (h : codeW z ∈ GW) : GoodIn GW (codeW z :: GW) := by
  intro w hw
  have h1 : w ∈ GW := by
    rcases List.mem_cons.mp hw with rfl | q
    · exact h
    · exact q
  exact ⟨h1, good_of_word (gw_good h1)⟩
theorem codeW_f {z : MI} (h : z.2.2.2.2.2.2 = false) : codeW z = Cond.code z.1 z.2.1 z.2.2.1 z.2.2.2.1 := by unfold codeW; rw [h]; rfl
theorem codeW_t {z : MI} (h : z.2.2.2.2.2.2 = true) : codeW z = Cond.codeWith z.1 z.2.1 z.2.2.1 z.2.2.2.1 z.2.2.2.2.2.1 := by unfold codeW; rw [h]; rfl
theorem WD_at (hV : VF K s) (hS : va_S (kO K) s.heap H locs) {G : GG} (hf : HF K G H) {U : State} (hU : U.heap = H) (hW : s.WarmedH U.vm) : WD K G U :=
  ⟨hV.move hW (by rw [hU]; exact hS.1) (by rw [hU]; exact hS.2.1), by rw [hU]; exact hf⟩
theorem callB_z {y idx b : Nat} {z : MI} (C : CX p R s m args meth c K mi) (hz : mths[y]? = some z) (hl : y < 200) (hW : z.2.2.2.2.2.2 = false) (hlk : Cond.methodLink mi.1.cls idx z.1 ∈ GW) (hpar : (parseMethodDescriptor z.1.desc).map (fun d => d.parameters.length) = some b) (hdep : z.2.2.2.2.1 < mi.2.2.2.2.1) (G G' : GG) :
    CallB R s args mi.1.cls idx z.1 z.2.1 z.2.2.1 z.2.2.2.1 (codeW z :: GW) (rmM z G G') (G'.2.2.2.2.1 - G.2.2.2.2.1) (G'.2.2.2.2.2.1 - G.2.2.2.2.2.1) b := by
  have h := code_in hz hl
  have hts := C.2.2.2.2.1
  have h7 := C.2.2.2.2.2.2.1
  have h8 := C.2.2.2.2.2.2.2.1
  exact callB_of b hts (good_ws h.1) (by rw [codeW_f hW]) rfl rfl (hts _ h.2.1) (hts _ hlk) ⟨h.2.2.2.1.1, h.2.2.2.1.2, hpar⟩ ⟨by show z.2.2.2.2.1 + 1 ≤ _; omega, by show 8 + (z.2.2.1 + 11) + 30 * z.2.2.2.2.1 ≤ _; have := h.2.2.2.2.1; omega⟩
theorem callN_z {y idx b : Nat} {z : MI} (C : CX p R s m args meth c K mi) (hz : mths[y]? = some z) (hl : y < 200) (hW : z.2.2.2.2.2.2 = false) (hlk : Cond.methodLinkNest mi.1.cls idx z.1 "FountainPark" ∈ NG) (hpar : (parseMethodDescriptor z.1.desc).map (fun d => d.parameters.length) = some b) (hdep : z.2.2.2.2.1 < mi.2.2.2.2.1) (G G' : GG) :
    va_CN R s args mi.1.cls idx z.1 "FountainPark" z.2.1 z.2.2.1 z.2.2.2.1 (codeW z :: GW) (rmM z G G') (G'.2.2.2.2.1 - G.2.2.2.2.1) (G'.2.2.2.2.2.1 - G.2.2.2.2.2.1) b := by
  have h := code_in hz hl
  have hts := C.2.2.2.2.1
  have h7 := C.2.2.2.2.2.2.1
  have h8 := C.2.2.2.2.2.2.2.1
  exact va_cnB b hts (good_ws h.1) (by rw [codeW_f hW]) rfl rfl (C.2.2.2.2.2.1.2.2.2.2.2.2.2.2.1 _ hlk) (hts _ h.2.1) ⟨h.2.2.2.1.1, h.2.2.2.1.2, hpar⟩ ⟨by show z.2.2.2.2.1 + 1 ≤ _; omega, by show 8 + (z.2.2.1 + 11) + 30 * z.2.2.2.2.1 ≤ _; have := h.2.2.2.2.1; omega⟩
theorem fix_z (C : CX p R s m args meth c K mi) : CallFix p m c mi.2.1 mi.2.2.1 s args GW mi.1.cls := ⟨C.1, C.2.1, C.2.2.1, C.2.2.2.1, C.2.2.2.2.1⟩
theorem Met_of_false {y : MethodName} {ws : List Cond} {rm : Room} {Pc : Array Value → State → Prop} {Qc : Array Value → State → Outcome → State → Prop} {mc ms : Nat} {free : Addr → Prop} (h : Met l y ws rm Pc Qc mc ms free) : Met l y ws rm Pc Qc mc ms free := h
/-- the words of a callee -/
theorem mw_at {y : Nat} {z : MI} {q : Nat × Nat × Nat × Nat × Nat} (hz : mths[y]? = some z) (hl : y < 200) (hq : mw[y]? = some q) : (q.2.1 ≠ 9999 → Cond.static z.1 ∈ GW) ∧ (q.2.2.1 ≠ 9999 → Cond.instanceMethod z.1 ∈ GW) ∧ (q.2.2.2.1 ≠ 9999 → Cond.selects z.1.cls z.1 z.1 ∈ GW) := by
  obtain ⟨q', hq', h⟩ := mth_ok hz hl
  cases hq.symm.trans hq'
  unfold okMw at h
  simp only [Bool.and_eq_true, Bool.or_eq_true, decide_eq_true_eq] at h
  obtain ⟨⟨⟨⟨⟨⟨⟨⟨h1, h2⟩, h3⟩, h4⟩, h5⟩, h6⟩, h7⟩, h8⟩, h9⟩ := h
  exact ⟨fun n => w_of_gw (List.mem_of_getElem? (h6.resolve_left n)) rfl, fun n => w_of_gw (List.mem_of_getElem? (h7.resolve_left n)) rfl, fun n => w_of_gw (List.mem_of_getElem? (h8.resolve_left n)) rfl⟩
theorem len_take {st : List AV} {b : Nat} {x : AV} {r : List AV} (h : st.drop b = x :: r) : (st.take b).length = b := by
  rw [List.length_take]
  have h1 := congrArg List.length h
  rw [List.length_drop, List.length_cons] at h1
  omega
theorem st_split {st : List AV} {b : Nat} {x : AV} {r : List AV} (h : st.drop b = x :: r) : st.map (sh K) = ((st.take b).reverse.map (sh K)).reverse ++ sh K x :: r.map (sh K) := by
  rw [← List.map_reverse, List.reverse_reverse, ← List.map_cons, ← h, ← List.map_append, List.take_append_drop]
theorem st_splitS {st : List AV} {b : Nat} : st.map (sh K) = ((st.take b).reverse.map (sh K)).reverse ++ (st.drop b).map (sh K) := by
  rw [← List.map_reverse, List.reverse_reverse, ← List.map_append, List.take_append_drop]
end
