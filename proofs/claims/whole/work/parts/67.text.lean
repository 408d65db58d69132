/-! the class reads the buffer -/
def stI (n : Nat) : Int32 := if n = 9 then -1 else nI n
theorem t22 {X : XS} {I : GI} {R : GR} {L : GL} {Z : Nat × Nat × Bool} {q c : Nat} (hq : q ≤ 8) (hc : c < 2 ^ 31) : exec X 22 [vI (nI q), vI (nI c)] (gg I R L Z) = some (.inl (some (vI (stI (stB q c)))), gg I R L Z) := by
  have pre : exec X 22 [vI (nI q), vI (nI c)] (gg I R L Z) = ex X 22 18 [vI (nI q), vI (nI c), vI (nI (bN (dig c)))] [] (gg I R L Z) := by
    unfold dig
    by_cases h1 : c < 48
    · rw [decide_eq_false (by omega)]
      simp (disch := first | assumption | omega | exact nI_or0 | exact nI_or1 | exact bN_or _) only [in22, x22_0, x22_1, x22_3, x22_6, x22_7, x22_9, x22_12, x22_13, x22_16, x22_17, reduceIte, Nat.reduceLT, nW_ap, nW_up, nI_add, pk_mul, nI_ltI, nI_eq, if_true, if_false, kont_r, kont_v, Nat.reduceAdd, Nat.reduceMul, Nat.not_lt, not_true_eq_false, not_false_eq_true, Nat.one_ne_zero, Nat.reduceEqDiff, Nat.lt_irrefl, reduceCtorEq, nI_or0, nI_or1, h1, bN, Bool.false_eq_true]
    · by_cases h2 : 57 < c
      · rw [decide_eq_false (by omega)]
        simp (disch := first | assumption | omega | exact nI_or0 | exact nI_or1 | exact bN_or _) only [in22, x22_0, x22_1, x22_3, x22_6, x22_7, x22_9, x22_12, x22_13, x22_16, x22_17, reduceIte, Nat.reduceLT, nW_ap, nW_up, nI_add, pk_mul, nI_ltI, nI_eq, if_true, if_false, kont_r, kont_v, Nat.reduceAdd, Nat.reduceMul, Nat.not_lt, not_true_eq_false, not_false_eq_true, Nat.one_ne_zero, Nat.reduceEqDiff, Nat.lt_irrefl, reduceCtorEq, nI_or0, nI_or1, h1, h2, bN, Bool.false_eq_true]
      · rw [decide_eq_true (by omega)]
        simp (disch := first | assumption | omega | exact nI_or0 | exact nI_or1 | exact bN_or _) only [in22, x22_0, x22_1, x22_3, x22_6, x22_7, x22_9, x22_12, x22_13, x22_16, x22_17, reduceIte, Nat.reduceLT, nW_ap, nW_up, nI_add, pk_mul, nI_ltI, nI_eq, if_true, if_false, kont_r, kont_v, Nat.reduceAdd, Nat.reduceMul, Nat.not_lt, not_true_eq_false, not_false_eq_true, Nat.one_ne_zero, Nat.reduceEqDiff, Nat.lt_irrefl, reduceCtorEq, nI_or0, nI_or1, h1, h2, bN]
  rw [pre]
  cases hd : dig c with
  | false =>
    rcases (show q = 0 ∨ q = 1 ∨ q = 2 ∨ q = 3 ∨ q = 4 ∨ q = 5 ∨ q = 6 ∨ q = 7 ∨ q = 8 by omega) with e | e | e | e | e | e | e | e | e <;> subst e <;> unfold stB <;> rw [hd]
    · have e : ¬ c = 48 := fun e => by rw [e] at hd; exact absurd hd (by decide)
      simp (disch := first | assumption | omega | exact nI_or0 | exact nI_or1 | exact bN_or _) only [x22_18, x22_19_v0, x22_19_v1, x22_19_v2, x22_19_v3, x22_19_v4, x22_19_v5, x22_19_v6, x22_19_v7, x22_19_v8, x22_19_d, x22_68, x22_69, x22_71, x22_74, x22_75, x22_78, x22_79, x22_82, x22_83, x22_86, x22_87, x22_88, x22_89, x22_92, x22_93, x22_96, x22_97, x22_99, x22_102, x22_103, x22_106, x22_107, x22_108, x22_109, x22_112, x22_113, x22_116, x22_117, x22_119, x22_122, x22_123, x22_126, x22_127, x22_128, x22_129, x22_131, x22_134, x22_135, x22_138, x22_139, x22_140, x22_141, x22_144, x22_145, x22_147, x22_150, x22_151, x22_154, x22_155, x22_156, x22_157, x22_160, x22_162, x22_165, x22_166, x22_168, x22_171, x22_173, x22_176, x22_177, x22_178, x22_179, x22_181, x22_184, x22_186, x22_189, x22_190, x22_191, x22_192, x22_194, x22_197, x22_198, x22_200, x22_203, x22_205, x22_208, x22_209, x22_210, x22_211, x22_213, x22_216, x22_217, x22_220, x22_221, x22_223, x22_226, x22_227, x22_230, x22_231, x22_232, x22_233, reduceIte, Nat.reduceLT, nW_ap, nW_up, nI_add, pk_mul, nI_ltI, nI_eq, if_true, if_false, kont_r, kont_v, Nat.reduceAdd, Nat.reduceMul, Nat.not_lt, not_true_eq_false, not_false_eq_true, Nat.one_ne_zero, Nat.reduceEqDiff, Nat.lt_irrefl, reduceCtorEq, nI_or0, nI_or1, e, bN, stI, Bool.false_eq_true]
    · by_cases e : c = 58 <;> simp (disch := first | assumption | omega | exact nI_or0 | exact nI_or1 | exact bN_or _) only [x22_18, x22_19_v0, x22_19_v1, x22_19_v2, x22_19_v3, x22_19_v4, x22_19_v5, x22_19_v6, x22_19_v7, x22_19_v8, x22_19_d, x22_68, x22_69, x22_71, x22_74, x22_75, x22_78, x22_79, x22_82, x22_83, x22_86, x22_87, x22_88, x22_89, x22_92, x22_93, x22_96, x22_97, x22_99, x22_102, x22_103, x22_106, x22_107, x22_108, x22_109, x22_112, x22_113, x22_116, x22_117, x22_119, x22_122, x22_123, x22_126, x22_127, x22_128, x22_129, x22_131, x22_134, x22_135, x22_138, x22_139, x22_140, x22_141, x22_144, x22_145, x22_147, x22_150, x22_151, x22_154, x22_155, x22_156, x22_157, x22_160, x22_162, x22_165, x22_166, x22_168, x22_171, x22_173, x22_176, x22_177, x22_178, x22_179, x22_181, x22_184, x22_186, x22_189, x22_190, x22_191, x22_192, x22_194, x22_197, x22_198, x22_200, x22_203, x22_205, x22_208, x22_209, x22_210, x22_211, x22_213, x22_216, x22_217, x22_220, x22_221, x22_223, x22_226, x22_227, x22_230, x22_231, x22_232, x22_233, reduceIte, Nat.reduceLT, nW_ap, nW_up, nI_add, pk_mul, nI_ltI, nI_eq, if_true, if_false, kont_r, kont_v, Nat.reduceAdd, Nat.reduceMul, Nat.not_lt, not_true_eq_false, not_false_eq_true, Nat.one_ne_zero, Nat.reduceEqDiff, Nat.lt_irrefl, reduceCtorEq, nI_or0, nI_or1, e, bN, stI, Bool.false_eq_true]
    · by_cases e : c = 58 <;> simp (disch := first | assumption | omega | exact nI_or0 | exact nI_or1 | exact bN_or _) only [x22_18, x22_19_v0, x22_19_v1, x22_19_v2, x22_19_v3, x22_19_v4, x22_19_v5, x22_19_v6, x22_19_v7, x22_19_v8, x22_19_d, x22_68, x22_69, x22_71, x22_74, x22_75, x22_78, x22_79, x22_82, x22_83, x22_86, x22_87, x22_88, x22_89, x22_92, x22_93, x22_96, x22_97, x22_99, x22_102, x22_103, x22_106, x22_107, x22_108, x22_109, x22_112, x22_113, x22_116, x22_117, x22_119, x22_122, x22_123, x22_126, x22_127, x22_128, x22_129, x22_131, x22_134, x22_135, x22_138, x22_139, x22_140, x22_141, x22_144, x22_145, x22_147, x22_150, x22_151, x22_154, x22_155, x22_156, x22_157, x22_160, x22_162, x22_165, x22_166, x22_168, x22_171, x22_173, x22_176, x22_177, x22_178, x22_179, x22_181, x22_184, x22_186, x22_189, x22_190, x22_191, x22_192, x22_194, x22_197, x22_198, x22_200, x22_203, x22_205, x22_208, x22_209, x22_210, x22_211, x22_213, x22_216, x22_217, x22_220, x22_221, x22_223, x22_226, x22_227, x22_230, x22_231, x22_232, x22_233, reduceIte, Nat.reduceLT, nW_ap, nW_up, nI_add, pk_mul, nI_ltI, nI_eq, if_true, if_false, kont_r, kont_v, Nat.reduceAdd, Nat.reduceMul, Nat.not_lt, not_true_eq_false, not_false_eq_true, Nat.one_ne_zero, Nat.reduceEqDiff, Nat.lt_irrefl, reduceCtorEq, nI_or0, nI_or1, e, bN, stI, Bool.false_eq_true]
    · by_cases e : c = 58 <;> simp (disch := first | assumption | omega | exact nI_or0 | exact nI_or1 | exact bN_or _) only [x22_18, x22_19_v0, x22_19_v1, x22_19_v2, x22_19_v3, x22_19_v4, x22_19_v5, x22_19_v6, x22_19_v7, x22_19_v8, x22_19_d, x22_68, x22_69, x22_71, x22_74, x22_75, x22_78, x22_79, x22_82, x22_83, x22_86, x22_87, x22_88, x22_89, x22_92, x22_93, x22_96, x22_97, x22_99, x22_102, x22_103, x22_106, x22_107, x22_108, x22_109, x22_112, x22_113, x22_116, x22_117, x22_119, x22_122, x22_123, x22_126, x22_127, x22_128, x22_129, x22_131, x22_134, x22_135, x22_138, x22_139, x22_140, x22_141, x22_144, x22_145, x22_147, x22_150, x22_151, x22_154, x22_155, x22_156, x22_157, x22_160, x22_162, x22_165, x22_166, x22_168, x22_171, x22_173, x22_176, x22_177, x22_178, x22_179, x22_181, x22_184, x22_186, x22_189, x22_190, x22_191, x22_192, x22_194, x22_197, x22_198, x22_200, x22_203, x22_205, x22_208, x22_209, x22_210, x22_211, x22_213, x22_216, x22_217, x22_220, x22_221, x22_223, x22_226, x22_227, x22_230, x22_231, x22_232, x22_233, reduceIte, Nat.reduceLT, nW_ap, nW_up, nI_add, pk_mul, nI_ltI, nI_eq, if_true, if_false, kont_r, kont_v, Nat.reduceAdd, Nat.reduceMul, Nat.not_lt, not_true_eq_false, not_false_eq_true, Nat.one_ne_zero, Nat.reduceEqDiff, Nat.lt_irrefl, reduceCtorEq, nI_or0, nI_or1, e, bN, stI, Bool.false_eq_true]
    · simp (disch := first | assumption | omega | exact nI_or0 | exact nI_or1 | exact bN_or _) only [x22_18, x22_19_v0, x22_19_v1, x22_19_v2, x22_19_v3, x22_19_v4, x22_19_v5, x22_19_v6, x22_19_v7, x22_19_v8, x22_19_d, x22_68, x22_69, x22_71, x22_74, x22_75, x22_78, x22_79, x22_82, x22_83, x22_86, x22_87, x22_88, x22_89, x22_92, x22_93, x22_96, x22_97, x22_99, x22_102, x22_103, x22_106, x22_107, x22_108, x22_109, x22_112, x22_113, x22_116, x22_117, x22_119, x22_122, x22_123, x22_126, x22_127, x22_128, x22_129, x22_131, x22_134, x22_135, x22_138, x22_139, x22_140, x22_141, x22_144, x22_145, x22_147, x22_150, x22_151, x22_154, x22_155, x22_156, x22_157, x22_160, x22_162, x22_165, x22_166, x22_168, x22_171, x22_173, x22_176, x22_177, x22_178, x22_179, x22_181, x22_184, x22_186, x22_189, x22_190, x22_191, x22_192, x22_194, x22_197, x22_198, x22_200, x22_203, x22_205, x22_208, x22_209, x22_210, x22_211, x22_213, x22_216, x22_217, x22_220, x22_221, x22_223, x22_226, x22_227, x22_230, x22_231, x22_232, x22_233, reduceIte, Nat.reduceLT, nW_ap, nW_up, nI_add, pk_mul, nI_ltI, nI_eq, if_true, if_false, kont_r, kont_v, Nat.reduceAdd, Nat.reduceMul, Nat.not_lt, not_true_eq_false, not_false_eq_true, Nat.one_ne_zero, Nat.reduceEqDiff, Nat.lt_irrefl, reduceCtorEq, nI_or0, nI_or1, bN, stI, Bool.false_eq_true, false_and]
    · by_cases e : c = 64 <;> simp (disch := first | assumption | omega | exact nI_or0 | exact nI_or1 | exact bN_or _) only [x22_18, x22_19_v0, x22_19_v1, x22_19_v2, x22_19_v3, x22_19_v4, x22_19_v5, x22_19_v6, x22_19_v7, x22_19_v8, x22_19_d, x22_68, x22_69, x22_71, x22_74, x22_75, x22_78, x22_79, x22_82, x22_83, x22_86, x22_87, x22_88, x22_89, x22_92, x22_93, x22_96, x22_97, x22_99, x22_102, x22_103, x22_106, x22_107, x22_108, x22_109, x22_112, x22_113, x22_116, x22_117, x22_119, x22_122, x22_123, x22_126, x22_127, x22_128, x22_129, x22_131, x22_134, x22_135, x22_138, x22_139, x22_140, x22_141, x22_144, x22_145, x22_147, x22_150, x22_151, x22_154, x22_155, x22_156, x22_157, x22_160, x22_162, x22_165, x22_166, x22_168, x22_171, x22_173, x22_176, x22_177, x22_178, x22_179, x22_181, x22_184, x22_186, x22_189, x22_190, x22_191, x22_192, x22_194, x22_197, x22_198, x22_200, x22_203, x22_205, x22_208, x22_209, x22_210, x22_211, x22_213, x22_216, x22_217, x22_220, x22_221, x22_223, x22_226, x22_227, x22_230, x22_231, x22_232, x22_233, reduceIte, Nat.reduceLT, nW_ap, nW_up, nI_add, pk_mul, nI_ltI, nI_eq, if_true, if_false, kont_r, kont_v, Nat.reduceAdd, Nat.reduceMul, Nat.not_lt, not_true_eq_false, not_false_eq_true, Nat.one_ne_zero, Nat.reduceEqDiff, Nat.lt_irrefl, reduceCtorEq, nI_or0, nI_or1, e, bN, stI, Bool.false_eq_true]
    · by_cases e : c = 64 <;> simp (disch := first | assumption | omega | exact nI_or0 | exact nI_or1 | exact bN_or _) only [x22_18, x22_19_v0, x22_19_v1, x22_19_v2, x22_19_v3, x22_19_v4, x22_19_v5, x22_19_v6, x22_19_v7, x22_19_v8, x22_19_d, x22_68, x22_69, x22_71, x22_74, x22_75, x22_78, x22_79, x22_82, x22_83, x22_86, x22_87, x22_88, x22_89, x22_92, x22_93, x22_96, x22_97, x22_99, x22_102, x22_103, x22_106, x22_107, x22_108, x22_109, x22_112, x22_113, x22_116, x22_117, x22_119, x22_122, x22_123, x22_126, x22_127, x22_128, x22_129, x22_131, x22_134, x22_135, x22_138, x22_139, x22_140, x22_141, x22_144, x22_145, x22_147, x22_150, x22_151, x22_154, x22_155, x22_156, x22_157, x22_160, x22_162, x22_165, x22_166, x22_168, x22_171, x22_173, x22_176, x22_177, x22_178, x22_179, x22_181, x22_184, x22_186, x22_189, x22_190, x22_191, x22_192, x22_194, x22_197, x22_198, x22_200, x22_203, x22_205, x22_208, x22_209, x22_210, x22_211, x22_213, x22_216, x22_217, x22_220, x22_221, x22_223, x22_226, x22_227, x22_230, x22_231, x22_232, x22_233, reduceIte, Nat.reduceLT, nW_ap, nW_up, nI_add, pk_mul, nI_ltI, nI_eq, if_true, if_false, kont_r, kont_v, Nat.reduceAdd, Nat.reduceMul, Nat.not_lt, not_true_eq_false, not_false_eq_true, Nat.one_ne_zero, Nat.reduceEqDiff, Nat.lt_irrefl, reduceCtorEq, nI_or0, nI_or1, e, bN, stI, Bool.false_eq_true]
    · by_cases e : c < 48
      · have e2 : ¬ 48 ≤ c := by omega
        simp (disch := first | assumption | omega | exact nI_or0 | exact nI_or1 | exact bN_or _) only [x22_18, x22_19_v0, x22_19_v1, x22_19_v2, x22_19_v3, x22_19_v4, x22_19_v5, x22_19_v6, x22_19_v7, x22_19_v8, x22_19_d, x22_68, x22_69, x22_71, x22_74, x22_75, x22_78, x22_79, x22_82, x22_83, x22_86, x22_87, x22_88, x22_89, x22_92, x22_93, x22_96, x22_97, x22_99, x22_102, x22_103, x22_106, x22_107, x22_108, x22_109, x22_112, x22_113, x22_116, x22_117, x22_119, x22_122, x22_123, x22_126, x22_127, x22_128, x22_129, x22_131, x22_134, x22_135, x22_138, x22_139, x22_140, x22_141, x22_144, x22_145, x22_147, x22_150, x22_151, x22_154, x22_155, x22_156, x22_157, x22_160, x22_162, x22_165, x22_166, x22_168, x22_171, x22_173, x22_176, x22_177, x22_178, x22_179, x22_181, x22_184, x22_186, x22_189, x22_190, x22_191, x22_192, x22_194, x22_197, x22_198, x22_200, x22_203, x22_205, x22_208, x22_209, x22_210, x22_211, x22_213, x22_216, x22_217, x22_220, x22_221, x22_223, x22_226, x22_227, x22_230, x22_231, x22_232, x22_233, reduceIte, Nat.reduceLT, nW_ap, nW_up, nI_add, pk_mul, nI_ltI, nI_eq, if_true, if_false, kont_r, kont_v, Nat.reduceAdd, Nat.reduceMul, Nat.not_lt, not_true_eq_false, not_false_eq_true, Nat.one_ne_zero, Nat.reduceEqDiff, Nat.lt_irrefl, reduceCtorEq, nI_or0, nI_or1, e, e2, bN, stI, Bool.false_eq_true, false_and]
      · have hd := of_decide_eq_false hd
        have e2 : 55 < c := by omega
        have e3 : ¬ c ≤ 55 := by omega
        simp (disch := first | assumption | omega | exact nI_or0 | exact nI_or1 | exact bN_or _) only [x22_18, x22_19_v0, x22_19_v1, x22_19_v2, x22_19_v3, x22_19_v4, x22_19_v5, x22_19_v6, x22_19_v7, x22_19_v8, x22_19_d, x22_68, x22_69, x22_71, x22_74, x22_75, x22_78, x22_79, x22_82, x22_83, x22_86, x22_87, x22_88, x22_89, x22_92, x22_93, x22_96, x22_97, x22_99, x22_102, x22_103, x22_106, x22_107, x22_108, x22_109, x22_112, x22_113, x22_116, x22_117, x22_119, x22_122, x22_123, x22_126, x22_127, x22_128, x22_129, x22_131, x22_134, x22_135, x22_138, x22_139, x22_140, x22_141, x22_144, x22_145, x22_147, x22_150, x22_151, x22_154, x22_155, x22_156, x22_157, x22_160, x22_162, x22_165, x22_166, x22_168, x22_171, x22_173, x22_176, x22_177, x22_178, x22_179, x22_181, x22_184, x22_186, x22_189, x22_190, x22_191, x22_192, x22_194, x22_197, x22_198, x22_200, x22_203, x22_205, x22_208, x22_209, x22_210, x22_211, x22_213, x22_216, x22_217, x22_220, x22_221, x22_223, x22_226, x22_227, x22_230, x22_231, x22_232, x22_233, reduceIte, Nat.reduceLT, nW_ap, nW_up, nI_add, pk_mul, nI_ltI, nI_eq, if_true, if_false, kont_r, kont_v, Nat.reduceAdd, Nat.reduceMul, Nat.not_lt, not_true_eq_false, not_false_eq_true, Nat.one_ne_zero, Nat.reduceEqDiff, Nat.lt_irrefl, reduceCtorEq, nI_or0, nI_or1, e, e2, e3, bN, stI, Bool.false_eq_true, and_false]
    · by_cases e : c = 43
      · simp (disch := first | assumption | omega | exact nI_or0 | exact nI_or1 | exact bN_or _) only [x22_18, x22_19_v0, x22_19_v1, x22_19_v2, x22_19_v3, x22_19_v4, x22_19_v5, x22_19_v6, x22_19_v7, x22_19_v8, x22_19_d, x22_68, x22_69, x22_71, x22_74, x22_75, x22_78, x22_79, x22_82, x22_83, x22_86, x22_87, x22_88, x22_89, x22_92, x22_93, x22_96, x22_97, x22_99, x22_102, x22_103, x22_106, x22_107, x22_108, x22_109, x22_112, x22_113, x22_116, x22_117, x22_119, x22_122, x22_123, x22_126, x22_127, x22_128, x22_129, x22_131, x22_134, x22_135, x22_138, x22_139, x22_140, x22_141, x22_144, x22_145, x22_147, x22_150, x22_151, x22_154, x22_155, x22_156, x22_157, x22_160, x22_162, x22_165, x22_166, x22_168, x22_171, x22_173, x22_176, x22_177, x22_178, x22_179, x22_181, x22_184, x22_186, x22_189, x22_190, x22_191, x22_192, x22_194, x22_197, x22_198, x22_200, x22_203, x22_205, x22_208, x22_209, x22_210, x22_211, x22_213, x22_216, x22_217, x22_220, x22_221, x22_223, x22_226, x22_227, x22_230, x22_231, x22_232, x22_233, reduceIte, Nat.reduceLT, nW_ap, nW_up, nI_add, pk_mul, nI_ltI, nI_eq, if_true, if_false, kont_r, kont_v, Nat.reduceAdd, Nat.reduceMul, Nat.not_lt, not_true_eq_false, not_false_eq_true, Nat.one_ne_zero, Nat.reduceEqDiff, Nat.lt_irrefl, reduceCtorEq, nI_or0, nI_or1, e, bN, stI, Bool.false_eq_true]
      · by_cases e2 : c = 59 <;> simp (disch := first | assumption | omega | exact nI_or0 | exact nI_or1 | exact bN_or _) only [x22_18, x22_19_v0, x22_19_v1, x22_19_v2, x22_19_v3, x22_19_v4, x22_19_v5, x22_19_v6, x22_19_v7, x22_19_v8, x22_19_d, x22_68, x22_69, x22_71, x22_74, x22_75, x22_78, x22_79, x22_82, x22_83, x22_86, x22_87, x22_88, x22_89, x22_92, x22_93, x22_96, x22_97, x22_99, x22_102, x22_103, x22_106, x22_107, x22_108, x22_109, x22_112, x22_113, x22_116, x22_117, x22_119, x22_122, x22_123, x22_126, x22_127, x22_128, x22_129, x22_131, x22_134, x22_135, x22_138, x22_139, x22_140, x22_141, x22_144, x22_145, x22_147, x22_150, x22_151, x22_154, x22_155, x22_156, x22_157, x22_160, x22_162, x22_165, x22_166, x22_168, x22_171, x22_173, x22_176, x22_177, x22_178, x22_179, x22_181, x22_184, x22_186, x22_189, x22_190, x22_191, x22_192, x22_194, x22_197, x22_198, x22_200, x22_203, x22_205, x22_208, x22_209, x22_210, x22_211, x22_213, x22_216, x22_217, x22_220, x22_221, x22_223, x22_226, x22_227, x22_230, x22_231, x22_232, x22_233, reduceIte, Nat.reduceLT, nW_ap, nW_up, nI_add, pk_mul, nI_ltI, nI_eq, if_true, if_false, kont_r, kont_v, Nat.reduceAdd, Nat.reduceMul, Nat.not_lt, not_true_eq_false, not_false_eq_true, Nat.one_ne_zero, Nat.reduceEqDiff, Nat.lt_irrefl, reduceCtorEq, nI_or0, nI_or1, e, e2, bN, stI, Bool.false_eq_true]
  | true =>
    have hd' := of_decide_eq_true hd
    have n58 : ¬ c = 58 := by omega
    have n64 : ¬ c = 64 := by omega
    have n43 : ¬ c = 43 := by omega
    have n59 : ¬ c = 59 := by omega
    have n48 : ¬ c < 48 := by omega
    rcases (show q = 0 ∨ q = 1 ∨ q = 2 ∨ q = 3 ∨ q = 4 ∨ q = 5 ∨ q = 6 ∨ q = 7 ∨ q = 8 by omega) with e | e | e | e | e | e | e | e | e <;> subst e <;> unfold stB <;> rw [hd]
    · by_cases e : c = 48 <;> simp (disch := first | assumption | omega | exact nI_or0 | exact nI_or1 | exact bN_or _) only [x22_18, x22_19_v0, x22_19_v1, x22_19_v2, x22_19_v3, x22_19_v4, x22_19_v5, x22_19_v6, x22_19_v7, x22_19_v8, x22_19_d, x22_68, x22_69, x22_71, x22_74, x22_75, x22_78, x22_79, x22_82, x22_83, x22_86, x22_87, x22_88, x22_89, x22_92, x22_93, x22_96, x22_97, x22_99, x22_102, x22_103, x22_106, x22_107, x22_108, x22_109, x22_112, x22_113, x22_116, x22_117, x22_119, x22_122, x22_123, x22_126, x22_127, x22_128, x22_129, x22_131, x22_134, x22_135, x22_138, x22_139, x22_140, x22_141, x22_144, x22_145, x22_147, x22_150, x22_151, x22_154, x22_155, x22_156, x22_157, x22_160, x22_162, x22_165, x22_166, x22_168, x22_171, x22_173, x22_176, x22_177, x22_178, x22_179, x22_181, x22_184, x22_186, x22_189, x22_190, x22_191, x22_192, x22_194, x22_197, x22_198, x22_200, x22_203, x22_205, x22_208, x22_209, x22_210, x22_211, x22_213, x22_216, x22_217, x22_220, x22_221, x22_223, x22_226, x22_227, x22_230, x22_231, x22_232, x22_233, reduceIte, Nat.reduceLT, nW_ap, nW_up, nI_add, pk_mul, nI_ltI, nI_eq, if_true, if_false, kont_r, kont_v, Nat.reduceAdd, Nat.reduceMul, Nat.not_lt, not_true_eq_false, not_false_eq_true, Nat.one_ne_zero, Nat.reduceEqDiff, Nat.lt_irrefl, reduceCtorEq, nI_or0, nI_or1, e, bN, stI]
    · simp (disch := first | assumption | omega | exact nI_or0 | exact nI_or1 | exact bN_or _) only [x22_18, x22_19_v0, x22_19_v1, x22_19_v2, x22_19_v3, x22_19_v4, x22_19_v5, x22_19_v6, x22_19_v7, x22_19_v8, x22_19_d, x22_68, x22_69, x22_71, x22_74, x22_75, x22_78, x22_79, x22_82, x22_83, x22_86, x22_87, x22_88, x22_89, x22_92, x22_93, x22_96, x22_97, x22_99, x22_102, x22_103, x22_106, x22_107, x22_108, x22_109, x22_112, x22_113, x22_116, x22_117, x22_119, x22_122, x22_123, x22_126, x22_127, x22_128, x22_129, x22_131, x22_134, x22_135, x22_138, x22_139, x22_140, x22_141, x22_144, x22_145, x22_147, x22_150, x22_151, x22_154, x22_155, x22_156, x22_157, x22_160, x22_162, x22_165, x22_166, x22_168, x22_171, x22_173, x22_176, x22_177, x22_178, x22_179, x22_181, x22_184, x22_186, x22_189, x22_190, x22_191, x22_192, x22_194, x22_197, x22_198, x22_200, x22_203, x22_205, x22_208, x22_209, x22_210, x22_211, x22_213, x22_216, x22_217, x22_220, x22_221, x22_223, x22_226, x22_227, x22_230, x22_231, x22_232, x22_233, reduceIte, Nat.reduceLT, nW_ap, nW_up, nI_add, pk_mul, nI_ltI, nI_eq, if_true, if_false, kont_r, kont_v, Nat.reduceAdd, Nat.reduceMul, Nat.not_lt, not_true_eq_false, not_false_eq_true, Nat.one_ne_zero, Nat.reduceEqDiff, Nat.lt_irrefl, reduceCtorEq, nI_or0, nI_or1, bN, stI]
    · simp (disch := first | assumption | omega | exact nI_or0 | exact nI_or1 | exact bN_or _) only [x22_18, x22_19_v0, x22_19_v1, x22_19_v2, x22_19_v3, x22_19_v4, x22_19_v5, x22_19_v6, x22_19_v7, x22_19_v8, x22_19_d, x22_68, x22_69, x22_71, x22_74, x22_75, x22_78, x22_79, x22_82, x22_83, x22_86, x22_87, x22_88, x22_89, x22_92, x22_93, x22_96, x22_97, x22_99, x22_102, x22_103, x22_106, x22_107, x22_108, x22_109, x22_112, x22_113, x22_116, x22_117, x22_119, x22_122, x22_123, x22_126, x22_127, x22_128, x22_129, x22_131, x22_134, x22_135, x22_138, x22_139, x22_140, x22_141, x22_144, x22_145, x22_147, x22_150, x22_151, x22_154, x22_155, x22_156, x22_157, x22_160, x22_162, x22_165, x22_166, x22_168, x22_171, x22_173, x22_176, x22_177, x22_178, x22_179, x22_181, x22_184, x22_186, x22_189, x22_190, x22_191, x22_192, x22_194, x22_197, x22_198, x22_200, x22_203, x22_205, x22_208, x22_209, x22_210, x22_211, x22_213, x22_216, x22_217, x22_220, x22_221, x22_223, x22_226, x22_227, x22_230, x22_231, x22_232, x22_233, reduceIte, Nat.reduceLT, nW_ap, nW_up, nI_add, pk_mul, nI_ltI, nI_eq, if_true, if_false, kont_r, kont_v, Nat.reduceAdd, Nat.reduceMul, Nat.not_lt, not_true_eq_false, not_false_eq_true, Nat.one_ne_zero, Nat.reduceEqDiff, Nat.lt_irrefl, reduceCtorEq, nI_or0, nI_or1, bN, stI]
    · simp (disch := first | assumption | omega | exact nI_or0 | exact nI_or1 | exact bN_or _) only [x22_18, x22_19_v0, x22_19_v1, x22_19_v2, x22_19_v3, x22_19_v4, x22_19_v5, x22_19_v6, x22_19_v7, x22_19_v8, x22_19_d, x22_68, x22_69, x22_71, x22_74, x22_75, x22_78, x22_79, x22_82, x22_83, x22_86, x22_87, x22_88, x22_89, x22_92, x22_93, x22_96, x22_97, x22_99, x22_102, x22_103, x22_106, x22_107, x22_108, x22_109, x22_112, x22_113, x22_116, x22_117, x22_119, x22_122, x22_123, x22_126, x22_127, x22_128, x22_129, x22_131, x22_134, x22_135, x22_138, x22_139, x22_140, x22_141, x22_144, x22_145, x22_147, x22_150, x22_151, x22_154, x22_155, x22_156, x22_157, x22_160, x22_162, x22_165, x22_166, x22_168, x22_171, x22_173, x22_176, x22_177, x22_178, x22_179, x22_181, x22_184, x22_186, x22_189, x22_190, x22_191, x22_192, x22_194, x22_197, x22_198, x22_200, x22_203, x22_205, x22_208, x22_209, x22_210, x22_211, x22_213, x22_216, x22_217, x22_220, x22_221, x22_223, x22_226, x22_227, x22_230, x22_231, x22_232, x22_233, reduceIte, Nat.reduceLT, nW_ap, nW_up, nI_add, pk_mul, nI_ltI, nI_eq, if_true, if_false, kont_r, kont_v, Nat.reduceAdd, Nat.reduceMul, Nat.not_lt, not_true_eq_false, not_false_eq_true, Nat.one_ne_zero, Nat.reduceEqDiff, Nat.lt_irrefl, reduceCtorEq, nI_or0, nI_or1, n58, bN, stI]
    · by_cases e : c = 48 <;> simp (disch := first | assumption | omega | exact nI_or0 | exact nI_or1 | exact bN_or _) only [x22_18, x22_19_v0, x22_19_v1, x22_19_v2, x22_19_v3, x22_19_v4, x22_19_v5, x22_19_v6, x22_19_v7, x22_19_v8, x22_19_d, x22_68, x22_69, x22_71, x22_74, x22_75, x22_78, x22_79, x22_82, x22_83, x22_86, x22_87, x22_88, x22_89, x22_92, x22_93, x22_96, x22_97, x22_99, x22_102, x22_103, x22_106, x22_107, x22_108, x22_109, x22_112, x22_113, x22_116, x22_117, x22_119, x22_122, x22_123, x22_126, x22_127, x22_128, x22_129, x22_131, x22_134, x22_135, x22_138, x22_139, x22_140, x22_141, x22_144, x22_145, x22_147, x22_150, x22_151, x22_154, x22_155, x22_156, x22_157, x22_160, x22_162, x22_165, x22_166, x22_168, x22_171, x22_173, x22_176, x22_177, x22_178, x22_179, x22_181, x22_184, x22_186, x22_189, x22_190, x22_191, x22_192, x22_194, x22_197, x22_198, x22_200, x22_203, x22_205, x22_208, x22_209, x22_210, x22_211, x22_213, x22_216, x22_217, x22_220, x22_221, x22_223, x22_226, x22_227, x22_230, x22_231, x22_232, x22_233, reduceIte, Nat.reduceLT, nW_ap, nW_up, nI_add, pk_mul, nI_ltI, nI_eq, if_true, if_false, kont_r, kont_v, Nat.reduceAdd, Nat.reduceMul, Nat.not_lt, not_true_eq_false, not_false_eq_true, Nat.one_ne_zero, Nat.reduceEqDiff, Nat.lt_irrefl, reduceCtorEq, nI_or0, nI_or1, e, bN, stI, true_and, and_false]
    · simp (disch := first | assumption | omega | exact nI_or0 | exact nI_or1 | exact bN_or _) only [x22_18, x22_19_v0, x22_19_v1, x22_19_v2, x22_19_v3, x22_19_v4, x22_19_v5, x22_19_v6, x22_19_v7, x22_19_v8, x22_19_d, x22_68, x22_69, x22_71, x22_74, x22_75, x22_78, x22_79, x22_82, x22_83, x22_86, x22_87, x22_88, x22_89, x22_92, x22_93, x22_96, x22_97, x22_99, x22_102, x22_103, x22_106, x22_107, x22_108, x22_109, x22_112, x22_113, x22_116, x22_117, x22_119, x22_122, x22_123, x22_126, x22_127, x22_128, x22_129, x22_131, x22_134, x22_135, x22_138, x22_139, x22_140, x22_141, x22_144, x22_145, x22_147, x22_150, x22_151, x22_154, x22_155, x22_156, x22_157, x22_160, x22_162, x22_165, x22_166, x22_168, x22_171, x22_173, x22_176, x22_177, x22_178, x22_179, x22_181, x22_184, x22_186, x22_189, x22_190, x22_191, x22_192, x22_194, x22_197, x22_198, x22_200, x22_203, x22_205, x22_208, x22_209, x22_210, x22_211, x22_213, x22_216, x22_217, x22_220, x22_221, x22_223, x22_226, x22_227, x22_230, x22_231, x22_232, x22_233, reduceIte, Nat.reduceLT, nW_ap, nW_up, nI_add, pk_mul, nI_ltI, nI_eq, if_true, if_false, kont_r, kont_v, Nat.reduceAdd, Nat.reduceMul, Nat.not_lt, not_true_eq_false, not_false_eq_true, Nat.one_ne_zero, Nat.reduceEqDiff, Nat.lt_irrefl, reduceCtorEq, nI_or0, nI_or1, bN, stI]
    · simp (disch := first | assumption | omega | exact nI_or0 | exact nI_or1 | exact bN_or _) only [x22_18, x22_19_v0, x22_19_v1, x22_19_v2, x22_19_v3, x22_19_v4, x22_19_v5, x22_19_v6, x22_19_v7, x22_19_v8, x22_19_d, x22_68, x22_69, x22_71, x22_74, x22_75, x22_78, x22_79, x22_82, x22_83, x22_86, x22_87, x22_88, x22_89, x22_92, x22_93, x22_96, x22_97, x22_99, x22_102, x22_103, x22_106, x22_107, x22_108, x22_109, x22_112, x22_113, x22_116, x22_117, x22_119, x22_122, x22_123, x22_126, x22_127, x22_128, x22_129, x22_131, x22_134, x22_135, x22_138, x22_139, x22_140, x22_141, x22_144, x22_145, x22_147, x22_150, x22_151, x22_154, x22_155, x22_156, x22_157, x22_160, x22_162, x22_165, x22_166, x22_168, x22_171, x22_173, x22_176, x22_177, x22_178, x22_179, x22_181, x22_184, x22_186, x22_189, x22_190, x22_191, x22_192, x22_194, x22_197, x22_198, x22_200, x22_203, x22_205, x22_208, x22_209, x22_210, x22_211, x22_213, x22_216, x22_217, x22_220, x22_221, x22_223, x22_226, x22_227, x22_230, x22_231, x22_232, x22_233, reduceIte, Nat.reduceLT, nW_ap, nW_up, nI_add, pk_mul, nI_ltI, nI_eq, if_true, if_false, kont_r, kont_v, Nat.reduceAdd, Nat.reduceMul, Nat.not_lt, not_true_eq_false, not_false_eq_true, Nat.one_ne_zero, Nat.reduceEqDiff, Nat.lt_irrefl, reduceCtorEq, nI_or0, nI_or1, n64, bN, stI]
    · by_cases e : 55 < c
      · have e3 : ¬ c ≤ 55 := by omega
        simp (disch := first | assumption | omega | exact nI_or0 | exact nI_or1 | exact bN_or _) only [x22_18, x22_19_v0, x22_19_v1, x22_19_v2, x22_19_v3, x22_19_v4, x22_19_v5, x22_19_v6, x22_19_v7, x22_19_v8, x22_19_d, x22_68, x22_69, x22_71, x22_74, x22_75, x22_78, x22_79, x22_82, x22_83, x22_86, x22_87, x22_88, x22_89, x22_92, x22_93, x22_96, x22_97, x22_99, x22_102, x22_103, x22_106, x22_107, x22_108, x22_109, x22_112, x22_113, x22_116, x22_117, x22_119, x22_122, x22_123, x22_126, x22_127, x22_128, x22_129, x22_131, x22_134, x22_135, x22_138, x22_139, x22_140, x22_141, x22_144, x22_145, x22_147, x22_150, x22_151, x22_154, x22_155, x22_156, x22_157, x22_160, x22_162, x22_165, x22_166, x22_168, x22_171, x22_173, x22_176, x22_177, x22_178, x22_179, x22_181, x22_184, x22_186, x22_189, x22_190, x22_191, x22_192, x22_194, x22_197, x22_198, x22_200, x22_203, x22_205, x22_208, x22_209, x22_210, x22_211, x22_213, x22_216, x22_217, x22_220, x22_221, x22_223, x22_226, x22_227, x22_230, x22_231, x22_232, x22_233, reduceIte, Nat.reduceLT, nW_ap, nW_up, nI_add, pk_mul, nI_ltI, nI_eq, if_true, if_false, kont_r, kont_v, Nat.reduceAdd, Nat.reduceMul, Nat.not_lt, not_true_eq_false, not_false_eq_true, Nat.one_ne_zero, Nat.reduceEqDiff, Nat.lt_irrefl, reduceCtorEq, nI_or0, nI_or1, n48, e, e3, bN, stI, and_false]
      · have e3 : c ≤ 55 := by omega
        have e4 : 48 ≤ c := by omega
        simp (disch := first | assumption | omega | exact nI_or0 | exact nI_or1 | exact bN_or _) only [x22_18, x22_19_v0, x22_19_v1, x22_19_v2, x22_19_v3, x22_19_v4, x22_19_v5, x22_19_v6, x22_19_v7, x22_19_v8, x22_19_d, x22_68, x22_69, x22_71, x22_74, x22_75, x22_78, x22_79, x22_82, x22_83, x22_86, x22_87, x22_88, x22_89, x22_92, x22_93, x22_96, x22_97, x22_99, x22_102, x22_103, x22_106, x22_107, x22_108, x22_109, x22_112, x22_113, x22_116, x22_117, x22_119, x22_122, x22_123, x22_126, x22_127, x22_128, x22_129, x22_131, x22_134, x22_135, x22_138, x22_139, x22_140, x22_141, x22_144, x22_145, x22_147, x22_150, x22_151, x22_154, x22_155, x22_156, x22_157, x22_160, x22_162, x22_165, x22_166, x22_168, x22_171, x22_173, x22_176, x22_177, x22_178, x22_179, x22_181, x22_184, x22_186, x22_189, x22_190, x22_191, x22_192, x22_194, x22_197, x22_198, x22_200, x22_203, x22_205, x22_208, x22_209, x22_210, x22_211, x22_213, x22_216, x22_217, x22_220, x22_221, x22_223, x22_226, x22_227, x22_230, x22_231, x22_232, x22_233, reduceIte, Nat.reduceLT, nW_ap, nW_up, nI_add, pk_mul, nI_ltI, nI_eq, if_true, if_false, kont_r, kont_v, Nat.reduceAdd, Nat.reduceMul, Nat.not_lt, not_true_eq_false, not_false_eq_true, Nat.one_ne_zero, Nat.reduceEqDiff, Nat.lt_irrefl, reduceCtorEq, nI_or0, nI_or1, n48, e, e3, e4, bN, stI, and_self]
    · simp (disch := first | assumption | omega | exact nI_or0 | exact nI_or1 | exact bN_or _) only [x22_18, x22_19_v0, x22_19_v1, x22_19_v2, x22_19_v3, x22_19_v4, x22_19_v5, x22_19_v6, x22_19_v7, x22_19_v8, x22_19_d, x22_68, x22_69, x22_71, x22_74, x22_75, x22_78, x22_79, x22_82, x22_83, x22_86, x22_87, x22_88, x22_89, x22_92, x22_93, x22_96, x22_97, x22_99, x22_102, x22_103, x22_106, x22_107, x22_108, x22_109, x22_112, x22_113, x22_116, x22_117, x22_119, x22_122, x22_123, x22_126, x22_127, x22_128, x22_129, x22_131, x22_134, x22_135, x22_138, x22_139, x22_140, x22_141, x22_144, x22_145, x22_147, x22_150, x22_151, x22_154, x22_155, x22_156, x22_157, x22_160, x22_162, x22_165, x22_166, x22_168, x22_171, x22_173, x22_176, x22_177, x22_178, x22_179, x22_181, x22_184, x22_186, x22_189, x22_190, x22_191, x22_192, x22_194, x22_197, x22_198, x22_200, x22_203, x22_205, x22_208, x22_209, x22_210, x22_211, x22_213, x22_216, x22_217, x22_220, x22_221, x22_223, x22_226, x22_227, x22_230, x22_231, x22_232, x22_233, reduceIte, Nat.reduceLT, nW_ap, nW_up, nI_add, pk_mul, nI_ltI, nI_eq, if_true, if_false, kont_r, kont_v, Nat.reduceAdd, Nat.reduceMul, Nat.not_lt, not_true_eq_false, not_false_eq_true, Nat.one_ne_zero, Nat.reduceEqDiff, Nat.lt_irrefl, reduceCtorEq, nI_or0, nI_or1, n43, n59, bN, stI]
theorem PS_1 {N : GV} {i : Nat} : (PS N (i + 1)).1 = stB (PS N i).1 (N 25 0 i) := by
  show (stP (PS N i) (N 25 0 i)).1 = _
  unfold stP
  (try simp only)
  split
  · rfl
  · split
    · rfl
    · split <;> rfl
theorem stB_le {q c : Nat} : stB q c ≤ 9 := by
  unfold stB
  repeat' split
  all_goals omega
theorem stB_9 {c : Nat} : stB 9 c = 9 := rfl
theorem PS_le {N : GV} : ∀ i, (PS N i).1 ≤ 9
  | 0 => Nat.zero_le _
  | i + 1 => by rw [PS_1]; exact stB_le
theorem PS_8 {N : GV} {p : Nat} (h : (PS N p).1 ≤ 8) : ∀ d j, j + d = p → (PS N j).1 ≤ 8 := by
  intro d
  induction d with
  | zero => intro j hj; have : j = p := by omega
            subst this; exact h
  | succ d ih =>
    intro j hj
    have a := ih (j + 1) (by omega)
    rw [PS_1] at a
    have b := PS_le (N := N) j
    by_cases q : (PS N j).1 = 9
    · rw [q, stB_9] at a; omega
    · omega
theorem PS_j {N : GV} {p j : Nat} (h : (PS N p).1 ≤ 8) (hj : j ≤ p) : (PS N j).1 ≤ 8 := PS_8 h (p - j) j (by omega)
theorem stI_n {n : Nat} (h : n ≤ 8) : stI n = nI n := if_neg (by omega)
/-- the buffer of the class is that of the reference -/
def BU (N V : GV) : Prop := bufW V ∧ N 3 0 1 = V 7 0 6 ∧ ∀ j, j < V 7 0 6 → N 10 0 j = V 25 0 j
theorem t20 {X : XS} {N : GV} {R : GR} {L : GL} {Z : Nat × Nat × Bool} (hR : Rok R) {V : GV} {p : Nat} (hB : BU N V) (hp : p ≤ V 7 0 6) (hle : (PS V p).1 ≤ 8) (he : p < V 7 0 6 → stB (PS V p).1 (V 25 0 p) = 9) : exec X 20 [vR 3 0] (gg (nW N) R L Z) = some (.inl (some (vI (nI p))), (gg (nW N) R L Z)) := by
  obtain ⟨⟨h60, hb⟩, e31, e10⟩ := hB
  have key : ∀ k, k ≤ p → ex X 20 4 [vR 3 0, vI (nI (PS V k).1), vI (nI k)] [] (gg (nW N) R L Z) = some (.inl (some (vI (nI p))), (gg (nW N) R L Z)) := by
    refine down _ ?_ ?_
    · by_cases q : p < V 7 0 6
      · have b := hb p q
        have p60 : p < 60 := by omega
        have s22 := t22 (X := X) (I := nW N) (R := R) (L := L) (Z := Z) (q := (PS V p).1) (c := V 25 0 p) hle (by omega)
        rw [he q] at s22
        have e : stI 9 = -1 := rfl
        rw [e] at s22
        rw [x20_4]
        simp (disch := first | assumption | omega | exact nI_or0 | exact nI_or1 | exact bN_or _) only [x20_5, x20_6, x20_9, x20_12, x20_13, x20_14, x20_17, x20_18, x20_19, x20_22, x20_23, x20_24, x20_25, x20_28, x20_29, x20_30, x20_33, reduceIte, Nat.reduceLT, nW_ap, nW_up, nI_add, pk_mul, nI_ltI, nI_eq, if_true, if_false, kont_r, kont_v, Nat.reduceAdd, Nat.reduceMul, Nat.not_lt, not_true_eq_false, not_false_eq_true, Nat.one_ne_zero, Nat.reduceEqDiff, Nat.lt_irrefl, reduceCtorEq, nI_or0, nI_or1, e31, q, e10 p q, s22, eq_self]
      · have e : p = V 7 0 6 := by omega
        rw [x20_4]
        simp (disch := first | assumption | omega | exact nI_or0 | exact nI_or1 | exact bN_or _) only [x20_5, x20_6, x20_9, x20_12, x20_13, x20_14, x20_17, x20_18, x20_19, x20_22, x20_23, x20_24, x20_25, x20_28, x20_29, x20_30, x20_33, x20_36, x20_37, x20_40, reduceIte, Nat.reduceLT, nW_ap, nW_up, nI_add, pk_mul, nI_ltI, nI_eq, if_true, if_false, kont_r, kont_v, Nat.reduceAdd, Nat.reduceMul, Nat.not_lt, not_true_eq_false, not_false_eq_true, Nat.one_ne_zero, Nat.reduceEqDiff, Nat.lt_irrefl, reduceCtorEq, nI_or0, nI_or1, e31, q, e, Nat.lt_irrefl]
    · intro k hk ih
      have q : k < V 7 0 6 := by omega
      have b := hb k q
      have k60 : k < 60 := by omega
      have a1 := PS_j hle (show k ≤ p by omega)
      have a2 := PS_j hle (show k + 1 ≤ p by omega)
      have s22 := t22 (X := X) (I := nW N) (R := R) (L := L) (Z := Z) (q := (PS V k).1) (c := V 25 0 k) a1 (by omega)
      rw [← PS_1, stI_n a2] at s22
      have hm := nI_m1 (n := (PS V (k + 1)).1) (by omega)
      rw [← ih, x20_4]
      simp (disch := first | assumption | omega | exact nI_or0 | exact nI_or1 | exact bN_or _) only [x20_5, x20_6, x20_9, x20_12, x20_13, x20_14, x20_17, x20_18, x20_19, x20_22, x20_23, x20_24, x20_25, x20_28, x20_29, x20_30, x20_33, reduceIte, Nat.reduceLT, nW_ap, nW_up, nI_add, pk_mul, nI_ltI, nI_eq, if_true, if_false, kont_r, kont_v, Nat.reduceAdd, Nat.reduceMul, Nat.not_lt, not_true_eq_false, not_false_eq_true, Nat.one_ne_zero, Nat.reduceEqDiff, Nat.lt_irrefl, reduceCtorEq, nI_or0, nI_or1, e31, q, e10 k q, s22, hm]
  have h0 := key 0 (Nat.zero_le _)
  have h0 : ex X 20 4 [vR 3 0, vI (nI 0), vI (nI 0)] [] (gg (nW N) R L Z) = _ := h0
  simp (disch := first | assumption | omega | exact nI_or0 | exact nI_or1 | exact bN_or _) only [in20, x20_0, x20_1, x20_2, x20_3, reduceIte, Nat.reduceLT, nW_ap, nW_up, nI_add, pk_mul, nI_ltI, nI_eq, if_true, if_false, kont_r, kont_v, Nat.reduceAdd, Nat.reduceMul, Nat.not_lt, not_true_eq_false, not_false_eq_true, Nat.one_ne_zero, Nat.reduceEqDiff, Nat.lt_irrefl, reduceCtorEq, nI_or0, nI_or1]
  exact h0
theorem t21_1 {X : XS} {N : GV} {R : GR} {L : GL} {Z : Nat × Nat × Bool} (hR : Rok R) {V : GV} (hB : BU N V) (h8 : (PS V (V 7 0 6)).1 = 8) : exec X 21 [vR 3 0] (gg (nW N) R L Z) = some (.inl (some (vI (nI 1))), (gg (nW N) R L Z)) := by
  obtain ⟨⟨h60, hb⟩, e31, e10⟩ := hB
  have hle : (PS V (V 7 0 6)).1 ≤ 8 := by omega
  have key : ∀ k, k ≤ V 7 0 6 → ex X 21 4 [vR 3 0, vI (nI (PS V k).1), vI (nI k)] [] (gg (nW N) R L Z) = some (.inl (some (vI (nI 1))), (gg (nW N) R L Z)) := by
    refine down _ ?_ ?_
    · rw [h8, x21_4]
      simp (disch := first | assumption | omega | exact nI_or0 | exact nI_or1 | exact bN_or _) only [x21_5, x21_6, x21_9, x21_12, x21_13, x21_14, x21_17, x21_18, x21_19, x21_22, x21_23, x21_24, x21_27, x21_28, x21_31, x21_34, x21_35, x21_37, x21_40, x21_41, x21_44, x21_45, reduceIte, Nat.reduceLT, nW_ap, nW_up, nI_add, pk_mul, nI_ltI, nI_eq, if_true, if_false, kont_r, kont_v, Nat.reduceAdd, Nat.reduceMul, Nat.not_lt, not_true_eq_false, not_false_eq_true, Nat.one_ne_zero, Nat.reduceEqDiff, Nat.lt_irrefl, reduceCtorEq, nI_or0, nI_or1, e31, Nat.lt_irrefl]
    · intro k hk ih
      have b := hb k hk
      have k60 : k < 60 := by omega
      have a1 := PS_j hle (show k ≤ V 7 0 6 by omega)
      have a2 := PS_j hle (show k + 1 ≤ V 7 0 6 by omega)
      have s22 := t22 (X := X) (I := nW N) (R := R) (L := L) (Z := Z) (q := (PS V k).1) (c := V 25 0 k) a1 (by omega)
      rw [← PS_1, stI_n a2] at s22
      have hm := nI_m1 (n := (PS V k).1) (by omega)
      rw [← ih, x21_4]
      simp (disch := first | assumption | omega | exact nI_or0 | exact nI_or1 | exact bN_or _) only [x21_5, x21_6, x21_9, x21_12, x21_13, x21_14, x21_17, x21_18, x21_19, x21_22, x21_23, x21_24, x21_27, x21_28, x21_31, reduceIte, Nat.reduceLT, nW_ap, nW_up, nI_add, pk_mul, nI_ltI, nI_eq, if_true, if_false, kont_r, kont_v, Nat.reduceAdd, Nat.reduceMul, Nat.not_lt, not_true_eq_false, not_false_eq_true, Nat.one_ne_zero, Nat.reduceEqDiff, Nat.lt_irrefl, reduceCtorEq, nI_or0, nI_or1, e31, hk, e10 k hk, s22, hm]
  have h0 := key 0 (Nat.zero_le _)
  have h0 : ex X 21 4 [vR 3 0, vI (nI 0), vI (nI 0)] [] (gg (nW N) R L Z) = _ := h0
  simp (disch := first | assumption | omega | exact nI_or0 | exact nI_or1 | exact bN_or _) only [in21, x21_0, x21_1, x21_2, x21_3, reduceIte, Nat.reduceLT, nW_ap, nW_up, nI_add, pk_mul, nI_ltI, nI_eq, if_true, if_false, kont_r, kont_v, Nat.reduceAdd, Nat.reduceMul, Nat.not_lt, not_true_eq_false, not_false_eq_true, Nat.one_ne_zero, Nat.reduceEqDiff, Nat.lt_irrefl, reduceCtorEq, nI_or0, nI_or1]
  exact h0
theorem t21_0 {X : XS} {N : GV} {R : GR} {L : GL} {Z : Nat × Nat × Bool} (hR : Rok R) {V : GV} {p : Nat} (hB : BU N V) (hp : p ≤ V 7 0 6) (hle : (PS V p).1 ≤ 8) (he : p < V 7 0 6 → stB (PS V p).1 (V 25 0 p) = 9) (h8 : p = V 7 0 6 → ¬ (PS V p).1 = 8) : exec X 21 [vR 3 0] (gg (nW N) R L Z) = some (.inl (some (vI (nI 0))), (gg (nW N) R L Z)) := by
  obtain ⟨⟨h60, hb⟩, e31, e10⟩ := hB
  have key : ∀ k, k ≤ p → ex X 21 4 [vR 3 0, vI (nI (PS V k).1), vI (nI k)] [] (gg (nW N) R L Z) = some (.inl (some (vI (nI 0))), (gg (nW N) R L Z)) := by
    refine down _ ?_ ?_
    · have hm := nI_m1 (n := (PS V p).1) (by omega)
      by_cases q : p < V 7 0 6
      · have b := hb p q
        have p60 : p < 60 := by omega
        have s22 := t22 (X := X) (I := nW N) (R := R) (L := L) (Z := Z) (q := (PS V p).1) (c := V 25 0 p) hle (by omega)
        rw [he q] at s22
        have e : stI 9 = -1 := rfl
        rw [e] at s22
        have st : ex X 21 4 [vR 3 0, vI (nI (PS V p).1), vI (nI p)] [] (gg (nW N) R L Z) = ex X 21 4 [vR 3 0, vI (-1), vI (nI (p + 1))] [] (gg (nW N) R L Z) := by
          rw [x21_4]
          simp (disch := first | assumption | omega | exact nI_or0 | exact nI_or1 | exact bN_or _) only [x21_5, x21_6, x21_9, x21_12, x21_13, x21_14, x21_17, x21_18, x21_19, x21_22, x21_23, x21_24, x21_27, x21_28, x21_31, reduceIte, Nat.reduceLT, nW_ap, nW_up, nI_add, pk_mul, nI_ltI, nI_eq, if_true, if_false, kont_r, kont_v, Nat.reduceAdd, Nat.reduceMul, Nat.not_lt, not_true_eq_false, not_false_eq_true, Nat.one_ne_zero, Nat.reduceEqDiff, Nat.lt_irrefl, reduceCtorEq, nI_or0, nI_or1, e31, q, e10 p q, s22, hm]
        have m8 : ¬ (-1 : Int32) = nI 8 := by decide
        rw [st, x21_4]
        by_cases q2 : p + 1 < V 7 0 6
        · simp (disch := first | assumption | omega | exact nI_or0 | exact nI_or1 | exact bN_or _) only [x21_5, x21_6, x21_9, x21_12, x21_13, x21_14, x21_17, x21_18, x21_19, x21_22, x21_23, x21_24, x21_27, x21_28, x21_31, x21_34, x21_35, x21_37, x21_40, x21_41, x21_44, x21_45, reduceIte, Nat.reduceLT, nW_ap, nW_up, nI_add, pk_mul, nI_ltI, nI_eq, if_true, if_false, kont_r, kont_v, Nat.reduceAdd, Nat.reduceMul, Nat.not_lt, not_true_eq_false, not_false_eq_true, Nat.one_ne_zero, Nat.reduceEqDiff, Nat.lt_irrefl, reduceCtorEq, nI_or0, nI_or1, e31, q2, eq_self, m8]
        · simp (disch := first | assumption | omega | exact nI_or0 | exact nI_or1 | exact bN_or _) only [x21_5, x21_6, x21_9, x21_12, x21_13, x21_14, x21_17, x21_18, x21_19, x21_22, x21_23, x21_24, x21_27, x21_28, x21_31, x21_34, x21_35, x21_37, x21_40, x21_41, x21_44, x21_45, reduceIte, Nat.reduceLT, nW_ap, nW_up, nI_add, pk_mul, nI_ltI, nI_eq, if_true, if_false, kont_r, kont_v, Nat.reduceAdd, Nat.reduceMul, Nat.not_lt, not_true_eq_false, not_false_eq_true, Nat.one_ne_zero, Nat.reduceEqDiff, Nat.lt_irrefl, reduceCtorEq, nI_or0, nI_or1, e31, q2, m8]
      · have e : p = V 7 0 6 := by omega
        have h8 := h8 e
        have h8' : ¬ nI (PS V p).1 = nI 8 := by rw [nI_eq (by omega) (by omega)]; exact h8
        rw [x21_4]
        simp (disch := first | assumption | omega | exact nI_or0 | exact nI_or1 | exact bN_or _) only [x21_5, x21_6, x21_9, x21_12, x21_13, x21_14, x21_17, x21_18, x21_19, x21_22, x21_23, x21_24, x21_27, x21_28, x21_31, x21_34, x21_35, x21_37, x21_40, x21_41, x21_44, x21_45, reduceIte, Nat.reduceLT, nW_ap, nW_up, nI_add, pk_mul, nI_ltI, nI_eq, if_true, if_false, kont_r, kont_v, Nat.reduceAdd, Nat.reduceMul, Nat.not_lt, not_true_eq_false, not_false_eq_true, Nat.one_ne_zero, Nat.reduceEqDiff, Nat.lt_irrefl, reduceCtorEq, nI_or0, nI_or1, e31, q, h8']
    · intro k hk ih
      have q : k < V 7 0 6 := by omega
      have b := hb k q
      have k60 : k < 60 := by omega
      have a1 := PS_j hle (show k ≤ p by omega)
      have a2 := PS_j hle (show k + 1 ≤ p by omega)
      have s22 := t22 (X := X) (I := nW N) (R := R) (L := L) (Z := Z) (q := (PS V k).1) (c := V 25 0 k) a1 (by omega)
      rw [← PS_1, stI_n a2] at s22
      have hm := nI_m1 (n := (PS V k).1) (by omega)
      rw [← ih, x21_4]
      simp (disch := first | assumption | omega | exact nI_or0 | exact nI_or1 | exact bN_or _) only [x21_5, x21_6, x21_9, x21_12, x21_13, x21_14, x21_17, x21_18, x21_19, x21_22, x21_23, x21_24, x21_27, x21_28, x21_31, reduceIte, Nat.reduceLT, nW_ap, nW_up, nI_add, pk_mul, nI_ltI, nI_eq, if_true, if_false, kont_r, kont_v, Nat.reduceAdd, Nat.reduceMul, Nat.not_lt, not_true_eq_false, not_false_eq_true, Nat.one_ne_zero, Nat.reduceEqDiff, Nat.lt_irrefl, reduceCtorEq, nI_or0, nI_or1, e31, q, e10 k q, s22, hm]
  have h0 := key 0 (Nat.zero_le _)
  have h0 : ex X 21 4 [vR 3 0, vI (nI 0), vI (nI 0)] [] (gg (nW N) R L Z) = _ := h0
  simp (disch := first | assumption | omega | exact nI_or0 | exact nI_or1 | exact bN_or _) only [in21, x21_0, x21_1, x21_2, x21_3, reduceIte, Nat.reduceLT, nW_ap, nW_up, nI_add, pk_mul, nI_ltI, nI_eq, if_true, if_false, kont_r, kont_v, Nat.reduceAdd, Nat.reduceMul, Nat.not_lt, not_true_eq_false, not_false_eq_true, Nat.one_ne_zero, Nat.reduceEqDiff, Nat.lt_irrefl, reduceCtorEq, nI_or0, nI_or1]
  exact h0
/-- what holds while a text is read -/
def PW (s : PT) : Prop := (∀ o, o ∈ s.2.2.2.2 → o.1 ≤ 999 ∧ o.2.1 ≤ 99 ∧ o.2.2 ≤ 7) ∧ (s.1 = 0 → s.2.2.2.1 = 0) ∧ (s.1 = 1 → s.2.2.2.1 ≤ 9) ∧ (s.1 = 2 → s.2.2.2.1 ≤ 99) ∧ (s.1 = 4 → s.2.2.2.1 = 0) ∧ (s.1 = 5 → s.2.2.2.1 ≤ 9) ∧ (s.1 = 7 → s.2.2.2.1 = 0) ∧ (1 ≤ s.1 → s.2.1 ≤ 999) ∧ (5 ≤ s.1 → s.2.2.1 ≤ 99)
theorem numB_1 {n c : Nat} (h : dig c = true) : numB n c = 10 * n + c - 48 := by unfold numB; rw [if_pos h]
theorem numB_0 {n c : Nat} (h : dig c = false) : numB n c = 0 := by unfold numB; rw [h]; rfl
theorem sB0 {c : Nat} : stB 0 c = if c = 48 then 3 else if dig c = true then 1 else 9 := rfl
theorem sB1 {c : Nat} : stB 1 c = if dig c = true then 2 else if c = 58 then 4 else 9 := rfl
theorem sB2 {c : Nat} : stB 2 c = if dig c = true then 3 else if c = 58 then 4 else 9 := rfl
theorem sB3 {c : Nat} : stB 3 c = if c = 58 then 4 else 9 := rfl
theorem sB4 {c : Nat} : stB 4 c = if dig c = true ∧ ¬ c = 48 then 5 else 9 := rfl
theorem sB5 {c : Nat} : stB 5 c = if dig c = true then 6 else if c = 64 then 7 else 9 := rfl
theorem sB6 {c : Nat} : stB 6 c = if c = 64 then 7 else 9 := rfl
theorem sB7 {c : Nat} : stB 7 c = if 48 ≤ c ∧ c ≤ 55 then 8 else 9 := rfl
theorem sB8 {c : Nat} : stB 8 c = if c = 43 then 4 else if c = 59 then 0 else 9 := rfl
theorem PW.s {s : PT} {c : Nat} (h : PW s) (h8 : s.1 ≤ 8) (hn : stB s.1 c ≤ 8) : PW (stP s c) := by
  obtain ⟨q, d, g, n, l⟩ := s
  obtain ⟨a0, a1, a2, a3, a4, a5, a6, a7, a8⟩ := h
  unfold stP PW
  simp only at a0 a1 a2 a3 a4 a5 a6 a7 a8 h8 hn ⊢
  have key : (stB q c = 0 → numB n c = 0) ∧ (stB q c = 1 → numB n c ≤ 9) ∧ (stB q c = 2 → numB n c ≤ 99) ∧ (stB q c = 3 → numB n c ≤ 999) ∧ (stB q c = 4 → numB n c = 0 ∧ d ≤ 999) ∧ (stB q c = 5 → numB n c ≤ 9 ∧ d ≤ 999) ∧ (stB q c = 6 → numB n c ≤ 99 ∧ d ≤ 999) ∧ (stB q c = 7 → numB n c = 0 ∧ d ≤ 999 ∧ g ≤ 99) ∧ (stB q c = 8 → numB n c ≤ 7 ∧ d ≤ 999 ∧ g ≤ 99) := by
    generalize hz : numB n c = n'
    generalize hq : stB q c = q' at hn ⊢
    cases hd : dig c with
    | false =>
      have hd' := of_decide_eq_false hd
      rw [numB_0 hd] at hz
      rcases (show q = 0 ∨ q = 1 ∨ q = 2 ∨ q = 3 ∨ q = 4 ∨ q = 5 ∨ q = 6 ∨ q = 7 ∨ q = 8 by omega) with e | e | e | e | e | e | e | e | e <;> subst e
      · rw [sB0, hd] at hq; simp only [Bool.false_eq_true, if_false] at hq; split at hq <;> omega
      · rw [sB1, hd] at hq; simp only [Bool.false_eq_true, if_false] at hq; split at hq <;> omega
      · rw [sB2, hd] at hq; simp only [Bool.false_eq_true, if_false] at hq; split at hq <;> omega
      · rw [sB3] at hq; split at hq <;> omega
      · rw [sB4, hd] at hq; simp only [Bool.false_eq_true, if_false, false_and] at hq; omega
      · rw [sB5, hd] at hq; simp only [Bool.false_eq_true, if_false] at hq; split at hq <;> omega
      · rw [sB6] at hq; split at hq <;> omega
      · rw [sB7] at hq; split at hq <;> omega
      · rw [sB8] at hq; split at hq
        · omega
        · split at hq <;> omega
    | true =>
      have hd' := of_decide_eq_true hd
      rw [numB_1 hd] at hz
      rcases (show q = 0 ∨ q = 1 ∨ q = 2 ∨ q = 3 ∨ q = 4 ∨ q = 5 ∨ q = 6 ∨ q = 7 ∨ q = 8 by omega) with e | e | e | e | e | e | e | e | e <;> subst e
      · rw [sB0, hd] at hq; simp only [if_true] at hq; split at hq <;> omega
      · rw [sB1, hd] at hq; simp only [if_true] at hq; omega
      · rw [sB2, hd] at hq; simp only [if_true] at hq; omega
      · rw [sB3] at hq; split at hq <;> omega
      · rw [sB4, hd] at hq; simp only [true_and] at hq; split at hq <;> omega
      · rw [sB5, hd] at hq; simp only [if_true] at hq; omega
      · rw [sB6] at hq; split at hq <;> omega
      · rw [sB7] at hq; split at hq <;> omega
      · rw [sB8] at hq; split at hq
        · omega
        · split at hq <;> omega
  obtain ⟨k0, k1, k2, k3, k4, k5, k6, k7, k8⟩ := key
  generalize stB q c = q' at *
  generalize numB n c = n' at *
  by_cases c1 : 1 ≤ q' ∧ q' ≤ 3
  · rw [if_pos c1]
    exact ⟨a0, fun e => k0 e, fun e => k1 e, fun e => k2 e, fun e => (k4 e).1, fun e => (k5 e).1, fun e => (k7 e).1, fun _ => by simp only; omega, fun e => by simp only at e; omega⟩
  · rw [if_neg c1]
    by_cases c2 : q' = 5 ∨ q' = 6
    · rw [if_pos c2]
      exact ⟨a0, fun e => k0 e, fun e => k1 e, fun e => k2 e, fun e => (k4 e).1, fun e => (k5 e).1, fun e => (k7 e).1, fun _ => by simp only; omega, fun e => by simp only; omega⟩
    · rw [if_neg c2]
      by_cases c3 : q' = 8
      · rw [if_pos c3]
        have k8 := k8 c3
        refine ⟨fun o ho => ?_, fun e => k0 e, fun e => k1 e, fun e => k2 e, fun e => (k4 e).1, fun e => (k5 e).1, fun e => (k7 e).1, fun _ => by simp only; omega, fun e => by simp only; omega⟩
        rcases List.mem_append.1 ho with e | e
        · exact a0 o e
        · rw [List.mem_singleton] at e
          subst e
          exact ⟨k8.2.1, k8.2.2, k8.1⟩
      · rw [if_neg c3]
        exact ⟨a0, fun e => k0 e, fun e => k1 e, fun e => k2 e, fun e => (k4 e).1, fun e => (k5 e).1, fun e => (k7 e).1, fun e => by simp only at e ⊢; omega, fun e => by simp only at e ⊢; omega⟩
theorem PW.a {V : GV} {p : Nat} (h : (PS V p).1 ≤ 8) : ∀ i, i ≤ p → PW (PS V i)
  | 0, _ => ⟨fun o ho => (by cases ho), fun _ => rfl, fun e => (by cases e), fun e => (by cases e), fun e => (by cases e), fun e => (by cases e), fun e => (by cases e), fun e => (by cases e), fun e => (by cases e)⟩
  | i + 1, hi => by
    have a := PS_j h (show i ≤ p by omega)
    have b := PS_j h hi
    rw [PS_1] at b
    exact (PW.a h i (by omega)).s a b
theorem PS_g {V : GV} {i : Nat} : (PS V i).2.2.2.2.length ≤ (PS V (i + 1)).2.2.2.2.length := by
  show _ ≤ (stP (PS V i) (V 25 0 i)).2.2.2.2.length
  unfold stP
  (try simp only)
  split
  · exact Nat.le_refl _
  · split
    · exact Nat.le_refl _
    · split
      · rw [List.length_append]; exact Nat.le_add_right _ _
      · exact Nat.le_refl _
theorem PS_gl {V : GV} {p : Nat} : ∀ d i, i + d = p → (PS V i).2.2.2.2.length ≤ (PS V p).2.2.2.2.length := by
  intro d
  induction d with
  | zero => intro i hi; rw [show i = p by omega]; exact Nat.le_refl _
  | succ d ih => intro i hi; exact Nat.le_trans PS_g (ih (i + 1) (by omega))
/-- the groups lie in the class's rows -/
def GRS (M : GV) (l : List OT) : Prop := M 3 0 5 = l.length ∧ ∀ j, j < l.length → M 11 0 j = (l.getD j (0, 0, 0)).1 ∧ M 12 0 j = (l.getD j (0, 0, 0)).2.1 ∧ M 13 0 j = (l.getD j (0, 0, 0)).2.2
def FrX (N M : GV) : Prop := ∀ k i s, ¬ (k = 3 ∧ s = 5) → ¬ (11 ≤ k ∧ k ≤ 13) → M k i s = N k i s
theorem t23 {X : XS} {N : GV} {R : GR} {L : GL} {Z : Nat × Nat × Bool} (hR : Rok R) {V : GV} (hB : BU N V) (h8 : (PS V (V 7 0 6)).1 = 8) (hl : (PS V (V 7 0 6)).2.2.2.2.length ≤ 15) : ∃ M, exec X 23 [vR 3 0] (gg (nW N) R L Z) = some (.inl none, (gg (nW (M)) R L Z)) ∧ GRS M (PS V (V 7 0 6)).2.2.2.2 ∧ FrX N M := by
  obtain ⟨⟨h60, hb⟩, e31, e10⟩ := hB
  have hle : (PS V (V 7 0 6)).1 ≤ 8 := by omega
  have key : ∀ k, k ≤ V 7 0 6 → ∀ (M : GV) (l6 : AV), GRS M (PS V k).2.2.2.2 → FrX N M → ∃ M', ex X 23 17 [vR 3 0, vI (nI (PS V k).2.1), vI (nI (PS V k).2.2.1), vI (nI (PS V k).2.2.2.1), vI (nI (PS V k).1), vI (nI k), l6] [] (gg (nW (M)) R L Z) = some (.inl none, (gg (nW (M')) R L Z)) ∧ GRS M' (PS V (V 7 0 6)).2.2.2.2 ∧ FrX N M' := by
    refine down _ ?_ ?_
    · intro M l6 g1 g2
      refine ⟨M, ?_, g1, g2⟩
      have m31 : M 3 0 1 = V 7 0 6 := by rw [g2 _ _ _ (by omega) (by omega), e31]
      rw [x23_17]
      simp (disch := first | assumption | omega | exact nI_or0 | exact nI_or1 | exact bN_or _) only [x23_19, x23_20, x23_23, x23_173, reduceIte, Nat.reduceLT, nW_ap, nW_up, nI_add, pk_mul, nI_ltI, nI_eq, if_true, if_false, kont_r, kont_v, Nat.reduceAdd, Nat.reduceMul, Nat.not_lt, not_true_eq_false, not_false_eq_true, Nat.one_ne_zero, Nat.reduceEqDiff, Nat.lt_irrefl, reduceCtorEq, nI_or0, nI_or1, m31, Nat.lt_irrefl]
    · intro k hk ih M l6 g1 g2
      have m31 : M 3 0 1 = V 7 0 6 := by rw [g2 _ _ _ (by omega) (by omega), e31]
      have m10 : M 10 0 k = V 25 0 k := by rw [g2 _ _ _ (by omega) (by omega), e10 k hk]
      have b := hb k hk
      have k60 : k < 60 := by omega
      have a1 := PS_j hle (show k ≤ V 7 0 6 by omega)
      have a2 := PS_j hle (show k + 1 ≤ V 7 0 6 by omega)
      rw [PS_1] at a2
      have s22 := t22 (X := X) (I := nW M) (R := R) (L := L) (Z := Z) (q := (PS V k).1) (c := V 25 0 k) a1 (by omega)
      rw [stI_n a2] at s22
      have hlen := PS_gl (V := V) (p := V 7 0 6) (V 7 0 6 - (k + 1)) (k + 1) (by omega)
      have eS : PS V (k + 1) = stP (PS V k) (V 25 0 k) := rfl
      rw [eS] at ih hlen
      generalize PS V k = s at *
      generalize V 25 0 k = c at *
      obtain ⟨q, d, g, n, l⟩ := s
      simp only at g1 a1 a2 s22 ⊢
      -- the number
      have pre : ex X 23 17 [vR 3 0, vI (nI d), vI (nI g), vI (nI n), vI (nI q), vI (nI k), l6] [] (gg (nW (M)) R L Z) = ex X 23 73 [vR 3 0, vI (nI d), vI (nI g), vI (nI (numB n c)), vI (nI (stB q c)), vI (nI k), vI (nI c)] [] (gg (nW (M)) R L Z) := by
        rw [x23_17]
        by_cases c1 : c < 48
        · have hd : dig c = false := decide_eq_false (by omega)
          rw [numB_0 hd]
          simp (disch := first | assumption | omega | exact nI_or0 | exact nI_or1 | exact bN_or _) only [x23_19, x23_20, x23_23, x23_26, x23_27, x23_30, x23_32, x23_33, x23_35, x23_37, x23_39, x23_42, x23_44, x23_46, x23_48, x23_51, x23_53, x23_55, x23_58, x23_60, x23_61, x23_62, x23_64, x23_65, x23_67, x23_68, x23_71, x23_72, reduceIte, Nat.reduceLT, nW_ap, nW_up, nI_add, pk_mul, nI_ltI, nI_eq, if_true, if_false, kont_r, kont_v, Nat.reduceAdd, Nat.reduceMul, Nat.not_lt, not_true_eq_false, not_false_eq_true, Nat.one_ne_zero, Nat.reduceEqDiff, Nat.lt_irrefl, reduceCtorEq, nI_or0, nI_or1, m31, hk, m10, s22, c1]
        · by_cases c2 : 57 < c
          · have hd : dig c = false := decide_eq_false (by omega)
            rw [numB_0 hd]
            simp (disch := first | assumption | omega | exact nI_or0 | exact nI_or1 | exact bN_or _) only [x23_19, x23_20, x23_23, x23_26, x23_27, x23_30, x23_32, x23_33, x23_35, x23_37, x23_39, x23_42, x23_44, x23_46, x23_48, x23_51, x23_53, x23_55, x23_58, x23_60, x23_61, x23_62, x23_64, x23_65, x23_67, x23_68, x23_71, x23_72, reduceIte, Nat.reduceLT, nW_ap, nW_up, nI_add, pk_mul, nI_ltI, nI_eq, if_true, if_false, kont_r, kont_v, Nat.reduceAdd, Nat.reduceMul, Nat.not_lt, not_true_eq_false, not_false_eq_true, Nat.one_ne_zero, Nat.reduceEqDiff, Nat.lt_irrefl, reduceCtorEq, nI_or0, nI_or1, m31, hk, m10, s22, c1, c2]
          · have hd : dig c = true := decide_eq_true (by omega)
            rw [numB_1 hd]
            simp (disch := first | assumption | omega | exact nI_or0 | exact nI_or1 | exact bN_or _) only [x23_19, x23_20, x23_23, x23_26, x23_27, x23_30, x23_32, x23_33, x23_35, x23_37, x23_39, x23_42, x23_44, x23_46, x23_48, x23_51, x23_53, x23_55, x23_58, x23_60, x23_61, x23_62, x23_64, x23_65, x23_67, x23_68, x23_71, x23_72, reduceIte, Nat.reduceLT, nW_ap, nW_up, nI_add, pk_mul, nI_ltI, nI_eq, if_true, if_false, kont_r, kont_v, Nat.reduceAdd, Nat.reduceMul, Nat.not_lt, not_true_eq_false, not_false_eq_true, Nat.one_ne_zero, Nat.reduceEqDiff, Nat.lt_irrefl, reduceCtorEq, nI_or0, nI_or1, m31, hk, m10, s22, c1, c2, pk_sub]
      have e35 := g1.1
      (try simp only at e35)
      unfold stP at ih hlen
      simp only at ih hlen
      generalize stB q c = q' at *
      generalize numB n c = n' at *
      by_cases c1 : 1 ≤ q' ∧ q' ≤ 3
      · rw [if_pos c1] at ih hlen
        simp only at ih
        obtain ⟨M', b1, b2⟩ := ih M (vI (nI c)) g1 g2
        refine ⟨M', ?_, b2⟩
        have z1 : ¬ q' < 1 := by omega
        have z2 : ¬ 3 < q' := by omega
        rw [pre, ← b1]
        simp (disch := first | assumption | omega | exact nI_or0 | exact nI_or1 | exact bN_or _) only [x23_73, x23_75, x23_76, x23_79, x23_81, x23_82, x23_85, x23_86, x23_87, x23_90, x23_92, x23_93, x23_96, x23_98, x23_100, x23_103, x23_104, x23_105, x23_108, x23_110, x23_112, x23_115, x23_116, x23_119, x23_120, x23_123, x23_124, x23_127, x23_128, x23_131, x23_132, x23_135, x23_136, x23_137, x23_138, x23_141, x23_142, x23_145, x23_146, x23_147, x23_148, x23_151, x23_152, x23_155, x23_156, x23_157, x23_158, x23_159, x23_162, x23_163, x23_164, x23_167, x23_170, reduceIte, Nat.reduceLT, nW_ap, nW_up, nI_add, pk_mul, nI_ltI, nI_eq, if_true, if_false, kont_r, kont_v, Nat.reduceAdd, Nat.reduceMul, Nat.not_lt, not_true_eq_false, not_false_eq_true, Nat.one_ne_zero, Nat.reduceEqDiff, Nat.lt_irrefl, reduceCtorEq, nI_or0, nI_or1, z1, z2]
      · rw [if_neg c1] at ih hlen
        by_cases c2 : q' = 5 ∨ q' = 6
        · rw [if_pos c2] at ih hlen
          simp only at ih
          obtain ⟨M', b1, b2⟩ := ih M (vI (nI c)) g1 g2
          refine ⟨M', ?_, b2⟩
          have z1 : ¬ q' < 1 := by omega
          have z2 : 3 < q' := by omega
          rw [pre, ← b1]
          by_cases z3 : q' = 5
          · subst z3; simp (disch := first | assumption | omega | exact nI_or0 | exact nI_or1 | exact bN_or _) only [x23_73, x23_75, x23_76, x23_79, x23_81, x23_82, x23_85, x23_86, x23_87, x23_90, x23_92, x23_93, x23_96, x23_98, x23_100, x23_103, x23_104, x23_105, x23_108, x23_110, x23_112, x23_115, x23_116, x23_119, x23_120, x23_123, x23_124, x23_127, x23_128, x23_131, x23_132, x23_135, x23_136, x23_137, x23_138, x23_141, x23_142, x23_145, x23_146, x23_147, x23_148, x23_151, x23_152, x23_155, x23_156, x23_157, x23_158, x23_159, x23_162, x23_163, x23_164, x23_167, x23_170, reduceIte, Nat.reduceLT, nW_ap, nW_up, nI_add, pk_mul, nI_ltI, nI_eq, if_true, if_false, kont_r, kont_v, Nat.reduceAdd, Nat.reduceMul, Nat.not_lt, not_true_eq_false, not_false_eq_true, Nat.one_ne_zero, Nat.reduceEqDiff, Nat.lt_irrefl, reduceCtorEq, nI_or0, nI_or1]
          · have z4 : q' = 6 := by omega
            subst z4; simp (disch := first | assumption | omega | exact nI_or0 | exact nI_or1 | exact bN_or _) only [x23_73, x23_75, x23_76, x23_79, x23_81, x23_82, x23_85, x23_86, x23_87, x23_90, x23_92, x23_93, x23_96, x23_98, x23_100, x23_103, x23_104, x23_105, x23_108, x23_110, x23_112, x23_115, x23_116, x23_119, x23_120, x23_123, x23_124, x23_127, x23_128, x23_131, x23_132, x23_135, x23_136, x23_137, x23_138, x23_141, x23_142, x23_145, x23_146, x23_147, x23_148, x23_151, x23_152, x23_155, x23_156, x23_157, x23_158, x23_159, x23_162, x23_163, x23_164, x23_167, x23_170, reduceIte, Nat.reduceLT, nW_ap, nW_up, nI_add, pk_mul, nI_ltI, nI_eq, if_true, if_false, kont_r, kont_v, Nat.reduceAdd, Nat.reduceMul, Nat.not_lt, not_true_eq_false, not_false_eq_true, Nat.one_ne_zero, Nat.reduceEqDiff, Nat.lt_irrefl, reduceCtorEq, nI_or0, nI_or1]
        · rw [if_neg c2] at ih hlen
          have z5 : ¬ q' = 5 := by omega
          have z6 : ¬ q' = 6 := by omega
          by_cases c3 : q' = 8
          · rw [if_pos c3] at ih hlen
            simp only at ih hlen
            rw [List.length_append, List.length_singleton] at hlen
            have hl15 : l.length < 15 := by omega
            obtain ⟨M', b1, b2⟩ := ih (up3 (up3 (up3 (up3 M 11 0 l.length d) 12 0 l.length g) 13 0 l.length n') 3 0 5 (l.length + 1)) (vI (nI c)) ⟨by rw [up3_self, List.length_append]; rfl, fun j hj => by
              rw [List.length_append, List.length_singleton] at hj
              by_cases e : j = l.length
              · subst e
                rw [gD_r (Nat.le_refl _), Nat.sub_self]
                simp (disch := omega) only [u_ne, u_eq]
                exact ⟨rfl, rfl, rfl⟩
              · rw [gD_l (by omega)]
                simp (disch := omega) only [u_ne]
                exact g1.2 j (by omega)⟩ (fun k i s y z => by
              simp (disch := omega) only [u_ne]
              exact g2 _ _ _ y z)
            refine ⟨M', ?_, b2⟩
            subst c3
            rw [pre, ← b1]
            simp (disch := first | assumption | omega | exact nI_or0 | exact nI_or1 | exact bN_or _) only [x23_73, x23_75, x23_76, x23_79, x23_81, x23_82, x23_85, x23_86, x23_87, x23_90, x23_92, x23_93, x23_96, x23_98, x23_100, x23_103, x23_104, x23_105, x23_108, x23_110, x23_112, x23_115, x23_116, x23_119, x23_120, x23_123, x23_124, x23_127, x23_128, x23_131, x23_132, x23_135, x23_136, x23_137, x23_138, x23_141, x23_142, x23_145, x23_146, x23_147, x23_148, x23_151, x23_152, x23_155, x23_156, x23_157, x23_158, x23_159, x23_162, x23_163, x23_164, x23_167, x23_170, reduceIte, Nat.reduceLT, nW_ap, nW_up, nI_add, pk_mul, nI_ltI, nI_eq, if_true, if_false, kont_r, kont_v, Nat.reduceAdd, Nat.reduceMul, Nat.not_lt, not_true_eq_false, not_false_eq_true, Nat.one_ne_zero, Nat.reduceEqDiff, Nat.lt_irrefl, reduceCtorEq, nI_or0, nI_or1, e35, hl15, u_ne]
          · rw [if_neg c3] at ih hlen
            simp only at ih
            obtain ⟨M', b1, b2⟩ := ih M (vI (nI c)) g1 g2
            refine ⟨M', ?_, b2⟩
            rw [pre, ← b1]
            by_cases z1 : q' < 1
            · have z2 : ¬ 3 < q' := by omega
              simp (disch := first | assumption | omega | exact nI_or0 | exact nI_or1 | exact bN_or _) only [x23_73, x23_75, x23_76, x23_79, x23_81, x23_82, x23_85, x23_86, x23_87, x23_90, x23_92, x23_93, x23_96, x23_98, x23_100, x23_103, x23_104, x23_105, x23_108, x23_110, x23_112, x23_115, x23_116, x23_119, x23_120, x23_123, x23_124, x23_127, x23_128, x23_131, x23_132, x23_135, x23_136, x23_137, x23_138, x23_141, x23_142, x23_145, x23_146, x23_147, x23_148, x23_151, x23_152, x23_155, x23_156, x23_157, x23_158, x23_159, x23_162, x23_163, x23_164, x23_167, x23_170, reduceIte, Nat.reduceLT, nW_ap, nW_up, nI_add, pk_mul, nI_ltI, nI_eq, if_true, if_false, kont_r, kont_v, Nat.reduceAdd, Nat.reduceMul, Nat.not_lt, not_true_eq_false, not_false_eq_true, Nat.one_ne_zero, Nat.reduceEqDiff, Nat.lt_irrefl, reduceCtorEq, nI_or0, nI_or1, z1, z5, z6, c3]
            · have z2 : 3 < q' := by omega
              simp (disch := first | assumption | omega | exact nI_or0 | exact nI_or1 | exact bN_or _) only [x23_73, x23_75, x23_76, x23_79, x23_81, x23_82, x23_85, x23_86, x23_87, x23_90, x23_92, x23_93, x23_96, x23_98, x23_100, x23_103, x23_104, x23_105, x23_108, x23_110, x23_112, x23_115, x23_116, x23_119, x23_120, x23_123, x23_124, x23_127, x23_128, x23_131, x23_132, x23_135, x23_136, x23_137, x23_138, x23_141, x23_142, x23_145, x23_146, x23_147, x23_148, x23_151, x23_152, x23_155, x23_156, x23_157, x23_158, x23_159, x23_162, x23_163, x23_164, x23_167, x23_170, reduceIte, Nat.reduceLT, nW_ap, nW_up, nI_add, pk_mul, nI_ltI, nI_eq, if_true, if_false, kont_r, kont_v, Nat.reduceAdd, Nat.reduceMul, Nat.not_lt, not_true_eq_false, not_false_eq_true, Nat.one_ne_zero, Nat.reduceEqDiff, Nat.lt_irrefl, reduceCtorEq, nI_or0, nI_or1, z1, z2, z5, z6, c3]
  obtain ⟨M', b1, b2⟩ := key 0 (Nat.zero_le _) (up3 N 3 0 5 0) vU ⟨up3_self _ _ _ _ _, fun j hj => absurd hj (Nat.not_lt_zero _)⟩ fun k i s y z => u_ne (by omega)
  have b1 : ex X 23 17 [vR 3 0, vI (nI 0), vI (nI 0), vI (nI 0), vI (nI 0), vI (nI 0), vU] [] (gg (nW (up3 N 3 0 5 0)) R L Z) = _ := b1
  refine ⟨M', ?_, b2⟩
  simp (disch := first | assumption | omega | exact nI_or0 | exact nI_or1 | exact bN_or _) only [in23, x23_0, x23_1, x23_2, x23_3, x23_4, x23_5, x23_6, x23_7, x23_9, x23_10, x23_11, x23_14, x23_15, reduceIte, Nat.reduceLT, nW_ap, nW_up, nI_add, pk_mul, nI_ltI, nI_eq, if_true, if_false, kont_r, kont_v, Nat.reduceAdd, Nat.reduceMul, Nat.not_lt, not_true_eq_false, not_false_eq_true, Nat.one_ne_zero, Nat.reduceEqDiff, Nat.lt_irrefl, reduceCtorEq, nI_or0, nI_or1]
  exact b1
/-- the earliest day -/
def mnD : List OT → Nat → Nat
  | _, 0 => 999
  | l, n + 1 => min (mnD l n) (l.getD n (0, 0, 0)).1
theorem mnD_le {l : List OT} {d : Nat} (hd : d ≤ 999) : ∀ n, n ≤ l.length → (d ≤ mnD l n ↔ (l.take n).all (fun o => decide (d ≤ o.1)) = true)
  | 0, _ => by
    unfold mnD
    rw [List.take_zero]
    exact ⟨fun _ => rfl, fun _ => hd⟩
  | n + 1, hn => by
    rw [all_ap (by omega), Bool.and_eq_true, ← mnD_le hd n (by omega), decide_eq_true_eq]
    show d ≤ min _ _ ↔ _
    omega
theorem mnD_b {l : List OT} : ∀ n, mnD l n ≤ 999
  | 0 => Nat.le_refl _
  | n + 1 => Nat.le_trans (Nat.min_le_left _ _) (mnD_b n)
theorem t24 {X : XS} {N : GV} {R : GR} {L : GL} {Z : Nat × Nat × Bool} (hR : Rok R) {l : List OT} (hG : GRS N l) (hl : l.length ≤ 15) (hd : ∀ o, o ∈ l → o.1 ≤ 999 ∧ o.2.1 ≤ 99 ∧ o.2.2 ≤ 7) : exec X 24 [vR 3 0] (gg (nW N) R L Z) = some (.inl (some (vI (nI (mnD l l.length)))), (gg (nW N) R L Z)) := by
  have key : ∀ k, k ≤ l.length → ex X 24 6 [vR 3 0, vI (nI (mnD l k)), vI (nI k)] [] (gg (nW N) R L Z) = some (.inl (some (vI (nI (mnD l l.length)))), (gg (nW N) R L Z)) := by
    refine down _ ?_ ?_
    · rw [x24_6]
      simp (disch := first | assumption | omega | exact nI_or0 | exact nI_or1 | exact bN_or _) only [x24_7, x24_8, x24_11, x24_14, x24_15, x24_16, x24_19, x24_20, x24_21, x24_24, x24_25, x24_28, x24_31, x24_32, reduceIte, Nat.reduceLT, nW_ap, nW_up, nI_add, pk_mul, nI_ltI, nI_eq, if_true, if_false, kont_r, kont_v, Nat.reduceAdd, Nat.reduceMul, Nat.not_lt, not_true_eq_false, not_false_eq_true, Nat.one_ne_zero, Nat.reduceEqDiff, Nat.lt_irrefl, reduceCtorEq, nI_or0, nI_or1, hG.1, Nat.lt_irrefl]
    · intro k hk ih
      have b := (hd _ (gD_mem (a := (0, 0, 0)) hk)).1
      have c := mnD_b (l := l) k
      have mm := mI_n (a := mnD l k) (b := (l.getD k (0, 0, 0)).1) (by omega) (by omega)
      have e : mnD l (k + 1) = min (mnD l k) (l.getD k (0, 0, 0)).1 := rfl
      rw [e] at ih
      rw [← ih, x24_6]
      simp (disch := first | assumption | omega | exact nI_or0 | exact nI_or1 | exact bN_or _) only [x24_7, x24_8, x24_11, x24_14, x24_15, x24_16, x24_19, x24_20, x24_21, x24_24, x24_25, x24_28, reduceIte, Nat.reduceLT, nW_ap, nW_up, nI_add, pk_mul, nI_ltI, nI_eq, if_true, if_false, kont_r, kont_v, Nat.reduceAdd, Nat.reduceMul, Nat.not_lt, not_true_eq_false, not_false_eq_true, Nat.one_ne_zero, Nat.reduceEqDiff, Nat.lt_irrefl, reduceCtorEq, nI_or0, nI_or1, hG.1, hk, (hG.2 k hk).1, mm]
  have h0 := key 0 (Nat.zero_le _)
  have h0 : ex X 24 6 [vR 3 0, vI (nI 999), vI (nI 0)] [] (gg (nW N) R L Z) = _ := h0
  simp (disch := first | assumption | omega | exact nI_or0 | exact nI_or1 | exact bN_or _) only [in24, x24_0, x24_3, x24_4, x24_5, reduceIte, Nat.reduceLT, nW_ap, nW_up, nI_add, pk_mul, nI_ltI, nI_eq, if_true, if_false, kont_r, kont_v, Nat.reduceAdd, Nat.reduceMul, Nat.not_lt, not_true_eq_false, not_false_eq_true, Nat.one_ne_zero, Nat.reduceEqDiff, Nat.lt_irrefl, reduceCtorEq, nI_or0, nI_or1]
  exact h0
