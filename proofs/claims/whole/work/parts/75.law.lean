/-! the law: the calls, the loop -/
def LR (X : XS) (N : GV) (R : GR) (L : GL) (Z : Nat × Nat × Bool) (pc i : Nat) (l5 l6 l7 l8 : AV) : Prop := ∃ (m5 m6 m7 m8 : AV) (L' : GL) (R' : GR) (W : GV) (Z' : Nat × Nat × Bool), ex X 200 pc [vR 31 0, vR 6 0, vR 7 0, vR 30 0, vI (nI i), l5, l6, l7, l8] [] (gg (nW N) R L Z) = ex X 200 1793 [vR 31 0, vR 6 0, vR 7 0, vR 30 0, vI (nI i), m5, m6, m7, m8] [] (gg (nW W) R' L' Z') ∧ INV W R' ∧ (Z' = Z ∨ Z' = tz Z)
theorem cmp_0 {x : Int64} : lg_cmp x x = nI 0 := by simp [lg_cmp, nI]
theorem L_0 {X : XS} {N : GV} {R : GR} {L : GL} {Z : Nat × Nat × Bool} (hR : Rok R) {i : Nat} {l5 l6 l7 l8 : AV} (hI : INV N R) (hi : i + 5 ≤ X.1) (hX : X.1 < 2 ^ 31) : LR X N R L Z 164 i l5 l6 l7 l8 := by
  have j1 : i + 1 < X.1 := by omega
  have j2 : i + 2 < X.1 := by omega
  have j3 : i + 3 < X.1 := by omega
  have j4 : i + 4 < X.1 := by omega
  by_cases h : X.2 (i + 4) = nI 0
  · skip
    have rs : RES X 174 123 [vI (X.2 (i + 1)), vI (X.2 (i + 2)), vI (X.2 (i + 3)), vI (nI 0)] N R L Z := c174 (X := X) (p := X.2 (i + 1)) (fl := X.2 (i + 2)) (fi := X.2 (i + 3)) (c := false) hR hI
    obtain ⟨k, y, L', C, R', W, Z', s, t, h0, hk, hy, hW, hZ⟩ := rs
    simp only [List.cons_append, List.nil_append] at s
    refine ⟨vI (nI k), vI y, l7, l8, L', R', W, Z', ?_, hW, hZ⟩
    by_cases q : k = 0
    · subst q
      simp (disch := first | assumption | omega | exact nI_or0 | exact nI_or1 | exact bN_or _) only [x200_164, x200_165, x200_166, x200_168, x200_169, x200_170, x200_171, x200_172, x200_174, x200_175, x200_176, x200_177, x200_178, x200_180, x200_181, x200_182, x200_183, x200_184, x200_186, x200_187, x200_188, x200_189, x200_192, x200_193, x200_196, x200_197, x200_198, x200_201, x200_203, x200_204, x200_205, x200_207, x200_208, x200_209, x200_210, x200_211, x200_213, x200_214, x200_215, x200_216, x200_217, x200_219, x200_220, x200_221, x200_222, x200_223, x200_225, x200_226, x200_227, x200_228, x200_231, x200_232, x200_235, x200_236, x200_239, x200_241, x200_242, x200_245, x200_247, x200_250, x200_251, x200_252, x200_254, x200_257, x200_258, x200_259, x200_260, x200_262, x200_263, x200_264, x200_267, x200_268, x200_269, reduceIte, Nat.reduceLT, nW_ap, nW_up, nI_add, pk_mul, nI_ltI, nI_eq, if_true, if_false, kont_r, kont_v, Nat.reduceAdd, Nat.reduceMul, Nat.not_lt, not_true_eq_false, not_false_eq_true, Nat.one_ne_zero, Nat.reduceEqDiff, Nat.lt_irrefl, reduceCtorEq, nI_or0, nI_or1, h, s, t, x90_0, x90_1, x90_4, in90, in90, h0, hy rfl, cmp_0]
    · simp (disch := first | assumption | omega | exact nI_or0 | exact nI_or1 | exact bN_or _) only [x200_164, x200_165, x200_166, x200_168, x200_169, x200_170, x200_171, x200_172, x200_174, x200_175, x200_176, x200_177, x200_178, x200_180, x200_181, x200_182, x200_183, x200_184, x200_186, x200_187, x200_188, x200_189, x200_192, x200_193, x200_196, x200_197, x200_198, x200_201, x200_203, x200_204, x200_205, x200_207, x200_208, x200_209, x200_210, x200_211, x200_213, x200_214, x200_215, x200_216, x200_217, x200_219, x200_220, x200_221, x200_222, x200_223, x200_225, x200_226, x200_227, x200_228, x200_231, x200_232, x200_235, x200_236, x200_239, x200_241, x200_242, x200_245, x200_247, x200_250, x200_251, x200_252, x200_254, x200_257, x200_258, x200_259, x200_260, x200_262, x200_263, x200_264, x200_267, x200_268, x200_269, reduceIte, Nat.reduceLT, nW_ap, nW_up, nI_add, pk_mul, nI_ltI, nI_eq, if_true, if_false, kont_r, kont_v, Nat.reduceAdd, Nat.reduceMul, Nat.not_lt, not_true_eq_false, not_false_eq_true, Nat.one_ne_zero, Nat.reduceEqDiff, Nat.lt_irrefl, reduceCtorEq, nI_or0, nI_or1, h, s, t, x90_0, x90_1, x90_4, in90, in90, h0, q]
  · skip
    have rs : RES X 174 123 [vI (X.2 (i + 1)), vI (X.2 (i + 2)), vI (X.2 (i + 3)), vI (nI 1)] N R L Z := c174 (X := X) (p := X.2 (i + 1)) (fl := X.2 (i + 2)) (fi := X.2 (i + 3)) (c := true) hR hI
    obtain ⟨k, y, L', C, R', W, Z', s, t, h0, hk, hy, hW, hZ⟩ := rs
    simp only [List.cons_append, List.nil_append] at s
    refine ⟨vI (nI k), vI y, l7, l8, L', R', W, Z', ?_, hW, hZ⟩
    by_cases q : k = 0
    · subst q
      simp (disch := first | assumption | omega | exact nI_or0 | exact nI_or1 | exact bN_or _) only [x200_164, x200_165, x200_166, x200_168, x200_169, x200_170, x200_171, x200_172, x200_174, x200_175, x200_176, x200_177, x200_178, x200_180, x200_181, x200_182, x200_183, x200_184, x200_186, x200_187, x200_188, x200_189, x200_192, x200_193, x200_196, x200_197, x200_198, x200_201, x200_203, x200_204, x200_205, x200_207, x200_208, x200_209, x200_210, x200_211, x200_213, x200_214, x200_215, x200_216, x200_217, x200_219, x200_220, x200_221, x200_222, x200_223, x200_225, x200_226, x200_227, x200_228, x200_231, x200_232, x200_235, x200_236, x200_239, x200_241, x200_242, x200_245, x200_247, x200_250, x200_251, x200_252, x200_254, x200_257, x200_258, x200_259, x200_260, x200_262, x200_263, x200_264, x200_267, x200_268, x200_269, reduceIte, Nat.reduceLT, nW_ap, nW_up, nI_add, pk_mul, nI_ltI, nI_eq, if_true, if_false, kont_r, kont_v, Nat.reduceAdd, Nat.reduceMul, Nat.not_lt, not_true_eq_false, not_false_eq_true, Nat.one_ne_zero, Nat.reduceEqDiff, Nat.lt_irrefl, reduceCtorEq, nI_or0, nI_or1, h, s, t, x90_0, x90_1, x90_4, in90, in90, h0, hy rfl, cmp_0]
    · simp (disch := first | assumption | omega | exact nI_or0 | exact nI_or1 | exact bN_or _) only [x200_164, x200_165, x200_166, x200_168, x200_169, x200_170, x200_171, x200_172, x200_174, x200_175, x200_176, x200_177, x200_178, x200_180, x200_181, x200_182, x200_183, x200_184, x200_186, x200_187, x200_188, x200_189, x200_192, x200_193, x200_196, x200_197, x200_198, x200_201, x200_203, x200_204, x200_205, x200_207, x200_208, x200_209, x200_210, x200_211, x200_213, x200_214, x200_215, x200_216, x200_217, x200_219, x200_220, x200_221, x200_222, x200_223, x200_225, x200_226, x200_227, x200_228, x200_231, x200_232, x200_235, x200_236, x200_239, x200_241, x200_242, x200_245, x200_247, x200_250, x200_251, x200_252, x200_254, x200_257, x200_258, x200_259, x200_260, x200_262, x200_263, x200_264, x200_267, x200_268, x200_269, reduceIte, Nat.reduceLT, nW_ap, nW_up, nI_add, pk_mul, nI_ltI, nI_eq, if_true, if_false, kont_r, kont_v, Nat.reduceAdd, Nat.reduceMul, Nat.not_lt, not_true_eq_false, not_false_eq_true, Nat.one_ne_zero, Nat.reduceEqDiff, Nat.lt_irrefl, reduceCtorEq, nI_or0, nI_or1, h, s, t, x90_0, x90_1, x90_4, in90, in90, h0, q]
theorem L_1 {X : XS} {N : GV} {R : GR} {L : GL} {Z : Nat × Nat × Bool} (hR : Rok R) {i : Nat} {l5 l6 l7 l8 : AV} (hI : INV N R) (hi : i + 5 ≤ X.1) (hX : X.1 < 2 ^ 31) : LR X N R L Z 272 i l5 l6 l7 l8 := by
  have j1 : i + 1 < X.1 := by omega
  have rs : RES X 175 124 [vI (X.2 (i + 1))] N R L Z := c175 (X := X) (p := X.2 (i + 1)) hR hI
  obtain ⟨k, y, L', C, R', W, Z', s, t, h0, hk, hy, hW, hZ⟩ := rs
  simp only [List.cons_append, List.nil_append] at s
  refine ⟨vI (nI k), vI y, l7, l8, L', R', W, Z', ?_, hW, hZ⟩
  by_cases q : k = 0
  · subst q
    simp (disch := first | assumption | omega | exact nI_or0 | exact nI_or1 | exact bN_or _) only [x200_272, x200_273, x200_274, x200_276, x200_277, x200_278, x200_279, x200_280, x200_283, x200_285, x200_286, x200_287, x200_289, x200_290, x200_291, x200_292, x200_295, x200_297, x200_298, x200_301, x200_303, x200_306, x200_307, x200_308, x200_310, x200_313, x200_314, x200_315, x200_316, x200_318, x200_319, x200_320, x200_323, x200_324, x200_325, reduceIte, Nat.reduceLT, nW_ap, nW_up, nI_add, pk_mul, nI_ltI, nI_eq, if_true, if_false, kont_r, kont_v, Nat.reduceAdd, Nat.reduceMul, Nat.not_lt, not_true_eq_false, not_false_eq_true, Nat.one_ne_zero, Nat.reduceEqDiff, Nat.lt_irrefl, reduceCtorEq, nI_or0, nI_or1, s, t, x90_0, x90_1, x90_4, in90, in90, h0, hy rfl, cmp_0]
  · simp (disch := first | assumption | omega | exact nI_or0 | exact nI_or1 | exact bN_or _) only [x200_272, x200_273, x200_274, x200_276, x200_277, x200_278, x200_279, x200_280, x200_283, x200_285, x200_286, x200_287, x200_289, x200_290, x200_291, x200_292, x200_295, x200_297, x200_298, x200_301, x200_303, x200_306, x200_307, x200_308, x200_310, x200_313, x200_314, x200_315, x200_316, x200_318, x200_319, x200_320, x200_323, x200_324, x200_325, reduceIte, Nat.reduceLT, nW_ap, nW_up, nI_add, pk_mul, nI_ltI, nI_eq, if_true, if_false, kont_r, kont_v, Nat.reduceAdd, Nat.reduceMul, Nat.not_lt, not_true_eq_false, not_false_eq_true, Nat.one_ne_zero, Nat.reduceEqDiff, Nat.lt_irrefl, reduceCtorEq, nI_or0, nI_or1, s, t, x90_0, x90_1, x90_4, in90, in90, h0, q]
theorem L_2 {X : XS} {N : GV} {R : GR} {L : GL} {Z : Nat × Nat × Bool} (hR : Rok R) {i : Nat} {l5 l6 l7 l8 : AV} (hI : INV N R) (hi : i + 5 ≤ X.1) (hX : X.1 < 2 ^ 31) : LR X N R L Z 328 i l5 l6 l7 l8 := by
  have j1 : i + 1 < X.1 := by omega
  have j2 : i + 2 < X.1 := by omega
  by_cases h : X.2 (i + 2) = nI 0
  · skip
    have rs : RES X 176 126 [vI (X.2 (i + 1)), vI (nI 0)] N R L Z := c176 (X := X) (p := X.2 (i + 1)) (c := false) hR hI
    obtain ⟨k, y, L', C, R', W, Z', s, t, h0, hk, hy, hW, hZ⟩ := rs
    simp only [List.cons_append, List.nil_append] at s
    refine ⟨vI (nI k), vI y, l7, l8, L', R', W, Z', ?_, hW, hZ⟩
    by_cases q : k = 0
    · subst q
      simp (disch := first | assumption | omega | exact nI_or0 | exact nI_or1 | exact bN_or _) only [x200_328, x200_329, x200_330, x200_332, x200_333, x200_334, x200_335, x200_336, x200_338, x200_339, x200_340, x200_341, x200_344, x200_345, x200_348, x200_349, x200_350, x200_353, x200_355, x200_356, x200_357, x200_359, x200_360, x200_361, x200_362, x200_363, x200_365, x200_366, x200_367, x200_368, x200_371, x200_372, x200_375, x200_376, x200_379, x200_381, x200_382, x200_385, x200_387, x200_390, x200_391, x200_392, x200_394, x200_397, x200_398, x200_399, x200_400, x200_402, x200_403, x200_404, x200_407, x200_408, x200_409, reduceIte, Nat.reduceLT, nW_ap, nW_up, nI_add, pk_mul, nI_ltI, nI_eq, if_true, if_false, kont_r, kont_v, Nat.reduceAdd, Nat.reduceMul, Nat.not_lt, not_true_eq_false, not_false_eq_true, Nat.one_ne_zero, Nat.reduceEqDiff, Nat.lt_irrefl, reduceCtorEq, nI_or0, nI_or1, h, s, t, x90_0, x90_1, x90_4, in90, in90, h0, hy rfl, cmp_0]
    · simp (disch := first | assumption | omega | exact nI_or0 | exact nI_or1 | exact bN_or _) only [x200_328, x200_329, x200_330, x200_332, x200_333, x200_334, x200_335, x200_336, x200_338, x200_339, x200_340, x200_341, x200_344, x200_345, x200_348, x200_349, x200_350, x200_353, x200_355, x200_356, x200_357, x200_359, x200_360, x200_361, x200_362, x200_363, x200_365, x200_366, x200_367, x200_368, x200_371, x200_372, x200_375, x200_376, x200_379, x200_381, x200_382, x200_385, x200_387, x200_390, x200_391, x200_392, x200_394, x200_397, x200_398, x200_399, x200_400, x200_402, x200_403, x200_404, x200_407, x200_408, x200_409, reduceIte, Nat.reduceLT, nW_ap, nW_up, nI_add, pk_mul, nI_ltI, nI_eq, if_true, if_false, kont_r, kont_v, Nat.reduceAdd, Nat.reduceMul, Nat.not_lt, not_true_eq_false, not_false_eq_true, Nat.one_ne_zero, Nat.reduceEqDiff, Nat.lt_irrefl, reduceCtorEq, nI_or0, nI_or1, h, s, t, x90_0, x90_1, x90_4, in90, in90, h0, q]
  · skip
    have rs : RES X 176 126 [vI (X.2 (i + 1)), vI (nI 1)] N R L Z := c176 (X := X) (p := X.2 (i + 1)) (c := true) hR hI
    obtain ⟨k, y, L', C, R', W, Z', s, t, h0, hk, hy, hW, hZ⟩ := rs
    simp only [List.cons_append, List.nil_append] at s
    refine ⟨vI (nI k), vI y, l7, l8, L', R', W, Z', ?_, hW, hZ⟩
    by_cases q : k = 0
    · subst q
      simp (disch := first | assumption | omega | exact nI_or0 | exact nI_or1 | exact bN_or _) only [x200_328, x200_329, x200_330, x200_332, x200_333, x200_334, x200_335, x200_336, x200_338, x200_339, x200_340, x200_341, x200_344, x200_345, x200_348, x200_349, x200_350, x200_353, x200_355, x200_356, x200_357, x200_359, x200_360, x200_361, x200_362, x200_363, x200_365, x200_366, x200_367, x200_368, x200_371, x200_372, x200_375, x200_376, x200_379, x200_381, x200_382, x200_385, x200_387, x200_390, x200_391, x200_392, x200_394, x200_397, x200_398, x200_399, x200_400, x200_402, x200_403, x200_404, x200_407, x200_408, x200_409, reduceIte, Nat.reduceLT, nW_ap, nW_up, nI_add, pk_mul, nI_ltI, nI_eq, if_true, if_false, kont_r, kont_v, Nat.reduceAdd, Nat.reduceMul, Nat.not_lt, not_true_eq_false, not_false_eq_true, Nat.one_ne_zero, Nat.reduceEqDiff, Nat.lt_irrefl, reduceCtorEq, nI_or0, nI_or1, h, s, t, x90_0, x90_1, x90_4, in90, in90, h0, hy rfl, cmp_0]
    · simp (disch := first | assumption | omega | exact nI_or0 | exact nI_or1 | exact bN_or _) only [x200_328, x200_329, x200_330, x200_332, x200_333, x200_334, x200_335, x200_336, x200_338, x200_339, x200_340, x200_341, x200_344, x200_345, x200_348, x200_349, x200_350, x200_353, x200_355, x200_356, x200_357, x200_359, x200_360, x200_361, x200_362, x200_363, x200_365, x200_366, x200_367, x200_368, x200_371, x200_372, x200_375, x200_376, x200_379, x200_381, x200_382, x200_385, x200_387, x200_390, x200_391, x200_392, x200_394, x200_397, x200_398, x200_399, x200_400, x200_402, x200_403, x200_404, x200_407, x200_408, x200_409, reduceIte, Nat.reduceLT, nW_ap, nW_up, nI_add, pk_mul, nI_ltI, nI_eq, if_true, if_false, kont_r, kont_v, Nat.reduceAdd, Nat.reduceMul, Nat.not_lt, not_true_eq_false, not_false_eq_true, Nat.one_ne_zero, Nat.reduceEqDiff, Nat.lt_irrefl, reduceCtorEq, nI_or0, nI_or1, h, s, t, x90_0, x90_1, x90_4, in90, in90, h0, q]
theorem L_3 {X : XS} {N : GV} {R : GR} {L : GL} {Z : Nat × Nat × Bool} (hR : Rok R) {i : Nat} {l5 l6 l7 l8 : AV} (hI : INV N R) (hi : i + 5 ≤ X.1) (hX : X.1 < 2 ^ 31) : LR X N R L Z 412 i l5 l6 l7 l8 := by
  have j1 : i + 1 < X.1 := by omega
  have j2 : i + 2 < X.1 := by omega
  by_cases h : X.2 (i + 2) = nI 0
  · skip
    have rs : RES X 177 127 [vI (X.2 (i + 1)), vI (nI 0)] N R L Z := c177 (X := X) (p := X.2 (i + 1)) (c := false) hR hI
    obtain ⟨k, y, L', C, R', W, Z', s, t, h0, hk, hy, hW, hZ⟩ := rs
    simp only [List.cons_append, List.nil_append] at s
    refine ⟨vI (nI k), vI y, l7, l8, L', R', W, Z', ?_, hW, hZ⟩
    by_cases q : k = 0
    · subst q
      simp (disch := first | assumption | omega | exact nI_or0 | exact nI_or1 | exact bN_or _) only [x200_412, x200_413, x200_414, x200_416, x200_417, x200_418, x200_419, x200_420, x200_422, x200_423, x200_424, x200_425, x200_428, x200_429, x200_432, x200_433, x200_434, x200_437, x200_439, x200_440, x200_441, x200_443, x200_444, x200_445, x200_446, x200_447, x200_449, x200_450, x200_451, x200_452, x200_455, x200_456, x200_459, x200_460, x200_463, x200_465, x200_466, x200_469, x200_471, x200_474, x200_475, x200_476, x200_478, x200_481, x200_482, x200_483, x200_484, x200_486, x200_487, x200_488, x200_491, x200_492, x200_493, reduceIte, Nat.reduceLT, nW_ap, nW_up, nI_add, pk_mul, nI_ltI, nI_eq, if_true, if_false, kont_r, kont_v, Nat.reduceAdd, Nat.reduceMul, Nat.not_lt, not_true_eq_false, not_false_eq_true, Nat.one_ne_zero, Nat.reduceEqDiff, Nat.lt_irrefl, reduceCtorEq, nI_or0, nI_or1, h, s, t, x90_0, x90_1, x90_4, in90, in90, h0, hy rfl, cmp_0]
    · simp (disch := first | assumption | omega | exact nI_or0 | exact nI_or1 | exact bN_or _) only [x200_412, x200_413, x200_414, x200_416, x200_417, x200_418, x200_419, x200_420, x200_422, x200_423, x200_424, x200_425, x200_428, x200_429, x200_432, x200_433, x200_434, x200_437, x200_439, x200_440, x200_441, x200_443, x200_444, x200_445, x200_446, x200_447, x200_449, x200_450, x200_451, x200_452, x200_455, x200_456, x200_459, x200_460, x200_463, x200_465, x200_466, x200_469, x200_471, x200_474, x200_475, x200_476, x200_478, x200_481, x200_482, x200_483, x200_484, x200_486, x200_487, x200_488, x200_491, x200_492, x200_493, reduceIte, Nat.reduceLT, nW_ap, nW_up, nI_add, pk_mul, nI_ltI, nI_eq, if_true, if_false, kont_r, kont_v, Nat.reduceAdd, Nat.reduceMul, Nat.not_lt, not_true_eq_false, not_false_eq_true, Nat.one_ne_zero, Nat.reduceEqDiff, Nat.lt_irrefl, reduceCtorEq, nI_or0, nI_or1, h, s, t, x90_0, x90_1, x90_4, in90, in90, h0, q]
  · skip
    have rs : RES X 177 127 [vI (X.2 (i + 1)), vI (nI 1)] N R L Z := c177 (X := X) (p := X.2 (i + 1)) (c := true) hR hI
    obtain ⟨k, y, L', C, R', W, Z', s, t, h0, hk, hy, hW, hZ⟩ := rs
    simp only [List.cons_append, List.nil_append] at s
    refine ⟨vI (nI k), vI y, l7, l8, L', R', W, Z', ?_, hW, hZ⟩
    by_cases q : k = 0
    · subst q
      simp (disch := first | assumption | omega | exact nI_or0 | exact nI_or1 | exact bN_or _) only [x200_412, x200_413, x200_414, x200_416, x200_417, x200_418, x200_419, x200_420, x200_422, x200_423, x200_424, x200_425, x200_428, x200_429, x200_432, x200_433, x200_434, x200_437, x200_439, x200_440, x200_441, x200_443, x200_444, x200_445, x200_446, x200_447, x200_449, x200_450, x200_451, x200_452, x200_455, x200_456, x200_459, x200_460, x200_463, x200_465, x200_466, x200_469, x200_471, x200_474, x200_475, x200_476, x200_478, x200_481, x200_482, x200_483, x200_484, x200_486, x200_487, x200_488, x200_491, x200_492, x200_493, reduceIte, Nat.reduceLT, nW_ap, nW_up, nI_add, pk_mul, nI_ltI, nI_eq, if_true, if_false, kont_r, kont_v, Nat.reduceAdd, Nat.reduceMul, Nat.not_lt, not_true_eq_false, not_false_eq_true, Nat.one_ne_zero, Nat.reduceEqDiff, Nat.lt_irrefl, reduceCtorEq, nI_or0, nI_or1, h, s, t, x90_0, x90_1, x90_4, in90, in90, h0, hy rfl, cmp_0]
    · simp (disch := first | assumption | omega | exact nI_or0 | exact nI_or1 | exact bN_or _) only [x200_412, x200_413, x200_414, x200_416, x200_417, x200_418, x200_419, x200_420, x200_422, x200_423, x200_424, x200_425, x200_428, x200_429, x200_432, x200_433, x200_434, x200_437, x200_439, x200_440, x200_441, x200_443, x200_444, x200_445, x200_446, x200_447, x200_449, x200_450, x200_451, x200_452, x200_455, x200_456, x200_459, x200_460, x200_463, x200_465, x200_466, x200_469, x200_471, x200_474, x200_475, x200_476, x200_478, x200_481, x200_482, x200_483, x200_484, x200_486, x200_487, x200_488, x200_491, x200_492, x200_493, reduceIte, Nat.reduceLT, nW_ap, nW_up, nI_add, pk_mul, nI_ltI, nI_eq, if_true, if_false, kont_r, kont_v, Nat.reduceAdd, Nat.reduceMul, Nat.not_lt, not_true_eq_false, not_false_eq_true, Nat.one_ne_zero, Nat.reduceEqDiff, Nat.lt_irrefl, reduceCtorEq, nI_or0, nI_or1, h, s, t, x90_0, x90_1, x90_4, in90, in90, h0, q]
theorem L_4 {X : XS} {N : GV} {R : GR} {L : GL} {Z : Nat × Nat × Bool} (hR : Rok R) {i : Nat} {l5 l6 l7 l8 : AV} (hI : INV N R) (hi : i + 5 ≤ X.1) (hX : X.1 < 2 ^ 31) : LR X N R L Z 496 i l5 l6 l7 l8 := by
  have j1 : i + 1 < X.1 := by omega
  have j2 : i + 2 < X.1 := by omega
  have rs : RES X 178 128 [vI (X.2 (i + 1)), vI (X.2 (i + 2))] N R L Z := c178 (X := X) (x := X.2 (i + 1)) (y := X.2 (i + 2)) hR hI
  obtain ⟨k, y, L', C, R', W, Z', s, t, h0, hk, hy, hW, hZ⟩ := rs
  simp only [List.cons_append, List.nil_append] at s
  refine ⟨vI (nI k), vI y, l7, l8, L', R', W, Z', ?_, hW, hZ⟩
  by_cases q : k = 0
  · subst q
    simp (disch := first | assumption | omega | exact nI_or0 | exact nI_or1 | exact bN_or _) only [x200_496, x200_497, x200_498, x200_500, x200_501, x200_502, x200_503, x200_504, x200_506, x200_507, x200_508, x200_509, x200_510, x200_513, x200_515, x200_516, x200_517, x200_519, x200_520, x200_521, x200_522, x200_523, x200_525, x200_526, x200_527, x200_528, x200_531, x200_533, x200_534, x200_537, x200_539, x200_542, x200_543, x200_544, x200_546, x200_549, x200_550, x200_551, x200_552, x200_554, x200_555, x200_556, x200_559, x200_560, x200_561, reduceIte, Nat.reduceLT, nW_ap, nW_up, nI_add, pk_mul, nI_ltI, nI_eq, if_true, if_false, kont_r, kont_v, Nat.reduceAdd, Nat.reduceMul, Nat.not_lt, not_true_eq_false, not_false_eq_true, Nat.one_ne_zero, Nat.reduceEqDiff, Nat.lt_irrefl, reduceCtorEq, nI_or0, nI_or1, s, t, x90_0, x90_1, x90_4, in90, in90, h0, hy rfl, cmp_0]
  · simp (disch := first | assumption | omega | exact nI_or0 | exact nI_or1 | exact bN_or _) only [x200_496, x200_497, x200_498, x200_500, x200_501, x200_502, x200_503, x200_504, x200_506, x200_507, x200_508, x200_509, x200_510, x200_513, x200_515, x200_516, x200_517, x200_519, x200_520, x200_521, x200_522, x200_523, x200_525, x200_526, x200_527, x200_528, x200_531, x200_533, x200_534, x200_537, x200_539, x200_542, x200_543, x200_544, x200_546, x200_549, x200_550, x200_551, x200_552, x200_554, x200_555, x200_556, x200_559, x200_560, x200_561, reduceIte, Nat.reduceLT, nW_ap, nW_up, nI_add, pk_mul, nI_ltI, nI_eq, if_true, if_false, kont_r, kont_v, Nat.reduceAdd, Nat.reduceMul, Nat.not_lt, not_true_eq_false, not_false_eq_true, Nat.one_ne_zero, Nat.reduceEqDiff, Nat.lt_irrefl, reduceCtorEq, nI_or0, nI_or1, s, t, x90_0, x90_1, x90_4, in90, in90, h0, q]
theorem L_5 {X : XS} {N : GV} {R : GR} {L : GL} {Z : Nat × Nat × Bool} (hR : Rok R) {i : Nat} {l5 l6 l7 l8 : AV} (hI : INV N R) (hi : i + 5 ≤ X.1) (hX : X.1 < 2 ^ 31) : LR X N R L Z 564 i l5 l6 l7 l8 := by
  have j1 : i + 1 < X.1 := by omega
  have rs : RES X 179 129 [vI (X.2 (i + 1))] N R L Z := c179 (X := X) (x := X.2 (i + 1)) hR hI
  obtain ⟨k, y, L', C, R', W, Z', s, t, h0, hk, hy, hW, hZ⟩ := rs
  simp only [List.cons_append, List.nil_append] at s
  refine ⟨vI (nI k), vI y, l7, l8, L', R', W, Z', ?_, hW, hZ⟩
  by_cases q : k = 0
  · subst q
    simp (disch := first | assumption | omega | exact nI_or0 | exact nI_or1 | exact bN_or _) only [x200_564, x200_565, x200_566, x200_568, x200_569, x200_570, x200_571, x200_572, x200_575, x200_577, x200_578, x200_579, x200_581, x200_582, x200_583, x200_584, x200_587, x200_589, x200_590, x200_593, x200_595, x200_598, x200_599, x200_600, x200_602, x200_605, x200_606, x200_607, x200_608, x200_610, x200_611, x200_612, x200_615, x200_616, x200_617, reduceIte, Nat.reduceLT, nW_ap, nW_up, nI_add, pk_mul, nI_ltI, nI_eq, if_true, if_false, kont_r, kont_v, Nat.reduceAdd, Nat.reduceMul, Nat.not_lt, not_true_eq_false, not_false_eq_true, Nat.one_ne_zero, Nat.reduceEqDiff, Nat.lt_irrefl, reduceCtorEq, nI_or0, nI_or1, s, t, x90_0, x90_1, x90_4, in90, in90, h0, hy rfl, cmp_0]
  · simp (disch := first | assumption | omega | exact nI_or0 | exact nI_or1 | exact bN_or _) only [x200_564, x200_565, x200_566, x200_568, x200_569, x200_570, x200_571, x200_572, x200_575, x200_577, x200_578, x200_579, x200_581, x200_582, x200_583, x200_584, x200_587, x200_589, x200_590, x200_593, x200_595, x200_598, x200_599, x200_600, x200_602, x200_605, x200_606, x200_607, x200_608, x200_610, x200_611, x200_612, x200_615, x200_616, x200_617, reduceIte, Nat.reduceLT, nW_ap, nW_up, nI_add, pk_mul, nI_ltI, nI_eq, if_true, if_false, kont_r, kont_v, Nat.reduceAdd, Nat.reduceMul, Nat.not_lt, not_true_eq_false, not_false_eq_true, Nat.one_ne_zero, Nat.reduceEqDiff, Nat.lt_irrefl, reduceCtorEq, nI_or0, nI_or1, s, t, x90_0, x90_1, x90_4, in90, in90, h0, q]
theorem L_6 {X : XS} {N : GV} {R : GR} {L : GL} {Z : Nat × Nat × Bool} (hR : Rok R) {i : Nat} {l5 l6 l7 l8 : AV} (hI : INV N R) (hi : i + 5 ≤ X.1) (hX : X.1 < 2 ^ 31) : LR X N R L Z 620 i l5 l6 l7 l8 := by
  have j1 : i + 1 < X.1 := by omega
  have j2 : i + 2 < X.1 := by omega
  have j3 : i + 3 < X.1 := by omega
  have rs : RES X 180 131 [vI (X.2 (i + 1)), vI (X.2 (i + 2)), vI (X.2 (i + 3))] N R L Z := c180 (X := X) (x := X.2 (i + 1)) (y := X.2 (i + 2)) (z := X.2 (i + 3)) hR hI
  obtain ⟨k, y, L', C, R', W, Z', s, t, h0, hk, hy, hW, hZ⟩ := rs
  simp only [List.cons_append, List.nil_append] at s
  refine ⟨vI (nI k), vI y, l7, l8, L', R', W, Z', ?_, hW, hZ⟩
  by_cases q : k = 0
  · subst q
    simp (disch := first | assumption | omega | exact nI_or0 | exact nI_or1 | exact bN_or _) only [x200_620, x200_621, x200_622, x200_624, x200_625, x200_626, x200_627, x200_628, x200_630, x200_631, x200_632, x200_633, x200_634, x200_636, x200_637, x200_638, x200_639, x200_640, x200_643, x200_645, x200_646, x200_647, x200_649, x200_650, x200_651, x200_652, x200_653, x200_655, x200_656, x200_657, x200_658, x200_659, x200_661, x200_662, x200_663, x200_664, x200_667, x200_669, x200_670, x200_673, x200_675, x200_678, x200_679, x200_680, x200_682, x200_685, x200_686, x200_687, x200_688, x200_690, x200_691, x200_692, x200_695, x200_696, x200_697, reduceIte, Nat.reduceLT, nW_ap, nW_up, nI_add, pk_mul, nI_ltI, nI_eq, if_true, if_false, kont_r, kont_v, Nat.reduceAdd, Nat.reduceMul, Nat.not_lt, not_true_eq_false, not_false_eq_true, Nat.one_ne_zero, Nat.reduceEqDiff, Nat.lt_irrefl, reduceCtorEq, nI_or0, nI_or1, s, t, x90_0, x90_1, x90_4, in90, in90, h0, hy rfl, cmp_0]
  · simp (disch := first | assumption | omega | exact nI_or0 | exact nI_or1 | exact bN_or _) only [x200_620, x200_621, x200_622, x200_624, x200_625, x200_626, x200_627, x200_628, x200_630, x200_631, x200_632, x200_633, x200_634, x200_636, x200_637, x200_638, x200_639, x200_640, x200_643, x200_645, x200_646, x200_647, x200_649, x200_650, x200_651, x200_652, x200_653, x200_655, x200_656, x200_657, x200_658, x200_659, x200_661, x200_662, x200_663, x200_664, x200_667, x200_669, x200_670, x200_673, x200_675, x200_678, x200_679, x200_680, x200_682, x200_685, x200_686, x200_687, x200_688, x200_690, x200_691, x200_692, x200_695, x200_696, x200_697, reduceIte, Nat.reduceLT, nW_ap, nW_up, nI_add, pk_mul, nI_ltI, nI_eq, if_true, if_false, kont_r, kont_v, Nat.reduceAdd, Nat.reduceMul, Nat.not_lt, not_true_eq_false, not_false_eq_true, Nat.one_ne_zero, Nat.reduceEqDiff, Nat.lt_irrefl, reduceCtorEq, nI_or0, nI_or1, s, t, x90_0, x90_1, x90_4, in90, in90, h0, q]
theorem L_7 {X : XS} {N : GV} {R : GR} {L : GL} {Z : Nat × Nat × Bool} (hR : Rok R) {i : Nat} {l5 l6 l7 l8 : AV} (hI : INV N R) (hi : i + 5 ≤ X.1) (hX : X.1 < 2 ^ 31) : LR X N R L Z 700 i l5 l6 l7 l8 := by
  have j1 : i + 1 < X.1 := by omega
  have rs : RES X 181 132 [vI (X.2 (i + 1))] N R L Z := c181 (X := X) (x := X.2 (i + 1)) hR hI
  obtain ⟨k, y, L', C, R', W, Z', s, t, h0, hk, hy, hW, hZ⟩ := rs
  simp only [List.cons_append, List.nil_append] at s
  refine ⟨vI (nI k), vI y, l7, l8, L', R', W, Z', ?_, hW, hZ⟩
  by_cases q : k = 0
  · subst q
    simp (disch := first | assumption | omega | exact nI_or0 | exact nI_or1 | exact bN_or _) only [x200_700, x200_701, x200_702, x200_704, x200_705, x200_706, x200_707, x200_708, x200_711, x200_713, x200_714, x200_715, x200_717, x200_718, x200_719, x200_720, x200_723, x200_725, x200_726, x200_729, x200_731, x200_734, x200_735, x200_736, x200_738, x200_741, x200_742, x200_743, x200_744, x200_746, x200_747, x200_748, x200_751, x200_752, x200_753, reduceIte, Nat.reduceLT, nW_ap, nW_up, nI_add, pk_mul, nI_ltI, nI_eq, if_true, if_false, kont_r, kont_v, Nat.reduceAdd, Nat.reduceMul, Nat.not_lt, not_true_eq_false, not_false_eq_true, Nat.one_ne_zero, Nat.reduceEqDiff, Nat.lt_irrefl, reduceCtorEq, nI_or0, nI_or1, s, t, x90_0, x90_1, x90_4, in90, in90, h0, hy rfl, cmp_0]
  · simp (disch := first | assumption | omega | exact nI_or0 | exact nI_or1 | exact bN_or _) only [x200_700, x200_701, x200_702, x200_704, x200_705, x200_706, x200_707, x200_708, x200_711, x200_713, x200_714, x200_715, x200_717, x200_718, x200_719, x200_720, x200_723, x200_725, x200_726, x200_729, x200_731, x200_734, x200_735, x200_736, x200_738, x200_741, x200_742, x200_743, x200_744, x200_746, x200_747, x200_748, x200_751, x200_752, x200_753, reduceIte, Nat.reduceLT, nW_ap, nW_up, nI_add, pk_mul, nI_ltI, nI_eq, if_true, if_false, kont_r, kont_v, Nat.reduceAdd, Nat.reduceMul, Nat.not_lt, not_true_eq_false, not_false_eq_true, Nat.one_ne_zero, Nat.reduceEqDiff, Nat.lt_irrefl, reduceCtorEq, nI_or0, nI_or1, s, t, x90_0, x90_1, x90_4, in90, in90, h0, q]
theorem L_8 {X : XS} {N : GV} {R : GR} {L : GL} {Z : Nat × Nat × Bool} (hR : Rok R) {i : Nat} {l5 l6 l7 l8 : AV} (hI : INV N R) (hi : i + 5 ≤ X.1) (hX : X.1 < 2 ^ 31) : LR X N R L Z 756 i l5 l6 l7 l8 := by
  have j1 : i + 1 < X.1 := by omega
  have j2 : i + 2 < X.1 := by omega
  have rs : RES X 182 134 [vI (X.2 (i + 1)), vI (X.2 (i + 2))] N R L Z := c182 (X := X) (x := X.2 (i + 1)) (y := X.2 (i + 2)) hR hI
  obtain ⟨k, y, L', C, R', W, Z', s, t, h0, hk, hy, hW, hZ⟩ := rs
  simp only [List.cons_append, List.nil_append] at s
  refine ⟨vI (nI k), vI y, l7, l8, L', R', W, Z', ?_, hW, hZ⟩
  by_cases q : k = 0
  · subst q
    simp (disch := first | assumption | omega | exact nI_or0 | exact nI_or1 | exact bN_or _) only [x200_756, x200_757, x200_758, x200_760, x200_761, x200_762, x200_763, x200_764, x200_766, x200_767, x200_768, x200_769, x200_770, x200_773, x200_775, x200_776, x200_777, x200_779, x200_780, x200_781, x200_782, x200_783, x200_785, x200_786, x200_787, x200_788, x200_791, x200_793, x200_794, x200_797, x200_799, x200_802, x200_803, x200_804, x200_806, x200_809, x200_810, x200_811, x200_812, x200_814, x200_815, x200_816, x200_819, x200_820, x200_821, reduceIte, Nat.reduceLT, nW_ap, nW_up, nI_add, pk_mul, nI_ltI, nI_eq, if_true, if_false, kont_r, kont_v, Nat.reduceAdd, Nat.reduceMul, Nat.not_lt, not_true_eq_false, not_false_eq_true, Nat.one_ne_zero, Nat.reduceEqDiff, Nat.lt_irrefl, reduceCtorEq, nI_or0, nI_or1, s, t, x90_0, x90_1, x90_4, in90, in90, h0, hy rfl, cmp_0]
  · simp (disch := first | assumption | omega | exact nI_or0 | exact nI_or1 | exact bN_or _) only [x200_756, x200_757, x200_758, x200_760, x200_761, x200_762, x200_763, x200_764, x200_766, x200_767, x200_768, x200_769, x200_770, x200_773, x200_775, x200_776, x200_777, x200_779, x200_780, x200_781, x200_782, x200_783, x200_785, x200_786, x200_787, x200_788, x200_791, x200_793, x200_794, x200_797, x200_799, x200_802, x200_803, x200_804, x200_806, x200_809, x200_810, x200_811, x200_812, x200_814, x200_815, x200_816, x200_819, x200_820, x200_821, reduceIte, Nat.reduceLT, nW_ap, nW_up, nI_add, pk_mul, nI_ltI, nI_eq, if_true, if_false, kont_r, kont_v, Nat.reduceAdd, Nat.reduceMul, Nat.not_lt, not_true_eq_false, not_false_eq_true, Nat.one_ne_zero, Nat.reduceEqDiff, Nat.lt_irrefl, reduceCtorEq, nI_or0, nI_or1, s, t, x90_0, x90_1, x90_4, in90, in90, h0, q]
theorem L_9 {X : XS} {N : GV} {R : GR} {L : GL} {Z : Nat × Nat × Bool} (hR : Rok R) {i : Nat} {l5 l6 l7 l8 : AV} (hI : INV N R) (hi : i + 5 ≤ X.1) (hX : X.1 < 2 ^ 31) : LR X N R L Z 824 i l5 l6 l7 l8 := by
  have j1 : i + 1 < X.1 := by omega
  have rs : RES X 183 135 [vI (X.2 (i + 1))] N R L Z := c183 (X := X) (x := X.2 (i + 1)) hR hI
  obtain ⟨k, y, L', C, R', W, Z', s, t, h0, hk, hy, hW, hZ⟩ := rs
  simp only [List.cons_append, List.nil_append] at s
  refine ⟨vI (nI k), vI y, l7, l8, L', R', W, Z', ?_, hW, hZ⟩
  by_cases q : k = 0
  · subst q
    simp (disch := first | assumption | omega | exact nI_or0 | exact nI_or1 | exact bN_or _) only [x200_824, x200_825, x200_826, x200_828, x200_829, x200_830, x200_831, x200_832, x200_835, x200_837, x200_838, x200_839, x200_841, x200_842, x200_843, x200_844, x200_847, x200_849, x200_850, x200_853, x200_855, x200_858, x200_859, x200_860, x200_862, x200_865, x200_866, x200_867, x200_868, x200_870, x200_871, x200_872, x200_875, x200_876, x200_877, reduceIte, Nat.reduceLT, nW_ap, nW_up, nI_add, pk_mul, nI_ltI, nI_eq, if_true, if_false, kont_r, kont_v, Nat.reduceAdd, Nat.reduceMul, Nat.not_lt, not_true_eq_false, not_false_eq_true, Nat.one_ne_zero, Nat.reduceEqDiff, Nat.lt_irrefl, reduceCtorEq, nI_or0, nI_or1, s, t, x90_0, x90_1, x90_4, in90, in90, h0, hy rfl, cmp_0]
  · simp (disch := first | assumption | omega | exact nI_or0 | exact nI_or1 | exact bN_or _) only [x200_824, x200_825, x200_826, x200_828, x200_829, x200_830, x200_831, x200_832, x200_835, x200_837, x200_838, x200_839, x200_841, x200_842, x200_843, x200_844, x200_847, x200_849, x200_850, x200_853, x200_855, x200_858, x200_859, x200_860, x200_862, x200_865, x200_866, x200_867, x200_868, x200_870, x200_871, x200_872, x200_875, x200_876, x200_877, reduceIte, Nat.reduceLT, nW_ap, nW_up, nI_add, pk_mul, nI_ltI, nI_eq, if_true, if_false, kont_r, kont_v, Nat.reduceAdd, Nat.reduceMul, Nat.not_lt, not_true_eq_false, not_false_eq_true, Nat.one_ne_zero, Nat.reduceEqDiff, Nat.lt_irrefl, reduceCtorEq, nI_or0, nI_or1, s, t, x90_0, x90_1, x90_4, in90, in90, h0, q]
theorem L_10 {X : XS} {N : GV} {R : GR} {L : GL} {Z : Nat × Nat × Bool} (hR : Rok R) {i : Nat} {l5 l6 l7 l8 : AV} (hI : INV N R) (hi : i + 5 ≤ X.1) (hX : X.1 < 2 ^ 31) : LR X N R L Z 880 i l5 l6 l7 l8 := by
  have j1 : i + 1 < X.1 := by omega
  have rs : RES X 184 136 [vI (X.2 (i + 1))] N R L Z := c184 (X := X) (x := X.2 (i + 1)) hR hI
  obtain ⟨k, y, L', C, R', W, Z', s, t, h0, hk, hy, hW, hZ⟩ := rs
  simp only [List.cons_append, List.nil_append] at s
  refine ⟨vI (nI k), vI y, l7, l8, L', R', W, Z', ?_, hW, hZ⟩
  by_cases q : k = 0
  · subst q
    simp (disch := first | assumption | omega | exact nI_or0 | exact nI_or1 | exact bN_or _) only [x200_880, x200_881, x200_882, x200_884, x200_885, x200_886, x200_887, x200_888, x200_891, x200_893, x200_894, x200_895, x200_897, x200_898, x200_899, x200_900, x200_903, x200_905, x200_906, x200_909, x200_911, x200_914, x200_915, x200_916, x200_918, x200_921, x200_922, x200_923, x200_924, x200_926, x200_927, x200_928, x200_931, x200_932, x200_933, reduceIte, Nat.reduceLT, nW_ap, nW_up, nI_add, pk_mul, nI_ltI, nI_eq, if_true, if_false, kont_r, kont_v, Nat.reduceAdd, Nat.reduceMul, Nat.not_lt, not_true_eq_false, not_false_eq_true, Nat.one_ne_zero, Nat.reduceEqDiff, Nat.lt_irrefl, reduceCtorEq, nI_or0, nI_or1, s, t, x90_0, x90_1, x90_4, in90, in90, h0, hy rfl, cmp_0]
  · simp (disch := first | assumption | omega | exact nI_or0 | exact nI_or1 | exact bN_or _) only [x200_880, x200_881, x200_882, x200_884, x200_885, x200_886, x200_887, x200_888, x200_891, x200_893, x200_894, x200_895, x200_897, x200_898, x200_899, x200_900, x200_903, x200_905, x200_906, x200_909, x200_911, x200_914, x200_915, x200_916, x200_918, x200_921, x200_922, x200_923, x200_924, x200_926, x200_927, x200_928, x200_931, x200_932, x200_933, reduceIte, Nat.reduceLT, nW_ap, nW_up, nI_add, pk_mul, nI_ltI, nI_eq, if_true, if_false, kont_r, kont_v, Nat.reduceAdd, Nat.reduceMul, Nat.not_lt, not_true_eq_false, not_false_eq_true, Nat.one_ne_zero, Nat.reduceEqDiff, Nat.lt_irrefl, reduceCtorEq, nI_or0, nI_or1, s, t, x90_0, x90_1, x90_4, in90, in90, h0, q]
theorem L_11 {X : XS} {N : GV} {R : GR} {L : GL} {Z : Nat × Nat × Bool} (hR : Rok R) {i : Nat} {l5 l6 l7 l8 : AV} (hI : INV N R) (hi : i + 5 ≤ X.1) (hX : X.1 < 2 ^ 31) : LR X N R L Z 936 i l5 l6 l7 l8 := by
  obtain ⟨y, C, W, s, t, hW⟩ := c57 (X := X) (L := L) (Z := Z) hR hI
  refine ⟨l5, l6, l7, l8, L, R, W, Z, ?_, hW, Or.inl rfl⟩
  simp (disch := first | assumption | omega | exact nI_or0 | exact nI_or1 | exact bN_or _) only [x200_936, x200_937, x200_940, x200_941, x200_944, x200_947, x200_948, reduceIte, Nat.reduceLT, nW_ap, nW_up, nI_add, pk_mul, nI_ltI, nI_eq, if_true, if_false, kont_r, kont_v, Nat.reduceAdd, Nat.reduceMul, Nat.not_lt, not_true_eq_false, not_false_eq_true, Nat.one_ne_zero, Nat.reduceEqDiff, Nat.lt_irrefl, reduceCtorEq, nI_or0, nI_or1, s, t]
theorem L_12 {X : XS} {N : GV} {R : GR} {L : GL} {Z : Nat × Nat × Bool} (hR : Rok R) {i : Nat} {l5 l6 l7 l8 : AV} (hI : INV N R) (hi : i + 5 ≤ X.1) (hX : X.1 < 2 ^ 31) : LR X N R L Z 949 i l5 l6 l7 l8 := by
  obtain ⟨y, C, W, s, t, hW⟩ := c58 (X := X) (L := L) (Z := Z) hR hI
  refine ⟨l5, l6, l7, l8, L, R, W, Z, ?_, hW, Or.inl rfl⟩
  simp (disch := first | assumption | omega | exact nI_or0 | exact nI_or1 | exact bN_or _) only [x200_949, x200_950, x200_953, x200_954, x200_957, x200_960, x200_961, reduceIte, Nat.reduceLT, nW_ap, nW_up, nI_add, pk_mul, nI_ltI, nI_eq, if_true, if_false, kont_r, kont_v, Nat.reduceAdd, Nat.reduceMul, Nat.not_lt, not_true_eq_false, not_false_eq_true, Nat.one_ne_zero, Nat.reduceEqDiff, Nat.lt_irrefl, reduceCtorEq, nI_or0, nI_or1, s, t]
theorem L_13 {X : XS} {N : GV} {R : GR} {L : GL} {Z : Nat × Nat × Bool} (hR : Rok R) {i : Nat} {l5 l6 l7 l8 : AV} (hI : INV N R) (hi : i + 5 ≤ X.1) (hX : X.1 < 2 ^ 31) : LR X N R L Z 962 i l5 l6 l7 l8 := by
  have rs : RES X 185 146 [] N R L Z := c185 (X := X) hR hI
  obtain ⟨k, y, L', C, R', W, Z', s, t, h0, hk, hy, hW, hZ⟩ := rs
  simp only [List.cons_append, List.nil_append] at s
  refine ⟨vI (nI k), vI y, l7, l8, L', R', W, Z', ?_, hW, hZ⟩
  by_cases q : k = 0
  · subst q
    simp (disch := first | assumption | omega | exact nI_or0 | exact nI_or1 | exact bN_or _) only [x200_962, x200_963, x200_964, x200_967, x200_969, x200_970, x200_973, x200_975, x200_976, x200_979, x200_981, x200_984, x200_985, x200_986, x200_988, x200_991, x200_992, x200_993, x200_994, x200_996, x200_997, x200_998, x200_1001, x200_1002, x200_1003, reduceIte, Nat.reduceLT, nW_ap, nW_up, nI_add, pk_mul, nI_ltI, nI_eq, if_true, if_false, kont_r, kont_v, Nat.reduceAdd, Nat.reduceMul, Nat.not_lt, not_true_eq_false, not_false_eq_true, Nat.one_ne_zero, Nat.reduceEqDiff, Nat.lt_irrefl, reduceCtorEq, nI_or0, nI_or1, s, t, x90_0, x90_1, x90_4, in90, in90, h0, hy rfl, cmp_0]
  · simp (disch := first | assumption | omega | exact nI_or0 | exact nI_or1 | exact bN_or _) only [x200_962, x200_963, x200_964, x200_967, x200_969, x200_970, x200_973, x200_975, x200_976, x200_979, x200_981, x200_984, x200_985, x200_986, x200_988, x200_991, x200_992, x200_993, x200_994, x200_996, x200_997, x200_998, x200_1001, x200_1002, x200_1003, reduceIte, Nat.reduceLT, nW_ap, nW_up, nI_add, pk_mul, nI_ltI, nI_eq, if_true, if_false, kont_r, kont_v, Nat.reduceAdd, Nat.reduceMul, Nat.not_lt, not_true_eq_false, not_false_eq_true, Nat.one_ne_zero, Nat.reduceEqDiff, Nat.lt_irrefl, reduceCtorEq, nI_or0, nI_or1, s, t, x90_0, x90_1, x90_4, in90, in90, h0, q]
theorem L_14 {X : XS} {N : GV} {R : GR} {L : GL} {Z : Nat × Nat × Bool} (hR : Rok R) {i : Nat} {l5 l6 l7 l8 : AV} (hI : INV N R) (hi : i + 5 ≤ X.1) (hX : X.1 < 2 ^ 31) : LR X N R L Z 1006 i l5 l6 l7 l8 := by
  have rs : RES X 186 147 [] N R L Z := c186 (X := X) hR hI
  obtain ⟨k, y, L', C, R', W, Z', s, t, h0, hk, hy, hW, hZ⟩ := rs
  simp only [List.cons_append, List.nil_append] at s
  refine ⟨vI (nI k), vI y, l7, l8, L', R', W, Z', ?_, hW, hZ⟩
  by_cases q : k = 0
  · subst q
    simp (disch := first | assumption | omega | exact nI_or0 | exact nI_or1 | exact bN_or _) only [x200_1006, x200_1007, x200_1008, x200_1011, x200_1013, x200_1014, x200_1017, x200_1019, x200_1020, x200_1023, x200_1025, x200_1028, x200_1029, x200_1030, x200_1032, x200_1035, x200_1036, x200_1037, x200_1038, x200_1040, x200_1041, x200_1042, x200_1045, x200_1046, x200_1047, reduceIte, Nat.reduceLT, nW_ap, nW_up, nI_add, pk_mul, nI_ltI, nI_eq, if_true, if_false, kont_r, kont_v, Nat.reduceAdd, Nat.reduceMul, Nat.not_lt, not_true_eq_false, not_false_eq_true, Nat.one_ne_zero, Nat.reduceEqDiff, Nat.lt_irrefl, reduceCtorEq, nI_or0, nI_or1, s, t, x90_0, x90_1, x90_4, in90, in90, h0, hy rfl, cmp_0]
  · simp (disch := first | assumption | omega | exact nI_or0 | exact nI_or1 | exact bN_or _) only [x200_1006, x200_1007, x200_1008, x200_1011, x200_1013, x200_1014, x200_1017, x200_1019, x200_1020, x200_1023, x200_1025, x200_1028, x200_1029, x200_1030, x200_1032, x200_1035, x200_1036, x200_1037, x200_1038, x200_1040, x200_1041, x200_1042, x200_1045, x200_1046, x200_1047, reduceIte, Nat.reduceLT, nW_ap, nW_up, nI_add, pk_mul, nI_ltI, nI_eq, if_true, if_false, kont_r, kont_v, Nat.reduceAdd, Nat.reduceMul, Nat.not_lt, not_true_eq_false, not_false_eq_true, Nat.one_ne_zero, Nat.reduceEqDiff, Nat.lt_irrefl, reduceCtorEq, nI_or0, nI_or1, s, t, x90_0, x90_1, x90_4, in90, in90, h0, q]
theorem L_15 {X : XS} {N : GV} {R : GR} {L : GL} {Z : Nat × Nat × Bool} (hR : Rok R) {i : Nat} {l5 l6 l7 l8 : AV} (hI : INV N R) (hi : i + 5 ≤ X.1) (hX : X.1 < 2 ^ 31) : LR X N R L Z 1050 i l5 l6 l7 l8 := by
  have j1 : i + 1 < X.1 := by omega
  have j2 : i + 2 < X.1 := by omega
  have rs : RES X 187 149 [vI (X.2 (i + 1)), vI (X.2 (i + 2))] N R L Z := c187 (X := X) (x := X.2 (i + 1)) (y := X.2 (i + 2)) hR hI
  obtain ⟨k, y, L', C, R', W, Z', s, t, h0, hk, hy, hW, hZ⟩ := rs
  simp only [List.cons_append, List.nil_append] at s
  refine ⟨vI (nI k), vI y, l7, l8, L', R', W, Z', ?_, hW, hZ⟩
  by_cases q : k = 0
  · subst q
    simp (disch := first | assumption | omega | exact nI_or0 | exact nI_or1 | exact bN_or _) only [x200_1050, x200_1051, x200_1052, x200_1054, x200_1055, x200_1056, x200_1057, x200_1058, x200_1060, x200_1061, x200_1062, x200_1063, x200_1064, x200_1067, x200_1069, x200_1070, x200_1071, x200_1073, x200_1074, x200_1075, x200_1076, x200_1077, x200_1079, x200_1080, x200_1081, x200_1082, x200_1085, x200_1087, x200_1088, x200_1091, x200_1093, x200_1096, x200_1097, x200_1098, x200_1100, x200_1103, x200_1104, x200_1105, x200_1106, x200_1108, x200_1109, x200_1110, x200_1113, x200_1114, x200_1115, reduceIte, Nat.reduceLT, nW_ap, nW_up, nI_add, pk_mul, nI_ltI, nI_eq, if_true, if_false, kont_r, kont_v, Nat.reduceAdd, Nat.reduceMul, Nat.not_lt, not_true_eq_false, not_false_eq_true, Nat.one_ne_zero, Nat.reduceEqDiff, Nat.lt_irrefl, reduceCtorEq, nI_or0, nI_or1, s, t, x90_0, x90_1, x90_4, in90, in90, h0, hy rfl, cmp_0]
  · simp (disch := first | assumption | omega | exact nI_or0 | exact nI_or1 | exact bN_or _) only [x200_1050, x200_1051, x200_1052, x200_1054, x200_1055, x200_1056, x200_1057, x200_1058, x200_1060, x200_1061, x200_1062, x200_1063, x200_1064, x200_1067, x200_1069, x200_1070, x200_1071, x200_1073, x200_1074, x200_1075, x200_1076, x200_1077, x200_1079, x200_1080, x200_1081, x200_1082, x200_1085, x200_1087, x200_1088, x200_1091, x200_1093, x200_1096, x200_1097, x200_1098, x200_1100, x200_1103, x200_1104, x200_1105, x200_1106, x200_1108, x200_1109, x200_1110, x200_1113, x200_1114, x200_1115, reduceIte, Nat.reduceLT, nW_ap, nW_up, nI_add, pk_mul, nI_ltI, nI_eq, if_true, if_false, kont_r, kont_v, Nat.reduceAdd, Nat.reduceMul, Nat.not_lt, not_true_eq_false, not_false_eq_true, Nat.one_ne_zero, Nat.reduceEqDiff, Nat.lt_irrefl, reduceCtorEq, nI_or0, nI_or1, s, t, x90_0, x90_1, x90_4, in90, in90, h0, q]
theorem L_16 {X : XS} {N : GV} {R : GR} {L : GL} {Z : Nat × Nat × Bool} (hR : Rok R) {i : Nat} {l5 l6 l7 l8 : AV} (hI : INV N R) (hi : i + 5 ≤ X.1) (hX : X.1 < 2 ^ 31) : LR X N R L Z 1118 i l5 l6 l7 l8 := by
  have j1 : i + 1 < X.1 := by omega
  have j2 : i + 2 < X.1 := by omega
  have rs : RES X 188 152 [vI (X.2 (i + 1)), vI (X.2 (i + 2))] N R L Z := c188 (X := X) (x := X.2 (i + 1)) (y := X.2 (i + 2)) hR hI
  obtain ⟨k, y, L', C, R', W, Z', s, t, h0, hk, hy, hW, hZ⟩ := rs
  simp only [List.cons_append, List.nil_append] at s
  refine ⟨vI (nI k), vI y, l7, l8, L', R', W, Z', ?_, hW, hZ⟩
  by_cases q : k = 0
  · subst q
    simp (disch := first | assumption | omega | exact nI_or0 | exact nI_or1 | exact bN_or _) only [x200_1118, x200_1119, x200_1120, x200_1122, x200_1123, x200_1124, x200_1125, x200_1126, x200_1128, x200_1129, x200_1130, x200_1131, x200_1132, x200_1135, x200_1137, x200_1138, x200_1139, x200_1141, x200_1142, x200_1143, x200_1144, x200_1145, x200_1147, x200_1148, x200_1149, x200_1150, x200_1153, x200_1155, x200_1156, x200_1159, x200_1161, x200_1164, x200_1165, x200_1166, x200_1168, x200_1171, x200_1172, x200_1173, x200_1174, x200_1176, x200_1177, x200_1178, x200_1181, x200_1182, x200_1183, reduceIte, Nat.reduceLT, nW_ap, nW_up, nI_add, pk_mul, nI_ltI, nI_eq, if_true, if_false, kont_r, kont_v, Nat.reduceAdd, Nat.reduceMul, Nat.not_lt, not_true_eq_false, not_false_eq_true, Nat.one_ne_zero, Nat.reduceEqDiff, Nat.lt_irrefl, reduceCtorEq, nI_or0, nI_or1, s, t, x90_0, x90_1, x90_4, in90, in90, h0, hy rfl, cmp_0]
  · simp (disch := first | assumption | omega | exact nI_or0 | exact nI_or1 | exact bN_or _) only [x200_1118, x200_1119, x200_1120, x200_1122, x200_1123, x200_1124, x200_1125, x200_1126, x200_1128, x200_1129, x200_1130, x200_1131, x200_1132, x200_1135, x200_1137, x200_1138, x200_1139, x200_1141, x200_1142, x200_1143, x200_1144, x200_1145, x200_1147, x200_1148, x200_1149, x200_1150, x200_1153, x200_1155, x200_1156, x200_1159, x200_1161, x200_1164, x200_1165, x200_1166, x200_1168, x200_1171, x200_1172, x200_1173, x200_1174, x200_1176, x200_1177, x200_1178, x200_1181, x200_1182, x200_1183, reduceIte, Nat.reduceLT, nW_ap, nW_up, nI_add, pk_mul, nI_ltI, nI_eq, if_true, if_false, kont_r, kont_v, Nat.reduceAdd, Nat.reduceMul, Nat.not_lt, not_true_eq_false, not_false_eq_true, Nat.one_ne_zero, Nat.reduceEqDiff, Nat.lt_irrefl, reduceCtorEq, nI_or0, nI_or1, s, t, x90_0, x90_1, x90_4, in90, in90, h0, q]
theorem L_17 {X : XS} {N : GV} {R : GR} {L : GL} {Z : Nat × Nat × Bool} (hR : Rok R) {i : Nat} {l5 l6 l7 l8 : AV} (hI : INV N R) (hi : i + 5 ≤ X.1) (hX : X.1 < 2 ^ 31) : LR X N R L Z 1186 i l5 l6 l7 l8 := by
  have j1 : i + 1 < X.1 := by omega
  have j2 : i + 2 < X.1 := by omega
  have rs : RES X 189 153 [vI (X.2 (i + 1)), vI (X.2 (i + 2))] N R L Z := c189 (X := X) (x := X.2 (i + 1)) (y := X.2 (i + 2)) hR hI
  obtain ⟨k, y, L', C, R', W, Z', s, t, h0, hk, hy, hW, hZ⟩ := rs
  simp only [List.cons_append, List.nil_append] at s
  refine ⟨vI (nI k), vI y, l7, l8, L', R', W, Z', ?_, hW, hZ⟩
  by_cases q : k = 0
  · subst q
    simp (disch := first | assumption | omega | exact nI_or0 | exact nI_or1 | exact bN_or _) only [x200_1186, x200_1187, x200_1188, x200_1190, x200_1191, x200_1192, x200_1193, x200_1194, x200_1196, x200_1197, x200_1198, x200_1199, x200_1200, x200_1203, x200_1205, x200_1206, x200_1207, x200_1209, x200_1210, x200_1211, x200_1212, x200_1213, x200_1215, x200_1216, x200_1217, x200_1218, x200_1221, x200_1223, x200_1224, x200_1227, x200_1229, x200_1232, x200_1233, x200_1234, x200_1236, x200_1239, x200_1240, x200_1241, x200_1242, x200_1244, x200_1245, x200_1246, x200_1249, x200_1250, x200_1251, reduceIte, Nat.reduceLT, nW_ap, nW_up, nI_add, pk_mul, nI_ltI, nI_eq, if_true, if_false, kont_r, kont_v, Nat.reduceAdd, Nat.reduceMul, Nat.not_lt, not_true_eq_false, not_false_eq_true, Nat.one_ne_zero, Nat.reduceEqDiff, Nat.lt_irrefl, reduceCtorEq, nI_or0, nI_or1, s, t, x90_0, x90_1, x90_4, in90, in90, h0, hy rfl, cmp_0]
  · simp (disch := first | assumption | omega | exact nI_or0 | exact nI_or1 | exact bN_or _) only [x200_1186, x200_1187, x200_1188, x200_1190, x200_1191, x200_1192, x200_1193, x200_1194, x200_1196, x200_1197, x200_1198, x200_1199, x200_1200, x200_1203, x200_1205, x200_1206, x200_1207, x200_1209, x200_1210, x200_1211, x200_1212, x200_1213, x200_1215, x200_1216, x200_1217, x200_1218, x200_1221, x200_1223, x200_1224, x200_1227, x200_1229, x200_1232, x200_1233, x200_1234, x200_1236, x200_1239, x200_1240, x200_1241, x200_1242, x200_1244, x200_1245, x200_1246, x200_1249, x200_1250, x200_1251, reduceIte, Nat.reduceLT, nW_ap, nW_up, nI_add, pk_mul, nI_ltI, nI_eq, if_true, if_false, kont_r, kont_v, Nat.reduceAdd, Nat.reduceMul, Nat.not_lt, not_true_eq_false, not_false_eq_true, Nat.one_ne_zero, Nat.reduceEqDiff, Nat.lt_irrefl, reduceCtorEq, nI_or0, nI_or1, s, t, x90_0, x90_1, x90_4, in90, in90, h0, q]
theorem L_18 {X : XS} {N : GV} {R : GR} {L : GL} {Z : Nat × Nat × Bool} (hR : Rok R) {i : Nat} {l5 l6 l7 l8 : AV} (hI : INV N R) (hi : i + 5 ≤ X.1) (hX : X.1 < 2 ^ 31) : LR X N R L Z 1254 i l5 l6 l7 l8 := by
  have j1 : i + 1 < X.1 := by omega
  have j2 : i + 2 < X.1 := by omega
  have rs : RES X 190 155 [vI (X.2 (i + 1)), vI (X.2 (i + 2))] N R L Z := c190 (X := X) (x := X.2 (i + 1)) (y := X.2 (i + 2)) hR hI
  obtain ⟨k, y, L', C, R', W, Z', s, t, h0, hk, hy, hW, hZ⟩ := rs
  simp only [List.cons_append, List.nil_append] at s
  refine ⟨vI (nI k), vI y, l7, l8, L', R', W, Z', ?_, hW, hZ⟩
  by_cases q : k = 0
  · subst q
    simp (disch := first | assumption | omega | exact nI_or0 | exact nI_or1 | exact bN_or _) only [x200_1254, x200_1255, x200_1256, x200_1258, x200_1259, x200_1260, x200_1261, x200_1262, x200_1264, x200_1265, x200_1266, x200_1267, x200_1268, x200_1271, x200_1273, x200_1274, x200_1275, x200_1277, x200_1278, x200_1279, x200_1280, x200_1281, x200_1283, x200_1284, x200_1285, x200_1286, x200_1289, x200_1291, x200_1292, x200_1295, x200_1297, x200_1300, x200_1301, x200_1302, x200_1304, x200_1307, x200_1308, x200_1309, x200_1310, x200_1312, x200_1313, x200_1314, x200_1317, x200_1318, x200_1319, reduceIte, Nat.reduceLT, nW_ap, nW_up, nI_add, pk_mul, nI_ltI, nI_eq, if_true, if_false, kont_r, kont_v, Nat.reduceAdd, Nat.reduceMul, Nat.not_lt, not_true_eq_false, not_false_eq_true, Nat.one_ne_zero, Nat.reduceEqDiff, Nat.lt_irrefl, reduceCtorEq, nI_or0, nI_or1, s, t, x90_0, x90_1, x90_4, in90, in90, h0, hy rfl, cmp_0]
  · simp (disch := first | assumption | omega | exact nI_or0 | exact nI_or1 | exact bN_or _) only [x200_1254, x200_1255, x200_1256, x200_1258, x200_1259, x200_1260, x200_1261, x200_1262, x200_1264, x200_1265, x200_1266, x200_1267, x200_1268, x200_1271, x200_1273, x200_1274, x200_1275, x200_1277, x200_1278, x200_1279, x200_1280, x200_1281, x200_1283, x200_1284, x200_1285, x200_1286, x200_1289, x200_1291, x200_1292, x200_1295, x200_1297, x200_1300, x200_1301, x200_1302, x200_1304, x200_1307, x200_1308, x200_1309, x200_1310, x200_1312, x200_1313, x200_1314, x200_1317, x200_1318, x200_1319, reduceIte, Nat.reduceLT, nW_ap, nW_up, nI_add, pk_mul, nI_ltI, nI_eq, if_true, if_false, kont_r, kont_v, Nat.reduceAdd, Nat.reduceMul, Nat.not_lt, not_true_eq_false, not_false_eq_true, Nat.one_ne_zero, Nat.reduceEqDiff, Nat.lt_irrefl, reduceCtorEq, nI_or0, nI_or1, s, t, x90_0, x90_1, x90_4, in90, in90, h0, q]
theorem L_19 {X : XS} {N : GV} {R : GR} {L : GL} {Z : Nat × Nat × Bool} (hR : Rok R) {i : Nat} {l5 l6 l7 l8 : AV} (hI : INV N R) (hi : i + 5 ≤ X.1) (hX : X.1 < 2 ^ 31) : LR X N R L Z 1322 i l5 l6 l7 l8 := by
  have j1 : i + 1 < X.1 := by omega
  have rs : RES X 191 157 [vI (X.2 (i + 1))] N R L Z := c191 (X := X) (x := X.2 (i + 1)) hR hI
  obtain ⟨k, y, L', C, R', W, Z', s, t, h0, hk, hy, hW, hZ⟩ := rs
  simp only [List.cons_append, List.nil_append] at s
  refine ⟨vI (nI k), vI y, l7, l8, L', R', W, Z', ?_, hW, hZ⟩
  by_cases q : k = 0
  · subst q
    simp (disch := first | assumption | omega | exact nI_or0 | exact nI_or1 | exact bN_or _) only [x200_1322, x200_1323, x200_1324, x200_1326, x200_1327, x200_1328, x200_1329, x200_1330, x200_1333, x200_1335, x200_1336, x200_1337, x200_1339, x200_1340, x200_1341, x200_1342, x200_1345, x200_1347, x200_1348, x200_1351, x200_1353, x200_1356, x200_1357, x200_1358, x200_1360, x200_1363, x200_1364, x200_1365, x200_1366, x200_1368, x200_1369, x200_1370, x200_1373, x200_1374, x200_1375, reduceIte, Nat.reduceLT, nW_ap, nW_up, nI_add, pk_mul, nI_ltI, nI_eq, if_true, if_false, kont_r, kont_v, Nat.reduceAdd, Nat.reduceMul, Nat.not_lt, not_true_eq_false, not_false_eq_true, Nat.one_ne_zero, Nat.reduceEqDiff, Nat.lt_irrefl, reduceCtorEq, nI_or0, nI_or1, s, t, x90_0, x90_1, x90_4, in90, in90, h0, hy rfl, cmp_0]
  · simp (disch := first | assumption | omega | exact nI_or0 | exact nI_or1 | exact bN_or _) only [x200_1322, x200_1323, x200_1324, x200_1326, x200_1327, x200_1328, x200_1329, x200_1330, x200_1333, x200_1335, x200_1336, x200_1337, x200_1339, x200_1340, x200_1341, x200_1342, x200_1345, x200_1347, x200_1348, x200_1351, x200_1353, x200_1356, x200_1357, x200_1358, x200_1360, x200_1363, x200_1364, x200_1365, x200_1366, x200_1368, x200_1369, x200_1370, x200_1373, x200_1374, x200_1375, reduceIte, Nat.reduceLT, nW_ap, nW_up, nI_add, pk_mul, nI_ltI, nI_eq, if_true, if_false, kont_r, kont_v, Nat.reduceAdd, Nat.reduceMul, Nat.not_lt, not_true_eq_false, not_false_eq_true, Nat.one_ne_zero, Nat.reduceEqDiff, Nat.lt_irrefl, reduceCtorEq, nI_or0, nI_or1, s, t, x90_0, x90_1, x90_4, in90, in90, h0, q]
theorem L_20 {X : XS} {N : GV} {R : GR} {L : GL} {Z : Nat × Nat × Bool} (hR : Rok R) {i : Nat} {l5 l6 l7 l8 : AV} (hI : INV N R) (hi : i + 5 ≤ X.1) (hX : X.1 < 2 ^ 31) : LR X N R L Z 1378 i l5 l6 l7 l8 := by
  have j1 : i + 1 < X.1 := by omega
  have rs : RES X 192 158 [vI (X.2 (i + 1))] N R L Z := c192 (X := X) (x := X.2 (i + 1)) hR hI
  obtain ⟨k, y, L', C, R', W, Z', s, t, h0, hk, hy, hW, hZ⟩ := rs
  simp only [List.cons_append, List.nil_append] at s
  refine ⟨vI (nI k), vI y, l7, l8, L', R', W, Z', ?_, hW, hZ⟩
  by_cases q : k = 0
  · subst q
    simp (disch := first | assumption | omega | exact nI_or0 | exact nI_or1 | exact bN_or _) only [x200_1378, x200_1379, x200_1380, x200_1382, x200_1383, x200_1384, x200_1385, x200_1386, x200_1389, x200_1391, x200_1392, x200_1393, x200_1395, x200_1396, x200_1397, x200_1398, x200_1401, x200_1403, x200_1404, x200_1407, x200_1409, x200_1412, x200_1413, x200_1414, x200_1416, x200_1419, x200_1420, x200_1421, x200_1422, x200_1424, x200_1425, x200_1426, x200_1429, x200_1430, x200_1431, reduceIte, Nat.reduceLT, nW_ap, nW_up, nI_add, pk_mul, nI_ltI, nI_eq, if_true, if_false, kont_r, kont_v, Nat.reduceAdd, Nat.reduceMul, Nat.not_lt, not_true_eq_false, not_false_eq_true, Nat.one_ne_zero, Nat.reduceEqDiff, Nat.lt_irrefl, reduceCtorEq, nI_or0, nI_or1, s, t, x90_0, x90_1, x90_4, in90, in90, h0, hy rfl, cmp_0]
  · simp (disch := first | assumption | omega | exact nI_or0 | exact nI_or1 | exact bN_or _) only [x200_1378, x200_1379, x200_1380, x200_1382, x200_1383, x200_1384, x200_1385, x200_1386, x200_1389, x200_1391, x200_1392, x200_1393, x200_1395, x200_1396, x200_1397, x200_1398, x200_1401, x200_1403, x200_1404, x200_1407, x200_1409, x200_1412, x200_1413, x200_1414, x200_1416, x200_1419, x200_1420, x200_1421, x200_1422, x200_1424, x200_1425, x200_1426, x200_1429, x200_1430, x200_1431, reduceIte, Nat.reduceLT, nW_ap, nW_up, nI_add, pk_mul, nI_ltI, nI_eq, if_true, if_false, kont_r, kont_v, Nat.reduceAdd, Nat.reduceMul, Nat.not_lt, not_true_eq_false, not_false_eq_true, Nat.one_ne_zero, Nat.reduceEqDiff, Nat.lt_irrefl, reduceCtorEq, nI_or0, nI_or1, s, t, x90_0, x90_1, x90_4, in90, in90, h0, q]
theorem L_21 {X : XS} {N : GV} {R : GR} {L : GL} {Z : Nat × Nat × Bool} (hR : Rok R) {i : Nat} {l5 l6 l7 l8 : AV} (hI : INV N R) (hi : i + 5 ≤ X.1) (hX : X.1 < 2 ^ 31) : LR X N R L Z 1434 i l5 l6 l7 l8 := by
  have j1 : i + 1 < X.1 := by omega
  have j2 : i + 2 < X.1 := by omega
  have rs : RES X 193 160 [vI (X.2 (i + 1)), vI (X.2 (i + 2))] N R L Z := c193 (X := X) (x := X.2 (i + 1)) (y := X.2 (i + 2)) hR hI
  obtain ⟨k, y, L', C, R', W, Z', s, t, h0, hk, hy, hW, hZ⟩ := rs
  simp only [List.cons_append, List.nil_append] at s
  refine ⟨vI (nI k), vI y, l7, l8, L', R', W, Z', ?_, hW, hZ⟩
  by_cases q : k = 0
  · subst q
    simp (disch := first | assumption | omega | exact nI_or0 | exact nI_or1 | exact bN_or _) only [x200_1434, x200_1435, x200_1436, x200_1438, x200_1439, x200_1440, x200_1441, x200_1442, x200_1444, x200_1445, x200_1446, x200_1447, x200_1448, x200_1451, x200_1453, x200_1454, x200_1455, x200_1457, x200_1458, x200_1459, x200_1460, x200_1461, x200_1463, x200_1464, x200_1465, x200_1466, x200_1469, x200_1471, x200_1472, x200_1475, x200_1477, x200_1480, x200_1481, x200_1482, x200_1484, x200_1487, x200_1488, x200_1489, x200_1490, x200_1492, x200_1493, x200_1494, x200_1497, x200_1498, x200_1499, reduceIte, Nat.reduceLT, nW_ap, nW_up, nI_add, pk_mul, nI_ltI, nI_eq, if_true, if_false, kont_r, kont_v, Nat.reduceAdd, Nat.reduceMul, Nat.not_lt, not_true_eq_false, not_false_eq_true, Nat.one_ne_zero, Nat.reduceEqDiff, Nat.lt_irrefl, reduceCtorEq, nI_or0, nI_or1, s, t, x90_0, x90_1, x90_4, in90, in90, h0, hy rfl, cmp_0]
  · simp (disch := first | assumption | omega | exact nI_or0 | exact nI_or1 | exact bN_or _) only [x200_1434, x200_1435, x200_1436, x200_1438, x200_1439, x200_1440, x200_1441, x200_1442, x200_1444, x200_1445, x200_1446, x200_1447, x200_1448, x200_1451, x200_1453, x200_1454, x200_1455, x200_1457, x200_1458, x200_1459, x200_1460, x200_1461, x200_1463, x200_1464, x200_1465, x200_1466, x200_1469, x200_1471, x200_1472, x200_1475, x200_1477, x200_1480, x200_1481, x200_1482, x200_1484, x200_1487, x200_1488, x200_1489, x200_1490, x200_1492, x200_1493, x200_1494, x200_1497, x200_1498, x200_1499, reduceIte, Nat.reduceLT, nW_ap, nW_up, nI_add, pk_mul, nI_ltI, nI_eq, if_true, if_false, kont_r, kont_v, Nat.reduceAdd, Nat.reduceMul, Nat.not_lt, not_true_eq_false, not_false_eq_true, Nat.one_ne_zero, Nat.reduceEqDiff, Nat.lt_irrefl, reduceCtorEq, nI_or0, nI_or1, s, t, x90_0, x90_1, x90_4, in90, in90, h0, q]
theorem L_22 {X : XS} {N : GV} {R : GR} {L : GL} {Z : Nat × Nat × Bool} (hR : Rok R) {i : Nat} {l5 l6 l7 l8 : AV} (hI : INV N R) (hi : i + 5 ≤ X.1) (hX : X.1 < 2 ^ 31) : LR X N R L Z 1502 i l5 l6 l7 l8 := by
  have j1 : i + 1 < X.1 := by omega
  have j2 : i + 2 < X.1 := by omega
  have rs : RES X 194 162 [vI (X.2 (i + 1)), vI (X.2 (i + 2))] N R L Z := c194 (X := X) (x := X.2 (i + 1)) (y := X.2 (i + 2)) hR hI
  obtain ⟨k, y, L', C, R', W, Z', s, t, h0, hk, hy, hW, hZ⟩ := rs
  simp only [List.cons_append, List.nil_append] at s
  refine ⟨vI (nI k), vI y, l7, l8, L', R', W, Z', ?_, hW, hZ⟩
  by_cases q : k = 0
  · subst q
    simp (disch := first | assumption | omega | exact nI_or0 | exact nI_or1 | exact bN_or _) only [x200_1502, x200_1503, x200_1504, x200_1506, x200_1507, x200_1508, x200_1509, x200_1510, x200_1512, x200_1513, x200_1514, x200_1515, x200_1516, x200_1519, x200_1521, x200_1522, x200_1523, x200_1525, x200_1526, x200_1527, x200_1528, x200_1529, x200_1531, x200_1532, x200_1533, x200_1534, x200_1537, x200_1539, x200_1540, x200_1543, x200_1545, x200_1548, x200_1549, x200_1550, x200_1552, x200_1555, x200_1556, x200_1557, x200_1558, x200_1560, x200_1561, x200_1562, x200_1565, x200_1566, x200_1567, reduceIte, Nat.reduceLT, nW_ap, nW_up, nI_add, pk_mul, nI_ltI, nI_eq, if_true, if_false, kont_r, kont_v, Nat.reduceAdd, Nat.reduceMul, Nat.not_lt, not_true_eq_false, not_false_eq_true, Nat.one_ne_zero, Nat.reduceEqDiff, Nat.lt_irrefl, reduceCtorEq, nI_or0, nI_or1, s, t, x90_0, x90_1, x90_4, in90, in90, h0, hy rfl, cmp_0]
  · simp (disch := first | assumption | omega | exact nI_or0 | exact nI_or1 | exact bN_or _) only [x200_1502, x200_1503, x200_1504, x200_1506, x200_1507, x200_1508, x200_1509, x200_1510, x200_1512, x200_1513, x200_1514, x200_1515, x200_1516, x200_1519, x200_1521, x200_1522, x200_1523, x200_1525, x200_1526, x200_1527, x200_1528, x200_1529, x200_1531, x200_1532, x200_1533, x200_1534, x200_1537, x200_1539, x200_1540, x200_1543, x200_1545, x200_1548, x200_1549, x200_1550, x200_1552, x200_1555, x200_1556, x200_1557, x200_1558, x200_1560, x200_1561, x200_1562, x200_1565, x200_1566, x200_1567, reduceIte, Nat.reduceLT, nW_ap, nW_up, nI_add, pk_mul, nI_ltI, nI_eq, if_true, if_false, kont_r, kont_v, Nat.reduceAdd, Nat.reduceMul, Nat.not_lt, not_true_eq_false, not_false_eq_true, Nat.one_ne_zero, Nat.reduceEqDiff, Nat.lt_irrefl, reduceCtorEq, nI_or0, nI_or1, s, t, x90_0, x90_1, x90_4, in90, in90, h0, q]
theorem L_23 {X : XS} {N : GV} {R : GR} {L : GL} {Z : Nat × Nat × Bool} (hR : Rok R) {i : Nat} {l5 l6 l7 l8 : AV} (hI : INV N R) (hi : i + 5 ≤ X.1) (hX : X.1 < 2 ^ 31) : LR X N R L Z 1570 i l5 l6 l7 l8 := by
  have j1 : i + 1 < X.1 := by omega
  have rs : RES X 195 164 [vI (X.2 (i + 1))] N R L Z := c195 (X := X) (x := X.2 (i + 1)) hR hI
  obtain ⟨k, y, L', C, R', W, Z', s, t, h0, hk, hy, hW, hZ⟩ := rs
  simp only [List.cons_append, List.nil_append] at s
  refine ⟨vI (nI k), vI y, l7, l8, L', R', W, Z', ?_, hW, hZ⟩
  by_cases q : k = 0
  · subst q
    simp (disch := first | assumption | omega | exact nI_or0 | exact nI_or1 | exact bN_or _) only [x200_1570, x200_1571, x200_1572, x200_1574, x200_1575, x200_1576, x200_1577, x200_1578, x200_1581, x200_1583, x200_1584, x200_1585, x200_1587, x200_1588, x200_1589, x200_1590, x200_1593, x200_1595, x200_1596, x200_1599, x200_1601, x200_1604, x200_1605, x200_1606, x200_1608, x200_1611, x200_1612, x200_1613, x200_1614, x200_1616, x200_1617, x200_1618, x200_1621, x200_1622, x200_1623, reduceIte, Nat.reduceLT, nW_ap, nW_up, nI_add, pk_mul, nI_ltI, nI_eq, if_true, if_false, kont_r, kont_v, Nat.reduceAdd, Nat.reduceMul, Nat.not_lt, not_true_eq_false, not_false_eq_true, Nat.one_ne_zero, Nat.reduceEqDiff, Nat.lt_irrefl, reduceCtorEq, nI_or0, nI_or1, s, t, x90_0, x90_1, x90_4, in90, in90, h0, hy rfl, cmp_0]
  · simp (disch := first | assumption | omega | exact nI_or0 | exact nI_or1 | exact bN_or _) only [x200_1570, x200_1571, x200_1572, x200_1574, x200_1575, x200_1576, x200_1577, x200_1578, x200_1581, x200_1583, x200_1584, x200_1585, x200_1587, x200_1588, x200_1589, x200_1590, x200_1593, x200_1595, x200_1596, x200_1599, x200_1601, x200_1604, x200_1605, x200_1606, x200_1608, x200_1611, x200_1612, x200_1613, x200_1614, x200_1616, x200_1617, x200_1618, x200_1621, x200_1622, x200_1623, reduceIte, Nat.reduceLT, nW_ap, nW_up, nI_add, pk_mul, nI_ltI, nI_eq, if_true, if_false, kont_r, kont_v, Nat.reduceAdd, Nat.reduceMul, Nat.not_lt, not_true_eq_false, not_false_eq_true, Nat.one_ne_zero, Nat.reduceEqDiff, Nat.lt_irrefl, reduceCtorEq, nI_or0, nI_or1, s, t, x90_0, x90_1, x90_4, in90, in90, h0, q]
theorem L_24 {X : XS} {N : GV} {R : GR} {L : GL} {Z : Nat × Nat × Bool} (hR : Rok R) {i : Nat} {l5 l6 l7 l8 : AV} (hI : INV N R) (hi : i + 5 ≤ X.1) (hX : X.1 < 2 ^ 31) : LR X N R L Z 1626 i l5 l6 l7 l8 := by
  have j1 : i + 1 < X.1 := by omega
  have rs : RES X 196 167 [vI (X.2 (i + 1))] N R L Z := c196 (X := X) (x := X.2 (i + 1)) hR hI
  obtain ⟨k, y, L', C, R', W, Z', s, t, h0, hk, hy, hW, hZ⟩ := rs
  simp only [List.cons_append, List.nil_append] at s
  refine ⟨vI (nI k), vI y, l7, l8, L', R', W, Z', ?_, hW, hZ⟩
  by_cases q : k = 0
  · subst q
    simp (disch := first | assumption | omega | exact nI_or0 | exact nI_or1 | exact bN_or _) only [x200_1626, x200_1627, x200_1628, x200_1630, x200_1631, x200_1632, x200_1633, x200_1634, x200_1637, x200_1639, x200_1640, x200_1641, x200_1643, x200_1644, x200_1645, x200_1646, x200_1649, x200_1651, x200_1652, x200_1655, x200_1657, x200_1660, x200_1661, x200_1662, x200_1664, x200_1667, x200_1668, x200_1669, x200_1670, x200_1672, x200_1673, x200_1674, x200_1677, x200_1678, x200_1679, reduceIte, Nat.reduceLT, nW_ap, nW_up, nI_add, pk_mul, nI_ltI, nI_eq, if_true, if_false, kont_r, kont_v, Nat.reduceAdd, Nat.reduceMul, Nat.not_lt, not_true_eq_false, not_false_eq_true, Nat.one_ne_zero, Nat.reduceEqDiff, Nat.lt_irrefl, reduceCtorEq, nI_or0, nI_or1, s, t, x90_0, x90_1, x90_4, in90, in90, h0, hy rfl, cmp_0]
  · simp (disch := first | assumption | omega | exact nI_or0 | exact nI_or1 | exact bN_or _) only [x200_1626, x200_1627, x200_1628, x200_1630, x200_1631, x200_1632, x200_1633, x200_1634, x200_1637, x200_1639, x200_1640, x200_1641, x200_1643, x200_1644, x200_1645, x200_1646, x200_1649, x200_1651, x200_1652, x200_1655, x200_1657, x200_1660, x200_1661, x200_1662, x200_1664, x200_1667, x200_1668, x200_1669, x200_1670, x200_1672, x200_1673, x200_1674, x200_1677, x200_1678, x200_1679, reduceIte, Nat.reduceLT, nW_ap, nW_up, nI_add, pk_mul, nI_ltI, nI_eq, if_true, if_false, kont_r, kont_v, Nat.reduceAdd, Nat.reduceMul, Nat.not_lt, not_true_eq_false, not_false_eq_true, Nat.one_ne_zero, Nat.reduceEqDiff, Nat.lt_irrefl, reduceCtorEq, nI_or0, nI_or1, s, t, x90_0, x90_1, x90_4, in90, in90, h0, q]
theorem L_25 {X : XS} {N : GV} {R : GR} {L : GL} {Z : Nat × Nat × Bool} (hR : Rok R) {i : Nat} {l5 l6 l7 l8 : AV} (hI : INV N R) (hi : i + 5 ≤ X.1) (hX : X.1 < 2 ^ 31) : LR X N R L Z 1682 i l5 l6 l7 l8 := by
  have j1 : i + 1 < X.1 := by omega
  have rs : RES X 197 169 [vI (X.2 (i + 1))] N R L Z := c197 (X := X) (x := X.2 (i + 1)) hR hI
  obtain ⟨k, y, L', C, R', W, Z', s, t, h0, hk, hy, hW, hZ⟩ := rs
  simp only [List.cons_append, List.nil_append] at s
  refine ⟨vI (nI k), vI y, l7, l8, L', R', W, Z', ?_, hW, hZ⟩
  by_cases q : k = 0
  · subst q
    simp (disch := first | assumption | omega | exact nI_or0 | exact nI_or1 | exact bN_or _) only [x200_1682, x200_1683, x200_1684, x200_1686, x200_1687, x200_1688, x200_1689, x200_1690, x200_1693, x200_1695, x200_1696, x200_1697, x200_1699, x200_1700, x200_1701, x200_1702, x200_1705, x200_1707, x200_1708, x200_1711, x200_1713, x200_1716, x200_1717, x200_1718, x200_1720, x200_1723, x200_1724, x200_1725, x200_1726, x200_1728, x200_1729, x200_1730, x200_1733, x200_1734, x200_1735, reduceIte, Nat.reduceLT, nW_ap, nW_up, nI_add, pk_mul, nI_ltI, nI_eq, if_true, if_false, kont_r, kont_v, Nat.reduceAdd, Nat.reduceMul, Nat.not_lt, not_true_eq_false, not_false_eq_true, Nat.one_ne_zero, Nat.reduceEqDiff, Nat.lt_irrefl, reduceCtorEq, nI_or0, nI_or1, s, t, x90_0, x90_1, x90_4, in90, in90, h0, hy rfl, cmp_0]
  · simp (disch := first | assumption | omega | exact nI_or0 | exact nI_or1 | exact bN_or _) only [x200_1682, x200_1683, x200_1684, x200_1686, x200_1687, x200_1688, x200_1689, x200_1690, x200_1693, x200_1695, x200_1696, x200_1697, x200_1699, x200_1700, x200_1701, x200_1702, x200_1705, x200_1707, x200_1708, x200_1711, x200_1713, x200_1716, x200_1717, x200_1718, x200_1720, x200_1723, x200_1724, x200_1725, x200_1726, x200_1728, x200_1729, x200_1730, x200_1733, x200_1734, x200_1735, reduceIte, Nat.reduceLT, nW_ap, nW_up, nI_add, pk_mul, nI_ltI, nI_eq, if_true, if_false, kont_r, kont_v, Nat.reduceAdd, Nat.reduceMul, Nat.not_lt, not_true_eq_false, not_false_eq_true, Nat.one_ne_zero, Nat.reduceEqDiff, Nat.lt_irrefl, reduceCtorEq, nI_or0, nI_or1, s, t, x90_0, x90_1, x90_4, in90, in90, h0, q]
theorem L_26 {X : XS} {N : GV} {R : GR} {L : GL} {Z : Nat × Nat × Bool} (hR : Rok R) {i : Nat} {l5 l6 l7 l8 : AV} (hI : INV N R) (hi : i + 5 ≤ X.1) (hX : X.1 < 2 ^ 31) : LR X N R L Z 1738 i l5 l6 l7 l8 := by
  obtain ⟨s, t, hW, _⟩ := c72 (X := X) (L := L) (Z := Z) hR hI
  generalize fedV (N 22 0) = x at s t
  refine ⟨vD x, vU, vD x, vU, L, R, er N 0, Z, ?_, hW, Or.inl rfl⟩
  by_cases h : Op.cmpValue (FP.dcmp x x) .l = nI 0
  · simp (disch := first | assumption | omega | exact nI_or0 | exact nI_or1 | exact bN_or _) only [x200_1738, x200_1739, x200_1742, x200_1744, x200_1745, x200_1748, x200_1750, x200_1752, x200_1754, x200_1755, x200_1758, x200_1760, x200_1762, x200_1763, x200_1766, x200_1768, x200_1770, x200_1771, x200_1774, x200_1775, x200_1776, reduceIte, Nat.reduceLT, nW_ap, nW_up, nI_add, pk_mul, nI_ltI, nI_eq, if_true, if_false, kont_r, kont_v, Nat.reduceAdd, Nat.reduceMul, Nat.not_lt, not_true_eq_false, not_false_eq_true, Nat.one_ne_zero, Nat.reduceEqDiff, Nat.lt_irrefl, reduceCtorEq, nI_or0, nI_or1, s, t, h]
  · simp (disch := first | assumption | omega | exact nI_or0 | exact nI_or1 | exact bN_or _) only [x200_1738, x200_1739, x200_1742, x200_1744, x200_1745, x200_1748, x200_1750, x200_1752, x200_1754, x200_1755, x200_1758, x200_1760, x200_1762, x200_1763, x200_1766, x200_1768, x200_1770, x200_1771, x200_1774, x200_1775, x200_1776, reduceIte, Nat.reduceLT, nW_ap, nW_up, nI_add, pk_mul, nI_ltI, nI_eq, if_true, if_false, kont_r, kont_v, Nat.reduceAdd, Nat.reduceMul, Nat.not_lt, not_true_eq_false, not_false_eq_true, Nat.one_ne_zero, Nat.reduceEqDiff, Nat.lt_irrefl, reduceCtorEq, nI_or0, nI_or1, s, t, h]
theorem L_27 {X : XS} {N : GV} {R : GR} {L : GL} {Z : Nat × Nat × Bool} (hR : Rok R) {i : Nat} {l5 l6 l7 l8 : AV} (hI : INV N R) (hi : i + 5 ≤ X.1) (hX : X.1 < 2 ^ 31) : LR X N R L Z 1779 i l5 l6 l7 l8 := by
  obtain ⟨C, W, R', L', s, t, hW⟩ := c73 (X := X) (L := L) (Z := Z) hR hI
  refine ⟨l5, l6, l7, l8, L', R', W, Z, ?_, hW, Or.inl rfl⟩
  simp (disch := first | assumption | omega | exact nI_or0 | exact nI_or1 | exact bN_or _) only [x200_1779, x200_1780, x200_1783, x200_1784, x200_1787, x200_1788, x200_1791, x200_1792, reduceIte, Nat.reduceLT, nW_ap, nW_up, nI_add, pk_mul, nI_ltI, nI_eq, if_true, if_false, kont_r, kont_v, Nat.reduceAdd, Nat.reduceMul, Nat.not_lt, not_true_eq_false, not_false_eq_true, Nat.one_ne_zero, Nat.reduceEqDiff, Nat.lt_irrefl, reduceCtorEq, nI_or0, nI_or1, s, t, cmp_0]
theorem L_go {X : XS} {N : GV} {R : GR} {L : GL} {Z : Nat × Nat × Bool} (hR : Rok R) {i : Nat} {l5 l6 l7 l8 : AV} {x : Int32} (hI : INV N R) (hi : i + 5 ≤ X.1) (hX : X.1 < 2 ^ 31) : ∃ pc, ex X 200 39 [vR 31 0, vR 6 0, vR 7 0, vR 30 0, vI (nI i), l5, l6, l7, l8] [vI x] (gg (nW N) R L Z) = ex X 200 pc [vR 31 0, vR 6 0, vR 7 0, vR 30 0, vI (nI i), l5, l6, l7, l8] [] (gg (nW N) R L Z) ∧ LR X N R L Z pc i l5 l6 l7 l8 := by
  by_cases h : x.toInt < 0 ∨ 27 < x.toInt
  · exact ⟨1793, x200_39_d h, l5, l6, l7, l8, L, R, N, Z, rfl, hI, Or.inl rfl⟩
  have hb : x.toInt.toNat < 28 := by omega
  have e : x = nI x.toInt.toNat := by
    refine Int32.toInt_inj.mp ?_
    have f : (nI x.toInt.toNat).toInt = (x.toInt.toNat : Nat) := Int32.toInt_ofNat_of_lt (by omega)
    rw [f]
    omega
  rw [e]
  clear e h
  generalize x.toInt.toNat = k at hb ⊢
  match k, hb with
  | 0, _ => exact ⟨164, x200_39_v0, L_0 hR hI hi hX⟩
  | 1, _ => exact ⟨272, x200_39_v1, L_1 hR hI hi hX⟩
  | 2, _ => exact ⟨328, x200_39_v2, L_2 hR hI hi hX⟩
  | 3, _ => exact ⟨412, x200_39_v3, L_3 hR hI hi hX⟩
  | 4, _ => exact ⟨496, x200_39_v4, L_4 hR hI hi hX⟩
  | 5, _ => exact ⟨564, x200_39_v5, L_5 hR hI hi hX⟩
  | 6, _ => exact ⟨620, x200_39_v6, L_6 hR hI hi hX⟩
  | 7, _ => exact ⟨700, x200_39_v7, L_7 hR hI hi hX⟩
  | 8, _ => exact ⟨756, x200_39_v8, L_8 hR hI hi hX⟩
  | 9, _ => exact ⟨824, x200_39_v9, L_9 hR hI hi hX⟩
  | 10, _ => exact ⟨880, x200_39_v10, L_10 hR hI hi hX⟩
  | 11, _ => exact ⟨936, x200_39_v11, L_11 hR hI hi hX⟩
  | 12, _ => exact ⟨949, x200_39_v12, L_12 hR hI hi hX⟩
  | 13, _ => exact ⟨962, x200_39_v13, L_13 hR hI hi hX⟩
  | 14, _ => exact ⟨1006, x200_39_v14, L_14 hR hI hi hX⟩
  | 15, _ => exact ⟨1050, x200_39_v15, L_15 hR hI hi hX⟩
  | 16, _ => exact ⟨1118, x200_39_v16, L_16 hR hI hi hX⟩
  | 17, _ => exact ⟨1186, x200_39_v17, L_17 hR hI hi hX⟩
  | 18, _ => exact ⟨1254, x200_39_v18, L_18 hR hI hi hX⟩
  | 19, _ => exact ⟨1322, x200_39_v19, L_19 hR hI hi hX⟩
  | 20, _ => exact ⟨1378, x200_39_v20, L_20 hR hI hi hX⟩
  | 21, _ => exact ⟨1434, x200_39_v21, L_21 hR hI hi hX⟩
  | 22, _ => exact ⟨1502, x200_39_v22, L_22 hR hI hi hX⟩
  | 23, _ => exact ⟨1570, x200_39_v23, L_23 hR hI hi hX⟩
  | 24, _ => exact ⟨1626, x200_39_v24, L_24 hR hI hi hX⟩
  | 25, _ => exact ⟨1682, x200_39_v25, L_25 hR hI hi hX⟩
  | 26, _ => exact ⟨1738, x200_39_v26, L_26 hR hI hi hX⟩
  | 27, _ => exact ⟨1779, x200_39_v27, L_27 hR hI hi hX⟩
  | n + 28, hb => omega
theorem L_lt {a i : Nat} (ha : a < 5) (hi : i < 2 ^ 31) : nI a - nI 5 < nI i := by
  have e : (nI i).toInt = i := Int32.toInt_ofNat_of_lt hi
  have f : (nI a - nI 5).toInt < 0 := by
    match a, ha with
    | 0, _ => decide +kernel
    | 1, _ => decide +kernel
    | 2, _ => decide +kernel
    | 3, _ => decide +kernel
    | 4, _ => decide +kernel
    | n + 5, h => omega
  rw [Int32.lt_iff_toInt_lt]
  omega
theorem L_loop {X : XS} (hX : X.1 < 2 ^ 30) : ∀ (m : Nat) {N : GV} {R : GR} {L : GL} {Z : Nat × Nat × Bool} {i : Nat} {l5 l6 l7 l8 : AV}, INV N R → X.1 < i + 5 + 5 * m → i < 2 ^ 30 + 5 → ∃ Ge : GG, ex X 200 23 [vR 31 0, vR 6 0, vR 7 0, vR 30 0, vI (nI i), l5, l6, l7, l8] [] (gg (nW N) R L Z) = some (.inl (some (vI 1)), Ge) ∧ Ge.2.2.2.2.1 ≤ Z.1 + m ∧ Ge.2.2.2.2.2.1 ≤ Z.2.1 + 6 * m := by
  intro m
  induction m with
  | zero =>
    intro N R L Z i l5 l6 l7 l8 hI hm hi
    refine ⟨(gg (nW N) R L Z), ?_, Nat.le_refl _, Nat.le_refl _⟩
    have c : nI X.1 - nI 5 < nI i := by
      by_cases q : X.1 < 5
      · exact L_lt q (by omega)
      · rw [pk_sub (by omega), nI_ltI (by omega) (by omega)]; omega
    simp (disch := first | assumption | omega | exact nI_or0 | exact nI_or1 | exact bN_or _) only [x200_23, x200_25, x200_26, x200_27, x200_28, x200_29, x200_1799, x200_1800, c, if_true]
    rfl
  | succ m ih =>
    intro N R L Z i l5 l6 l7 l8 hI hm hi
    by_cases q : i + 5 ≤ X.1
    · have c : ¬ nI X.1 - nI 5 < nI i := by
        rw [pk_sub (by omega), nI_ltI (by omega) (by omega)]; omega
      obtain ⟨pc, s, m5, m6, m7, m8, L', R', W, Z', t, hW, hZ⟩ := L_go (X := X) (L := L) (Z := Z) (i := i) (l5 := l5) (l6 := l6) (l7 := l7) (l8 := l8) (x := X.2 i &&& nI 31) hI.1 hI q (by omega)
      obtain ⟨Ge, a, b1, b2⟩ := ih (N := W) (R := R') (L := L') (Z := Z') (i := i + 5) (l5 := m5) (l6 := m6) (l7 := m7) (l8 := m8) hW (by omega) (by omega)
      refine ⟨Ge, ?_, ?_, ?_⟩
      · have hi1 : i < X.1 := by omega
        have hX1 : X.1 < 2 ^ 31 := by omega
        simp (disch := first | assumption | omega | exact nI_or0 | exact nI_or1 | exact bN_or _) only [x200_23, x200_25, x200_26, x200_27, x200_28, x200_29, x200_32, x200_33, x200_35, x200_36, x200_38, c, if_false, s, t, x200_1793, x200_1796, nI_add, a]
      · rcases hZ with rfl | rfl
        · omega
        · have : (tz Z).1 = Z.1 + 1 := rfl
          omega
      · rcases hZ with rfl | rfl
        · omega
        · have : (tz Z).2.1 = Z.2.1 + 6 := rfl
          omega
    · refine ⟨(gg (nW N) R L Z), ?_, Nat.le_add_right _ _, Nat.le_add_right _ _⟩
      have c : nI X.1 - nI 5 < nI i := by
        by_cases q : X.1 < 5
        · exact L_lt q (by omega)
        · rw [pk_sub (by omega), nI_ltI (by omega) (by omega)]; omega
      simp (disch := first | assumption | omega | exact nI_or0 | exact nI_or1 | exact bN_or _) only [x200_23, x200_25, x200_26, x200_27, x200_28, x200_29, x200_1799, x200_1800, c, if_true]
      rfl
