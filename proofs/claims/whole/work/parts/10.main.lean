/-! what a call is -/
set_option maxHeartbeats 4000000 in
theorem call_of {X : XS} {Rr : Option FieldType} {mi : MI} {i : Instr} {len a b cc j pc y : Nat} {lv st av lv' rest : List AV} {G : GG} (hk : okE mi (pc, i, len, a, b, cc, j) = true) (hkc : okC (pc, i, len, a, b, cc, j) = true)
    (h : stepI X Rr i len a b cc pc lv st G = some (.inr (.inr (.inl (y, av, lv', rest))))) : lv' = lv ∧ y = a ∧ ct rest ≤ 8 ∧ decode mi.2.1 pc = .ok (i, 3) ∧ ∃ (z : MI) (q : Nat × Nat × Nat × Nat × Nat), mths[a]? = some z ∧ mw[a]? = some q ∧ a < 200 ∧ z.2.2.2.2.1 < mi.2.2.2.2.1 ∧ (parseMethodDescriptor z.1.desc).map (fun d => d.parameters.length) = some b ∧
    ((∃ idx i', i = .invokevirtual idx ∧ Cond.methodLink mi.1.cls idx z.1 ∈ GW ∧ cc < 8 ∧ kC cc = z.1.cls ∧ z.2.2.2.2.2.2 = false ∧ st.drop b = vR cc i' :: rest ∧ has G cc i' = true ∧ av = vR cc i' :: (st.take b).reverse ∧ q.2.2.1 ≠ 9999 ∧ q.2.2.2.1 ≠ 9999)
    ∨ (∃ idx, i = .invokestatic idx ∧ b ≤ st.length ∧ rest = st.drop b ∧ av = (st.take b).reverse ∧ q.2.1 ≠ 9999 ∧ ((z.2.2.2.2.2.2 = false ∧ Cond.methodLinkNest mi.1.cls idx z.1 "FountainPark" ∈ NG ∧ z.2.2.2.2.1 < 6) ∨ (Cond.methodLink mi.1.cls idx z.1 ∈ GW ∧ (z.2.2.2.2.2.2 = true ↔ cc = 5))))
    ∨ (∃ idx k' i', i = .invokespecial idx ∧ st.drop b = vR k' i' :: rest ∧ av = vR k' i' :: (st.take b).reverse ∧ z.1.name = "<init>" ∧ z.2.2.2.2.2.2 = false ∧ q.2.2.1 ≠ 9999 ∧ z.2.2.2.2.1 < 6 ∧ z.2.2.2.1 = none ∧ (Cond.methodLinkNest mi.1.cls idx z.1 "FountainPark" ∈ NG ∨ Cond.methodLink mi.1.cls idx z.1 ∈ GW))) := by
  unfold okE at hk
  simp only [Bool.and_eq_true, decide_eq_true_eq] at hk
  obtain ⟨⟨hd, hlen⟩, hw⟩ := hk
  cases i with
  | invokevirtual idx =>
    simp only [decide_eq_true_eq] at hlen; subst hlen
    unfold stepI o_callV at h; simp only at h
    unfold okC at hkc; simp only at hkc
    unfold okW at hw; simp only at hw
    split at h
    · rename_i k' i' rest' hdr
      split at h
      · rename_i hc
        simp only [Bool.and_eq_true, decide_eq_true_eq] at hc
        cases h
        cases hz : mths[a]? with
        | none => rw [hz] at hw; cases hw
        | some z =>
          rw [hz] at hw
          cases hq : mw[a]? with
          | none => rw [hq] at hkc; cases hkc
          | some q =>
            rw [hq] at hkc
            simp only [okM, Bool.and_eq_true, decide_eq_true_eq, Bool.not_eq_true'] at hw hkc
            obtain ⟨⟨e1, e2⟩, e3⟩ := hc
            subst e1
            exact ⟨rfl, rfl, e3, hd, z, q, rfl, rfl, hkc.1.1, hw.1.1.1.2, hw.1.1.1.1.2, Or.inl ⟨idx, i', rfl, lnk_in hw.1.1.1.1.1, hw.1.1.2, hw.1.2, hw.2, hdr, e2, rfl, hkc.1.2, hkc.2⟩⟩
      · cases h
    · cases h
  | invokestatic idx =>
    simp only [decide_eq_true_eq] at hlen; subst hlen
    unfold stepI at h; simp only at h
    unfold okC at hkc; simp only at hkc
    unfold okW at hw; simp only at hw
    by_cases h6 : cc = 6
    · simp only [h6, if_true] at h
      split at h
      · split at h <;> cases h
      · cases h
    · by_cases h7 : cc = 7
      · simp only [h6, if_false, h7, if_true] at h
        rw [if_neg (by omega)] at h
        split at h
        · split at h <;> cases h
        · cases h
      · simp only [h6, h7, if_false] at h hw
        simp only [h6, h7, decide_false, Bool.or_self, Bool.false_eq_true, if_false] at hkc
        unfold o_callS at h
        split at h
        · rename_i hc
          simp only [Bool.and_eq_true, decide_eq_true_eq] at hc
          cases h
          cases hz : mths[a]? with
          | none => rw [hz] at hw; cases hw
          | some z =>
            rw [hz] at hw
            cases hq : mw[a]? with
            | none => rw [hq] at hkc; cases hkc
            | some q =>
              rw [hq, hz] at hkc
              simp only [Bool.and_eq_true, Bool.or_eq_true, decide_eq_true_eq] at hkc
              by_cases h3 : cc = 3
              · simp only [h3, if_true, okN', Bool.and_eq_true, decide_eq_true_eq, Bool.not_eq_true'] at hw
                exact ⟨rfl, rfl, hc.2, hd, z, q, rfl, rfl, hkc.1.1, hw.1.2, hw.1.1.2, Or.inr (Or.inl ⟨idx, rfl, hc.1, rfl, rfl, hkc.1.2, Or.inl ⟨hw.2, hw.1.1.1, hkc.2.resolve_left (fun n => n h3)⟩⟩)⟩
              · simp only [h3, if_false, okM, Bool.and_eq_true, decide_eq_true_eq] at hw
                exact ⟨rfl, rfl, hc.2, hd, z, q, rfl, rfl, hkc.1.1, hw.1.2, hw.1.1.2, Or.inr (Or.inl ⟨idx, rfl, hc.1, rfl, rfl, hkc.1.2, Or.inr ⟨lnk_in hw.1.1.1, hw.2⟩⟩)⟩
        · cases h
  | invokespecial idx =>
    simp only [decide_eq_true_eq] at hlen; subst hlen
    unfold stepI at h; simp only at h
    unfold okC at hkc; simp only at hkc
    unfold okW at hw; simp only at hw
    by_cases h8 : cc = 8
    · simp only [h8, if_true] at h
      split at h
      · split at h <;> cases h
      · cases h
    · by_cases h9 : cc = 99
      · simp only [h8, if_false, h9, if_true] at h
        rw [if_neg (by omega)] at h
        cases h
      · simp only [h8, h9, if_false] at h hw
        simp only [h8, h9, decide_false, Bool.or_self, Bool.false_eq_true, if_false] at hkc
        unfold o_callR at h
        split at h
        · rename_i k' i' rest' hdr
          split at h
          · rename_i hc
            cases h
            cases hz : mths[a]? with
            | none => rw [hz] at hw; cases hw
            | some z =>
              rw [hz] at hw
              cases hq : mw[a]? with
              | none => rw [hq] at hkc; cases hkc
              | some q =>
                rw [hq, hz] at hkc
                simp only [Bool.and_eq_true, decide_eq_true_eq] at hkc
                by_cases h4 : cc = 4
                · simp only [h4, if_true, okN', Bool.and_eq_true, decide_eq_true_eq, Bool.not_eq_true'] at hw
                  exact ⟨rfl, rfl, hc, hd, z, q, rfl, rfl, hkc.1.1.1, hw.1.1.2, hw.1.1.1.2, Or.inr (Or.inr ⟨idx, k', i', rfl, hdr, rfl, hw.1.2, hw.2, hkc.1.1.2, hkc.1.2, hkc.2, Or.inl hw.1.1.1.1⟩)⟩
                · simp only [h4, if_false, okM, Bool.and_eq_true, decide_eq_true_eq, Bool.not_eq_true'] at hw
                  exact ⟨rfl, rfl, hc, hd, z, q, rfl, rfl, hkc.1.1.1, hw.1.1.2, hw.1.1.1.2, Or.inr (Or.inr ⟨idx, k', i', rfl, hdr, rfl, hw.1.2, hw.2, hkc.1.1.2, hkc.1.2, hkc.2, Or.inr (lnk_in hw.1.1.1.1)⟩)⟩
          · cases h
        · cases h
  | _ =>
    exfalso
    unfold stepI at h
    simp only at h
    first
      | (cases h; done)
      | ((try unfold o_ld at h) <;> (try unfold o_st at h) <;> (try unfold o_bi at h) <;> (try unfold o_bi0 at h) <;> (try unfold o_bl at h) <;> (try unfold o_bd at h) <;> (try unfold o_cmp at h) <;> (try unfold o_cm0 at h) <;> (try unfold o_get at h) <;> (try unfold o_put at h) <;> (try unfold o_ald at h) <;> (try unfold o_aald at h) <;> (try unfold o_ast at h) <;> (try unfold o_aast at h) <;> (try unfold o_len at h) <;> (try unfold o_new at h) <;> (try unfold o_newa at h) <;> (try unfold o_ret at h) <;> (try unfold o_if at h) <;> (try unfold nx at h)
         (repeat' split at h) <;> cases h)
section
variable {p : Program} {l : Launch} {e : Env} {R : Room} {s : State} {m : MethodId} {args : Array Value} {below : List Frame} {meth : Method} {c : Code} {Q : State → Prop} {K : KE} {mi : MI} {c0 s0 : Nat}
theorem toList_app {r : Option AV} {rest : List AV} : (r.toList ++ rest).map (sh K) = (r.map (sh K)).toList ++ rest.map (sh K) := by
  cases r <;> rfl
/-- a call that answers -/
theorem so_call_ret {Rr : Option FieldType} {i : Instr} {len a b cc j pc y : Nat} {lv st av lv' rest : List AV} {G G' : GG} {r : Option AV} (C : CX p R s m args meth c K mi) (hk : okE mi (pc, i, len, a, b, cc, j) = true) (hkc : okC (pc, i, len, a, b, cc, j) = true)
    (h : stepI K.2.2.1 Rr i len a b cc pc lv st G = some (.inr (.inr (.inl (y, av, lv', rest))))) (hM : ∀ z, mths[y]? = some z → Ctr K l z av G (.inl r) G') (hmo : mono G G') (hbud : G'.2.2.2.2.1 - c0 ≤ R.cells ∧ G'.2.2.2.2.2.1 - s0 ≤ R.slots)
    (g : GS p l e R s m args below meth c Q K mi c0 s0 (pc + 3, lv', r.toList ++ rest, G')) : GS p l e R s m args below meth c Q K mi c0 s0 (pc, lv, st, G) := by
  have hts := C.2.2.2.2.1
  have hV := C.2.2.2.2.2.1
  obtain ⟨rfl, rfl, hct, hd, z, q, hz, hq, hl2, hdep, hpar, hkind⟩ := call_of hk hkc h
  have hM : Met l z.1 (codeW z :: GW) (rmM z G G') (va_Pc (av.map (sh K)) (WD K G)) (QR K r G') (G'.2.2.2.2.1 - G.2.2.2.2.1) (G'.2.2.2.2.2.1 - G.2.2.2.2.2.1) (kO K) := hM z hz
  obtain ⟨w1, w2, w3⟩ := mw_at hz hl2 hq
  intro hc hs H locs ls hl hf hS
  have hc : c0 ≤ G.2.2.2.2.1 := hc
  have hs : s0 ≤ G.2.2.2.2.2.1 := hs
  obtain ⟨m1, m2⟩ := hmo
  obtain ⟨b1, b2⟩ := hbud
  have hfit : G.2.2.2.2.1 - c0 + (G'.2.2.2.2.1 - G.2.2.2.2.1) ≤ R.cells ∧ G.2.2.2.2.2.1 - s0 + (G'.2.2.2.2.2.1 - G.2.2.2.2.2.1) ≤ R.slots := ⟨by omega, by omega⟩
  have fin : ∀ (H1 : Heap) (locs1 : List Loc), HF K G' H1 → va_S (kO K) s.heap H1 locs1 → W p l e R s m args below meth c H1 locs1 (G.2.2.2.2.1 - c0 + (G'.2.2.2.2.1 - G.2.2.2.2.1)) (G.2.2.2.2.2.1 - s0 + (G'.2.2.2.2.2.1 - G.2.2.2.2.2.1)) Q (F0 m (pc + 3) ls ((r.map (sh K)).toList ++ rest.map (sh K))) := fun H1 locs1 hf1 hS1 => by
    have q1 : G.2.2.2.2.1 - c0 + (G'.2.2.2.2.1 - G.2.2.2.2.1) = G'.2.2.2.2.1 - c0 := by omega
    have q2 : G.2.2.2.2.2.1 - s0 + (G'.2.2.2.2.2.1 - G.2.2.2.2.2.1) = G'.2.2.2.2.2.1 - s0 := by omega
    rw [q1, q2, ← toList_app]
    exact g (by show c0 ≤ G'.2.2.2.2.1; omega) (by show s0 ≤ G'.2.2.2.2.2.1; omega) H1 locs1 ls hl hf1 hS1
  rcases hkind with ⟨idx, i', rfl, hlk, hcc8, hkc2, hW, hdr, hhas, rfl, n1, n2⟩ | ⟨idx, rfl, hbl, rfl, rfl, n1, hst⟩ | ⟨idx, k', i', rfl, hdr, rfl, hnm, hW, n1, hd6, hrt, hlk⟩
  · obtain ⟨ks, jx, g1, g2, g3, g4, g5, g6, g7⟩ := hf_get (K := K) hf (by omega) hhas
    rw [enc_obj hcc8] at g7
    have hrecv := va_recv hV.1 g2 (k_cl hcc8) g7
    have hrun := va_runV (p := p) (l := l) (e := e) (below := below) (meth := meth) (H := H) (locs := locs) (cells := G.2.2.2.2.1 - c0) (slots := G.2.2.2.2.2.1 - s0) (b := ad K cc i') (As := (st.take b).reverse.map (sh K)) (rest := rest.map (sh K)) (g := F0 m pc ls (st.map (sh K))) (fix_z C) hM ⟨callB_z C hz hl2 hW hlk hpar hdep G G', hts _ (w2 n1), hts _ (w3 n2)⟩
      ⟨WD.blind, by rw [← hkc2]; exact hrecv, fun U hU hUW => ⟨rfl, WD_at hV hS hf hU hUW⟩⟩ rfl (by rw [List.length_map, List.length_reverse, len_take hdr]) hl.2.1 (st_split hdr) (lv_room (pc := pc) (ls := ls) (rest := st.map (sh K)) (ct_le hct)) hd hfit
    exact call_ret hrun hS fin
  · rcases hst with ⟨hW, hng, hd6⟩ | ⟨hlk, hcc5⟩
    · have hrun := va_runSN (p := p) (l := l) (e := e) (below := below) (meth := meth) (H := H) (locs := locs) (cells := G.2.2.2.2.1 - c0) (slots := G.2.2.2.2.2.1 - s0) (As := (st.take b).reverse.map (sh K)) (rest := (st.drop b).map (sh K)) (g := F0 m pc ls (st.map (sh K))) (fix_z C) hM ⟨callN_z C hz hl2 hW hng hpar hdep G G', hts _ (w1 n1), trivial⟩
        ⟨WD.blind, fun U hU hUW => ⟨rfl, WD_at hV hS hf hU hUW⟩⟩ rfl (by rw [List.length_map, List.length_reverse, List.length_take]; omega) hl.2.1 st_splitS (lv_room (pc := pc) (ls := ls) (rest := st.map (sh K)) (ct_le hct)) hd hfit
      exact call_ret hrun hS fin
    · cases hW : z.2.2.2.2.2.2 with
      | false =>
        have hrun := va_runS (p := p) (l := l) (e := e) (below := below) (meth := meth) (H := H) (locs := locs) (cells := G.2.2.2.2.1 - c0) (slots := G.2.2.2.2.2.1 - s0) (As := (st.take b).reverse.map (sh K)) (rest := (st.drop b).map (sh K)) (g := F0 m pc ls (st.map (sh K))) (fix_z C) hM ⟨callB_z C hz hl2 hW hlk hpar hdep G G', hts _ (w1 n1)⟩
          ⟨WD.blind, fun U hU hUW => ⟨rfl, WD_at hV hS hf hU hUW⟩⟩ rfl (by rw [List.length_map, List.length_reverse, List.length_take]; omega) hl.2.1 st_splitS (lv_room (pc := pc) (ls := ls) (rest := st.map (sh K)) (ct_le hct)) hd hfit
        exact call_ret hrun hS fin
      | true =>
        have hci := code_in hz hl2
        have hcw : Cond.codeWith z.1 z.2.1 z.2.2.1 z.2.2.2.1 z.2.2.2.2.2.1 ∈ GW := by rw [← codeW_t hW]; exact hci.1
        have h7 := C.2.2.2.2.2.2.1
        have h8 := C.2.2.2.2.2.2.2.1
        have hcsw : vx_CSW R s args mi.1.cls idx z.1 z.2.1 z.2.2.1 z.2.2.2.1 z.2.2.2.2.2.1 (codeW z :: GW) (rmM z G G') (G'.2.2.2.2.1 - G.2.2.2.2.1) (G'.2.2.2.2.2.1 - G.2.2.2.2.2.1) b := by
          refine ⟨⟨rfl, rfl, by show z.2.2.2.2.1 + 1 ≤ _; omega, by show 8 + (z.2.2.1 + 11) + 30 * z.2.2.2.2.1 ≤ _; have := hci.2.2.2.2.1; omega, pay_in hts (good_ws hci.1), by rw [codeW_t hW]; exact List.mem_cons_self⟩, hts _ hcw, hts _ hci.2.1, hci.2.2.2.1, fun sig hsig => ?_, hts _ hlk, hts _ (w1 n1)⟩
          rw [hsig] at hpar
          exact (Option.some.inj hpar).symm
        have hrun := vx_runSW (p := p) (l := l) (e := e) (below := below) (meth := meth) (H := H) (locs := locs) (cells := G.2.2.2.2.1 - c0) (slots := G.2.2.2.2.2.1 - s0) (As := (st.take b).reverse.map (sh K)) (rest := (st.drop b).map (sh K)) (g := F0 m pc ls (st.map (sh K))) (fix_z C) hM hcsw
          ⟨WD.blind, fun U hU hUW => ⟨rfl, WD_at hV hS hf hU hUW⟩⟩ rfl (by rw [List.length_map, List.length_reverse, List.length_take]; omega) hl.2.1 st_splitS (lv_room (pc := pc) (ls := ls) (rest := st.map (sh K)) (ct_le hct)) hd hfit
        exact call_ret hrun hS fin
  · rcases hlk with hng | hlk
    · have hcn := callN_z C hz hl2 hW hng hpar hdep G G'
      rw [hrt] at hcn
      have hrun := va_runIN (p := p) (l := l) (e := e) (below := below) (meth := meth) (H := H) (locs := locs) (cells := G.2.2.2.2.1 - c0) (slots := G.2.2.2.2.2.1 - s0) (b := ad K k' i') (As := (st.take b).reverse.map (sh K)) (rest := rest.map (sh K)) (g := F0 m pc ls (st.map (sh K))) (fix_z C) hM ⟨hcn, hnm, hts _ (w2 n1)⟩
        ⟨WD.blind, fun U hU hUW => ⟨rfl, WD_at hV hS hf hU hUW⟩⟩ rfl (by rw [List.length_map, List.length_reverse, len_take hdr]) hl.2.1 (st_split hdr) (lv_room (pc := pc) (ls := ls) (rest := st.map (sh K)) (ct_le hct)) hd hfit
      exact call_ret hrun hS fin
    · have hcb := callB_z C hz hl2 hW hlk hpar hdep G G'
      rw [hrt] at hcb
      have hrun := va_runI (p := p) (l := l) (e := e) (below := below) (meth := meth) (H := H) (locs := locs) (cells := G.2.2.2.2.1 - c0) (slots := G.2.2.2.2.2.1 - s0) (b := ad K k' i') (As := (st.take b).reverse.map (sh K)) (rest := rest.map (sh K)) (g := F0 m pc ls (st.map (sh K))) (fix_z C) hM ⟨hcb, hnm, hts _ (w2 n1)⟩
        ⟨WD.blind, fun U hU hUW => ⟨rfl, WD_at hV hS hf hU hUW⟩⟩ rfl (by rw [List.length_map, List.length_reverse, len_take hdr]) hl.2.1 (st_split hdr) (lv_room (pc := pc) (ls := ls) (rest := st.map (sh K)) (ct_le hct)) hd hfit
      exact call_ret hrun hS fin
/-- a call that throws -/
theorem so_call_thr {Rr : Option FieldType} {i : Instr} {len a b cc j pc y : Nat} {lv st av lv' rest : List AV} {G G' : GG} {E : Nat} (C : CX p R s m args meth c K mi) (hk : okE mi (pc, i, len, a, b, cc, j) = true) (hkc : okC (pc, i, len, a, b, cc, j) = true)
    (h : stepI K.2.2.1 Rr i len a b cc pc lv st G = some (.inr (.inr (.inl (y, av, lv', rest))))) (hM : ∀ z, mths[y]? = some z → Ctr K l z av G (.inr E) G' ∧ z.2.2.2.2.2.2 = false ∧ 6 ≤ z.2.2.2.2.1) (hmo : mono G G') (hbud : G'.2.2.2.2.1 - c0 ≤ R.cells ∧ G'.2.2.2.2.2.1 - s0 ≤ R.slots)
    (kx : c0 ≤ G'.2.2.2.2.1 → s0 ≤ G'.2.2.2.2.2.1 → ∀ (H1 : Heap) (locs1 : List Loc) (ls : Array Slot) (q : Addr) (ce : Cell), lr K ls mi.2.2.1 lv' → HF K G' H1 → va_S (kO K) s.heap H1 locs1 → H1[q]? = some ce → ce.vm = .none → s.vm.findClass (exNm E) = some ce.cls → vx_W p l e R s m args below meth c H1 locs1 (G'.2.2.2.2.1 - c0) (G'.2.2.2.2.2.1 - s0) Q (F0 m pc ls (rest.map (sh K))) q) : GS p l e R s m args below meth c Q K mi c0 s0 (pc, lv, st, G) := by
  have hts := C.2.2.2.2.1
  have hV := C.2.2.2.2.2.1
  obtain ⟨rfl, rfl, hct, hd, z, q, hz, hq, hl2, hdep, hpar, hkind⟩ := call_of hk hkc h
  obtain ⟨hM1, hWf, h6⟩ := hM z hz
  have hM : vx_Met l z.1 (codeW z :: GW) (rmM z G G') (va_Pc (av.map (sh K)) (WD K G)) (fun _ _ _ _ => False) (QX K E G') (G'.2.2.2.2.1 - G.2.2.2.2.1) (G'.2.2.2.2.2.1 - G.2.2.2.2.2.1) (kO K) := hM1 hWf
  obtain ⟨w1, w2, w3⟩ := mw_at hz hl2 hq
  intro hc hs H locs ls hl hf hS
  have hc : c0 ≤ G.2.2.2.2.1 := hc
  have hs : s0 ≤ G.2.2.2.2.2.1 := hs
  obtain ⟨m1, m2⟩ := hmo
  obtain ⟨b1, b2⟩ := hbud
  have hfit : G.2.2.2.2.1 - c0 + (G'.2.2.2.2.1 - G.2.2.2.2.1) ≤ R.cells ∧ G.2.2.2.2.2.1 - s0 + (G'.2.2.2.2.2.1 - G.2.2.2.2.2.1) ≤ R.slots := ⟨by omega, by omega⟩
  have fin : ∀ (H1 : Heap) (locs1 : List Loc) (q : Addr) (ce : Cell), HF K G' H1 → va_S (kO K) s.heap H1 locs1 → H1[q]? = some ce → ce.vm = .none → s.vm.findClass (exNm E) = some ce.cls → vx_W p l e R s m args below meth c H1 locs1 (G.2.2.2.2.1 - c0 + (G'.2.2.2.2.1 - G.2.2.2.2.1)) (G.2.2.2.2.2.1 - s0 + (G'.2.2.2.2.2.1 - G.2.2.2.2.2.1)) Q (F0 m pc ls (rest.map (sh K))) q := fun H1 locs1 q ce hf1 hS1 hce hcv hcl => by
    have q1 : G.2.2.2.2.1 - c0 + (G'.2.2.2.2.1 - G.2.2.2.2.1) = G'.2.2.2.2.1 - c0 := by omega
    have q2 : G.2.2.2.2.2.1 - s0 + (G'.2.2.2.2.2.1 - G.2.2.2.2.2.1) = G'.2.2.2.2.2.1 - s0 := by omega
    rw [q1, q2]
    exact kx (by omega) (by omega) H1 locs1 ls q ce hl hf1 hS1 hce hcv hcl
  rcases hkind with ⟨idx, i', rfl, hlk, hcc8, hkc2, hW, hdr, hhas, rfl, n1, n2⟩ | ⟨idx, rfl, hbl, rfl, rfl, n1, hst⟩ | ⟨idx, k', i', rfl, hdr, rfl, hnm, hW, n1, hd6, hrt, hlk⟩
  · obtain ⟨ks, jx, g1, g2, g3, g4, g5, g6, g7⟩ := hf_get (K := K) hf (by omega) hhas
    rw [enc_obj hcc8] at g7
    have hrecv := va_recv hV.1 g2 (k_cl hcc8) g7
    have hrun := vx_runV (p := p) (l := l) (e := e) (below := below) (meth := meth) (H := H) (locs := locs) (cells := G.2.2.2.2.1 - c0) (slots := G.2.2.2.2.2.1 - s0) (b := ad K cc i') (As := (st.take b).reverse.map (sh K)) (rest := rest.map (sh K)) (g := F0 m pc ls (st.map (sh K))) (fix_z C) hM ⟨callB_z C hz hl2 hW hlk hpar hdep G G', hts _ (w2 n1), hts _ (w3 n2)⟩
      ⟨WD.blind, by rw [← hkc2]; exact hrecv, fun U hU hUW => ⟨rfl, WD_at hV hS hf hU hUW⟩⟩ rfl (by rw [List.length_map, List.length_reverse, len_take hdr]) hl.2.1 (st_split hdr) (lv_room (pc := pc) (ls := ls) (rest := st.map (sh K)) (ct_le hct)) hd hfit
    exact call_thr (av := #[]) hrun hS fin
  · rcases hst with ⟨hW, hng, hd6⟩ | ⟨hlk, hcc5⟩
    · omega
    · have hrun := vx_runS (p := p) (l := l) (e := e) (below := below) (meth := meth) (H := H) (locs := locs) (cells := G.2.2.2.2.1 - c0) (slots := G.2.2.2.2.2.1 - s0) (As := (st.take b).reverse.map (sh K)) (rest := (st.drop b).map (sh K)) (g := F0 m pc ls (st.map (sh K))) (fix_z C) hM ⟨callB_z C hz hl2 hWf hlk hpar hdep G G', hts _ (w1 n1)⟩
        ⟨WD.blind, fun U hU hUW => ⟨rfl, WD_at hV hS hf hU hUW⟩⟩ rfl (by rw [List.length_map, List.length_reverse, List.length_take]; omega) hl.2.1 st_splitS (lv_room (pc := pc) (ls := ls) (rest := st.map (sh K)) (ct_le hct)) hd hfit
      exact call_thr (av := #[]) hrun hS fin
  · omega
end
/-! answers, throws, and the whole walk -/
theorem ng_on : (NG.all (fun w => w.onTables)) = true := by decide +kernel
theorem thr_in : ∀ E, E < 3 → ((vx_atS "FountainPark" (exIc E) (exNm E) exSup).all (fun w => vx_ot w && ((goodWord w && decide (w ∈ lw_tbl)) || (!goodWord w && decide (w ∈ NG)))) && decide (Bundle.fit (exNm E) = true) && decide (Cond.initialized (exNm E) ∈ lw_tbl) && decide (Cond.classLink "FountainParkLaw" (13 + 2 * E) (exNm E) ∈ lw_tbl) && decide (Cond.castable (exNm E) (exNm E) ∈ NG)) = true := by decide +kernel
theorem sup_fit : ∀ n ∈ exSup, Bundle.fit n = true := by decide +kernel
theorem hh_ok : ((mths.zip tabs).all (fun q => (decide (q.1.1.cls = "FountainParkLaw") || decide (q.1.2.2.2.2.2.1 = [])) && (q.1.2.2.2.2.2.2 || decide (q.1.2.2.2.2.2.1 = [])) && (q.1.2.2.2.2.2.1.all (fun h => decide (exIx h.2.2.2 < 3) && decide (h.2.2.2 = 13 + 2 * exIx h.2.2.2) && (match q.2.find? (fun e => e.1 == h.2.2.1) with
  | some (_, .astore k, _) => decide (k < q.1.2.2.1)
  | some (_, .astore_n k, _) => decide ((k : Nat) < q.1.2.2.1)
  | _ => false))))) = true := by decide +kernel
theorem ty_ok : mths.all (fun mi => (match mi.2.2.2.1 with
  | none => true
  | some .int => true
  | some .boolean => true
  | some .long => true
  | some .double => true
  | _ => false)) = true := by decide +kernel
section
variable {p : Program} {l : Launch} {e : Env} {R : Room} {s : State} {m : MethodId} {args : Array Value} {below : List Frame} {meth : Method} {c : Code} {Q : State → Prop} {K : KE} {mi : MI} {c0 s0 : Nat}
/-- the instruction that answers r -/
def RetAt (mi : MI) (pc : Nat) (r : Option AV) : Prop := (∃ x, r = some (.inl x) ∧ decode mi.2.1 pc = .ok (.ireturn, 1) ∧ (mi.2.2.2.1 = some .int ∨ (mi.2.2.2.1 = some .boolean ∧ (x = 0 ∨ x = 1)))) ∨ (∃ x, r = some (.inr (.inl x)) ∧ decode mi.2.1 pc = .ok (.lreturn, 1) ∧ mi.2.2.2.1 = some .long) ∨ (∃ x, r = some (.inr (.inr (.inl x))) ∧ decode mi.2.1 pc = .ok (.dreturn, 1) ∧ mi.2.2.2.1 = some .double) ∨ (r = none ∧ decode mi.2.1 pc = .ok (.return_, 1) ∧ mi.2.2.2.1 = none)
set_option maxHeartbeats 4000000 in
theorem ret_of {X : XS} {i : Instr} {len a b cc j pc : Nat} {lv st : List AV} {G : GG} {r : Option AV} (hk : okE mi (pc, i, len, a, b, cc, j) = true) (h : stepI X mi.2.2.2.1 i len a b cc pc lv st G = some (.inr (.inl r))) : st = r.toList ∧ RetAt mi pc r := by
  unfold okE at hk
  simp only [Bool.and_eq_true, decide_eq_true_eq] at hk
  obtain ⟨⟨hd, hlen⟩, hw⟩ := hk
  cases i with
  | ireturn =>
    simp only [decide_eq_true_eq] at hlen; subst hlen
    unfold stepI o_ret at h; simp only at h
    split at h
    · rename_i v
      split at h
      · rename_i hv
        rw [Bool.and_eq_true] at hv
        cases h
        obtain ⟨x, rfl⟩ := pI_is hv.1
        refine ⟨rfl, Or.inl ⟨x, rfl, hd, ?_⟩⟩
        have h2 := hv.2
        generalize mi.2.2.2.1 = rt at h2
        unfold retk at h2
        split at h2
        · exact Or.inl rfl
        · rename_i x' hx'
          cases hx'
          simp only [Bool.or_eq_true, decide_eq_true_eq] at h2
          exact Or.inr ⟨rfl, h2⟩
        · rename_i hx'; cases hx'
        · rename_i hx'; cases hx'
        · cases h2
      · cases h
    · cases h
  | lreturn =>
    simp only [decide_eq_true_eq] at hlen; subst hlen
    unfold stepI o_ret at h; simp only at h
    split at h
    · rename_i v
      split at h
      · rename_i hv
        rw [Bool.and_eq_true] at hv
        cases h
        obtain ⟨x, rfl⟩ := pL_is hv.1
        refine ⟨rfl, Or.inr (Or.inl ⟨x, rfl, hd, ?_⟩)⟩
        have h2 := hv.2
        generalize mi.2.2.2.1 = rt at h2
        unfold retk at h2
        split at h2
        · rename_i hx'; cases hx'
        · rename_i hx'; cases hx'
        · rfl
        · rename_i hx'; cases hx'
        · cases h2
      · cases h
    · cases h
  | dreturn =>
    simp only [decide_eq_true_eq] at hlen; subst hlen
    unfold stepI o_ret at h; simp only at h
    split at h
    · rename_i v
      split at h
      · rename_i hv
        rw [Bool.and_eq_true] at hv
        cases h
        obtain ⟨x, rfl⟩ := pD_is hv.1
        refine ⟨rfl, Or.inr (Or.inr (Or.inl ⟨x, rfl, hd, ?_⟩))⟩
        have h2 := hv.2
        generalize mi.2.2.2.1 = rt at h2
        unfold retk at h2
        split at h2
        · rename_i hx'; cases hx'
        · rename_i hx'; cases hx'
        · rename_i hx'; cases hx'
        · rfl
        · cases h2
      · cases h
    · cases h
  | return_ =>
    simp only [decide_eq_true_eq] at hlen; subst hlen
    unfold stepI at h; simp only at h
    split at h
    · rename_i hv
      cases h
      exact ⟨hv.2, Or.inr (Or.inr (Or.inr ⟨rfl, hd, hv.1⟩))⟩
    · cases h
  | invokevirtual idx =>
    exfalso
    unfold stepI o_callV at h; simp only at h
    (repeat' split at h) <;> cases h
  | invokestatic idx =>
    exfalso
    unfold stepI o_callS nx at h; simp only at h
    (repeat' split at h) <;> cases h
  | invokespecial idx =>
    exfalso
    unfold stepI o_callR nx at h; simp only at h
    (repeat' split at h) <;> cases h
  | _ =>
    exfalso
    unfold stepI at h
    simp only at h
    first
      | (cases h; done)
      | ((try unfold o_ld at h) <;> (try unfold o_st at h) <;> (try unfold o_bi at h) <;> (try unfold o_bi0 at h) <;> (try unfold o_bl at h) <;> (try unfold o_bd at h) <;> (try unfold o_cmp at h) <;> (try unfold o_cm0 at h) <;> (try unfold o_get at h) <;> (try unfold o_put at h) <;> (try unfold o_ald at h) <;> (try unfold o_aald at h) <;> (try unfold o_ast at h) <;> (try unfold o_aast at h) <;> (try unfold o_len at h) <;> (try unfold o_new at h) <;> (try unfold o_newa at h) <;> (try unfold o_if at h) <;> (try unfold nx at h)
         (repeat' split at h) <;> cases h)
set_option maxHeartbeats 4000000 in
theorem thr_of {X : XS} {Rr : Option FieldType} {i : Instr} {len a b cc j pc E : Nat} {lv st : List AV} {G : GG} (hk : okE mi (pc, i, len, a, b, cc, j) = true) (h : stepI X Rr i len a b cc pc lv st G = some (.inr (.inr (.inr E)))) : st = [] ∧ E < 3 ∧ 6 ≤ mi.2.2.2.2.1 ∧ mi.1.cls = "FountainPark" ∧ ∃ idx, decode mi.2.1 pc = .ok (.new idx, 3) ∧ Cond.classLink mi.1.cls idx (exNm E) ∈ GW ∧ (∃ q ∈ strs, q.1 = b) ∧ decode mi.2.1 (pc + 3) = .ok (.dup, 1) ∧
    ((decode mi.2.1 (pc + 4) = .ok (.ldc b, 2) ∧ decode mi.2.1 (pc + 6) = .ok (.invokespecial (exIc E), 3) ∧ decode mi.2.1 (pc + 9) = .ok (.athrow, 1)) ∨ (decode mi.2.1 (pc + 4) = .ok (.ldc_w b, 3) ∧ decode mi.2.1 (pc + 7) = .ok (.invokespecial (exIc E), 3) ∧ decode mi.2.1 (pc + 10) = .ok (.athrow, 1))) := by
  unfold okE at hk
  simp only [Bool.and_eq_true, decide_eq_true_eq] at hk
  obtain ⟨⟨hd, hlen⟩, hw⟩ := hk
  cases i with
  | new idx =>
    simp only [decide_eq_true_eq] at hlen; subst hlen
    unfold stepI o_new at h; simp only at h
    unfold okW at hw; simp only at hw
    by_cases ha : 100 ≤ a
    · rw [if_pos ha] at h hw
      split at h <;> cases h
      simp only [Bool.and_eq_true, Bool.or_eq_true, decide_eq_true_eq, List.any_eq_true] at hw
      obtain ⟨⟨⟨⟨⟨⟨⟨h1, h2⟩, h3⟩, h4⟩, h5⟩, h6⟩, h7⟩, h8⟩ := hw
      subst h4
      obtain ⟨q, hq1, hq2⟩ := h6
      refine ⟨rfl, by omega, h5, h2, idx, hd, lnk_in h3, ⟨q, hq1, hq2⟩, h7, ?_⟩
      rcases h8 with ⟨⟨x, y⟩, z⟩ | ⟨⟨x, y⟩, z⟩
      · exact Or.inl ⟨x, y, z⟩
      · exact Or.inr ⟨x, y, z⟩
    · rw [if_neg ha] at h
      unfold nx at h
      split at h <;> cases h
  | invokevirtual idx =>
    exfalso
    unfold stepI o_callV at h; simp only at h
    (repeat' split at h) <;> cases h
  | invokestatic idx =>
    exfalso
    unfold stepI o_callS nx at h; simp only at h
    (repeat' split at h) <;> cases h
  | invokespecial idx =>
    exfalso
    unfold stepI o_callR nx at h; simp only at h
    (repeat' split at h) <;> cases h
  | _ =>
    exfalso
    unfold stepI at h
    simp only at h
    first
      | (cases h; done)
      | ((try unfold o_ld at h) <;> (try unfold o_st at h) <;> (try unfold o_bi at h) <;> (try unfold o_bi0 at h) <;> (try unfold o_bl at h) <;> (try unfold o_bd at h) <;> (try unfold o_cmp at h) <;> (try unfold o_cm0 at h) <;> (try unfold o_get at h) <;> (try unfold o_put at h) <;> (try unfold o_ald at h) <;> (try unfold o_aald at h) <;> (try unfold o_ast at h) <;> (try unfold o_aast at h) <;> (try unfold o_len at h) <;> (try unfold o_newa at h) <;> (try unfold o_ret at h) <;> (try unfold o_if at h) <;> (try unfold nx at h)
         (repeat' split at h) <;> cases h)
/-- a throw of this method's own -/
theorem so_thr {X : XS} {Rr : Option FieldType} {i : Instr} {len a b cc j pc E mc ms : Nat} {lv st : List AV} {G : GG} (hfl : l.stackTraces = false) (C : CX p R s m args meth c K mi) (htab : ∀ x ∈ c.exceptionTable.toList, False) (hk : okE mi (pc, i, len, a, b, cc, j) = true) (h : stepI X Rr i len a b cc pc lv st G = some (.inr (.inr (.inr E))))
    (hc0 : c0 ≤ G.2.2.2.2.1) (hs0 : s0 ≤ G.2.2.2.2.2.1) (hmc : (G.2.2.2.2.1 + 1) - c0 = mc) (hms : (G.2.2.2.2.2.1 + 6) - s0 = ms) (hrc : mc ≤ R.cells) (hrs : ms ≤ R.slots) :
    GS p l e R s m args below meth c (vx_MQ below (fun _ _ _ _ => False) (QX K E (thrG G)) args s mc ms (kO K)) K mi c0 s0 (pc, lv, st, G) := by
  have hts := C.2.2.2.2.1
  have hV := C.2.2.2.2.2.1
  obtain ⟨hst0, hE, h6, hcls, idx, hd, hlk, ⟨q, hq1, hq2⟩, hd3, hrest⟩ := thr_of hk h
  have hct : ct st ≤ 8 := by rw [hst0]; exact Nat.zero_le _
  have hT := thr_in E hE
  simp only [Bool.and_eq_true, decide_eq_true_eq] at hT
  obtain ⟨⟨⟨⟨t1, t2⟩, t3⟩, t4⟩, t5⟩ := hT
  have hown : s.vm.findClass "FountainPark" = some m.cls := by rw [← hcls]; exact C.2.2.2.1
  rw [hcls] at hlk
  have t1' := fun w hw => List.all_eq_true.mp t1 w hw
  have hat : ∀ w ∈ vx_atS "FountainPark" (exIc E) (exNm E) exSup, w.before args s = true := fun w hw => by
    have h9 := t1' w hw
    simp only [Bool.and_eq_true, Bool.or_eq_true, decide_eq_true_eq, Bool.not_eq_true'] at h9
    rcases h9.2 with ⟨g1, g2⟩ | ⟨g1, g2⟩
    · exact hts w (w_of_gw g2 g1)
    · exact va_Nw.use (List.all_eq_true.mp ng_on w g2) (hV.2.2.2.2.2.2.2.2.1 w g2)
  have hgood : ∀ w ∈ Cond.classLink "FountainPark" idx (exNm E) :: Cond.initialized (exNm E) :: vx_atS "FountainPark" (exIc E) (exNm E) exSup, vx_ot w = true := fun w hw => by
    rcases List.mem_cons.mp hw with rfl | hw
    · rfl
    · rcases List.mem_cons.mp hw with rfl | hw
      · rfl
      · have h9 := t1' w hw
        simp only [Bool.and_eq_true] at h9
        exact h9.1
  have hstr := hV.2.2.2.2.2.2.2.2.2.2.2 q hq1
  rw [hq2] at hstr
  have hini := hts _ (w_of_gw t3 rfl)
  have h7 := C.2.2.2.2.2.2.1
  have h8 := C.2.2.2.2.2.2.2.1
  intro hcc hss H locs ls hl hf hS
  have hx : ∀ t : State, s.vm.Alike t.vm → H.size ≤ t.heap.size → (∀ q : Nat, q < H.size → t.heap[q]? = H[q]?) → QX K E (thrG G) (exNm E) s t := fun t _ hz ho => by
    refine ⟨rfl, ?_, Nat.le_trans hS.1 hz, fun q a b => by rw [ho q (Nat.lt_of_lt_of_le a hS.1)]; exact hS.2.1 q a b⟩
    obtain ⟨ks, g1, g2, g3, g4, g5⟩ := hf
    exact ⟨ks, g1, g2.kept fun k q hq => ho q.1 (g2 k q hq).lt, g3, (fun h => by cases h), Nat.le_trans g5 hz⟩
  have hsz : ls.size = c.maxLocals := by rw [C.2.2.1]; exact hl.2.1
  have hst := ct_le (K := K) hct
  have hlen : exSup.length = 2 := rfl
  rcases hrest with ⟨d4, d6, d9⟩ | ⟨d4, d7, d10⟩
  · exact vx_throwS C.1 C.2.1 hfl hown t2 sup_fit (hts _ hlk) hini hstr hat hgood hV.2.2.2.2.2.2.1 hV.2.2.2.2.2.2.2.1 hS hsz hd hd3 d4 d6 d9 (fun x hx => (htab x hx).elim) (by rw [hlen]; omega) (by rw [hlen]; show ((st.map (sh K)).map fun v => v.category).sum + _ ≤ _; omega) (by show G.2.2.2.2.1 - c0 + 1 ≤ _; omega) (by show G.2.2.2.2.2.1 - s0 + 6 ≤ _; omega) C.2.2.2.2.2.2.2.2.2 hx hS.2.2 (by show G.2.2.2.2.1 - c0 + 1 ≤ _; omega) (by show G.2.2.2.2.2.1 - s0 + 6 ≤ _; omega)
  · exact vx_throwSW C.1 C.2.1 hfl hown t2 sup_fit (hts _ hlk) hini hstr hat hgood hV.2.2.2.2.2.2.1 hV.2.2.2.2.2.2.2.1 hS hsz hd hd3 d4 d7 d10 (fun x hx => (htab x hx).elim) (by rw [hlen]; omega) (by rw [hlen]; show ((st.map (sh K)).map fun v => v.category).sum + _ ≤ _; omega) (by show G.2.2.2.2.1 - c0 + 1 ≤ _; omega) (by show G.2.2.2.2.2.1 - s0 + 6 ≤ _; omega) C.2.2.2.2.2.2.2.2.2 hx hS.2.2 (by show G.2.2.2.2.1 - c0 + 1 ≤ _; omega) (by show G.2.2.2.2.2.1 - s0 + 6 ≤ _; omega)
end
