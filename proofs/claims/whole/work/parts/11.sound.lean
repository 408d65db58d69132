/-! the walk of a method, and its contract -/
theorem law_hh : (mths[200]?.map fun mi => mi.2.2.2.2.2.1) = some [] := by decide +kernel
theorem hand_ok {y pc E h k : Nat} {mi : MI} (hm : mths[y]? = some mi) (hh : hand y pc E = some (h, k)) : E < 3 ∧ k < mi.2.2.1 ∧ ∃ (pre suf : List (Nat × Nat × Nat × Nat)) (q : Nat × Nat × Nat × Nat) (en : EN), mi.2.2.2.2.2.1 = pre ++ q :: suf ∧ (∀ z ∈ pre, (¬ (z.1 ≤ pc ∧ pc < z.2.1)) ∨ exIx z.2.2.2 ≠ E) ∧ q.1 ≤ pc ∧ pc < q.2.1 ∧ exIx q.2.2.2 = E ∧ (∀ z ∈ mi.2.2.2.2.2.1, exIx z.2.2.2 < 3 ∧ z.2.2.2 = 13 + 2 * exIx z.2.2.2) ∧ entry y q.2.2.1 = some en ∧ ((en.2.1 = .astore k ∧ h = q.2.2.1 + 2) ∨ (∃ k' : Fin 4, en.2.1 = .astore_n k' ∧ (k' : Nat) = k ∧ h = q.2.2.1 + 1)) := by
  unfold hand at hh
  have hhands : hands y = mi.2.2.2.2.2.1 := by unfold hands; rw [hm]
  rw [hhands] at hh
  cases hf : mi.2.2.2.2.2.1.find? (fun h => decide (h.1 ≤ pc) && decide (pc < h.2.1) && decide (exIx h.2.2.2 = E)) with
  | none => rw [hf] at hh; cases hh
  | some q =>
    rw [hf] at hh
    simp only at hh
    rw [List.find?_eq_some_iff_append] at hf
    obtain ⟨hq, pre, suf, hsp, hpre⟩ := hf
    simp only [Bool.and_eq_true, decide_eq_true_eq] at hq
    have hml : y < 201 := by rw [← len_ok.1]; exact (List.getElem?_eq_some_iff.mp hm).1
    have hty : y < tabs.length := by rw [len_ok.2.2]; exact hml
    have hz : (mths.zip tabs)[y]? = some (mi, tabs[y]) := by
      rw [List.getElem?_zip_eq_some]
      exact ⟨hm, List.getElem?_eq_getElem hty⟩
    have hall := List.all_eq_true.mp hh_ok _ (List.mem_of_getElem? hz)
    simp only [Bool.and_eq_true] at hall
    have hall2 := hall.2
    have hqm : q ∈ mi.2.2.2.2.2.1 := by rw [hsp]; simp
    have hq2 := List.all_eq_true.mp hall2 q hqm
    simp only [Bool.and_eq_true, decide_eq_true_eq] at hq2
    have hE : E < 3 := by rw [← hq.2]; exact hq2.1.1
    have hent : entry y q.2.2.1 = tabs[y].find? (fun e => e.1 == q.2.2.1) := by
      unfold entry
      rw [List.getElem?_eq_getElem hty]
    rw [← hent] at hq2
    have hfin : ∃ en : EN, entry y q.2.2.1 = some en ∧ k < mi.2.2.1 ∧ ((en.2.1 = .astore k ∧ h = q.2.2.1 + 2) ∨ (∃ k' : Fin 4, en.2.1 = .astore_n k' ∧ (k' : Nat) = k ∧ h = q.2.2.1 + 1)) := by
      have h3 := hq2.2
      cases he : entry y q.2.2.1 with
      | none => rw [he] at hh; cases hh
      | some en =>
        rw [he] at hh h3
        obtain ⟨a1, i, a2⟩ := en
        refine ⟨_, rfl, ?_⟩
        cases i with
        | astore k9 =>
          cases hh
          simp only [decide_eq_true_eq] at h3
          exact ⟨h3, Or.inl ⟨rfl, rfl⟩⟩
        | astore_n k9 =>
          cases hh
          simp only [decide_eq_true_eq] at h3
          exact ⟨h3, Or.inr ⟨k9, rfl, rfl, rfl⟩⟩
        | _ => cases hh
    obtain ⟨en, e1, e2, e3⟩ := hfin
    refine ⟨hE, e2, pre, suf, q, en, hsp, fun z hzp => ?_, hq.1.1, hq.1.2, hq.2, fun z hzm => ?_, e1, e3⟩
    · have h4 := hpre z hzp
      simp only [Bool.not_eq_true', Bool.and_eq_false_iff, decide_eq_false_iff_not] at h4
      rcases h4 with (h4 | h4) | h4
      · exact Or.inl fun h5 => h4 h5.1
      · exact Or.inl fun h5 => h4 h5.2
      · exact Or.inr h4
    · have h5 := List.all_eq_true.mp hall2 z hzm
      simp only [Bool.and_eq_true, decide_eq_true_eq] at h5
      exact h5.1
section
variable {p : Program} {l : Launch} {e : Env} {R : Room} {s : State} {m : MethodId} {args : Array Value} {below : List Frame} {meth : Method} {c : Code} {Q : State → Prop} {K : KE} {mi : MI} {c0 s0 : Nat}
/-- a callee's exception that a row of the table takes -/
theorem so_catch {y pc E h k : Nat} {lv : List AV} {G' : GG} (C : CX p R s m args meth c K mi) (hm : mths[y]? = some mi) (htab : c.exceptionTable.toList = tableOf mi.2.2.2.2.2.1) (hh : hand y pc E = some (h, k)) (g : GS p l e R s m args below meth c Q K mi c0 s0 (h, kill lv k, [], G'))
    (hc : c0 ≤ G'.2.2.2.2.1) (hs : s0 ≤ G'.2.2.2.2.2.1) {H1 : Heap} {locs1 : List Loc} {ls : Array Slot} {q9 : Addr} {ce : Cell} {rest : List Value} (hl : lr K ls mi.2.2.1 lv) (hf : HF K G' H1) (hS : va_S (kO K) s.heap H1 locs1) (hce : H1[q9]? = some ce) (hcv : ce.vm = .none) (hcl : s.vm.findClass (exNm E) = some ce.cls) :
    vx_W p l e R s m args below meth c H1 locs1 (G'.2.2.2.2.1 - c0) (G'.2.2.2.2.2.1 - s0) Q (F0 m pc ls rest) q9 := by
  have hts := C.2.2.2.2.1
  have hV := C.2.2.2.2.2.1
  obtain ⟨hE, hkl, pre, suf, q, en, hsp, hpre, hq1, hq2, hq3, hall, hent, hcase⟩ := hand_ok hm hh
  have hml : y < 201 := by rw [← len_ok.1]; exact (List.getElem?_eq_some_iff.mp hm).1
  have hty : y < tabs.length := by rw [len_ok.2.2]; exact hml
  have hz : (mths.zip tabs)[y]? = some (mi, tabs[y]) := by
    rw [List.getElem?_zip_eq_some]
    exact ⟨hm, List.getElem?_eq_getElem hty⟩
  have hcls : mi.1.cls = "FountainParkLaw" := by
    have h1 := List.all_eq_true.mp hh_ok _ (List.mem_of_getElem? hz)
    simp only [Bool.and_eq_true, Bool.or_eq_true, decide_eq_true_eq] at h1
    rcases h1.1.1 with h2 | h2
    · exact h2
    · exfalso
      rw [hsp] at h2
      simp at h2
  have hlink : ∀ E', E' < 3 → (Cond.classLink mi.1.cls (13 + 2 * E') (exNm E')).before args s = true := fun E' hE' => by
    have hT := thr_in E' hE'
    simp only [Bool.and_eq_true, decide_eq_true_eq] at hT
    rw [hcls]
    exact hts _ (w_of_gw hT.1.2 rfl)
  have hcast : (Cond.castable (exNm E) (exNm E)).before args s = true := by
    have hT := thr_in E hE
    simp only [Bool.and_eq_true, decide_eq_true_eq] at hT
    exact va_Nw.use rfl (hV.2.2.2.2.2.2.2.2.1 _ hT.2)
  obtain ⟨hok, -, hpc⟩ := ent_ok hm hent
  have hdec : decode mi.2.1 q.2.2.1 = .ok (en.2.1, en.2.2.1) := by
    unfold okE at hok
    simp only [Bool.and_eq_true, decide_eq_true_eq] at hok
    rw [hpc] at hok
    exact hok.1.1
  have hlen : en.2.2.1 = ilen en.2.1 := by
    unfold okE at hok
    simp only [Bool.and_eq_true] at hok
    have h2 := hok.1.2
    rcases hcase with ⟨h3, -⟩ | ⟨k', h3, -⟩ <;> rw [h3] at h2 ⊢ <;> simpa using h2
  refine vx_catch (E := exNm E) (name := exNm E) C.2.2.2.1 (tableOf pre) ⟨q.1, q.2.1, q.2.2.1, q.2.2.2⟩ (tableOf suf) (by rw [htab, hsp]; simp [tableOf]) (fun z hz9 => ?_) ?_ ?_ ?_ hcast hce hcv hcl ?_
  · unfold tableOf at hz9
    obtain ⟨w, hw1, rfl⟩ := List.mem_map.mp hz9
    have hwm : w ∈ mi.2.2.2.2.2.1 := by rw [hsp]; exact List.mem_append_left _ hw1
    obtain ⟨a1, a2⟩ := hall w hwm
    rcases hpre w hw1 with h5 | h5
    · left
      unfold covers
      simp only [Bool.and_eq_false_iff, decide_eq_false_iff_not]
      by_cases h6 : w.1 ≤ pc
      · exact Or.inr fun h7 => h5 ⟨h6, h7⟩
      · exact Or.inl h6
    · right
      refine ⟨by show w.2.2.2 ≠ 0; omega, exNm (exIx w.2.2.2), ?_, hV.2.2.2.2.2.2.2.2.2.2.1 E _ hE a1 (Ne.symm h5)⟩
      show (Cond.classLink mi.1.cls w.2.2.2 _).before args s = true
      have := hlink _ a1
      rw [← a2] at this
      exact this
  · unfold covers
    simp only [Bool.and_eq_true, decide_eq_true_eq]
    exact ⟨hq1, hq2⟩
  · show q.2.2.2 ≠ 0
    have := (hall q (by rw [hsp]; simp)).2
    omega
  · show (Cond.classLink mi.1.cls q.2.2.2 (exNm E)).before args s = true
    have h1 := (hall q (by rw [hsp]; simp)).2
    rw [hq3] at h1
    rw [h1]
    exact hlink E hE
  · show W p l e R s m args below meth c H1 locs1 _ _ Q (F0 m q.2.2.1 ls [.ref q9])
    rcases hcase with ⟨h3, rfl⟩ | ⟨k', h3, rfl, rfl⟩
    · rw [h3] at hdec hlen
      rw [hlen] at hdec
      exact lv_astore C.1 C.2.1 hdec hl.2 hkl rfl fun ls' hl' => g hc hs H1 locs1 ls' (lr_kill hl.1 hl') hf hS
    · rw [h3] at hdec hlen
      rw [hlen] at hdec
      exact lv_astore_n C.1 C.2.1 hdec rfl hl.2 hkl rfl fun ls' hl' => g hc hs H1 locs1 ls' (lr_kill hl.1 hl') hf hS
/-- the whole walk of a method -/
theorem run_sound {call : Nat → List AV → GG → Option RS} (hfl : l.stackTraces = false) (hcall : ∀ y av G o G', call y av G = some (o, G') → ∀ z, mths[y]? = some z → y < 200 → Ctr K l z av G o G') (hcm : ∀ y a G r, call y a G = some r → mono G r.2) (hct : ∀ y a G E G', call y a G = some (.inr E, G') → ∀ z, mths[y]? = some z → 6 ≤ z.2.2.2.2.1)
    {y : Nat} (hm : mths[y]? = some mi) (C : CX p R s m args meth c K mi) {o : Option AV ⊕ Nat} (htab : (mi.2.2.2.2.2.1 ≠ [] ∨ ∃ E, o = .inr E) → c.exceptionTable.toList = tableOf mi.2.2.2.2.2.1) {Ge : GG} (hbud : Ge.2.2.2.2.1 - c0 ≤ R.cells ∧ Ge.2.2.2.2.2.1 - s0 ≤ R.slots) (h12 : y < 200 ∨ ∃ r, o = .inl r)
    (hret : ∀ r, o = .inl r → ∀ (pc : Nat) (ls : Array Slot) (H : Heap) (locs : List Loc), RetAt mi pc r → HF K Ge H → va_S (kO K) s.heap H locs → W p l e R s m args below meth c H locs (Ge.2.2.2.2.1 - c0) (Ge.2.2.2.2.2.1 - s0) Q (F0 m pc ls (r.toList.map (sh K))))
    (hthr : ∀ E, o = .inr E → mi.2.2.2.2.2.1 = [] ∧ Q = vx_MQ below (fun _ _ _ _ => False) (QX K E Ge) args s (Ge.2.2.2.2.1 - c0) (Ge.2.2.2.2.2.1 - s0) (kO K)) :
    ∀ n z, run K.2.2.1 call y n z = some (o, Ge) → GS p l e R s m args below meth c Q K mi c0 s0 z := by
  intro n
  induction n with
  | zero => intro z h; simp [run] at h
  | succ n ih =>
    rintro ⟨pc, lv, st, G⟩ h
    have hmo : mono G Ge := run_mono_cc hcm _ _ _ h
    unfold run at h
    cases hs : step K.2.2.1 y (pc, lv, st, G) with
    | none => rw [hs] at h; cases h
    | some x =>
      rw [hs] at h
      unfold step at hs
      cases hent : entry y pc with
      | none => simp only [hent] at hs; cases hs
      | some en =>
        obtain ⟨pc', i, len, a, b, cc, j⟩ := en
        simp only [hent] at hs
        obtain ⟨hok, hokc, hpc⟩ := ent_ok hm hent
        have hpc : pc' = pc := hpc
        subst hpc
        have hrt : retT y = mi.2.2.2.1 := by unfold retT; rw [hm]
        rw [hrt] at hs
        rcases x with z' | r' | ⟨yy, av, lv', st'⟩ | E
        · have h2 := ih z' h
          have hm2 : mono z'.2.2.2 Ge := run_mono_cc hcm _ _ _ h
          obtain ⟨q1, q2⟩ := hm2
          obtain ⟨q3, q4⟩ := hbud
          exact so_next C hok hs ⟨by omega, by omega⟩ h2
        · cases h
          obtain ⟨rfl, hra⟩ := ret_of hok hs
          intro hc hs' H locs ls hl hf hS
          exact hret r' rfl pc' ls H locs hra hf hS
        · simp only at h
          obtain ⟨e1, e2, -, -, z0, q0, hz0, -, hl200, -, -, hkind⟩ := call_of hok hokc hs
          cases hy : call yy av G with
          | none => rw [hy] at h; cases h
          | some w =>
            rw [hy] at h
            obtain ⟨ow, Gw⟩ := w
            have hmw : mono G Gw := hcm _ _ _ _ hy
            have hCt : ∀ z, mths[yy]? = some z → Ctr K l z av G ow Gw := fun z hz => hcall yy av G ow Gw hy z hz (by rw [e2]; exact hl200)
            cases ow with
            | inl v =>
              simp only at h
              have h2 := ih _ h
              have hm2 : mono Gw Ge := run_mono_cc hcm _ _ _ h
              obtain ⟨q1, q2⟩ := hm2
              obtain ⟨q3, q4⟩ := hbud
              exact so_call_ret C hok hokc hs hCt hmw ⟨by omega, by omega⟩ h2
            | inr E =>
              simp only at h
              have h20 : y < 200 := by
                rcases h12 with q | ⟨r, hr⟩
                · exact q
                · cases hh : hand y pc' E with
                  | none => rw [hh, hr] at h; cases h
                  | some hk =>
                    obtain ⟨h9, k9⟩ := hk
                    obtain ⟨-, -, pre, suf, q, en, hsp, -⟩ := hand_ok hm hh
                    have hml : y < 201 := by rw [← len_ok.1]; exact (List.getElem?_eq_some_iff.mp hm).1
                    rcases Nat.lt_or_ge y 200 with q2 | q2
                    · exact q2
                    · exfalso
                      have : y = 200 := by omega
                      subst this
                      have h8 := law_hh
                      rw [hm] at h8
                      have h7 : mi.2.2.2.2.2.1 = [] := Option.some.inj h8
                      rw [h7] at hsp
                      simp at hsp
              have hWf : ∀ z, mths[yy]? = some z → z.2.2.2.2.2.2 = false := by
                intro z hz
                rw [e2] at hz
                cases hz0.symm.trans hz
                rcases hkind with ⟨_, _, _, _, _, _, hW, _⟩ | ⟨idx, hi, _, _, _, _, hst⟩ | ⟨_, _, _, _, _, _, _, hW, _⟩
                · exact hW
                · rcases hst with ⟨hW, _⟩ | ⟨_, hcc⟩
                  · exact hW
                  · obtain ⟨tb, t1, t2, t3⟩ := ent_tb hent
                    have h5 := List.all_eq_true.mp calls5_ok tb (List.mem_of_getElem? (i := y) (by rw [List.getElem?_take_of_lt h20]; exact t1))
                    have h6 := List.all_eq_true.mp h5 _ t2
                    rw [hi] at h6
                    simp only [decide_eq_true_eq] at h6
                    cases hW : z0.2.2.2.2.2.2 with
                    | false => rfl
                    | true => exact absurd (hcc.mp hW) h6
                · exact hW
              cases hh : hand y pc' E with
              | none =>
                rw [hh] at h
                cases h
                obtain ⟨hnil, hQ⟩ := hthr E rfl
                refine so_call_thr C hok hokc hs (fun z hz => ⟨hCt z hz, hWf z hz, hct _ _ _ _ _ hy z hz⟩) hmw hbud ?_
                intro hc hs' H1 locs1 ls q ce hl hf hS hce hcv hcl
                rw [hQ]
                refine vx_out (fun x hx => ?_) C.2.2.2.2.2.2.2.2.2 hce hcv hcl (fun t ht hal => ⟨rfl, by rw [ht]; exact hf, by rw [ht]; exact hS.1, fun q a b => by rw [ht]; exact hS.2.1 q a b⟩) hS.2.2 (Nat.le_refl _) (Nat.le_refl _)
                rw [htab (Or.inr ⟨_, rfl⟩), hnil] at hx
                cases hx
              | some hk =>
                rw [hh] at h
                obtain ⟨h9, k9⟩ := hk
                simp only at h
                have h2 := ih _ h
                have hm2 : mono Gw Ge := run_mono_cc hcm _ _ _ h
                obtain ⟨q1, q2⟩ := hm2
                obtain ⟨q3, q4⟩ := hbud
                refine so_call_thr C hok hokc hs (fun z hz => ⟨hCt z hz, hWf z hz, hct _ _ _ _ _ hy z hz⟩) hmw ⟨by omega, by omega⟩ ?_
                intro hc hs' H1 locs1 ls q ce hl hf hS hce hcv hcl
                exact so_catch C hm (htab (Or.inl (by obtain ⟨-, -, pre, suf, q, en, hsp, -⟩ := hand_ok hm hh; rw [hsp]; simp))) hh h2 hc hs' hl hf hS hce hcv hcl
        · cases h
          obtain ⟨hnil, hQ⟩ := hthr E rfl
          have htab0 : ∀ x ∈ c.exceptionTable.toList, False := fun x hx => by rw [htab (Or.inr ⟨_, rfl⟩), hnil] at hx; cases hx
          rw [hQ]
          intro hc hs' H locs ls hl hf hS
          exact so_thr hfl C htab0 hok hs hc hs' rfl rfl hbud.1 hbud.2 hc hs' H locs ls hl hf hS
end

/-! contracts of all methods -/
theorem run_thr {X : XS} {call : Nat → List AV → GG → Option RS} (hc : ∀ y a G E G', call y a G = some (.inr E, G') → ∀ z, mths[y]? = some z → 6 ≤ z.2.2.2.2.1) {y : Nat} {mi : MI} (hm : mths[y]? = some mi) : ∀ n s E G', run X call y n s = some (.inr E, G') → 6 ≤ mi.2.2.2.2.1 := by
  intro n
  induction n with
  | zero => intro s E G' h; simp [run] at h
  | succ n ih =>
    rintro ⟨pc, lv, st, G⟩ E G' h
    unfold run at h
    cases hs : step X y (pc, lv, st, G) with
    | none => rw [hs] at h; cases h
    | some x =>
      rw [hs] at h
      unfold step at hs
      cases hent : entry y pc with
      | none => simp only [hent] at hs; cases hs
      | some en =>
        obtain ⟨pc', i, len, a, b, cc, j⟩ := en
        simp only [hent] at hs
        obtain ⟨hok, hokc, hpc⟩ := ent_ok hm hent
        have hpc : pc' = pc := hpc
        subst hpc
        rcases x with z' | r' | ⟨yy, av, lv', st'⟩ | E'
        · exact ih z' E G' h
        · cases h
        · simp only at h
          obtain ⟨e1, e2, -, -, z0, q0, hz0, -, -, hdep, -, -⟩ := call_of hok hokc hs
          cases hy : call yy av G with
          | none => rw [hy] at h; cases h
          | some w =>
            rw [hy] at h
            obtain ⟨ow, Gw⟩ := w
            cases ow with
            | inl v => exact ih _ E G' h
            | inr E2 =>
              have h6 := hc _ _ _ _ _ hy z0 (by rw [e2]; exact hz0)
              omega
        · obtain ⟨-, -, h6, -⟩ := thr_of hok hs
          exact h6
theorem ev_thr {X : XS} : ∀ N y a G E G', ev X N y a G = some (.inr E, G') → ∀ z, mths[y]? = some z → 6 ≤ z.2.2.2.2.1 := by
  intro N
  induction N with
  | zero => intro y a G E G' h; simp [ev] at h
  | succ N ih =>
    intro y a G E G' h z hz
    unfold ev at h
    split at h
    · exact run_thr ih hz N _ E G' h
    · cases h
theorem spread_cons (v : AV) (vs : List AV) : spread (v :: vs) = if cat v = 2 then v :: vU :: spread vs else v :: spread vs := rfl
theorem spread_len {K : KE} (av : List AV) : (lg_sl (av.map (sh K))).length = (spread av).length := by
  induction av with
  | nil => rfl
  | cons v vs ih =>
    unfold lg_sl at ih ⊢
    rw [List.map_cons, List.flatMap_cons, List.length_append, ih, sh_cat, spread_cons]
    by_cases h : cat v = 2
    · rw [if_pos h, if_pos h]
      show 2 + (spread vs).length = (v :: vU :: spread vs).length
      simp only [List.length_cons]
      omega
    · rw [if_neg h, if_neg h]
      show 1 + (spread vs).length = (v :: spread vs).length
      simp only [List.length_cons]
      omega
theorem spread_at {K : KE} : ∀ (av : List AV) (k0 i : Nat) (v : AV), (spread av)[i]? = some v → v ≠ vU → (k0 + i, sh K v) ∈ lv_args k0 (av.map (sh K)) := by
  intro av
  induction av with
  | nil => intro k0 i v h; simp [spread] at h
  | cons w vs ih =>
    intro k0 i v h hv
    unfold spread at h
    rw [List.map_cons]
    unfold lv_args
    rw [sh_cat]
    by_cases hc : cat w = 2
    · rw [if_pos hc] at h ⊢
      match i, h with
      | 0, h => cases h; exact List.mem_cons_self
      | 1, h => exact absurd (Option.some.inj h).symm hv
      | i + 2, h =>
        have := ih (k0 + 2) i v h hv
        rw [show k0 + (i + 2) = k0 + 2 + i by omega]
        exact List.mem_cons_of_mem _ this
    · rw [if_neg hc] at h ⊢
      match i, h with
      | 0, h => cases h; exact List.mem_cons_self
      | i + 1, h =>
        have := ih (k0 + 1) i v h hv
        rw [show k0 + (i + 1) = k0 + 1 + i by omega]
        exact List.mem_cons_of_mem _ this
theorem lr_init {K : KE} {y : Nat} {mi : MI} {av : List AV} (hm : mths[y]? = some mi) (hs : (spread av).length ≤ maxL y) : lr K ((lg_sl (av.map (sh K)) ++ List.replicate (mi.2.2.1 - (lg_sl (av.map (sh K))).length) Slot.unset).toArray) mi.2.2.1 (init y av) := by
  have hmx : maxL y = mi.2.2.1 := by unfold maxL; rw [hm]
  have h0 := lv_entry (av.map (sh K)) (n := mi.2.2.1) (by rw [spread_len, ← hmx]; exact hs)
  refine ⟨?_, lv_mono h0 fun q hq => ?_⟩
  · unfold init
    rw [List.length_append, List.length_replicate, hmx]
    omega
  · obtain ⟨v, h1, h2, h3⟩ := mem_toL.mp hq
    unfold init at h1
    by_cases hl : q.1 < (spread av).length
    · rw [List.getElem?_append_left hl] at h1
      have := spread_at (K := K) av 0 q.1 v h1 h2
      rw [Nat.zero_add, ← h3] at this
      exact this
    · exfalso
      rw [List.getElem?_append_right (by omega), List.getElem?_replicate] at h1
      split at h1
      · exact h2 (Option.some.inj h1).symm
      · cases h1
theorem ctr_all {K : KE} {l : Launch} (hfl : l.stackTraces = false) : ∀ N y av G o G', ev K.2.2.1 N y av G = some (o, G') → ∀ z, mths[y]? = some z → y < 200 → Ctr K l z av G o G' := by
  intro N
  induction N with
  | zero => intro y av G o G' h; simp [ev] at h
  | succ N ih =>
    intro y av G o G' h z hz hl
    unfold ev at h
    split at h
    · rename_i hsp
      have hci := code_in hz hl
      have hmo : mono G G' := run_mono_cc (fun y a G r q => ev_mono_cc N y a G r q) N _ _ h
      have hml : y < 201 := by omega
      have hty : y < tabs.length := by rw [len_ok.2.2]; exact hml
      have hzz : (mths.zip tabs)[y]? = some (z, tabs[y]) := by
        rw [List.getElem?_zip_eq_some]
        exact ⟨hz, List.getElem?_eq_getElem hty⟩
      have hhk := List.all_eq_true.mp hh_ok _ (List.mem_of_getElem? hzz)
      simp only [Bool.and_eq_true, Bool.or_eq_true, decide_eq_true_eq] at hhk
      have hplain : z.2.2.2.2.2.2 = false → z.2.2.2.2.2.1 = [] := fun hf => by
        rcases hhk.1.2 with q | q
        · rw [hf] at q; cases q
        · exact q
      have body : ∀ (Q : State → Prop) (p : Program) (e : Env) (s : State) (m : MethodId) (args : Array Value) (below : List Frame) (meth : Method) (c : Code), CX p (rmM z G G') s m args meth c K z → c.exceptionTable.toList = tableOf z.2.2.2.2.2.1 → args = (av.map (sh K)).toArray → HF K G s.heap →
          (∀ r, o = .inl r → ∀ (pc : Nat) (ls : Array Slot) (H : Heap) (locs : List Loc), RetAt z pc r → HF K G' H → va_S (kO K) s.heap H locs → W p l e (rmM z G G') s m args below meth c H locs (G'.2.2.2.2.1 - G.2.2.2.2.1) (G'.2.2.2.2.2.1 - G.2.2.2.2.2.1) Q (F0 m pc ls (r.toList.map (sh K)))) →
          (∀ E, o = .inr E → z.2.2.2.2.2.1 = [] ∧ Q = vx_MQ below (fun _ _ _ _ => False) (QX K E G') args s (G'.2.2.2.2.1 - G.2.2.2.2.1) (G'.2.2.2.2.2.1 - G.2.2.2.2.2.1) (kO K)) →
          W p l e (rmM z G G') s m args below meth c s.heap [] 0 0 Q (entryFrame m args z.2.2.1) := by
        intro Q p e s m args below meth c C htab hargs hf hret hthr
        have g := run_sound (l := l) (e := e) (below := below) (Q := Q) (c0 := G.2.2.2.2.1) (s0 := G.2.2.2.2.2.1) hfl ih (fun y a G r q => ev_mono_cc N y a G r q) (fun y a G E G' q => ev_thr N y a G E G' q) hz C (fun _ => htab) ⟨Nat.le_refl _, Nat.le_refl _⟩ (Or.inl hl) hret hthr N _ h
        have g2 := g (Nat.le_refl _) (Nat.le_refl _) s.heap [] _ (lr_init hz hsp) hf va_S.rf
        rw [hargs, lg_entry_eq]
        have q1 : G.2.2.2.2.1 - G.2.2.2.2.1 = 0 := Nat.sub_self _
        have q2 : G.2.2.2.2.2.1 - G.2.2.2.2.2.1 = 0 := Nat.sub_self _
        rw [q1, q2, hargs] at g2
        exact g2
      have ends : ∀ (r : Option AV), o = .inl r → ∀ (p : Program) (e : Env) (s : State) (m : MethodId) (args : Array Value) (below : List Frame) (meth : Method) (c : Code), CX p (rmM z G G') s m args meth c K z → meth.sig.returnType = z.2.2.2.1 → ∀ (pc : Nat) (ls : Array Slot) (H : Heap) (locs : List Loc), RetAt z pc r → HF K G' H → va_S (kO K) s.heap H locs →
          W p l e (rmM z G G') s m args below meth c H locs (G'.2.2.2.2.1 - G.2.2.2.2.1) (G'.2.2.2.2.2.1 - G.2.2.2.2.2.1) (MQ below (QR K r G') args s (G'.2.2.2.2.1 - G.2.2.2.2.1) (G'.2.2.2.2.2.1 - G.2.2.2.2.2.1) (kO K)) (F0 m pc ls (r.toList.map (sh K))) := by
        intro r _ p e s m args below meth c C hr pc ls H locs hra hf hS
        have hx := C.1
        have hb := C.2.1
        have hlk := C.2.2.2.2.2.2.2.2.2
        have hq : ∀ t : State, t.heap = H → s.WarmedH t.vm → QR K r G' args s (.returned (r.map (sh K))) t := fun t ht _ => ⟨rfl, by rw [ht]; exact hf, by rw [ht]; exact hS.1, fun q a b => by rw [ht]; exact hS.2.1 q a b⟩
        rcases hra with ⟨x, rfl, hd, hty2⟩ | ⟨x, rfl, hd, hty2⟩ | ⟨x, rfl, hd, hty2⟩ | ⟨rfl, hd, hty2⟩
        · rcases hty2 with h9 | ⟨h9, h10⟩
          · exact W.iret hx hb (by rw [hr]; exact h9) hq hS.2.2 hd hlk
          · exact W.zret hx hb (by rw [hr]; exact h9) (by rcases h10 with rfl | rfl <;> decide +kernel) hq hS.2.2 hd hlk
        · exact W.lret hx hb (by rw [hr]; exact hty2) hq hS.2.2 hd hlk
        · exact W.dret hx hb (by rw [hr]; exact hty2) hq hS.2.2 hd hlk
        · exact W.vret hx hb (by rw [hr]; exact hty2) hq hS.2.2 hd hlk
      have words : ∀ (s : State) (args : Array Value), (headSpec (codeW z :: GW) (rmM z G G')).pre.before args s = true → ∀ w ∈ GW, w.before args s = true := fun s args hp w hw => atoms_spec (ws := codeW z :: GW) hp w (List.mem_cons_of_mem _ hw)
      cases o with
      | inl r =>
        show Met l z.1 (codeW z :: GW) (rmM z G G') (va_Pc (av.map (sh K)) (WD K G)) (QR K r G') _ _ (kO K)
        cases hW : z.2.2.2.2.2.2 with
        | false =>
          refine Met.ofW (cc := z.2.1) (maxL := z.2.2.1) (ret := z.2.2.2.1) hci.2.2.1 (by rw [codeW_f hW]) ?_
          intro p e s m args below meth c s₁ B hml hv
          have C : CX p (rmM z G G') s m args meth c K z := ⟨B.exec, B.bytes, hml, findClass_of_methodNamed B.named, words s args B.pre, hv.2.1, Nat.le_refl _, Nat.le_refl _, (fun hn => (name_of_methodNamed B.named B.method).1.trans hn), B.notSynchronized⟩
          have htab : c.exceptionTable.toList = tableOf z.2.2.2.2.2.1 := by
            rw [hplain hW]
            obtain ⟨meth9, c9, h1, h2, -, -, -, -, h7, -⟩ := Cond.code_spec B.named (atoms_spec (ws := codeW z :: GW) B.pre _ (by rw [codeW_f hW]; exact List.mem_cons_self))
            cases Option.some.inj (h1.symm.trans B.method)
            cases Option.some.inj (h2.symm.trans (Stand.of_body B).code)
            rw [Array.isEmpty_iff.mp h7]
            rfl
          exact body _ p e s m args below meth c C htab hv.1 hv.2.2 (fun r' hr' => by cases hr'; exact ends r rfl p e s m args below meth c C B.returns) (fun E hE => by cases hE)
        | true =>
          refine va_MetW (cc := z.2.1) (maxL := z.2.2.1) (ret := z.2.2.2.1) (hh := z.2.2.2.2.2.1) hci.2.2.1 (by rw [codeW_t hW]) ?_
          intro p e s m args below meth c s₁ B hml hv
          have C : CX p (rmM z G G') s m args meth c K z := ⟨B.exec, B.bytes, hml, findClass_of_methodNamed B.named, words s args B.pre, hv.2.1, Nat.le_refl _, Nat.le_refl _, (fun hn => (name_of_methodNamed B.named B.method).1.trans hn), B.notSynchronized⟩
          have htab : c.exceptionTable.toList = tableOf z.2.2.2.2.2.1 := vx_table (x := z.1) B (atoms_spec (ws := codeW z :: GW) B.pre _ (by rw [codeW_t hW]; exact List.mem_cons_self))
          exact body _ p e s m args below meth c C htab hv.1 hv.2.2 (fun r' hr' => by cases hr'; exact ends r rfl p e s m args below meth c C B.returns) (fun E hE => by cases hE)
      | inr E =>
        intro hW
        refine vx_ofW (cc := z.2.1) (maxL := z.2.2.1) (ret := z.2.2.2.1) hci.2.2.1 (by rw [codeW_f hW]) ?_
        intro p e s m args below meth c s₁ B hml htb hv
        have C : CX p (rmM z G G') s m args meth c K z := ⟨B.exec, B.bytes, hml, findClass_of_methodNamed B.named, words s args B.pre, hv.2.1, Nat.le_refl _, Nat.le_refl _, (fun hn => (name_of_methodNamed B.named B.method).1.trans hn), B.notSynchronized⟩
        have htab : c.exceptionTable.toList = tableOf z.2.2.2.2.2.1 := by
          rw [hplain hW]
          cases hq : c.exceptionTable.toList with
          | nil => rfl
          | cons x xs => exact (htb x (by rw [hq]; exact List.mem_cons_self)).elim
        exact body _ p e s m args below meth c C htab hv.1 hv.2.2 (fun r' hr' => by cases hr') (fun E' hE' => by cases hE'; exact ⟨hplain hW, rfl⟩)
    · cases h
