/-! THE LAW'S WALK OUT OF THE SMALL MACHINE'S ANSWER -/
def R_law : String := "FountainParkLaw"
def G0 : GG := (fun _ _ _ => 0, fun _ _ _ => none, fun _ _ _ => 0, fun _ => 0, 0, 0, true)
/-- what is to be shown of the small machine -/
def Small : Prop := ∀ (L : Nat) (xs : Nat → Int32), L ≤ 2560 → ∃ Ge : GG, exec (L, xs) 200 [vR 31 0] G0 = some (.inl (some (vI 1)), Ge) ∧ Ge.2.2.2.2.1 ≤ 601024 ∧ Ge.2.2.2.2.2.1 ≤ 7293033
def lw_At (p : Program) (s : State) (m : MethodId) (meth : Method) (c : Code) (b L : Nat) (xs : Nat → Int32) : Prop :=
  p.tables.exec = Jvm.exec ∧ c.code = code ∧ meth.sig.returnType = ret ∧ c.maxLocals = 9 ∧ s.vm.findClass R_law = some m.cls ∧ (∀ w ∈ lw_tbl, w.before #[Value.ref b] s = true) ∧ va_X b L xs s s.heap ∧ b < s.heap.size ∧ meth.locks = false ∧ (Jvm.Cond.and given_1 narrow_1).before #[Value.ref b] s = true
set_option maxRecDepth 100000 in
theorem fl_static : ∀ k, 32 ≤ k → k < 35 → ((Cond.arrayOf (.static "FountainPark" (sNm k) "[I") .int ∈ flatC (Jvm.Cond.and given_1 narrow_1)) ∧ (Cond.eq (.length (.static "FountainPark" (sNm k) "[I")) (.int 5) ∈ flatC (Jvm.Cond.and given_1 narrow_1)) ∧ (∀ j, j < 5 → Cond.eq (.elem (.static "FountainPark" (sNm k) "[I") (.int (Int32.ofNat j))) (.int ((stat3 k).getD j 0)) ∈ flatC (Jvm.Cond.and given_1 narrow_1)) ∧ Cond.laysStatic "FountainPark" (sNm k) "[I" ∈ lw_tbl) := by
  intro k h1 h2
  have : k = 32 ∨ k = 33 ∨ k = 34 := by omega
  rcases this with rfl | rfl | rfl <;> decide +kernel
theorem fl_exc : Cond.isRef (.static Bundle.tN "UNASSIGNED_STACK" Bundle.steD) ∈ flatC (Jvm.Cond.and given_1 narrow_1) ∧ Cond.isRef (.static Bundle.tN "SUPPRESSED_SENTINEL" Bundle.listD) ∈ flatC (Jvm.Cond.and given_1 narrow_1) ∧ Cond.laysStatic Bundle.tN "UNASSIGNED_STACK" Bundle.steD ∈ lw_tbl ∧ Cond.laysStatic Bundle.tN "SUPPRESSED_SENTINEL" Bundle.listD ∈ lw_tbl ∧ Cond.initialized Bundle.tN ∈ lw_tbl ∧ Cond.initialized "FountainPark" ∈ lw_tbl := by decide +kernel
theorem fl_nc : ∀ a, a < 3 → ∀ b, b < 3 → a ≠ b → Cond.not (.castable (exNm a) (exNm b)) ∈ flatC (Jvm.Cond.and given_1 narrow_1) := by decide +kernel
theorem fl_str : ∀ q ∈ strs, Cond.exactly (.string "FountainPark" q.1) "java/lang/String" ∈ flatC (Jvm.Cond.and given_1 narrow_1) ∧ Cond.stringRef "FountainPark" q.1 q.2.1 ∈ lw_tbl := by decide +kernel
theorem fl_ng : ∀ w ∈ NG, w ∈ lw_tbl := by decide +kernel
theorem fl_arr : Cond.arrayClass .int ∈ lw_tbl ∧ Cond.arrayClass .boolean ∈ lw_tbl ∧ Cond.arrayClass .long ∈ lw_tbl ∧ Cond.arrayOver (.object (kC 0)) ∈ lw_tbl ∧ Cond.arrayOver (.object (kC 2)) ∈ lw_tbl ∧ Cond.arrayOver (.object (kC 5)) ∈ lw_tbl := by decide +kernel
theorem arr_of {s : State} {args : Array Value} {ty : FieldType} (h : (Cond.arrayClass ty).before args s = true) (hn : ∀ C, ty ≠ .object C) : ∃ c : ClassId, ArrOfT s c ty ∧ va_RA s c ty := by
  obtain ⟨c, k, comp, h1, h2, h3⟩ := Cond.arrayClass_spec h
  refine ⟨c, fun n z => ⟨fun k h => (by cases h), k, h2, comp, h3⟩, ?_⟩
  cases ty with
  | object C => exact absurd rfl (hn C)
  | _ => exact h1
theorem arr_ofO {s : State} {args : Array Value} {C : String} (h : (Cond.arrayOver (.object C)).before args s = true) : ∃ c : ClassId, ArrOfT s c (.object C) ∧ va_RA s c (.object C) := by
  obtain ⟨comp, c, k, h1, h2, h3, h4, h5⟩ := Cond.arrayOver_spec h
  exact ⟨c, fun n z => ⟨fun k h => (by cases h), k, h3, comp, h4⟩, k, comp, h3, h4, h1, h5⟩
set_option maxHeartbeats 4000000 in
theorem start_VF {s : State} {b L : Nat} {xs : Nat → Int32} (hts : ∀ w ∈ lw_tbl, w.before #[Value.ref b] s = true) (hX : va_X b L xs s s.heap) (hbl : b < s.heap.size) (hgv : (Jvm.Cond.and given_1 narrow_1).before #[Value.ref b] s = true) : ∃ K : KE, K.1 = s.heap.size ∧ K.2.1 = b ∧ K.2.2.1 = (L, xs) ∧ VF K s := by
  have hfl := flat_of_before _ hgv
  have hA : ∀ a : Nat, a < s.heap.size → ¬ (fun q => s.heap.size ≤ q) a := fun a h => Nat.not_le.mpr h
  have H1 : ∀ k : Nat, ∃ q : ClassId × (Nat → Nat), k < 8 → u_Kn s (kC k) (kT k) (kN k) q.1 q.2 := by
    intro k
    by_cases hk : k < 8
    · obtain ⟨cC, iS, h⟩ := u_known (C := kC k) (T := kT k) (N := kN k) (n := kN k) (ws := GW) (fun w hw => hts w (List.mem_filter.mp hw).1) (k_in hk) (hts _ (List.mem_filter.mp (in_inst hk)).1)
      exact ⟨(cC, iS), fun _ => h⟩
    · exact ⟨(0, fun _ => 0), fun h => absurd h hk⟩
  obtain ⟨f1, hf1⟩ := Classical.axiomOfChoice H1
  obtain ⟨a1, a2, a3, a4, a5, a6⟩ := fl_arr
  obtain ⟨ci, hci⟩ := arr_of (hts _ a1) (fun C h => by cases h)
  obtain ⟨cz, hcz⟩ := arr_of (hts _ a2) (fun C h => by cases h)
  obtain ⟨cl, hcl⟩ := arr_of (hts _ a3) (fun C h => by cases h)
  obtain ⟨cF, hcF⟩ := arr_ofO (hts _ a4)
  obtain ⟨cJ, hcJ⟩ := arr_ofO (hts _ a5)
  obtain ⟨cP, hcP⟩ := arr_ofO (hts _ a6)
  have H3 : ∀ k : Nat, ∃ t : Nat, 32 ≤ k → k < 35 → (Term.static "FountainPark" (sNm k) "[I").eval #[Value.ref b] s none [] s = some (.ref t) ∧ va_T .int t 5 (fun j => .int ((stat3 k).getD j 0)) (fun q => s.heap.size ≤ q) s s.heap := by
    intro k
    by_cases hk : 32 ≤ k ∧ k < 35
    · obtain ⟨e1, e2, e3, -⟩ := fl_static k hk.1 hk.2
      obtain ⟨t, ht, hT⟩ := va_Tof (N := 5) (f := fun j => .int ((stat3 k).getD j 0)) (by decide) (hfl _ e1) (va_eqt (hfl _ e2)) (fun j hj => va_eqt (hfl _ (e3 j hj))) hA
      exact ⟨t, fun _ _ => ⟨ht, hT⟩⟩
    · exact ⟨0, fun x y => absurd ⟨x, y⟩ hk⟩
  obtain ⟨f3, hf3⟩ := Classical.axiomOfChoice H3
  have H4 : ∀ k : Nat, ∃ a : Nat, ∀ q ∈ strs, q.1 = k → vk_R "FountainPark" q.1 q.2.1 a s := by
    intro k
    cases hv : (Term.string "FountainPark" k).eval #[Value.ref b] s none [] s with
    | none =>
      refine ⟨0, fun q hq hk => ?_⟩
      exfalso
      have h9 := hfl _ (fl_str q hq).1
      rw [hk] at h9
      obtain ⟨a, _, _, _, ht, -⟩ := Cond.exactly_spec h9
      cases hv.symm.trans ht
    | some v =>
      cases v with
      | ref a =>
        refine ⟨a, fun q hq hk => vk_R.of (hts _ (fl_str q hq).2) (by rw [hk]; exact hv)⟩
      | _ =>
        refine ⟨0, fun q hq hk => ?_⟩
        exfalso
        have h9 := hfl _ (fl_str q hq).1
        rw [hk] at h9
        obtain ⟨a, _, _, _, ht, -⟩ := Cond.exactly_spec h9
        cases hv.symm.trans ht
  obtain ⟨f4, hf4⟩ := Classical.axiomOfChoice H4
  refine ⟨(s.heap.size, b, (L, xs), (fun k => (f1 k).1, fun k => (f1 k).2), (fun t => match t with | 0 => ci | 1 => cz | 2 => cl | 3 => cF | 5 => cJ | _ => cP), f3, f4), rfl, rfl, rfl, ?_⟩
  obtain ⟨x1, x2, x3, x4, x5, x6⟩ := fl_exc
  refine ⟨⟨fun k q hq => ?_, fun k q hq => ?_⟩, hX, hbl, hbl, Nat.le_refl _, fun k h1 h2 => ⟨va_Zof (hts _ (fl_static k h1 h2).2.2.2) (hts _ x6) (hf3 k h1 h2).1 hA, (hf3 k h1 h2).2⟩, vx_Zqof (hts _ x3) (hts _ x5) (hfl _ x1) hA, vx_Zqof (hts _ x4) (hts _ x5) (hfl _ x2) hA, fun w hw => va_Nw.of (List.all_eq_true.mp ng_on w hw) (hts _ (fl_ng w hw)), fun t ht => ?_, fun a b' ha hb' hab => va_Nc.of (hfl _ (fl_nc a ha b' hb' hab)), fun q hq => hf4 q.1 q hq rfl⟩
  · have hk : k < 8 := by
      have := (List.getElem?_eq_some_iff.mp hq).1
      simpa using this
    cases (k_cl hk).symm.trans hq
    exact hf1 k hk
  · match k, hq with
    | 0, hq => cases hq; exact hci
    | 1, hq => cases hq; exact hcz
    | 2, hq => cases hq; exact hcl
    | 3, hq => cases hq; exact hcF
    | 4, hq => cases hq; exact hcJ
    | 5, hq => cases hq; exact hcP
    | k + 6, hq => simp [tysL] at hq
  · rcases ht with rfl | rfl | rfl
    · exact va_AO.of (hts _ a4)
    · exact va_AO.of (hts _ a5)
    · exact va_AO.of (hts _ a6)
theorem law_mi : ∃ mi : MI, mths[200]? = some mi ∧ mi.1.cls = R_law ∧ mi.1.name = "law" ∧ mi.2.1 = code ∧ mi.2.2.1 = 9 ∧ mi.2.2.2.2.1 = 12 ∧ mi.2.2.2.2.2.1 = [] := ⟨_, rfl, rfl, rfl, rfl, rfl, rfl, rfl⟩
theorem st_flags {l : Launch} (h : l.flags = flags0) : l.stackTraces = false := by
  unfold Launch.stackTraces
  rw [h]
  decide +kernel
def lw_P (b : Addr) (xs : List Int32) (args : Array Value) (s : State) : Prop := args = #[.ref b] ∧ s.IntsAt b xs ∧ xs.length ≤ 2560 ∧ (Jvm.Cond.and given_1 narrow_1).before args s = true
/-- what a walk over the start with the record d0 says of its end, said of the start itself -/
theorem lw_closed {s t : State} {o : Outcome} {d0 : Drawn} {L : List Loc} {k n : Nat} (hd0 : s.drawn.sameBut d0 lw_cs) (hv : ∃ v, o = .returned v) (hW : (s.setDrawn d0).WarmedH t.vm) (hs : (s.setDrawn d0).sameButNew ({ t with vm := s.vm } : State) L k n) : State.butDraws s t lw_cs (fun t1 => Framed s o t1 L k n) := by
  have h2 : t.drawn = d0 := congrArg State.drawn hs.1
  refine ⟨⟨hv, hW, State.sameButNew.setDrawn hs s.drawn⟩, ?_, by decide⟩
  rw [h2]
  exact hd0
def lw_Q (_ : Array Value) (s : State) (o : Outcome) (t : State) : Prop := o = .returned (some (.int 1)) ∧ State.butDraws s t lw_cs (fun t1 => Framed s o t1 [] 601024 7293033)
def lw_Z (below : List Frame) (a : Array Value) (s : State) : State → Prop := fun t => ∃ o, t.status = .running ∧ Ended t below o ∧ lw_Q a s o t
/-- the law's own end, with 1 on the stack, nothing written that was there before, its room as the claim has it; d0: the record of draws at this point (at the entry s.drawn: begin with 'refine W.base ?_' and 'have hd0 := Drawn.sameBut.refl s.drawn lw_cs') -/
theorem lw_ret {p : Program} {l : Launch} {e : Env} {s : State} {m : MethodId} {below : List Frame} {meth : Method} {c : Code} {b : Nat} {d0 : Drawn} (hd0 : s.drawn.sameBut d0 lw_cs) (hx : p.tables.exec = Jvm.exec) (hb : c.code = code) (hr : meth.sig.returnType = ret) (hlocks : meth.locks = false) {pc : Nat} {H : Heap} {ls : Array Slot} (hdg : decode code pc = .ok (.ireturn, 1)) : W p l e room_1 (s.setDrawn d0) m #[Value.ref b] below meth c H [] 601024 7293033 (lw_Z below #[Value.ref b] s) (F0 m pc ls [.int 1]) := by
  intro T hT X
  obtain ⟨fs, hret, hrun, hended, hW, hframe⟩ := X.leave (v := some (.int 1)) (hlocks := hlocks) (fun h => by rw [hr] at h; cases h)
  have hmeth' : T.vm.method? m = some meth := X.method'
  refine ⟨T.setFrames fs, ?_, .returned (some (.int 1)), hrun, hended, rfl, lw_closed hd0 ⟨_, rfl⟩ hW hframe⟩
  jvm_step X.here [X.here.top, hx, hb, hdg, hmeth', hr, ret, narrow_b1]
  (try refine ⟨rfl, ?_⟩); (try refine ⟨rfl, ?_⟩)
  first | (intro acts; rw [hret _ acts rfl rfl rfl]) | rw [hret _ _ rfl rfl rfl]
  exact Steps.refl _
set_option maxHeartbeats 4000000 in
theorem start_of (PC : Small) {p : Program} {e : Env} {s : State} {m : MethodId} {below : List Frame} {meth : Method} {c : Code} (l : Launch) (hflags : l.flags = flags0) {b L : Nat} {xs : Nat → Int32} (hL : L ≤ 2560) (C0 : lw_At p s m meth c b L xs) : W p l e room_1 s m #[Value.ref b] below meth c s.heap [] 0 0 (lw_Z below #[Value.ref b] s) (entryFrame m ([Value.ref b] : List Value).toArray 9) := by
  obtain ⟨hx, hb, hr, hml, hown, hts, hX, hbl, hlocks, hgv⟩ := id C0
  obtain ⟨K, k1, k2, k3, hV⟩ := start_VF hts hX hbl hgv
  obtain ⟨mi, m1, m2, m3, m4, m5, m6, m7⟩ := law_mi
  obtain ⟨Ge, hex, hg1, hg2⟩ := PC L xs hL
  obtain ⟨N, hev⟩ := exec_iff.mp hex
  cases N with
  | zero => simp [ev] at hev
  | succ N =>
    unfold ev at hev
    split at hev
    · rename_i hsp
      have hfl := st_flags hflags
      have C : CX p room_1 s m #[Value.ref b] meth c K mi := ⟨hx, by rw [m4]; exact hb, by rw [m5]; exact hml, by rw [m2]; exact hown, fun w hw => hts w (List.mem_filter.mp hw).1, hV, by rw [m6]; exact Nat.le_of_ble_eq_true rfl, by rw [m6]; exact Nat.le_of_ble_eq_true rfl, fun h => by rw [m3] at h; exact absurd h (by decide), hlocks⟩
      have hf : HF K G0 s.heap := by
        refine ⟨[], fun q => ?_, fun j q h => by simp [wl] at h, ⟨fun i j x y h => by simp [wl] at h, fun j q h => by simp [wl] at h⟩, fun _ => ?_, by rw [k1]; exact Nat.le_refl _⟩
        · show q ∈ [] ↔ q.1 < 31 ∧ q.2 < 0
          simp
        · show s.heap.size = K.1 + 0
          rw [k1]
          rfl
      rw [← k3] at hev
      have g := run_sound (K := K) (e := e) (below := below) (Q := lw_Z below #[Value.ref b] s) (c0 := 0) (s0 := 0) hfl (ctr_all hfl N) (fun y a G r q => ev_mono_cc N y a G r q) (fun y a G E G' q => ev_thr N y a G E G' q) m1 C (fun h => by rcases h with h | ⟨E, h⟩; exact absurd m7 h; cases h) ⟨hg1, hg2⟩ (Or.inr ⟨_, rfl⟩)
        (fun r hr' pc ls H locs hra hf9 hS => by
          cases hr'
          have hdec : decode code pc = .ok (.ireturn, 1) := by
            rcases hra with ⟨x, h1, h2, -⟩ | ⟨x, h1, -⟩ | ⟨x, h1, -⟩ | ⟨h1, -⟩
            · rw [m4] at h2; exact h2
            · cases h1
            · cases h1
            · cases h1
          refine va_forget (fun q hq => ?_) ?_
          · have := hS.2.2 q hq
            show s.heap.size ≤ q.base
            rw [← k1]
            exact this
          · refine W.widen (k := 601024) (n := 7293033) (by omega) (by omega) ?_
            exact lw_ret (d0 := s.drawn) (Drawn.sameBut.refl s.drawn lw_cs) hx hb hr hlocks hdec)
        (fun E hE => by cases hE) N _ hev
      have g2 := g (Nat.le_refl _) (Nat.le_refl _) s.heap [] _ (lr_init m1 hsp) hf va_S.rf
      rw [lg_entry_eq]
      have had : ([vR 31 0].map (sh K)) = [Value.ref b] := by
        show [Value.ref (ad K 31 0)] = _
        unfold ad
        rw [if_pos rfl, k2]
      rw [had, m5] at g2
      exact g2
    · cases hev
