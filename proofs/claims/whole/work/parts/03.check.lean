/-! the tables held against the class files' words: every instruction is decoded as the table says, every name is linked as the table says -/
def GW : List Cond := lw_tbl.filter goodWord
def exNm (E : Nat) : String := match E with
  | 0 => "java/lang/IndexOutOfBoundsException"
  | 1 => "java/lang/IllegalArgumentException"
  | _ => "java/lang/IllegalStateException"
def exIc (E : Nat) : Nat := match E with
  | 0 => 306
  | 1 => 117
  | _ => 56
def exSup : List String := ["java/lang/RuntimeException", "java/lang/Exception"]
def sNm (k : Nat) : String := match k with
  | 32 => "SETTING_AT_FIRST"
  | 33 => "SETTING_LEAST"
  | _ => "SETTING_MOST"
/-- the words that are not carried by themselves, but by the world -/
def NG : List Cond := [.methodLinkNest "FountainPark$Park" 19 ⟨"FountainPark$Frosts", "<init>", "()V"⟩ "FountainPark", .methodLinkNest "FountainPark$Park" 26 ⟨"FountainPark$Outings", "<init>", "()V"⟩ "FountainPark", .methodLinkNest "FountainPark" 25 ⟨"FountainPark$OutingText", "<init>", "()V"⟩ "FountainPark", .methodLinkNest "FountainPark$Park" 91 ⟨"FountainPark", "asNumber", "(Z)I"⟩ "FountainPark", .methodLinkNest "FountainPark$Fountain" 59 ⟨"FountainPark", "asNumber", "(Z)I"⟩ "FountainPark", .fieldLinkNest "FountainPark$Park" 51 "FountainPark" "SETTING_AT_FIRST" "[I" "FountainPark", .declares ⟨"java/lang/RuntimeException", "<init>", "(Ljava/lang/String;)V"⟩, .declares ⟨"java/lang/Exception", "<init>", "(Ljava/lang/String;)V"⟩, .declares ⟨"java/lang/Throwable", "<init>", "(Ljava/lang/String;)V"⟩, .castable (exNm 0) (exNm 0), .castable (exNm 1) (exNm 1), .castable (exNm 2) (exNm 2)]
def ilen (i : Instr) : Nat := match i with
  | .bipush _ => 2
  | .sipush _ => 3
  | .ldc _ => 2
  | .ldc_w _ => 3
  | .ldc2_w _ => 3
  | .iload _ => 2
  | .lload _ => 2
  | .dload _ => 2
  | .aload _ => 2
  | .istore _ => 2
  | .lstore _ => 2
  | .dstore _ => 2
  | .astore _ => 2
  | .iinc _ _ => 3
  | .ifCond _ _ => 3
  | .if_icmp _ _ => 3
  | .goto _ => 3
  | .getfield _ => 3
  | .putfield _ => 3
  | .getstatic _ => 3
  | .new _ => 3
  | .newarray _ => 2
  | .anewarray _ => 3
  | .invokevirtual _ => 3
  | .invokestatic _ => 3
  | .invokespecial _ => 3
  | _ => 1
def aTy (t : ArrayType) : Nat := match t with
  | .int => 0
  | .boolean => 1
  | .long => 2
  | _ => 99
def okM (mi z : MI) (idx b j : Nat) : Bool := decide (lnk[j]? = some (.methodLink mi.1.cls idx z.1)) && decide ((parseMethodDescriptor z.1.desc).map (fun d => d.parameters.length) = some b) && decide (z.2.2.2.2.1 < mi.2.2.2.2.1)
def okN' (mi z : MI) (idx b : Nat) : Bool := decide (.methodLinkNest mi.1.cls idx z.1 "FountainPark" ∈ NG) && decide ((parseMethodDescriptor z.1.desc).map (fun d => d.parameters.length) = some b) && decide (z.2.2.2.2.1 < mi.2.2.2.2.1)
def okW (mi : MI) (pc : Nat) (i : Instr) (a b c j : Nat) : Bool := match i with
  | .ldc2_w idx => if a = 0 then decide (lnk[j]? = some (.constantLong mi.1.cls idx (Int64.ofNat b))) else decide (lnk[j]? = some (.constantDouble mi.1.cls idx (UInt64.ofNat b)))
  | .dconst n => decide (n = 0) || decide (n = 1)
  | .getfield idx => decide (a < 8) && decide (b < kN a) && decide ((kT a b).1 = kC a) && decide (lnk[j]? = some (.fieldLink mi.1.cls idx (kC a) (kT a b).2.1 (kT a b).2.2.1))
  | .putfield idx => decide (a < 8) && decide (b < kN a) && decide ((kT a b).1 = kC a) && decide (lnk[j]? = some (.fieldLink mi.1.cls idx (kC a) (kT a b).2.1 (kT a b).2.2.1)) && (decide ((kT a b).2.2.2 = false) || (decide (mi.1.name = "<init>") && decide (mi.1.cls = kC a)))
  | .getstatic idx => decide (32 ≤ a) && decide (a < 35) && (if c = 0 then decide (lnk[j]? = some (.fieldLink mi.1.cls idx "FountainPark" (sNm a) "[I")) else decide (a = 32) && decide (.fieldLinkNest mi.1.cls idx "FountainPark" (sNm 32) "[I" "FountainPark" ∈ NG))
  | .new idx => if 100 ≤ a then decide (a < 103) && decide (mi.1.cls = "FountainPark") && decide (lnk[j]? = some (.classLink mi.1.cls idx (exNm (a - 100)))) && decide (c = exIc (a - 100)) && decide (6 ≤ mi.2.2.2.2.1) && strs.any (fun q => decide (q.1 = b)) &&
      decide (decode mi.2.1 (pc + 3) = .ok (.dup, 1)) && ((decide (decode mi.2.1 (pc + 4) = .ok (.ldc b, 2)) && decide (decode mi.2.1 (pc + 6) = .ok (.invokespecial c, 3)) && decide (decode mi.2.1 (pc + 9) = .ok (.athrow, 1))) || (decide (decode mi.2.1 (pc + 4) = .ok (.ldc_w b, 3)) && decide (decode mi.2.1 (pc + 7) = .ok (.invokespecial c, 3)) && decide (decode mi.2.1 (pc + 10) = .ok (.athrow, 1))))
    else decide (a < 8) && decide (b = kN a) && decide (lnk[j]? = some (.classLink mi.1.cls idx (kC a)))
  | .newarray t => decide ((kA a).1 = aTy t)
  | .anewarray idx => decide (3 ≤ (kA a).1) && decide ((kA a).1 < 11) && decide (lnk[j]? = some (.classLink mi.1.cls idx (kC ((kA a).1 - 3))))
  | .invokevirtual idx => match mths[a]? with
    | some z => okM mi z idx b j && decide (c < 8) && decide (kC c = z.1.cls) && !z.2.2.2.2.2.2
    | none => false
  | .invokestatic idx => if c = 6 then decide (lnk[j]? = some (.methodLink mi.1.cls idx Lib.Math.min.name)) && decide (1 ≤ mi.2.2.2.2.1) else if c = 7 then decide (lnk[j]? = some (.methodLink mi.1.cls idx ⟨"java/lang/Double", "doubleToRawLongBits", "(D)J"⟩)) && decide (1 ≤ mi.2.2.2.2.1) else match mths[a]? with
    | some z => if c = 3 then okN' mi z idx b && !z.2.2.2.2.2.2 else okM mi z idx b j && decide (z.2.2.2.2.2.2 = true ↔ c = 5)
    | none => false
  | .invokespecial idx => if c = 8 then decide (lnk[j]? = some (.methodLink mi.1.cls idx Lib.objectInit)) && decide (1 ≤ mi.2.2.2.2.1) else if c = 99 then true else match mths[a]? with
    | some z => if c = 4 then okN' mi z idx b && decide (z.1.name = "<init>") && !z.2.2.2.2.2.2 else okM mi z idx b j && decide (z.1.name = "<init>") && !z.2.2.2.2.2.2
    | none => false
  | .lookupswitch _ ps => (ps.toList.zip (ps.toList.drop 1)).all (fun q => q.1.1 < q.2.1)
  | _ => true
def okE (mi : MI) (e : EN) : Bool := decide (decode mi.2.1 e.1 = .ok (e.2.1, e.2.2.1)) && (match e.2.1 with
  | .tableswitch .. => true
  | .lookupswitch .. => true
  | i => decide (e.2.2.1 = ilen i)) && okW mi e.1 e.2.1 e.2.2.2.1 e.2.2.2.2.1 e.2.2.2.2.2.1 e.2.2.2.2.2.2
def okT' (n : Nat) : Bool := match mths[n]?, tabs[n]? with
  | some mi, some tb => tb.all (okE mi)
  | _, _ => false
/-- the words of a method -/
def codeW (mi : MI) : Cond := if mi.2.2.2.2.2.2 then .codeWith mi.1 mi.2.1 mi.2.2.1 mi.2.2.2.1 mi.2.2.2.2.2.1 else .code mi.1 mi.2.1 mi.2.2.1 mi.2.2.2.1
def okMw (mi : MI) (q : Nat × Nat × Nat × Nat × Nat) : Bool := decide (plainName mi.1.cls = true) && decide (mi.1.cls ≠ "java/lang/invoke/MethodHandle" ∧ mi.1.cls ≠ "java/lang/invoke/VarHandle") && decide (mi.2.2.1 ≤ 9) && decide (mi.2.2.2.2.1 ≤ 11) &&
  decide (lw_tbl[q.1]? = some (codeW mi)) && (decide (q.2.1 = 9999) || decide (lw_tbl[q.2.1]? = some (.static mi.1))) && (decide (q.2.2.1 = 9999) || decide (lw_tbl[q.2.2.1]? = some (.instanceMethod mi.1))) && (decide (q.2.2.2.1 = 9999) || decide (lw_tbl[q.2.2.2.1]? = some (.selects mi.1.cls mi.1 mi.1))) && decide (lw_tbl[q.2.2.2.2]? = some (.initialized mi.1.cls))
def okTc (n a b : Nat) : Bool := match mths[n]?, tabs[n]? with
  | some mi, some tb => ((tb.drop a).take b).all (okE mi)
  | _, _ => false
