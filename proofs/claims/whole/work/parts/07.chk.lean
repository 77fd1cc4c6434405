theorem mg_allapp {α : Type} {p : α → Bool} {a b : List α} (h1 : a.all p = true) (h2 : b.all p = true) : (a ++ b).all p = true := by rw [List.all_append, h1, h2]; rfl
def mg_N (mi : Nat) : MethodName := (mg_i mi).1
def mg_B (mi : Nat) : ByteArray := (mg_i mi).2.1
def mg_hh (mi : Nat) : List (Nat × Nat × Nat × Nat) := (mg_i mi).2.2.2.2.1
def mg_pl (mi k : Nat) : Nat := (mg_i mi).2.2.2.2.2.getD k 0
def mg_own (mi : Nat) : String := (mg_N mi).cls
def mg_mem (w : Jvm.Cond) : Bool := decide (w ∈ lw_tbl) && mg_tw w
def mg_aty (t : Nat) : FieldType := match t with
  | 0 => .int | 1 => .char | 2 => .long | _ => .double
def mg_len (ins : Instr) : Nat := match ins with
  | .bipush _ | .ldc _ | .iload _ | .aload _ | .fload _ | .dload _ | .istore _ | .astore _ | .fstore _ | .dstore _ | .newarray _ => 2
  | .sipush _ | .ldc_w _ | .iinc .. | .goto _ | .ifCond .. | .if_icmp .. | .getfield _ | .putfield _ | .invokevirtual _ | .invokespecial _ | .invokestatic _ | .new _ => 3
  | _ => 1
def mg_isSw (ins : Instr) : Bool := match ins with
  | .tableswitch .. => true
  | _ => false
/-- the words of a callee -/
def mg_codeW (y : Nat) : Jvm.Cond := match mg_hh y with
  | [] => .code (mg_N y) (mg_B y) (mg_mlen y) (mg_ret y)
  | hh => .codeWith (mg_N y) (mg_B y) (mg_mlen y) (mg_ret y) hh
def mg_mchk (y n : Nat) (st : Bool) : Bool := mg_hasw (mg_pl y 0) (mg_codeW y) && mg_hasw (mg_pl y 1) (.initialized (mg_own y)) && mg_hasw (mg_pl y 2) (if st then .static (mg_N y) else .instanceMethod (mg_N y)) &&
  decide (mg_own y ≠ "java/lang/invoke/MethodHandle" ∧ mg_own y ≠ "java/lang/invoke/VarHandle" ∧ (parseMethodDescriptor (mg_N y).desc).map (fun d => d.parameters.length) = some n) && plainName (mg_own y)
def mg_names : List String := ["java/lang/RuntimeException", "java/lang/Exception"]
def mg_isM (w : Jvm.Cond) : Bool := mg_mem w
/-- the words of 'throw new E(text)', E's constructor handing on by its entry ix -/
def mg_ix (E : Nat) : Nat := if E = 3 then 13 else 7
def mg_six (ix : Nat) : ByteArray := ⟨#[0x2a, 0x2b, 0xb7, 0x00, UInt8.ofNat ix, 0xb1]⟩
def mg_ats (own : String) (ic E : Nat) : List Jvm.Cond := (Bundle.throwableAtoms ++ Bundle.throwableSAtoms ++ (Bundle.passSAtoms (mg_exc E) "java/lang/RuntimeException" (mg_ix E) (mg_six (mg_ix E)) ++ Bundle.chainSAtoms "java/lang/RuntimeException" ["java/lang/Exception"]) ++
  ([.methodLink own ic (Bundle.initS (mg_exc E)), .instantiable (mg_exc E) 6, .castable (mg_exc E) (mg_exc E), .selects (mg_exc E) Bundle.tFill0 Bundle.tFill0, .selects (mg_exc E) Bundle.tFill Bundle.tFill,
   .lays (mg_exc E) Bundle.tN "cause" "Ljava/lang/Throwable;", .lays (mg_exc E) Bundle.tN "stackTrace" Bundle.steD, .lays (mg_exc E) Bundle.tN "suppressedExceptions" Bundle.listD, .lays (mg_exc E) Bundle.tN "detailMessage" "Ljava/lang/String;",
   .fieldLink Bundle.tN 198 Bundle.tN "backtrace" "Ljava/lang/Object;", .lays Bundle.tN Bundle.tN "backtrace" "Ljava/lang/Object;", .lays (mg_exc E) Bundle.tN "backtrace" "Ljava/lang/Object;"] : List Jvm.Cond)).filter vx_no
def mg_ics : List Nat := [75, 90, 103, 142, 389, 314]
def mg_tchk (own : String) (ic E : Nat) : Bool := (mg_ats own ic E).all (fun w => mg_mem w && vx_ot w)
set_option maxRecDepth 100000 in
theorem mg_tok_0 : mg_tchk "CustomsDesk" 75 0 = true := by decide +kernel
set_option maxRecDepth 100000 in
theorem mg_tok_1 : mg_tchk "CustomsDesk" 90 1 = true := by decide +kernel
set_option maxRecDepth 100000 in
theorem mg_tok_2 : mg_tchk "CustomsDesk" 103 2 = true := by decide +kernel
set_option maxRecDepth 100000 in
theorem mg_tok_3 : mg_tchk "CustomsDesk" 142 3 = true := by decide +kernel
set_option maxRecDepth 100000 in
theorem mg_tok_4 : mg_tchk "CustomsDesk" 389 4 = true := by decide +kernel
set_option maxRecDepth 100000 in
theorem mg_tok_5 : mg_tchk "CustomsDesk" 314 5 = true := by decide +kernel
def mg_rest (mi pc : Nat) (ins : Instr) (o : List Nat) : Bool := match ins with
    | .ldc k => match o with
      | [v] => mg_mem (.constant (mg_own mi) k (Int32.ofNat v))
      | _ => false
    | .ldc_w k => match o with
      | [v] => mg_mem (.constant (mg_own mi) k (Int32.ofNat v))
      | _ => false
    | .goto off => match o with
      | [t] => decide ((pc : Int) + off = (t : Int))
      | _ => false
    | .ifCond _ off => match o with
      | [t] => decide ((pc : Int) + off = (t : Int))
      | _ => false
    | .if_icmp _ off => match o with
      | [t] => decide ((pc : Int) + off = (t : Int))
      | _ => false
    | .tableswitch df _ _ offs => match o with
      | d :: ts => decide ((pc : Int) + df = (d : Int)) && decide (offs.toList.map (fun x => (pc : Int) + x) = ts.map Int.ofNat)
      | _ => false
    | .getfield idx => match o with
      | [ci, k, nest, p] => match mg_cl[ci]? with
        | some (_, T, N) => decide (k < N) && (match nest with
          | 0 => mg_hasw p (.fieldLink (mg_own mi) idx (T k).1 (T k).2.1 (T k).2.2.1)
          | _ => mg_hasw p (.fieldLinkNest (mg_own mi) idx (T k).1 (T k).2.1 (T k).2.2.1 "CustomsDesk"))
        | none => false
      | _ => false
    | .putfield idx => match o with
      | [ci, k, nest, p] => match mg_cl[ci]? with
        | some (_, T, N) => decide (k < N) && (match nest with
          | 0 => mg_hasw p (.fieldLink (mg_own mi) idx (T k).1 (T k).2.1 (T k).2.2.1) && ((T k).2.2.2 == false || (decide ((mg_N mi).name = "<init>") && decide ((T k).1 = mg_own mi)))
          | _ => mg_hasw p (.fieldLinkNest (mg_own mi) idx (T k).1 (T k).2.1 (T k).2.2.1 "CustomsDesk") && (T k).2.2.2 == false)
        | none => false
      | _ => false
    | .invokevirtual idx => match o with
      | [y, n, p] => mg_hasw p (.methodLink (mg_own mi) idx (mg_N y)) && mg_mchk y n false && mg_hasw (mg_pl y 3) (.selects (mg_own y) (mg_N y) (mg_N y)) && decide (mg_hh y = []) && decide ((mg_cl[mg_cls y]?).map (fun q => q.1) = some (mg_own y))
      | _ => false
    | .invokestatic idx => match o with
      | [k, y, n, p] => (match k with
        | 0 => mg_hasw p (.methodLink (mg_own mi) idx (mg_N y)) && decide (mg_hh y = [])
        | 1 => mg_hasw p (.methodLinkNest (mg_own mi) idx (mg_N y) "CustomsDesk") && decide (mg_hh y = [])
        | 2 => mg_hasw p (.methodLink (mg_own mi) idx (mg_N y)) && decide (mg_hh y ≠ [])
        | _ => false) && mg_mchk y n true
      | [3, p] => mg_hasw p (.methodLink (mg_own mi) idx Lib.Math.max.name)
      | [4, p] => mg_hasw p (.methodLink (mg_own mi) idx Lib.Math.min.name)
      | [5, p] => mg_hasw p (.methodLink (mg_own mi) idx arraycopyName)
      | _ => false
    | .invokespecial idx => match o with
      | [k, y, n, p] => (match k with
        | 0 => mg_hasw p (.methodLink (mg_own mi) idx (mg_N y))
        | 1 => mg_hasw p (.methodLinkNest (mg_own mi) idx (mg_N y) "CustomsDesk")
        | _ => false) && mg_mchk y n false && decide (mg_hh y = []) && decide ((mg_N y).name = "<init>") && decide (mg_ret y = none) && decide ((mg_cl[mg_cls y]?).map (fun q => q.1) = some (mg_own y))
      | [2, p] => mg_hasw p (.methodLink (mg_own mi) idx Lib.objectInit)
      | _ => false
    | .newarray at9 => match o with
      | [t] => Nat.blt t 4 && decide (newarray.typeOf at9 = mg_aty t)
      | _ => false
    | .new idx => match o with
      | [0, ci, p] => match mg_cl[ci]? with
        | some (C, _, N) => mg_hasw p (.classLink (mg_own mi) idx C) && mg_mem (.instantiable C N) && mg_mem (.initialized C)
        | none => false
      | [1, E, is9, ic, wide, p, ps] => Nat.blt E 6 && mg_hasw p (.classLink (mg_own mi) idx (mg_exc E)) && mg_mem (.initialized (mg_exc E)) && vx_ot (.classLink (mg_own mi) idx (mg_exc E)) && vx_ot (.initialized (mg_exc E)) &&
        decide (decode (mg_B mi) (pc + 3) = .ok (.dup, 1)) && decide (mg_own mi = "CustomsDesk") && Nat.beq (mg_ics.getD E 0) ic && (match lw_tbl[ps]? with
          | some (.stringRef ow kk _) => decide (ow = mg_own mi) && Nat.beq kk is9
          | _ => false) && decide (mg_hh mi = []) && (match wide with
          | 0 => decide (decode (mg_B mi) (pc + 4) = .ok (.ldc is9, 2)) && decide (decode (mg_B mi) (pc + 6) = .ok (.invokespecial ic, 3)) && decide (decode (mg_B mi) (pc + 9) = .ok (.athrow, 1))
          | _ => decide (decode (mg_B mi) (pc + 4) = .ok (.ldc_w is9, 3)) && decide (decode (mg_B mi) (pc + 7) = .ok (.invokespecial ic, 3)) && decide (decode (mg_B mi) (pc + 10) = .ok (.athrow, 1)))
      | _ => false
    | _ => true
def mg_chk (mi : Nat) (e : mg_E) : Bool := match e with
  | (pc, ins, len, o) => decide (decode (mg_B mi) pc = .ok (ins, len)) && (mg_isSw ins || Nat.beq len (mg_len ins)) && mg_rest mi pc ins o
