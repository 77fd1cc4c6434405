def mg_ldI (loc : mg_L) (i : Nat) : Option Value := match loc[i]? with
  | some (some (.int x)) => some (.int x)
  | _ => none
def mg_ldA (loc : mg_L) (i : Nat) : Option Value := match loc[i]? with
  | some (some (.ref x)) => some (.ref x)
  | _ => none
def mg_ldF (loc : mg_L) (i : Nat) : Option Value := match loc[i]? with
  | some (some (.float x)) => some (.float x)
  | _ => none
def mg_ldD (loc : mg_L) (i : Nat) : Option Value := match loc[i]? with
  | some (some (.double x)) => some (.double x)
  | _ => none
def mg_kill (loc : mg_L) (i : Nat) : mg_L := match i with
  | 0 => loc
  | j + 1 => match loc[j]? with
    | some (some (.long _)) => loc.set j none
    | some (some (.double _)) => loc.set j none
    | _ => loc
def mg_st1 (loc : mg_L) (i : Nat) (v : Value) : mg_L := (mg_kill loc i).set i (some v)
def mg_st2 (loc : mg_L) (i : Nat) (v : Value) : mg_L := ((mg_kill loc i).set i (some v)).set (i + 1) none
def mg_fit (ty : FieldType) (v : Value) : Bool := match ty, v with
  | .int, .int _ => true
  | .boolean, .int x => x == 0 || x == 1
  | .object _, .ref _ => true
  | .array _, .ref _ => true
  | _, _ => false
def mg_iald (sc : mg_Sc) (w : mg_S) (a : Nat) (i : Int32) : Option Value := match a with
  | 0 => if i < 0 ∨ sc.1 ≤ i.toNatClampNeg then none else some (.int (sc.2 i.toNatClampNeg))
  | a + 1 => match w.1[a]? with
    | some (.inl (0, n, .inl f)) => if i < 0 ∨ n ≤ i.toNatClampNeg then none else some (.int (f i.toNatClampNeg))
    | _ => none
def mg_alen (sc : mg_Sc) (w : mg_S) (a : Nat) : Option Value := match a with
  | 0 => some (.int (Int32.ofNat sc.1))
  | a + 1 => match w.1[a]? with
    | some (.inl x) => if x.1 < 4 then some (.int (Int32.ofNat x.2.1)) else none
    | _ => none
def mg_zero (t N : Nat) : Option vp_A := match t with
  | 0 => some (N, .inl (fun _ => 0))
  | 1 => some (N, .inl (fun _ => 0))
  | 2 => some (N, .inr (.inl (fun _ => 0)))
  | 3 => some (N, .inr (.inr (.inr (.inl (fun _ => 0)))))
  | _ => none
def mg_upc (w : mg_S) (a : Nat) (c : mg_C) : mg_S := (w.1.set a c, w.2)
def mg_dflt (t : FieldType) : Value := match t with
  | .int => .int 0
  | .boolean => .int 0
  | _ => .null
def mg_new (ci : Nat) : Option (List Value) := match ci with
  | 0 => some ((List.range 5).map fun k => mg_dflt (tyX0 k))
  | 1 => some ((List.range 2).map fun k => mg_dflt (tyX1 k))
  | 2 => some ((List.range 5).map fun k => mg_dflt (tyX2 k))
  | 3 => some ((List.range 1).map fun k => mg_dflt (tyX3 k))
  | 4 => some ((List.range 4).map fun k => mg_dflt (tyX4 k))
  | 5 => some ((List.range 4).map fun k => mg_dflt (tyX5 k))
  | 6 => some ((List.range 5).map fun k => mg_dflt (tyX6 k))
  | 7 => some ((List.range 10).map fun k => mg_dflt (tyX7 k))
  | 8 => some ((List.range 16).map fun k => mg_dflt (tyX8 k))
  | _ => none
def mg_br (c : Prop) [Decidable c] (tgt nx : Nat) (loc : mg_L) (st : List Value) (w : mg_S) : Option (Nat × mg_L × List Value × mg_S) := some (if c then tgt else nx, loc, st, w)
/-- one instruction that is no call, no end -/
def mg_step (sc : mg_Sc) (e : mg_E) (loc : mg_L) (st : List Value) (w : mg_S) : Option (Nat × mg_L × List Value × mg_S) := match e with
  | (pc, ins, len, o) => match ins with
    | .iconst n => some (pc + 1, loc, .int (Int32.ofInt n) :: st, w)
    | .bipush n => some (pc + 2, loc, .int (Int8.ofInt n).toInt32 :: st, w)
    | .sipush n => some (pc + 3, loc, .int (Int16.ofInt n).toInt32 :: st, w)
    | .ldc _ => match o with
      | [v] => some (pc + 2, loc, .int (Int32.ofNat v) :: st, w)
      | _ => none
    | .ldc_w _ => match o with
      | [v] => some (pc + 3, loc, .int (Int32.ofNat v) :: st, w)
      | _ => none
    | .fconst 0 => some (pc + 1, loc, .float FP.fconst0 :: st, w)
    | .dconst 0 => some (pc + 1, loc, .double FP.dconst0 :: st, w)
    | .iload i => (mg_ldI loc i).map fun v => (pc + 2, loc, v :: st, w)
    | .iload_n i => (mg_ldI loc i).map fun v => (pc + 1, loc, v :: st, w)
    | .aload i => (mg_ldA loc i).map fun v => (pc + 2, loc, v :: st, w)
    | .aload_n i => (mg_ldA loc i).map fun v => (pc + 1, loc, v :: st, w)
    | .fload i => (mg_ldF loc i).map fun v => (pc + 2, loc, v :: st, w)
    | .dload i => (mg_ldD loc i).map fun v => (pc + 2, loc, v :: st, w)
    | .istore i => match st with
      | .int x :: r => if i < loc.length then some (pc + 2, mg_st1 loc i (.int x), r, w) else none
      | _ => none
    | .istore_n i => match st with
      | .int x :: r => if i.val < loc.length then some (pc + 1, mg_st1 loc i (.int x), r, w) else none
      | _ => none
    | .astore i => match st with
      | .ref x :: r => if i < loc.length then some (pc + 2, mg_st1 loc i (.ref x), r, w) else none
      | _ => none
    | .astore_n i => match st with
      | .ref x :: r => if i.val < loc.length then some (pc + 1, mg_st1 loc i (.ref x), r, w) else none
      | _ => none
    | .fstore i => match st with
      | .float x :: r => if i < loc.length then some (pc + 2, mg_st1 loc i (.float x), r, w) else none
      | _ => none
    | .dstore i => match st with
      | .double x :: r => if i + 1 < loc.length then some (pc + 2, mg_st2 loc i (.double x), r, w) else none
      | _ => none
    | .iinc i n => match loc[i]? with
      | some (some (.int x)) => some (pc + 3, mg_st1 loc i (.int (x + Int32.ofInt n)), st, w)
      | _ => none
    | .iadd => match st with
      | .int y :: .int x :: r => some (pc + 1, loc, .int (x + y) :: r, w)
      | _ => none
    | .isub => match st with
      | .int y :: .int x :: r => some (pc + 1, loc, .int (x - y) :: r, w)
      | _ => none
    | .imul => match st with
      | .int y :: .int x :: r => some (pc + 1, loc, .int (x * y) :: r, w)
      | _ => none
    | .iand => match st with
      | .int y :: .int x :: r => some (pc + 1, loc, .int (x &&& y) :: r, w)
      | _ => none
    | .ior => match st with
      | .int y :: .int x :: r => some (pc + 1, loc, .int (x ||| y) :: r, w)
      | _ => none
    | .idiv => match st with
      | .int y :: .int x :: r => if y = 0 then none else some (pc + 1, loc, .int (x / y) :: r, w)
      | _ => none
    | .irem => match st with
      | .int y :: .int x :: r => if y = 0 then none else some (pc + 1, loc, .int (x - x / y * y) :: r, w)
      | _ => none
    | .ineg => match st with
      | .int x :: r => some (pc + 1, loc, .int (0 - x) :: r, w)
      | _ => none
    | .i2l => match st with
      | .int x :: r => some (pc + 1, loc, .long x.toInt64 :: r, w)
      | _ => none
    | .i2c => match st with
      | .int x :: r => some (pc + 1, loc, .int (x.toUInt32 % 65536).toInt32 :: r, w)
      | _ => none
    | .i2f => match st with
      | .int x :: r => some (pc + 1, loc, .float (FP.i2f x) :: r, w)
      | _ => none
    | .i2d => match st with
      | .int x :: r => some (pc + 1, loc, .double (FP.i2d x) :: r, w)
      | _ => none
    | .f2d => match st with
      | .float x :: r => if FP.f2d x &&& 0x7fffffffffffffff ≤ 0x7ff0000000000000 then some (pc + 1, loc, .double (FP.f2d x) :: r, w) else none
      | _ => none
    | .fdiv => match st with
      | .float y :: .float x :: r => if FP.fdiv x y &&& 0x7fffffff ≤ 0x7f800000 then some (pc + 1, loc, .float (FP.fdiv x y) :: r, w) else none
      | _ => none
    | .ddiv => match st with
      | .double y :: .double x :: r => if FP.ddiv x y &&& 0x7fffffffffffffff ≤ 0x7ff0000000000000 then some (pc + 1, loc, .double (FP.ddiv x y) :: r, w) else none
      | _ => none
    | .lcmp => match st with
      | .long y :: .long x :: r => some (pc + 1, loc, .int (lg_cmp x y) :: r, w)
      | _ => none
    | .fcmp op => match st with
      | .float y :: .float x :: r => some (pc + 1, loc, .int (Op.cmpValue (FP.fcmp x y) op) :: r, w)
      | _ => none
    | .dcmp op => match st with
      | .double y :: .double x :: r => some (pc + 1, loc, .int (Op.cmpValue (FP.dcmp x y) op) :: r, w)
      | _ => none
    | .dup => match st with
      | .int x :: r => some (pc + 1, loc, .int x :: .int x :: r, w)
      | .ref x :: r => some (pc + 1, loc, .ref x :: .ref x :: r, w)
      | _ => none
    | .dup2 => match st with
      | .int x :: .int y :: r => some (pc + 1, loc, .int x :: .int y :: .int x :: .int y :: r, w)
      | .int x :: .ref y :: r => some (pc + 1, loc, .int x :: .ref y :: .int x :: .ref y :: r, w)
      | _ => none
    | .pop => match st with
      | .int _ :: r => some (pc + 1, loc, r, w)
      | .ref _ :: r => some (pc + 1, loc, r, w)
      | _ => none
    | .goto _ => match o with
      | [t] => some (t, loc, st, w)
      | _ => none
    | .ifCond c _ => match o, st with
      | [t], .int x :: r => match c with
        | .eq => mg_br (x = 0) t (pc + 3) loc r w
        | .ne => mg_br (x = 0) (pc + 3) t loc r w
        | .lt => mg_br (x < 0) t (pc + 3) loc r w
        | .ge => mg_br (0 ≤ x) t (pc + 3) loc r w
        | .gt => mg_br (0 < x) t (pc + 3) loc r w
        | .le => mg_br (x ≤ 0) t (pc + 3) loc r w
      | _, _ => none
    | .if_icmp c _ => match o, st with
      | [t], .int y :: .int x :: r => match c with
        | .eq => mg_br (x = y) t (pc + 3) loc r w
        | .ne => mg_br (x = y) (pc + 3) t loc r w
        | .lt => mg_br (x < y) t (pc + 3) loc r w
        | .ge => mg_br (y ≤ x) t (pc + 3) loc r w
        | .gt => mg_br (y < x) t (pc + 3) loc r w
        | .le => mg_br (x ≤ y) t (pc + 3) loc r w
      | _, _ => none
    | .tableswitch _ lo hi _ => match o, st with
      | d :: ts, .int x :: r => if x.toInt < lo ∨ hi < x.toInt then some (d, loc, r, w) else (ts[(x.toInt - lo).toNat]?).map fun t => (t, loc, r, w)
      | _, _ => none
    | .getfield _ => match o, st with
      | ci :: k :: _, .ref (a + 1) :: r => match w.1[a]? with
        | some (.inr (c, fs)) => if c = ci then (fs[k]?).map fun v => (pc + 3, loc, v :: r, w) else none
        | _ => none
      | _, _ => none
    | .putfield _ => match o, st with
      | ci :: k :: _, v :: .ref (a + 1) :: r => match w.1[a]? with
        | some (.inr (c, fs)) => if c = ci ∧ k < fs.length ∧ mg_fit (mg_ty ci k) v = true then some (pc + 3, loc, r, mg_upc w a (.inr (c, fs.set k v))) else none
        | _ => none
      | _, _ => none
    | .iaload => match st with
      | .int i :: .ref a :: r => (mg_iald sc w a i).map fun v => (pc + 1, loc, v :: r, w)
      | _ => none
    | .caload => match st with
      | .int i :: .ref (a + 1) :: r => match w.1[a]? with
        | some (.inl (1, n, .inl f)) => if i < 0 ∨ n ≤ i.toNatClampNeg then none else some (pc + 1, loc, .int (f i.toNatClampNeg) :: r, w)
        | _ => none
      | _ => none
    | .laload => match st with
      | .int i :: .ref (a + 1) :: r => match w.1[a]? with
        | some (.inl (2, n, .inr (.inl f))) => if i < 0 ∨ n ≤ i.toNatClampNeg then none else some (pc + 1, loc, .long (f i.toNatClampNeg) :: r, w)
        | _ => none
      | _ => none
    | .daload => match st with
      | .int i :: .ref (a + 1) :: r => match w.1[a]? with
        | some (.inl (3, n, .inr (.inr (.inr (.inl f))))) => if i < 0 ∨ n ≤ i.toNatClampNeg then none else some (pc + 1, loc, .double (f i.toNatClampNeg) :: r, w)
        | _ => none
      | _ => none
    | .iastore => match st with
      | .int x :: .int i :: .ref (a + 1) :: r => match w.1[a]? with
        | some (.inl (0, n, .inl f)) => if i < 0 ∨ n ≤ i.toNatClampNeg then none else some (pc + 1, loc, r, mg_upc w a (.inl (0, n, .inl (upd f i.toNatClampNeg x))))
        | _ => none
      | _ => none
    | .castore => match st with
      | .int x :: .int i :: .ref (a + 1) :: r => match w.1[a]? with
        | some (.inl (1, n, .inl f)) => if i < 0 ∨ n ≤ i.toNatClampNeg then none else some (pc + 1, loc, r, mg_upc w a (.inl (1, n, .inl (upd f i.toNatClampNeg (vp_nar .char x)))))
        | _ => none
      | _ => none
    | .lastore => match st with
      | .long x :: .int i :: .ref (a + 1) :: r => match w.1[a]? with
        | some (.inl (2, n, .inr (.inl f))) => if i < 0 ∨ n ≤ i.toNatClampNeg then none else some (pc + 1, loc, r, mg_upc w a (.inl (2, n, .inr (.inl (vp_updL f i.toNatClampNeg x)))))
        | _ => none
      | _ => none
    | .dastore => match st with
      | .double x :: .int i :: .ref (a + 1) :: r => match w.1[a]? with
        | some (.inl (3, n, .inr (.inr (.inr (.inl f))))) => if i < 0 ∨ n ≤ i.toNatClampNeg then none else some (pc + 1, loc, r, mg_upc w a (.inl (3, n, .inr (.inr (.inr (.inl (vf_upd f i.toNatClampNeg x)))))))
        | _ => none
      | _ => none
    | .arraylength => match st with
      | .ref a :: r => (mg_alen sc w a).map fun v => (pc + 1, loc, v :: r, w)
      | _ => none
    | .newarray _ => match o, st with
      | [t], .int n :: r => if n < 0 ∨ 100000 < n.toNatClampNeg ∨ w.2.1 ≠ w.1.length then none else
        (mg_zero t n.toNatClampNeg).map fun z => (pc + 2, loc, .ref (w.1.length + 1) :: r, (w.1 ++ [.inl (t, z)], w.2.1 + 1, w.2.2 + n.toNatClampNeg))
      | _, _ => none
    | .new _ => match o with
      | [0, ci, _] => if w.2.1 ≠ w.1.length then none else
        (mg_new ci).map fun fs => (pc + 3, loc, .ref (w.1.length + 1) :: st, (w.1 ++ [.inr (ci, fs)], w.2.1 + 1, w.2.2 + fs.length))
      | _ => none
    | .invokespecial _ => match o, st with
      | [2, _], .ref _ :: r => if st.length ≤ 8 then some (pc + 3, loc, r, w) else none
      | _, _ => none
    | .invokestatic _ => match o, st with
      | [3, _], .int y :: .int x :: r => if r.length ≤ 8 then some (pc + 3, loc, .int (if x < y then y else x) :: r, w) else none
      | [4, _], .int y :: .int x :: r => if r.length ≤ 8 then some (pc + 3, loc, .int (if y < x then y else x) :: r, w) else none
      | [5, _], .int n :: .int dp :: .ref (a1 + 1) :: .int sp :: .ref (a0 + 1) :: r => match w.1[a0]?, w.1[a1]? with
        | some (.inl (0, n0, .inl f)), some (.inl (0, n1, .inl g)) => if r.length ≤ 8 ∧ ¬ sp < 0 ∧ ¬ dp < 0 ∧ ¬ n < 0 ∧ sp.toNatClampNeg + n.toNatClampNeg ≤ n0 ∧ dp.toNatClampNeg + n.toNatClampNeg ≤ n1 then
            some (pc + 3, loc, r, mg_upc w a1 (.inl (0, n1, .inl (va_cpy f g sp.toNatClampNeg dp.toNatClampNeg n.toNatClampNeg)))) else none
        | _, _ => none
      | _, _ => none
    | _ => none
/-- a call: the callee, its arguments, what stays on the stack -/
def mg_split (n : Nat) (st : List Value) : Option (List Value × List Value) := if n ≤ st.length then some ((st.take n).reverse, st.drop n) else none
def mg_isObj (w : mg_S) (ci : Nat) (v : Value) : Bool := match v with
  | .ref (a + 1) => match w.1[a]? with
    | some (.inr (c, _)) => c == ci
    | _ => false
  | _ => false
def mg_light (st : List Value) : Bool := decide ((st.map fun v => v.category).sum ≤ 8)
/-- one word each -/
def mg_cat1 (as : List Value) : Bool := as.all fun v => Nat.beq v.category 1
/-- cls: the class number of a method (by its number) -/
def mg_call (cls : Nat → Nat) (e : mg_E) (st : List Value) (w : mg_S) : Option (Nat × List Value × List Value) := match e with
  | (_, ins, _, o) => match ins with
    | .invokevirtual _ => match o with
      | [y, n, _] => match mg_split (n + 1) st with
        | some (b :: as, r) => if mg_isObj w (cls y) b = true ∧ mg_light r = true ∧ mg_cat1 (b :: as) = true then some (y, b :: as, r) else none
        | _ => none
      | _ => none
    | .invokestatic _ => match o with
      | [k, y, n, _] => if k ≤ 2 then match mg_split n st with
        | some (as, r) => if mg_light r = true ∧ mg_cat1 as = true then some (y, as, r) else none
        | _ => none
        else none
      | _ => none
    | .invokespecial _ => match o with
      | [k, y, n, _] => if k ≤ 1 then match mg_split (n + 1) st with
        | some (b :: as, r) => if mg_isObj w (cls y) b = true ∧ mg_light r = true ∧ mg_cat1 (b :: as) = true then some (y, b :: as, r) else none
        | _ => none
        else none
      | _ => none
    | _ => none
/-- an end: an answer, or a throw -/
def mg_end (ret : Option FieldType) (e : mg_E) (st : List Value) (w : mg_S) : Option mg_R := match e with
  | (_, ins, _, o) => match ins with
    | .ireturn => match ret, st with
      | some .int, [.int x] => some (.inl (some (.int x)), w)
      | some .boolean, [.int x] => if x = 0 ∨ x = 1 then some (.inl (some (.int x)), w) else none
      | _, _ => none
    | .return_ => match ret, st with
      | none, [] => some (.inl none, w)
      | _, _ => none
    | .areturn => match ret, st with
      | some (.object _), [.ref x] => some (.inl (some (.ref x)), w)
      | _, _ => none
    | .freturn => match ret, st with
      | some .float, [.float x] => some (.inl (some (.float x)), w)
      | _, _ => none
    | .dreturn => match ret, st with
      | some .double, [.double x] => some (.inl (some (.double x)), w)
      | _, _ => none
    | .new _ => match o with
      | 1 :: E :: _ => if st = [] then some (.inr E, (w.1, w.2.1 + 1, w.2.2 + 6)) else none
      | _ => none
    | _ => none
/-- where a throw is caught: none: nowhere; some none: not said; some (place of the local, next row) -/
def mg_caught (hx : List (Nat × Nat × Nat × Nat × Nat)) (nxt : Nat → Option (Nat × Nat)) (pc E : Nat) : Option (Option (Nat × Nat)) := match hx with
  | [] => none
  | h => match h.find? (fun z => Nat.ble z.1 pc && Nat.blt pc z.2.1 && Nat.beq z.2.2.2.1 E) with
    | some z => some (nxt z.2.2.1)
    | none => some none
def mg_entry (mi : Nat) (as : List Value) : mg_L := as.map some ++ List.replicate (mg_mlen mi - as.length) none
/-- the run: fuel, how deep calls may go, the method, the row, the locals, the stack, the cells -/
def mg_run (sc : mg_Sc) : Nat → Nat → Nat → Nat → mg_L → List Value → mg_S → Option mg_R
  | 0, _, _, _, _, _, _ => none
  | n + 1, d, mi, pc, loc, st, w => match mg_at mi pc with
    | none => none
    | some e => match mg_call mg_cls e st w with
      | some (y, as, r) => match d with
        | 0 => none
        | d + 1 => if mg_mlen y < as.length then none else match mg_run sc n d y 0 (mg_entry y as) [] w with
          | some (.inl v, w1) => mg_run sc n (d + 1) mi (pc + 3) loc (v.toList ++ r) w1
          | some (.inr E, w1) => match mg_caught (mg_hx mi) (mg_nxt mi) pc E with
            | none => some (.inr E, w1)
            | some (some q) => mg_run sc n (d + 1) mi q.2 ((mg_kill loc q.1).set q.1 none) [] w1
            | some none => none
          | none => none
      | none => match mg_end (mg_ret mi) e st w with
        | some r => some r
        | none => match mg_step sc e loc st w with
          | some (pc', loc', st', w') => mg_run sc n d mi pc' loc' st' w'
          | none => none
