/-! the tables' checks -/
def cN (c : Nat) : String := (clsL.getD c ("", T0, 0)).1
def cT (c : Nat) : u_T := (clsL.getD c ("", T0, 0)).2.1
def cF (c : Nat) : Nat := (clsL.getD c ("", T0, 0)).2.2
def cY (c : Nat) : Nat → FieldType := clsY.getD c Y0
def oN (o : Nat) : String := oL.getD o ""
def qcode (k : Nat) : List QE := qL.getD k []
def qm (k : Nat) : QM := mL.getD k (⟨"", "", ""⟩, ⟨#[]⟩, 0, none, 0)
def qy (k : Nat) : MethodName := (qm k).1
def qb (k : Nat) : ByteArray := (qm k).2.1
def qml (k : Nat) : Nat := (qm k).2.2.1
def qr (k : Nat) : Option FieldType := (qm k).2.2.2.1
def qo (k : Nat) : Nat := (qm k).2.2.2.2
def ln (i : Instr) (a : Nat) : Nat := match i with
  | .aload _ => 2 | .astore _ => 2 | .bipush _ => 2 | .iload _ => 2 | .istore _ => 2 | .lload _ => 2 | .lstore _ => 2 | .ldc _ => 2 | .newarray _ => 2
  | .sipush _ => 3 | .getfield _ => 3 | .putfield _ => 3 | .invokevirtual _ => 3 | .invokestatic _ => 3 | .invokespecial _ => 3 | .new _ => 3 | .anewarray _ => 3 | .ldc_w _ => 3 | .ldc2_w _ => 3
  | .goto _ => 3 | .ifCond _ _ => 3 | .if_icmp _ _ => 3 | .ifnull _ => 3 | .ifnonnull _ => 3 | .getstatic _ => 3
  | .iinc _ _ => if a = 6 then 6 else 3
  | _ => 1
def isSw (i : Instr) : Bool := match i with
  | .tableswitch _ _ _ _ => true
  | .lookupswitch _ _ => true
  | _ => false
def okD (bytes : ByteArray) (e : QE) : Bool := match decode bytes e.1 with
  | .ok (i, l) => decide (i = e.2.1) && (decide (l = ln e.2.1 e.2.2.1) || isSw e.2.1)
  | .error _ => false
def okTy (x : Int) (t : FieldType) : Bool := match t with
  | .int => x == 0
  | .boolean => x == 1
  | .object _ => x == 2
  | .array _ => x == 2
  | _ => false
def okE (k : Nat) (e : QE) : Bool := match e with
  | (pc, ins, a, b, x) => match ins with
    | .getfield i => ((lkF.getD (qo k) []).any (fun f => f.1 == i && f.2.1 == a && f.2.2.1 == b)) && decide (a < 13) && decide (b < cF a) && okTy x (cY a b)
    | .putfield i => ((lkF.getD (qo k) []).any (fun f => f.1 == i && f.2.1 == a && f.2.2.1 == b)) && decide (a < 13) && decide (b < cF a) && okTy x (cY a b) && (!(cT a b).2.2.2 || ((qy k).name == "<init>" && qo k == a))
    | .goto off => decide ((pc : Int) + off = (a : Int))
    | .ifCond _ off => decide ((pc : Int) + off = (a : Int))
    | .if_icmp _ off => decide ((pc : Int) + off = (a : Int))
    | .ifnull off => decide ((pc : Int) + off = (a : Int))
    | .ifnonnull off => decide ((pc : Int) + off = (a : Int))
    | .new i => ((lkC.getD (qo k) []).any (fun f => f.1 == i && f.2.1 == a)) && decide (a < 13) && decide (b = cF a)
    | .anewarray i => (lkC.getD (qo k) []).any (fun f => f.1 == i && ((a == 24 && f.2.1 == 9) || (a == 25 && f.2.1 == 1) || (a == 26 && f.2.1 == 6) || (a == 27 && f.2.1 == 5)))
    | .newarray t => match t with
      | .int => a == 20
      | .byte => a == 21
      | .boolean => a == 22
      | .long => a == 23
      | _ => false
    | .ldc i => b == 1 || (lkK.getD (qo k) []).any (fun f => f.1 == i && f.2.1 == x)
    | .ldc_w i => b == 1 || (lkK.getD (qo k) []).any (fun f => f.1 == i && f.2.1 == x)
    | .ldc2_w i => (lkK2.getD (qo k) []).any (fun f => f.1 == i && f.2.1 == x)
    | .invokevirtual i => decide (5 ≤ x) || (x == 0 && (lkM.getD (qo k) []).any (fun f => f.1 == i && f.2.1 == a && f.2.2.1 == 0) && decide (qo a < 13) && decide (a < 306))
    | .invokestatic i => decide (5 ≤ x) || (((lkM.getD (qo k) []).any (fun f => f.1 == i && f.2.1 == a && ((x == 1 && f.2.2.1 == 0) || (x == 2 && f.2.2.1 == 1)))) && decide (a < 312) && !(a == 306))
    | .invokespecial i => decide (5 ≤ x) || (((lkM.getD (qo k) []).any (fun f => f.1 == i && f.2.1 == a && ((x == 3 && f.2.2.1 == 0) || (x == 4 && f.2.2.1 == 1)))) && decide (a < 306) && (qy a).name == "<init>" && (qr a == none))
    | .ireturn => (x == 0 && qr k == some .int) || (x == 1 && qr k == some .boolean)
    | .lreturn => qr k == some .long
    | .areturn => (match qr k with
      | some (.object _) => true
      | some (.array _) => true
      | _ => false)
    | .return_ => qr k == none
    | .getstatic i => i == 117 && qo k == 3
    | _ => true
def lnA (desc : String) : Nat := ((parseMethodDescriptor desc).map (fun d => d.parameters.length)).getD 99
set_option maxRecDepth 100000 in
theorem ck_F : (List.range 17).all (fun o => (lkF.getD o []).all (fun e => decide (lw_tbl[e.2.2.2]? = some (Cond.fieldLink (oN o) e.1 (cN e.2.1) (cT e.2.1 e.2.2.1).2.1 (cT e.2.1 e.2.2.1).2.2.1)))) = true := by decide +kernel
set_option maxRecDepth 100000 in
theorem ck_M : (List.range 17).all (fun o => (lkM.getD o []).all (fun e => decide (lw_tbl[e.2.2.2]? = some (if e.2.2.1 = 0 then Cond.methodLink (oN o) e.1 (qy e.2.1) else Cond.methodLinkNest (oN o) e.1 (qy e.2.1) R11)))) = true := by decide +kernel
set_option maxRecDepth 100000 in
theorem ck_C : (List.range 17).all (fun o => (lkC.getD o []).all (fun e => decide (lw_tbl[e.2.2]? = some (Cond.classLink (oN o) e.1 (cN e.2.1))))) = true := by decide +kernel
set_option maxRecDepth 100000 in
theorem ck_K : (List.range 17).all (fun o => (lkK.getD o []).all (fun e => decide (lw_tbl[e.2.2]? = some (Cond.constant (oN o) e.1 (Int32.ofInt e.2.1))))) = true := by decide +kernel
set_option maxRecDepth 100000 in
theorem ck_K2 : (List.range 17).all (fun o => (lkK2.getD o []).all (fun e => decide (lw_tbl[e.2.2]? = some (Cond.constantLong (oN o) e.1 (Int64.ofInt e.2.1))))) = true := by decide +kernel
set_option maxRecDepth 100000 in
theorem ck_E : (List.range 312).all (fun k => (qcode k).all (okE k)) = true := by decide +kernel
