/-! the interpreter: steps, runs -/
abbrev Lo : Type := List (Option Value)
abbrev Cfg : Type := Nat × Lo × List Value × HS
abbrev Out : Type := Cfg ⊕ (Option Value ⊕ (Nat × List Value × Cfg))
def nx (pc : Nat) (ls : Lo) (st : List Value) (h : HS) : Option Out := some (.inl (pc, ls, st, h))
def kill (ls : Lo) (i : Nat) : Lo := match i with
  | 0 => ls
  | j + 1 => match ls[j]? with
    | some (some (.long _)) => ls.set j none
    | some (some (.double _)) => ls.set j none
    | _ => ls
def stl1 (ls : Lo) (i : Nat) (v : Value) : Lo := (kill ls i).set i (some v)
def stl2 (ls : Lo) (i : Nat) (v : Value) : Lo := ((kill ls i).set i (some v)).set (i + 1) none
def iiOp (f : Int32 → Int32 → Int32) (pc : Nat) (ls : Lo) (st : List Value) (h : HS) : Option Out := match st with
  | .int y :: .int x :: r => nx (pc + 1) ls (.int (f x y) :: r) h
  | _ => none
def iiOpC (f : Int32 → Int32 → Int32) (pc : Nat) (ls : Lo) (st : List Value) (h : HS) : Option Out := match st with
  | .int y :: .int x :: r => if y = 0 then none else nx (pc + 1) ls (.int (f x y) :: r) h
  | _ => none
def llOp (f : Int64 → Int64 → Int64) (pc : Nat) (ls : Lo) (st : List Value) (h : HS) : Option Out := match st with
  | .long y :: .long x :: r => nx (pc + 1) ls (.long (f x y) :: r) h
  | _ => none
def lsOp (f : Int64 → Int32 → Int64) (pc : Nat) (ls : Lo) (st : List Value) (h : HS) : Option Out := match st with
  | .int y :: .long x :: r => nx (pc + 1) ls (.long (f x y) :: r) h
  | _ => none
def iOp (f : Int32 → Value) (pc : Nat) (ls : Lo) (st : List Value) (h : HS) : Option Out := match st with
  | .int x :: r => nx (pc + 1) ls (f x :: r) h
  | _ => none
def ldI (len i : Nat) (pc : Nat) (ls : Lo) (st : List Value) (h : HS) : Option Out := match ls[i]? with
  | some (some (.int x)) => nx (pc + len) ls (.int x :: st) h
  | _ => none
def ldL (len i : Nat) (pc : Nat) (ls : Lo) (st : List Value) (h : HS) : Option Out := match ls[i]? with
  | some (some (.long x)) => nx (pc + len) ls (.long x :: st) h
  | _ => none
def ldA (len i : Nat) (pc : Nat) (ls : Lo) (st : List Value) (h : HS) : Option Out := match ls[i]? with
  | some (some (.ref x)) => nx (pc + len) ls (.ref x :: st) h
  | some (some .null) => nx (pc + len) ls (.null :: st) h
  | _ => none
def soI (len i : Nat) (pc : Nat) (ls : Lo) (st : List Value) (h : HS) : Option Out := match st with
  | .int x :: r => if i < ls.length then nx (pc + len) (stl1 ls i (.int x)) r h else none
  | _ => none
def soL (len i : Nat) (pc : Nat) (ls : Lo) (st : List Value) (h : HS) : Option Out := match st with
  | .long x :: r => if i + 1 < ls.length then nx (pc + len) (stl2 ls i (.long x)) r h else none
  | _ => none
def soA (len i : Nat) (pc : Nat) (ls : Lo) (st : List Value) (h : HS) : Option Out := match st with
  | .ref x :: r => if i < ls.length then nx (pc + len) (stl1 ls i (.ref x)) r h else none
  | .null :: r => if i < ls.length then nx (pc + len) (stl1 ls i .null) r h else none
  | _ => none
def brI (cond : Jvm.ClassFile.Cond) (tgt pc : Nat) (ls : Lo) (st : List Value) (h : HS) : Option Out := match st with
  | .int x :: r => match cond with
    | .eq => nx (if x = 0 then tgt else pc + 3) ls r h
    | .ne => nx (if x = 0 then pc + 3 else tgt) ls r h
    | .lt => nx (if x < 0 then tgt else pc + 3) ls r h
    | .ge => nx (if x < 0 then pc + 3 else tgt) ls r h
    | .gt => nx (if 0 < x then tgt else pc + 3) ls r h
    | .le => nx (if 0 < x then pc + 3 else tgt) ls r h
  | _ => none
def brII (cond : Jvm.ClassFile.Cond) (tgt pc : Nat) (ls : Lo) (st : List Value) (h : HS) : Option Out := match st with
  | .int y :: .int x :: r => match cond with
    | .eq => nx (if x = y then tgt else pc + 3) ls r h
    | .ne => nx (if x = y then pc + 3 else tgt) ls r h
    | .lt => nx (if x < y then tgt else pc + 3) ls r h
    | .ge => nx (if x < y then pc + 3 else tgt) ls r h
    | .gt => nx (if y < x then tgt else pc + 3) ls r h
    | .le => nx (if y < x then pc + 3 else tgt) ls r h
  | _ => none
/-- a place in a row -/
def ix (i : Int32) (n : Nat) : Prop := ¬ (i < 0 ∨ n ≤ i.toNatClampNeg)
def getF (a b : Nat) (x : Int) (pc : Nat) (ls : Lo) (st : List Value) (h : HS) : Option Out := match st with
  | .ref o :: r => if hT h o = a then (if x = 2 then nx (pc + 3) ls (va_rf (hR h o b) :: r) h else nx (pc + 3) ls (.int (hI h o b) :: r) h) else none
  | _ => none
def putF (a b : Nat) (x : Int) (pc : Nat) (ls : Lo) (st : List Value) (h : HS) : Option Out := match st with
  | .int v :: .ref o :: r => if hT h o = a then (if x = 0 ∨ (x = 1 ∧ (v = 0 ∨ v = 1)) then nx (pc + 3) ls r (hsI h o b v) else none) else none
  | .ref v :: .ref o :: r => if hT h o = a then (if x = 2 then nx (pc + 3) ls r (hsR h o b (some v)) else none) else none
  | .null :: .ref o :: r => if hT h o = a then (if x = 2 then nx (pc + 3) ls r (hsR h o b none) else none) else none
  | _ => none
def aldI (t u : Nat) (pc : Nat) (ls : Lo) (st : List Value) (h : HS) : Option Out := match st with
  | .int i :: .ref o :: r => if hT h o = t ∨ hT h o = u then (if i < 0 ∨ hN h o ≤ i.toNatClampNeg then none else nx (pc + 1) ls (.int (hI h o i.toNatClampNeg) :: r) h) else none
  | _ => none
def aldL (pc : Nat) (ls : Lo) (st : List Value) (h : HS) : Option Out := match st with
  | .int i :: .ref o :: r => if hT h o = 23 then (if i < 0 ∨ hN h o ≤ i.toNatClampNeg then none else nx (pc + 1) ls (.long (hL h o i.toNatClampNeg) :: r) h) else none
  | _ => none
def aldR (pc : Nat) (ls : Lo) (st : List Value) (h : HS) : Option Out := match st with
  | .int i :: .ref o :: r => if hT h o = 24 ∨ hT h o = 25 ∨ hT h o = 26 ∨ hT h o = 27 then (if i < 0 ∨ hN h o ≤ i.toNatClampNeg then none else nx (pc + 1) ls (va_rf (hR h o i.toNatClampNeg) :: r) h) else none
  | _ => none
def astI (pc : Nat) (ls : Lo) (st : List Value) (h : HS) : Option Out := match st with
  | .int v :: .int i :: .ref o :: r => if hT h o = 20 then (if i < 0 ∨ hN h o ≤ i.toNatClampNeg then none else nx (pc + 1) ls r (hsI h o i.toNatClampNeg v)) else none
  | _ => none
def astB (pc : Nat) (ls : Lo) (st : List Value) (h : HS) : Option Out := match st with
  | .int v :: .int i :: .ref o :: r => if i < 0 ∨ hN h o ≤ i.toNatClampNeg then none else (if hT h o = 21 then nx (pc + 1) ls r (hsI h o i.toNatClampNeg (vp_nar .byte v)) else if hT h o = 22 then nx (pc + 1) ls r (hsI h o i.toNatClampNeg (vp_nar .boolean v)) else none)
  | _ => none
def astL (pc : Nat) (ls : Lo) (st : List Value) (h : HS) : Option Out := match st with
  | .long v :: .int i :: .ref o :: r => if hT h o = 23 then (if i < 0 ∨ hN h o ≤ i.toNatClampNeg then none else nx (pc + 1) ls r (hsL h o i.toNatClampNeg v)) else none
  | _ => none
/-- which class's objects an array of references of that tag holds -/
def elT (t : Nat) : Nat := if t = 24 then 9 else if t = 25 then 1 else if t = 26 then 6 else if t = 27 then 5 else 99
def astR (pc : Nat) (ls : Lo) (st : List Value) (h : HS) : Option Out := match st with
  | .ref v :: .int i :: .ref o :: r => if (hT h o = 24 ∨ hT h o = 25 ∨ hT h o = 26 ∨ hT h o = 27) ∧ hT h v = elT (hT h o) then (if i < 0 ∨ hN h o ≤ i.toNatClampNeg then none else nx (pc + 1) ls r (hsR h o i.toNatClampNeg (some v))) else none
  | _ => none
def alenF (pc : Nat) (ls : Lo) (st : List Value) (h : HS) : Option Out := match st with
  | .ref o :: r => if (20 ≤ hT h o ∧ hT h o < 28) ∨ hT h o = 40 then nx (pc + 1) ls (.int (Int32.ofNat (hN h o)) :: r) h else none
  | _ => none
def newA (t len : Nat) (pc : Nat) (ls : Lo) (st : List Value) (h : HS) : Option Out := match st with
  | .int n :: r => if n < 0 ∨ 1000000 < n then none else nx (pc + len) ls (.ref h.1 :: r) (hnew h t n.toNatClampNeg (fun _ => 0))
  | _ => none
def dupF (pc : Nat) (ls : Lo) (st : List Value) (h : HS) : Option Out := match st with
  | v :: r => if v.category = 1 then nx (pc + 1) ls (v :: v :: r) h else none
  | _ => none
def popF (pc : Nat) (ls : Lo) (st : List Value) (h : HS) : Option Out := match st with
  | v :: r => if v.category = 1 then nx (pc + 1) ls r h else none
  | _ => none
def dupx1F (pc : Nat) (ls : Lo) (st : List Value) (h : HS) : Option Out := match st with
  | v :: w :: r => if v.category = 1 ∧ w.category = 1 then nx (pc + 1) ls (v :: w :: v :: r) h else none
  | _ => none
def dup2F (pc : Nat) (ls : Lo) (st : List Value) (h : HS) : Option Out := match st with
  | v :: w :: r => if v.category = 1 ∧ w.category = 1 then nx (pc + 1) ls (v :: w :: v :: w :: r) h else none
  | _ => none
def nullF (isN : Bool) (tgt pc : Nat) (ls : Lo) (st : List Value) (h : HS) : Option Out := match st with
  | .null :: r => nx (if isN then tgt else pc + 3) ls r h
  | .ref _ :: r => nx (if isN then pc + 3 else tgt) ls r h
  | _ => none
def swTo (dflt lo hi : Int) (offs : Array Int) (x : Int32) : Int := if x.toInt < lo ∨ hi < x.toInt then dflt else (offs[(x.toInt - lo).toNat]?).getD dflt
def swF (dflt lo hi : Int) (offs : Array Int) (pc : Nat) (ls : Lo) (st : List Value) (h : HS) : Option Out := match st with
  | .int x :: r => if 0 ≤ (pc : Int) + swTo dflt lo hi offs x ∧ (hi - lo + 1).toNat ≤ offs.size then nx ((pc : Int) + swTo dflt lo hi offs x).toNat ls r h else none
  | _ => none
def lookF (dflt : Int) (ps : Array (Int × Int)) (pc : Nat) (ls : Lo) (st : List Value) (h : HS) : Option Out := match st with
  | .int x :: r => if 0 ≤ (pc : Int) + Op.lookupswitch.offset ps.toList dflt x.toInt ∧ (ps.toList.zip (ps.toList.drop 1)).all (fun (a, next) => a.1 < next.1) = true then nx ((pc : Int) + Op.lookupswitch.offset ps.toList dflt x.toInt).toNat ls r h else none
  | _ => none
/-- what may lie below a call's arguments -/
def stOk (r : List Value) : Bool := r.length.ble 4 || (r.length.ble 8 && r.all (fun v => v.category == 1))
theorem stOk_4 {r : List Value} (h : r.length ≤ 4) : stOk r = true := by
  unfold stOk
  rw [Nat.ble_eq_true_of_le h]
  rfl
/-- a call: the callee, what it is given, where it goes on -/
def callF (recv : Bool) (k n pc : Nat) (ls : Lo) (st : List Value) (h : HS) : Option Out :=
  if n ≤ st.length then (match recv, st.drop n with
    | false, r => if stOk r = true then some (.inr (.inr (k, (st.take n).reverse, (pc + 3, ls, r, h)))) else none
    | true, .ref o :: r => if stOk r = true ∧ hT h o = qo k then some (.inr (.inr (k, .ref o :: (st.take n).reverse, (pc + 3, ls, r, h)))) else none
    | _, _ => none) else none
def slenF (pc : Nat) (ls : Lo) (st : List Value) (h : HS) : Option Out := match st with
  | .ref o :: r => if hT h o = 41 ∧ r.length ≤ 4 then nx (pc + 3) ls (.int (Int32.ofNat (hN h o)) :: r) h else none
  | _ => none
def schF (pc : Nat) (ls : Lo) (st : List Value) (h : HS) : Option Out := match st with
  | .int i :: .ref o :: r => if hT h o = 41 ∧ r.length ≤ 4 then (if i < 0 ∨ hN h o ≤ i.toNatClampNeg then none else nx (pc + 3) ls (.int (hI h o i.toNatClampNeg) :: r) h) else none
  | _ => none
def cpyF (pc : Nat) (ls : Lo) (st : List Value) (h : HS) : Option Out := match st with
  | .int n :: .ref o :: r => if hT h o = 20 ∧ r.length ≤ 4 ∧ hN h o ≤ 1000000 then (if n < 0 ∨ hN h o < n.toNatClampNeg then none else nx (pc + 3) ls (.ref h.1 :: r) (hnew h 20 n.toNatClampNeg (fun j => if j < n.toNatClampNeg then hI h o j else 0))) else none
  | _ => none
def objF (pc : Nat) (ls : Lo) (st : List Value) (h : HS) : Option Out := match st with
  | .ref _ :: r => if r.length ≤ 4 then nx (pc + 3) ls r h else none
  | _ => none
def absF (pc : Nat) (ls : Lo) (st : List Value) (h : HS) : Option Out := match st with
  | .int v :: r => if r.length ≤ 4 then nx (pc + 3) ls (.int (if 0 ≤ v then v else 0 - v) :: r) h else none
  | _ => none
def minF (pc : Nat) (ls : Lo) (st : List Value) (h : HS) : Option Out := match st with
  | .int v :: .int u :: r => if r.length ≤ 4 then nx (pc + 3) ls (.int (if v < u then v else u) :: r) h else none
  | _ => none
def minL (pc : Nat) (ls : Lo) (st : List Value) (h : HS) : Option Out := match st with
  | .long v :: .long u :: r => if r.length ≤ 4 then nx (pc + 3) ls (.long (if v < u then v else u) :: r) h else none
  | _ => none
def retI (x : Int) (st : List Value) : Option Out := match st with
  | [.int v] => if x = 0 ∨ v = 0 ∨ v = 1 then some (.inr (.inl (some (.int v)))) else none
  | _ => none
def retL (st : List Value) : Option Out := match st with
  | [.long v] => some (.inr (.inl (some (.long v))))
  | _ => none
def retA (st : List Value) : Option Out := match st with
  | [.ref v] => some (.inr (.inl (some (.ref v))))
  | [.null] => some (.inr (.inl (some .null)))
  | _ => none
def retV (st : List Value) : Option Out := match st with
  | [] => some (.inr (.inl none))
  | _ => none
def sti (ins : Instr) (a b : Nat) (x : Int) (pc : Nat) (ls : Lo) (st : List Value) (h : HS) : Option Out := match ins with
  | .aconst_null => nx (pc + 1) ls (.null :: st) h
  | .iconst n => nx (pc + 1) ls (.int (Int32.ofInt n) :: st) h
  | .bipush n => nx (pc + 2) ls (.int (Int8.ofInt n).toInt32 :: st) h
  | .sipush n => nx (pc + 3) ls (.int (Int16.ofInt n).toInt32 :: st) h
  | .lconst n => nx (pc + 1) ls (.long (Int64.ofNat (n : Nat)) :: st) h
  | .iload i => ldI 2 i pc ls st h
  | .iload_n i => ldI 1 (i : Nat) pc ls st h
  | .lload i => ldL 2 i pc ls st h
  | .lload_n i => ldL 1 (i : Nat) pc ls st h
  | .aload i => ldA 2 i pc ls st h
  | .aload_n i => ldA 1 (i : Nat) pc ls st h
  | .istore i => soI 2 i pc ls st h
  | .istore_n i => soI 1 (i : Nat) pc ls st h
  | .lstore i => soL 2 i pc ls st h
  | .lstore_n i => soL 1 (i : Nat) pc ls st h
  | .astore i => soA 2 i pc ls st h
  | .astore_n i => soA 1 (i : Nat) pc ls st h
  | .iinc i n => if a = 6 then none else (match ls[i]? with
    | some (some (.int v)) => nx (pc + 3) (stl1 ls i (.int (v + Int32.ofInt n))) st h
    | _ => none)
  | .iadd => iiOp (fun x y => x + y) pc ls st h
  | .isub => iiOp (fun x y => x - y) pc ls st h
  | .imul => iiOp (fun x y => x * y) pc ls st h
  | .iand => iiOp (fun x y => x &&& y) pc ls st h
  | .ior => iiOp (fun x y => x ||| y) pc ls st h
  | .ixor => iiOp (fun x y => x ^^^ y) pc ls st h
  | .ishl => iiOp (fun x y => x <<< (y &&& 31)) pc ls st h
  | .ishr => iiOp (fun x y => x >>> (y &&& 31)) pc ls st h
  | .iushr => iiOp (fun x y => (x.toUInt32 >>> (y.toUInt32 &&& Int32.toUInt32 31)).toInt32) pc ls st h
  | .idiv => iiOpC (fun x y => x / y) pc ls st h
  | .irem => iiOpC (fun x y => x - x / y * y) pc ls st h
  | .ineg => iOp (fun x => .int (-x)) pc ls st h
  | .i2l => iOp (fun x => .long x.toInt64) pc ls st h
  | .i2b => iOp (fun x => .int x.toInt8.toInt32) pc ls st h
  | .i2s => iOp (fun x => .int x.toInt16.toInt32) pc ls st h
  | .l2i => (match st with
    | .long v :: r => nx (pc + 1) ls (.int v.toInt32 :: r) h
    | _ => none)
  | .ladd => llOp (fun x y => x + y) pc ls st h
  | .lsub => llOp (fun x y => x - y) pc ls st h
  | .lmul => llOp (fun x y => x * y) pc ls st h
  | .land => llOp (fun x y => x &&& y) pc ls st h
  | .lor => llOp (fun x y => x ||| y) pc ls st h
  | .lxor => llOp (fun x y => x ^^^ y) pc ls st h
  | .lshl => lsOp (fun x y => x <<< (y.toInt64 &&& 63)) pc ls st h
  | .lshr => lsOp (fun x y => x >>> (y.toInt64 &&& 63)) pc ls st h
  | .lushr => lsOp (fun x y => (x.toUInt64 >>> (y.toInt64.toUInt64 &&& Int64.toUInt64 63)).toInt64) pc ls st h
  | .lcmp => (match st with
    | .long v :: .long u :: r => nx (pc + 1) ls (.int (lg_cmp u v) :: r) h
    | _ => none)
  | .dup => dupF pc ls st h
  | .dup_x1 => dupx1F pc ls st h
  | .dup2 => dup2F pc ls st h
  | .pop => popF pc ls st h
  | .goto _ => nx a ls st h
  | .ifCond c _ => brI c a pc ls st h
  | .if_icmp c _ => brII c a pc ls st h
  | .ifnull _ => nullF true a pc ls st h
  | .ifnonnull _ => nullF false a pc ls st h
  | .tableswitch d lo hi offs => swF d lo hi offs pc ls st h
  | .lookupswitch d ps => lookF d ps pc ls st h
  | .getfield _ => getF a b x pc ls st h
  | .putfield _ => putF a b x pc ls st h
  | .iaload => aldI 20 40 pc ls st h
  | .baload => aldI 21 22 pc ls st h
  | .laload => aldL pc ls st h
  | .aaload => aldR pc ls st h
  | .iastore => astI pc ls st h
  | .bastore => astB pc ls st h
  | .lastore => astL pc ls st h
  | .aastore => astR pc ls st h
  | .arraylength => alenF pc ls st h
  | .newarray _ => newA a 2 pc ls st h
  | .anewarray _ => newA a 3 pc ls st h
  | .new _ => nx (pc + 3) ls (.ref h.1 :: st) (hnew h a b (fun _ => 0))
  | .getstatic _ => nx (pc + 3) ls (.ref 0 :: st) h
  | .ldc _ => if b = 1 then nx (pc + 2) ls (.ref a :: st) h else nx (pc + 2) ls (.int (Int32.ofInt x) :: st) h
  | .ldc_w _ => if b = 1 then nx (pc + 3) ls (.ref a :: st) h else nx (pc + 3) ls (.int (Int32.ofInt x) :: st) h
  | .ldc2_w _ => nx (pc + 3) ls (.long (Int64.ofInt x) :: st) h
  | .invokevirtual _ => if x = 0 then callF true a b pc ls st h else if x = 6 then slenF pc ls st h else if x = 7 then schF pc ls st h else none
  | .invokestatic _ => if x = 1 ∨ x = 2 then callF false a b pc ls st h else if x = 8 then cpyF pc ls st h else if x = 9 then absF pc ls st h else if x = 10 then minF pc ls st h else if x = 11 then minL pc ls st h else none
  | .invokespecial _ => if x = 3 ∨ x = 4 then callF true a b pc ls st h else if x = 5 then objF pc ls st h else none
  | .ireturn => retI x st
  | .lreturn => retL st
  | .areturn => retA st
  | .return_ => retV st
  | _ => none
def fetch (k pc : Nat) : Option (Instr × Nat × Nat × Int) := ((qcode k).find? (fun e => e.1 == pc)).map (fun e => e.2)
def stp (k : Nat) (c : Cfg) : Option Out := match fetch k c.1 with
  | some (ins, a, b, x) => sti ins a b x c.1 c.2.1 c.2.2.1 c.2.2.2
  | none => none
def elocs : List Value → Lo
  | [] => []
  | v :: r => if v.category = 2 then some v :: none :: elocs r else some v :: elocs r
/-- a method's start: its arguments in its locals -/
def ent (k : Nat) (as : List Value) (h : HS) : Cfg := (0, elocs as ++ List.replicate (qml k - (elocs as).length) none, [], h)
/-- a caller, with the answer -/
def back (c : Cfg) (v : Option Value) (h : HS) : Cfg := (c.1, c.2.1, v.toList ++ c.2.2.1, h)
def run : Nat → Nat → Nat → Cfg → Option (Option Value × HS)
  | 0, _, _, _ => none
  | n + 1, d, k, c => match stp k c with
    | none => none
    | some (.inl c') => run n d k c'
    | some (.inr (.inl v)) => some (v, c.2.2.2)
    | some (.inr (.inr (k', as, c'))) => match d with
      | 0 => none
      | d' + 1 => if (elocs as).length ≤ qml k' then (match run n d' k' (ent k' as c'.2.2.2) with
        | none => none
        | some (v, h) => run n (d' + 1) k (back c' v h)) else none
theorem run_more : ∀ (n d k : Nat) (c : Cfg) (r : Option Value × HS), run n d k c = some r → ∀ m, n ≤ m → run m d k c = some r
  | 0, _, _, _, _, h, _, _ => by cases h
  | n + 1, d, k, c, r, h, m, hm => by
    obtain ⟨m, rfl⟩ : ∃ m', m = m' + 1 := ⟨m - 1, by omega⟩
    have hm' : n ≤ m := by omega
    unfold run at h ⊢
    split at h
    · cases h
    · next c' hs => exact run_more n d k c' r h m hm'
    · next v hs => exact h
    · next k' as c' hs =>
      cases d with
      | zero => cases h
      | succ d' =>
        simp only at h ⊢
        split at h
        · next hl =>
          rw [if_pos hl]
          split at h
          · cases h
          · next v hh hr =>
            rw [run_more n d' k' _ _ hr m hm']
            exact run_more n (d' + 1) k _ r h m hm'
        · cases h
