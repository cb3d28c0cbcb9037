/-! A SMALL PURE MACHINE: what the bytecode does to a pure memory. Addresses are places of a list of cells: 0, 1 the two static arrays, 2 the script, 3 and on what was made since the law's start. -/
/-- how many cells there are, how many slots were made, and each cell's kind (0 to 5 an object of that class, 6 int[], 7 boolean[], 8 Walk[], 9 Wire[], 10 an int[] that is only read, 99 none) and length -/
abbrev mL : Type := Nat × Nat × (Nat → Nat × Nat)
/-- the memory: the cells' kinds, the objects' fields, the int and boolean arrays, the arrays of references -/
abbrev mM : Type := mL × (Nat → Nat → Value) × (Nat → Nat → Int32) × (Nat → Nat → Option Nat)
def kd (t : mL) (a : Nat) : Nat := (t.2.2 a).1
def ln (t : mL) (a : Nat) : Nat := (t.2.2 a).2
def up1 {α : Type} (f : Nat → α) (a : Nat) (r : α) : Nat → α := fun b => if b = a then r else f b
/-- a row of fields -/
def rw' (l : List Value) : Nat → Value := fun k => l.getD k .null
def mvFl (o i : Nat) : Option (Nat × Nat) := (mvF.find? (fun q => q.1 == o && q.2.1 == i)).map (fun q => (q.2.2.1, q.2.2.2.1))
def mvCl (o i : Nat) : Option Nat := (mvC.find? (fun q => q.1 == o && q.2.1 == i)).map (fun q => q.2.2.1)
def mvObl (o i : Nat) : Bool := mvOb.any (fun q => q.1 == o && q.2.1 == i)
def mvNl (o i : Nat) : Option Nat := (mvN.find? (fun q => q.1 == o && q.2.1 == i)).map (fun q => q.2.2.1)
def mvKi (o i : Nat) : Option Int32 := (mvK.find? (fun q => q.1 == o && q.2.1 == i)).map (fun q => q.2.2.1)
def mvKli (o i : Nat) : Option Int64 := (mvKl.find? (fun q => q.1 == o && q.2.1 == i)).map (fun q => q.2.2.1)
def mvSl (o i : Nat) : Option Nat := (mvS.find? (fun q => q.1 == o && q.2.1 == i)).map (fun q => q.2.2.1)
def bOf (M : Nat) : ByteArray := mvB.getD M ⟨#[]⟩
def oOf (M : Nat) : Nat := mvO.getD M 99
def mlOf (M : Nat) : Nat := mvMl.getD M 0
def naOf (M : Nat) : Nat := mvNa.getD M 0
def stOf (M : Nat) : Bool := mvSt.getD M false
def rtOf (M : Nat) : Option FieldType := mvRt.getD M none
def ftOf (ci k : Nat) : Nat × Bool := (mvFt.getD ci []).getD k (9, false)
def nfOf (ci : Nat) : Nat := (mvFt.getD ci []).length
/-- what a new object's field holds -/
def dfOf (ci : Nat) : List Value := (mvFt.getD ci []).map (fun q => if q.1 = 2 then Value.null else Value.int 0)
def isInit (M : Nat) : Bool := M == 4 || M == 10 || M == 20 || M == 26 || M == 40
/-- may this value go into this field -/
def mayPut (M ci k : Nat) (v : Value) : Bool :=
  (match (ftOf ci k).1, v with
    | 0, .int _ => true
    | 1, .int x => x == 0 || x == 1
    | 2, .ref _ => true
    | _, _ => false) && (!(ftOf ci k).2 || (isInit M && oOf M == ci))
/-- no long lies across this place -/
def stOK (L : List Value) (i : Nat) : Bool := decide (i < L.length) && (match i with
  | 0 => true
  | j + 1 => decide ((L.getD j .null).category = 1))
/-- an index in its row -/
def inB (i : Int32) (n : Nat) : Bool := decide (0 ≤ i.toInt ∧ i.toInt < n)
/-- the receiver is an object of that class -/
def rcv (a : List Value) (t : mL) (c : Nat) : Bool := match a with
  | .ref b :: _ => decide (kd t b = c)
  | _ => false
def rcI (a : List Value) : Bool := match a with
  | .ref _ :: _ => true
  | _ => false
def tgt (pc : Nat) (off : Int) : Nat := ((pc : Int) + off).toNat
def mCmp (c : Jvm.ClassFile.Cond) (x y : Int32) : Bool := match c with
  | .eq => decide (x = y)
  | .ne => decide (¬ x = y)
  | .lt => decide (x < y)
  | .ge => decide (y ≤ x)
  | .gt => decide (y < x)
  | .le => decide (x ≤ y)
def stdLen (i : Instr) : Nat := match i with
  | .bipush _ | .ldc _ | .iload _ | .aload _ | .lload _ | .istore _ | .astore _ | .lstore _ | .newarray _ => 2
  | .sipush _ | .ldc_w _ | .ldc2_w _ | .iinc _ _ | .if_icmp _ _ | .ifCond _ _ | .ifnull _ | .ifnonnull _ | .goto _ | .getfield _ | .putfield _ | .getstatic _ | .invokevirtual _ | .invokespecial _ | .invokestatic _ | .new _ | .anewarray _ => 3
  | _ => 1
def lenOK (i : Instr) (len : Nat) : Prop := match i with
  | .tableswitch _ _ _ _ => True
  | _ => len = stdLen i
/-- an instruction that neither calls nor returns -/
def mNext (M : Nat) (i : Instr) (pc : Nat) (L st : List Value) (μ : mM) : Option (Nat × List Value × List Value × mM) :=
  match i with
  | .iconst c => some (pc + 1, L, .int (Int32.ofInt c) :: st, μ)
  | .bipush c => some (pc + 2, L, .int (Int8.ofInt c).toInt32 :: st, μ)
  | .sipush c => some (pc + 3, L, .int (Int16.ofInt c).toInt32 :: st, μ)
  | .lconst n => some (pc + 1, L, .long (Int64.ofNat (n : Nat)) :: st, μ)
  | .ldc j => (match mvKi (oOf M) j with
    | some v => some (pc + 2, L, .int v :: st, μ)
    | none => none)
  | .ldc_w j => (match mvKi (oOf M) j with
    | some v => some (pc + 3, L, .int v :: st, μ)
    | none => none)
  | .ldc2_w j => (match mvKli (oOf M) j with
    | some v => some (pc + 3, L, .long v :: st, μ)
    | none => none)
  | .iload_n k => (match L[(k : Nat)]? with
    | some (.int x) => some (pc + 1, L, .int x :: st, μ)
    | _ => none)
  | .iload k => (match L[k]? with
    | some (.int x) => some (pc + 2, L, .int x :: st, μ)
    | _ => none)
  | .aload_n k => (match L[(k : Nat)]? with
    | some (.ref x) => some (pc + 1, L, .ref x :: st, μ)
    | _ => none)
  | .aload k => (match L[k]? with
    | some (.ref x) => some (pc + 2, L, .ref x :: st, μ)
    | _ => none)
  | .lload_n k => (match L[(k : Nat)]? with
    | some (.long x) => some (pc + 1, L, .long x :: st, μ)
    | _ => none)
  | .lload k => (match L[k]? with
    | some (.long x) => some (pc + 2, L, .long x :: st, μ)
    | _ => none)
  | .istore_n k => (match st with
    | .int x :: r => if stOK L k = true then some (pc + 1, L.set k (.int x), r, μ) else none
    | _ => none)
  | .istore k => (match st with
    | .int x :: r => if stOK L k = true then some (pc + 2, L.set k (.int x), r, μ) else none
    | _ => none)
  | .astore_n k => (match st with
    | .ref x :: r => if stOK L k = true then some (pc + 1, L.set k (.ref x), r, μ) else none
    | _ => none)
  | .astore k => (match st with
    | .ref x :: r => if stOK L k = true then some (pc + 2, L.set k (.ref x), r, μ) else none
    | _ => none)
  | .lstore_n k => (match st with
    | .long x :: r => if stOK L k = true ∧ (k : Nat) + 1 < L.length ∧ (L.getD (k + 1) .null).category = 1 then some (pc + 1, (L.set k (.long x)).set (k + 1) .null, r, μ) else none
    | _ => none)
  | .lstore k => (match st with
    | .long x :: r => if stOK L k = true ∧ (k : Nat) + 1 < L.length ∧ (L.getD (k + 1) .null).category = 1 then some (pc + 2, (L.set k (.long x)).set (k + 1) .null, r, μ) else none
    | _ => none)
  | .iinc k c => (match L[k]? with
    | some (.int x) => if stOK L k = true then some (pc + 3, L.set k (.int (x + Int32.ofInt c)), st, μ) else none
    | _ => none)
  | .iadd => (match st with
    | .int y :: .int x :: r => some (pc + 1, L, .int (x + y) :: r, μ)
    | _ => none)
  | .isub => (match st with
    | .int y :: .int x :: r => some (pc + 1, L, .int (x - y) :: r, μ)
    | _ => none)
  | .imul => (match st with
    | .int y :: .int x :: r => some (pc + 1, L, .int (x * y) :: r, μ)
    | _ => none)
  | .idiv => (match st with
    | .int y :: .int x :: r => if y = 0 then none else some (pc + 1, L, .int (x / y) :: r, μ)
    | _ => none)
  | .irem => (match st with
    | .int y :: .int x :: r => if y = 0 then none else some (pc + 1, L, .int (x - x / y * y) :: r, μ)
    | _ => none)
  | .ineg => (match st with
    | .int x :: r => some (pc + 1, L, .int (-x) :: r, μ)
    | _ => none)
  | .iand => (match st with
    | .int y :: .int x :: r => some (pc + 1, L, .int (x &&& y) :: r, μ)
    | _ => none)
  | .ior => (match st with
    | .int y :: .int x :: r => some (pc + 1, L, .int (x ||| y) :: r, μ)
    | _ => none)
  | .ixor => (match st with
    | .int y :: .int x :: r => some (pc + 1, L, .int (x ^^^ y) :: r, μ)
    | _ => none)
  | .ishl => (match st with
    | .int y :: .int x :: r => some (pc + 1, L, .int (x <<< (y &&& 31)) :: r, μ)
    | _ => none)
  | .ishr => (match st with
    | .int y :: .int x :: r => some (pc + 1, L, .int (x >>> (y &&& 31)) :: r, μ)
    | _ => none)
  | .iushr => (match st with
    | .int y :: .int x :: r => some (pc + 1, L, .int (x.toUInt32 >>> (y.toUInt32 &&& Int32.toUInt32 31)).toInt32 :: r, μ)
    | _ => none)
  | .i2l => (match st with
    | .int x :: r => some (pc + 1, L, .long x.toInt64 :: r, μ)
    | _ => none)
  | .l2i => (match st with
    | .long x :: r => some (pc + 1, L, .int x.toInt32 :: r, μ)
    | _ => none)
  | .ladd => (match st with
    | .long y :: .long x :: r => some (pc + 1, L, .long (x + y) :: r, μ)
    | _ => none)
  | .lmul => (match st with
    | .long y :: .long x :: r => some (pc + 1, L, .long (x * y) :: r, μ)
    | _ => none)
  | .lcmp => (match st with
    | .long y :: .long x :: r => some (pc + 1, L, .int (lg_cmp x y) :: r, μ)
    | _ => none)
  | .dup => (match st with
    | v :: r => if v.category = 1 then some (pc + 1, L, v :: v :: r, μ) else none
    | _ => none)
  | .dup2 => (match st with
    | v :: w :: r => if v.category = 1 ∧ w.category = 1 then some (pc + 1, L, v :: w :: v :: w :: r, μ) else none
    | _ => none)
  | .pop => (match st with
    | v :: r => if v.category = 1 then some (pc + 1, L, r, μ) else none
    | _ => none)
  | .if_icmp c off => (match st with
    | .int y :: .int x :: r => if 0 ≤ (pc : Int) + off then some (if mCmp c x y = true then tgt pc off else pc + 3, L, r, μ) else none
    | _ => none)
  | .ifCond c off => (match st with
    | .int x :: r => if 0 ≤ (pc : Int) + off then some (if mCmp c x 0 = true then tgt pc off else pc + 3, L, r, μ) else none
    | _ => none)
  | .goto off => if 0 ≤ (pc : Int) + off then some (tgt pc off, L, st, μ) else none
  | .ifnull off => (match st with
    | .ref _ :: r => some (pc + 3, L, r, μ)
    | _ => none)
  | .ifnonnull off => (match st with
    | .ref _ :: r => if 0 ≤ (pc : Int) + off then some (tgt pc off, L, r, μ) else none
    | _ => none)
  | .tableswitch d lo hi offs => (match st with
    | .int x :: r => if x.toInt < lo ∨ hi < x.toInt then (if 0 ≤ (pc : Int) + d then some (tgt pc d, L, r, μ) else none)
      else (match offs[(x.toInt - lo).toNat]? with
        | some off => if 0 ≤ (pc : Int) + off then some (tgt pc off, L, r, μ) else none
        | none => none)
    | _ => none)
  | .getfield j => (match mvFl (oOf M) j, st with
    | some (ci, k), .ref a :: r => if kd μ.1 a = ci ∧ k < nfOf ci then some (pc + 3, L, μ.2.1 a k :: r, μ) else none
    | _, _ => none)
  | .putfield j => (match mvFl (oOf M) j, st with
    | some (ci, k), v :: .ref a :: r => if kd μ.1 a = ci ∧ k < nfOf ci ∧ mayPut M ci k v = true then some (pc + 3, L, r, (μ.1, up1 μ.2.1 a (up1 (μ.2.1 a) k v), μ.2.2.1, μ.2.2.2)) else none
    | _, _ => none)
  | .getstatic j => (match mvSl (oOf M) j with
    | some a => some (pc + 3, L, .ref a :: st, μ)
    | none => none)
  | .iaload => (match st with
    | .int i :: .ref a :: r => if (kd μ.1 a = 6 ∨ kd μ.1 a = 10) ∧ inB i (ln μ.1 a) = true then some (pc + 1, L, .int (μ.2.2.1 a i.toNatClampNeg) :: r, μ) else none
    | _ => none)
  | .baload => (match st with
    | .int i :: .ref a :: r => if kd μ.1 a = 7 ∧ inB i (ln μ.1 a) = true then some (pc + 1, L, .int (μ.2.2.1 a i.toNatClampNeg) :: r, μ) else none
    | _ => none)
  | .iastore => (match st with
    | .int x :: .int i :: .ref a :: r => if kd μ.1 a = 6 ∧ inB i (ln μ.1 a) = true then some (pc + 1, L, r, (μ.1, μ.2.1, up1 μ.2.2.1 a (upd (μ.2.2.1 a) i.toNatClampNeg x), μ.2.2.2)) else none
    | _ => none)
  | .bastore => (match st with
    | .int x :: .int i :: .ref a :: r => if kd μ.1 a = 7 ∧ inB i (ln μ.1 a) = true ∧ (x = 0 ∨ x = 1) then some (pc + 1, L, r, (μ.1, μ.2.1, up1 μ.2.2.1 a (upd (μ.2.2.1 a) i.toNatClampNeg x), μ.2.2.2)) else none
    | _ => none)
  | .aaload => (match st with
    | .int i :: .ref a :: r => if (kd μ.1 a = 8 ∨ kd μ.1 a = 9) ∧ inB i (ln μ.1 a) = true then some (pc + 1, L, va_rf (μ.2.2.2 a i.toNatClampNeg) :: r, μ) else none
    | _ => none)
  | .aastore => (match st with
    | .ref v :: .int i :: .ref a :: r => if ((kd μ.1 a = 8 ∧ kd μ.1 v = 2) ∨ (kd μ.1 a = 9 ∧ kd μ.1 v = 3)) ∧ inB i (ln μ.1 a) = true then some (pc + 1, L, r, (μ.1, μ.2.1, μ.2.2.1, up1 μ.2.2.2 a (up1 (μ.2.2.2 a) i.toNatClampNeg (some v)))) else none
    | _ => none)
  | .arraylength => (match st with
    | .ref a :: r => if 6 ≤ kd μ.1 a ∧ kd μ.1 a ≤ 10 then some (pc + 1, L, .int (Int32.ofNat (ln μ.1 a)) :: r, μ) else none
    | _ => none)
  | .newarray t => (match t, st with
    | .int, .int n :: r => if n < 0 ∨ 100000 ≤ n.toNatClampNeg then none else some (pc + 2, L, .ref μ.1.1 :: r, ((μ.1.1 + 1, μ.1.2.1 + n.toNatClampNeg, up1 μ.1.2.2 μ.1.1 (6, n.toNatClampNeg)), μ.2.1, up1 μ.2.2.1 μ.1.1 (fun _ => 0), μ.2.2.2))
    | .boolean, .int n :: r => if n < 0 ∨ 100000 ≤ n.toNatClampNeg then none else some (pc + 2, L, .ref μ.1.1 :: r, ((μ.1.1 + 1, μ.1.2.1 + n.toNatClampNeg, up1 μ.1.2.2 μ.1.1 (7, n.toNatClampNeg)), μ.2.1, up1 μ.2.2.1 μ.1.1 (fun _ => 0), μ.2.2.2))
    | _, _ => none)
  | .anewarray j => (match mvNl (oOf M) j, st with
    | some ci, .int n :: r => if n < 0 ∨ 100000 ≤ n.toNatClampNeg ∨ ¬ (ci = 2 ∨ ci = 3) then none else some (pc + 3, L, .ref μ.1.1 :: r, ((μ.1.1 + 1, μ.1.2.1 + n.toNatClampNeg, up1 μ.1.2.2 μ.1.1 (ci + 6, n.toNatClampNeg)), μ.2.1, μ.2.2.1, up1 μ.2.2.2 μ.1.1 (fun _ => none)))
    | _, _ => none)
  | .new j => (match mvNl (oOf M) j with
    | some ci => if ci < 5 then some (pc + 3, L, .ref μ.1.1 :: st, ((μ.1.1 + 1, μ.1.2.1 + nfOf ci, up1 μ.1.2.2 μ.1.1 (ci, nfOf ci)), up1 μ.2.1 μ.1.1 (rw' (dfOf ci)), μ.2.2.1, μ.2.2.2)) else none
    | none => none)
  | .invokespecial j => if mvObl (oOf M) j = true then (match st with
    | .ref a :: r => if (r.map fun v => v.category).sum ≤ 8 then some (pc + 3, L, r, μ) else none
    | _ => none) else none
  | .invokestatic j => if mvCl (oOf M) j = some 83 then (match st with
    | .int y :: .int x :: r => if (r.map fun v => v.category).sum ≤ 8 then some (pc + 3, L, .int (if x < y then y else x) :: r, μ) else none
    | _ => none) else none
  | _ => none
/-- a call: the method, its arguments, what stays on the stack -/
def mCall (M : Nat) (i : Instr) (st : List Value) (t : mL) : Option (Nat × List Value × List Value) :=
  match i with
  | .invokestatic j => (match mvCl (oOf M) j with
    | some k => if naOf k ≤ st.length ∧ stOf k = true ∧ k < 83 then some (k, (st.take (naOf k)).reverse, st.drop (naOf k)) else none
    | none => none)
  | .invokevirtual j => (match mvCl (oOf M) j with
    | some k => if naOf k ≤ st.length ∧ stOf k = false ∧ isInit k = false ∧ k < 83 ∧ rcv (st.take (naOf k)).reverse t (oOf k) = true then some (k, (st.take (naOf k)).reverse, st.drop (naOf k)) else none
    | none => none)
  | .invokespecial j => (match mvCl (oOf M) j with
    | some k => if naOf k ≤ st.length ∧ stOf k = false ∧ isInit k = true ∧ k < 83 ∧ rcI (st.take (naOf k)).reverse = true then some (k, (st.take (naOf k)).reverse, st.drop (naOf k)) else none
    | none => none)
  | _ => none
/-- a return -/
def mRet (M : Nat) (i : Instr) (st : List Value) : Option (Option Value) :=
  match i, st with
  | .lreturn, [.long x] => (match rtOf M with
    | some .long => some (some (.long x))
    | _ => none)
  | .ireturn, [.int x] => (match rtOf M with
    | some .int => some (some (.int x))
    | some .boolean => if x = 0 ∨ x = 1 then some (some (.int x)) else none
    | _ => none)
  | .return_, [] => (match rtOf M with
    | none => some none
    | _ => none)
  | _, _ => none
/-- from here, in so many steps, with calls as R tells them, the method ends with this answer and memory -/
def xR (R : Nat → List Value → mM → Option Value → mM → Prop) (M : Nat) : Nat → Nat → List Value → List Value → mM → Option Value → mM → Prop
  | 0, _, _, _, _, _, _ => False
  | n + 1, pc, L, st, μ, v, μ' => ∃ (i : Instr) (len : Nat), decode (bOf M) pc = .ok (i, len) ∧ lenOK i len ∧
    (mRet M i st = some v ∧ μ' = μ ∨
     (∃ (pc1 : Nat) (L1 st1 : List Value) (μ1 : mM), mNext M i pc L st μ = some (pc1, L1, st1, μ1) ∧ xR R M n pc1 L1 st1 μ1 v μ') ∨
     (∃ (k : Nat) (a r : List Value) (v1 : Option Value) (μ1 : mM), mCall M i st μ.1 = some (k, a, r) ∧ (r.map fun v => v.category).sum ≤ 8 ∧ R k a μ v1 μ1 ∧ xR R M n (pc + 3) L (v1.toList ++ r) μ1 v μ'))
/-- a long takes two places -/
def exL : List Value → List Value
  | [] => []
  | v :: r => if v.category = 2 then v :: .null :: exL r else v :: exL r
def enL (k : Nat) (a : List Value) : List Value := exL a ++ List.replicate (mlOf k - (exL a).length) .null
/-- a method's run, calls no deeper than d -/
def run : Nat → Nat → List Value → mM → Option Value → mM → Prop
  | 0, _, _, _, _, _ => False
  | d + 1, k, a, μ, v, μ' => a.length = naOf k ∧ Nat.ble (exL a).length (mlOf k) = true ∧ ∃ n, xR (run d) k n 0 (enL k a) [] μ v μ'
/-- from here the method ends so that Q holds of its answer and memory -/
def Ev (d M pc : Nat) (L st : List Value) (μ : mM) (Q : Option Value → mM → Prop) : Prop := ∃ n v μ', xR (run d) M n pc L st μ v μ' ∧ Q v μ'
def Call (d k : Nat) (a : List Value) (μ : mM) (Q : Option Value → mM → Prop) : Prop := ∃ v μ', run d k a μ v μ' ∧ Q v μ'
