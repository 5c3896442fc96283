/-! THE PURE MACHINE: cells are named by their place in a list; a reference k stands for the address z.1 + k; retAddr 0 for the one String constant, retAddr 1 for the law's script -/
abbrev mC : Type := (Nat × (List Int32 ⊕ List (Option Nat))) ⊕ (Nat × List Value)
abbrev mS : Type := List mC × Nat
abbrev mZ : Type := Nat × Nat × Nat × Nat
abbrev mL : Type := List (Nat × Value)
abbrev mI : Type := Instr × Nat × Nat × Nat × Nat × Nat
abbrev mO : Type := (Nat × mL × List Value × mS) ⊕ (Option Value ⊕ (Nat × List Value × List Value))
abbrev mM : Type := MethodName × ByteArray × Nat × Option FieldType × (Nat → Option mI) × Nat × Nat × Nat
def sv (z : mZ) : Value → Value
  | .ref k => .ref (z.1 + k)
  | .retAddr 0 => .ref z.2.1
  | .retAddr 1 => .ref z.2.2.1
  | .retAddr (_ + 2) => .ref z.2.2.2
  | v => v
def so (z : mZ) (r : Option Nat) : Option Nat := r.map (fun k => z.1 + k)
def se (z : mZ) (ca : Nat → ClassId) : mC → va_E
  | .inl (t, .inl xs) => .inl (ca t, xs.length, .inl (fun j => xs.getD j 0))
  | .inl (t, .inr qs) => .inl (ca t, qs.length, .inr (.inr (.inr (.inr (fun j => so z (qs.getD j none))))))
  | .inr o => .inr (o.1, o.2.map (sv z))
def ml (z : mZ) (q : Nat × Value) : Nat × Value := (q.1, sv z q.2)
def mtys (ca : Nat → ClassId) : List (ClassId × FieldType) := [(ca 0, .int), (ca 1, .boolean), (ca 2, .object "OpenFields$House"), (ca 3, .object "OpenFields$Strip"), (ca 4, .object "OpenFields$Field"), (ca 5, .object "OpenFields$ByLaw")]
/-- the heap holds the named cells, and ends with them -/
def mP (z : mZ) (ca : Nat → ClassId) (D : va_G) (h : List mC) (H : Heap) : Prop := H.size = z.1 + h.length ∧ ∀ (k : Nat) (e : mC), h[k]? = some e → va_at D mcl (z.1 + k, se z ca e) H
def mget (lv : mL) (i : Nat) : Option Value := (lv.find? (fun q => Nat.beq q.1 i)).map (fun q => q.2)
def mput (lv : mL) (i : Nat) (v : Value) : mL := (i, v) :: lv.filter (fun q => !(q.1 == i) && !(q.1 + 1 == i && q.2.category == 2))
def misref : Value → Bool
  | .ref _ => true
  | .null => true
  | .retAddr _ => true
  | _ => false
def misint : Value → Bool
  | .int _ => true
  | _ => false
def mone : Value → Bool
  | .int _ => true
  | .ref _ => true
  | .null => true
  | .retAddr _ => true
  | _ => false
def mfit : FieldType → Value → Bool
  | .int, .int _ => true
  | .boolean, .int x => x == 0 || x == 1
  | .object _, .ref _ => true
  | .object _, .null => true
  | .array _, .ref _ => true
  | .array _, .null => true
  | _, _ => false
def mnx (pc : Nat) (lv : mL) (st : List Value) (h : mS) : Option mO := some (.inl (pc, lv, st, h))
def mld (ok : Value → Bool) (i pc : Nat) (lv : mL) (st : List Value) (h : mS) : Option mO := match mget lv i with
  | some v => bif ok v then mnx pc lv (v :: st) h else none
  | none => none
def mst (ok : Value → Bool) (nL i pc : Nat) (lv : mL) (st : List Value) (h : mS) : Option mO := match st with
  | v :: r => bif ok v && Nat.blt i nL then mnx pc (mput lv i v) r h else none
  | [] => none
def mbin (f : Int32 → Int32 → Int32) (pc : Nat) (lv : mL) (st : List Value) (h : mS) : Option mO := match st with
  | .int y :: .int x :: r => mnx (pc + 1) lv (.int (f x y) :: r) h
  | _ => none
def mdiv (f : Int32 → Int32 → Int32) (pc : Nat) (lv : mL) (st : List Value) (h : mS) : Option mO := match st with
  | .int y :: .int x :: r => if y = 0 then none else mnx (pc + 1) lv (.int (f x y) :: r) h
  | _ => none
def mun (f : Int32 → Int32) (pc : Nat) (lv : mL) (st : List Value) (h : mS) : Option mO := match st with
  | .int x :: r => mnx (pc + 1) lv (.int (f x) :: r) h
  | _ => none
def mif (c : Int32 → Prop) [DecidablePred c] (pc t : Nat) (lv : mL) (st : List Value) (h : mS) : Option mO := match st with
  | .int x :: r => if c x then mnx t lv r h else mnx (pc + 3) lv r h
  | _ => none
def mif2 (c : Int32 → Int32 → Prop) [∀ x y, Decidable (c x y)] (pc t : Nat) (lv : mL) (st : List Value) (h : mS) : Option mO := match st with
  | .int y :: .int x :: r => if c x y then mnx t lv r h else mnx (pc + 3) lv r h
  | _ => none
def mrq : Value → Option (Option Nat)
  | .ref k => some (some k)
  | .null => some none
  | _ => none
def mifa (eq : Bool) (pc t : Nat) (lv : mL) (st : List Value) (h : mS) : Option mO := match st with
  | y :: x :: r => match mrq x, mrq y with
    | some a, some b => bif (decide (a = b)) == eq then mnx t lv r h else mnx (pc + 3) lv r h
    | _, _ => none
  | _ => none
def mifn (nul : Bool) (pc t : Nat) (lv : mL) (st : List Value) (h : mS) : Option mO := match st with
  | .null :: r => bif nul then mnx t lv r h else mnx (pc + 3) lv r h
  | .ref _ :: r => bif nul then mnx (pc + 3) lv r h else mnx t lv r h
  | _ => none
def mgetf (ci k pc : Nat) (lv : mL) (st : List Value) (h : mS) : Option mO := match st with
  | .ref a :: r => match h.1[a]? with
    | some (.inr o) => bif Nat.beq o.1 ci then (match o.2[k]? with | some v => mnx (pc + 3) lv (v :: r) h | none => none) else none
    | _ => none
  | _ => none
def mtyOf (ci k : Nat) : FieldType := match ci with
  | 0 => tyX0 k | 1 => tyX1 k | 2 => tyX2 k | 3 => tyX3 k | 4 => tyX4 k | 5 => tyX5 k | 6 => tyX6 k | 7 => tyX7 k | 8 => tyX8 k | 9 => tyX9 k | 10 => tyX10 k | _ => tyX11 k
def mputf (ci k pc : Nat) (lv : mL) (st : List Value) (h : mS) : Option mO := match st with
  | v :: .ref a :: r => match h.1[a]? with
    | some (.inr o) => bif Nat.beq o.1 ci && (mfit (mtyOf ci k) v && Nat.blt k o.2.length) then mnx (pc + 3) lv r (h.1.set a (.inr (ci, o.2.set k v)), h.2) else none
    | _ => none
  | _ => none
def mdef : FieldType → Value
  | .object _ => .null
  | .array _ => .null
  | _ => .int 0
def mnof (ci : Nat) : Nat := match mcl[ci]? with | some q => q.2.2 | none => 0
def mnew (ci pc : Nat) (lv : mL) (st : List Value) (h : mS) : Option mO := mnx (pc + 3) lv (.ref h.1.length :: st) (h.1 ++ [.inr (ci, (List.range (mnof ci)).map (fun k => mdef (mtyOf ci k)))], h.2 + mnof ci)
def mnewa (t pc : Nat) (lv : mL) (st : List Value) (h : mS) : Option mO := match st with
  | .int n :: r => if n < 0 ∨ 100000 < n then none else mnx (pc + 2) lv (.ref h.1.length :: r) (h.1 ++ [.inl (t, .inl (List.replicate n.toNatClampNeg 0))], h.2 + n.toNatClampNeg)
  | _ => none
def mnewq (t pc : Nat) (lv : mL) (st : List Value) (h : mS) : Option mO := match st with
  | .int n :: r => if n < 0 ∨ 100000 < n then none else mnx (pc + 3) lv (.ref h.1.length :: r) (h.1 ++ [.inl (t, .inr (List.replicate n.toNatClampNeg none))], h.2 + n.toNatClampNeg)
  | _ => none
def mald (t pc : Nat) (scr : Option (Nat × (Nat → Int32))) (lv : mL) (st : List Value) (h : mS) : Option mO := match st with
  | .int i :: .ref a :: r => match h.1[a]? with
    | some (.inl (t', .inl xs)) => bif Nat.beq t t' then (if i < 0 then none else (match xs[i.toNatClampNeg]? with | some v => mnx (pc + 1) lv (.int v :: r) h | none => none)) else none
    | _ => none
  | .int i :: .retAddr 1 :: r => match scr with
    | some q => if i < 0 ∨ q.1 ≤ i.toNatClampNeg then none else mnx (pc + 1) lv (.int (q.2 i.toNatClampNeg) :: r) h
    | none => none
  | _ => none
def mast (t pc : Nat) (lv : mL) (st : List Value) (h : mS) : Option mO := match st with
  | .int x :: .int i :: .ref a :: r => match h.1[a]? with
    | some (.inl (t', .inl xs)) => bif Nat.beq t t' && (Nat.beq t 0 || (x == 0 || x == 1)) then (if i < 0 ∨ xs.length ≤ i.toNatClampNeg then none else mnx (pc + 1) lv r (h.1.set a (.inl (t, .inl (xs.set i.toNatClampNeg x))), h.2)) else none
    | _ => none
  | _ => none
/-- the bytes of the String constant -/
def mbyt : List Int32 := [119, 121, 102, 115, 99, 103, 100, 98, 110, 104]
def mbld (pc : Nat) (lv : mL) (st : List Value) (h : mS) : Option mO := match st with
  | .int i :: .retAddr 2 :: r => if i < 0 then none else (match mbyt[i.toNatClampNeg]? with | some v => mnx (pc + 1) lv (.int v :: r) h | none => none)
  | st => mald 1 pc none lv st h
def mgets (k pc : Nat) (lv : mL) (st : List Value) (h : mS) : Option mO := match st with
  | .retAddr 0 :: r => bif Nat.beq k 0 then mnx (pc + 3) lv (.retAddr 2 :: r) h else mnx (pc + 3) lv (.int 0 :: r) h
  | _ => none
def mrf : Option Nat → Value
  | none => .null
  | some k => .ref k
def maldq (pc : Nat) (lv : mL) (st : List Value) (h : mS) : Option mO := match st with
  | .int i :: .ref a :: r => match h.1[a]? with
    | some (.inl (t, .inr qs)) => bif Nat.blt 1 t && Nat.blt t 6 then (if i < 0 then none else (match qs[i.toNatClampNeg]? with | some v => mnx (pc + 1) lv (mrf v :: r) h | none => none)) else none
    | _ => none
  | _ => none
def mcOf (t : Nat) : Nat := match t with | 2 => 4 | 3 => 7 | 4 => 3 | _ => 1
def mastq (pc : Nat) (lv : mL) (st : List Value) (h : mS) : Option mO := match st with
  | .ref v :: .int i :: .ref a :: r => match h.1[a]?, h.1[v]? with
    | some (.inl (t, .inr qs)), some (.inr o) => bif Nat.blt 1 t && (Nat.blt t 6 && Nat.beq o.1 (mcOf t)) then (if i < 0 ∨ qs.length ≤ i.toNatClampNeg then none else mnx (pc + 1) lv r (h.1.set a (.inl (t, .inr (qs.set i.toNatClampNeg (some v)))), h.2)) else none
    | _, _ => none
  | _ => none
def malen (pc : Nat) (scr : Option (Nat × (Nat → Int32))) (lv : mL) (st : List Value) (h : mS) : Option mO := match st with
  | .ref a :: r => match h.1[a]? with
    | some (.inl (t, .inl xs)) => bif Nat.blt t 6 then mnx (pc + 1) lv (.int (Int32.ofNat xs.length) :: r) h else none
    | _ => none
  | .retAddr 1 :: r => match scr with
    | some q => mnx (pc + 1) lv (.int (Int32.ofNat q.1) :: r) h
    | none => none
  | .retAddr 2 :: r => mnx (pc + 1) lv (.int 10 :: r) h
  | _ => none
def mcpyL (xs ys : List Int32) (sp dp n : Nat) : List Int32 := (List.range ys.length).map (fun k => if dp ≤ k ∧ k < dp + n then xs.getD (sp + (k - dp)) 0 else ys.getD k 0)
def mcpy (pc : Nat) (lv : mL) (st : List Value) (h : mS) : Option mO := match st with
  | .int n :: .int dp :: .ref b :: .int sp :: .ref a :: r => match h.1[a]?, h.1[b]? with
    | some (.inl (0, .inl xs)), some (.inl (0, .inl ys)) => if (n < 0 ∨ dp < 0 ∨ sp < 0) ∨ xs.length < sp.toNatClampNeg + n.toNatClampNeg ∨ ys.length < dp.toNatClampNeg + n.toNatClampNeg ∨ a = b ∨ 8 < r.length ∨ r.all mone = false then none else mnx (pc + 3) lv r (h.1.set b (.inl (0, .inl (mcpyL xs ys sp.toNatClampNeg dp.toNatClampNeg n.toNatClampNeg))), h.2)
    | _, _ => none
  | _ => none
/-- the place of a byte in the text of the names -/
def midx (c : Int32) : Int32 := if c = 119 then 0 else if c = 121 then 1 else if c = 102 then 2 else if c = 115 then 3 else if c = 99 then 4 else if c = 103 then 5 else if c = 100 then 6 else if c = 98 then 7 else if c = 110 then 8 else if c = 104 then 9 else -1
def msw (pc : Nat) (off : Int) (lv : mL) (r : List Value) (h : mS) : Option mO := if 0 ≤ (pc : Int) + off then mnx ((pc : Int) + off).toNat lv r h else none
def mspec (a pc : Nat) (lv : mL) (st : List Value) (h : mS) : Option mO := match a, st with
  | 0, .ref _ :: r => bif Nat.ble r.length 8 && r.all mone then mnx (pc + 3) lv r h else none
  | 1, .int y :: .int x :: r => bif Nat.ble r.length 8 && r.all mone then mnx (pc + 3) lv (.int (if x < y then y else x) :: r) h else none
  | 2, .int y :: .int x :: r => bif Nat.ble r.length 8 && r.all mone then mnx (pc + 3) lv (.int (if y < x then y else x) :: r) h else none
  | 3, .int x :: r => bif Nat.ble r.length 8 && r.all mone then mnx (pc + 3) lv (.int (if 0 ≤ x then x else 0 - x) :: r) h else none
  | 4, st => mcpy pc lv st h
  | _, _ => none
/-- a call: b arguments (and the receiver, if kind is 0 or 1); kind 0 virtual, 1 <init>, 2 static; c the receiver's class -/
def minv (kind y b c : Nat) (st : List Value) (h : mS) : Option mO := bif Nat.blt kind 2 then (match st.drop b with
    | .ref k :: r => (match h.1[k]? with
      | some (.inr o) => bif Nat.beq o.1 c && (Nat.ble b st.length && (Nat.ble r.length 8 && (r.all mone && (st.take b).all mone))) then some (.inr (.inr (y, .ref k :: (st.take b).reverse, r))) else none
      | _ => none)
    | .retAddr 0 :: r => bif Nat.beq c 50 && (Nat.ble b st.length && (Nat.ble r.length 8 && (r.all mone && (st.take b).all mone))) then some (.inr (.inr (y, .retAddr 0 :: (st.take b).reverse, r))) else none
    | _ => none)
  else bif Nat.ble b st.length && (Nat.ble (st.drop b).length 8 && ((st.drop b).all mone && (st.take b).all mone)) then some (.inr (.inr (y, (st.take b).reverse, st.drop b))) else none
def mcl100 (c : Nat) : Nat := bif Nat.blt c 100 then c else c - 100
def mstep (scr : Option (Nat × (Nat → Int32))) (nL pc : Nat) (lv : mL) (st : List Value) (h : mS) (x : mI) : Option mO := match x with
  | (i, _, a, b, c, _) => match i with
    | .aconst_null => mnx (pc + 1) lv (.null :: st) h
    | .aload i => mld misref i (pc + 2) lv st h
    | .aload_n i => mld misref i.val (pc + 1) lv st h
    | .iload i => mld misint i (pc + 2) lv st h
    | .iload_n i => mld misint i.val (pc + 1) lv st h
    | .astore i => mst misref nL i (pc + 2) lv st h
    | .astore_n i => mst misref nL i.val (pc + 1) lv st h
    | .istore i => mst misint nL i (pc + 2) lv st h
    | .istore_n i => mst misint nL i.val (pc + 1) lv st h
    | .iconst n => mnx (pc + 1) lv (.int (Int32.ofInt n) :: st) h
    | .bipush n => mnx (pc + 2) lv (.int (Int8.ofInt n).toInt32 :: st) h
    | .sipush n => mnx (pc + 3) lv (.int (Int16.ofInt n).toInt32 :: st) h
    | .ldc _ => bif Nat.beq a 0 then mnx (pc + 2) lv (.int (Int32.ofNat b) :: st) h else mnx (pc + 2) lv (.retAddr 0 :: st) h
    | .iadd => mbin (fun x y => x + y) pc lv st h
    | .isub => mbin (fun x y => x - y) pc lv st h
    | .imul => mbin (fun x y => x * y) pc lv st h
    | .iand => mbin (fun x y => x &&& y) pc lv st h
    | .ior => mbin (fun x y => x ||| y) pc lv st h
    | .ixor => mbin (fun x y => x ^^^ y) pc lv st h
    | .ishl => mbin (fun x y => x <<< (y &&& 31)) pc lv st h
    | .ishr => mbin (fun x y => x >>> (y &&& 31)) pc lv st h
    | .iushr => mbin (fun x y => (x.toUInt32 >>> (y.toUInt32 &&& Int32.toUInt32 31)).toInt32) pc lv st h
    | .idiv => mdiv (fun x y => x / y) pc lv st h
    | .irem => mdiv (fun x y => x - x / y * y) pc lv st h
    | .ineg => mun (fun x => -x) pc lv st h
    | .i2c => mun (fun x => (x.toUInt32 % 65536).toInt32) pc lv st h
    | .iinc i n => (match mget lv i with
      | some (.int x) => bif Nat.blt i nL then mnx (pc + 3) (mput lv i (.int (x + Int32.ofInt n))) st h else none
      | _ => none)
    | .dup => (match st with
      | v :: r => bif mone v then mnx (pc + 1) lv (v :: v :: r) h else none
      | [] => none)
    | .dup2 => (match st with
      | v :: w :: r => bif mone v && mone w then mnx (pc + 1) lv (v :: w :: v :: w :: r) h else none
      | _ => none)
    | .pop => (match st with
      | v :: r => bif mone v then mnx (pc + 1) lv r h else none
      | [] => none)
    | .goto _ => mnx a lv st h
    | .ifCond .eq _ => mif (fun x => x = 0) pc a lv st h
    | .ifCond .ne _ => mif (fun x => ¬ x = 0) pc a lv st h
    | .ifCond .lt _ => mif (fun x => x < 0) pc a lv st h
    | .ifCond .ge _ => mif (fun x => 0 ≤ x) pc a lv st h
    | .ifCond .gt _ => mif (fun x => 0 < x) pc a lv st h
    | .ifCond .le _ => mif (fun x => x ≤ 0) pc a lv st h
    | .if_icmp .eq _ => mif2 (fun x y => x = y) pc a lv st h
    | .if_icmp .ne _ => mif2 (fun x y => ¬ x = y) pc a lv st h
    | .if_icmp .lt _ => mif2 (fun x y => x < y) pc a lv st h
    | .if_icmp .ge _ => mif2 (fun x y => y ≤ x) pc a lv st h
    | .if_icmp .gt _ => mif2 (fun x y => y < x) pc a lv st h
    | .if_icmp .le _ => mif2 (fun x y => x ≤ y) pc a lv st h
    | .if_acmp .eq _ => mifa true pc a lv st h
    | .if_acmp .ne _ => mifa false pc a lv st h
    | .ifnull _ => mifn true pc a lv st h
    | .ifnonnull _ => mifn false pc a lv st h
    | .tableswitch d lo hi os => (match st with
      | .int x :: r => if x.toInt < lo ∨ hi < x.toInt then msw pc d lv r h else (match os[(x.toInt - lo).toNat]? with
        | some o => msw pc o lv r h
        | none => none)
      | _ => none)
    | .lookupswitch d ps => (match st with
      | .int x :: r => msw pc (Op.lookupswitch.offset ps.toList d x.toInt) lv r h
      | _ => none)
    | .getfield _ => bif Nat.beq a 100 then mgets b pc lv st h else mgetf a b pc lv st h
    | .getstatic _ => mnx (pc + 3) lv (.int 1 :: st) h
    | .i2b => mun (fun x => x.toInt8.toInt32) pc lv st h
    | .putfield _ => mputf a b pc lv st h
    | .new _ => mnew a pc lv st h
    | .newarray _ => mnewa a pc lv st h
    | .anewarray _ => mnewq a pc lv st h
    | .arraylength => malen pc scr lv st h
    | .iaload => mald 0 pc scr lv st h
    | .baload => mbld pc lv st h
    | .iastore => mast 0 pc lv st h
    | .bastore => mast 1 pc lv st h
    | .aaload => maldq pc lv st h
    | .aastore => mastq pc lv st h
    | .invokevirtual _ => bif Nat.blt a 10 then mspec a pc lv st h else minv 0 (a - 10) b (mcl100 c) st h
    | .invokespecial _ => bif Nat.blt a 10 then mspec a pc lv st h else minv 1 (a - 10) b (mcl100 c) st h
    | .invokestatic _ => bif Nat.blt a 10 then mspec a pc lv st h else minv 2 (a - 10) b 0 st h
    | .ireturn => (match st with
      | [.int x] => some (.inr (.inl (some (.int x))))
      | _ => none)
    | .areturn => (match st with
      | [v] => bif (match v with | .ref _ => true | .null => true | _ => false) then some (.inr (.inl (some v))) else none
      | _ => none)
    | .return_ => (match st with
      | [] => some (.inr (.inl none))
      | _ => none)
    | _ => none
def mloop (cal : Nat → List Value → mS → Option (Option Value × mS)) (scr : Option (Nat × (Nat → Int32))) (nL : Nat) (tab : Nat → Option mI) : Nat → Nat → mL → List Value → mS → Option (Option Value × mS)
  | 0, _, _, _, _ => none
  | n + 1, pc, lv, st, h => match tab pc with
    | none => none
    | some x => match mstep scr nL pc lv st h x with
      | none => none
      | some (.inl (pc', lv', st', h')) => mloop cal scr nL tab n pc' lv' st' h'
      | some (.inr (.inl r)) => some (r, h)
      | some (.inr (.inr (y, as, rest))) => match cal y as h with
        | none => none
        | some (r, h') => mloop cal scr nL tab n (pc + 3) lv (r.toList ++ rest) h'
def mfuel : Nat := 1000000000000
def mgd {α : Type} (L : Nat) (t : Nat → Option α) : Nat → Option α := fun pc => bif Nat.blt pc L then t pc else none
theorem mgd_lt {α : Type} {L : Nat} {t : Nat → Option α} {pc : Nat} {x : α} (h : mgd L t pc = some x) : pc < L := by
  unfold mgd at h
  cases hb : Nat.blt pc L with
  | true => exact Nat.blt_eq.mp hb
  | false => rw [hb] at h; cases h
