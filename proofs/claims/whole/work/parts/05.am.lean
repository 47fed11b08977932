/-! ===== THE SMALL MACHINE: whole numbers for ints and longs, addresses from 0 on for what the law makes, a table for what it finds ===== -/
abbrev AV : Type := Int ⊕ (Int ⊕ (Option Nat ⊕ Unit))
def vI (z : Int) : AV := Sum.inl z
def vJ (z : Int) : AV := Sum.inr (Sum.inl z)
def vR (a : Nat) : AV := Sum.inr (Sum.inr (Sum.inl (some a)))
def vN : AV := Sum.inr (Sum.inr (Sum.inl none))
def vU : AV := Sum.inr (Sum.inr (Sum.inr ()))
def vq (r : Option Nat) : AV := Sum.inr (Sum.inr (Sum.inl r))
def ct (v : AV) : Nat := match v with
  | .inr (.inl _) => 2
  | _ => 1
/-- a row of numbers (0 int, 1 long, 2 byte, 3 boolean); a row of references; an object -/
abbrev AC : Type := (Nat × Nat × (Nat → Int)) ⊕ ((Nat × (Nat → Option Nat)) ⊕ (Nat × List AV))
def cA (k n : Nat) (f : Nat → Int) : AC := Sum.inl (k, n, f)
def cQ (n : Nat) (f : Nat → Option Nat) : AC := Sum.inr (Sum.inl (n, f))
def cO (c : Nat) (fs : List AV) : AC := Sum.inr (Sum.inr (c, fs))
/-- how many cells, how many slots, what they hold -/
abbrev AH : Type := Nat × Nat × (Nat → AC)
def gt (h : AH) (a : Nat) : AC := h.2.2 a
def sv (h : AH) (a : Nat) (c : AC) : AH := (h.1, h.2.1, fun q => if q = a then c else h.2.2 q)
def al (h : AH) (n : Nat) (c : AC) : AH := (h.1 + 1, h.2.1 + n, fun q => if q = h.1 then c else h.2.2 q)
def up {α : Type} (f : Nat → α) (k : Nat) (x : α) : Nat → α := fun j => if j = k then x else f j
abbrev AR : Type := Option AV ⊕ Nat
def w32 (z : Int) : Int := (Int32.ofInt z).toInt
def w64 (z : Int) : Int := (Int64.ofInt z).toInt
-- numbers
def iAnd (a b : Int) : Int := (Int32.ofInt a &&& Int32.ofInt b).toInt
def iOr (a b : Int) : Int := (Int32.ofInt a ||| Int32.ofInt b).toInt
def iXor (a b : Int) : Int := (Int32.ofInt a ^^^ Int32.ofInt b).toInt
def iShl (a b : Int) : Int := (Int32.ofInt a <<< (Int32.ofInt b &&& 31)).toInt
def iShr (a b : Int) : Int := (Int32.ofInt a >>> (Int32.ofInt b &&& 31)).toInt
def iUshr (a b : Int) : Int := ((Int32.ofInt a).toUInt32 >>> ((Int32.ofInt b).toUInt32 &&& Int32.toUInt32 31)).toInt32.toInt
def lAnd (a b : Int) : Int := (Int64.ofInt a &&& Int64.ofInt b).toInt
def lOr (a b : Int) : Int := (Int64.ofInt a ||| Int64.ofInt b).toInt
def lXor (a b : Int) : Int := (Int64.ofInt a ^^^ Int64.ofInt b).toInt
def lShl (a b : Int) : Int := (Int64.ofInt a <<< ((Int32.ofInt b).toInt64 &&& 63)).toInt
def lShr (a b : Int) : Int := (Int64.ofInt a >>> ((Int32.ofInt b).toInt64 &&& 63)).toInt
def lUshr (a b : Int) : Int := ((Int64.ofInt a).toUInt64 >>> ((Int32.ofInt b).toInt64.toUInt64 &&& Int64.toUInt64 63)).toInt64.toInt
def iB (a : Int) : Int := (Int32.ofInt a).toInt8.toInt32.toInt
def iC (a : Int) : Int := ((Int32.ofInt a).toUInt32 % 65536).toInt32.toInt
def lCmp (a b : Int) : Int := (lg_cmp (Int64.ofInt a) (Int64.ofInt b)).toInt
-- what touches locals and stack alone
abbrev LS2 : Type := Option (List AV × List AV)
def ldI (k : Nat) (ls st : List AV) : LS2 := match ls[k]? with
  | some (.inl z) => some (ls, .inl z :: st)
  | _ => none
def ldJ (k : Nat) (ls st : List AV) : LS2 := match ls[k]? with
  | some (.inr (.inl z)) => some (ls, .inr (.inl z) :: st)
  | _ => none
def ldR (k : Nat) (ls st : List AV) : LS2 := match ls[k]? with
  | some (.inr (.inr (.inl (some a)))) => some (ls, .inr (.inr (.inl (some a))) :: st)
  | _ => none
/-- a long whose second half is written over is no more -/
def clr (k : Nat) (ls : List AV) : List AV := match k with
  | 0 => ls
  | j + 1 => match ls[j]? with
    | some (.inr (.inl _)) => ls.set j vU
    | _ => ls
def st1 (k : Nat) (v : AV) (ls : List AV) : List AV := (clr k ls).set k v
def st2 (k : Nat) (v : AV) (ls : List AV) : List AV := ((clr k ls).set k v).set (k + 1) vU
def stI (k : Nat) (ls st : List AV) : LS2 := match st with
  | .inl z :: r => if k < ls.length then some (st1 k (.inl z) ls, r) else none
  | _ => none
def stJ (k : Nat) (ls st : List AV) : LS2 := match st with
  | .inr (.inl z) :: r => if k + 1 < ls.length then some (st2 k (.inr (.inl z)) ls, r) else none
  | _ => none
def stR (k : Nat) (ls st : List AV) : LS2 := match st with
  | .inr (.inr (.inl (some a))) :: r => if k < ls.length then some (st1 k (.inr (.inr (.inl (some a)))) ls, r) else none
  | _ => none
def b2I (f : Int → Int → Int) (ls st : List AV) : LS2 := match st with
  | .inl b :: .inl a :: r => some (ls, .inl (f a b) :: r)
  | _ => none
def b2D (f : Int → Int → Int) (ls st : List AV) : LS2 := match st with
  | .inl b :: .inl a :: r => if w32 b = 0 then none else some (ls, .inl (f a b) :: r)
  | _ => none
def b2J (f : Int → Int → Int) (ls st : List AV) : LS2 := match st with
  | .inr (.inl b) :: .inr (.inl a) :: r => some (ls, .inr (.inl (f a b)) :: r)
  | _ => none
def b2E (f : Int → Int → Int) (ls st : List AV) : LS2 := match st with
  | .inr (.inl b) :: .inr (.inl a) :: r => if w64 b = 0 then none else some (ls, .inr (.inl (f a b)) :: r)
  | _ => none
def b2S (f : Int → Int → Int) (ls st : List AV) : LS2 := match st with
  | .inl b :: .inr (.inl a) :: r => some (ls, .inr (.inl (f a b)) :: r)
  | _ => none
def u1I (f : Int → Int) (ls st : List AV) : LS2 := match st with
  | .inl a :: r => some (ls, .inl (f a) :: r)
  | _ => none
def pu (i : Instr) (ls st : List AV) : LS2 := match i with
  | .iconst n => some (ls, .inl n :: st)
  | .bipush n => if (-128 ≤ n ∧ n < 128) then some (ls, .inl n :: st) else none
  | .sipush n => if (-32768 ≤ n ∧ n < 32768) then some (ls, .inl n :: st) else none
  | .lconst n => some (ls, .inr (.inl (n.val : Int)) :: st)
  | .aconst_null => some (ls, .inr (.inr (.inl none)) :: st)
  | .iload_n k => ldI k.val ls st
  | .iload k => ldI k ls st
  | .lload_n k => ldJ k.val ls st
  | .lload k => ldJ k ls st
  | .aload_n k => ldR k.val ls st
  | .aload k => ldR k ls st
  | .istore_n k => stI k.val ls st
  | .istore k => stI k ls st
  | .lstore_n k => stJ k.val ls st
  | .lstore k => stJ k ls st
  | .astore_n k => stR k.val ls st
  | .astore k => stR k ls st
  | .iinc k n => match ls[k]? with
    | some (.inl z) => some (st1 k (.inl (z + n)) ls, st)
    | _ => none
  | .iadd => b2I (fun a b => a + b) ls st
  | .isub => b2I (fun a b => a - b) ls st
  | .imul => b2I (fun a b => a * b) ls st
  | .iand => b2I iAnd ls st
  | .ior => b2I iOr ls st
  | .ixor => b2I iXor ls st
  | .ishl => b2I iShl ls st
  | .ishr => b2I iShr ls st
  | .iushr => b2I iUshr ls st
  | .idiv => b2D (fun a b => (w32 a).tdiv (w32 b)) ls st
  | .irem => b2D (fun a b => (w32 a).tmod (w32 b)) ls st
  | .ladd => b2J (fun a b => a + b) ls st
  | .lsub => b2J (fun a b => a - b) ls st
  | .lmul => b2J (fun a b => a * b) ls st
  | .land => b2J lAnd ls st
  | .lor => b2J lOr ls st
  | .lxor => b2J lXor ls st
  | .ldiv => b2E (fun a b => (w64 a).tdiv (w64 b)) ls st
  | .lshl => b2S lShl ls st
  | .lshr => b2S lShr ls st
  | .lushr => b2S lUshr ls st
  | .lcmp => match st with
    | .inr (.inl b) :: .inr (.inl a) :: r => some (ls, .inl (lCmp a b) :: r)
    | _ => none
  | .i2l => match st with
    | .inl a :: r => some (ls, .inr (.inl (w32 a)) :: r)
    | _ => none
  | .l2i => match st with
    | .inr (.inl a) :: r => some (ls, .inl a :: r)
    | _ => none
  | .i2b => u1I iB ls st
  | .i2c => u1I iC ls st
  | .dup => match st with
    | v :: r => if ct v = 1 then some (ls, v :: v :: r) else none
    | _ => none
  | .dup2 => match st with
    | v :: w :: r => if ct v = 1 ∧ ct w = 1 then some (ls, v :: w :: v :: w :: r) else none
    | _ => none
  | .pop => match st with
    | v :: r => if ct v = 1 then some (ls, r) else none
    | _ => none
  | _ => none
-- branches
def cmpB (c : ClassFile.Cond) (a b : Int) : Bool := match c with
  | .eq => decide (w32 a = w32 b)
  | .ne => decide (¬ w32 a = w32 b)
  | .lt => decide (w32 a < w32 b)
  | .ge => decide (w32 b ≤ w32 a)
  | .gt => decide (w32 b < w32 a)
  | .le => decide (w32 a ≤ w32 b)
def tg (pc : Nat) (off : Int) : Nat := ((pc : Int) + off).toNat
def swt (lo : Int) (offs : Array Int) (dflt hi z : Int) : Int := if z < lo then dflt else if hi < z then dflt else match offs[(z - lo).toNat]? with
  | some o => o
  | none => dflt
def br (i : Instr) (pc : Nat) (st : List AV) : Option (Nat × List AV) := match i with
  | .goto off => if 0 ≤ (pc : Int) + off then some (tg pc off, st) else none
  | .if_icmp c off => match st with
    | .inl b :: .inl a :: r => if 0 ≤ (pc : Int) + off then some (bif cmpB c a b then tg pc off else pc + 3, r) else none
    | _ => none
  | .ifCond c off => match st with
    | .inl a :: r => if 0 ≤ (pc : Int) + off then some (bif cmpB c a 0 then tg pc off else pc + 3, r) else none
    | _ => none
  | .ifnull off => match st with
    | .inr (.inr (.inl (some _))) :: r => some (pc + 3, r)
    | .inr (.inr (.inl none)) :: r => if 0 ≤ (pc : Int) + off then some (tg pc off, r) else none
    | _ => none
  | .ifnonnull off => match st with
    | .inr (.inr (.inl (some _))) :: r => if 0 ≤ (pc : Int) + off then some (tg pc off, r) else none
    | .inr (.inr (.inl none)) :: r => some (pc + 3, r)
    | _ => none
  | .tableswitch dflt lo hi offs => match st with
    | .inl a :: r => if (lo ≤ w32 a → w32 a ≤ hi → (w32 a - lo).toNat < offs.size) ∧ 0 ≤ (pc : Int) + swt lo offs dflt hi (w32 a) then some (tg pc (swt lo offs dflt hi (w32 a)), r) else none
    | _ => none
  | .lookupswitch dflt ps => match st with
    | .inl a :: r => if (ps.toList.zip (ps.toList.drop 1)).all (fun (a, next) => a.1 < next.1) = true ∧ 0 ≤ (pc : Int) + Op.lookupswitch.offset ps.toList dflt (w32 a) then some (tg pc (Op.lookupswitch.offset ps.toList dflt (w32 a)), r) else none
    | _ => none
  | _ => none
-- the heap
/-- what the law finds lies from here on: the script, the formatter, the texts -/
def E0 : Nat := 1000000000
def cTT : List u_T := [TX0, TX1, TX2, TX3, TX4, TX5, TX6, TX7, TX8, TX9, TX10, TX11, TX12]
def cTy : List (Nat → FieldType) := [tyX0, tyX1, tyX2, tyX3, tyX4, tyX5, tyX6, tyX7, tyX8, tyX9, tyX10, tyX11, tyX12]
def cNf : List Nat := [14, 20, 7, 2, 3, 7, 14, 4, 3, 5, 3, 19, 32]
def fokT (t : FieldType) (v : AV) : Bool := match t, v with
  | .int, .inl _ => true
  | .boolean, .inl z => decide (z = 0 ∨ z = 1)
  | .array _, .inr (.inr (.inl (some _))) => true
  | .object _, .inr (.inr (.inl _)) => true
  | _, _ => false
def fok (m c k : Nat) (v : AV) : Bool := fokT ((cTy.getD c tyX0) k) v && (bif ((cTT.getD c TX0) k).2.2.2 then (decide (mS m = 2) && decide (mK m = c)) else true)
def dfT (t : FieldType) : AV := match t with
  | .int => vI 0
  | .boolean => vI 0
  | _ => vN
def fs0 (c : Nat) : List AV := (List.range (cNf.getD c 0)).map fun k => dfT ((cTy.getD c tyX0) k)
def akd (t : ArrayType) : Option Nat := match t with
  | .int => some 0
  | .long => some 1
  | .byte => some 2
  | .boolean => some 3
  | _ => none
def nB (z : Int) : Int := (vp_nar .byte (Int32.ofInt z)).toInt
def nZ (z : Int) : Int := (vp_nar .boolean (Int32.ofInt z)).toInt
def cpy (f g : Nat → Int) (sp dp n : Nat) : Nat → Int := va_cpy f g sp dp n
abbrev HS : Type := Option (List AV × AH)
def hGet (c k : Nat) (st : List AV) (h : AH) : HS := match st with
  | .inr (.inr (.inl (some a))) :: r => if a < h.1 ∨ E0 ≤ a then (match gt h a with
    | .inr (.inr (c', fs)) => if c' = c then (match fs[k]? with
      | some v => some (v :: r, h)
      | none => none) else none
    | _ => none) else none
  | _ => none
def hPut (m c k : Nat) (st : List AV) (h : AH) : HS := match st with
  | v :: .inr (.inr (.inl (some a))) :: r => if a < h.1 ∧ fok m c k v = true then (match gt h a with
    | .inr (.inr (c', fs)) => if c' = c ∧ k < fs.length then some (r, sv h a (.inr (.inr (c', fs.set k v)))) else none
    | _ => none) else none
  | _ => none
def hLd (kd : Nat) (st : List AV) (h : AH) : HS := match st with
  | .inl i :: .inr (.inr (.inl (some a))) :: r => if a < h.1 ∨ E0 ≤ a then (match gt h a with
    | .inl (k, n, f) => if k = kd ∧ 0 ≤ i ∧ i.toNat < n ∧ n < 2147483648 then some ((if kd = 1 then vJ (f i.toNat) else vI (f i.toNat)) :: r, h) else none
    | _ => none) else none
  | _ => none
def hLdB (st : List AV) (h : AH) : HS := match st with
  | _ :: .inr (.inr (.inl (some a))) :: _ => (match gt h a with
    | .inl (2, _, _) => hLd 2 st h
    | .inl (3, _, _) => if a < h.1 then hLd 3 st h else none
    | _ => none)
  | _ => none
def hSt (kd : Nat) (nw : Int → Int) (st : List AV) (h : AH) : HS := match st with
  | .inl x :: .inl i :: .inr (.inr (.inl (some a))) :: r => if a < h.1 then (match gt h a with
    | .inl (k, n, f) => if k = kd ∧ 0 ≤ i ∧ i.toNat < n ∧ n < 2147483648 then some (r, sv h a (.inl (k, n, up f i.toNat (nw x)))) else none
    | _ => none) else none
  | _ => none
def hStB (st : List AV) (h : AH) : HS := match st with
  | _ :: _ :: .inr (.inr (.inl (some a))) :: _ => (match gt h a with
    | .inl (2, _, _) => hSt 2 nB st h
    | .inl (3, _, _) => hSt 3 nZ st h
    | _ => none)
  | _ => none
def hStJ (st : List AV) (h : AH) : HS := match st with
  | .inr (.inl x) :: .inl i :: .inr (.inr (.inl (some a))) :: r => if a < h.1 then (match gt h a with
    | .inl (k, n, f) => if k = 1 ∧ 0 ≤ i ∧ i.toNat < n ∧ n < 2147483648 then some (r, sv h a (.inl (k, n, up f i.toNat x))) else none
    | _ => none) else none
  | _ => none
def hLdQ (st : List AV) (h : AH) : HS := match st with
  | .inl i :: .inr (.inr (.inl (some a))) :: r => if a < h.1 then (match gt h a with
    | .inr (.inl (n, f)) => if 0 ≤ i ∧ i.toNat < n ∧ n < 2147483648 ∧ (∀ b, f i.toNat = some b → b < h.1) then some (.inr (.inr (.inl (f i.toNat))) :: r, h) else none
    | _ => none) else none
  | _ => none
def hStQ (st : List AV) (h : AH) : HS := match st with
  | .inr (.inr (.inl (some b))) :: .inl i :: .inr (.inr (.inl (some a))) :: r => if a < h.1 ∧ b < h.1 then (match gt h a, gt h b with
    | .inr (.inl (n, f)), .inr (.inr (c, _)) => if c = 0 ∧ 0 ≤ i ∧ i.toNat < n ∧ n < 2147483648 then some (r, sv h a (.inr (.inl (n, up f i.toNat (some b))))) else none
    | _, _ => none) else none
  | _ => none
def hLen (st : List AV) (h : AH) : HS := match st with
  | .inr (.inr (.inl (some a))) :: r => if a < h.1 ∨ E0 ≤ a then (match gt h a with
    | .inl (k, n, _) => if k < 4 ∧ n < 2147483648 then some (vI n :: r, h) else none
    | _ => none) else none
  | _ => none
def hNewA (t : ArrayType) (st : List AV) (h : AH) : HS := match st with
  | .inl n :: r => match akd t with
    | some k => if 0 ≤ n ∧ n ≤ 100000 then some (vR h.1 :: r, al h n.toNat (.inl (k, n.toNat, fun _ => 0))) else none
    | none => none
  | _ => none
def hNewQ (c : Nat) (st : List AV) (h : AH) : HS := match st with
  | .inl n :: r => if c = 0 ∧ 0 ≤ n ∧ n ≤ 100000 then some (vR h.1 :: r, al h n.toNat (.inr (.inl (n.toNat, fun _ => none)))) else none
  | _ => none
def hCpy (st : List AV) (h : AH) : HS := match st with
  | .inl n :: .inl dp :: .inr (.inr (.inl (some a))) :: .inl sp :: .inr (.inr (.inl (some a0))) :: r =>
    if a < h.1 ∧ a0 < h.1 ∧ (r.map ct).sum ≤ 8 then (match gt h a0, gt h a with
    | .inl (k0, n0, f), .inl (k1, n1, g) => if k0 = 0 ∧ k1 = 0 ∧ 0 ≤ sp ∧ 0 ≤ dp ∧ 0 ≤ n ∧ sp.toNat + n.toNat ≤ n0 ∧ dp.toNat + n.toNat ≤ n1 ∧ n0 < 2147483647 ∧ n1 < 2147483647 then some (r, sv h a (.inl (k1, n1, cpy f g sp.toNat dp.toNat n.toNat))) else none
    | _, _ => none) else none
  | _ => none
def hMax (st : List AV) (h : AH) : HS := match st with
  | .inl b :: .inl a :: r => if (r.map ct).sum ≤ 8 then some ((if w32 a < w32 b then .inl b else .inl a) :: r, h) else none
  | _ => none
def hMin (st : List AV) (h : AH) : HS := match st with
  | .inl b :: .inl a :: r => if (r.map ct).sum ≤ 8 then some ((if w32 b < w32 a then .inl b else .inl a) :: r, h) else none
  | _ => none
def hLdc (w : Bool) (q : Nat × Nat × Nat × Int) (st : List AV) (h : AH) : HS := match q with
  | (4, _, _, z) => some (vI z :: st, h)
  | (6, i, _, _) => bif w then none else some (vR (E0 + 2 + 2 * i) :: st, h)
  | _ => none
def hp (m : Nat) (i : Instr) (st : List AV) (h : AH) : HS := match i with
  | .getfield x => (match pl (mK m) x with
    | (0, c, k, _) => hGet c k st h
    | _ => none)
  | .putfield x => (match pl (mK m) x with
    | (0, c, k, _) => hPut m c k st h
    | _ => none)
  | .iaload => hLd 0 st h
  | .laload => hLd 1 st h
  | .baload => hLdB st h
  | .iastore => hSt 0 (fun z => z) st h
  | .lastore => hStJ st h
  | .bastore => hStB st h
  | .aaload => hLdQ st h
  | .aastore => hStQ st h
  | .arraylength => hLen st h
  | .newarray t => hNewA t st h
  | .anewarray x => (match pl (mK m) x with
    | (2, c, _, _) => hNewQ c st h
    | _ => none)
  | .new x => (match pl (mK m) x with
    | (2, c, _, _) => if c < 13 then some (vR h.1 :: st, al h (cNf.getD c 0) (.inr (.inr (c, fs0 c)))) else none
    | _ => none)
  | .ldc x => hLdc false (pl (mK m) x) st h
  | .ldc_w x => hLdc true (pl (mK m) x) st h
  | .ldc2_w x => (match pl (mK m) x with
    | (5, _, _, z) => some (vJ z :: st, h)
    | _ => none)
  | .getstatic x => (match pl (mK m) x with
    | (7, 0, _, _) => some (vI 1 :: st, h)
    | (7, 1, _, _) => some (vR (E0 + 1) :: st, h)
    | _ => none)
  | .invokespecial x => (match pl (mK m) x, st with
    | (8, _, _, _), .inr (.inr (.inl (some a))) :: r => if (r.map ct).sum ≤ 8 ∧ a < h.1 then some (r, h) else none
    | _, _ => none)
  | .invokestatic x => (match pl (mK m) x with
    | (9, _, _, _) => hCpy st h
    | (12, _, _, _) => hMax st h
    | (13, _, _, _) => hMin st h
    | _ => none)
  | _ => none
/-- the handlers of the law's helpers: begin, end, handler, the class caught -/
def lay (vs : List AV) : List AV := vs.flatMap fun v => if ct v = 2 then [v, vU] else [v]
def ent (y : Nat) (vs : List AV) : List AV := lay vs ++ List.replicate (mL y - (lay vs).length) vU
