abbrev MM : Type := Nat → Nat → Int
abbrev AV : Type := Int ⊕ (Int ⊕ (Option Nat ⊕ Unit))
def vI (z : Int) : AV := Sum.inl z
def vJ (z : Int) : AV := Sum.inr (Sum.inl z)
def vR (a : Nat) : AV := Sum.inr (Sum.inr (Sum.inl (some a)))
def vN : AV := Sum.inr (Sum.inr (Sum.inl none))
def vU : AV := Sum.inr (Sum.inr (Sum.inr ()))
abbrev AC : Type := (Nat × Nat × (Nat → Int)) ⊕ ((Nat × (Nat → Option Nat)) ⊕ (Nat × List AV))
def cA (k n : Nat) (f : Nat → Int) : AC := Sum.inl (k, n, f)
def cQ (n : Nat) (f : Nat → Option Nat) : AC := Sum.inr (Sum.inl (n, f))
def cO (c : Nat) (fs : List AV) : AC := Sum.inr (Sum.inr (c, fs))
abbrev AH : Type := Nat × Nat × (Nat → AC)
def gt (h : AH) (a : Nat) : AC := h.2.2 a
def sv (h : AH) (a : Nat) (c : AC) : AH := (h.1, h.2.1, fun q => if q = a then c else h.2.2 q)
def al (h : AH) (n : Nat) (c : AC) : AH := (h.1 + 1, h.2.1 + n, fun q => if q = h.1 then c else h.2.2 q)
def up {α : Type} (f : Nat → α) (k : Nat) (x : α) : Nat → α := fun j => if j = k then x else f j
abbrev AR : Type := Option AV ⊕ Nat
def w32 (z : Int) : Int := (Int32.ofInt z).toInt
def w64 (z : Int) : Int := (Int64.ofInt z).toInt
def iAnd (a b : Int) : Int := (Int32.ofInt a &&& Int32.ofInt b).toInt
def iOr (a b : Int) : Int := (Int32.ofInt a ||| Int32.ofInt b).toInt
def iXor (a b : Int) : Int := (Int32.ofInt a ^^^ Int32.ofInt b).toInt
def iShl (a b : Int) : Int := (Int32.ofInt a <<< (Int32.ofInt b &&& 31)).toInt
def iShr (a b : Int) : Int := (Int32.ofInt a >>> (Int32.ofInt b &&& 31)).toInt
def iUshr (a b : Int) : Int := ((Int32.ofInt a).toUInt32 >>> ((Int32.ofInt b).toUInt32 &&& Int32.toUInt32 31)).toInt32.toInt
def lAnd (a b : Int) : Int := (Int64.ofInt a &&& Int64.ofInt b).toInt
def lOr (a b : Int) : Int := (Int64.ofInt a ||| Int64.ofInt b).toInt
def lXor (a b : Int) : Int := (Int64.ofInt a ^^^ Int64.ofInt b).toInt
def lShl (a b : Int) : Int := (Int64.ofInt a <<< ((Int32.ofInt b).toInt64 &&& 63)).toInt
def lShr (a b : Int) : Int := (Int64.ofInt a >>> ((Int32.ofInt b).toInt64 &&& 63)).toInt
def lUshr (a b : Int) : Int := ((Int64.ofInt a).toUInt64 >>> ((Int32.ofInt b).toInt64.toUInt64 &&& Int64.toUInt64 63)).toInt64.toInt
def iB (a : Int) : Int := (Int32.ofInt a).toInt8.toInt32.toInt
def iC (a : Int) : Int := ((Int32.ofInt a).toUInt32 % 65536).toInt32.toInt
def lCmp (a b : Int) : Int := (lg_cmp (Int64.ofInt a) (Int64.ofInt b)).toInt
def cmpB (c : ClassFile.Cond) (a b : Int) : Bool := match c with
  | .eq => decide (w32 a = w32 b)
  | .ne => decide (¬ w32 a = w32 b)
  | .lt => decide (w32 a < w32 b)
  | .ge => decide (w32 b ≤ w32 a)
  | .gt => decide (w32 b < w32 a)
  | .le => decide (w32 a ≤ w32 b)
def swt (lo : Int) (offs : Array Int) (dflt hi z : Int) : Int := if z < lo then dflt else if hi < z then dflt else match offs[(z - lo).toNat]? with
  | some o => o
  | none => dflt
def E0 : Nat := 1000000000
def nB (z : Int) : Int := (vp_nar .byte (Int32.ofInt z)).toInt
def nZ (z : Int) : Int := (vp_nar .boolean (Int32.ofInt z)).toInt
def stB : List (List Int32) := [[112, 108, 97, 99, 101], [116, 104, 105, 110, 103], [119, 111, 114, 116, 104], [97, 116], [114, 111, 97, 100], [108, 111, 110, 103], [99, 104, 97, 110, 99, 101], [107, 101, 101, 112, 101, 114], [108, 111, 99, 107], [101, 97, 116, 115], [116, 111], [116, 97, 107, 101, 115], [104, 97, 115], [98, 114, 111, 116, 104, 101, 114], [119, 97, 121], [100, 117, 101], [116, 104, 101, 32, 116, 101, 120, 116, 32, 105, 115, 32, 119, 114, 111, 110, 103], [116, 104, 101, 114, 101, 32, 97, 114, 101, 32, 49, 50, 32, 116, 101, 120, 116, 115], [98, 97, 114], [115, 108, 111, 119], [105, 102], [110, 111, 116], [110, 105, 103, 104, 116], [114, 111, 97, 100], [102, 114, 111, 109], [116, 111], [104, 111, 117, 114], [100, 97, 121], [99, 97, 114, 114, 105, 101, 100], [119, 111, 114, 116, 104], [97, 110, 100], [111, 114], [110, 111, 32, 115, 117, 99, 104, 32, 80, 76, 65, 67, 69], [110, 111, 32, 115, 117, 99, 104, 32, 119, 104, 97, 116], [110, 111, 32, 115, 117, 99, 104, 32, 84, 72, 73, 78, 71], [110, 111, 32, 115, 117, 99, 104, 32, 82, 79, 65, 68], [110, 111, 32, 115, 117, 99, 104, 32, 66, 82, 79, 84, 72, 69, 82], [116, 104, 101, 114, 101, 32, 105, 115, 32, 110, 111, 32, 80, 76, 65, 67, 69], [105, 116, 32, 100, 111, 101, 115, 32, 110, 111, 116, 32, 98, 101, 103, 105, 110, 32, 116, 104, 101, 114, 101], [116, 104, 101, 114, 101, 32, 105, 115, 32, 110, 111, 32, 75, 69, 69, 80, 69, 82], [115, 104, 101, 32, 99, 97, 110, 110, 111, 116, 32, 71, 79], [110, 111, 116, 32, 49, 32, 116, 111, 32, 52, 56, 32, 104, 111, 117, 114, 115], [115, 104, 101, 32, 99, 97, 110, 110, 111, 116, 32, 87, 65, 73, 84], [115, 104, 101, 32, 99, 97, 110, 110, 111, 116, 32, 80, 65, 89], [115, 104, 101, 32, 99, 97, 110, 110, 111, 116, 32, 84, 65, 75, 69, 32, 105, 116], [115, 104, 101, 32, 100, 111, 101, 115, 32, 110, 111, 116, 32, 99, 97, 114, 114, 121, 32, 105, 116], [115, 104, 101, 32, 99, 97, 110, 110, 111, 116, 32, 70, 82, 69, 69, 32, 104, 105, 109], [110, 111, 116, 32, 48, 32, 116, 111, 32, 49, 48, 48, 48, 48, 48], [116, 104, 101, 32, 84, 65, 80, 69, 32, 116, 101, 108, 108, 115, 32, 110, 111, 32, 80, 76, 65, 84, 69, 83], [116, 104, 101, 114, 101, 32, 105, 115, 32, 110, 111, 32, 115, 117, 99, 104, 32, 112, 108, 97, 116, 101], [116, 104, 101, 32, 84, 65, 80, 69, 32, 116, 101, 108, 108, 115, 32, 110, 111, 32, 76, 79, 67, 75, 83], [110, 111, 32, 115, 117, 99, 104, 32, 104, 111, 117, 114, 115], [112, 108, 97, 99, 101], [116, 104, 105, 110, 103], [119, 111, 114, 116, 104], [97, 116], [114, 111, 97, 100], [108, 111, 110, 103], [99, 104, 97, 110, 99, 101], [107, 101, 101, 112, 101, 114], [108, 111, 99, 107], [101, 97, 116, 115], [116, 111], [116, 97, 107, 101, 115], [104, 97, 115], [98, 114, 111, 116, 104, 101, 114], [119, 97, 121], [100, 117, 101], [115, 108, 111, 119], [98, 97, 114], [105, 102], [110, 111, 116], [110, 105, 103, 104, 116], [102, 114, 111, 109], [104, 111, 117, 114], [100, 97, 121], [99, 97, 114, 114, 105, 101, 100], [97, 110, 100], [111, 114]]
def stN : List Nat := [5, 5, 5, 2, 4, 4, 6, 6, 4, 4, 2, 5, 3, 7, 3, 3, 17, 18, 3, 4, 2, 3, 5, 4, 4, 2, 4, 3, 7, 5, 3, 2, 13, 12, 13, 12, 15, 17, 23, 18, 13, 17, 15, 14, 18, 21, 19, 15, 24, 22, 23, 13, 5, 5, 5, 2, 4, 4, 6, 6, 4, 4, 2, 5, 3, 7, 3, 3, 4, 3, 2, 3, 5, 4, 4, 3, 7, 3, 2]
def mU (M : MM) (a k : Nat) (x : Int) : MM := fun b => if b = a then up (M a) k x else M b
def mV (M : MM) (a : Nat) (f : Nat → Int) : MM := fun b => if b = a then f else M b
def inB (i : Int) (n : Nat) : Bool := decide (0 ≤ i) && decide (i < (n : Int))
def zo (z : Int) : Bool := decide (z = 0 ∨ z = 1)
def nz (z : Int) : Bool := decide (¬ w32 z = 0)
def imax (a b : Int) : Int := if w32 a < w32 b then b else a
def imin (a b : Int) : Int := if w32 b < w32 a then b else a
abbrev OR : Type := Option (AR × MM)
abbrev rI (z : Int) : AR := .inl (some (vI z))
abbrev rJ (z : Int) : AR := .inl (some (vJ z))
abbrev rV : AR := .inl none
def thx (c : Nat) (M : MM) : OR := if 0 ≤ M 999 0 ∧ M 999 0 < 100000 then some (.inr c, mU M 999 0 (M 999 0 + 1)) else none
def tx (c : Nat) (M : MM) : OR := bif decide (13 ≤ c) && decide (c < 18) then some (.inr c, M) else none
def bI (x : OR) (k : Int → MM → OR) : OR := match x with
  | some (.inl (some (.inl z)), M) => k z M
  | some (.inr c, M) => tx c M
  | _ => none
def bJ (x : OR) (k : Int → MM → OR) : OR := match x with
  | some (.inl (some (.inr (.inl z))), M) => k z M
  | some (.inr c, M) => tx c M
  | _ => none
def bV (x : OR) (k : MM → OR) : OR := match x with
  | some (.inl none, M) => k M
  | some (.inr c, M) => tx c M
  | _ => none
def bH (x : OR) (k : Int → MM → OR) (e : Nat → MM → OR) : OR := match x with
  | some (.inl (some (.inl z)), M) => k z M
  | some (.inr c, M) => e c M
  | _ => none
def FU : Nat := 1000000
def isLand (a : Nat) : Prop := a = 3 ∨ a = 29 ∨ a = 55
def isLaw (a : Nat) : Prop := a = 17 ∨ a = 43 ∨ a = 69
def isJny (a : Nat) : Prop := a = 23 ∨ a = 49 ∨ a = 75 ∨ ∃ i, i < 12 ∧ a = 85 + 6 * i
def isRow (a : Nat) : Prop := a = 159 ∨ a = 160
def sM (M : MM) (k : MM → OR) : OR := k M
def bS (x : OR) (k : Nat → MM → OR) : OR := match x with
  | some (.inl (some (.inr (.inr (.inl (some q))))), M) => k q M
  | some (.inr c, M) => tx c M
  | _ => none
def lsO (ps : Array (Int × Int)) (dflt z : Int) : Int := Op.lookupswitch.offset ps.toList dflt z
def land_copyRow (a b n : Nat) (M : MM) : OR := some (rV, mV M b (fun j => if j < n then M a j else M b j))
def jdk_fill (a n : Nat) (v : Int) (M : MM) : OR := some (rV, mV M a (fun j => if j < n then v else M a j))
def jdk_length (t : Nat) (M : MM) : OR := some (rI ((stN.getD t 0 : Nat) : Int), M)
def jdk_charAt (t : Nat) (i : Int) (M : MM) : OR := bif inB i (stN.getD t 0) then some (rI ((stB.getD t []).getD i.toNat 0).toInt, M) else none
theorem mU_ne {M : MM} {a b k : Nat} {x : Int} (h : b ≠ a) : mU M a k x b = M b := if_neg h
theorem mU_eq {M : MM} {a k : Nat} {x : Int} : mU M a k x a = up (M a) k x := if_pos rfl
theorem mV_ne {M : MM} {a b : Nat} {f : Nat → Int} (h : b ≠ a) : mV M a f b = M b := if_neg h
theorem mV_eq {M : MM} {a : Nat} {f : Nat → Int} : mV M a f a = f := if_pos rfl
