/-! ===== THE LAW AND THE STEPS as functions of the row; what is kept from call to call ===== -/
-- the law: a step of its text is told by its kind and its number; a stack of numbers
def lfact (T : Int → Int) (s n : Int) : Int := if s = 8 then n else T s
def ljoin (s a b : Int) : Int := if s = 9 then a + b else if s = 10 then b2 (!cmpB .ge a b) else if s = 11 then b2 (!cmpB .le a b) else if s = 13 then b2 (decide (a + b = 2)) else b2 (decide (0 < a + b))
def lstep (T : Int → Int) (s n : Int) (st : List Int) : List Int := if s ≤ 8 then lfact T s n :: st else if s = 12 then (match st with
    | a :: r => (1 - a) :: r
    | [] => []) else (match st with
    | b :: a :: r => ljoin s a b :: r
    | r => r)
def lrun (w : Nat → Int) (T : Int → Int) : Nat → Nat → List Int → List Int
  | 0, _, st => st
  | n + 1, i, st => lrun w T n (i + 1) (lstep T (w (315 + 2 * i)) (w (316 + 2 * i)) st)
def lSt (w : Nat → Int) (l : Nat) : Nat := (w (269 + 4 * l)).toNat
def lEn (w : Nat → Int) (l : Nat) : Nat := (w (270 + 4 * l)).toNat
def lHd (w : Nat → Int) (T : Int → Int) (l : Nat) : Bool := match lrun w T (lEn w l - lSt w l) (lSt w l) [] with
  | [] => true
  | a :: _ => decide (a = 1)
def lSum (w : Nat → Int) (T : Int → Int) (kd : Int) : Int := if w 5 = 1 then fo (fun l a => if w (267 + 4 * l) = kd ∧ lHd w T l = true then a + w (268 + 4 * l) else a) (w 266).toNat 0 0 else 0
def lTT (w : Nat → Int) (r p tm : Int) (s : Nat) (k : Int) : Int := if k = 0 then r else if k = 1 then p else if k = 2 then oE w r p else if k = 3 then tm % 24 else if k = 4 then tm / 24 else if k = 5 then (cnt s.testBit 10 : Nat) else if k = 6 then wO w s else if tm % 24 < 6 ∨ 19 < tm % 24 then 1 else 0
-- types of the stack: true for what holds or not
def ty1 (s : Int) (st : List Bool) : Option (List Bool) := if s ≤ 8 then (if st.length < 32 then some (decide (s = 7) :: st) else none) else if s = 12 then (match st with
    | true :: r => some (true :: r)
    | _ => none) else if s = 9 then (match st with
    | false :: false :: r => some (false :: r)
    | _ => none) else if s = 10 ∨ s = 11 then (match st with
    | false :: false :: r => some (true :: r)
    | _ => none) else (match st with
    | true :: true :: r => some (true :: r)
    | _ => none)
def tyR (f : Nat → Int) : Nat → Nat → List Bool → Option (List Bool)
  | 0, _, st => some st
  | n + 1, i, st => (ty1 (f i) st).bind (tyR f n (i + 1))
def cdR (c s n : Int) : Prop := (s = 8 ∧ c = n ∧ 0 ≤ n ∧ n ≤ 999) ∨ ((0 ≤ s ∧ s ≤ 7) ∧ c = 1000 + s) ∨ (s = 12 ∧ c = 1008) ∨ (s = 13 ∧ c = 1009) ∨ (s = 14 ∧ c = 1010) ∨ (s = 9 ∧ c = 1011) ∨ (s = 10 ∧ c = 1012) ∨ (s = 11 ∧ c = 1013)
def LineR (a : Nat) (w : Nat → Int) (M : MM) (l : Nat) : Prop := ((w (267 + 4 * l) = 1 ∧ (0 ≤ w (268 + 4 * l) ∧ w (268 + 4 * l) ≤ 9) ∧ M (a + 1) l = w (268 + 4 * l)) ∨ (w (267 + 4 * l) = 0 ∧ w (268 + 4 * l) = 1 ∧ M (a + 1) l = -1)) ∧
  (w (269 + 4 * l) = if l = 0 then 0 else M (a + 2) (l - 1)) ∧ w (270 + 4 * l) = M (a + 2) l ∧ (0 ≤ w (269 + 4 * l) ∧ w (269 + 4 * l) ≤ w (270 + 4 * l) ∧ w (270 + 4 * l) ≤ 400) ∧
  (∀ i, lSt w l ≤ i → i < lEn w l → cdR (M (a + 3) i) (w (315 + 2 * i)) (w (316 + 2 * i))) ∧ (lSt w l = lEn w l ∨ tyR (fun i => w (315 + 2 * i)) (lEn w l - lSt w l) (lSt w l) [] = some [true])
def LawT (a : Nat) (w : Nat → Int) (M : MM) : Prop := M a 0 = w 266 ∧ (0 ≤ w 266 ∧ w 266 ≤ 12) ∧ ∀ l : Nat, (l : Int) < w 266 → LineR a w M l
def LawR (a : Nat) (w : Nat → Int) (M : MM) : Prop := (w 5 = 0 ∧ M a 0 = -1) ∨ (w 5 = 1 ∧ LawT a w M)
-- the steps of the packed state
def sCar (w : Nat → Int) (s : Nat) : Nat := bset (w 1).toNat (tsB s 2)
def sTm (w : Nat → Int) (s : Nat) : Int := w 6 + (fd s 0 5 : Nat)
def sPl (s : Nat) : Int := (fd s 5 4 : Nat)
def sTT (w : Nat → Int) (s : Nat) (r : Int) : Int → Int := lTT w r (sPl s) (sTm w s) (sCar w s)
def sHr (w : Nat → Int) (s : Nat) (r : Int) : Int := oR w r 2 + lSum w (sTT w s r) 1
def sFreeway (w : Nat → Int) (s : Nat) (r : Int) : Bool := !(decide (oP w (sPl s) 0 = 1) && !(fd s 34 10).testBit (fd s 5 4)) || decide ((fd s 9 5 : Int) - 1 = r)
def sCan (w : Nat → Int) (s : Nat) (r : Int) : Bool := decide (0 ≤ oE w r (sPl s)) && (sFreeway w s r && (decide (lSum w (sTT w s r) 0 = 0) && !eatB w (oE w r (sPl s)) (sTm w s + sHr w s r)))
def sGo (w : Nat → Int) (s : Nat) (r : Int) : Option Nat := if sCan w s r = true ∧ (fd s 0 5 : Int) + sHr w s r ≤ 30 then some (wt (wt (wt s 0 5 ((fd s 0 5 : Int) + sHr w s r).toNat) 5 4 (oE w r (sPl s)).toNat) 9 5 (r + 1).toNat) else none
def sWt (w : Nat → Int) (s : Nat) : Option Nat := if eatB w (sPl s) (sTm w s + 1) = true then none else some (s + 1)
def sPd0 (w : Nat → Int) (s : Nat) (t : Nat) : Nat := bif decide (oP w (sPl s) 5 = 1) then wt (wt s (34 + fd s 5 4) 1 1) (14 + 2 * t) 2 3 else wt s (34 + fd s 5 4) 1 1
def sPd (w : Nat → Int) (s : Nat) (t : Nat) : Nat := if 0 ≤ oP w (sPl s) 6 then wt (sPd0 w s t) (14 + 2 * (oP w (sPl s) 6).toNat) 2 (if cnt (sCar w (sPd0 w s t)).testBit 10 < 4 then 2 else 0) else sPd0 w s t
def sPy (w : Nat → Int) (s : Nat) (t : Nat) : Option Nat := if oP w (sPl s) 0 = 1 ∧ (fd s 34 10).testBit (fd s 5 4) = false ∧ sG s t = 2 ∧ fitK w t (sPl s) = true then some (sPd w s t) else none
def sTk (w : Nat → Int) (s : Nat) (t : Nat) : Option Nat := if sG s t = 0 ∧ oT w t 3 = sPl s ∧ cnt (sCar w s).testBit 10 < 4 then some (wt s (14 + 2 * t) 2 2) else none
def sCf (w : Nat → Int) (s : Nat) (b : Nat) (t : Nat) : Bool := decide (sG s t = 2) && fitR w t b
def sFr (w : Nat → Int) (s : Nat) (b : Nat) : Option Nat := if bset (w 1).toNat (sCf w s b) ≠ 0 ∧ oB w b 0 = sPl s ∧ (fd s 44 7).testBit b = false then some (wt s (44 + b) 1 1) else none
def Suc (w : Nat → Int) (s u : Nat) : Prop := (fd s 0 5 ≠ 30 ∧ sWt w s = some u) ∨ (∃ r : Nat, (r : Int) < w 2 ∧ sGo w s r = some u) ∨ (∃ t : Nat, (t : Int) < w 1 ∧ (sPy w s t = some u ∨ sTk w s t = some u)) ∨ ∃ b : Nat, (b : Int) < w 3 ∧ sFr w s b = some u
def Rchn (w : Nat → Int) : Nat → Nat → Prop
  | 0, s => s = nowS w
  | n + 1, s => Rchn w n s ∨ ∃ u, Rchn w n u ∧ Suc w u s
def Rch (w : Nat → Int) (s : Nat) : Prop := ∃ n, Rchn w n s
-- the class's packing of the same state
def cpB (w : Nat → Int) (s i : Nat) : Bool := if i < 10 then decide (sG s i = 2) else if i < 20 then decide (sG s (i - 10) = 3) else if i < 30 then (decide (sG s (i - 20) = 0) && (decide (((i - 20 : Nat) : Int) < w 1) && decide (oT w ((i - 20 : Nat) : Int) 2 = 1))) else if i < 40 then (fd s 34 10).testBit (i - 30) else if i < 47 then (fd s 44 7).testBit (i - 40) else if i < 51 then (fd s 5 4).testBit (i - 47) else if i < 56 then (fd s 9 5).testBit (i - 51) else (fd s 0 5).testBit (i - 56)
def cpk (w : Nat → Int) (s : Nat) : Nat := bset 61 (cpB w s)
def Big (w : Nat → Int) : Prop := ∃ f : Nat → Nat, (∀ i, i < 6001 → Rch w (f i)) ∧ ∀ i j, i < 6001 → j < 6001 → f i = f j → i = j
def AllR (w : Nat → Int) (n : Nat) (f : Nat → Nat) : Prop := n ≤ 6000 ∧ (∀ i, i < n → Rch w (f i)) ∧ (∀ s, Rch w s → ∃ i, i < n ∧ f i = s) ∧ ∀ i j, i < n → j < n → f i = f j → i = j
def Done (w : Nat → Int) (M : MM) : Prop := (M 1000 4 = 0 ∧ ∃ (n : Nat) (f : Nat → Nat), M 1000 3 = n ∧ AllR w n f ∧ ∀ i, i < n → M 1001 i = (cpk w (f i) : Nat)) ∨ (M 1000 4 = 1 ∧ Big w)
def SrR (M : MM) : Prop := (M 0 17 = 0 ∨ 0 < M 0 17) ∧ (M 0 17 ≠ 0 → (-1 ≤ M 1000 5 ∧ M 1000 5 ≤ M 0 18) ∧ (M 1000 5 = M 0 18 → Done (M 166) M))
-- what is remembered, the image
def rwJ (M : MM) (j : Nat) : Nat → Int := fun k => M 169 (266 * j + k)
def slJ (nx rem j : Nat) : Nat := (nx + 12 - rem + j) % 12
def RowOK (k : Nat) (a : Nat) (r : Nat → Int) (M : MM) : Prop := WF k r ∧ LandR 3 r M ∧ JnyR a r M ∧ r 5 = M 166 5
def MemR (k : Nat) (M : MM) : Prop := ∃ rem nx : Nat, M 165 6 = rem ∧ M 83 0 = rem ∧ M 83 1 = nx ∧ rem ≤ 12 ∧ nx < 12 ∧ ∀ j, j < rem → RowOK k (85 + 6 * slJ nx rem j) (rwJ M j) M
def ImgR (k : Nat) (M : MM) : Prop := (M 165 5 = 0 ∧ M 0 10 = 0) ∨ (M 165 5 = 1 ∧ M 0 10 = 1 ∧ WF k (M 167) ∧ LandR 55 (M 167) M ∧ JnyR 75 (M 167) M ∧ LawR 69 (M 167) M)
def Inv (k : Nat) (M : MM) : Prop := TapeR M ∧ WF k (M 166) ∧ LandR 3 (M 166) M ∧ JnyR 23 (M 166) M ∧ LawR 17 (M 166) M ∧ MemR k M ∧ ImgR k M ∧ SrR M ∧ (0 ≤ M 999 0 ∧ M 999 0 ≤ k) ∧ (0 ≤ M 0 18 ∧ M 0 18 ≤ k)
