/-! ===== RULES: stores over what is forgotten, divisions, choices; families of addresses ===== -/
def FU : Nat := 1000000
def dcb (c : ByteArray) (L : List (Nat × Instr × Nat)) : Bool := L.all fun q => decide (decode c q.1 = .ok q.2)
theorem dc_of {c : ByteArray} {L : List (Nat × Instr × Nat)} (h : dcb c L = true) : dcs c L := fun q hq => of_decide_eq_true (List.all_eq_true.mp h q hq)
theorem blt_ok {a b : Nat} (h : a.blt b = true) : a < b := Nat.le_of_ble_eq_true h
theorem clr_set (j : Nat) (ls : List AV) : ∃ w, clr (j + 1) ls = ls.set j w := by
  show ∃ w, (match ls[j]? with
    | some (.inr (.inl _)) => ls.set j vU
    | _ => ls) = ls.set j w
  split
  · exact ⟨vU, rfl⟩
  · cases h : ls[j]? with
    | none => exact ⟨vU, (List.set_eq_of_length_le (List.getElem?_eq_none_iff.mp h)).symm⟩
    | some u =>
      obtain ⟨h1, h2⟩ := List.getElem?_eq_some_iff.mp h
      exact ⟨u, by rw [← h2]; exact (List.set_getElem_self h1).symm⟩
section AuxRows
variable {Z : Nat × (Nat → Int)} {d m pc : Nat} {ls st : List AV} {M : MM} {res : AR × MM} {A a x c k n j b y kd N : Nat} {cs : List (Nat × Nat)} {z : Int} {T9 : OR}
theorem ex_istDn {kf : Fin 4} {v : Int} (hd : decode (mC m) pc = .ok (.istore_n kf, 1)) (hk : (kf.val).blt ls.length = true) (hj : kf.val = j + 1) (kk : ∀ w, EX Z d m (pc + 1) ((ls.set j w).set (j + 1) (vI v)) st M res) : EX Z d m pc ls (vI v :: st) M res := by
  obtain ⟨w, hw⟩ := clr_set j ls
  refine ex_pu (ls' := (ls.set j w).set (j + 1) (vI v)) (st' := st) hd rfl ?_ (kk w)
  show (if kf.val < ls.length then some (st1 kf.val (vI v) ls, st) else none) = _
  rw [if_pos (blt_ok hk), hj]
  unfold st1
  rw [hw]
theorem ex_istD {v : Int} (hd : decode (mC m) pc = .ok (.istore k, 2)) (hk : k.blt ls.length = true) (hj : k = j + 1) (kk : ∀ w, EX Z d m (pc + 2) ((ls.set j w).set (j + 1) (vI v)) st M res) : EX Z d m pc ls (vI v :: st) M res := by
  obtain ⟨w, hw⟩ := clr_set j ls
  refine ex_pu (ls' := (ls.set j w).set (j + 1) (vI v)) (st' := st) hd rfl ?_ (kk w)
  show (if k < ls.length then some (st1 k (vI v) ls, st) else none) = _
  rw [if_pos (blt_ok hk), hj]
  unfold st1
  rw [hw]
theorem ex_astDn {kf : Fin 4} (hd : decode (mC m) pc = .ok (.astore_n kf, 1)) (hk : (kf.val).blt ls.length = true) (hj : kf.val = j + 1) (kk : ∀ w, EX Z d m (pc + 1) ((ls.set j w).set (j + 1) (vR A)) st M res) : EX Z d m pc ls (vR A :: st) M res := by
  obtain ⟨w, hw⟩ := clr_set j ls
  refine ex_pu (ls' := (ls.set j w).set (j + 1) (vR A)) (st' := st) hd rfl ?_ (kk w)
  show (if kf.val < ls.length then some (st1 kf.val (vR A) ls, st) else none) = _
  rw [if_pos (blt_ok hk), hj]
  unfold st1
  rw [hw]
theorem ex_astD (hd : decode (mC m) pc = .ok (.astore k, 2)) (hk : k.blt ls.length = true) (hj : k = j + 1) (kk : ∀ w, EX Z d m (pc + 2) ((ls.set j w).set (j + 1) (vR A)) st M res) : EX Z d m pc ls (vR A :: st) M res := by
  obtain ⟨w, hw⟩ := clr_set j ls
  refine ex_pu (ls' := (ls.set j w).set (j + 1) (vR A)) (st' := st) hd rfl ?_ (kk w)
  show (if k < ls.length then some (st1 k (vR A) ls, st) else none) = _
  rw [if_pos (blt_ok hk), hj]
  unfold st1
  rw [hw]
theorem ex_incD {v i9 : Int} (hd : decode (mC m) pc = .ok (.iinc k i9, 3)) (hz : ls[k]? = some (vI v)) (hj : k = j + 1) (kk : ∀ w, EX Z d m (pc + 3) ((ls.set j w).set (j + 1) (vI (v + i9))) st M res) : EX Z d m pc ls st M res := by
  obtain ⟨w, hw⟩ := clr_set j ls
  refine ex_pu (ls' := (ls.set j w).set (j + 1) (vI (v + i9))) (st' := st) hd rfl ?_ (kk w)
  show (match ls[k]? with
    | some (.inl z) => some (st1 k (.inl (z + i9)) ls, st)
    | _ => none) = _
  rw [hz]
  show some (st1 k (vI (v + i9)) ls, st) = _
  rw [hj]
  unfold st1
  rw [hw]
theorem nz_ok {v : Int} (h : nz v = true) : ¬ w32 v = 0 := of_decide_eq_true h
theorem ex_irem {u v : Int} (hd : decode (mC m) pc = .ok (.irem, 1)) (hb : nz v = true) (kk : EX Z d m (pc + 1) ls (vI ((w32 u).tmod (w32 v)) :: st) M res) : EX Z d m pc ls (vI v :: vI u :: st) M res :=
  ex_pu (ls' := ls) (st' := vI ((w32 u).tmod (w32 v)) :: st) hd rfl (if_neg (nz_ok hb)) kk
theorem ex_idiv {u v : Int} (hd : decode (mC m) pc = .ok (.idiv, 1)) (hb : nz v = true) (kk : EX Z d m (pc + 1) ls (vI ((w32 u).tdiv (w32 v)) :: st) M res) : EX Z d m pc ls (vI v :: vI u :: st) M res :=
  ex_pu (ls' := ls) (st' := vI ((w32 u).tdiv (w32 v)) :: st) hd rfl (if_neg (nz_ok hb)) kk
theorem ex_iremG {u v : Int} (hd : decode (mC m) pc = .ok (.irem, 1)) (hf : (bif nz v then T9 else none) = some res) (kk : T9 = some res → EX Z d m (pc + 1) ls (vI ((w32 u).tmod (w32 v)) :: st) M res) : EX Z d m pc ls (vI v :: vI u :: st) M res := ex_irem hd (gd hf).1 (kk (gd hf).2)
theorem ex_idivG {u v : Int} (hd : decode (mC m) pc = .ok (.idiv, 1)) (hf : (bif nz v then T9 else none) = some res) (kk : T9 = some res → EX Z d m (pc + 1) ls (vI ((w32 u).tdiv (w32 v)) :: st) M res) : EX Z d m pc ls (vI v :: vI u :: st) M res := ex_idiv hd (gd hf).1 (kk (gd hf).2)
theorem ex_ldiv {u v : Int} (hd : decode (mC m) pc = .ok (.ldiv, 1)) (hb : decide (¬ w64 v = 0) = true) (kk : EX Z d m (pc + 1) ls (vJ ((w64 u).tdiv (w64 v)) :: st) M res) : EX Z d m pc ls (vJ v :: vJ u :: st) M res :=
  ex_pu (ls' := ls) (st' := vJ ((w64 u).tdiv (w64 v)) :: st) hd rfl (if_neg (of_decide_eq_true hb)) kk
theorem ex_bif {b9 : Bool} {A9 B9 : OR} {G : Prop} (hf : (bif b9 then A9 else B9) = some res) (k1 : b9 = true → A9 = some res → G) (k2 : b9 = false → B9 = some res → G) : G := by
  cases b9 with
  | true => exact k1 rfl hf
  | false => exact k2 rfl hf
theorem sw_out {lo hi : Int} (h : ∀ j9 : Int, lo ≤ j9 → j9 ≤ hi → cmpB .eq z j9 = false ∧ w32 j9 = j9) : w32 z < lo ∨ hi < w32 z := by
  by_cases h1 : w32 z < lo
  · exact Or.inl h1
  · by_cases h2 : hi < w32 z
    · exact Or.inr h2
    · obtain ⟨e1, e2⟩ := h (w32 z) (by omega) (by omega)
      have e3 : cmpB .eq z (w32 z) = decide (w32 z = w32 (w32 z)) := rfl
      rw [e3, e2, decide_eq_true rfl] at e1
      cases e1
theorem ne17 {v : Int} (h : 0 ≠ a) : mU M a k v 0 17 = M 0 17 := by rw [mU_ne h]
def isLand (a : Nat) : Prop := a = 3 ∨ a = 29 ∨ a = 55
def isLaw (a : Nat) : Prop := a = 17 ∨ a = 43 ∨ a = 69
def isJny (a : Nat) : Prop := a = 23 ∨ a = 49 ∨ a = 75 ∨ ∃ i, i < 12 ∧ a = 85 + 6 * i
def isRow (a : Nat) : Prop := a = 159 ∨ a = 160
theorem isLand3 : isLand 3 := Or.inl rfl
theorem isLand29 : isLand 29 := Or.inr (Or.inl rfl)
theorem isLand55 : isLand 55 := Or.inr (Or.inr rfl)
theorem isLaw17 : isLaw 17 := Or.inl rfl
theorem isLaw43 : isLaw 43 := Or.inr (Or.inl rfl)
theorem isLaw69 : isLaw 69 := Or.inr (Or.inr rfl)
theorem isJny23 : isJny 23 := Or.inl rfl
theorem isJny49 : isJny 49 := Or.inr (Or.inl rfl)
theorem isJny75 : isJny 75 := Or.inr (Or.inr (Or.inl rfl))
theorem isRow159 : isRow 159 := Or.inl rfl
theorem isRow160 : isRow 160 := Or.inr rfl
theorem locLand0 (h : isLand a) : LOC M a a (2, 1, 20, [(0, 0), (0, 0), (0, 0), (0, 0), (0, 0), (0, 0), (0, 0), (3, 1), (3, 2), (3, 3), (3, 4), (3, 5), (3, 6), (3, 7), (3, 8), (3, 9), (3, 10), (3, 11), (3, 12), (3, 13)]) := by
  rcases h with rfl | rfl | rfl <;> exact LOC.st (Nat.le_of_ble_eq_true rfl) rfl
theorem ne17_Land {v : Int} (h : isLand a) : mU M a k v 0 17 = M 0 17 := ne17 (by rcases h with rfl | rfl | rfl <;> decide)
theorem locLand1 (h : isLand a) : LOC M (a + 1) (a + 1) (0, 0, 17, []) := by
  rcases h with rfl | rfl | rfl <;> exact LOC.st (Nat.le_of_ble_eq_true rfl) rfl
theorem ne17_Land_1 {v : Int} (h : isLand a) : mU M (a + 1) k v 0 17 = M 0 17 := ne17 (by omega)
theorem locLand2 (h : isLand a) : LOC M (a + 2) (a + 2) (0, 0, 17, []) := by
  rcases h with rfl | rfl | rfl <;> exact LOC.st (Nat.le_of_ble_eq_true rfl) rfl
theorem ne17_Land_2 {v : Int} (h : isLand a) : mU M (a + 2) k v 0 17 = M 0 17 := ne17 (by omega)
theorem locLand3 (h : isLand a) : LOC M (a + 3) (a + 3) (0, 0, 10, []) := by
  rcases h with rfl | rfl | rfl <;> exact LOC.st (Nat.le_of_ble_eq_true rfl) rfl
theorem ne17_Land_3 {v : Int} (h : isLand a) : mU M (a + 3) k v 0 17 = M 0 17 := ne17 (by omega)
theorem locLand4 (h : isLand a) : LOC M (a + 4) (a + 4) (0, 0, 10, []) := by
  rcases h with rfl | rfl | rfl <;> exact LOC.st (Nat.le_of_ble_eq_true rfl) rfl
theorem ne17_Land_4 {v : Int} (h : isLand a) : mU M (a + 4) k v 0 17 = M 0 17 := ne17 (by omega)
theorem locLand5 (h : isLand a) : LOC M (a + 5) (a + 5) (0, 0, 10, []) := by
  rcases h with rfl | rfl | rfl <;> exact LOC.st (Nat.le_of_ble_eq_true rfl) rfl
theorem ne17_Land_5 {v : Int} (h : isLand a) : mU M (a + 5) k v 0 17 = M 0 17 := ne17 (by omega)
theorem locLand6 (h : isLand a) : LOC M (a + 6) (a + 6) (0, 0, 10, []) := by
  rcases h with rfl | rfl | rfl <;> exact LOC.st (Nat.le_of_ble_eq_true rfl) rfl
theorem ne17_Land_6 {v : Int} (h : isLand a) : mU M (a + 6) k v 0 17 = M 0 17 := ne17 (by omega)
theorem locLand7 (h : isLand a) : LOC M (a + 7) (a + 7) (0, 0, 10, []) := by
  rcases h with rfl | rfl | rfl <;> exact LOC.st (Nat.le_of_ble_eq_true rfl) rfl
theorem ne17_Land_7 {v : Int} (h : isLand a) : mU M (a + 7) k v 0 17 = M 0 17 := ne17 (by omega)
theorem locLand8 (h : isLand a) : LOC M (a + 8) (a + 8) (0, 0, 32, []) := by
  rcases h with rfl | rfl | rfl <;> exact LOC.st (Nat.le_of_ble_eq_true rfl) rfl
theorem ne17_Land_8 {v : Int} (h : isLand a) : mU M (a + 8) k v 0 17 = M 0 17 := ne17 (by omega)
theorem locLand9 (h : isLand a) : LOC M (a + 9) (a + 9) (0, 0, 16, []) := by
  rcases h with rfl | rfl | rfl <;> exact LOC.st (Nat.le_of_ble_eq_true rfl) rfl
theorem ne17_Land_9 {v : Int} (h : isLand a) : mU M (a + 9) k v 0 17 = M 0 17 := ne17 (by omega)
theorem locLand10 (h : isLand a) : LOC M (a + 10) (a + 10) (0, 0, 16, []) := by
  rcases h with rfl | rfl | rfl <;> exact LOC.st (Nat.le_of_ble_eq_true rfl) rfl
theorem ne17_Land_10 {v : Int} (h : isLand a) : mU M (a + 10) k v 0 17 = M 0 17 := ne17 (by omega)
theorem locLand11 (h : isLand a) : LOC M (a + 11) (a + 11) (0, 0, 7, []) := by
  rcases h with rfl | rfl | rfl <;> exact LOC.st (Nat.le_of_ble_eq_true rfl) rfl
theorem ne17_Land_11 {v : Int} (h : isLand a) : mU M (a + 11) k v 0 17 = M 0 17 := ne17 (by omega)
theorem locLand12 (h : isLand a) : LOC M (a + 12) (a + 12) (0, 0, 7, []) := by
  rcases h with rfl | rfl | rfl <;> exact LOC.st (Nat.le_of_ble_eq_true rfl) rfl
theorem ne17_Land_12 {v : Int} (h : isLand a) : mU M (a + 12) k v 0 17 = M 0 17 := ne17 (by omega)
theorem locLand13 (h : isLand a) : LOC M (a + 13) (a + 13) (0, 0, 7, []) := by
  rcases h with rfl | rfl | rfl <;> exact LOC.st (Nat.le_of_ble_eq_true rfl) rfl
theorem ne17_Land_13 {v : Int} (h : isLand a) : mU M (a + 13) k v 0 17 = M 0 17 := ne17 (by omega)
theorem locLaw0 (h : isLaw a) : LOC M a a (2, 2, 7, [(0, 0), (3, 1), (3, 2), (3, 3), (0, 0), (3, 4), (3, 5)]) := by
  rcases h with rfl | rfl | rfl <;> exact LOC.st (Nat.le_of_ble_eq_true rfl) rfl
theorem ne17_Law {v : Int} (h : isLaw a) : mU M a k v 0 17 = M 0 17 := ne17 (by rcases h with rfl | rfl | rfl <;> decide)
theorem locLaw1 (h : isLaw a) : LOC M (a + 1) (a + 1) (0, 0, 12, []) := by
  rcases h with rfl | rfl | rfl <;> exact LOC.st (Nat.le_of_ble_eq_true rfl) rfl
theorem ne17_Law_1 {v : Int} (h : isLaw a) : mU M (a + 1) k v 0 17 = M 0 17 := ne17 (by omega)
theorem locLaw2 (h : isLaw a) : LOC M (a + 2) (a + 2) (0, 0, 12, []) := by
  rcases h with rfl | rfl | rfl <;> exact LOC.st (Nat.le_of_ble_eq_true rfl) rfl
theorem ne17_Law_2 {v : Int} (h : isLaw a) : mU M (a + 2) k v 0 17 = M 0 17 := ne17 (by omega)
theorem locLaw3 (h : isLaw a) : LOC M (a + 3) (a + 3) (0, 0, 400, []) := by
  rcases h with rfl | rfl | rfl <;> exact LOC.st (Nat.le_of_ble_eq_true rfl) rfl
theorem ne17_Law_3 {v : Int} (h : isLaw a) : mU M (a + 3) k v 0 17 = M 0 17 := ne17 (by omega)
theorem locLaw4 (h : isLaw a) : LOC M (a + 4) (a + 4) (0, 0, 8, []) := by
  rcases h with rfl | rfl | rfl <;> exact LOC.st (Nat.le_of_ble_eq_true rfl) rfl
theorem ne17_Law_4 {v : Int} (h : isLaw a) : mU M (a + 4) k v 0 17 = M 0 17 := ne17 (by omega)
theorem locLaw5 (h : isLaw a) : LOC M (a + 5) (a + 5) (0, 0, 32, []) := by
  rcases h with rfl | rfl | rfl <;> exact LOC.st (Nat.le_of_ble_eq_true rfl) rfl
theorem ne17_Law_5 {v : Int} (h : isLaw a) : mU M (a + 5) k v 0 17 = M 0 17 := ne17 (by omega)
theorem locRow0 (h : isRow a) : LOC M a a (0, 0, 10, []) := by
  rcases h with rfl | rfl <;> exact LOC.st (Nat.le_of_ble_eq_true rfl) rfl
theorem ne17_Row {v : Int} (h : isRow a) : mU M a k v 0 17 = M 0 17 := ne17 (by rcases h with rfl | rfl <;> decide)
theorem locJny0 (h : isJny a) : LOC M a a (2, 0, 14, [(0, 0), (0, 0), (0, 0), (0, 0), (0, 0), (0, 0), (0, 0), (0, 0), (0, 0), (3, 1), (3, 2), (3, 3), (3, 4), (3, 5)]) := by
  rcases h with rfl | rfl | rfl | ⟨i9, h9, rfl⟩
  · exact LOC.st (Nat.le_of_ble_eq_true rfl) rfl
  · exact LOC.st (Nat.le_of_ble_eq_true rfl) rfl
  · exact LOC.st (Nat.le_of_ble_eq_true rfl) rfl
  · have h8 : i9 = 0 ∨ i9 = 1 ∨ i9 = 2 ∨ i9 = 3 ∨ i9 = 4 ∨ i9 = 5 ∨ i9 = 6 ∨ i9 = 7 ∨ i9 = 8 ∨ i9 = 9 ∨ i9 = 10 ∨ i9 = 11 := by omega
    rcases h8 with rfl | rfl | rfl | rfl | rfl | rfl | rfl | rfl | rfl | rfl | rfl | rfl <;> exact LOC.st (Nat.le_of_ble_eq_true rfl) rfl
theorem ne17_Jny {v : Int} (h : isJny a) : mU M a k v 0 17 = M 0 17 := ne17 (by rcases h with rfl | rfl | rfl | ⟨i9, h9, rfl⟩ <;> omega)
theorem locJny1 (h : isJny a) : LOC M (a + 1) (a + 1) (0, 0, 10, []) := by
  rcases h with rfl | rfl | rfl | ⟨i9, h9, rfl⟩
  · exact LOC.st (Nat.le_of_ble_eq_true rfl) rfl
  · exact LOC.st (Nat.le_of_ble_eq_true rfl) rfl
  · exact LOC.st (Nat.le_of_ble_eq_true rfl) rfl
  · have h8 : i9 = 0 ∨ i9 = 1 ∨ i9 = 2 ∨ i9 = 3 ∨ i9 = 4 ∨ i9 = 5 ∨ i9 = 6 ∨ i9 = 7 ∨ i9 = 8 ∨ i9 = 9 ∨ i9 = 10 ∨ i9 = 11 := by omega
    rcases h8 with rfl | rfl | rfl | rfl | rfl | rfl | rfl | rfl | rfl | rfl | rfl | rfl <;> exact LOC.st (Nat.le_of_ble_eq_true rfl) rfl
theorem ne17_Jny_1 {v : Int} (h : isJny a) : mU M (a + 1) k v 0 17 = M 0 17 := ne17 (by omega)
theorem locJny2 (h : isJny a) : LOC M (a + 2) (a + 2) (0, 0, 7, []) := by
  rcases h with rfl | rfl | rfl | ⟨i9, h9, rfl⟩
  · exact LOC.st (Nat.le_of_ble_eq_true rfl) rfl
  · exact LOC.st (Nat.le_of_ble_eq_true rfl) rfl
  · exact LOC.st (Nat.le_of_ble_eq_true rfl) rfl
  · have h8 : i9 = 0 ∨ i9 = 1 ∨ i9 = 2 ∨ i9 = 3 ∨ i9 = 4 ∨ i9 = 5 ∨ i9 = 6 ∨ i9 = 7 ∨ i9 = 8 ∨ i9 = 9 ∨ i9 = 10 ∨ i9 = 11 := by omega
    rcases h8 with rfl | rfl | rfl | rfl | rfl | rfl | rfl | rfl | rfl | rfl | rfl | rfl <;> exact LOC.st (Nat.le_of_ble_eq_true rfl) rfl
theorem ne17_Jny_2 {v : Int} (h : isJny a) : mU M (a + 2) k v 0 17 = M 0 17 := ne17 (by omega)
theorem locJny3 (h : isJny a) : LOC M (a + 3) (a + 3) (0, 0, 10, []) := by
  rcases h with rfl | rfl | rfl | ⟨i9, h9, rfl⟩
  · exact LOC.st (Nat.le_of_ble_eq_true rfl) rfl
  · exact LOC.st (Nat.le_of_ble_eq_true rfl) rfl
  · exact LOC.st (Nat.le_of_ble_eq_true rfl) rfl
  · have h8 : i9 = 0 ∨ i9 = 1 ∨ i9 = 2 ∨ i9 = 3 ∨ i9 = 4 ∨ i9 = 5 ∨ i9 = 6 ∨ i9 = 7 ∨ i9 = 8 ∨ i9 = 9 ∨ i9 = 10 ∨ i9 = 11 := by omega
    rcases h8 with rfl | rfl | rfl | rfl | rfl | rfl | rfl | rfl | rfl | rfl | rfl | rfl <;> exact LOC.st (Nat.le_of_ble_eq_true rfl) rfl
theorem ne17_Jny_3 {v : Int} (h : isJny a) : mU M (a + 3) k v 0 17 = M 0 17 := ne17 (by omega)
theorem locJny4 (h : isJny a) : LOC M (a + 4) (a + 4) (0, 0, 10, []) := by
  rcases h with rfl | rfl | rfl | ⟨i9, h9, rfl⟩
  · exact LOC.st (Nat.le_of_ble_eq_true rfl) rfl
  · exact LOC.st (Nat.le_of_ble_eq_true rfl) rfl
  · exact LOC.st (Nat.le_of_ble_eq_true rfl) rfl
  · have h8 : i9 = 0 ∨ i9 = 1 ∨ i9 = 2 ∨ i9 = 3 ∨ i9 = 4 ∨ i9 = 5 ∨ i9 = 6 ∨ i9 = 7 ∨ i9 = 8 ∨ i9 = 9 ∨ i9 = 10 ∨ i9 = 11 := by omega
    rcases h8 with rfl | rfl | rfl | rfl | rfl | rfl | rfl | rfl | rfl | rfl | rfl | rfl <;> exact LOC.st (Nat.le_of_ble_eq_true rfl) rfl
theorem ne17_Jny_4 {v : Int} (h : isJny a) : mU M (a + 4) k v 0 17 = M 0 17 := ne17 (by omega)
theorem locJny5 (h : isJny a) : LOC M (a + 5) (a + 5) (0, 0, 10, []) := by
  rcases h with rfl | rfl | rfl | ⟨i9, h9, rfl⟩
  · exact LOC.st (Nat.le_of_ble_eq_true rfl) rfl
  · exact LOC.st (Nat.le_of_ble_eq_true rfl) rfl
  · exact LOC.st (Nat.le_of_ble_eq_true rfl) rfl
  · have h8 : i9 = 0 ∨ i9 = 1 ∨ i9 = 2 ∨ i9 = 3 ∨ i9 = 4 ∨ i9 = 5 ∨ i9 = 6 ∨ i9 = 7 ∨ i9 = 8 ∨ i9 = 9 ∨ i9 = 10 ∨ i9 = 11 := by omega
    rcases h8 with rfl | rfl | rfl | rfl | rfl | rfl | rfl | rfl | rfl | rfl | rfl | rfl <;> exact LOC.st (Nat.le_of_ble_eq_true rfl) rfl
theorem ne17_Jny_5 {v : Int} (h : isJny a) : mU M (a + 5) k v 0 17 = M 0 17 := ne17 (by omega)
theorem Row_ne (h : isRow a) : a ≠ 0 := by rcases h with rfl | rfl <;> decide
def sM (M : MM) (k : MM → OR) : OR := k M
theorem ex_gen {M' : MM} {K : MM → OR} (hf : sM M' K = some res) (kk : ∀ M1, M1 = M' → K M1 = some res → EX Z d m pc ls st M1 res) : EX Z d m pc ls st M' res := kk M' rfl hf
theorem jny_ring {i : Int} (h : inB i 12 = true) : isJny (85 + 6 * i.toNat) := Or.inr (Or.inr (Or.inr ⟨i.toNat, (inB_ok h).2, rfl⟩))
theorem ring_el : ∀ i0 : Nat, i0 < 12 → (([(4, 85), (4, 91), (4, 97), (4, 103), (4, 109), (4, 115), (4, 121), (4, 127), (4, 133), (4, 139), (4, 145), (4, 151)] : List (Nat × Nat))[i0]?).map (fun q => q.2) = some ((fun i0 : Int => 85 + 6 * i0.toNat) (i0 : Int)) ∧ (fun i0 : Int => 85 + 6 * i0.toNat) (i0 : Int) < 182 := by decide +kernel
end AuxRows
