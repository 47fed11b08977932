/-! ===== RULES: handlers, copies, a switch by pairs, a search that is given ===== -/
def bS (x : OR) (k : Nat → MM → OR) : OR := match x with
  | some (.inl (some (.inr (.inr (.inl (some q))))), M) => k q M
  | some (.inr c, M) => tx c M
  | _ => none
section MoreRows
variable {Z : Nat × (Nat → Int)} {d m pc : Nat} {ls st : List AV} {M : MM} {res : AR × MM} {A a x c k n j b y kd N : Nat} {cs : List (Nat × Nat)} {z : Int} {T9 : OR}
theorem ex_cS {vs st' : List AV} {F : OR} {K : Nat → MM → OR} (hd : CK m pc kd x) (hp : pl (mK m) x = (1, y, b, z)) (hc : CO kd y vs st' = true) (hr : RK M kd y vs) (hT : hT m = []) (hF : ∀ r, F = some r → EX Z d y 0 (ent y vs) [] M r) (hf : bS F K = some res) (kk : ∀ q1 M1, F = some (.inl (some (vR q1)), M1) → K q1 M1 = some res → EX Z (d + 1) m (pc + 3) ls (vR q1 :: st') M1 res) : EX Z (d + 1) m pc ls (vs.reverse ++ st') M res := by
  unfold bS at hf
  split at hf
  · rename_i q1 M1
    exact ex_ret hd hp hc (fun _ hR => hr.calO hR hc) (hF _ rfl) (kk q1 M1 rfl hf)
  · rename_i c1 M1
    obtain ⟨hci, rfl⟩ := tx_ok hf
    exact ex_out hd hp hc (fun _ hR => hr.calO hR hc) hT hci (hF _ rfl)
  · cases hf
theorem ex_cH {vs st' : List AV} {F : OR} {K : Int → MM → OR} {E : Nat → MM → OR} (hd : CK m pc kd x) (hp : pl (mK m) x = (1, y, b, z)) (hc : CO kd y vs st' = true) (hr : RK M kd y vs) (hF : ∀ r, F = some r → EX Z d y 0 (ent y vs) [] M r) (hf : bH F K E = some res) (kk : ∀ z1 M1, F = some (rI z1, M1) → K z1 M1 = some res → EX Z (d + 1) m (pc + 3) ls (vI z1 :: st') M1 res) (kx : ∀ c1 M1, F = some (.inr c1, M1) → E c1 M1 = some res → EX Z (d + 1) m pc ls (vs.reverse ++ st') M res) : EX Z (d + 1) m pc ls (vs.reverse ++ st') M res := by
  unfold bH at hf
  split at hf
  · rename_i z1 M1
    exact ex_ret hd hp hc (fun _ hR => hr.calO hR hc) (hF _ rfl) (kk z1 M1 rfl hf)
  · rename_i c1 M1
    exact kx c1 M1 rfl hf
  · cases hf
def lsO (ps : Array (Int × Int)) (dflt z : Int) : Int := Op.lookupswitch.offset ps.toList dflt z
theorem ex_lsw {dflt off j9 z9 : Int} {ps : Array (Int × Int)} {len t : Nat} (hd : decode (mC m) pc = .ok (.lookupswitch dflt ps, len)) (hz : cmpB .eq z9 j9 = true) (hj : w32 j9 = j9) (hs : (ps.toList.zip (ps.toList.drop 1)).all (fun (a, next) => a.1 < next.1) = true) (ho : Op.lookupswitch.offset ps.toList dflt j9 = off) (ht : (pc : Int) + off = (t : Int)) (k : EX Z d m t ls st M res) : EX Z d m pc ls (vI z9 :: st) M res := by
  have e : w32 z9 = j9 := (w32i hz).trans hj
  refine EX.same (fun _ _ _ => ex1_br (pc' := t) (st' := st) hd rfl rfl ?_ rfl) k
  show (if (ps.toList.zip (ps.toList.drop 1)).all (fun (a, next) => a.1 < next.1) = true ∧ 0 ≤ (pc : Int) + Op.lookupswitch.offset ps.toList dflt (w32 z9) then some (tg pc (Op.lookupswitch.offset ps.toList dflt (w32 z9)), st) else none) = _
  rw [e, ho, if_pos ⟨hs, by omega⟩]
  unfold tg
  rw [ht]
  rfl
theorem ex_lsd {dflt o0 o1 z9 : Int} {len t : Nat} (hd : decode (mC m) pc = .ok (.lookupswitch dflt #[(0, o0), (1, o1)], len)) (h0 : cmpB .eq z9 0 = false) (h1 : cmpB .eq z9 1 = false) (ht : (pc : Int) + dflt = (t : Int)) (k : EX Z d m t ls st M res) : EX Z d m pc ls (vI z9 :: st) M res := by
  have e0 : ¬ w32 z9 = 0 := fun e => by
    have h9 : cmpB .eq z9 0 = decide (w32 z9 = w32 0) := rfl
    rw [h9, e] at h0
    exact absurd h0 (by decide)
  have e1 : ¬ w32 z9 = 1 := fun e => by
    have h9 : cmpB .eq z9 1 = decide (w32 z9 = w32 1) := rfl
    rw [h9, e] at h1
    exact absurd h1 (by decide)
  refine EX.same (fun _ _ _ => ex1_br (pc' := t) (st' := st) hd rfl rfl ?_ rfl) k
  have ho : Op.lookupswitch.offset [(0, o0), (1, o1)] dflt (w32 z9) = dflt := by
    show (if 0 = w32 z9 then o0 else if 1 = w32 z9 then o1 else dflt) = dflt
    rw [if_neg (fun e => e0 e.symm), if_neg (fun e => e1 e.symm)]
  show (if (([(0, o0), (1, o1)] : List (Int × Int)).zip (([(0, o0), (1, o1)] : List (Int × Int)).drop 1)).all (fun (a, next) => a.1 < next.1) = true ∧ 0 ≤ (pc : Int) + Op.lookupswitch.offset [(0, o0), (1, o1)] dflt (w32 z9) then some (tg pc (Op.lookupswitch.offset [(0, o0), (1, o1)] dflt (w32 z9)), st) else none) = _
  rw [ho, if_pos ⟨rfl, by omega⟩]
  unfold tg
  rw [ht]
  rfl
end MoreRows
-- a row copied
def land_copyRow (a b n : Nat) (M : MM) : OR := some (rV, mV M b (fun j => if j < n then M a j else M b j))
def il9 : List (Nat × Instr × Nat) := [(0, .aload_n 0, 1), (1, .iconst 0, 1), (2, .aload_n 1, 1), (3, .iconst 0, 1), (4, .aload_n 0, 1), (5, .arraylength, 1), (6, .aload_n 1, 1), (7, .arraylength, 1), (8, .invokestatic 77, 3), (11, .invokestatic 83, 3), (14, .return_, 1)]
theorem dc9 : dcs (mC 9) il9 := dc_of (by decide +kernel)
theorem land_copyRow_ok {Z : Nat × (Nat → Int)} {d : Nat} {M : MM} {A B a b n : Nat} {cs1 cs2 : List (Nat × Nat)} {res : AR × MM} (hL1 : LOC M A a (0, 0, n, cs1)) (hL2 : LOC M B b (0, 0, n, cs2)) (h0 : b ≠ 0) (hn : n.blt 1000 = true) (hf : land_copyRow a b n M = some res) : EX Z d 9 0 (ent 9 [vR A, vR B]) [] M res := by
  cases hf
  have hn9 : n < 1000 := blt_ok hn
  have hb : n.blt 2147483648 = true := Nat.ble_eq_true_of_le (by omega)
  show EX Z d 9 0 [vR A, vR B] [] M _
  refine ex_pu (ls' := [vR A, vR B]) (st' := [vR A]) (dg dc9 0 rfl) rfl rfl ?_
  refine ex_pu (ls' := [vR A, vR B]) (st' := [vI 0, vR A]) (dg dc9 1 rfl) rfl rfl ?_
  refine ex_pu (ls' := [vR A, vR B]) (st' := [vR B, vI 0, vR A]) (dg dc9 2 rfl) rfl rfl ?_
  refine ex_pu (ls' := [vR A, vR B]) (st' := [vI 0, vR B, vI 0, vR A]) (dg dc9 3 rfl) rfl rfl ?_
  refine ex_pu (ls' := [vR A, vR B]) (st' := [vR A, vI 0, vR B, vI 0, vR A]) (dg dc9 4 rfl) rfl rfl ?_
  refine ex_len (dg dc9 5 rfl) hL1 hb rfl ?_
  refine ex_pu (ls' := [vR A, vR B]) (st' := [vR B, vI n, vI 0, vR B, vI 0, vR A]) (dg dc9 6 rfl) rfl rfl ?_
  refine ex_len (dg dc9 7 rfl) hL2 hb rfl ?_
  refine ex_min (dg dc9 8 rfl) rfl rfl ?_
  have e1 : imin (n : Int) (n : Int) = (n : Int) := by
    unfold imin
    split <;> rfl
  rw [e1]
  have h17 : (mV M b (fun j => if j < n then M a j else M b j)) 0 17 = M 0 17 := by rw [mV_ne (Ne.symm h0)]
  refine EX.go (M' := mV M b (fun j => if j < n then M a j else M b j)) (pc' := 14) (ls' := [vR A, vR B]) (st' := []) (fun _ => h17) (fun h hR => ?_) (ex_vre (dg dc9 10 rfl) rfl rfl)
  have hgA : gt h A = cA 0 n (M a) := hR.1 _ _ _ hL1
  have hgB : gt h B = cA 0 n (M b) := hR.1 _ _ _ hL2
  refine ⟨_, hR.put (M' := mV M b (fun j => if j < n then M a j else M b j)) hL2 (fun q hq => mV_ne hq) h17 rfl, fun _ => ex1_hp (dg dc9 9 rfl) rfl rfl rfl ?_⟩
  show hCpy [vI n, vI 0, vR B, vI 0, vR A] h = _
  show (if B < h.1 ∧ A < h.1 ∧ (([] : List AV).map ct).sum ≤ 8 then (match gt h A, gt h B with
    | .inl (k0, n0, f), .inl (k1, n1, g) => if k0 = 0 ∧ k1 = 0 ∧ (0 : Int) ≤ 0 ∧ (0 : Int) ≤ 0 ∧ (0 : Int) ≤ (n : Int) ∧ (0 : Int).toNat + (n : Int).toNat ≤ n0 ∧ (0 : Int).toNat + (n : Int).toNat ≤ n1 ∧ n0 < 2147483647 ∧ n1 < 2147483647 then some (([] : List AV), sv h B (.inl (k1, n1, cpy f g (0 : Int).toNat (0 : Int).toNat (n : Int).toNat))) else none
    | _, _ => none) else none) = _
  rw [if_pos ⟨hR.lt hL2, hR.lt hL1, by decide⟩, hgA, hgB]
  show (if 0 = 0 ∧ 0 = 0 ∧ (0 : Int) ≤ 0 ∧ (0 : Int) ≤ 0 ∧ (0 : Int) ≤ (n : Int) ∧ (0 : Int).toNat + (n : Int).toNat ≤ n ∧ (0 : Int).toNat + (n : Int).toNat ≤ n ∧ n < 2147483647 ∧ n < 2147483647 then some (([] : List AV), sv h B (cA 0 n (cpy (M a) (M b) (0 : Int).toNat (0 : Int).toNat (n : Int).toNat))) else none) = _
  rw [if_pos ⟨rfl, rfl, Int.le_refl _, Int.le_refl _, by omega, by omega, by omega, by omega, by omega⟩]
  have e2 : cpy (M a) (M b) (0 : Int).toNat (0 : Int).toNat (n : Int).toNat = fun j => if j < n then M a j else M b j := by
    funext j
    unfold cpy va_cpy
    rw [Int.toNat_natCast]
    simp
  rw [e2]
  show some (([] : List AV), sv h B (cA 0 n (fun j => if j < n then M a j else M b j))) = some (([] : List AV), sv h B (cA 0 n (mV M b (fun j => if j < n then M a j else M b j) b)))
  rw [mV_eq]
