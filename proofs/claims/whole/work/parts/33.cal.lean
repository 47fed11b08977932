/-! ===== RULES: calls, ends, throws ===== -/
section CalRows
variable {Z : Nat × (Nat → Int)} {d m pc : Nat} {ls st : List AV} {M : MM} {res : AR × MM} {A a x c k n j b y kd N : Nat} {cs : List (Nat × Nat)} {z : Int} {T9 : OR}
/-- where a call is: static, of an object, of a constructor -/
def CK (m pc kd x : Nat) : Prop := (kd = 0 ∧ decode (mC m) pc = .ok (.invokestatic x, 3)) ∨ (kd = 1 ∧ decode (mC m) pc = .ok (.invokevirtual x, 3)) ∨ (kd = 2 ∧ decode (mC m) pc = .ok (.invokespecial x, 3))
theorem ex1_cal {h : AH} {vs : List AV} (hd : CK m pc kd x) (hp : pl (mK m) x = (1, y, b, z)) (n : Nat) : exec (n + 1) d m pc ls st h = cal (exec n) kd d m pc x ls st h := by
  rcases hd with ⟨rfl, hd⟩ | ⟨rfl, hd⟩ | ⟨rfl, hd⟩
  · refine (ex1_ctl hd rfl rfl rfl ?_).trans rfl
    show (match pl (mK m) x with
      | (9, _, _, _) => hCpy st h
      | (12, _, _, _) => hMax st h
      | (13, _, _, _) => hMin st h
      | _ => none) = _
    rw [hp]
    rfl
  · exact (ex1_ctl hd rfl rfl rfl rfl).trans rfl
  · refine (ex1_ctl hd rfl rfl rfl ?_).trans rfl
    show (match pl (mK m) x, st with
      | (8, _, _, _), .inr (.inr (.inl (some a))) :: r => if (r.map ct).sum ≤ 8 ∧ a < h.1 then some (r, h) else none
      | _, _ => none) = _
    rw [hp]
    rfl
/-- what is asked of a call before it is made; the receiver's kind apart -/
def CO (kd y : Nat) (vs st' : List AV) : Bool := (mS y).beq kd && ((vs.length).beq (mA y + (bif kd.beq 0 then 0 else 1)) && (((st'.map ct).sum).ble 8 && ((lay vs).length).ble (mL y)))
theorem calO_of {h : AH} {vs st' : List AV} (hc : CO kd y vs st' = true) (hr : kd = 0 ∨ (∃ r9 v9, vs = v9 :: r9 ∧ ((kd = 1 ∧ ∃ A9, v9 = vR A9 ∧ rcv (mK y) vs h = true) ∨ (kd = 2 ∧ ∃ A9, v9 = vR A9 ∧ A9 < E0)))) : calO kd (mA y + (bif kd.beq 0 then 0 else 1)) y (vs.reverse ++ st') h = true := by
  unfold CO at hc
  simp only [Bool.and_eq_true] at hc
  obtain ⟨c1, c2, c3, c4⟩ := hc
  have c1 := bq c1
  have c2 := bq c2
  have c3 := Nat.le_of_ble_eq_true c3
  have c4 := Nat.le_of_ble_eq_true c4
  generalize hN : mA y + (bif kd.beq 0 then 0 else 1) = N at *
  have e1 : (vs.reverse ++ st').take N = vs.reverse := by rw [← c2, ← List.length_reverse]; exact List.take_left
  have e2 : (vs.reverse ++ st').drop N = st' := by rw [← c2, ← List.length_reverse]; exact List.drop_left
  unfold calO
  rw [hN, e1, e2, List.reverse_reverse]
  simp only [Bool.and_eq_true, decide_eq_true_eq]
  refine ⟨c1, trivial, by rw [List.length_append, List.length_reverse]; omega, c3, c4, ?_⟩
  rcases hr with rfl | ⟨r9, v9, rfl, ⟨rfl, A9, rfl, h9⟩ | ⟨rfl, A9, rfl, h9⟩⟩
  · rfl
  · show (bif Nat.beq 1 1 then rcv (mK y) (vR A9 :: r9) h else decide (A9 < E0)) = true
    exact h9
  · show decide (A9 < E0) = true
    exact decide_eq_true h9
theorem rcv_S {h : AH} {r9 : List AV} (hR : Rep Z M h) (hL : LOC M A a (2, k, n, cs)) (hk : k.blt 13 = true) : rcv k (vR A :: r9) h = true := by
  have hg : gt h A = cO k (cs.zipIdx.map fun q => slv M A a q.2 q.1) := hR.1 _ _ _ hL
  show (match gt h A with
    | .inr (.inr (c, _)) => bif decide (A < h.1) then decide (c = k ∧ k < 13) else decide (E0 ≤ A ∧ c = 50 ∧ k = 16)
    | _ => false) = true
  rw [hg]
  show (bif decide (A < h.1) then decide (k = k ∧ k < 13) else decide (E0 ≤ A ∧ k = 50 ∧ k = 16)) = true
  rw [decide_eq_true (hR.lt hL)]
  exact decide_eq_true ⟨rfl, Nat.le_of_ble_eq_true hk⟩
/-- what may stand before a receiver -/
def RK (M : MM) (kd y : Nat) (vs : List AV) : Prop := kd = 0 ∨ (∃ A a n cs r9, vs = vR A :: r9 ∧ LOC M A a (2, mK y, n, cs) ∧ (mK y).blt 13 = true ∧ (kd = 1 ∨ kd = 2)) ∨ ∃ t r9, vs = vR (E0 + 2 + 2 * t) :: r9 ∧ t < 79 ∧ mK y = 16 ∧ kd = 1
theorem xcG_str {e t : Nat} (ht : t < 79) : xcG e Z (e + 2 + 2 * t) = cO 50 [vR (e + 3 + 2 * t), vI 0] := by
  have h9 : e + 2 + 2 * t - e = 2 * t + 2 := by omega
  unfold xcG
  rw [h9]
  show (if 2 * t / 2 < 79 then (if 2 * t % 2 = 0 then cO 50 [vR (e + 2 * t + 3), vI 0] else cA 2 (stN.getD (2 * t / 2) 0) (fun j => ((stB.getD (2 * t / 2) []).getD j 0).toInt)) else cO 60 []) = _
  rw [if_pos (by omega), if_pos (by omega), show e + 2 * t + 3 = e + 3 + 2 * t by omega]
theorem xcG_byt {e t : Nat} (ht : t < 79) : xcG e Z (e + 3 + 2 * t) = cA 2 (stN.getD t 0) (fun j => ((stB.getD t []).getD j 0).toInt) := by
  have h9 : e + 3 + 2 * t - e = (2 * t + 1) + 2 := by omega
  unfold xcG
  rw [h9]
  show (if (2 * t + 1) / 2 < 79 then (if (2 * t + 1) % 2 = 0 then cO 50 [vR (e + (2 * t + 1) + 3), vI 0] else cA 2 (stN.getD ((2 * t + 1) / 2) 0) (fun j => ((stB.getD ((2 * t + 1) / 2) []).getD j 0).toInt)) else cO 60 []) = _
  rw [show (2 * t + 1) / 2 = t by omega, if_pos ht, if_neg (by omega)]
theorem xc_str {t : Nat} (ht : t < 79) : xc Z (E0 + 2 + 2 * t) = cO 50 [vR (E0 + 3 + 2 * t), vI 0] := xcG_str ht
theorem xc_byt {t : Nat} (ht : t < 79) : xc Z (E0 + 3 + 2 * t) = cA 2 (stN.getD t 0) (fun j => ((stB.getD t []).getD j 0).toInt) := xcG_byt ht
theorem rcv_T {h : AH} {r9 : List AV} {t : Nat} (hR : Rep Z M h) (ht : t < 79) : rcv 16 (vR (E0 + 2 + 2 * t) :: r9) h = true := by
  have hE : E0 ≤ E0 + 2 + 2 * t := by omega
  have hg : gt h (E0 + 2 + 2 * t) = cO 50 [vR (E0 + 3 + 2 * t), vI 0] := (hR.2.2.2.2.2 _ hE).trans (xc_str ht)
  show (match gt h (E0 + 2 + 2 * t) with
    | .inr (.inr (c, _)) => bif decide (E0 + 2 + 2 * t < h.1) then decide (c = 16 ∧ 16 < 13) else decide (E0 ≤ E0 + 2 + 2 * t ∧ c = 50 ∧ 16 = 16)
    | _ => false) = true
  rw [hg]
  show (bif decide (E0 + 2 + 2 * t < h.1) then decide (50 = 16 ∧ 16 < 13) else decide (E0 ≤ E0 + 2 + 2 * t ∧ 50 = 50 ∧ 16 = 16)) = true
  rw [decide_eq_false (by have := hR.leE; omega)]
  exact decide_eq_true ⟨hE, rfl, rfl⟩
theorem rk1 {r9 : List AV} (hL : LOC M A a (2, mK y, n, cs)) (hb : (mK y).blt 13 = true) : RK M 1 y (vR A :: r9) := Or.inr (Or.inl ⟨A, a, n, cs, r9, rfl, hL, hb, Or.inl rfl⟩)
theorem rkT {r9 : List AV} {t : Nat} (ht : t < 79) (hy : mK y = 16) : RK M 1 y (vR (E0 + 2 + 2 * t) :: r9) := Or.inr (Or.inr ⟨t, r9, rfl, ht, hy, rfl⟩)
theorem RK.calO {h : AH} {vs st' : List AV} (hR : Rep Z M h) (hc : CO kd y vs st' = true) (hr : RK M kd y vs) : calO kd (mA y + (bif kd.beq 0 then 0 else 1)) y (vs.reverse ++ st') h = true := by
  refine calO_of hc ?_
  rcases hr with h0 | ⟨A, a, n, cs, r9, rfl, hL, hk, rfl | rfl⟩ | ⟨t, r9, rfl, ht, hy, rfl⟩
  · exact Or.inl h0
  · exact Or.inr ⟨r9, _, rfl, Or.inl ⟨rfl, A, rfl, rcv_S hR hL hk⟩⟩
  · exact Or.inr ⟨r9, _, rfl, Or.inr ⟨rfl, A, rfl, Nat.lt_trans (hR.lt hL) hR.leE⟩⟩
  · exact Or.inr ⟨r9, _, rfl, Or.inl ⟨rfl, _, rfl, by rw [hy]; exact rcv_T hR ht⟩⟩
theorem CO.take {vs st' : List AV} (hc : CO kd y vs st' = true) : (vs.reverse ++ st').take (mA y + (bif kd.beq 0 then 0 else 1)) = vs.reverse ∧ (vs.reverse ++ st').drop (mA y + (bif kd.beq 0 then 0 else 1)) = st' := by
  unfold CO at hc
  simp only [Bool.and_eq_true] at hc
  have c2 := bq hc.2.1
  rw [← c2, ← List.length_reverse]
  exact ⟨List.take_left, List.drop_left⟩
/-- a call that comes back -/
theorem ex_ret {vs st' : List AV} {rv : Option AV} {M1 : MM} (hd : CK m pc kd x) (hp : pl (mK m) x = (1, y, b, z)) (hc : CO kd y vs st' = true) (hr : ∀ h, Rep Z M h → calO kd (mA y + (bif kd.beq 0 then 0 else 1)) y (vs.reverse ++ st') h = true) (hE : EX Z d y 0 (ent y vs) [] M (.inl rv, M1)) (kk : EX Z (d + 1) m (pc + 3) ls (rv.toList ++ st') M1 res) : EX Z (d + 1) m pc ls (vs.reverse ++ st') M res := by
  have q1 : M 0 17 ≠ 0 → M1 0 17 = M 0 17 := hE.1
  refine ⟨fun h0 => (kk.1 (by rw [q1 h0]; exact h0)).trans (q1 h0), fun h hR => ?_⟩
  obtain ⟨n1, h1, e1, hR1⟩ := hE.2 h hR
  obtain ⟨n2, h2, e2, hR2⟩ := kk.2 h1 hR1
  refine ⟨max n1 n2 + 1, h2, ?_, hR2⟩
  rw [ex1_cal (vs := vs) hd hp]
  unfold cal
  rw [hp]
  obtain ⟨t1, t2⟩ := CO.take hc
  simp only [hr h hR, if_true, t1, t2, List.reverse_reverse]
  rw [exec_le (Nat.le_max_left n1 n2) e1]
  exact exec_le (Nat.le_max_right n1 n2) e2
/-- a call that throws, out of a method without handlers -/
theorem ex_out {vs st' : List AV} {ci : Nat} {M1 : MM} (hd : CK m pc kd x) (hp : pl (mK m) x = (1, y, b, z)) (hc : CO kd y vs st' = true) (hr : ∀ h, Rep Z M h → calO kd (mA y + (bif kd.beq 0 then 0 else 1)) y (vs.reverse ++ st') h = true) (hT : hT m = []) (hci : 13 ≤ ci ∧ ci < 18) (hE : EX Z d y 0 (ent y vs) [] M (.inr ci, M1)) : EX Z (d + 1) m pc ls (vs.reverse ++ st') M (.inr ci, M1) := by
  refine ⟨hE.1, fun h hR => ?_⟩
  obtain ⟨n1, h1, e1, hR1⟩ := hE.2 h hR
  refine ⟨n1 + 1, h1, ?_, hR1⟩
  rw [ex1_cal (vs := vs) hd hp]
  unfold cal
  rw [hp]
  obtain ⟨t1, t2⟩ := CO.take hc
  simp only [hr h hR, if_true, t1, t2, List.reverse_reverse]
  rw [e1]
  show thr (exec n1) (d + 1) m pc ls h1 ci = _
  unfold thr
  rw [if_pos hci, hT]
  rfl
/-- a call that throws, into a handler that stores and forgets -/
theorem ex_hnd {vs st' : List AV} {ci g k0 g2 : Nat} {M1 : MM} (hd : CK m pc kd x) (hp : pl (mK m) x = (1, y, b, z)) (hc : CO kd y vs st' = true) (hr : ∀ h, Rep Z M h → calO kd (mA y + (bif kd.beq 0 then 0 else 1)) y (vs.reverse ++ st') h = true) (hci : 13 ≤ ci ∧ ci < 18) (hh : hnd m pc ci (hT m) = some (some g)) (hg : (∃ j : Fin 4, j.val = k0 ∧ decode (mC m) g = .ok (.astore_n j, 1) ∧ g2 = g + 1) ∨ (decode (mC m) g = .ok (.astore k0, 2) ∧ g2 = g + 2)) (hk : k0 < ls.length) (hE : EX Z d y 0 (ent y vs) [] M (.inr ci, M1)) (kk : EX Z (d + 1) m g2 (st1 k0 vU ls) [] M1 res) : EX Z (d + 1) m pc ls (vs.reverse ++ st') M res := by
  have q1 : M 0 17 ≠ 0 → M1 0 17 = M 0 17 := hE.1
  refine ⟨fun h0 => (kk.1 (by rw [q1 h0]; exact h0)).trans (q1 h0), fun h hR => ?_⟩
  obtain ⟨n1, h1, e1, hR1⟩ := hE.2 h hR
  obtain ⟨n2, h2, e2, hR2⟩ := kk.2 h1 hR1
  refine ⟨max n1 n2 + 1, h2, ?_, hR2⟩
  rw [ex1_cal (vs := vs) hd hp]
  unfold cal
  rw [hp]
  obtain ⟨t1, t2⟩ := CO.take hc
  simp only [hr h hR, if_true, t1, t2, List.reverse_reverse]
  rw [exec_le (Nat.le_max_left n1 n2) e1]
  show thr (exec (max n1 n2)) (d + 1) m pc ls h1 ci = _
  unfold thr
  rw [if_pos hci, hh]
  dsimp only
  have e3 := exec_le (Nat.le_max_right n1 n2) e2
  rcases hg with ⟨j, rfl, hg, rfl⟩ | ⟨hg, rfl⟩
  · rw [hg]
    exact (if_pos hk).trans e3
  · rw [hg]
    exact (if_pos hk).trans e3
theorem tx_ok {c : Nat} {M1 : MM} (h : tx c M1 = some res) : (13 ≤ c ∧ c < 18) ∧ res = (.inr c, M1) := by
  unfold tx at h
  cases hb : decide (13 ≤ c) && decide (c < 18) with
  | false => rw [hb] at h; cases h
  | true =>
    rw [hb] at h
    cases h
    simp only [Bool.and_eq_true, decide_eq_true_eq] at hb
    exact ⟨hb, rfl⟩
theorem ex_cI {vs st' : List AV} {F : OR} {K : Int → MM → OR} (hd : CK m pc kd x) (hp : pl (mK m) x = (1, y, b, z)) (hc : CO kd y vs st' = true) (hr : RK M kd y vs) (hT : hT m = []) (hF : ∀ r, F = some r → EX Z d y 0 (ent y vs) [] M r) (hf : bI F K = some res) (kk : ∀ z1 M1, F = some (rI z1, M1) → K z1 M1 = some res → EX Z (d + 1) m (pc + 3) ls (vI z1 :: st') M1 res) : EX Z (d + 1) m pc ls (vs.reverse ++ st') M res := by
  unfold bI at hf
  split at hf
  · rename_i z1 M1
    exact ex_ret hd hp hc (fun _ hR => hr.calO hR hc) (hF _ rfl) (kk z1 M1 rfl hf)
  · rename_i c1 M1
    obtain ⟨hci, rfl⟩ := tx_ok hf
    exact ex_out hd hp hc (fun _ hR => hr.calO hR hc) hT hci (hF _ rfl)
  · cases hf
theorem ex_cJ {vs st' : List AV} {F : OR} {K : Int → MM → OR} (hd : CK m pc kd x) (hp : pl (mK m) x = (1, y, b, z)) (hc : CO kd y vs st' = true) (hr : RK M kd y vs) (hT : hT m = []) (hF : ∀ r, F = some r → EX Z d y 0 (ent y vs) [] M r) (hf : bJ F K = some res) (kk : ∀ z1 M1, F = some (rJ z1, M1) → K z1 M1 = some res → EX Z (d + 1) m (pc + 3) ls (vJ z1 :: st') M1 res) : EX Z (d + 1) m pc ls (vs.reverse ++ st') M res := by
  unfold bJ at hf
  split at hf
  · rename_i z1 M1
    exact ex_ret hd hp hc (fun _ hR => hr.calO hR hc) (hF _ rfl) (kk z1 M1 rfl hf)
  · rename_i c1 M1
    obtain ⟨hci, rfl⟩ := tx_ok hf
    exact ex_out hd hp hc (fun _ hR => hr.calO hR hc) hT hci (hF _ rfl)
  · cases hf
theorem ex_cV {vs st' : List AV} {F : OR} {K : MM → OR} (hd : CK m pc kd x) (hp : pl (mK m) x = (1, y, b, z)) (hc : CO kd y vs st' = true) (hr : RK M kd y vs) (hT : hT m = []) (hF : ∀ r, F = some r → EX Z d y 0 (ent y vs) [] M r) (hf : bV F K = some res) (kk : ∀ M1, F = some (rV, M1) → K M1 = some res → EX Z (d + 1) m (pc + 3) ls st' M1 res) : EX Z (d + 1) m pc ls (vs.reverse ++ st') M res := by
  unfold bV at hf
  split at hf
  · rename_i M1
    exact ex_ret hd hp hc (fun _ hR => hr.calO hR hc) (hF _ rfl) (kk M1 rfl hf)
  · rename_i c1 M1
    obtain ⟨hci, rfl⟩ := tx_ok hf
    exact ex_out hd hp hc (fun _ hR => hr.calO hR hc) hT hci (hF _ rfl)
  · cases hf
-- ends
theorem ex_ire {v : Int} (hd : decode (mC m) pc = .ok (.ireturn, 1)) (hb : retB (mR m) v = true) (hf : some (rI v, M) = some res) : EX Z d m pc ls [vI v] M res :=
  EX.end (rI v) (fun n h => (ex1_ctl hd rfl rfl rfl rfl).trans (if_pos hb)) hf
theorem ex_irb {v : Int} (hd : decode (mC m) pc = .ok (.ireturn, 1)) (hb : retB (mR m) v = zo v) (hf : (bif zo v then some (rI v, M) else none) = some res) : EX Z d m pc ls [vI v] M res :=
  ex_ire hd (hb.trans (gd hf).1) (gd hf).2
theorem ex_jre {v : Int} (hd : decode (mC m) pc = .ok (.lreturn, 1)) (hb : mR m = some .long) (hf : some (rJ v, M) = some res) : EX Z d m pc ls [vJ v] M res :=
  EX.end (rJ v) (fun n h => (ex1_ctl hd rfl rfl rfl rfl).trans (if_pos hb)) hf
theorem ex_vre (hd : decode (mC m) pc = .ok (.return_, 1)) (hb : mR m = none) (hf : some (rV, M) = some res) : EX Z d m pc ls [] M res :=
  EX.end rV (fun n h => (ex1_ctl hd rfl rfl rfl rfl).trans (if_pos hb)) hf
theorem ex_oin (hd : decode (mC m) pc = .ok (.invokespecial x, 3)) (hp : pl (mK m) x = (8, a, b, z)) (hA : ∀ h, Rep Z M h → A < h.1) (hs : ((st.map ct).sum).ble 8 = true) (kk : EX Z d m (pc + 3) ls st M res) : EX Z d m pc ls (vR A :: st) M res := by
  refine EX.same (fun _ h hR => ex1_hp (h' := h) (st' := st) hd rfl rfl rfl ?_) kk
  show (match pl (mK m) x, (vR A :: st) with
    | (8, _, _, _), .inr (.inr (.inl (some a))) :: r => if (r.map ct).sum ≤ 8 ∧ a < h.1 then some (r, h) else none
    | _, _ => none) = _
  rw [hp]
  exact if_pos ⟨Nat.le_of_ble_eq_true hs, hA h hR⟩
theorem Rep.exc {h : AH} {ci : Nat} (hR : Rep Z M h) (h0 : M 999 0 < 100000) : Rep Z (mU M 999 0 (M 999 0 + 1)) (al h 6 (cO ci [])) := by
  have hR0 := hR
  obtain ⟨r1, r2, r3, r4, r5, r6⟩ := hR
  have h17 : mU M 999 0 (M 999 0 + 1) 0 17 = M 0 17 := rfl
  have e9 : mU M 999 0 (M 999 0 + 1) 999 0 = M 999 0 + 1 := rfl
  have e8 : (M 999 0 + 1).toNat = (M 999 0).toNat + 1 := by omega
  refine ⟨fun A2 a2 s2 h2 => ?_, by rw [e9]; omega, ?_, ?_, fun h9 => ?_, fun b hb => ?_⟩
  · have h2' := (LOC_congr h17).mp h2
    have hlt := hR0.lt h2'
    show (if A2 = h.1 then cO ci [] else gt h A2) = _
    rw [if_neg (by omega), r1 A2 a2 s2 h2']
    exact (celS_congr (mU_ne h2'.n999)).symm
  · rw [e9, e8, h17]
    show h.1 + 1 = _
    rw [r3]
    omega
  · rw [e9, e8, h17]
    show h.2.1 + 6 = _
    rw [r4]
    omega
  · have := r5 h9
    show 182 ≤ (M 0 17).toNat ∧ (M 0 17).toNat + 5 ≤ h.1 + 1
    omega
  · have := hR0.leE
    show (if b = h.1 then cO ci [] else gt h b) = _
    rw [if_neg (by omega)]
    exact r6 b hb
/-- throw new X(text) -/
theorem ex_thr {ci is ic ln : Nat} (hd : decode (mC m) pc = .ok (.new x, 3)) (hp : pl (mK m) x = (3, a, b, z)) (he : exN m pc x st = some (ci, is, ic, ln)) (hd9 : decode (mC m) (pc + ln) = .ok (.athrow, 1)) (hT : hT m = []) (hci : 13 ≤ ci ∧ ci < 18) (hf : thx ci M = some res) : EX Z d m pc ls st M res := by
  unfold thx at hf
  split at hf
  · rename_i h0
    cases hf
    refine ⟨fun _ => rfl, fun h hR => ⟨2, al h 6 (cO ci []), ?_, hR.exc h0.2⟩⟩
    have e1 : exec 2 d m pc ls st h = exec 1 d m (pc + ln) ls (vR h.1 :: st) (al h 6 (cO ci [])) := by
      refine (ex1_ctl hd rfl rfl rfl ?_).trans ?_
      · show (match pl (mK m) x with
          | (2, c, _, _) => if c < 13 then some (vR h.1 :: st, al h (cNf.getD c 0) (.inr (.inr (c, fs0 c)))) else none
          | _ => none) = _
        rw [hp]
        rfl
      · show (match exN m pc x st with
          | some (ci, _, _, ln) => exec 1 d m (pc + ln) ls (vR h.1 :: st) (al h 6 (.inr (.inr (ci, []))))
          | none => none) = _
        rw [he]
        rfl
    rw [e1]
    have hg : gt (al h 6 (cO ci [])) h.1 = cO ci [] := if_pos rfl
    have e2 : exec 1 d m (pc + ln) ls (vR h.1 :: st) (al h 6 (cO ci [])) = thr (exec 0) d m (pc + ln) ls (al h 6 (cO ci [])) ci := by
      rw [ex1_ctl (n := 0) hd9 rfl rfl rfl rfl]
      unfold ctl vR
      dsimp only
      rw [hg]
      unfold cO
      dsimp only
      exact if_pos (Nat.lt_succ_self _)
    rw [e2]
    unfold thr
    rw [if_pos hci, hT]
    rfl
  · cases hf
theorem exF_of {ci is ic ln a6 b6 b11 : Nat} {z6 z11 : Int} (hs : ((st.map ct).sum).ble 8 = true) (h6 : pl (mK m) is = (6, a6, b6, z6)) (h11 : pl (mK m) ic = (11, ci, b11, z11)) : exF m pc ci is ic ln st = some (ci, is, ic, ln) := by
  unfold exF
  rw [if_pos (Nat.le_of_ble_eq_true hs), h6, h11]
  exact if_pos rfl
theorem exN_of {ci is ic b3 a6 b6 b11 : Nat} {z3 z6 z11 : Int} (hp : pl (mK m) x = (3, ci, b3, z3)) (d3 : decode (mC m) (pc + 3) = .ok (.dup, 1)) (d4 : decode (mC m) (pc + 4) = .ok (.ldc is, 2)) (d6 : decode (mC m) (pc + 6) = .ok (.invokespecial ic, 3)) (hs : ((st.map ct).sum).ble 8 = true) (h6 : pl (mK m) is = (6, a6, b6, z6)) (h11 : pl (mK m) ic = (11, ci, b11, z11)) : exN m pc x st = some (ci, is, ic, 9) := by
  unfold exN
  simp only [hp, d3, d4, d6]
  exact exF_of hs h6 h11
theorem exN_ofW {ci is ic b3 a6 b6 b11 : Nat} {z3 z6 z11 : Int} (hp : pl (mK m) x = (3, ci, b3, z3)) (d3 : decode (mC m) (pc + 3) = .ok (.dup, 1)) (d4 : decode (mC m) (pc + 4) = .ok (.ldc_w is, 3)) (d6 : decode (mC m) (pc + 7) = .ok (.invokespecial ic, 3)) (hs : ((st.map ct).sum).ble 8 = true) (h6 : pl (mK m) is = (6, a6, b6, z6)) (h11 : pl (mK m) ic = (11, ci, b11, z11)) : exN m pc x st = some (ci, is, ic, 10) := by
  unfold exN
  simp only [hp, d3, d4, d6]
  exact exF_of hs h6 h11
end CalRows
