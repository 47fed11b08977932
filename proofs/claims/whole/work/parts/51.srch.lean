/-! ===== THE SEARCH, MADE WHEN IT IS ASKED FOR ===== -/
def srchI (M : MM) : MM := fun a => if a = 0 then up (M 0) 17 (182 + M 999 0) else if a = 1000 then (fun k => if k = 5 then -1 else 0) else if a = 1001 ∨ a = 1002 ∨ a = 1003 ∨ a = 1004 then (fun _ => 0) else M a
def srchN (M : MM) : MM := if M 0 17 = 0 then srchI M else M
def gh_searchFromNow (M : MM) : OR := if 0 < (srchN M) 0 17 then bV (srch_run ((srchN M) 0 17).toNat ((srchN M) 0 18) (srchN M)) (fun M1 => some (.inl (some (vR (M1 0 17).toNat)), M1)) else none
theorem srchI_17 (M : MM) : srchI M 0 17 = 182 + M 999 0 := rfl
theorem EX.xh {Z : Nat × (Nat → Int)} {d m pc : Nat} {ls st : List AV} {M : MM} {res : AR × MM} (h0 : M 0 17 ≠ 0 → res.2 0 17 = M 0 17) (k : ∀ h, Rep Z M h → XH d m pc ls st h (fun r h' => r = res.1 ∧ Rep Z res.2 h')) : EX Z d m pc ls st M res := by
  refine ⟨h0, fun h hR => ?_⟩
  obtain ⟨n, r, h', e, rfl, hR'⟩ := k h hR
  exact ⟨n, h', e, hR'⟩
theorem EX.toXH {Z : Nat × (Nat → Int)} {d m pc : Nat} {ls st : List AV} {M : MM} {res : AR × MM} {h : AH} (k : EX Z d m pc ls st M res) (hR : Rep Z M h) : XH d m pc ls st h (fun r h' => r = res.1 ∧ Rep Z res.2 h') := by
  obtain ⟨n, h', e, hR'⟩ := k.2 h hR
  exact ⟨n, _, h', e, rfl, hR'⟩
theorem LOC.le {M : MM} {A a : Nat} {s : SH} (h0 : M 0 17 = 0) (h : LOC M A a s) : A = a ∧ a < 182 ∧ shp a = s := by
  rcases h with h | ⟨j, -, h1, -⟩
  · exact h
  · exact absurd h0 h1
/-- the heap with the search in it -/
theorem Rep.srch {Z : Nat × (Nat → Int)} {M : MM} {h h1 : AH} (hR : Rep Z M h) (h0 : M 0 17 = 0) (e1 : h1.1 = h.1 + 5) (e2 : h1.2.1 = h.2.1 + SLS)
    (g0 : gt h1 0 = cO 11 [vR 1, vR 3, vR 17, vR 23, vR 29, vR 43, vR 49, vR 55, vR 69, vR 75, vI (M 0 10), vR 81, vR 82, vR 83, vR 157, vR 158, vR 161, vR h.1, vI (M 0 18)]) (g1 : gt h1 h.1 = cO 6 [vR 3, vR 23, vR 157, vI 0, vI 0, vI (-1), vR (h.1 + 1), vR (h.1 + 2), vR (h.1 + 3), vR (h.1 + 4), vI 0, vI 0, vI 0, vI 0])
    (g2 : gt h1 (h.1 + 1) = cA 1 6000 (fun _ => 0)) (g3 : gt h1 (h.1 + 2) = cA 0 16384 (fun _ => 0)) (g4 : gt h1 (h.1 + 3) = cA 0 17 (fun _ => 0)) (g5 : gt h1 (h.1 + 4) = cA 0 10 (fun _ => 0))
    (hf : ∀ B, B ≠ 0 → (B < h.1 ∨ h.1 + 5 ≤ B) → gt h1 B = gt h B) : Rep Z (srchI M) h1 := by
  have hR0 := hR
  have hle := hR.le
  obtain ⟨r1, r2, r3, r4, r5, r6⟩ := hR
  rw [if_pos h0] at r3 r4
  have q0 : srchI M 999 0 = M 999 0 := rfl
  have q1 : srchI M 0 17 = 182 + M 999 0 := rfl
  have q2 : srchI M 0 17 ≠ 0 := by rw [q1]; omega
  have q3 : (srchI M 0 17).toNat = h.1 := by rw [q1]; omega
  refine ⟨fun A a s hL => ?_, by rw [q0]; exact r2, ?_, ?_, fun _ => by rw [q3]; omega, fun b hb => ?_⟩
  · rcases hL with ⟨rfl, p1, p2⟩ | ⟨j, hj, -, rfl, rfl, p2⟩
    · by_cases hA : A = 0
      · subst hA
        rw [g0, ← p2, ← q3]
        show _ = celS (srchI M) 0 0 (2, 11, 19, [(4, 1), (4, 3), (4, 17), (4, 23), (4, 29), (4, 43), (4, 49), (4, 55), (4, 69), (4, 75), (0, 0), (4, 81), (4, 82), (4, 83), (4, 157), (4, 158), (4, 161), (2, 0), (0, 0)])
        show cO 11 [vR 1, vR 3, vR 17, vR 23, vR 29, vR 43, vR 49, vR 55, vR 69, vR 75, vI (srchI M 0 10), vR 81, vR 82, vR 83, vR 157, vR 158, vR 161, vR (srchI M 0 17).toNat, vI (srchI M 0 18)] = cO 11 [vR 1, vR 3, vR 17, vR 23, vR 29, vR 43, vR 49, vR 55, vR 69, vR 75, vI (srchI M 0 10), vR 81, vR 82, vR 83, vR 157, vR 158, vR 161, (if srchI M 0 17 = 0 then vN else vR (srchI M 0 17).toNat), vI (srchI M 0 18)]
        rw [if_neg q2]
      · rw [hf A hA (Or.inl (by omega)), r1 A A s (LOC.st p1 p2)]
        refine (celS_congr ?_).symm
        show (if A = 0 then _ else if A = 1000 then _ else if A = 1001 ∨ A = 1002 ∨ A = 1003 ∨ A = 1004 then _ else M A) = M A
        rw [if_neg hA, if_neg (by omega), if_neg (by omega)]
    · rw [q3]
      match j, hj, p2 with
      | 0, _, p2 => cases p2; exact g1
      | 1, _, p2 => cases p2; exact g2
      | 2, _, p2 => cases p2; exact g3
      | 3, _, p2 => cases p2; exact g4
      | 4, _, p2 => cases p2; exact g5
      | j + 5, h9, _ => exact absurd h9 (by omega)
  · rw [e1, q0, if_neg q2]
    omega
  · rw [e2, q0, if_neg q2]
    omega
  · have : 182 + 100000 + 5 + 5 < E0 := by decide
    rw [hf b (by omega) (Or.inr (by omega))]
    exact r6 b hb
def il138 : List (Nat × Instr × Nat) := [(0, .aload_n 0, 1), (1, .getfield 111, 3), (4, .ifnonnull 26, 3), (7, .aload_n 0, 1), (8, .new 385, 3), (11, .dup, 1), (12, .aload_n 0, 1), (13, .getfield 19, 3), (16, .aload_n 0, 1), (17, .getfield 33, 3), (20, .aload_n 0, 1), (21, .getfield 89, 3), (24, .invokespecial 406, 3), (27, .putfield 111, 3), (30, .aload_n 0, 1), (31, .getfield 111, 3), (34, .aload_n 0, 1), (35, .getfield 115, 3), (38, .invokevirtual 409, 3), (41, .aload_n 0, 1), (42, .getfield 111, 3), (45, .areturn, 1)]
theorem dc138 : dcs (mC 138) il138 := dc_of (by decide +kernel)
theorem ex_are {Z : Nat × (Nat → Int)} {d m pc A : Nat} {ls : List AV} {M : MM} {res : AR × MM} {nm : String} (hd : decode (mC m) pc = .ok (.areturn, 1)) (hb : mR m = some (.object nm)) (hf : some (.inl (some (vR A)), M) = some res) : EX Z d m pc ls [vR A] M res := by
  refine EX.end (.inl (some (vR A))) (fun n h => (ex1_ctl hd rfl rfl rfl rfl).trans ?_) hf
  show (match ([vR A] : List AV), mR m with
    | [Sum.inr (Sum.inr (Sum.inl (some a)))], some (.object _) => (some (Sum.inl (some (Sum.inr (Sum.inr (Sum.inl (some a))))), h) : Option (AR × AH))
    | _, _ => none) = _
  rw [hb]
  rfl
theorem srchN_nat {M : MM} (h : 0 < M 0 17) : M 0 17 = (((M 0 17).toNat : Nat) : Int) ∧ (M 0 17).toNat ≠ 0 := by omega
theorem sfn30 {Z : Nat × (Nat → Int)} {d : Nat} (hd : 5 + 1 ≤ d) {M : MM} (h0 : 0 < M 0 17) {res : AR × MM} (hf : bV (srch_run (M 0 17).toNat (M 0 18) M) (fun M1 => some (.inl (some (vR (M1 0 17).toNat)), M1)) = some res) : EX Z d 138 30 [vR 0] [] M res := by
  obtain ⟨e9, rfl⟩ : ∃ e9, d = e9 + 1 := ⟨d - 1, by omega⟩
  obtain ⟨hq, h9⟩ := srchN_nat h0
  have e1 : slv M 0 0 17 (2, 0) = vR (M 0 17).toNat := if_neg (by omega)
  refine ex_pu (ls' := [vR 0]) (st' := [vR 0]) (dg dc138 14 rfl) rfl rfl ?_
  refine ex_get (s := (2, 0)) (dg dc138 15 rfl) rfl (LOC.st (Nat.le_of_ble_eq_true rfl) rfl) rfl ?_
  rw [e1]
  refine ex_pu (ls' := [vR 0]) (st' := [vR 0, vR (M 0 17).toNat]) (dg dc138 16 rfl) rfl rfl ?_
  refine ex_getI (dg dc138 17 rfl) rfl (LOC.st (Nat.le_of_ble_eq_true rfl) rfl) rfl ?_
  refine ex_cV (vs := [vR (M 0 17).toNat, vI (M 0 18)]) (st' := []) (F := srch_run (M 0 17).toNat (M 0 18) M) (Or.inr (Or.inl ⟨rfl, (dg dc138 18 rfl)⟩)) rfl rfl (rk1 (LOC.sr (j := 0) hq h9 (by decide) rfl) rfl) rfl (fun _ r9 => srch_run_ok (by omega) hq h9 r9) hf (fun M1 he hf => ?_)
  have e2 : M1 0 17 = M 0 17 := (srch_run_ok (Z := Z) (d := e9) (by omega) hq h9 he).1 (by omega)
  have e3 : slv M1 0 0 17 (2, 0) = vR (M1 0 17).toNat := if_neg (by omega)
  refine ex_pu (ls' := [vR 0]) (st' := [vR 0]) (dg dc138 19 rfl) rfl rfl ?_
  refine ex_get (s := (2, 0)) (dg dc138 20 rfl) rfl (LOC.st (Nat.le_of_ble_eq_true rfl) rfl) rfl ?_
  rw [e3]
  exact ex_are (dg dc138 21 rfl) rfl hf
theorem srch_q {M M1 : MM} {q : Nat} (h : gh_searchFromNow M = some (.inl (some (vR q)), M1)) : M1 0 17 = (q : Int) ∧ q ≠ 0 := by
  unfold gh_searchFromNow at h
  split at h
  · rename_i h0
    obtain ⟨hq, h9⟩ := srchN_nat h0
    unfold bV at h
    split at h
    · rename_i M2 he
      have e2 : M2 0 17 = srchN M 0 17 := (srch_run_ok (Z := (0, fun _ => 0)) (d := 5) (Nat.le_refl _) hq h9 he).1 (by omega)
      cases h
      omega
    · rename_i c2 M2 he
      obtain ⟨-, h8⟩ := tx_ok h
      cases h8
    · cases h
  · cases h
set_option maxRecDepth 4000 in
theorem gh_searchFromNow_ok {Z : Nat × (Nat → Int)} {d : Nat} (hd : 5 + 1 ≤ d) {M : MM} {res : AR × MM} (hf : gh_searchFromNow M = some res) : EX Z d 138 0 (ent 138 [vR 0]) [] M res := by
  unfold gh_searchFromNow at hf
  split at hf
  · rename_i h0
    show EX Z d 138 0 [vR 0] [] M res
    by_cases hM : M 0 17 = 0
    · have eN : srchN M = srchI M := if_pos hM
      rw [eN] at hf h0
      have k30 := sfn30 (Z := Z) hd h0 hf
      obtain ⟨e9, rfl⟩ : ∃ e9, d = e9 + 1 := ⟨d - 1, by omega⟩
      refine EX.xh (fun h => absurd hM h) (fun h hR => ?_)
      have hlt : 182 ≤ h.1 := by have := hR.2.2.1; omega
      have hle := hR.le
      have g0 : gt h 0 = cO 11 [vR 1, vR 3, vR 17, vR 23, vR 29, vR 43, vR 49, vR 55, vR 69, vR 75, vI (M 0 10), vR 81, vR 82, vR 83, vR 157, vR 158, vR 161, vN, vI (M 0 18)] := by
        have g9 := hR.1 0 0 _ (LOC.st (Nat.le_of_ble_eq_true rfl) rfl)
        rw [g9]
        show cO 11 [vR 1, vR 3, vR 17, vR 23, vR 29, vR 43, vR 49, vR 55, vR 69, vR 75, vI (M 0 10), vR 81, vR 82, vR 83, vR 157, vR 158, vR 161, (if M 0 17 = 0 then vN else vR (M 0 17).toNat), vI (M 0 18)] = _
        rw [if_pos hM]
      refine xh_pu (ls' := [vR 0]) (st' := [vR 0]) (dg dc138 0 rfl) rfl rfl ?_
      refine xh_get (v := vN) (dg dc138 1 rfl) rfl (by omega) g0 rfl ?_
      refine XH.go (fun _ => ex1_br (pc' := 7) (st' := []) (dg dc138 2 rfl) rfl rfl rfl rfl) ?_
      refine xh_pu (ls' := [vR 0]) (st' := [vR 0]) (dg dc138 3 rfl) rfl rfl ?_
      refine xh_new (dg dc138 4 rfl) rfl rfl (fun h_1 e_1 => ?_)
      obtain ⟨x1, x2, x3, x4⟩ := e_1
      have g1 : gt h_1 0 = cO 11 [vR 1, vR 3, vR 17, vR 23, vR 29, vR 43, vR 49, vR 55, vR 69, vR 75, vI (M 0 10), vR 81, vR 82, vR 83, vR 157, vR 158, vR 161, vN, vI (M 0 18)] := (x4 0 (by omega)).trans g0
      refine xh_pu (ls' := [vR 0]) (st' := [vR h.1, vR h.1, vR 0]) (dg dc138 5 rfl) rfl rfl ?_
      refine xh_pu (ls' := [vR 0]) (st' := [vR 0, vR h.1, vR h.1, vR 0]) (dg dc138 6 rfl) rfl rfl ?_
      refine xh_get (v := vR 3) (dg dc138 7 rfl) rfl (by omega) g1 rfl ?_
      refine xh_pu (ls' := [vR 0]) (st' := [vR 0, vR 3, vR h.1, vR h.1, vR 0]) (dg dc138 8 rfl) rfl rfl ?_
      refine xh_get (v := vR 23) (dg dc138 9 rfl) rfl (by omega) g1 rfl ?_
      refine xh_pu (ls' := [vR 0]) (st' := [vR 0, vR 23, vR 3, vR h.1, vR h.1, vR 0]) (dg dc138 10 rfl) rfl rfl ?_
      refine xh_get (v := vR 157) (dg dc138 11 rfl) rfl (by omega) g1 rfl ?_
      have hE9 : 182 + 100000 + 5 < E0 := by decide
      refine xh_call (vs := [vR h.1, vR 3, vR 23, vR 157]) (st' := [vR h.1, vR 0]) (Or.inr (Or.inr ⟨rfl, dg dc138 12 rfl⟩)) rfl rfl (calO_I rfl (by omega)) (ctor51 (p1 := 3) (p2 := 23) (p3 := 157) (by omega) x3) (fun r h_2 hp => ?_)
      obtain ⟨rfl, y1, y2, y3, y4, y5, y6, y7, y8⟩ := hp
      refine ⟨none, rfl, ?_⟩
      have g2 : gt h_2 0 = cO 11 [vR 1, vR 3, vR 17, vR 23, vR 29, vR 43, vR 49, vR 55, vR 69, vR 75, vI (M 0 10), vR 81, vR 82, vR 83, vR 157, vR 158, vR 161, vN, vI (M 0 18)] := (y8 0 (by omega) (Or.inl (by omega))).trans g1
      refine xh_put (fs := [vR 1, vR 3, vR 17, vR 23, vR 29, vR 43, vR 49, vR 55, vR 69, vR 75, vI (M 0 10), vR 81, vR 82, vR 83, vR 157, vR 158, vR 161, vN, vI (M 0 18)]) (dg dc138 13 rfl) rfl (by omega) g2 rfl rfl (fun h_3 e_3 => ?_)
      obtain ⟨z1, z2, z3, z4⟩ := e_3
      have hn2 : h_2.1 = h.1 + 5 := by omega
      rw [x1] at y4 y5 y6 y7 y8
      refine k30.toXH (hR.srch hM (by omega) ?_ z3 ?_ ((z4 _ (by omega)).trans y4) ((z4 _ (by omega)).trans y5) ((z4 _ (by omega)).trans y6) ((z4 _ (by omega)).trans y7) (fun B b1 b2 => ?_))
      · rw [z2, y2, x2]
        rfl
      · rw [z4 _ (by omega), y3, x1]
      · rw [z4 B b1, y8 B (by omega) (by omega), x4 B (by omega)]
    · have eN : srchN M = M := if_neg hM
      rw [eN] at hf h0
      have e1 : slv M 0 0 17 (2, 0) = vR (M 0 17).toNat := if_neg hM
      refine ex_pu (ls' := [vR 0]) (st' := [vR 0]) (dg dc138 0 rfl) rfl rfl ?_
      refine ex_get (s := (2, 0)) (dg dc138 1 rfl) rfl (LOC.st (Nat.le_of_ble_eq_true rfl) rfl) rfl ?_
      rw [e1]
      refine EX.go (M' := M) (pc' := 30) (ls' := [vR 0]) (st' := []) (fun _ => rfl) (fun h hR => ⟨h, hR, fun n => ?_⟩) (sfn30 hd h0 hf)
      have hA : (M 0 17).toNat < E0 := by
        have h1 := (hR.2.2.2.2.1 hM).2
        have h2 := hR.leE
        omega
      refine ex1_br (pc' := 30) (st' := []) (dg dc138 2 rfl) rfl rfl ?_ (decide_eq_true hA)
      rfl
  · cases hf
