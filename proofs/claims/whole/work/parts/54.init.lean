/-! ===== THE BEGINNING: the law's objects are made ===== -/
/-- the memory at the beginning -/
def M0 : MM := fun a => if a = 23 ∨ a = 49 ∨ a = 75 ∨ (85 ≤ a ∧ a < 157 ∧ (a - 85) % 6 = 0) then (fun k => if k = 2 then -1 else 0) else if a = 24 ∨ a = 50 ∨ a = 76 ∨ (85 ≤ a ∧ a < 157 ∧ (a - 85) % 6 = 1) then (fun j => if j < 10 then -1 else 0) else if a = 17 ∨ a = 43 ∨ a = 69 then (fun k => if k = 0 then -1 else 0) else if a = 1 then (fun k => if k = 2 then -1 else 0) else if a = 161 then (fun k => if k = 5 then 1000000000 else 0) else if a = 166 then (fun k => if k = 8 then -1 else 0) else if a = 165 then (fun k => if k = 13 then -1 else 0) else fun _ => 0
/-- the cells from 1 on stand, up to k -/
def PRE (Z : Nat × (Nat → Int)) (k sl : Nat) (h : AH) : Prop := h.1 = k ∧ h.2.1 = sl ∧ (∀ a, 1 ≤ a → a < k → gt h a = celS M0 a a (shp a)) ∧ ∀ a, E0 ≤ a → gt h a = xc Z a
theorem PRE.ext {Z : Nat × (Nat → Int)} {k sl m s2 : Nat} {h h1 : AH} (hp : PRE Z k sl h) (hE : k + m < E0) (e1 : h1.1 = k + m) (e2 : h1.2.1 = sl + s2) (hf : ∀ B, B ≠ 0 → (B < k ∨ k + m ≤ B) → gt h1 B = gt h B) (hn : ∀ j, j < m → gt h1 (k + j) = celS M0 (k + j) (k + j) (shp (k + j))) : PRE Z (k + m) (sl + s2) h1 := by
  obtain ⟨p1, p2, p3, p4⟩ := hp
  refine ⟨e1, e2, fun a h1 h2 => ?_, fun a ha => ?_⟩
  · by_cases h3 : a < k
    · rw [hf a (by omega) (Or.inl h3)]
      exact p3 a h1 h3
    · obtain ⟨j, rfl⟩ : ∃ j, a = k + j := ⟨a - k, by omega⟩
      exact hn j (by omega)
  · rw [hf a (by omega) (Or.inr (by omega))]
    exact p4 a ha
/-- a journey that is new, at A -/
def JC (h : AH) (A : Nat) : Prop := gt h A = cO 0 [vI 0, vI 0, vI (-1), vI 0, vI 0, vI 0, vI 0, vI 0, vI 0, vR (A + 1), vR (A + 2), vR (A + 3), vR (A + 4), vR (A + 5)] ∧ gt h (A + 1) = cA 0 10 (fun j => if j < 10 then (-1) else 0) ∧ gt h (A + 2) = cA 0 7 (fun _ => 0) ∧ gt h (A + 3) = cA 0 10 (fun _ => 0) ∧ gt h (A + 4) = cA 0 10 (fun _ => 0) ∧ gt h (A + 5) = cA 0 10 (fun _ => 0)
theorem JC.at {h : AH} {A : Nat} (hj : JC h A) (hA : A = 23 ∨ A = 49 ∨ A = 75 ∨ ∃ i, i < 12 ∧ A = 85 + 6 * i) : ∀ j, j < 6 → gt h (A + j) = celS M0 (A + j) (A + j) (shp (A + j)) := by
  obtain ⟨q0, q1, q2, q3, q4, q5⟩ := hj
  rcases hA with rfl | rfl | rfl | ⟨i9, h9, rfl⟩
  · exact fun j hj => match j, hj with
      | 0, _ => q0
      | 1, _ => q1
      | 2, _ => q2
      | 3, _ => q3
      | 4, _ => q4
      | 5, _ => q5
      | j + 6, h => absurd h (by omega)
  · exact fun j hj => match j, hj with
      | 0, _ => q0
      | 1, _ => q1
      | 2, _ => q2
      | 3, _ => q3
      | 4, _ => q4
      | 5, _ => q5
      | j + 6, h => absurd h (by omega)
  · exact fun j hj => match j, hj with
      | 0, _ => q0
      | 1, _ => q1
      | 2, _ => q2
      | 3, _ => q3
      | 4, _ => q4
      | 5, _ => q5
      | j + 6, h => absurd h (by omega)
  · have h8 : i9 = 0 ∨ i9 = 1 ∨ i9 = 2 ∨ i9 = 3 ∨ i9 = 4 ∨ i9 = 5 ∨ i9 = 6 ∨ i9 = 7 ∨ i9 = 8 ∨ i9 = 9 ∨ i9 = 10 ∨ i9 = 11 := by omega
    rcases h8 with rfl | rfl | rfl | rfl | rfl | rfl | rfl | rfl | rfl | rfl | rfl | rfl <;> exact fun j hj => match j, hj with
      | 0, _ => q0
      | 1, _ => q1
      | 2, _ => q2
      | 3, _ => q3
      | 4, _ => q4
      | 5, _ => q5
      | j + 6, h => absurd h (by omega)
theorem ctorJ {d : Nat} {h : AH} {b : Nat} (hb : b + 1 = h.1) (hg : gt h b = cO 0 (fs0 0)) : XH (d + 1) 0 0 (ent 0 [vR b]) [] h (fun r h1 => r = rV ∧ h1.1 = h.1 + 5 ∧ h1.2.1 = h.2.1 + 47 ∧ JC h1 b ∧ ∀ B, (B < b ∨ h.1 + 5 ≤ B) → gt h1 B = gt h B) := by
  refine (ctor0 (d := d) (b := b) (by omega) hg).imp (fun r h1 hp => ?_)
  obtain ⟨rfl, y1, y2, y3, y4, y5, y6, y7, y8, y9⟩ := hp
  refine ⟨rfl, y1, y2, ?_, fun B hB => y9 B (by omega) (by omega)⟩
  rw [← hb] at y3 y4 y5 y6 y7 y8
  exact ⟨y3, y4, y5, y6, y7, y8⟩
def il37 : List (Nat × Instr × Nat) := [(0, .aload_n 0, 1), (1, .invokespecial 1, 3), (4, .aload_n 0, 1), (5, .iconst 0, 1), (6, .putfield 7, 3), (9, .aload_n 0, 1), (10, .iconst 0, 1), (11, .putfield 13, 3), (14, .aload_n 0, 1), (15, .bipush 12, 2), (17, .anewarray 16, 3), (20, .putfield 18, 3), (23, .iconst 0, 1), (24, .istore_n 1, 1), (25, .iload_n 1, 1), (26, .bipush 12, 2), (28, .if_icmp .ge 22, 3), (31, .aload_n 0, 1), (32, .getfield 18, 3), (35, .iload_n 1, 1), (36, .new 16, 3), (39, .dup, 1), (40, .invokespecial 22, 3), (43, .aastore, 1), (44, .iinc 1 1, 3), (47, .goto (-22), 3), (50, .return_, 1)]
theorem dc37 : dcs (mC 37) il37 := dc_of (by decide +kernel)
set_option maxRecDepth 4000 in
theorem ctor37 {d : Nat} {h : AH} {b : Nat} (hb : b + 1 = h.1) (hE : b + 100 < E0) (hg : gt h b = cO 4 (fs0 4)) : XH (d + 2) 37 0 (ent 37 [vR b]) [] h (fun r h1 => r = rV ∧ h1.1 = h.1 + 73 ∧ h1.2.1 = h.2.1 + 744 ∧ gt h1 b = cO 4 [vI 0, vI 0, vR (b + 1)] ∧ gt h1 (b + 1) = cQ 12 (fun j => if j < 12 then some (b + 2 + 6 * j) else none) ∧ (∀ i, i < 12 → JC h1 (b + 2 + 6 * i)) ∧ ∀ B, (B < b ∨ h.1 + 73 ≤ B) → gt h1 B = gt h B) := by
  show XH (d + 2) 37 0 [vR b, vU] [] h _
  refine xh_pu (ls' := [vR b, vU]) (st' := [vR b]) (dg dc37 0 rfl) rfl rfl ?_
  refine xh_oin (dg dc37 1 rfl) rfl (by omega) rfl ?_
  refine xh_pu (ls' := [vR b, vU]) (st' := [vR b]) (dg dc37 2 rfl) rfl rfl ?_
  refine xh_pu (ls' := [vR b, vU]) (st' := [vI 0, vR b]) (dg dc37 3 rfl) rfl rfl ?_
  refine xh_put (dg dc37 4 rfl) rfl (by omega) hg rfl rfl (fun h_1 e_1 => ?_)
  obtain ⟨a1, a2, a3, a4⟩ := e_1
  refine xh_pu (ls' := [vR b, vU]) (st' := [vR b]) (dg dc37 5 rfl) rfl rfl ?_
  refine xh_pu (ls' := [vR b, vU]) (st' := [vI 0, vR b]) (dg dc37 6 rfl) rfl rfl ?_
  refine xh_put (dg dc37 7 rfl) rfl (by omega) a3 rfl rfl (fun h_2 e_2 => ?_)
  obtain ⟨b1, b2, b3, b4⟩ := e_2
  refine xh_pu (ls' := [vR b, vU]) (st' := [vR b]) (dg dc37 8 rfl) rfl rfl ?_
  refine xh_pu (ls' := [vR b, vU]) (st' := [vI 12, vR b]) (dg dc37 9 rfl) rfl rfl ?_
  refine xh_newq (n9 := 12) (dg dc37 10 rfl) rfl rfl (fun h_3 e_3 => ?_)
  obtain ⟨c1, c2, c3, c4⟩ := e_3
  have hn2 : h_2.1 = b + 1 := by omega
  rw [hn2] at c3 c4 ⊢
  refine xh_put (fs := [vI 0, vI 0, vN]) (dg dc37 11 rfl) rfl (by omega) ((c4 b (by omega)).trans b3) rfl rfl (fun h_4 e_4 => ?_)
  obtain ⟨d1, d2, d3, d4⟩ := e_4
  refine xh_pu (ls' := [vR b, vU]) (st' := [vI 0]) (dg dc37 12 rfl) rfl rfl ?_
  refine xh_pu (ls' := [vR b, vI 0]) (st' := []) (dg dc37 13 rfl) rfl rfl ?_
  have key : ∀ (k i : Nat) (h2 : AH), k + i = 12 → h2.1 = b + 2 + 6 * i → h2.2.1 = h.2.1 + 12 + 61 * i → gt h2 b = cO 4 [vI 0, vI 0, vR (b + 1)] → gt h2 (b + 1) = cQ 12 (fun j => if j < i then some (b + 2 + 6 * j) else none) → (∀ j, j < i → JC h2 (b + 2 + 6 * j)) → (∀ B, (B < b ∨ b + 2 + 6 * i ≤ B) → gt h2 B = gt h B) →
      XH (d + 2) 37 25 [vR b, vI (i : Int)] [] h2 (fun r h1 => r = rV ∧ h1.1 = h.1 + 73 ∧ h1.2.1 = h.2.1 + 744 ∧ gt h1 b = cO 4 [vI 0, vI 0, vR (b + 1)] ∧ gt h1 (b + 1) = cQ 12 (fun j => if j < 12 then some (b + 2 + 6 * j) else none) ∧ (∀ i, i < 12 → JC h1 (b + 2 + 6 * i)) ∧ ∀ B, (B < b ∨ h.1 + 73 ≤ B) → gt h1 B = gt h B) := by
    intro k
    induction k with
    | zero =>
      intro i h2 hk g1 g2 g3 g4 g5 g6
      have hi : i = 12 := by omega
      subst hi
      refine xh_pu (ls' := [vR b, vI (12 : Nat)]) (st' := [vI (12 : Nat)]) (dg dc37 14 rfl) rfl rfl ?_
      refine xh_pu (ls' := [vR b, vI (12 : Nat)]) (st' := [vI 12, vI (12 : Nat)]) (dg dc37 15 rfl) rfl rfl ?_
      refine xh_icmp (b9 := true) (t := 50) (dg dc37 16 rfl) rfl (by decide +kernel) ?_
      exact xh_vre (dg dc37 26 rfl) rfl ⟨rfl, by omega, by omega, g3, g4, g5, fun B hB => g6 B (by omega)⟩
    | succ k ih =>
      intro i h2 hk g1 g2 g3 g4 g5 g6
      refine xh_pu (ls' := [vR b, vI i]) (st' := [vI i]) (dg dc37 14 rfl) rfl rfl ?_
      refine xh_pu (ls' := [vR b, vI i]) (st' := [vI 12, vI i]) (dg dc37 15 rfl) rfl rfl ?_
      have hc : cmpB .ge (i : Int) 12 = false := by rw [cmp_ge (by omega) (by omega)]; exact decide_eq_false (by omega)
      refine xh_icmp (b9 := false) (t := 50) (dg dc37 16 rfl) rfl hc ?_
      show XH (d + 2) 37 31 _ _ _ _
      refine xh_pu (ls' := [vR b, vI i]) (st' := [vR b]) (dg dc37 17 rfl) rfl rfl ?_
      refine xh_get (v := vR (b + 1)) (dg dc37 18 rfl) rfl (by omega) g3 rfl ?_
      refine xh_pu (ls' := [vR b, vI i]) (st' := [vI i, vR (b + 1)]) (dg dc37 19 rfl) rfl rfl ?_
      refine xh_new (dg dc37 20 rfl) rfl rfl (fun h_5 e_5 => ?_)
      obtain ⟨x1, x2, x3, x4⟩ := e_5
      refine xh_pu (ls' := [vR b, vI i]) (st' := [vR h2.1, vR h2.1, vI i, vR (b + 1)]) (dg dc37 21 rfl) rfl rfl ?_
      refine xh_call (vs := [vR h2.1]) (st' := [vR h2.1, vI i, vR (b + 1)]) (Or.inr (Or.inr ⟨rfl, dg dc37 22 rfl⟩)) rfl rfl (calO_I rfl (by omega)) (ctorJ (d := d) x1.symm x3) (fun r h_6 hp => ?_)
      obtain ⟨rfl, y1, y2, y3, y4⟩ := hp
      refine ⟨none, rfl, ?_⟩
      rw [g1] at x3 x4 y3 y4 ⊢
      have q1 : gt h_6 (b + 1) = cQ 12 (fun j => if j < i then some (b + 2 + 6 * j) else none) := by rw [y4 _ (by omega), x4 _ (by omega)]; exact g4
      refine xh_aast (fs := [vI 0, vI 0, vI (-1), vI 0, vI 0, vI 0, vI 0, vI 0, vI 0, vR (b + 2 + 6 * i + 1), vR (b + 2 + 6 * i + 2), vR (b + 2 + 6 * i + 3), vR (b + 2 + 6 * i + 4), vR (b + 2 + 6 * i + 5)]) (dg dc37 23 rfl) (by omega) (by omega) q1 y3.1 rfl (by unfold inB; simp only [Bool.and_eq_true, decide_eq_true_eq]; omega) (fun h_7 e_7 => ?_)
      obtain ⟨z1, z2, z3, z4⟩ := e_7
      refine xh_pu (ls' := [vR b, vI ((i : Int) + 1)]) (st' := []) (dg dc37 24 rfl) rfl rfl ?_
      refine xh_goto (t := 25) (dg dc37 25 rfl) rfl rfl ?_
      refine ih (i + 1) h_7 (by omega) (by omega) ?_ ?_ ?_ (fun j hj => ?_) (fun B hB => ?_)
      · rw [z2, y2, x2, g2]
        show h.2.1 + 12 + 61 * i + 14 + 47 = _
        omega
      · rw [z4 _ (by omega), y4 _ (by omega), x4 _ (by omega)]
        exact g3
      · rw [z3]
        refine congrArg (cQ 12) (funext fun j => ?_)
        show (if j = (i : Int).toNat then some (b + 2 + 6 * i) else if j < i then some (b + 2 + 6 * j) else none) = if j < i + 1 then some (b + 2 + 6 * j) else none
        rw [Int.toNat_natCast]
        by_cases h1 : j = i
        · rw [if_pos h1, if_pos (by omega), h1]
        · rw [if_neg h1]
          by_cases h2 : j < i
          · rw [if_pos h2, if_pos (by omega)]
          · rw [if_neg h2, if_neg (by omega)]
      · by_cases hji : j = i
        · subst hji
          obtain ⟨w0, w1, w2, w3, w4, w5⟩ := y3
          exact ⟨(z4 _ (by omega)).trans w0, (z4 _ (by omega)).trans w1, (z4 _ (by omega)).trans w2, (z4 _ (by omega)).trans w3, (z4 _ (by omega)).trans w4, (z4 _ (by omega)).trans w5⟩
        · obtain ⟨w0, w1, w2, w3, w4, w5⟩ := g5 j (by omega)
          have hk9 : ∀ q, q < 6 → gt h_7 (b + 2 + 6 * j + q) = gt h2 (b + 2 + 6 * j + q) := fun q hq => by rw [z4 _ (by omega), y4 _ (by omega), x4 _ (by omega)]
          exact ⟨(hk9 0 (by omega)).trans w0, (hk9 1 (by omega)).trans w1, (hk9 2 (by omega)).trans w2, (hk9 3 (by omega)).trans w3, (hk9 4 (by omega)).trans w4, (hk9 5 (by omega)).trans w5⟩
      · rw [z4 _ (by omega), y4 _ (by omega), x4 _ (by omega)]
        exact g6 B (by omega)
  refine key 12 0 h_4 rfl (by omega) ?_ d3 ?_ (fun j hj => absurd hj (by omega)) (fun B hB => ?_)
  · rw [d2, c2, b2, a2]
  · rw [d4 _ (by omega), c3]
    exact congrArg (cQ 12) (funext fun j => (if_neg (Nat.not_lt_zero j)).symm)
  · rw [d4 _ (by omega), c4 _ (by omega), b4 _ (by omega), a4 _ (by omega)]
def il109 : List (Nat × Instr × Nat) := [(0, .aload_n 0, 1), (1, .invokespecial 1, 3), (4, .aload_n 0, 1), (5, .new 7, 3), (8, .dup, 1), (9, .invokespecial 9, 3), (12, .putfield 10, 3), (15, .aload_n 0, 1), (16, .new 16, 3), (19, .dup, 1), (20, .invokespecial 18, 3), (23, .putfield 19, 3), (26, .aload_n 0, 1), (27, .new 23, 3), (30, .dup, 1), (31, .invokespecial 25, 3), (34, .putfield 26, 3), (37, .aload_n 0, 1), (38, .new 30, 3), (41, .dup, 1), (42, .invokespecial 32, 3), (45, .putfield 33, 3), (48, .aload_n 0, 1), (49, .new 16, 3), (52, .dup, 1), (53, .invokespecial 18, 3), (56, .putfield 37, 3), (59, .aload_n 0, 1), (60, .new 23, 3), (63, .dup, 1), (64, .invokespecial 25, 3), (67, .putfield 40, 3), (70, .aload_n 0, 1), (71, .new 30, 3), (74, .dup, 1), (75, .invokespecial 32, 3), (78, .putfield 43, 3), (81, .aload_n 0, 1), (82, .new 16, 3), (85, .dup, 1), (86, .invokespecial 18, 3), (89, .putfield 46, 3), (92, .aload_n 0, 1), (93, .new 23, 3), (96, .dup, 1), (97, .invokespecial 25, 3), (100, .putfield 49, 3), (103, .aload_n 0, 1), (104, .new 30, 3), (107, .dup, 1), (108, .invokespecial 32, 3), (111, .putfield 52, 3), (114, .aload_n 0, 1), (115, .iconst 0, 1), (116, .putfield 55, 3), (119, .aload_n 0, 1), (120, .new 59, 3), (123, .dup, 1), (124, .aload_n 0, 1), (125, .getfield 10, 3), (128, .aload_n 0, 1), (129, .getfield 37, 3), (132, .aload_n 0, 1), (133, .getfield 43, 3), (136, .invokespecial 61, 3), (139, .putfield 64, 3), (142, .aload_n 0, 1), (143, .new 68, 3), (146, .dup, 1), (147, .aload_n 0, 1), (148, .getfield 10, 3), (151, .aload_n 0, 1), (152, .getfield 40, 3), (155, .invokespecial 70, 3), (158, .putfield 73, 3), (161, .aload_n 0, 1), (162, .new 77, 3), (165, .dup, 1), (166, .invokespecial 79, 3), (169, .putfield 80, 3), (172, .aload_n 0, 1), (173, .new 84, 3), (176, .dup, 1), (177, .aload_n 0, 1), (178, .getfield 19, 3), (181, .aload_n 0, 1), (182, .getfield 26, 3), (185, .invokespecial 86, 3), (188, .putfield 89, 3), (191, .aload_n 0, 1), (192, .new 93, 3), (195, .dup, 1), (196, .aload_n 0, 1), (197, .getfield 19, 3), (200, .invokespecial 95, 3), (203, .putfield 98, 3), (206, .aload_n 0, 1), (207, .new 102, 3), (210, .dup, 1), (211, .aload_n 0, 1), (212, .getfield 19, 3), (215, .aload_n 0, 1), (216, .getfield 33, 3), (219, .aload_n 0, 1), (220, .getfield 10, 3), (223, .invokespecial 104, 3), (226, .putfield 107, 3), (229, .aload_n 0, 1), (230, .aconst_null, 1), (231, .putfield 111, 3), (234, .aload_n 0, 1), (235, .iconst 0, 1), (236, .putfield 115, 3), (239, .return_, 1)]
theorem dc109 : dcs (mC 109) il109 := dc_of (by decide +kernel)
theorem PRE.put0 {Z : Nat × (Nat → Int)} {k sl : Nat} {h h1 : AH} {c : AC} (hp : PRE Z k sl h) (hd : D1 h h1 0 c) : PRE Z k sl h1 := by
  obtain ⟨p1, p2, p3, p4⟩ := hp
  obtain ⟨d1, d2, -, d4⟩ := hd
  exact ⟨d1.trans p1, d2.trans p2, fun a h1 h2 => (d4 a (by omega)).trans (p3 a h1 h2), fun a ha => (d4 a (by have : 0 < E0 := (by decide); omega)).trans (p4 a ha)⟩
set_option maxRecDepth 4000 in
theorem ctor109 {Z : Nat × (Nat → Int)} {d : Nat} {h : AH} (hp : PRE Z 1 19 h) (hg : gt h 0 = cO 11 (fs0 11)) : XH (d + 4) 109 0 (ent 109 [vR 0]) [] h (fun r h1 => r = rV ∧ PRE Z 165 3515 h1 ∧ gt h1 0 = cO 11 [vR 1, vR 3, vR 17, vR 23, vR 29, vR 43, vR 49, vR 55, vR 69, vR 75, vI 0, vR 81, vR 82, vR 83, vR 157, vR 158, vR 161, vN, vI 0]) := by
  show XH (d + 4) 109 0 [vR 0] [] h _
  have hp_0 : PRE Z 1 19 h := hp
  have hg_0 : gt h 0 = cO 11 [vN, vN, vN, vN, vN, vN, vN, vN, vN, vN, vI 0, vN, vN, vN, vN, vN, vN, vN, vI 0] := hg
  refine xh_pu (ls' := [vR 0]) (st' := [vR 0]) (dg dc109 0 rfl) rfl rfl ?_
  refine xh_oin (dg dc109 1 rfl) rfl (by have := hp_0.1; omega) rfl ?_
  refine xh_pu (ls' := [vR 0]) (st' := [vR 0]) (dg dc109 2 rfl) rfl rfl ?_
  refine xh_new (dg dc109 3 rfl) rfl rfl (fun a_0 e => ?_)
  obtain ⟨a1, a2, a3, a4⟩ := e
  rw [hp_0.1] at a1 a3 a4 ⊢
  have hga : gt a_0 0 = cO 11 [vN, vN, vN, vN, vN, vN, vN, vN, vN, vN, vI 0, vN, vN, vN, vN, vN, vN, vN, vI 0] := (a4 0 (by decide)).trans hg_0
  refine xh_pu (ls' := [vR 0]) (st' := [vR 1, vR 1, vR 0]) (dg dc109 4 rfl) rfl rfl ?_
  refine xh_call (vs := [vR 1]) (st' := [vR 1, vR 0]) (Or.inr (Or.inr ⟨rfl, (dg dc109 5 rfl)⟩)) rfl rfl (calO_I rfl (by decide)) (ctor86  (b := 1) (by omega) a3) (fun r b_0 q => ?_)
  obtain ⟨rfl, y1, y2, y3, y4, yf⟩ := q
  rw [a1] at y3 y4
  refine ⟨none, rfl, ?_⟩
  have hpb : PRE Z 3 424 b_0 := hp_0.ext (m := 2) (s2 := 405) (by decide) (by omega) (by rw [y2, a2, hp_0.2.1]; rfl) (fun B b1 b2 => (yf B (by omega) (by omega)).trans (a4 B (by omega))) (fun j9 hj => match j9, hj with
    | 0, _ => y3
    | 1, _ => y4
    | j9 + 2, h9 => absurd h9 (by omega))
  have hgb : gt b_0 0 = cO 11 [vN, vN, vN, vN, vN, vN, vN, vN, vN, vN, vI 0, vN, vN, vN, vN, vN, vN, vN, vI 0] := (yf 0 (by omega) (by omega)).trans hga
  refine xh_put (fs := [vN, vN, vN, vN, vN, vN, vN, vN, vN, vN, vI 0, vN, vN, vN, vN, vN, vN, vN, vI 0]) (dg dc109 6 rfl) rfl (by have := hpb.1; omega) hgb rfl rfl (fun h_1 e => ?_)
  have hp_1 : PRE Z 3 424 h_1 := hpb.put0 e
  have hg_1 : gt h_1 0 = cO 11 [vR 1, vN, vN, vN, vN, vN, vN, vN, vN, vN, vI 0, vN, vN, vN, vN, vN, vN, vN, vI 0] := e.2.2.1
  refine xh_pu (ls' := [vR 0]) (st' := [vR 0]) (dg dc109 7 rfl) rfl rfl ?_
  refine xh_new (dg dc109 8 rfl) rfl rfl (fun a_1 e => ?_)
  obtain ⟨a1, a2, a3, a4⟩ := e
  rw [hp_1.1] at a1 a3 a4 ⊢
  have hga : gt a_1 0 = cO 11 [vR 1, vN, vN, vN, vN, vN, vN, vN, vN, vN, vI 0, vN, vN, vN, vN, vN, vN, vN, vI 0] := (a4 0 (by decide)).trans hg_1
  refine xh_pu (ls' := [vR 0]) (st' := [vR 3, vR 3, vR 0]) (dg dc109 9 rfl) rfl rfl ?_
  refine xh_call (vs := [vR 3]) (st' := [vR 3, vR 0]) (Or.inr (Or.inr ⟨rfl, (dg dc109 10 rfl)⟩)) rfl rfl (calO_I rfl (by decide)) (ctor7  (b := 3) (by omega) a3) (fun r b_1 q => ?_)
  obtain ⟨rfl, y1, y2, y3, y4, y5, y6, y7, y8, y9, y10, y11, y12, y13, y14, y15, y16, yf⟩ := q
  rw [a1] at y3 y4 y5 y6 y7 y8 y9 y10 y11 y12 y13 y14 y15 y16
  refine ⟨none, rfl, ?_⟩
  have hpb : PRE Z 17 613 b_1 := hp_1.ext (m := 14) (s2 := 189) (by decide) (by omega) (by rw [y2, a2, hp_1.2.1]; rfl) (fun B b1 b2 => (yf B (by omega) (by omega)).trans (a4 B (by omega))) (fun j9 hj => match j9, hj with
    | 0, _ => y3
    | 1, _ => y4
    | 2, _ => y5
    | 3, _ => y6
    | 4, _ => y7
    | 5, _ => y8
    | 6, _ => y9
    | 7, _ => y10
    | 8, _ => y11
    | 9, _ => y12
    | 10, _ => y13
    | 11, _ => y14
    | 12, _ => y15
    | 13, _ => y16
    | j9 + 14, h9 => absurd h9 (by omega))
  have hgb : gt b_1 0 = cO 11 [vR 1, vN, vN, vN, vN, vN, vN, vN, vN, vN, vI 0, vN, vN, vN, vN, vN, vN, vN, vI 0] := (yf 0 (by omega) (by omega)).trans hga
  refine xh_put (fs := [vR 1, vN, vN, vN, vN, vN, vN, vN, vN, vN, vI 0, vN, vN, vN, vN, vN, vN, vN, vI 0]) (dg dc109 11 rfl) rfl (by have := hpb.1; omega) hgb rfl rfl (fun h_2 e => ?_)
  have hp_2 : PRE Z 17 613 h_2 := hpb.put0 e
  have hg_2 : gt h_2 0 = cO 11 [vR 1, vR 3, vN, vN, vN, vN, vN, vN, vN, vN, vI 0, vN, vN, vN, vN, vN, vN, vN, vI 0] := e.2.2.1
  refine xh_pu (ls' := [vR 0]) (st' := [vR 0]) (dg dc109 12 rfl) rfl rfl ?_
  refine xh_new (dg dc109 13 rfl) rfl rfl (fun a_2 e => ?_)
  obtain ⟨a1, a2, a3, a4⟩ := e
  rw [hp_2.1] at a1 a3 a4 ⊢
  have hga : gt a_2 0 = cO 11 [vR 1, vR 3, vN, vN, vN, vN, vN, vN, vN, vN, vI 0, vN, vN, vN, vN, vN, vN, vN, vI 0] := (a4 0 (by decide)).trans hg_2
  refine xh_pu (ls' := [vR 0]) (st' := [vR 17, vR 17, vR 0]) (dg dc109 14 rfl) rfl rfl ?_
  refine xh_call (vs := [vR 17]) (st' := [vR 17, vR 0]) (Or.inr (Or.inr ⟨rfl, (dg dc109 15 rfl)⟩)) rfl rfl (calO_I rfl (by decide)) (ctor20  (b := 17) (by omega) a3) (fun r b_2 q => ?_)
  obtain ⟨rfl, y1, y2, y3, y4, y5, y6, y7, y8, yf⟩ := q
  rw [a1] at y3 y4 y5 y6 y7 y8
  refine ⟨none, rfl, ?_⟩
  have hpb : PRE Z 23 1084 b_2 := hp_2.ext (m := 6) (s2 := 471) (by decide) (by omega) (by rw [y2, a2, hp_2.2.1]; rfl) (fun B b1 b2 => (yf B (by omega) (by omega)).trans (a4 B (by omega))) (fun j9 hj => match j9, hj with
    | 0, _ => y3
    | 1, _ => y4
    | 2, _ => y5
    | 3, _ => y6
    | 4, _ => y7
    | 5, _ => y8
    | j9 + 6, h9 => absurd h9 (by omega))
  have hgb : gt b_2 0 = cO 11 [vR 1, vR 3, vN, vN, vN, vN, vN, vN, vN, vN, vI 0, vN, vN, vN, vN, vN, vN, vN, vI 0] := (yf 0 (by omega) (by omega)).trans hga
  refine xh_put (fs := [vR 1, vR 3, vN, vN, vN, vN, vN, vN, vN, vN, vI 0, vN, vN, vN, vN, vN, vN, vN, vI 0]) (dg dc109 16 rfl) rfl (by have := hpb.1; omega) hgb rfl rfl (fun h_3 e => ?_)
  have hp_3 : PRE Z 23 1084 h_3 := hpb.put0 e
  have hg_3 : gt h_3 0 = cO 11 [vR 1, vR 3, vR 17, vN, vN, vN, vN, vN, vN, vN, vI 0, vN, vN, vN, vN, vN, vN, vN, vI 0] := e.2.2.1
  refine xh_pu (ls' := [vR 0]) (st' := [vR 0]) (dg dc109 17 rfl) rfl rfl ?_
  refine xh_new (dg dc109 18 rfl) rfl rfl (fun a_3 e => ?_)
  obtain ⟨a1, a2, a3, a4⟩ := e
  rw [hp_3.1] at a1 a3 a4 ⊢
  have hga : gt a_3 0 = cO 11 [vR 1, vR 3, vR 17, vN, vN, vN, vN, vN, vN, vN, vI 0, vN, vN, vN, vN, vN, vN, vN, vI 0] := (a4 0 (by decide)).trans hg_3
  refine xh_pu (ls' := [vR 0]) (st' := [vR 23, vR 23, vR 0]) (dg dc109 19 rfl) rfl rfl ?_
  refine xh_call (vs := [vR 23]) (st' := [vR 23, vR 0]) (Or.inr (Or.inr ⟨rfl, (dg dc109 20 rfl)⟩)) rfl rfl (calO_I rfl (by decide)) (ctorJ (d := d + 2) (b := 23) a1.symm a3) (fun r b_3 q => ?_)
  obtain ⟨rfl, y1, y2, y3, y4⟩ := q
  refine ⟨none, rfl, ?_⟩
  have hpb : PRE Z 29 1145 b_3 := hp_3.ext (m := 6) (s2 := 61) (by decide) (by omega) (by rw [y2, a2, hp_3.2.1]; rfl) (fun B b1 b2 => (y4 B (by omega)).trans (a4 B (by omega))) (y3.at (Or.inl rfl))
  have hgb : gt b_3 0 = cO 11 [vR 1, vR 3, vR 17, vN, vN, vN, vN, vN, vN, vN, vI 0, vN, vN, vN, vN, vN, vN, vN, vI 0] := (y4 0 (by omega)).trans hga
  refine xh_put (fs := [vR 1, vR 3, vR 17, vN, vN, vN, vN, vN, vN, vN, vI 0, vN, vN, vN, vN, vN, vN, vN, vI 0]) (dg dc109 21 rfl) rfl (by have := hpb.1; omega) hgb rfl rfl (fun h_4 e => ?_)
  have hp_4 : PRE Z 29 1145 h_4 := hpb.put0 e
  have hg_4 : gt h_4 0 = cO 11 [vR 1, vR 3, vR 17, vR 23, vN, vN, vN, vN, vN, vN, vI 0, vN, vN, vN, vN, vN, vN, vN, vI 0] := e.2.2.1
  refine xh_pu (ls' := [vR 0]) (st' := [vR 0]) (dg dc109 22 rfl) rfl rfl ?_
  refine xh_new (dg dc109 23 rfl) rfl rfl (fun a_4 e => ?_)
  obtain ⟨a1, a2, a3, a4⟩ := e
  rw [hp_4.1] at a1 a3 a4 ⊢
  have hga : gt a_4 0 = cO 11 [vR 1, vR 3, vR 17, vR 23, vN, vN, vN, vN, vN, vN, vI 0, vN, vN, vN, vN, vN, vN, vN, vI 0] := (a4 0 (by decide)).trans hg_4
  refine xh_pu (ls' := [vR 0]) (st' := [vR 29, vR 29, vR 0]) (dg dc109 24 rfl) rfl rfl ?_
  refine xh_call (vs := [vR 29]) (st' := [vR 29, vR 0]) (Or.inr (Or.inr ⟨rfl, (dg dc109 25 rfl)⟩)) rfl rfl (calO_I rfl (by decide)) (ctor7  (b := 29) (by omega) a3) (fun r b_4 q => ?_)
  obtain ⟨rfl, y1, y2, y3, y4, y5, y6, y7, y8, y9, y10, y11, y12, y13, y14, y15, y16, yf⟩ := q
  rw [a1] at y3 y4 y5 y6 y7 y8 y9 y10 y11 y12 y13 y14 y15 y16
  refine ⟨none, rfl, ?_⟩
  have hpb : PRE Z 43 1334 b_4 := hp_4.ext (m := 14) (s2 := 189) (by decide) (by omega) (by rw [y2, a2, hp_4.2.1]; rfl) (fun B b1 b2 => (yf B (by omega) (by omega)).trans (a4 B (by omega))) (fun j9 hj => match j9, hj with
    | 0, _ => y3
    | 1, _ => y4
    | 2, _ => y5
    | 3, _ => y6
    | 4, _ => y7
    | 5, _ => y8
    | 6, _ => y9
    | 7, _ => y10
    | 8, _ => y11
    | 9, _ => y12
    | 10, _ => y13
    | 11, _ => y14
    | 12, _ => y15
    | 13, _ => y16
    | j9 + 14, h9 => absurd h9 (by omega))
  have hgb : gt b_4 0 = cO 11 [vR 1, vR 3, vR 17, vR 23, vN, vN, vN, vN, vN, vN, vI 0, vN, vN, vN, vN, vN, vN, vN, vI 0] := (yf 0 (by omega) (by omega)).trans hga
  refine xh_put (fs := [vR 1, vR 3, vR 17, vR 23, vN, vN, vN, vN, vN, vN, vI 0, vN, vN, vN, vN, vN, vN, vN, vI 0]) (dg dc109 26 rfl) rfl (by have := hpb.1; omega) hgb rfl rfl (fun h_5 e => ?_)
  have hp_5 : PRE Z 43 1334 h_5 := hpb.put0 e
  have hg_5 : gt h_5 0 = cO 11 [vR 1, vR 3, vR 17, vR 23, vR 29, vN, vN, vN, vN, vN, vI 0, vN, vN, vN, vN, vN, vN, vN, vI 0] := e.2.2.1
  refine xh_pu (ls' := [vR 0]) (st' := [vR 0]) (dg dc109 27 rfl) rfl rfl ?_
  refine xh_new (dg dc109 28 rfl) rfl rfl (fun a_5 e => ?_)
  obtain ⟨a1, a2, a3, a4⟩ := e
  rw [hp_5.1] at a1 a3 a4 ⊢
  have hga : gt a_5 0 = cO 11 [vR 1, vR 3, vR 17, vR 23, vR 29, vN, vN, vN, vN, vN, vI 0, vN, vN, vN, vN, vN, vN, vN, vI 0] := (a4 0 (by decide)).trans hg_5
  refine xh_pu (ls' := [vR 0]) (st' := [vR 43, vR 43, vR 0]) (dg dc109 29 rfl) rfl rfl ?_
  refine xh_call (vs := [vR 43]) (st' := [vR 43, vR 0]) (Or.inr (Or.inr ⟨rfl, (dg dc109 30 rfl)⟩)) rfl rfl (calO_I rfl (by decide)) (ctor20  (b := 43) (by omega) a3) (fun r b_5 q => ?_)
  obtain ⟨rfl, y1, y2, y3, y4, y5, y6, y7, y8, yf⟩ := q
  rw [a1] at y3 y4 y5 y6 y7 y8
  refine ⟨none, rfl, ?_⟩
  have hpb : PRE Z 49 1805 b_5 := hp_5.ext (m := 6) (s2 := 471) (by decide) (by omega) (by rw [y2, a2, hp_5.2.1]; rfl) (fun B b1 b2 => (yf B (by omega) (by omega)).trans (a4 B (by omega))) (fun j9 hj => match j9, hj with
    | 0, _ => y3
    | 1, _ => y4
    | 2, _ => y5
    | 3, _ => y6
    | 4, _ => y7
    | 5, _ => y8
    | j9 + 6, h9 => absurd h9 (by omega))
  have hgb : gt b_5 0 = cO 11 [vR 1, vR 3, vR 17, vR 23, vR 29, vN, vN, vN, vN, vN, vI 0, vN, vN, vN, vN, vN, vN, vN, vI 0] := (yf 0 (by omega) (by omega)).trans hga
  refine xh_put (fs := [vR 1, vR 3, vR 17, vR 23, vR 29, vN, vN, vN, vN, vN, vI 0, vN, vN, vN, vN, vN, vN, vN, vI 0]) (dg dc109 31 rfl) rfl (by have := hpb.1; omega) hgb rfl rfl (fun h_6 e => ?_)
  have hp_6 : PRE Z 49 1805 h_6 := hpb.put0 e
  have hg_6 : gt h_6 0 = cO 11 [vR 1, vR 3, vR 17, vR 23, vR 29, vR 43, vN, vN, vN, vN, vI 0, vN, vN, vN, vN, vN, vN, vN, vI 0] := e.2.2.1
  refine xh_pu (ls' := [vR 0]) (st' := [vR 0]) (dg dc109 32 rfl) rfl rfl ?_
  refine xh_new (dg dc109 33 rfl) rfl rfl (fun a_6 e => ?_)
  obtain ⟨a1, a2, a3, a4⟩ := e
  rw [hp_6.1] at a1 a3 a4 ⊢
  have hga : gt a_6 0 = cO 11 [vR 1, vR 3, vR 17, vR 23, vR 29, vR 43, vN, vN, vN, vN, vI 0, vN, vN, vN, vN, vN, vN, vN, vI 0] := (a4 0 (by decide)).trans hg_6
  refine xh_pu (ls' := [vR 0]) (st' := [vR 49, vR 49, vR 0]) (dg dc109 34 rfl) rfl rfl ?_
  refine xh_call (vs := [vR 49]) (st' := [vR 49, vR 0]) (Or.inr (Or.inr ⟨rfl, (dg dc109 35 rfl)⟩)) rfl rfl (calO_I rfl (by decide)) (ctorJ (d := d + 2) (b := 49) a1.symm a3) (fun r b_6 q => ?_)
  obtain ⟨rfl, y1, y2, y3, y4⟩ := q
  refine ⟨none, rfl, ?_⟩
  have hpb : PRE Z 55 1866 b_6 := hp_6.ext (m := 6) (s2 := 61) (by decide) (by omega) (by rw [y2, a2, hp_6.2.1]; rfl) (fun B b1 b2 => (y4 B (by omega)).trans (a4 B (by omega))) (y3.at (Or.inr (Or.inl rfl)))
  have hgb : gt b_6 0 = cO 11 [vR 1, vR 3, vR 17, vR 23, vR 29, vR 43, vN, vN, vN, vN, vI 0, vN, vN, vN, vN, vN, vN, vN, vI 0] := (y4 0 (by omega)).trans hga
  refine xh_put (fs := [vR 1, vR 3, vR 17, vR 23, vR 29, vR 43, vN, vN, vN, vN, vI 0, vN, vN, vN, vN, vN, vN, vN, vI 0]) (dg dc109 36 rfl) rfl (by have := hpb.1; omega) hgb rfl rfl (fun h_7 e => ?_)
  have hp_7 : PRE Z 55 1866 h_7 := hpb.put0 e
  have hg_7 : gt h_7 0 = cO 11 [vR 1, vR 3, vR 17, vR 23, vR 29, vR 43, vR 49, vN, vN, vN, vI 0, vN, vN, vN, vN, vN, vN, vN, vI 0] := e.2.2.1
  refine xh_pu (ls' := [vR 0]) (st' := [vR 0]) (dg dc109 37 rfl) rfl rfl ?_
  refine xh_new (dg dc109 38 rfl) rfl rfl (fun a_7 e => ?_)
  obtain ⟨a1, a2, a3, a4⟩ := e
  rw [hp_7.1] at a1 a3 a4 ⊢
  have hga : gt a_7 0 = cO 11 [vR 1, vR 3, vR 17, vR 23, vR 29, vR 43, vR 49, vN, vN, vN, vI 0, vN, vN, vN, vN, vN, vN, vN, vI 0] := (a4 0 (by decide)).trans hg_7
  refine xh_pu (ls' := [vR 0]) (st' := [vR 55, vR 55, vR 0]) (dg dc109 39 rfl) rfl rfl ?_
  refine xh_call (vs := [vR 55]) (st' := [vR 55, vR 0]) (Or.inr (Or.inr ⟨rfl, (dg dc109 40 rfl)⟩)) rfl rfl (calO_I rfl (by decide)) (ctor7  (b := 55) (by omega) a3) (fun r b_7 q => ?_)
  obtain ⟨rfl, y1, y2, y3, y4, y5, y6, y7, y8, y9, y10, y11, y12, y13, y14, y15, y16, yf⟩ := q
  rw [a1] at y3 y4 y5 y6 y7 y8 y9 y10 y11 y12 y13 y14 y15 y16
  refine ⟨none, rfl, ?_⟩
  have hpb : PRE Z 69 2055 b_7 := hp_7.ext (m := 14) (s2 := 189) (by decide) (by omega) (by rw [y2, a2, hp_7.2.1]; rfl) (fun B b1 b2 => (yf B (by omega) (by omega)).trans (a4 B (by omega))) (fun j9 hj => match j9, hj with
    | 0, _ => y3
    | 1, _ => y4
    | 2, _ => y5
    | 3, _ => y6
    | 4, _ => y7
    | 5, _ => y8
    | 6, _ => y9
    | 7, _ => y10
    | 8, _ => y11
    | 9, _ => y12
    | 10, _ => y13
    | 11, _ => y14
    | 12, _ => y15
    | 13, _ => y16
    | j9 + 14, h9 => absurd h9 (by omega))
  have hgb : gt b_7 0 = cO 11 [vR 1, vR 3, vR 17, vR 23, vR 29, vR 43, vR 49, vN, vN, vN, vI 0, vN, vN, vN, vN, vN, vN, vN, vI 0] := (yf 0 (by omega) (by omega)).trans hga
  refine xh_put (fs := [vR 1, vR 3, vR 17, vR 23, vR 29, vR 43, vR 49, vN, vN, vN, vI 0, vN, vN, vN, vN, vN, vN, vN, vI 0]) (dg dc109 41 rfl) rfl (by have := hpb.1; omega) hgb rfl rfl (fun h_8 e => ?_)
  have hp_8 : PRE Z 69 2055 h_8 := hpb.put0 e
  have hg_8 : gt h_8 0 = cO 11 [vR 1, vR 3, vR 17, vR 23, vR 29, vR 43, vR 49, vR 55, vN, vN, vI 0, vN, vN, vN, vN, vN, vN, vN, vI 0] := e.2.2.1
  refine xh_pu (ls' := [vR 0]) (st' := [vR 0]) (dg dc109 42 rfl) rfl rfl ?_
  refine xh_new (dg dc109 43 rfl) rfl rfl (fun a_8 e => ?_)
  obtain ⟨a1, a2, a3, a4⟩ := e
  rw [hp_8.1] at a1 a3 a4 ⊢
  have hga : gt a_8 0 = cO 11 [vR 1, vR 3, vR 17, vR 23, vR 29, vR 43, vR 49, vR 55, vN, vN, vI 0, vN, vN, vN, vN, vN, vN, vN, vI 0] := (a4 0 (by decide)).trans hg_8
  refine xh_pu (ls' := [vR 0]) (st' := [vR 69, vR 69, vR 0]) (dg dc109 44 rfl) rfl rfl ?_
  refine xh_call (vs := [vR 69]) (st' := [vR 69, vR 0]) (Or.inr (Or.inr ⟨rfl, (dg dc109 45 rfl)⟩)) rfl rfl (calO_I rfl (by decide)) (ctor20  (b := 69) (by omega) a3) (fun r b_8 q => ?_)
  obtain ⟨rfl, y1, y2, y3, y4, y5, y6, y7, y8, yf⟩ := q
  rw [a1] at y3 y4 y5 y6 y7 y8
  refine ⟨none, rfl, ?_⟩
  have hpb : PRE Z 75 2526 b_8 := hp_8.ext (m := 6) (s2 := 471) (by decide) (by omega) (by rw [y2, a2, hp_8.2.1]; rfl) (fun B b1 b2 => (yf B (by omega) (by omega)).trans (a4 B (by omega))) (fun j9 hj => match j9, hj with
    | 0, _ => y3
    | 1, _ => y4
    | 2, _ => y5
    | 3, _ => y6
    | 4, _ => y7
    | 5, _ => y8
    | j9 + 6, h9 => absurd h9 (by omega))
  have hgb : gt b_8 0 = cO 11 [vR 1, vR 3, vR 17, vR 23, vR 29, vR 43, vR 49, vR 55, vN, vN, vI 0, vN, vN, vN, vN, vN, vN, vN, vI 0] := (yf 0 (by omega) (by omega)).trans hga
  refine xh_put (fs := [vR 1, vR 3, vR 17, vR 23, vR 29, vR 43, vR 49, vR 55, vN, vN, vI 0, vN, vN, vN, vN, vN, vN, vN, vI 0]) (dg dc109 46 rfl) rfl (by have := hpb.1; omega) hgb rfl rfl (fun h_9 e => ?_)
  have hp_9 : PRE Z 75 2526 h_9 := hpb.put0 e
  have hg_9 : gt h_9 0 = cO 11 [vR 1, vR 3, vR 17, vR 23, vR 29, vR 43, vR 49, vR 55, vR 69, vN, vI 0, vN, vN, vN, vN, vN, vN, vN, vI 0] := e.2.2.1
  refine xh_pu (ls' := [vR 0]) (st' := [vR 0]) (dg dc109 47 rfl) rfl rfl ?_
  refine xh_new (dg dc109 48 rfl) rfl rfl (fun a_9 e => ?_)
  obtain ⟨a1, a2, a3, a4⟩ := e
  rw [hp_9.1] at a1 a3 a4 ⊢
  have hga : gt a_9 0 = cO 11 [vR 1, vR 3, vR 17, vR 23, vR 29, vR 43, vR 49, vR 55, vR 69, vN, vI 0, vN, vN, vN, vN, vN, vN, vN, vI 0] := (a4 0 (by decide)).trans hg_9
  refine xh_pu (ls' := [vR 0]) (st' := [vR 75, vR 75, vR 0]) (dg dc109 49 rfl) rfl rfl ?_
  refine xh_call (vs := [vR 75]) (st' := [vR 75, vR 0]) (Or.inr (Or.inr ⟨rfl, (dg dc109 50 rfl)⟩)) rfl rfl (calO_I rfl (by decide)) (ctorJ (d := d + 2) (b := 75) a1.symm a3) (fun r b_9 q => ?_)
  obtain ⟨rfl, y1, y2, y3, y4⟩ := q
  refine ⟨none, rfl, ?_⟩
  have hpb : PRE Z 81 2587 b_9 := hp_9.ext (m := 6) (s2 := 61) (by decide) (by omega) (by rw [y2, a2, hp_9.2.1]; rfl) (fun B b1 b2 => (y4 B (by omega)).trans (a4 B (by omega))) (y3.at (Or.inr (Or.inr (Or.inl rfl))))
  have hgb : gt b_9 0 = cO 11 [vR 1, vR 3, vR 17, vR 23, vR 29, vR 43, vR 49, vR 55, vR 69, vN, vI 0, vN, vN, vN, vN, vN, vN, vN, vI 0] := (y4 0 (by omega)).trans hga
  refine xh_put (fs := [vR 1, vR 3, vR 17, vR 23, vR 29, vR 43, vR 49, vR 55, vR 69, vN, vI 0, vN, vN, vN, vN, vN, vN, vN, vI 0]) (dg dc109 51 rfl) rfl (by have := hpb.1; omega) hgb rfl rfl (fun h_10 e => ?_)
  have hp_10 : PRE Z 81 2587 h_10 := hpb.put0 e
  have hg_10 : gt h_10 0 = cO 11 [vR 1, vR 3, vR 17, vR 23, vR 29, vR 43, vR 49, vR 55, vR 69, vR 75, vI 0, vN, vN, vN, vN, vN, vN, vN, vI 0] := e.2.2.1
  refine xh_pu (ls' := [vR 0]) (st' := [vR 0]) (dg dc109 52 rfl) rfl rfl ?_
  refine xh_pu (ls' := [vR 0]) (st' := [vI 0, vR 0]) (dg dc109 53 rfl) rfl rfl ?_
  refine xh_put (fs := [vR 1, vR 3, vR 17, vR 23, vR 29, vR 43, vR 49, vR 55, vR 69, vR 75, vI 0, vN, vN, vN, vN, vN, vN, vN, vI 0]) (dg dc109 54 rfl) rfl (by have := hp_10.1; omega) hg_10 rfl rfl (fun h_11 e => ?_)
  have hp_11 : PRE Z 81 2587 h_11 := hp_10.put0 e
  have hg_11 : gt h_11 0 = cO 11 [vR 1, vR 3, vR 17, vR 23, vR 29, vR 43, vR 49, vR 55, vR 69, vR 75, vI 0, vN, vN, vN, vN, vN, vN, vN, vI 0] := e.2.2.1
  refine xh_pu (ls' := [vR 0]) (st' := [vR 0]) (dg dc109 55 rfl) rfl rfl ?_
  refine xh_new (dg dc109 56 rfl) rfl rfl (fun a_11 e => ?_)
  obtain ⟨a1, a2, a3, a4⟩ := e
  rw [hp_11.1] at a1 a3 a4 ⊢
  have hga : gt a_11 0 = cO 11 [vR 1, vR 3, vR 17, vR 23, vR 29, vR 43, vR 49, vR 55, vR 69, vR 75, vI 0, vN, vN, vN, vN, vN, vN, vN, vI 0] := (a4 0 (by decide)).trans hg_11
  refine xh_pu (ls' := [vR 0]) (st' := [vR 81, vR 81, vR 0]) (dg dc109 57 rfl) rfl rfl ?_
  refine xh_pu (ls' := [vR 0]) (st' := [vR 0, vR 81, vR 81, vR 0]) (dg dc109 58 rfl) rfl rfl ?_
  refine xh_get (v := vR 1) (dg dc109 59 rfl) rfl (by omega) hga rfl ?_
  refine xh_pu (ls' := [vR 0]) (st' := [vR 0, vR 1, vR 81, vR 81, vR 0]) (dg dc109 60 rfl) rfl rfl ?_
  refine xh_get (v := vR 29) (dg dc109 61 rfl) rfl (by omega) hga rfl ?_
  refine xh_pu (ls' := [vR 0]) (st' := [vR 0, vR 29, vR 1, vR 81, vR 81, vR 0]) (dg dc109 62 rfl) rfl rfl ?_
  refine xh_get (v := vR 49) (dg dc109 63 rfl) rfl (by omega) hga rfl ?_
  refine xh_call (vs := [vR 81, vR 1, vR 29, vR 49]) (st' := [vR 81, vR 0]) (Or.inr (Or.inr ⟨rfl, (dg dc109 64 rfl)⟩)) rfl rfl (calO_I rfl (by decide)) (ctor74 (p1 := 1) (p2 := 29) (p3 := 49) (b := 81) (by omega) a3) (fun r b_11 q => ?_)
  obtain ⟨rfl, y1, y2, y3, yf⟩ := q
  refine ⟨none, rfl, ?_⟩
  have hpb : PRE Z 82 2590 b_11 := hp_11.ext (m := 1) (s2 := 3) (by decide) (by omega) (by rw [y2, a2, hp_11.2.1]; rfl) (fun B b1 b2 => (yf B (by omega) (by omega)).trans (a4 B (by omega))) (fun j9 hj => match j9, hj with
    | 0, _ => y3
    | j9 + 1, h9 => absurd h9 (by omega))
  have hgb : gt b_11 0 = cO 11 [vR 1, vR 3, vR 17, vR 23, vR 29, vR 43, vR 49, vR 55, vR 69, vR 75, vI 0, vN, vN, vN, vN, vN, vN, vN, vI 0] := (yf 0 (by omega) (by omega)).trans hga
  refine xh_put (fs := [vR 1, vR 3, vR 17, vR 23, vR 29, vR 43, vR 49, vR 55, vR 69, vR 75, vI 0, vN, vN, vN, vN, vN, vN, vN, vI 0]) (dg dc109 65 rfl) rfl (by have := hpb.1; omega) hgb rfl rfl (fun h_12 e => ?_)
  have hp_12 : PRE Z 82 2590 h_12 := hpb.put0 e
  have hg_12 : gt h_12 0 = cO 11 [vR 1, vR 3, vR 17, vR 23, vR 29, vR 43, vR 49, vR 55, vR 69, vR 75, vI 0, vR 81, vN, vN, vN, vN, vN, vN, vI 0] := e.2.2.1
  refine xh_pu (ls' := [vR 0]) (st' := [vR 0]) (dg dc109 66 rfl) rfl rfl ?_
  refine xh_new (dg dc109 67 rfl) rfl rfl (fun a_12 e => ?_)
  obtain ⟨a1, a2, a3, a4⟩ := e
  rw [hp_12.1] at a1 a3 a4 ⊢
  have hga : gt a_12 0 = cO 11 [vR 1, vR 3, vR 17, vR 23, vR 29, vR 43, vR 49, vR 55, vR 69, vR 75, vI 0, vR 81, vN, vN, vN, vN, vN, vN, vI 0] := (a4 0 (by decide)).trans hg_12
  refine xh_pu (ls' := [vR 0]) (st' := [vR 82, vR 82, vR 0]) (dg dc109 68 rfl) rfl rfl ?_
  refine xh_pu (ls' := [vR 0]) (st' := [vR 0, vR 82, vR 82, vR 0]) (dg dc109 69 rfl) rfl rfl ?_
  refine xh_get (v := vR 1) (dg dc109 70 rfl) rfl (by omega) hga rfl ?_
  refine xh_pu (ls' := [vR 0]) (st' := [vR 0, vR 1, vR 82, vR 82, vR 0]) (dg dc109 71 rfl) rfl rfl ?_
  refine xh_get (v := vR 43) (dg dc109 72 rfl) rfl (by omega) hga rfl ?_
  refine xh_call (vs := [vR 82, vR 1, vR 43]) (st' := [vR 82, vR 0]) (Or.inr (Or.inr ⟨rfl, (dg dc109 73 rfl)⟩)) rfl rfl (calO_I rfl (by decide)) (ctor27 (p1 := 1) (p2 := 43) (b := 82) (by omega) a3) (fun r b_12 q => ?_)
  obtain ⟨rfl, y1, y2, y3, yf⟩ := q
  refine ⟨none, rfl, ?_⟩
  have hpb : PRE Z 83 2592 b_12 := hp_12.ext (m := 1) (s2 := 2) (by decide) (by omega) (by rw [y2, a2, hp_12.2.1]; rfl) (fun B b1 b2 => (yf B (by omega) (by omega)).trans (a4 B (by omega))) (fun j9 hj => match j9, hj with
    | 0, _ => y3
    | j9 + 1, h9 => absurd h9 (by omega))
  have hgb : gt b_12 0 = cO 11 [vR 1, vR 3, vR 17, vR 23, vR 29, vR 43, vR 49, vR 55, vR 69, vR 75, vI 0, vR 81, vN, vN, vN, vN, vN, vN, vI 0] := (yf 0 (by omega) (by omega)).trans hga
  refine xh_put (fs := [vR 1, vR 3, vR 17, vR 23, vR 29, vR 43, vR 49, vR 55, vR 69, vR 75, vI 0, vR 81, vN, vN, vN, vN, vN, vN, vI 0]) (dg dc109 74 rfl) rfl (by have := hpb.1; omega) hgb rfl rfl (fun h_13 e => ?_)
  have hp_13 : PRE Z 83 2592 h_13 := hpb.put0 e
  have hg_13 : gt h_13 0 = cO 11 [vR 1, vR 3, vR 17, vR 23, vR 29, vR 43, vR 49, vR 55, vR 69, vR 75, vI 0, vR 81, vR 82, vN, vN, vN, vN, vN, vI 0] := e.2.2.1
  refine xh_pu (ls' := [vR 0]) (st' := [vR 0]) (dg dc109 75 rfl) rfl rfl ?_
  refine xh_new (dg dc109 76 rfl) rfl rfl (fun a_13 e => ?_)
  obtain ⟨a1, a2, a3, a4⟩ := e
  rw [hp_13.1] at a1 a3 a4 ⊢
  have hga : gt a_13 0 = cO 11 [vR 1, vR 3, vR 17, vR 23, vR 29, vR 43, vR 49, vR 55, vR 69, vR 75, vI 0, vR 81, vR 82, vN, vN, vN, vN, vN, vI 0] := (a4 0 (by decide)).trans hg_13
  refine xh_pu (ls' := [vR 0]) (st' := [vR 83, vR 83, vR 0]) (dg dc109 77 rfl) rfl rfl ?_
  refine xh_call (vs := [vR 83]) (st' := [vR 83, vR 0]) (Or.inr (Or.inr ⟨rfl, (dg dc109 78 rfl)⟩)) rfl rfl (calO_I rfl (by decide)) (ctor37 (d := d + 1) (b := 83) a1.symm (by decide) a3) (fun r b_13 q => ?_)
  obtain ⟨rfl, y1, y2, y3, y4, y5, y6⟩ := q
  refine ⟨none, rfl, ?_⟩
  have hpb : PRE Z 157 3339 b_13 := hp_13.ext (m := 74) (s2 := 747) (by decide) (by omega) (by rw [y2, a2, hp_13.2.1]; rfl) (fun B b1 b2 => (y6 B (by omega)).trans (a4 B (by omega))) (fun j9 hj => by
    by_cases h2 : j9 < 2
    · have h3 : j9 = 0 ∨ j9 = 1 := by omega
      rcases h3 with rfl | rfl
      · exact y3
      · refine y4.trans (congrArg (cQ 12) (funext fun q9 => ?_))
        by_cases h4 : q9 < 12
        · have h5 : q9 = 0 ∨ q9 = 1 ∨ q9 = 2 ∨ q9 = 3 ∨ q9 = 4 ∨ q9 = 5 ∨ q9 = 6 ∨ q9 = 7 ∨ q9 = 8 ∨ q9 = 9 ∨ q9 = 10 ∨ q9 = 11 := by omega
          rcases h5 with rfl | rfl | rfl | rfl | rfl | rfl | rfl | rfl | rfl | rfl | rfl | rfl <;> rfl
        · rw [if_neg h4]
          exact (congrArg (Option.map fun q : Nat × Nat => q.2) (List.getElem?_eq_none (l := [(4, 85), (4, 91), (4, 97), (4, 103), (4, 109), (4, 115), (4, 121), (4, 127), (4, 133), (4, 139), (4, 145), (4, 151)]) (by show 12 ≤ q9; omega))).symm
    · have h3 := (y5 ((j9 - 2) / 6) (by omega)).at (Or.inr (Or.inr (Or.inr ⟨(j9 - 2) / 6, by omega, by omega⟩))) ((j9 - 2) % 6) (by omega)
      have h4 : 83 + 2 + 6 * ((j9 - 2) / 6) + (j9 - 2) % 6 = 83 + j9 := by omega
      rw [h4] at h3
      exact h3)
  have hgb : gt b_13 0 = cO 11 [vR 1, vR 3, vR 17, vR 23, vR 29, vR 43, vR 49, vR 55, vR 69, vR 75, vI 0, vR 81, vR 82, vN, vN, vN, vN, vN, vI 0] := (y6 0 (by omega)).trans hga
  refine xh_put (fs := [vR 1, vR 3, vR 17, vR 23, vR 29, vR 43, vR 49, vR 55, vR 69, vR 75, vI 0, vR 81, vR 82, vN, vN, vN, vN, vN, vI 0]) (dg dc109 79 rfl) rfl (by have := hpb.1; omega) hgb rfl rfl (fun h_14 e => ?_)
  have hp_14 : PRE Z 157 3339 h_14 := hpb.put0 e
  have hg_14 : gt h_14 0 = cO 11 [vR 1, vR 3, vR 17, vR 23, vR 29, vR 43, vR 49, vR 55, vR 69, vR 75, vI 0, vR 81, vR 82, vR 83, vN, vN, vN, vN, vI 0] := e.2.2.1
  refine xh_pu (ls' := [vR 0]) (st' := [vR 0]) (dg dc109 80 rfl) rfl rfl ?_
  refine xh_new (dg dc109 81 rfl) rfl rfl (fun a_14 e => ?_)
  obtain ⟨a1, a2, a3, a4⟩ := e
  rw [hp_14.1] at a1 a3 a4 ⊢
  have hga : gt a_14 0 = cO 11 [vR 1, vR 3, vR 17, vR 23, vR 29, vR 43, vR 49, vR 55, vR 69, vR 75, vI 0, vR 81, vR 82, vR 83, vN, vN, vN, vN, vI 0] := (a4 0 (by decide)).trans hg_14
  refine xh_pu (ls' := [vR 0]) (st' := [vR 157, vR 157, vR 0]) (dg dc109 82 rfl) rfl rfl ?_
  refine xh_pu (ls' := [vR 0]) (st' := [vR 0, vR 157, vR 157, vR 0]) (dg dc109 83 rfl) rfl rfl ?_
  refine xh_get (v := vR 3) (dg dc109 84 rfl) rfl (by omega) hga rfl ?_
  refine xh_pu (ls' := [vR 0]) (st' := [vR 0, vR 3, vR 157, vR 157, vR 0]) (dg dc109 85 rfl) rfl rfl ?_
  refine xh_get (v := vR 17) (dg dc109 86 rfl) rfl (by omega) hga rfl ?_
  refine xh_call (vs := [vR 157, vR 3, vR 17]) (st' := [vR 157, vR 0]) (Or.inr (Or.inr ⟨rfl, (dg dc109 87 rfl)⟩)) rfl rfl (calO_I rfl (by decide)) (ctor71 (p1 := 3) (p2 := 17) (b := 157) (by omega) a3) (fun r b_14 q => ?_)
  obtain ⟨rfl, y1, y2, y3, yf⟩ := q
  refine ⟨none, rfl, ?_⟩
  have hpb : PRE Z 158 3343 b_14 := hp_14.ext (m := 1) (s2 := 4) (by decide) (by omega) (by rw [y2, a2, hp_14.2.1]; rfl) (fun B b1 b2 => (yf B (by omega) (by omega)).trans (a4 B (by omega))) (fun j9 hj => match j9, hj with
    | 0, _ => y3
    | j9 + 1, h9 => absurd h9 (by omega))
  have hgb : gt b_14 0 = cO 11 [vR 1, vR 3, vR 17, vR 23, vR 29, vR 43, vR 49, vR 55, vR 69, vR 75, vI 0, vR 81, vR 82, vR 83, vN, vN, vN, vN, vI 0] := (yf 0 (by omega) (by omega)).trans hga
  refine xh_put (fs := [vR 1, vR 3, vR 17, vR 23, vR 29, vR 43, vR 49, vR 55, vR 69, vR 75, vI 0, vR 81, vR 82, vR 83, vN, vN, vN, vN, vI 0]) (dg dc109 88 rfl) rfl (by have := hpb.1; omega) hgb rfl rfl (fun h_15 e => ?_)
  have hp_15 : PRE Z 158 3343 h_15 := hpb.put0 e
  have hg_15 : gt h_15 0 = cO 11 [vR 1, vR 3, vR 17, vR 23, vR 29, vR 43, vR 49, vR 55, vR 69, vR 75, vI 0, vR 81, vR 82, vR 83, vR 157, vN, vN, vN, vI 0] := e.2.2.1
  refine xh_pu (ls' := [vR 0]) (st' := [vR 0]) (dg dc109 89 rfl) rfl rfl ?_
  refine xh_new (dg dc109 90 rfl) rfl rfl (fun a_15 e => ?_)
  obtain ⟨a1, a2, a3, a4⟩ := e
  rw [hp_15.1] at a1 a3 a4 ⊢
  have hga : gt a_15 0 = cO 11 [vR 1, vR 3, vR 17, vR 23, vR 29, vR 43, vR 49, vR 55, vR 69, vR 75, vI 0, vR 81, vR 82, vR 83, vR 157, vN, vN, vN, vI 0] := (a4 0 (by decide)).trans hg_15
  refine xh_pu (ls' := [vR 0]) (st' := [vR 158, vR 158, vR 0]) (dg dc109 91 rfl) rfl rfl ?_
  refine xh_pu (ls' := [vR 0]) (st' := [vR 0, vR 158, vR 158, vR 0]) (dg dc109 92 rfl) rfl rfl ?_
  refine xh_get (v := vR 3) (dg dc109 93 rfl) rfl (by omega) hga rfl ?_
  refine xh_call (vs := [vR 158, vR 3]) (st' := [vR 158, vR 0]) (Or.inr (Or.inr ⟨rfl, (dg dc109 94 rfl)⟩)) rfl rfl (calO_I rfl (by decide)) (ctor101 (p1 := 3) (b := 158) (by omega) a3) (fun r b_15 q => ?_)
  obtain ⟨rfl, y1, y2, y3, y4, y5, yf⟩ := q
  rw [a1] at y3 y4 y5
  refine ⟨none, rfl, ?_⟩
  have hpb : PRE Z 161 3366 b_15 := hp_15.ext (m := 3) (s2 := 23) (by decide) (by omega) (by rw [y2, a2, hp_15.2.1]; rfl) (fun B b1 b2 => (yf B (by omega) (by omega)).trans (a4 B (by omega))) (fun j9 hj => match j9, hj with
    | 0, _ => y3
    | 1, _ => y4
    | 2, _ => y5
    | j9 + 3, h9 => absurd h9 (by omega))
  have hgb : gt b_15 0 = cO 11 [vR 1, vR 3, vR 17, vR 23, vR 29, vR 43, vR 49, vR 55, vR 69, vR 75, vI 0, vR 81, vR 82, vR 83, vR 157, vN, vN, vN, vI 0] := (yf 0 (by omega) (by omega)).trans hga
  refine xh_put (fs := [vR 1, vR 3, vR 17, vR 23, vR 29, vR 43, vR 49, vR 55, vR 69, vR 75, vI 0, vR 81, vR 82, vR 83, vR 157, vN, vN, vN, vI 0]) (dg dc109 95 rfl) rfl (by have := hpb.1; omega) hgb rfl rfl (fun h_16 e => ?_)
  have hp_16 : PRE Z 161 3366 h_16 := hpb.put0 e
  have hg_16 : gt h_16 0 = cO 11 [vR 1, vR 3, vR 17, vR 23, vR 29, vR 43, vR 49, vR 55, vR 69, vR 75, vI 0, vR 81, vR 82, vR 83, vR 157, vR 158, vN, vN, vI 0] := e.2.2.1
  refine xh_pu (ls' := [vR 0]) (st' := [vR 0]) (dg dc109 96 rfl) rfl rfl ?_
  refine xh_new (dg dc109 97 rfl) rfl rfl (fun a_16 e => ?_)
  obtain ⟨a1, a2, a3, a4⟩ := e
  rw [hp_16.1] at a1 a3 a4 ⊢
  have hga : gt a_16 0 = cO 11 [vR 1, vR 3, vR 17, vR 23, vR 29, vR 43, vR 49, vR 55, vR 69, vR 75, vI 0, vR 81, vR 82, vR 83, vR 157, vR 158, vN, vN, vI 0] := (a4 0 (by decide)).trans hg_16
  refine xh_pu (ls' := [vR 0]) (st' := [vR 161, vR 161, vR 0]) (dg dc109 98 rfl) rfl rfl ?_
  refine xh_pu (ls' := [vR 0]) (st' := [vR 0, vR 161, vR 161, vR 0]) (dg dc109 99 rfl) rfl rfl ?_
  refine xh_get (v := vR 3) (dg dc109 100 rfl) rfl (by omega) hga rfl ?_
  refine xh_pu (ls' := [vR 0]) (st' := [vR 0, vR 3, vR 161, vR 161, vR 0]) (dg dc109 101 rfl) rfl rfl ?_
  refine xh_get (v := vR 23) (dg dc109 102 rfl) rfl (by omega) hga rfl ?_
  refine xh_pu (ls' := [vR 0]) (st' := [vR 0, vR 23, vR 3, vR 161, vR 161, vR 0]) (dg dc109 103 rfl) rfl rfl ?_
  refine xh_get (v := vR 1) (dg dc109 104 rfl) rfl (by omega) hga rfl ?_
  refine xh_call (vs := [vR 161, vR 3, vR 23, vR 1]) (st' := [vR 161, vR 0]) (Or.inr (Or.inr ⟨rfl, (dg dc109 105 rfl)⟩)) rfl rfl (calO_I rfl (by decide)) (ctor40 (p1 := 3) (p2 := 23) (p3 := 1) (b := 161) (by omega) a3) (fun r b_16 q => ?_)
  obtain ⟨rfl, y1, y2, y3, y4, y5, y6, yf⟩ := q
  rw [a1] at y3 y4 y5 y6
  refine ⟨none, rfl, ?_⟩
  have hpb : PRE Z 165 3515 b_16 := hp_16.ext (m := 4) (s2 := 149) (by decide) (by omega) (by rw [y2, a2, hp_16.2.1]; rfl) (fun B b1 b2 => (yf B (by omega) (by omega)).trans (a4 B (by omega))) (fun j9 hj => match j9, hj with
    | 0, _ => y3
    | 1, _ => y4
    | 2, _ => y5
    | 3, _ => y6
    | j9 + 4, h9 => absurd h9 (by omega))
  have hgb : gt b_16 0 = cO 11 [vR 1, vR 3, vR 17, vR 23, vR 29, vR 43, vR 49, vR 55, vR 69, vR 75, vI 0, vR 81, vR 82, vR 83, vR 157, vR 158, vN, vN, vI 0] := (yf 0 (by omega) (by omega)).trans hga
  refine xh_put (fs := [vR 1, vR 3, vR 17, vR 23, vR 29, vR 43, vR 49, vR 55, vR 69, vR 75, vI 0, vR 81, vR 82, vR 83, vR 157, vR 158, vN, vN, vI 0]) (dg dc109 106 rfl) rfl (by have := hpb.1; omega) hgb rfl rfl (fun h_17 e => ?_)
  have hp_17 : PRE Z 165 3515 h_17 := hpb.put0 e
  have hg_17 : gt h_17 0 = cO 11 [vR 1, vR 3, vR 17, vR 23, vR 29, vR 43, vR 49, vR 55, vR 69, vR 75, vI 0, vR 81, vR 82, vR 83, vR 157, vR 158, vR 161, vN, vI 0] := e.2.2.1
  refine xh_pu (ls' := [vR 0]) (st' := [vR 0]) (dg dc109 107 rfl) rfl rfl ?_
  refine xh_pu (ls' := [vR 0]) (st' := [vN, vR 0]) (dg dc109 108 rfl) rfl rfl ?_
  refine xh_put (fs := [vR 1, vR 3, vR 17, vR 23, vR 29, vR 43, vR 49, vR 55, vR 69, vR 75, vI 0, vR 81, vR 82, vR 83, vR 157, vR 158, vR 161, vN, vI 0]) (dg dc109 109 rfl) rfl (by have := hp_17.1; omega) hg_17 rfl rfl (fun h_18 e => ?_)
  have hp_18 : PRE Z 165 3515 h_18 := hp_17.put0 e
  have hg_18 : gt h_18 0 = cO 11 [vR 1, vR 3, vR 17, vR 23, vR 29, vR 43, vR 49, vR 55, vR 69, vR 75, vI 0, vR 81, vR 82, vR 83, vR 157, vR 158, vR 161, vN, vI 0] := e.2.2.1
  refine xh_pu (ls' := [vR 0]) (st' := [vR 0]) (dg dc109 110 rfl) rfl rfl ?_
  refine xh_pu (ls' := [vR 0]) (st' := [vI 0, vR 0]) (dg dc109 111 rfl) rfl rfl ?_
  refine xh_put (fs := [vR 1, vR 3, vR 17, vR 23, vR 29, vR 43, vR 49, vR 55, vR 69, vR 75, vI 0, vR 81, vR 82, vR 83, vR 157, vR 158, vR 161, vN, vI 0]) (dg dc109 112 rfl) rfl (by have := hp_18.1; omega) hg_18 rfl rfl (fun h_19 e => ?_)
  have hp_19 : PRE Z 165 3515 h_19 := hp_18.put0 e
  have hg_19 : gt h_19 0 = cO 11 [vR 1, vR 3, vR 17, vR 23, vR 29, vR 43, vR 49, vR 55, vR 69, vR 75, vI 0, vR 81, vR 82, vR 83, vR 157, vR 158, vR 161, vN, vI 0] := e.2.2.1
  exact xh_vre (dg dc109 113 rfl) rfl ⟨rfl, hp_19, hg_19⟩
theorem Rep.init {Z : Nat × (Nat → Int)} {h : AH} (hp : PRE Z 182 SL0 h) (hg : gt h 0 = cO 11 [vR 1, vR 3, vR 17, vR 23, vR 29, vR 43, vR 49, vR 55, vR 69, vR 75, vI 0, vR 81, vR 82, vR 83, vR 157, vR 158, vR 161, vN, vI 0]) : Rep Z M0 h := by
  obtain ⟨p1, p2, p3, p4⟩ := hp
  have h17 : M0 0 17 = 0 := rfl
  have h99 : M0 999 0 = 0 := by decide +kernel
  refine ⟨fun A a s hL => ?_, by rw [h99]; decide, by rw [h99, if_pos h17, p1]; rfl, by rw [h99, if_pos h17, p2]; rfl, fun h9 => absurd h17 h9, p4⟩
  obtain ⟨rfl, q1, q2⟩ := hL.le h17
  by_cases hA : A = 0
  · subst hA
    rw [hg, ← q2]
    rfl
  · rw [p3 A (by omega) q1, q2]
theorem gt_00 {f : Nat → AC} {a : Nat} : gt (0, 0, f) a = f a := rfl
set_option maxRecDepth 4000 in
theorem law_init {Z : Nat × (Nat → Int)} {d : Nat} {res : AR × MM} (hE : EX Z (d + 5) 332 20 [vR E0, vR 0, vR 165, vR 181, vU, vU, vU] [] M0 res) : XH (d + 5) 332 0 (ent 332 [vR E0]) [] (0, 0, xc Z) (fun r h1 => r = res.1 ∧ Rep Z res.2 h1) := by
  show XH (d + 5) 332 0 [vR E0, vU, vU, vU, vU, vU, vU] [] (0, 0, xc Z) _
  refine xh_new (dg dc332_0 0 rfl) rfl rfl (fun h_1 e => ?_)
  obtain ⟨a1, a2, a3, a4⟩ := e
  have hE9 : 1000 < E0 := by decide
  have hp : PRE Z 1 19 h_1 := ⟨a1, a2, fun a h1 h2 => absurd h1 (by omega), fun a ha => (a4 a (by show a ≠ 0; omega)).trans gt_00⟩
  refine xh_pu (ls' := [vR E0, vU, vU, vU, vU, vU, vU]) (st' := [vR 0, vR 0]) (dg dc332_0 1 rfl) rfl rfl ?_
  refine xh_call (vs := [vR 0]) (st' := [vR 0]) (Or.inr (Or.inr ⟨rfl, (dg dc332_0 2 rfl)⟩)) rfl rfl (calO_I rfl (by decide)) (ctor109 (d := d) hp a3) (fun r h_2 q => ?_)
  obtain ⟨rfl, hp2, hg2⟩ := q
  refine ⟨none, rfl, ?_⟩
  refine xh_pu (ls' := [vR E0, vR 0, vU, vU, vU, vU, vU]) (st' := []) (dg dc332_0 3 rfl) rfl rfl ?_
  refine xh_new (dg dc332_0 4 rfl) rfl rfl (fun h_3 e => ?_)
  obtain ⟨b1, b2, b3, b4⟩ := e
  rw [hp2.1] at b1 b3 b4 ⊢
  refine xh_pu (ls' := [vR E0, vR 0, vU, vU, vU, vU, vU]) (st' := [vR 165, vR 165]) (dg dc332_0 5 rfl) rfl rfl ?_
  refine xh_call (vs := [vR 165]) (st' := [vR 165]) (Or.inr (Or.inr ⟨rfl, (dg dc332_0 6 rfl)⟩)) rfl rfl (calO_I rfl (by decide)) (ctor165 (b := 165) (by omega) b3) (fun r h_4 q => ?_)
  obtain ⟨rfl, y1, y2, y3, y4, y5, y6, y7, y8, y9, y10, y11, y12, y13, y14, y15, y16, y17, y18, yf⟩ := q
  rw [b1] at y3 y4 y5 y6 y7 y8 y9 y10 y11 y12 y13 y14 y15 y16 y17 y18
  refine ⟨none, rfl, ?_⟩
  have hp4 : PRE Z 181 35190 h_4 := hp2.ext (m := 16) (s2 := 31675) (by decide) (by omega) (by rw [y2, b2, hp2.2.1]; rfl) (fun B c1 c2 => (yf B (by omega) (by omega)).trans (b4 B (by omega))) (fun j9 hj => match j9, hj with
    | 0, _ => y3
    | 1, _ => y4
    | 2, _ => y5
    | 3, _ => y6
    | 4, _ => y7
    | 5, _ => y8
    | 6, _ => y9
    | 7, _ => y10
    | 8, _ => y11
    | 9, _ => y12
    | 10, _ => y13
    | 11, _ => y14
    | 12, _ => y15
    | 13, _ => y16
    | 14, _ => y17
    | 15, _ => y18
    | j9 + 16, h9 => absurd h9 (by omega))
  have hg4 := ((yf 0 (by omega) (by omega)).trans (b4 0 (by omega))).trans hg2
  refine xh_pu (ls' := [vR E0, vR 0, vR 165, vU, vU, vU, vU]) (st' := []) (dg dc332_0 7 rfl) rfl rfl ?_
  refine xh_pu (ls' := [vR E0, vR 0, vR 165, vU, vU, vU, vU]) (st' := [vI 1]) (dg dc332_0 8 rfl) rfl rfl ?_
  refine xh_newa (n9 := 1) (dg dc332_0 9 rfl) rfl rfl (fun h_5 e => ?_)
  obtain ⟨c1, c2, c3, c4⟩ := e
  rw [hp4.1] at c1 c3 c4 ⊢
  have hp5 : PRE Z 182 SL0 h_5 := hp4.ext (m := 1) (s2 := 1) (by decide) (by omega) (by rw [c2, hp4.2.1]) (fun B d1 d2 => c4 B (by omega)) (fun j9 hj => match j9, hj with
    | 0, _ => c3
    | j9 + 1, h9 => absurd h9 (by omega))
  refine xh_pu (ls' := [vR E0, vR 0, vR 165, vR 181, vU, vU, vU]) (st' := []) (dg dc332_0 10 rfl) rfl rfl ?_
  exact hE.toXH (Rep.init hp5 ((c4 0 (by omega)).trans hg4))
