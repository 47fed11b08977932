/-! ===== GATE, the reference: the walk over all orders ===== -/
def gHm (w : Nat → Int) (b : Nat) : Int := if frB w b = true then oB w (b : Int) 5 + oB w (b : Int) 3 else 0
def gDu (w : Nat → Int) (b : Nat) : Int := if (b : Int) < w 3 then oB w (b : Int) 4 else 0
theorem frB_t {w : Nat → Int} {b : Nat} (h : frB w b = true) : (b : Int) < w 3 ∧ 0 ≤ oB w (b : Int) 5 := by
  unfold frB at h
  rw [Bool.and_eq_true] at h
  exact ⟨of_decide_eq_true h.1, of_decide_eq_true h.2⟩
theorem gHm_J {w : Nat → Int} {k : Nat} (hC : WC k w) (hB : WB w) (hk : k ≤ 600) (b : Nat) : 0 ≤ gHm w b ∧ gHm w b ≤ 200000 := by
  have c6 := hC.2.2.2.2.2.2.1
  unfold gHm
  split
  · rename_i h
    have h2 := frB_t h
    have := hB (b : Int) (by omega) h2.1
    omega
  · omega
theorem gDu_J {w : Nat → Int} (hB : WB w) (b : Nat) : 0 ≤ gDu w b ∧ gDu w b ≤ 999 := by
  unfold gDu
  split
  · rename_i h
    have := hB (b : Int) (by omega) h
    omega
  · omega
section GateR
variable {M : MM} {k : Nat}
theorem late_run {K : Int → MM → OR} (hC : WC k (M 166)) (hB : WB (M 166)) (hk : k ≤ 600) {n : Nat} (hn : n ≤ 7) : ∀ (r : List Nat) (F i : Nat) (a : Int × Int) (h : Int), h = a.1 - 1 → r.length + i = n → r.length < F → (∀ b, b ∈ r → frB (M 166) b = true) → (∀ j, j < r.length → M 178 (i + j) = lsG r j) → (0 ≤ a.1 ∧ a.1 ≤ 200000 + i) → (0 ≤ a.2 ∧ a.2 ≤ 200000 + i) → mo_lateness_L7 (n : Int) K F h a.2 (i : Int) M = K (r.foldl (gst (gHm (M 166)) (gDu (M 166))) a).2 M
  | [], F, i, a, h, ha, hl, hF, hf, hr, b1, b2 => by
    obtain ⟨f, rfl⟩ : ∃ n, F = n + 1 := ⟨F - 1, by omega⟩
    rw [List.length_nil] at hl
    rw [mo_lateness_L7, bq_ge (by omega) (by omega), if_pos (by omega)]; rfl
  | b :: r, F, i, a, h, ha, hl, hF, hf, hr, b1, b2 => by
    obtain ⟨f, rfl⟩ : ∃ n, F = n + 1 := ⟨F - 1, by omega⟩
    rw [List.length_cons] at hl hF
    have e0 : M 178 i = (b : Int) := by
      have := hr 0 (by rw [List.length_cons]; omega)
      exact this
    have hb := hf b (List.mem_cons_self ..)
    have hb2 := frB_t hb
    have hH := gHm_J hC hB hk b
    have hD := gDu_J hB b
    have eH : (if 0 ≤ oB (M 166) (b : Int) 5 then oB (M 166) (b : Int) 5 + oB (M 166) (b : Int) 3 else -1) = gHm (M 166) b := by
      unfold gHm
      rw [if_pos hb2.2, if_pos hb]
    have eD : oB (M 166) (b : Int) 4 = gDu (M 166) b := by
      unfold gDu
      rw [if_pos hb2.1]
    have c3 := hC.2.2.2.1
    have m1 := mx_l a.1 (gHm (M 166) b)
    have m2 : mx a.1 (gHm (M 166) b) ≤ 200000 + i := mx_le (by omega) (by omega)
    have m3 := mx_l a.2 (mx a.1 (gHm (M 166) b) - gDu (M 166) b)
    have m4 : mx a.2 (mx a.1 (gHm (M 166) b) - gDu (M 166) b) ≤ 200000 + i := mx_le (by omega) (by omega)
    rw [mo_lateness_L7, bq_ge (by omega) (by omega), if_neg (by omega), bq_in (by omega) (by omega), Int.toNat_natCast, e0, mo_homeOf_b hC hB (by omega) (by omega) hb2.1, eH, bq_in (by omega) (by omega), e0, mo_ofBrother_b (by omega) (by omega) (by decide) (by decide), eD, show h + 1 = a.1 by omega, mx_v (by omega) (by omega), mx_v (by omega) (by omega), show (i : Int) + 1 = ((i + 1 : Nat) : Int) by omega]
    have := late_run (K := K) hC hB hk hn r f (i + 1) (gst (gHm (M 166)) (gDu (M 166)) a b) (mx a.1 (gHm (M 166) b)) (by show _ = mx a.1 (gHm (M 166) b) + 1 - 1; omega) (by omega) (by omega) (fun c hc => hf c (List.mem_cons_of_mem _ hc)) (fun j hj => by
      have := hr (j + 1) (by rw [List.length_cons]; omega)
      rw [show i + 1 + j = i + (j + 1) by omega]
      exact this) (by show 0 ≤ mx a.1 _ + 1 ∧ mx a.1 _ + 1 ≤ _; omega) (by show 0 ≤ mx a.2 _ ∧ mx a.2 _ ≤ _; omega)
    exact this
theorem lateness_b {K : Int → MM → OR} (hC : WC k (M 166)) (hB : WB (M 166)) (hk : k ≤ 600) {o : List Nat} (hn : o.length ≤ 7) (hf : ∀ b, b ∈ o → frB (M 166) b = true) (hM : RLst o M) : bI (mo_lateness (o.length : Int) M) K = K (gHT (gHm (M 166)) (gDu (M 166)) o).2 M := by
  unfold mo_lateness
  have := late_run (K := fun v3_7 M_8 => some (rI v3_7, M_8)) hC hB hk hn o FU 0 (0, 0) (-1) rfl (by omega) (FU_gt (by omega)) hf (fun j hj => by rw [Nat.zero_add]; exact hM j hj) ⟨by decide, by show (0 : Int) ≤ 200000 + ((0 : Nat) : Int); omega⟩ ⟨by decide, by show (0 : Int) ≤ 200000 + ((0 : Nat) : Int); omega⟩
  rw [show mo_lateness_L7 (o.length : Int) _ FU (-1) 0 0 M = _ from this, bI_I]; rfl
def gRR (N : Nat) (s : Int × List Nat) (v : Int) (M : MM) : Prop := (s.1 = 1000000000 ∧ v = -1) ∨ ((0 ≤ s.1 ∧ s.1 ≤ 300000) ∧ v = s.1 ∧ s.2.length = N ∧ ∀ j, j < N → M 179 j = lsG s.2 j)
def gNx (v1 n : Int) (K : Int → MM → OR) (F : Nat) (v : Int) (M : MM) : OR := bI (mo_nextOrder n M) fun z M' => bif cmpB .ne z 0 then mo_gate_L47 v1 n K F v M' else K v M'
theorem gate_one {v1 : Int} {K : Int → MM → OR} {F : Nat} {v : Int} {s : Int × List Nat} {o : List Nat} (hC : WC k (M 166)) (hB : WB (M 166)) (hk : k ≤ 600) (hn : o.length ≤ 7) (hf : ∀ b, b ∈ o → frB (M 166) b = true) (hM : RLst o M) (hR : gRR o.length s v M) : ∃ v' M', mo_gate_L47 v1 (o.length : Int) K (F + 1) v M = gNx v1 (o.length : Int) K F v' M' ∧ (∀ p, p ≠ 179 → M' p = M p) ∧ gRR o.length (gfs (gHm (M 166)) (gDu (M 166)) o s) v' M' := by
  have hJ := gHT_J (z := 200000) (by decide) (gHm_J hC hB hk) (fun b => (gDu_J hB b).1) o
  generalize hL : (gHT (gHm (M 166)) (gDu (M 166)) o).2 = L at hJ
  have hcond : (v < 0 ∨ L < v) ↔ L < s.1 := by
    rcases hR with g | g <;> omega
  have hIv : I32 v := by rcases hR with g | g <;> omega
  unfold gfs
  rw [hL]
  by_cases hlt : L < s.1
  · rw [if_pos hlt]
    have copy : ∀ K2 : MM → OR, mo_gate_L73 v1 (o.length : Int) L K2 FU 0 M = K2 (flM M 179 0 o.length (M 178)) := by
      intro K2
      have := fl_run0 (L := fun F i M => mo_gate_L73 v1 (o.length : Int) L K2 F i M) (K := K2) (M := M) (a := 179) (o := 0) (N := o.length) (F := FU) (f := M 178) (FU_gt (by omega)) (fun m i hi => ?_) (fun m => ?_)
      · rw [Nat.zero_add] at this
        exact this
      · rw [mo_gate_L73, bq_ge (by omega) (by omega), if_neg (by omega), bq_in (by omega) (by omega), bq_in (by omega) (by omega), sM_eq, Int.toNat_natCast, flM_ne (by decide), Nat.zero_add]
      · rw [mo_gate_L73, bq_ge (by omega) (by omega), if_pos (by omega)]
    have J67 : ∀ v3 : Int, mo_gate_J67 v1 (o.length : Int) (mo_gate_L47 v1 (o.length : Int) K F) K L M = gNx v1 (o.length : Int) K F L (flM M 179 0 o.length (M 178)) := by
      intro v3
      unfold mo_gate_J67 gNx
      exact copy _
    refine ⟨L, flM M 179 0 o.length (M 178), ?_, fun p hp => flM_ne hp, Or.inr ⟨⟨hJ.2.1, by show L ≤ 300000; omega⟩, rfl, rfl, fun j hj => ?_⟩⟩
    · rw [mo_gate_L47, lateness_b hC hB hk hn hf hM, hL, bq_lt hIv (by decide)]
      by_cases h0 : v < 0
      · rw [if_pos h0]
        exact J67 v
      · rw [if_neg h0, bq_lt (by omega) hIv, if_pos (by omega)]
        exact J67 v
    · rw [flM_ap, if_pos (by omega), Nat.sub_zero]
      exact hM j hj
  · rw [if_neg hlt]
    refine ⟨v, M, ?_, fun _ _ => rfl, hR⟩
    rw [mo_gate_L47, lateness_b hC hB hk hn hf hM, hL, bq_lt hIv (by decide), if_neg (by omega), bq_lt (by omega) hIv, if_neg (by omega)]; rfl
def gFa : Nat → Nat
  | 0 => 1
  | n + 1 => (n + 1) * gFa n
def gFr (M M' : MM) : Prop := ∀ p, p ≠ 178 → p ≠ 179 → M' p = M p
theorem gRR_fr {N : Nat} {s : Int × List Nat} {v : Int} {M M' : MM} (h : M' 179 = M 179) (H : gRR N s v M) : gRR N s v M' := by
  unfold gRR at *
  rw [h]; exact H
theorem gate_loop {v1 : Int} {K : Int → MM → OR} {w : Nat → Int} {n N c : Nat} {pre : List Nat} (hN : N ≤ 7) (hp : pre.length + (n + 1) = N)
    (ih : ∀ (A : List Nat) (l : List Nat) (b : Nat) (s : Int × List Nat) (v : Int) (M : MM) (F : Nat), l.length = n → l.Pairwise (· < ·) → (∀ c, c ∈ (pre ++ [b]) ++ l → frB w c = true) → M 166 = w → RLst ((pre ++ [b]) ++ l) M → gRR N s v M → ∃ v' M', mo_gate_L47 v1 (N : Int) K (F + c) v M = gNx v1 (N : Int) K F v' M' ∧ gFr M M' ∧ RLst ((pre ++ [b]) ++ l.reverse) M' ∧ gRR N (gW (gHm w) (gDu w) n (pre ++ [b]) l s) v' M') :
    ∀ (B : List Nat) (b : Nat) (A : List Nat) (s : Int × List Nat) (v : Int) (M : MM) (F : Nat), (A ++ b :: B).length = n + 1 → (A ++ b :: B).Pairwise (· < ·) → (∀ x, x ∈ pre ++ (A ++ b :: B) → frB w x = true ∧ x < 7) → M 166 = w → RLst (pre ++ b :: (A ++ B)) M → gRR N s v M →
      ∃ v' M', mo_gate_L47 v1 (N : Int) K (F + (B.length + 1) * c) v M = gNx v1 (N : Int) K F v' M' ∧ gFr M M' ∧ RLst (pre ++ (A ++ b :: B).reverse) M' ∧ gRR N (gR (gW (gHm w) (gDu w) n) pre A (b :: B) s) v' M'
  | [], b, A, s, v, M, F, hl, hs, hf, hw, hM, hR => by
    have hl' : A.length = n := by simp at hl; omega
    rw [List.append_nil] at hM
    obtain ⟨v1', M1, q1, q2, q3, q4⟩ := ih A A b s v M F hl' (List.pairwise_append.mp hs).1 (fun x hx => (hf x (by
      simp only [List.mem_append, List.mem_cons, List.mem_nil_iff, or_false] at hx ⊢
      rcases hx with (g | g) | g
      · exact Or.inl g
      · exact Or.inr (Or.inr g)
      · exact Or.inr (Or.inl g))).1) hw (by rw [List.append_assoc]; exact hM) hR
    refine ⟨v1', M1, ?_, q2, ?_, ?_⟩
    · rw [List.length_nil, Nat.zero_add, Nat.one_mul]; exact q1
    · have e : pre ++ (A ++ [b]).reverse = (pre ++ [b]) ++ A.reverse := by simp
      rw [e]; exact q3
    · show gRR N (gR (gW (gHm w) (gDu w) n) pre (A ++ [b]) [] (gW (gHm w) (gDu w) n (pre ++ [b]) (A ++ []) s)) v1' M1
      rw [List.append_nil]
      exact q4
  | b' :: B, b, A, s, v, M, F, hl, hs, hf, hw, hM, hR => by
    have hl' : (A ++ b' :: B).length = n := by simp at hl ⊢; omega
    have hs2 := List.pairwise_append.mp hs
    have hs3 := List.pairwise_cons.mp hs2.2.1
    have hdel : (A ++ b' :: B).Pairwise (· < ·) := List.pairwise_append.mpr ⟨hs2.1, hs3.2, fun a ha c hc => hs2.2.2 a ha c (List.mem_cons_of_mem _ hc)⟩
    obtain ⟨v2, M1, q1, q2, q3, q4⟩ := ih A (A ++ b' :: B) b s v M (F + (B.length + 1) * c) hl' hdel (fun x hx => (hf x (by
      simp only [List.mem_append, List.mem_cons, List.mem_nil_iff, or_false] at hx ⊢
      rcases hx with (g | g) | g | g | g
      · exact Or.inl g
      · exact Or.inr (Or.inr (Or.inl g))
      · exact Or.inr (Or.inl g)
      · exact Or.inr (Or.inr (Or.inr (Or.inl g)))
      · exact Or.inr (Or.inr (Or.inr (Or.inr g))))).1) hw (by rw [List.append_assoc]; exact hM) hR
    have hNN : N = (pre ++ (A ++ b :: b' :: B)).length := by rw [List.length_append, hl]; omega
    obtain ⟨M2, r1, r2, r3⟩ := next_list (M := M1) (n := N) (pre := pre) hs (fun x hx => (hf x hx).2) hNN hN (by
      rw [List.append_assoc] at q3; exact q3)
    obtain ⟨v3, M3, t1, t2, t3, t4⟩ := gate_loop hN hp ih B b' (A ++ [b]) (gW (gHm w) (gDu w) n (pre ++ [b]) (A ++ b' :: B) s) v2 M2 F (by simp at hl ⊢; omega) (by rw [List.append_assoc]; exact hs) (fun x hx => hf x (by rw [List.append_assoc] at hx; exact hx)) (by rw [r2 _ (by decide), q2 _ (by decide) (by decide), hw]) (by rw [List.append_assoc]; exact r3) (gRR_fr (r2 179 (by decide)) q4)
    refine ⟨v3, M3, ?_, fun p h1 h2 => by rw [t2 p h1 h2, r2 p h1, q2 p h1 h2], ?_, t4⟩
    · rw [List.length_cons, show F + (B.length + 1 + 1) * c = F + (B.length + 1) * c + c by rw [Nat.add_mul (B.length + 1) 1 c, Nat.one_mul, Nat.add_assoc], q1]
      unfold gNx at *
      rw [r1, bI_I, bq_ne (by decide) (by decide), if_neg (by decide)]
      exact t1
    · rw [List.append_assoc] at t3
      exact t3
theorem gate_walk {v1 : Int} {K : Int → MM → OR} {w : Nat → Int} {N : Nat} (hC : WC k w) (hB : WB w) (hk : k ≤ 600) (hN : N ≤ 7) : ∀ (n : Nat) (pre l : List Nat) (s : Int × List Nat) (v : Int) (M : MM) (F : Nat), l.length = n → pre.length + n = N → l.Pairwise (· < ·) → (∀ x, x ∈ pre ++ l → frB w x = true) → M 166 = w → RLst (pre ++ l) M → gRR N s v M →
    ∃ v' M', mo_gate_L47 v1 (N : Int) K (F + gFa n) v M = gNx v1 (N : Int) K F v' M' ∧ gFr M M' ∧ RLst (pre ++ l.reverse) M' ∧ gRR N (gW (gHm w) (gDu w) n pre l s) v' M'
  | 0, pre, l, s, v, M, F, hl, hp, hs, hf, hw, hM, hR => by
    obtain rfl : l = [] := List.length_eq_zero_iff.mp hl
    rw [List.append_nil] at hf hM
    obtain rfl : pre.length = N := hp
    subst hw
    obtain ⟨v', M', q1, q2, q3⟩ := gate_one (v1 := v1) (K := K) (F := F) hC hB hk hN hf hM hR
    refine ⟨v', M', q1, fun p h1 h2 => q2 p h2, ?_, q3⟩
    rw [List.reverse_nil, List.append_nil]
    intro j hj
    rw [q2 178 (by decide)]
    exact hM j hj
  | n + 1, pre, [], s, v, M, F, hl, hp, hs, hf, hw, hM, hR => by simp at hl
  | n + 1, pre, b :: B, s, v, M, F, hl, hp, hs, hf, hw, hM, hR => by
    have hlt : ∀ x, x ∈ pre ++ (b :: B) → x < 7 := fun x hx => by
      have := (frB_t (hf x hx)).1
      have := hC.2.2.2.1
      omega
    have := gate_loop (v1 := v1) (K := K) (w := w) (n := n) (N := N) (c := gFa n) (pre := pre) hN hp (fun A l b s v M F g1 g2 g3 g4 g5 g6 => gate_walk hC hB hk hN n (pre ++ [b]) l s v M F g1 (by rw [List.length_append, List.length_singleton]; omega) g2 g3 g4 g5 g6) B b [] s v M F hl hs (fun x hx => ⟨hf x hx, hlt x hx⟩) hw hM hR
    rw [List.length_cons] at hl
    rw [show gFa (n + 1) = (B.length + 1) * gFa n by rw [show B.length = n by omega]; rfl]
    exact this
end GateR
