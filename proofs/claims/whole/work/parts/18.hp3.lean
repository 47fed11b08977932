/-! ===== what is made; constants; what the JDK does ===== -/
section HP3
variable {p : Program} {l : Launch} {e : Env} {R : Room} {s : State} {mid : MethodId} {args : Array Value} {below : List Frame} {meth : Method} {c : Code} {H : Heap} {locs : List Loc} {cells slots : Nat} {Q : State → Prop} {cc : ByteArray} {pc : Nat} {lsr : Array Slot} {st st' : List AV} {sz : Nat} {X : Nat → Value} {tid : Nat → ClassId} {D : va_G} {XC : Nat → AC} {hB h h' : AH}
theorem n32 {n : Int} (h0 : 0 ≤ n) (h1 : n ≤ 100000) : ¬ Int32.ofInt n < 0 ∧ (Int32.ofInt n).toNatClampNeg = n.toNat := by
  obtain ⟨g1, g2⟩ := clp (z := n) (n := n.toNat + 1) h0 (Nat.lt_succ_self _) (by omega)
  exact ⟨fun h => g2 (Or.inl h), g1⟩
theorem S_newa {t : ArrayType} {ty : FieldType} {k : Nat} (hx : p.tables.exec = Jvm.exec) (hb : c.code = cc) (hI : IN sz X tid D XC s hB h H locs cells slots) (hN : EN sz X tid D XC s) (hE : h'.1 ≤ E0) (hR1 : h'.1 ≤ hB.1 + R.cells) (hR2 : h'.2.1 ≤ hB.2.1 + R.slots) (hd : decode cc pc = .ok (.newarray t, 2)) (hk : akd t = some k) (hty : newarray.typeOf t = ty) (hw : Cond.arrayClass ty ∈ lw_tbl) (hts : (tyA tid)[k]? = some (tid k, ty)) (hRA : ∀ a b : ClassId, va_RA s a ty → va_RA s b ty → a = b) (hcell : ∀ (cA : ClassId) (n : Nat), vp_cell cA (n, if k = 1 then .inr (.inl (fun _ => Int64.ofInt 0)) else .inl (fun _ => Int32.ofInt 0)) = arrV cA n (fun _ => defaultValue ty)) (hcb : componentBytes ty ≤ 8)
    (hp : hNewA t st h = some (st', h')) (kk : ∀ H1, IN sz X tid D XC s hB h' H1 locs (cells + (h'.1 - h.1)) (slots + (h'.2.1 - h.2.1)) → W p l e R s mid args below meth c H1 locs (cells + (h'.1 - h.1)) (slots + (h'.2.1 - h.2.1)) Q (F0 mid (pc + 2) lsr (st'.map (cv sz X)))) : W p l e R s mid args below meth c H locs cells slots Q (F0 mid pc lsr (st.map (cv sz X))) := by
  unfold hNewA at hp
  split at hp
  · rename_i n r
    rw [hk] at hp
    dsimp only at hp
    split at hp
    · rename_i hn
      cases hp
      obtain ⟨g1, g2⟩ := n32 hn.1 hn.2
      have i4 := hI.2.2.2.1
      have i5 := hI.2.2.2.2.1
      have r1 : h.1 + 1 ≤ hB.1 + R.cells := hR1
      have r2 : h.2.1 + n.toNat ≤ hB.2.1 + R.slots := hR2
      have r3 : h.1 + 1 ≤ E0 := hE
      refine va_newa hx hb (a0 := (n.toNat, if k = 1 then .inr (.inl (fun _ => Int64.ofInt 0)) else .inl (fun _ => Int32.ofInt 0))) (by rw [hty]; exact hN.1 _ hw rfl args) hty hN.2.1 hI.1 (wsH_D h) hI.S (fun q hq => Nat.le_trans (by have := hI.2.1; omega) hq) (fun cA => hcell cA _) g1 g2 (by have := Nat.mul_le_mul (show n.toNat ≤ 100000 by omega) hcb; omega) (by omega) (by omega) hd (fun q cA H1 hK1 hP1 hD1 hS1 => W_sz fun hz => ?_)
      have hcA : cA = tid k := hRA _ _ (hK1.2 5 (cA, ty) rfl).2 (hN.2.1.2 k _ hts).2
      subst hcA
      obtain ⟨hq, hI1⟩ := hI.grow (n := n.toNat) (ce1 := .inl (k, n.toNat, fun _ => 0)) r3 hP1 hD1 hS1 hz
      subst hq
      have w := kk H1 (by rw [show (al h n.toNat (Sum.inl (k, n.toNat, fun _ => 0))).1 - h.1 = 1 from Nat.add_sub_cancel_left .., show (al h n.toNat (Sum.inl (k, n.toNat, fun _ => 0))).2.1 - h.2.1 = n.toNat from Nat.add_sub_cancel_left ..]; exact hI1)
      rw [show (al h n.toNat (Sum.inl (k, n.toNat, fun _ => 0))).1 - h.1 = 1 from Nat.add_sub_cancel_left .., show (al h n.toNat (Sum.inl (k, n.toNat, fun _ => 0))).2.1 - h.2.1 = n.toNat from Nat.add_sub_cancel_left .., List.map_cons, show cv sz X (vR h.1) = .ref (sz + h.1) from cv_lo (by omega)] at w
      exact w
    · cases hp
  · cases hp
theorem S_newq {kc x c0 b : Nat} {z : Int} (hx : p.tables.exec = Jvm.exec) (hb : c.code = cc) (hown : s.vm.findClass (cN kc) = some mid.cls) (hI : IN sz X tid D XC s hB h H locs cells slots) (hN : EN sz X tid D XC s) (hE : h'.1 ≤ E0) (hR1 : h'.1 ≤ hB.1 + R.cells) (hR2 : h'.2.1 ≤ hB.2.1 + R.slots) (hpf : PF kc (x, 2, c0, b, z)) (hd : decode cc pc = .ok (.anewarray x, 3))
    (hp : hNewQ c0 st h = some (st', h')) (kk : ∀ H1, IN sz X tid D XC s hB h' H1 locs (cells + (h'.1 - h.1)) (slots + (h'.2.1 - h.2.1)) → W p l e R s mid args below meth c H1 locs (cells + (h'.1 - h.1)) (slots + (h'.2.1 - h.2.1)) Q (F0 mid (pc + 3) lsr (st'.map (cv sz X)))) : W p l e R s mid args below meth c H locs cells slots Q (F0 mid pc lsr (st.map (cv sz X))) := by
  unfold hNewQ at hp
  split at hp
  · rename_i n r
    split at hp
    · rename_i hn
      obtain ⟨rfl, hn⟩ := hn
      cases hp
      obtain ⟨g1, g2⟩ := n32 hn.1 hn.2
      have i4 := hI.2.2.2.1
      have i5 := hI.2.2.2.2.1
      have r1 : h.1 + 1 ≤ hB.1 + R.cells := hR1
      have r2 : h.2.1 + n.toNat ≤ hB.2.1 + R.slots := hR2
      have r3 : h.1 + 1 ≤ E0 := hE
      refine va_newq hx hb hown (C := "GlassHill$Journey") (hN.1 _ hpf.2 rfl args) hN.2.2.2.2.2.2.1 hN.2.1 hI.1 (wsH_D h) hI.S (fun q hq => Nat.le_trans (by have := hI.2.1; omega) hq) g1 g2 (by omega) (by omega) (by omega) hd (fun q cA H1 hK1 hP1 hD1 hS1 => W_sz fun hz => ?_)
      have hcA : cA = tid 4 := by
        obtain ⟨k1, m1, a1, a2, a3, a4⟩ := (hK1.2 5 (cA, .object "GlassHill$Journey") rfl).2
        obtain ⟨k2, m2, b1, b2, b3, b4⟩ := (hN.2.1.2 4 (tid 4, .object "GlassHill$Journey") rfl).2
        exact Option.some.inj (a4.symm.trans b4)
      subst hcA
      obtain ⟨hq, hI1⟩ := hI.grow (n := n.toNat) (ce1 := .inr (.inl (n.toNat, fun _ => none))) r3 hP1 hD1 hS1 hz
      subst hq
      have w := kk H1 (by rw [show (al h n.toNat (Sum.inr (Sum.inl (n.toNat, fun _ => none)))).1 - h.1 = 1 from Nat.add_sub_cancel_left .., show (al h n.toNat (Sum.inr (Sum.inl (n.toNat, fun _ => none)))).2.1 - h.2.1 = n.toNat from Nat.add_sub_cancel_left ..]; exact hI1)
      rw [show (al h n.toNat (Sum.inr (Sum.inl (n.toNat, fun _ => none)))).1 - h.1 = 1 from Nat.add_sub_cancel_left .., show (al h n.toNat (Sum.inr (Sum.inl (n.toNat, fun _ => none)))).2.1 - h.2.1 = n.toNat from Nat.add_sub_cancel_left .., List.map_cons, show cv sz X (vR h.1) = .ref (sz + h.1) from cv_lo (by omega)] at w
      exact w
    · cases hp
  · cases hp
theorem df_ok {t : FieldType} (h : tyO t = true) : cv sz X (dfT t) = defaultValue t := by
  unfold tyO at h
  split at h
  · rfl
  · rfl
  · rfl
  · rfl
  · cases h
theorem S_new {kc x c0 b : Nat} {z : Int} (hx : p.tables.exec = Jvm.exec) (hb : c.code = cc) (hown : s.vm.findClass (cN kc) = some mid.cls) (hI : IN sz X tid D XC s hB h H locs cells slots) (hN : EN sz X tid D XC s) (hc0 : c0 < 13) (hE : h.1 + 1 ≤ E0) (hR1 : h.1 + 1 ≤ hB.1 + R.cells) (hR2 : h.2.1 + cF c0 ≤ hB.2.1 + R.slots) (hpf : PF kc (x, 2, c0, b, z)) (hd : decode cc pc = .ok (.new x, 3))
    (kk : ∀ H1, IN sz X tid D XC s hB (al h (cF c0) (.inr (.inr (c0, fs0 c0)))) H1 locs (cells + 1) (slots + cF c0) → W p l e R s mid args below meth c H1 locs (cells + 1) (slots + cF c0) Q (F0 mid (pc + 3) lsr (.ref (sz + h.1) :: st.map (cv sz X)))) : W p l e R s mid args below meth c H locs cells slots Q (F0 mid pc lsr (st.map (cv sz X))) := by
  obtain ⟨f1, f2, f3, f4, f5, f6, f7, f8⟩ := cfA _ hc0
  have i4 := hI.2.2.2.1
  have i5 := hI.2.2.2.2.1
  refine va_new (D := D) (ci := c0) (C := cN c0) (T := cT c0) (N := cF c0) (Ts := u_ws (cN c0) (cT c0) (cF c0)) (fs := (fs0 c0).map (cv sz X)) hx hb (fun w hw => hN.1 w (f2 w hw) (by obtain ⟨j, -, rfl⟩ := List.mem_map.mp hw; unfold u_lay; split <;> rfl) args) (fun w hw => hw) (cY c0) f3 hown (hN.1 _ hpf.2 rfl args) (hN.1 _ f5 rfl args) (hN.1 _ f6 rfl args) hN.2.1 hI.1 (wsH_D h) hI.S (fun q hq => Nat.le_trans (by have := hI.2.1; omega) hq) f1 (fun j hj => ?_) (by omega) (by omega) hd (fun q H1 hP1 hD1 hS1 => W_sz fun hz => ?_)
  · rw [← df_ok (sz := sz) (X := X) (f7 j hj)]
    unfold vp_V fs0
    rw [List.getD_eq_getElem?_getD, List.getElem?_map, List.getElem?_map, List.getElem?_range (show j < cNf.getD c0 0 from hj)]
    rfl
  · obtain ⟨hq, hI1⟩ := hI.grow (n := cF c0) (ce1 := .inr (.inr (c0, fs0 c0))) hE hP1 hD1 hS1 hz
    subst hq
    exact kk H1 hI1
theorem S_cpy {kc x a b : Nat} {z : Int} (hx : p.tables.exec = Jvm.exec) (hb : c.code = cc) (hml : c.maxLocals = lsr.size) (hown : s.vm.findClass (cN kc) = some mid.cls) (hI : IN sz X tid D XC s hB h H locs cells slots) (hN : EN sz X tid D XC s) (hE : h.1 ≤ E0) (hF : 10 ≤ R.frames) (hL : 300 ≤ R.locals) (w1 : Cond.native arraycopyName ∈ lw_tbl) (w2 : Cond.static arraycopyName ∈ lw_tbl) (w3 : Cond.initialized "java/lang/System" ∈ lw_tbl) (hpf : PF kc (x, 9, a, b, z)) (hd : decode cc pc = .ok (.invokestatic x, 3))
    (hp : hCpy st h = some (st', h')) (kk : ∀ H1 locs1, IN sz X tid D XC s hB h' H1 locs1 cells slots → W p l e R s mid args below meth c H1 locs1 cells slots Q (F0 mid (pc + 3) lsr (st'.map (cv sz X)))) : W p l e R s mid args below meth c H locs cells slots Q (F0 mid pc lsr (st.map (cv sz X))) := by
  have hX1 : ∀ a, (X a).category = 1 := fun a => by rcases hN.2.2.1 a with h | ⟨q, h⟩ <;> rw [h] <;> rfl
  unfold hCpy at hp
  split at hp
  · rename_i n dp a1 sp a0 r
    split at hp
    · rename_i hc
      obtain ⟨ha1, ha0, hr⟩ := hc
      split at hp
      · rename_i k0 n0 f k1 n1 g hg0 hg1
        split at hp
        · rename_i hc2
          obtain ⟨rfl, rfl, q1, q2, q3, q4, q5, q6, q7⟩ := hc2
          cases hp
          have he0 : (wsH sz X tid h)[a0]? = some (sz + a0, .inl (tid 0, n0, .inl (fun j => Int32.ofInt (f j)))) := by rw [wsH_get ha0, hg0]; rfl
          have he1 : (wsH sz X tid h)[a1]? = some (sz + a1, .inl (tid 0, n1, .inl (fun j => Int32.ofInt (g j)))) := by rw [wsH_get ha1, hg1]; rfl
          obtain ⟨s1, s2⟩ := clp (z := sp) (n := sp.toNat + 1) q1 (Nat.lt_succ_self _) (by omega)
          obtain ⟨d1, d2⟩ := clp (z := dp) (n := dp.toNat + 1) q2 (Nat.lt_succ_self _) (by omega)
          obtain ⟨n1', n2'⟩ := clp (z := n) (n := n.toNat + 1) q3 (Nat.lt_succ_self _) (by omega)
          refine W.eq (g2 := F0 mid pc lsr (.int (Int32.ofInt n) :: .int (Int32.ofInt dp) :: .ref (sz + a1) :: .int (Int32.ofInt sp) :: .ref (sz + a0) :: st'.map (cv sz X))) (by rw [List.map_cons, List.map_cons, List.map_cons, List.map_cons, List.map_cons, cv_lo (Nat.lt_of_lt_of_le ha1 hE), cv_lo (Nat.lt_of_lt_of_le ha0 hE)]; rfl) ?_
          have hcat : ((st'.map (cv sz X)).map fun v => v.category).sum ≤ 8 := by
            rw [List.map_map, show ((fun v : Value => v.category) ∘ cv sz X) = ct from funext fun v => cv_cat hX1]
            exact hr
          refine va_copyi hx hb hml hown (hN.1 _ hpf rfl args) (hN.1 _ w1 rfl args) (hN.1 _ w2 rfl args) (hN.1 _ w3 rfl args) hN.2.1 hI.1 (wsH_D h) hI.S a0 a1 0 0 he0 he1 rfl rfl rfl (fun h => s2 (Or.inl h)) (fun h => d2 (Or.inl h)) (fun h => n2' (Or.inl h)) (by rw [s1, n1']; exact q4) (by rw [d1, n1']; exact q5) (fun i hi => rfl) (by omega) (Nat.le_trans (Nat.add_le_add hcat (show nativeFrameWords "java/lang/System" "arraycopy" 5 + 11 ≤ 292 by decide)) hL) hd (fun H1 locs1 hP1 hD1 hS1 => W_sz fun hz => kk H1 locs1 (hI.mono ha1 hE ?_ hS1 hz))
          rw [← wsH_set]
          rw [s1, d1, n1'] at hP1
          have ef : (fun j => Int32.ofInt (cpy f g sp.toNat dp.toNat n.toNat j)) = va_cpy (fun j => Int32.ofInt (f j)) (fun j => Int32.ofInt (g j)) sp.toNat dp.toNat n.toNat := by
            funext j
            unfold cpy va_cpy
            split <;> rfl
          show va_P D clA ((wsH sz X tid h).set a1 (sz + a1, Sum.inl (tid 0, n1, Sum.inl (fun j => Int32.ofInt (cpy f g sp.toNat dp.toNat n.toNat j))))) H1
          rw [ef]
          exact hP1
        · cases hp
      · cases hp
    · cases hp
  · cases hp
end HP3
