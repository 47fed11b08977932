/-! ===== fields ===== -/
theorem PF_get {c i a b : Nat} {z : Int} (h : PF c (i, 0, a, b, z)) : (a = 50 ∧ ((b = 0 ∧ Cond.fieldLink (cN c) i "java/lang/String" "value" "[B" ∈ lw_tbl) ∨ (b ≠ 0 ∧ Cond.fieldLink (cN c) i "java/lang/String" "coder" "B" ∈ lw_tbl))) ∨ (a < 13 ∧ b < cF a ∧ Cond.fieldLink (cN c) i (cT a b).1 (cT a b).2.1 (cT a b).2.2.1 ∈ lw_tbl) := by
  have h' : (if a = 50 then (if b = 0 then Cond.fieldLink (cN c) i "java/lang/String" "value" "[B" ∈ lw_tbl else Cond.fieldLink (cN c) i "java/lang/String" "coder" "B" ∈ lw_tbl) else (a < 13 ∧ b < cF a ∧ Cond.fieldLink (cN c) i (cT a b).1 (cT a b).2.1 (cT a b).2.2.1 ∈ lw_tbl)) := h
  by_cases ha : a = 50
  · rw [if_pos ha] at h'
    refine Or.inl ⟨ha, ?_⟩
    by_cases hb : b = 0
    · rw [if_pos hb] at h'
      exact Or.inl ⟨hb, h'⟩
    · rw [if_neg hb] at h'
      exact Or.inr ⟨hb, h'⟩
  · rw [if_neg ha] at h'
    exact Or.inr h'
theorem clA_none {c : Nat} (hc : 18 ≤ c) : clA[c]? = none := List.getElem?_eq_none (by show 18 ≤ c; exact hc)
theorem clp {z : Int} {n : Nat} (h0 : 0 ≤ z) (h1 : z.toNat < n) (h2 : n < 2147483648) : (Int32.ofInt z).toNatClampNeg = z.toNat ∧ vp_in (Int32.ofInt z) n := by
  have e : (Int32.ofInt z).toInt = z := Int32.toInt_ofInt_of_le (by omega) (by omega)
  have e2 : (Int32.ofInt z).toNatClampNeg = z.toNat := by
    show (Int32.ofInt z).toInt.toNat = z.toNat
    rw [e]
  refine ⟨e2, ?_⟩
  rintro (g | g)
  · have := Int32.lt_iff_toInt_lt.mp g
    rw [e] at this
    have : z < 0 := this
    omega
  · rw [e2] at g
    omega
theorem fok_ok {sz : Nat} {X : Nat → Value} {t : FieldType} {v : AV} (hX : ∀ a, X a = .null ∨ ∃ q, X a = .ref q) (h : fokT t v = true) : narrow t (cv sz X v) = cv sz X v ∧ fits t (cv sz X v) = true := by
  unfold fokT at h
  split at h
  · exact ⟨rfl, rfl⟩
  · rename_i z
    simp only [decide_eq_true_eq] at h
    rcases h with rfl | rfl
    · exact ⟨(by decide : narrow .boolean (.int (Int32.ofInt 0)) = .int (Int32.ofInt 0)), (by decide : fits .boolean (.int (Int32.ofInt 0)) = true)⟩
    · exact ⟨(by decide : narrow .boolean (.int (Int32.ofInt 1)) = .int (Int32.ofInt 1)), (by decide : fits .boolean (.int (Int32.ofInt 1)) = true)⟩
  · rename_i t a
    have hv : cv sz X (.inr (.inr (.inl (some a)))) = .null ∨ ∃ q, cv sz X (.inr (.inr (.inl (some a)))) = .ref q := by
      show (if a < E0 then Value.ref (sz + a) else X (a - E0)) = .null ∨ ∃ q, (if a < E0 then Value.ref (sz + a) else X (a - E0)) = .ref q
      split
      · exact Or.inr ⟨_, rfl⟩
      · exact hX _
    rcases hv with e | ⟨q, e⟩ <;> rw [e] <;> exact ⟨rfl, rfl⟩
  · rename_i t o
    have hv : cv sz X (.inr (.inr (.inl o))) = .null ∨ ∃ q, cv sz X (.inr (.inr (.inl o))) = .ref q := by
      cases o with
      | none => exact Or.inl rfl
      | some a =>
        show (if a < E0 then Value.ref (sz + a) else X (a - E0)) = .null ∨ ∃ q, (if a < E0 then Value.ref (sz + a) else X (a - E0)) = .ref q
        split
        · exact Or.inr ⟨_, rfl⟩
        · exact hX _
    rcases hv with e | ⟨q, e⟩ <;> rw [e] <;> exact ⟨rfl, rfl⟩
  · cases h
section HP1
variable {p : Program} {l : Launch} {e : Env} {R : Room} {s : State} {mid : MethodId} {args : Array Value} {below : List Frame} {meth : Method} {c : Code} {H : Heap} {locs : List Loc} {cells slots : Nat} {Q : State → Prop} {cc : ByteArray} {pc : Nat} {lsr : Array Slot} {st st' : List AV} {sz : Nat} {X : Nat → Value} {tid : Nat → ClassId} {D : va_G} {XC : Nat → AC} {hB h h' : AH}
theorem cv_lo {a : Nat} (ha : a < E0) : cv sz X (.inr (.inr (.inl (some a)))) = .ref (sz + a) := if_pos ha
theorem cv_hi {a : Nat} (ha : E0 ≤ a) : cv sz X (.inr (.inr (.inl (some a)))) = X (a - E0) := if_neg (Nat.not_lt.mpr ha)
theorem S_get {k c0 kc x : Nat} {z : Int} (hx : p.tables.exec = Jvm.exec) (hb : c.code = cc) (hown : s.vm.findClass (cN kc) = some mid.cls) (hN : EN sz X tid D XC s) (hI : IN sz X tid D XC s hB h H locs cells slots) (hE : h.1 ≤ E0) (hpf : PF kc (x, 0, c0, k, z)) (hd : decode cc pc = .ok (.getfield x, 3)) (hp : hGet c0 k st h = some (st', h'))
    (kk : IN sz X tid D XC s hB h' H locs cells slots → W p l e R s mid args below meth c H locs cells slots Q (F0 mid (pc + 3) lsr (st'.map (cv sz X)))) : W p l e R s mid args below meth c H locs cells slots Q (F0 mid pc lsr (st.map (cv sz X))) := by
  unfold hGet at hp
  split at hp
  · rename_i a r
    split at hp
    · rename_i hcase
      split at hp
      · rename_i c' fs hg
        split at hp
        · rename_i hcc
          subst hcc
          split at hp
          · rename_i v hv
            cases hp
            by_cases ha : a < h.1
            · have he := wsH_get (sz := sz) (X := X) (tid := tid) ha
              rw [hg] at he
              rcases PF_get hpf with ⟨rfl, -⟩ | ⟨q1, q2, q3⟩
              · obtain ⟨r9, h9, -⟩ := hI.1 _ _ he
                rw [clA_none (show 18 ≤ 50 by decide)] at h9
                cases h9
              · obtain ⟨f1, f2, -⟩ := cfA _ q1
                refine W.eq (g2 := F0 mid pc lsr (.ref (sz + a) :: r.map (cv sz X))) (by rw [List.map_cons, cv_lo (Nat.lt_of_lt_of_le ha hE)]) ?_
                exact va_get (D := D) (ci := c') (v := cv sz X v) (C := cN c') (T := cT c') (N := cF c') (Ts := u_ws (cN c') (cT c') (cF c')) hx hb (fun w hw => hN.1 w (f2 w hw) (by obtain ⟨j, -, rfl⟩ := List.mem_map.mp hw; unfold u_lay; split <;> rfl) args) (fun w hw => hw) hown hN.2.1 hI.1 a he f1 k q2 (hN.1 _ q3 rfl args) (fun _ h9 => h9) (by rw [List.getElem?_map, hv]; rfl) hd (kk hI)
            · have ha' : E0 ≤ a := hcase.resolve_left ha
              have hxc := hI.2.2.2.2.2.2 a ha'
              rw [hg] at hxc
              obtain ⟨rfl, q, v0, w0, rfl, hX0, hO, hV, hW⟩ := hN.2.2.2.2.1.1 a ha' _ _ hxc.symm (fun h60 => by rcases PF_get hpf with ⟨h61, -⟩ | ⟨h61, -⟩ <;> omega)
              refine W.eq (g2 := F0 mid pc lsr (.ref q :: r.map (cv sz X))) (by rw [List.map_cons, cv_hi ha', hX0]) ?_
              rcases PF_get hpf with ⟨-, ⟨rfl, hl⟩ | ⟨hk, hl⟩⟩ | ⟨q1, -⟩
              · cases hv
                exact vk_getf hx hb hV hI.2.2.2.2.2.1 hown (hN.1 _ hl rfl args) (fun _ h9 => h9) hd (kk hI)
              · cases k with
                | zero => exact absurd rfl hk
                | succ k =>
                  cases k with
                  | zero =>
                    cases hv
                    exact vk_getf hx hb hW hI.2.2.2.2.2.1 hown (hN.1 _ hl rfl args) (fun _ h9 => h9) hd (kk hI)
                  | succ k => cases hv
              · exact absurd q1 (by decide)
          · cases hp
        · cases hp
      · cases hp
    · cases hp
  · cases hp
theorem S_put {m k c0 x : Nat} {z : Int} (hx : p.tables.exec = Jvm.exec) (hb : c.code = cc) (hown : s.vm.findClass (cN (mK m)) = some mid.cls) (hini : mS m = 2 → meth.name = "<init>") (hN : EN sz X tid D XC s) (hI : IN sz X tid D XC s hB h H locs cells slots) (hE : h.1 ≤ E0) (hpf : PF (mK m) (x, 0, c0, k, z)) (hd : decode cc pc = .ok (.putfield x, 3)) (hp : hPut m c0 k st h = some (st', h'))
    (kk : ∀ H1 locs1, IN sz X tid D XC s hB h' H1 locs1 cells slots → W p l e R s mid args below meth c H1 locs1 cells slots Q (F0 mid (pc + 3) lsr (st'.map (cv sz X)))) : W p l e R s mid args below meth c H locs cells slots Q (F0 mid pc lsr (st.map (cv sz X))) := by
  unfold hPut at hp
  split at hp
  · rename_i v a r
    split at hp
    · rename_i hcase
      obtain ⟨ha, hfk⟩ := hcase
      split at hp
      · rename_i c' fs hg
        split at hp
        · rename_i hcc
          obtain ⟨rfl, hkl⟩ := hcc
          cases hp
          have he := wsH_get (sz := sz) (X := X) (tid := tid) ha
          rw [hg] at he
          rcases PF_get hpf with ⟨rfl, -⟩ | ⟨q1, q2, q3⟩
          · obtain ⟨r9, h9, -⟩ := hI.1 _ _ he
            rw [clA_none (show 18 ≤ 50 by decide)] at h9
            cases h9
          · obtain ⟨f1, f2, f3, f4, -, -, -, f8⟩ := cfA _ q1
            unfold fok at hfk
            rw [Bool.and_eq_true] at hfk
            obtain ⟨g1, g2⟩ := fok_ok (sz := sz) hN.2.2.1 hfk.1
            refine W.eq (g2 := F0 mid pc lsr (cv sz X v :: .ref (sz + a) :: st'.map (cv sz X))) (by rw [List.map_cons, List.map_cons, cv_lo (Nat.lt_of_lt_of_le ha hE)]) ?_
            have hset : ∀ H1, va_P D clA ((wsH sz X tid h).set a (sz + a, .inr (c', (fs.map (cv sz X)).set k (cv sz X v)))) H1 → va_P D clA (wsH sz X tid (sv h a (.inr (.inr (c', fs.set k v))))) H1 := fun H1 h1 => by
              rw [← wsH_set]
              show va_P D clA ((wsH sz X tid h).set a (sz + a, .inr (c', (fs.set k v).map (cv sz X)))) H1
              rw [List.map_set]
              exact h1
            by_cases hf : (cT c' k).2.2.2 = true
            · have h2 := hfk.2
              rw [show ((cTT.getD c' TX0) k).2.2.2 = true from hf] at h2
              simp only [cond_true, Bool.and_eq_true, decide_eq_true_eq] at h2
              exact va_putF (D := D) (ci := c') (C := cN c') (T := cT c') (N := cF c') (Ts := u_ws (cN c') (cT c') (cF c')) hx hb (fun w hw => hN.1 w (f2 w hw) (by obtain ⟨j, -, rfl⟩ := List.mem_map.mp hw; unfold u_lay; split <;> rfl) args) (fun w hw => hw) (cY c') f3 f4 hown hN.2.1 hI.1 (wsH_D h) hI.S a he f1 k q2 (hN.1 _ q3 rfl args) (fun _ h9 => h9) hf (hini h2.1) (by rw [h2.2]; exact f8 k q2) (f3 k q2) g1 g2 (by rw [List.length_map]; exact hkl) hd (fun H1 locs1 hP1 hD1 hS1 => W_sz fun hz => kk H1 locs1 (hI.mono ha hE (hset H1 hP1) hS1 hz))
            · exact va_put (D := D) (ci := c') (C := cN c') (T := cT c') (N := cF c') (Ts := u_ws (cN c') (cT c') (cF c')) hx hb (fun w hw => hN.1 w (f2 w hw) (by obtain ⟨j, -, rfl⟩ := List.mem_map.mp hw; unfold u_lay; split <;> rfl) args) (fun w hw => hw) (cY c') f3 f4 hown hN.2.1 hI.1 (wsH_D h) hI.S a he f1 k q2 (hN.1 _ q3 rfl args) (fun _ h9 => h9) (Bool.not_eq_true _ ▸ hf) (f3 k q2) g1 g2 (by rw [List.length_map]; exact hkl) hd (fun H1 locs1 hP1 hD1 hS1 => W_sz fun hz => kk H1 locs1 (hI.mono ha hE (hset H1 hP1) hS1 hz))
        · cases hp
      · cases hp
    · cases hp
  · cases hp
end HP1
