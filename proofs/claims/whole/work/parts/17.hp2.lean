/-! ===== arrays ===== -/
theorem up_oi (f : Nat → Int) (k : Nat) (x : Int) : (fun j => Int32.ofInt (up f k x j)) = upd (fun j => Int32.ofInt (f j)) k (Int32.ofInt x) := by
  funext j
  unfold up upd
  split <;> rfl
theorem up_ol (f : Nat → Int) (k : Nat) (x : Int) : (fun j => Int64.ofInt (up f k x j)) = vp_updL (fun j => Int64.ofInt (f j)) k (Int64.ofInt x) := by
  funext j
  unfold up vp_updL
  split <;> rfl
section HP2
variable {p : Program} {l : Launch} {e : Env} {R : Room} {s : State} {mid : MethodId} {args : Array Value} {below : List Frame} {meth : Method} {c : Code} {H : Heap} {locs : List Loc} {cells slots : Nat} {Q : State → Prop} {cc : ByteArray} {pc : Nat} {lsr : Array Slot} {st st' : List AV} {sz : Nat} {X : Nat → Value} {tid : Nat → ClassId} {D : va_G} {XC : Nat → AC} {hB h h' : AH}
/-- a load: where it lies in the heap, or among what is found -/
theorem S_ld {kd : Nat} (hI : IN sz X tid D XC s hB h H locs cells slots) (hE : h.1 ≤ E0) (hN : EN sz X tid D XC s) (hp : hLd kd st h = some (st', h'))
    (row : ∀ (i : Int) (a n : Nat) (f : Nat → Int) (r : List AV), a < h.1 → gt h a = .inl (kd, n, f) → 0 ≤ i → i.toNat < n → n < 2147483648 → W p l e R s mid args below meth c H locs cells slots Q (F0 mid (pc + 1) lsr (cv sz X (if kd = 1 then vJ (f i.toNat) else vI (f i.toNat)) :: r.map (cv sz X))) → W p l e R s mid args below meth c H locs cells slots Q (F0 mid pc lsr (.int (Int32.ofInt i) :: .ref (sz + a) :: r.map (cv sz X))))
    (rowX : ∀ (i : Int) (a n q : Nat) (f : Nat → Int) (r : List AV), E0 ≤ a → X (a - E0) = .ref q → ((kd = 0 ∧ va_X q n (fun j => Int32.ofInt (f j)) s s.heap ∧ q < sz) ∨ (kd = 2 ∧ va_T .byte q n (fun j => .int (Int32.ofInt (f j))) (fun q => sz ≤ q) s s.heap)) → 0 ≤ i → i.toNat < n → n < 2147483648 → W p l e R s mid args below meth c H locs cells slots Q (F0 mid (pc + 1) lsr (cv sz X (if kd = 1 then vJ (f i.toNat) else vI (f i.toNat)) :: r.map (cv sz X))) → W p l e R s mid args below meth c H locs cells slots Q (F0 mid pc lsr (.int (Int32.ofInt i) :: .ref q :: r.map (cv sz X))))
    (kk : IN sz X tid D XC s hB h' H locs cells slots → W p l e R s mid args below meth c H locs cells slots Q (F0 mid (pc + 1) lsr (st'.map (cv sz X)))) : W p l e R s mid args below meth c H locs cells slots Q (F0 mid pc lsr (st.map (cv sz X))) := by
  unfold hLd at hp
  split at hp
  · rename_i i a r
    split at hp
    · rename_i hcase
      split at hp
      · rename_i k n f hg
        split at hp
        · rename_i hc
          obtain ⟨rfl, h0, h1, h2⟩ := hc
          cases hp
          by_cases ha : a < h.1
          · refine W.eq (g2 := F0 mid pc lsr (.int (Int32.ofInt i) :: .ref (sz + a) :: r.map (cv sz X))) (by rw [List.map_cons, List.map_cons, cv_lo (Nat.lt_of_lt_of_le ha hE)]; rfl) ?_
            exact row i a n f r ha hg h0 h1 h2 (kk hI)
          · have ha' : E0 ≤ a := hcase.resolve_left ha
            have hxc := hI.2.2.2.2.2.2 a ha'
            rw [hg] at hxc
            obtain ⟨q, hX0, hq⟩ := hN.2.2.2.2.1.2.1 a ha' _ _ _ hxc.symm
            refine W.eq (g2 := F0 mid pc lsr (.int (Int32.ofInt i) :: .ref q :: r.map (cv sz X))) (by rw [List.map_cons, List.map_cons, cv_hi ha', hX0]; rfl) ?_
            exact rowX i a n q f r ha' hX0 hq h0 h1 h2 (kk hI)
        · cases hp
      · cases hp
    · cases hp
  · cases hp
theorem S_iald (hx : p.tables.exec = Jvm.exec) (hb : c.code = cc) (hI : IN sz X tid D XC s hB h H locs cells slots) (hE : h.1 ≤ E0) (hN : EN sz X tid D XC s) (hd : decode cc pc = .ok (.iaload, 1)) (hp : hLd 0 st h = some (st', h'))
    (kk : IN sz X tid D XC s hB h' H locs cells slots → W p l e R s mid args below meth c H locs cells slots Q (F0 mid (pc + 1) lsr (st'.map (cv sz X)))) : W p l e R s mid args below meth c H locs cells slots Q (F0 mid pc lsr (st.map (cv sz X))) := by
  refine S_ld hI hE hN hp (fun i a n f r ha hg h0 h1 h2 w => ?_) (fun i a n q f r ha hX0 hq h0 h1 h2 w => ?_) kk
  · obtain ⟨g1, g2⟩ := clp h0 h1 h2
    have he : (wsH sz X tid h)[a]? = some (sz + a, .inl (tid 0, n, .inl (fun j => Int32.ofInt (f j)))) := by rw [wsH_get ha, hg]; rfl
    exact va_iald hx hb hN.2.1 hI.1 a 0 he rfl g2 hd (by rw [g1]; exact w)
  · obtain ⟨g1, g2⟩ := clp h0 h1 h2
    rcases hq with ⟨-, hX1, hq1⟩ | ⟨hq1, -⟩
    · exact va_sld (A := fun q => sz ≤ q) hx hb hX1 (Nat.lt_of_lt_of_le hq1 hN.2.2.2.1) (Nat.not_le.mpr hq1) hI.2.2.2.2.2.1 g2 hd (by rw [g1]; exact w)
    · cases hq1
theorem S_lald (hx : p.tables.exec = Jvm.exec) (hb : c.code = cc) (hI : IN sz X tid D XC s hB h H locs cells slots) (hE : h.1 ≤ E0) (hN : EN sz X tid D XC s) (hd : decode cc pc = .ok (.laload, 1)) (hp : hLd 1 st h = some (st', h'))
    (kk : IN sz X tid D XC s hB h' H locs cells slots → W p l e R s mid args below meth c H locs cells slots Q (F0 mid (pc + 1) lsr (st'.map (cv sz X)))) : W p l e R s mid args below meth c H locs cells slots Q (F0 mid pc lsr (st.map (cv sz X))) := by
  refine S_ld hI hE hN hp (fun i a n f r ha hg h0 h1 h2 w => ?_) (fun i a n q f r ha hX0 hq h0 h1 h2 w => ?_) kk
  · obtain ⟨g1, g2⟩ := clp h0 h1 h2
    have he : (wsH sz X tid h)[a]? = some (sz + a, .inl (tid 1, n, .inr (.inl (fun j => Int64.ofInt (f j))))) := by rw [wsH_get ha, hg]; rfl
    exact va_lald hx hb hN.2.1 hI.1 a 1 he rfl g2 hd (by rw [g1]; exact w)
  · rcases hq with ⟨hq1, -⟩ | ⟨hq1, -⟩ <;> cases hq1
theorem S_bald (hx : p.tables.exec = Jvm.exec) (hb : c.code = cc) (hI : IN sz X tid D XC s hB h H locs cells slots) (hE : h.1 ≤ E0) (hN : EN sz X tid D XC s) (hd : decode cc pc = .ok (.baload, 1)) (hp : hLdB st h = some (st', h'))
    (kk : IN sz X tid D XC s hB h' H locs cells slots → W p l e R s mid args below meth c H locs cells slots Q (F0 mid (pc + 1) lsr (st'.map (cv sz X)))) : W p l e R s mid args below meth c H locs cells slots Q (F0 mid pc lsr (st.map (cv sz X))) := by
  unfold hLdB at hp
  split at hp
  · split at hp
    · refine S_ld hI hE hN hp (fun i a n f r ha hg h0 h1 h2 w => ?_) (fun i a n q f r ha hX0 hq h0 h1 h2 w => ?_) kk
      · obtain ⟨g1, g2⟩ := clp h0 h1 h2
        have he : (wsH sz X tid h)[a]? = some (sz + a, .inl (tid 2, n, .inl (fun j => Int32.ofInt (f j)))) := by rw [wsH_get ha, hg]; rfl
        exact va_bald hx hb hN.2.1 hI.1 a 2 he rfl g2 hd (by rw [g1]; exact w)
      · obtain ⟨g1, g2⟩ := clp h0 h1 h2
        rcases hq with ⟨hq1, -⟩ | ⟨-, hT⟩
        · cases hq1
        · exact va_tb hx hb hT hI.2.2.2.2.2.1 g2 (v := .int (Int32.ofInt (f i.toNat))) (by rw [g1]) hd w
    · split at hp
      · refine S_ld hI hE hN hp (fun i a n f r ha hg h0 h1 h2 w => ?_) (fun i a n q f r ha hX0 hq h0 h1 h2 w => ?_) kk
        · obtain ⟨g1, g2⟩ := clp h0 h1 h2
          have he : (wsH sz X tid h)[a]? = some (sz + a, .inl (tid 3, n, .inl (fun j => Int32.ofInt (f j)))) := by rw [wsH_get ha, hg]; rfl
          exact va_zald hx hb hN.2.1 hI.1 a 3 he rfl g2 hd (by rw [g1]; exact w)
        · rcases hq with ⟨hq1, -⟩ | ⟨hq1, -⟩ <;> cases hq1
      · cases hp
    · cases hp
  · cases hp
/-- a store -/
theorem S_st {kd : Nat} {nw : Int → Int} (hI : IN sz X tid D XC s hB h H locs cells slots) (hE : h.1 ≤ E0) (hkd : kd ≠ 1) (hp : hSt kd nw st h = some (st', h'))
    (row : ∀ (x i : Int) (a n : Nat) (f : Nat → Int) (r : List AV), a < h.1 → gt h a = .inl (kd, n, f) → (wsH sz X tid h)[a]? = some (sz + a, .inl (tid kd, n, .inl (fun j => Int32.ofInt (f j)))) → (Int32.ofInt i).toNatClampNeg = i.toNat → vp_in (Int32.ofInt i) n → (∀ H1 locs1, va_P D clA ((wsH sz X tid h).set a (sz + a, .inl (tid kd, n, .inl (upd (fun j => Int32.ofInt (f j)) i.toNat (Int32.ofInt (nw x)))))) H1 → va_S (fun q => sz ≤ q) H H1 locs1 → W p l e R s mid args below meth c H1 locs1 cells slots Q (F0 mid (pc + 1) lsr (r.map (cv sz X)))) → W p l e R s mid args below meth c H locs cells slots Q (F0 mid pc lsr (.int (Int32.ofInt x) :: .int (Int32.ofInt i) :: .ref (sz + a) :: r.map (cv sz X))))
    (kk : ∀ H1 locs1, IN sz X tid D XC s hB h' H1 locs1 cells slots → W p l e R s mid args below meth c H1 locs1 cells slots Q (F0 mid (pc + 1) lsr (st'.map (cv sz X)))) : W p l e R s mid args below meth c H locs cells slots Q (F0 mid pc lsr (st.map (cv sz X))) := by
  unfold hSt at hp
  split at hp
  · rename_i x i a r
    split at hp
    · rename_i ha
      split at hp
      · rename_i k n f hg
        split at hp
        · rename_i hc
          obtain ⟨rfl, h0, h1, h2⟩ := hc
          cases hp
          obtain ⟨g1, g2⟩ := clp h0 h1 h2
          have he : (wsH sz X tid h)[a]? = some (sz + a, .inl (tid k, n, .inl (fun j => Int32.ofInt (f j)))) := by
            rw [wsH_get ha, hg]
            show some (sz + a, Sum.inl (tid k, n, if k = 1 then _ else _)) = _
            rw [if_neg hkd]
          refine W.eq (g2 := F0 mid pc lsr (.int (Int32.ofInt x) :: .int (Int32.ofInt i) :: .ref (sz + a) :: st'.map (cv sz X))) (by rw [List.map_cons, List.map_cons, List.map_cons, cv_lo (Nat.lt_of_lt_of_le ha hE)]; rfl) ?_
          refine row x i a n f _ ha hg he g1 g2 (fun H1 locs1 hP1 hS1 => W_sz fun hz => kk H1 locs1 (hI.mono ha hE ?_ hS1 hz))
          rw [← wsH_set]
          show va_P D clA ((wsH sz X tid h).set a (sz + a, Sum.inl (tid k, n, if k = 1 then _ else _))) H1
          rw [if_neg hkd, up_oi]
          exact hP1
        · cases hp
      · cases hp
    · cases hp
  · cases hp
theorem S_iast (hx : p.tables.exec = Jvm.exec) (hb : c.code = cc) (hI : IN sz X tid D XC s hB h H locs cells slots) (hE : h.1 ≤ E0) (hN : EN sz X tid D XC s) (hd : decode cc pc = .ok (.iastore, 1)) (hp : hSt 0 (fun z => z) st h = some (st', h'))
    (kk : ∀ H1 locs1, IN sz X tid D XC s hB h' H1 locs1 cells slots → W p l e R s mid args below meth c H1 locs1 cells slots Q (F0 mid (pc + 1) lsr (st'.map (cv sz X)))) : W p l e R s mid args below meth c H locs cells slots Q (F0 mid pc lsr (st.map (cv sz X))) := by
  refine S_st hI hE (by decide) hp (fun x i a n f r ha hg he g1 g2 w => ?_) kk
  exact va_iast hx hb hN.2.1 hI.1 (wsH_D h) hI.S a 0 he rfl g2 hd (fun H1 locs1 hP1 hD1 hS1 => w H1 locs1 (by rw [g1] at hP1; exact hP1) hS1)
theorem S_bast (hx : p.tables.exec = Jvm.exec) (hb : c.code = cc) (hI : IN sz X tid D XC s hB h H locs cells slots) (hE : h.1 ≤ E0) (hN : EN sz X tid D XC s) (hd : decode cc pc = .ok (.bastore, 1)) (hp : hStB st h = some (st', h'))
    (kk : ∀ H1 locs1, IN sz X tid D XC s hB h' H1 locs1 cells slots → W p l e R s mid args below meth c H1 locs1 cells slots Q (F0 mid (pc + 1) lsr (st'.map (cv sz X)))) : W p l e R s mid args below meth c H locs cells slots Q (F0 mid pc lsr (st.map (cv sz X))) := by
  unfold hStB at hp
  split at hp
  · split at hp
    · refine S_st hI hE (by decide) hp (fun x i a n f r ha hg he g1 g2 w => ?_) kk
      exact va_bast hx hb hN.2.1 hI.1 (wsH_D h) hI.S a 2 he rfl g2 hd (fun H1 locs1 hP1 hD1 hS1 => w H1 locs1 (by rw [g1] at hP1; rw [show Int32.ofInt (nB x) = vp_nar .byte (Int32.ofInt x) from oi_ti _]; exact hP1) hS1)
    · refine S_st hI hE (by decide) hp (fun x i a n f r ha hg he g1 g2 w => ?_) kk
      exact va_zast hx hb hN.2.1 hI.1 (wsH_D h) hI.S a 3 he rfl g2 hd (fun H1 locs1 hP1 hD1 hS1 => w H1 locs1 (by rw [g1] at hP1; rw [show Int32.ofInt (nZ x) = vp_nar .boolean (Int32.ofInt x) from oi_ti _]; exact hP1) hS1)
    · cases hp
  · cases hp
theorem S_last (hx : p.tables.exec = Jvm.exec) (hb : c.code = cc) (hI : IN sz X tid D XC s hB h H locs cells slots) (hE : h.1 ≤ E0) (hN : EN sz X tid D XC s) (hd : decode cc pc = .ok (.lastore, 1)) (hp : hStJ st h = some (st', h'))
    (kk : ∀ H1 locs1, IN sz X tid D XC s hB h' H1 locs1 cells slots → W p l e R s mid args below meth c H1 locs1 cells slots Q (F0 mid (pc + 1) lsr (st'.map (cv sz X)))) : W p l e R s mid args below meth c H locs cells slots Q (F0 mid pc lsr (st.map (cv sz X))) := by
  unfold hStJ at hp
  split at hp
  · rename_i x i a r
    split at hp
    · rename_i ha
      split at hp
      · rename_i k n f hg
        split at hp
        · rename_i hc
          obtain ⟨rfl, h0, h1, h2⟩ := hc
          cases hp
          obtain ⟨g1, g2⟩ := clp h0 h1 h2
          have he : (wsH sz X tid h)[a]? = some (sz + a, .inl (tid 1, n, .inr (.inl (fun j => Int64.ofInt (f j))))) := by rw [wsH_get ha, hg]; rfl
          refine W.eq (g2 := F0 mid pc lsr (.long (Int64.ofInt x) :: .int (Int32.ofInt i) :: .ref (sz + a) :: st'.map (cv sz X))) (by rw [List.map_cons, List.map_cons, List.map_cons, cv_lo (Nat.lt_of_lt_of_le ha hE)]; rfl) ?_
          refine va_last hx hb hN.2.1 hI.1 (wsH_D h) hI.S a 1 he rfl g2 hd (fun H1 locs1 hP1 hD1 hS1 => W_sz fun hz => kk H1 locs1 (hI.mono ha hE ?_ hS1 hz))
          rw [← wsH_set]
          show va_P D clA ((wsH sz X tid h).set a (sz + a, Sum.inl (tid 1, n, Sum.inr (Sum.inl (fun j => Int64.ofInt (up f i.toNat x j)))))) H1
          rw [up_ol]
          rw [g1] at hP1
          exact hP1
        · cases hp
      · cases hp
    · cases hp
  · cases hp
theorem S_aald (hx : p.tables.exec = Jvm.exec) (hb : c.code = cc) (hI : IN sz X tid D XC s hB h H locs cells slots) (hE : h.1 ≤ E0) (hN : EN sz X tid D XC s) (hd : decode cc pc = .ok (.aaload, 1)) (hp : hLdQ st h = some (st', h'))
    (kk : IN sz X tid D XC s hB h' H locs cells slots → W p l e R s mid args below meth c H locs cells slots Q (F0 mid (pc + 1) lsr (st'.map (cv sz X)))) : W p l e R s mid args below meth c H locs cells slots Q (F0 mid pc lsr (st.map (cv sz X))) := by
  unfold hLdQ at hp
  split at hp
  · rename_i i a r
    split at hp
    · rename_i ha
      split at hp
      · rename_i n f hg
        split at hp
        · rename_i hc
          obtain ⟨h0, h1, h2, h3⟩ := hc
          cases hp
          obtain ⟨g1, g2⟩ := clp h0 h1 h2
          have he : (wsH sz X tid h)[a]? = some (sz + a, .inl (tid 4, n, .inr (.inr (.inr (.inr (fun j => (f j).map (fun a => sz + a))))))) := by rw [wsH_get ha, hg]; rfl
          refine W.eq (g2 := F0 mid pc lsr (.int (Int32.ofInt i) :: .ref (sz + a) :: r.map (cv sz X))) (by rw [List.map_cons, List.map_cons, cv_lo (Nat.lt_of_lt_of_le ha hE)]; rfl) ?_
          refine va_aldq hx hb hN.2.1 hI.1 a 4 he rfl g2 hd ?_
          rw [g1]
          have w := kk hI
          have ev : cv sz X (.inr (.inr (.inl (f i.toNat)))) = va_rf ((f i.toNat).map (fun a => sz + a)) := by
            cases hf : f i.toNat with
            | none => rfl
            | some b => rw [cv_lo (Nat.lt_of_lt_of_le (h3 b hf) hE)]; rfl
          rw [List.map_cons, ev] at w
          exact w
        · cases hp
      · cases hp
    · cases hp
  · cases hp
theorem S_aast (hx : p.tables.exec = Jvm.exec) (hb : c.code = cc) (hI : IN sz X tid D XC s hB h H locs cells slots) (hE : h.1 ≤ E0) (hN : EN sz X tid D XC s) (hd : decode cc pc = .ok (.aastore, 1)) (hp : hStQ st h = some (st', h'))
    (kk : ∀ H1 locs1, IN sz X tid D XC s hB h' H1 locs1 cells slots → W p l e R s mid args below meth c H1 locs1 cells slots Q (F0 mid (pc + 1) lsr (st'.map (cv sz X)))) : W p l e R s mid args below meth c H locs cells slots Q (F0 mid pc lsr (st.map (cv sz X))) := by
  unfold hStQ at hp
  split at hp
  · rename_i b i a r
    split at hp
    · rename_i hab
      obtain ⟨ha, hb2⟩ := hab
      split at hp
      · rename_i n f c0 fs hg hg2
        split at hp
        · rename_i hc
          obtain ⟨rfl, h0, h1, h2⟩ := hc
          cases hp
          obtain ⟨g1, g2⟩ := clp h0 h1 h2
          have he : (wsH sz X tid h)[a]? = some (sz + a, .inl (tid 4, n, .inr (.inr (.inr (.inr (fun j => (f j).map (fun a => sz + a))))))) := by rw [wsH_get ha, hg]; rfl
          have he2 : (wsH sz X tid h)[b]? = some (sz + b, .inr (0, fs.map (cv sz X))) := by rw [wsH_get hb2, hg2]; rfl
          refine W.eq (g2 := F0 mid pc lsr (.ref (sz + b) :: .int (Int32.ofInt i) :: .ref (sz + a) :: st'.map (cv sz X))) (by rw [List.map_cons, List.map_cons, List.map_cons, cv_lo (Nat.lt_of_lt_of_le ha hE), cv_lo (Nat.lt_of_lt_of_le hb2 hE)]; rfl) ?_
          refine va_astq hx hb hN.2.1 hI.1 (wsH_D h) hI.S a 4 b 0 (r := (RX0, TX0, 14)) he rfl he2 rfl g2 hd (fun H1 locs1 hP1 hD1 hS1 => W_sz fun hz => kk H1 locs1 (hI.mono ha hE ?_ hS1 hz))
          rw [← wsH_set]
          have ef : (fun j => (up f i.toNat (some b) j).map (fun a => sz + a)) = va_up (fun j => (f j).map (fun a => sz + a)) i.toNat (some (sz + b)) := by
            funext j
            unfold up va_up
            split <;> rfl
          show va_P D clA ((wsH sz X tid h).set a (sz + a, Sum.inl (tid 4, n, Sum.inr (Sum.inr (Sum.inr (Sum.inr (fun j => (up f i.toNat (some b) j).map (fun a => sz + a)))))))) H1
          rw [ef]
          rw [g1] at hP1
          exact hP1
        · cases hp
      · cases hp
    · cases hp
  · cases hp
theorem tyA_get {k : Nat} (hk : k < 4) : ∃ ty, (tyA tid)[k]? = some (tid k, ty) := by
  match k, hk with
  | 0, _ => exact ⟨_, rfl⟩
  | 1, _ => exact ⟨_, rfl⟩
  | 2, _ => exact ⟨_, rfl⟩
  | 3, _ => exact ⟨_, rfl⟩
theorem S_alen (hx : p.tables.exec = Jvm.exec) (hb : c.code = cc) (hI : IN sz X tid D XC s hB h H locs cells slots) (hE : h.1 ≤ E0) (hN : EN sz X tid D XC s) (hd : decode cc pc = .ok (.arraylength, 1)) (hp : hLen st h = some (st', h'))
    (kk : IN sz X tid D XC s hB h' H locs cells slots → W p l e R s mid args below meth c H locs cells slots Q (F0 mid (pc + 1) lsr (st'.map (cv sz X)))) : W p l e R s mid args below meth c H locs cells slots Q (F0 mid pc lsr (st.map (cv sz X))) := by
  unfold hLen at hp
  split at hp
  · rename_i a r
    split at hp
    · rename_i hcase
      split at hp
      · rename_i k n f hg
        split at hp
        · rename_i hc
          cases hp
          have ev : Int32.ofNat n = Int32.ofInt (n : Int) := Int32.ofInt_eq_ofNat.symm
          by_cases ha : a < h.1
          · refine W.eq (g2 := F0 mid pc lsr (.ref (sz + a) :: r.map (cv sz X))) (by rw [List.map_cons, cv_lo (Nat.lt_of_lt_of_le ha hE)]) ?_
            obtain ⟨ty, ht⟩ := tyA_get (tid := tid) hc.1
            have he : (wsH sz X tid h)[a]? = some (sz + a, .inl (tid k, n, if k = 1 then .inr (.inl (fun j => Int64.ofInt (f j))) else .inl (fun j => Int32.ofInt (f j)))) := by rw [wsH_get ha, hg]; rfl
            exact va_alen hx hb hN.2.1 hI.1 a k he ht ev hd (kk hI)
          · have ha' : E0 ≤ a := hcase.resolve_left ha
            have hxc := hI.2.2.2.2.2.2 a ha'
            rw [hg] at hxc
            obtain ⟨q, hX0, hq⟩ := hN.2.2.2.2.1.2.1 a ha' _ _ _ hxc.symm
            refine W.eq (g2 := F0 mid pc lsr (.ref q :: r.map (cv sz X))) (by rw [List.map_cons, cv_hi ha', hX0]) ?_
            rcases hq with ⟨-, hX1, hq1⟩ | ⟨-, hT⟩
            · exact va_slen (A := fun q => sz ≤ q) hx hb hX1 (Nat.lt_of_lt_of_le hq1 hN.2.2.2.1) (Nat.not_le.mpr hq1) hI.2.2.2.2.2.1 hd (by rw [ev]; exact kk hI)
            · exact va_tlen hx hb hT hI.2.2.2.2.2.1 ev hd (kk hI)
        · cases hp
      · cases hp
    · cases hp
  · cases hp
end HP2
