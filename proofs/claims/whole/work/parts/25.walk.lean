/-! ===== THE WALK: an instruction of the small machine is one of the large one; throws, calls, ends ===== -/
section PuLen
variable {ls st ls' st' : List AV}
theorem ldI_len {k : Nat} (hp : ldI k ls st = some (ls', st')) : ls'.length = ls.length := by
  unfold ldI at hp
  split at hp
  · cases hp; rfl
  · cases hp
theorem ldJ_len {k : Nat} (hp : ldJ k ls st = some (ls', st')) : ls'.length = ls.length := by
  unfold ldJ at hp
  split at hp
  · cases hp; rfl
  · cases hp
theorem ldR_len {k : Nat} (hp : ldR k ls st = some (ls', st')) : ls'.length = ls.length := by
  unfold ldR at hp
  split at hp
  · cases hp; rfl
  · cases hp
theorem st1_len (k : Nat) (v : AV) (ls : List AV) : (st1 k v ls).length = ls.length := by simp [st1, clr_len]
theorem st2_len (k : Nat) (v : AV) (ls : List AV) : (st2 k v ls).length = ls.length := by simp [st2, clr_len]
theorem stI_len {k : Nat} (hp : stI k ls st = some (ls', st')) : ls'.length = ls.length := by
  unfold stI at hp
  split at hp
  · split at hp
    · cases hp; exact st1_len _ _ _
    · cases hp
  · cases hp
theorem stJ_len {k : Nat} (hp : stJ k ls st = some (ls', st')) : ls'.length = ls.length := by
  unfold stJ at hp
  split at hp
  · split at hp
    · cases hp; exact st2_len _ _ _
    · cases hp
  · cases hp
theorem stR_len {k : Nat} (hp : stR k ls st = some (ls', st')) : ls'.length = ls.length := by
  unfold stR at hp
  split at hp
  · split at hp
    · cases hp; exact st1_len _ _ _
    · cases hp
  · cases hp
theorem b2I_len {f : Int → Int → Int} (hp : b2I f ls st = some (ls', st')) : ls'.length = ls.length := by
  unfold b2I at hp
  split at hp
  · cases hp; rfl
  · cases hp
theorem b2J_len {f : Int → Int → Int} (hp : b2J f ls st = some (ls', st')) : ls'.length = ls.length := by
  unfold b2J at hp
  split at hp
  · cases hp; rfl
  · cases hp
theorem b2S_len {f : Int → Int → Int} (hp : b2S f ls st = some (ls', st')) : ls'.length = ls.length := by
  unfold b2S at hp
  split at hp
  · cases hp; rfl
  · cases hp
theorem b2D_len {f : Int → Int → Int} (hp : b2D f ls st = some (ls', st')) : ls'.length = ls.length := by
  unfold b2D at hp
  split at hp
  · split at hp
    · cases hp
    · cases hp; rfl
  · cases hp
theorem b2E_len {f : Int → Int → Int} (hp : b2E f ls st = some (ls', st')) : ls'.length = ls.length := by
  unfold b2E at hp
  split at hp
  · split at hp
    · cases hp
    · cases hp; rfl
  · cases hp
theorem u1I_len {f : Int → Int} (hp : u1I f ls st = some (ls', st')) : ls'.length = ls.length := by
  unfold u1I at hp
  split at hp
  · cases hp; rfl
  · cases hp
theorem pu_len {i : Instr} (hp : pu i ls st = some (ls', st')) : ls'.length = ls.length := by
  unfold pu at hp
  split at hp
  all_goals first
    | exact ldI_len hp
    | exact ldJ_len hp
    | exact ldR_len hp
    | exact stI_len hp
    | exact stJ_len hp
    | exact stR_len hp
    | exact b2I_len hp
    | exact b2J_len hp
    | exact b2S_len hp
    | exact b2D_len hp
    | exact b2E_len hp
    | exact u1I_len hp
    | (cases hp; rfl)
    | (cases hp; done)
    | (split at hp <;> first | (cases hp; rfl) | (cases hp; exact st1_len _ _ _) | (split at hp <;> first | (cases hp; rfl) | cases hp) | cases hp)
end PuLen
theorem nxt_ok {st : List AV} (h : nxt st = true) : ∀ a, E0 ≤ a → ∀ r, st ≠ .inr (.inr (.inl (some a))) :: r := fun a ha r e => by
  subst e
  have h1 : a < E0 := of_decide_eq_true h
  omega
theorem narB {t : Option FieldType} {z : Int} (h : retB t z = true) : ∃ ty, t = some ty ∧ narrow ty (.int (Int32.ofInt z)) = .int (Int32.ofInt z) := by
  unfold retB at h
  split at h
  · exact ⟨_, rfl, rfl⟩
  · refine ⟨_, rfl, ?_⟩
    rcases of_decide_eq_true h with rfl | rfl <;> rfl
  · refine ⟨_, rfl, ?_⟩
    show Value.int (Int32.ofInt z).toInt8.toInt32 = _
    rw [Int32.toInt8_ofInt, oi_b (of_decide_eq_true h)]
  · refine ⟨_, rfl, ?_⟩
    obtain ⟨h0, h1⟩ := of_decide_eq_true h
    obtain ⟨q9, rfl⟩ := Int.eq_ofNat_of_zero_le h0
    have e : Int32.ofInt (q9 : Int) = nI q9 := rfl
    rw [e]
    exact (pk_charN (by omega)).1
  · cases h
section Walk
variable {l : Launch} {sz : Nat} {X : Nat → Value} {tid : Nat → ClassId} {D : va_G} {XC : Nat → AC} {p : Program} {e : Env} {R : Room} {s : State} {mid : MethodId} {args : Array Value} {below : List Frame} {meth : Method} {c : Code} {H : Heap} {locs : List Loc} {cells slots : Nat} {lsr : Array Slot} {hB h h' : AH} {d m pc : Nat} {ls st : List AV} {r : AR} {Q : State → Prop}
theorem IN.ed {t : State} (hI : IN sz X tid D XC s hB h H locs cells slots) (ht : t.heap = H) : EdS sz X tid D XC h t ∧ va_F (fun q => sz ≤ q) s t := by
  subst ht
  exact ⟨⟨hI.1, hI.2.1, hI.2.2.2.2.2.2⟩, hI.2.2.2.2.2.1.1, hI.2.2.2.2.2.1.2.1⟩
/-- an exception in this frame: its handler, or out -/
theorem S_thr {rc : RC} (hS : SW l rc) {ci : Nat} (e1 : thr rc d m pc ls h ci = some (r, h')) (hE : h'.1 ≤ E0) (hBD : BD sz X tid D XC p l R s mid meth c m d) (hsz : ls.length = mL m) (hl : LR sz X lsr ls) (hI : IN sz X tid D XC s hB h H locs cells slots) (hR1 : h'.1 ≤ hB.1 + R.cells) (hR2 : h'.2.1 ≤ hB.2.1 + R.slots)
    {q9 : Nat} {ce9 : Cell} {rest : List Value} (hq : H[q9]? = some ce9) (hv : ce9.vm = .none) (hcl : s.vm.findClass (xN ci) = some ce9.cls) :
    vx_W p l e R s mid args below meth c H locs cells slots (EndS sz X tid D XC below args s hB r h') (F0 mid pc lsr rest) q9 := by
  have hBD0 := hBD
  obtain ⟨hx, hb, hml, hown, hini, hN, hF, hL, hret, hlk, htab, hst⟩ := hBD
  have hX1 : ∀ a, (X a).category = 1 := fun a => by rcases hN.2.2.1 a with h | ⟨q, h⟩ <;> rw [h] <;> rfl
  unfold thr at e1
  split at e1
  · rename_i hci
    have hps : ∀ z, PSS m pc ci z → covers z pc = false ∨ (z.catchType ≠ 0 ∧ ∃ nm : String, (Cond.classLink (cN (mK m)) z.catchType nm).before args s = true ∧ va_Nc (xN ci) nm s) := fun z hz => hz.imp id (fun ⟨h0, c0, hc0, hne, hw⟩ => ⟨h0, xN c0, hN.1 _ hw rfl args, hN.2.2.2.2.2.2.2.2.1 ci c0 hci hc0 (Ne.symm hne)⟩)
    split at e1
    · rename_i g0 hh
      obtain ⟨pre, x, suf, q1, q2, q3, q4, q5, q6⟩ := hnd_some hh
      split at e1
      · rename_i k0 hd
        split at e1
        · rename_i hk
          refine vx_catch hown pre x suf (htab.trans q1) (fun z hz => hps z (q2 z hz)) q3 q4 (hN.1 _ q5 rfl args) (va_Nw.use rfl (hN.2.2.2.2.2.2.2.1 ci hci)) hq hv hcl ?_
          rw [q6]
          exact lv_astore_n hx hb hd rfl hl.has hk rfl (fun lsr' h9 => hS _ _ _ _ [] _ _ _ e1 hE _ _ _ _ _ _ _ _ _ _ _ _ _ _ _ _ _ _ _ _ hBD0 (by rw [st1_len]; exact hsz) (LR_stU hX1 hk h9) hI hR1 hR2)
        · cases e1
      · rename_i k0 hd
        split at e1
        · rename_i hk
          refine vx_catch hown pre x suf (htab.trans q1) (fun z hz => hps z (q2 z hz)) q3 q4 (hN.1 _ q5 rfl args) (va_Nw.use rfl (hN.2.2.2.2.2.2.2.1 ci hci)) hq hv hcl ?_
          rw [q6]
          exact lv_astore hx hb hd hl.has hk rfl (fun lsr' h9 => hS _ _ _ _ [] _ _ _ e1 hE _ _ _ _ _ _ _ _ _ _ _ _ _ _ _ _ _ _ _ _ hBD0 (by rw [st1_len]; exact hsz) (LR_stU hX1 hk h9) hI hR1 hR2)
        · cases e1
      · cases e1
    · rename_i hh
      cases e1
      have i4 := hI.2.2.2.1
      have i5 := hI.2.2.2.2.1
      refine vx_outP hown hlk (fun z hz => hps z (hnd_none hh z (by rw [← htab]; exact hz))) hq hv hcl (fun t ht _ => ⟨⟨ci, rfl, hci, rfl, (hI.ed ht).1⟩, (hI.ed ht).2⟩) hI.2.2.2.2.2.1.2.2 (by omega) (by omega)
    · cases e1
  · cases e1
/-- behind a call -/
theorem S_back {h1 : AH} {r1 : AR} {a9 : Array Value} {rest : List AV} {st0 : List Value} (hup1 : h.1 ≤ h1.1) (hup2 : h.2.1 ≤ h1.2.1) (hI : IN sz X tid D XC s hB h H locs cells slots)
    (hr : vx_Run p l e R s mid args below meth c H locs cells slots (h1.1 - h.1) (h1.2.1 - h.2.1) (F0 mid pc lsr st0) (rest.map (cv sz X)) (QcS sz X tid D XC r1 h1 a9) (XcS sz X tid D XC r1 h1) (fun q => sz ≤ q))
    (kk : ∀ v, r1 = .inl v → ∀ H1 locs1, IN sz X tid D XC s hB h1 H1 locs1 (cells + (h1.1 - h.1)) (slots + (h1.2.1 - h.2.1)) → W p l e R s mid args below meth c H1 locs1 (cells + (h1.1 - h.1)) (slots + (h1.2.1 - h.2.1)) Q (F0 mid (pc + 3) lsr ((v.toList ++ rest).map (cv sz X))))
    (kx : ∀ ci, r1 = .inr ci → ∀ H1 locs1 q9 ce9, IN sz X tid D XC s hB h1 H1 locs1 (cells + (h1.1 - h.1)) (slots + (h1.2.1 - h.2.1)) → H1[q9]? = some ce9 → ce9.vm = .none → s.vm.findClass (xN ci) = some ce9.cls → vx_W p l e R s mid args below meth c H1 locs1 (cells + (h1.1 - h.1)) (slots + (h1.2.1 - h.2.1)) Q (F0 mid pc lsr (rest.map (cv sz X))) q9) :
    W p l e R s mid args below meth c H locs cells slots Q (F0 mid pc lsr st0) := by
  have key : ∀ (T' : State) (t st₀ : State) (L : List Loc), st₀.heap = H → T'.heap = t.heap → (∀ q ∈ L, sz ≤ q.base) → EdS sz X tid D XC h1 t → va_F (fun q => sz ≤ q) st₀ t → IN sz X tid D XC s hB h1 T'.heap (locs ++ L) (cells + (h1.1 - h.1)) (slots + (h1.2.1 - h.2.1)) := by
    intro T' t st₀ L h0 e1 hL hE hF
    obtain ⟨k1, k2, k3⟩ := vx_keep (A0 := fun q => sz ≤ q) (A1 := fun q => sz ≤ q) (free := fun q => sz ≤ q) h0 e1 hI.2.2.2.2.2.1 (fun _ _ hz => hz) (fun _ hz => hz) hL hF
    obtain ⟨i1, i2, i3, i4, i5, i6, i7⟩ := hI
    exact ⟨by rw [e1]; exact hE.1, by rw [e1]; exact hE.2.1, i3, by omega, by omega, k3, hE.2.2⟩
  intro T hT X9
  rcases hr T hT X9 with ⟨v, st₀, t, T', L, h0, X', hL, e1, e2, ⟨⟨w, hw, ho, hE⟩, hF⟩, st9⟩ | ⟨q, st₀, t, T', L, E, ce, h0, X', hL, e1, e2, ⟨⟨ci, hr1, hci, hE1, hE⟩, hF⟩, hce, hcv, hcl, st9⟩
  · have hv : v = w.map (cv sz X) := by injection ho
    subst hv
    obtain ⟨t2, a1, b1⟩ := kk w hw T'.heap (locs ++ L) (key T' t st₀ L h0 e1 hL hE hF) T' rfl X'
    refine ⟨t2, st9 t2 ?_, b1⟩
    cases w <;> exact a1
  · subst hE1
    obtain ⟨t2, a1, b1⟩ := kx ci hr1 T'.heap (locs ++ L) q ce (key T' t st₀ L h0 e1 hL hE hF) (by rw [e1]; exact hce) hcv hcl T' rfl X'
    exact ⟨t2, st9.trans a1, b1⟩
end Walk
