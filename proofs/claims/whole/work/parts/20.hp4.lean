/-! ===== instructions on the heap: all of them ===== -/
section HP4
variable {st st' : List AV} {h h' : AH}
theorem hGet_n {c k : Nat} (hp : hGet c k st h = some (st', h')) : h' = h := by
  unfold hGet at hp
  repeat' split at hp
  all_goals first | (cases hp; rfl) | cases hp
theorem hPut_n {m c k : Nat} (hp : hPut m c k st h = some (st', h')) : h'.1 = h.1 ∧ h'.2.1 = h.2.1 := by
  unfold hPut at hp
  repeat' split at hp
  all_goals first | (cases hp; exact ⟨rfl, rfl⟩) | cases hp
theorem hLd_n {k : Nat} (hp : hLd k st h = some (st', h')) : h' = h := by
  unfold hLd at hp
  repeat' split at hp
  all_goals first | (cases hp; rfl) | cases hp
theorem hLdB_n (hp : hLdB st h = some (st', h')) : h' = h := by
  unfold hLdB at hp
  repeat' split at hp
  all_goals first | exact hLd_n hp | cases hp
theorem hSt_n {k : Nat} {nw : Int → Int} (hp : hSt k nw st h = some (st', h')) : h'.1 = h.1 ∧ h'.2.1 = h.2.1 := by
  unfold hSt at hp
  repeat' split at hp
  all_goals first | (cases hp; exact ⟨rfl, rfl⟩) | cases hp
theorem hStB_n (hp : hStB st h = some (st', h')) : h'.1 = h.1 ∧ h'.2.1 = h.2.1 := by
  unfold hStB at hp
  repeat' split at hp
  all_goals first | exact hSt_n hp | cases hp
theorem hStJ_n (hp : hStJ st h = some (st', h')) : h'.1 = h.1 ∧ h'.2.1 = h.2.1 := by
  unfold hStJ at hp
  repeat' split at hp
  all_goals first | (cases hp; exact ⟨rfl, rfl⟩) | cases hp
theorem hLdQ_n (hp : hLdQ st h = some (st', h')) : h' = h := by
  unfold hLdQ at hp
  repeat' split at hp
  all_goals first | (cases hp; rfl) | cases hp
theorem hStQ_n (hp : hStQ st h = some (st', h')) : h'.1 = h.1 ∧ h'.2.1 = h.2.1 := by
  unfold hStQ at hp
  repeat' split at hp
  all_goals first | (cases hp; exact ⟨rfl, rfl⟩) | cases hp
theorem hLen_n (hp : hLen st h = some (st', h')) : h' = h := by
  unfold hLen at hp
  repeat' split at hp
  all_goals first | (cases hp; rfl) | cases hp
theorem hCpy_n (hp : hCpy st h = some (st', h')) : h'.1 = h.1 ∧ h'.2.1 = h.2.1 := by
  unfold hCpy at hp
  repeat' split at hp
  all_goals first | (cases hp; exact ⟨rfl, rfl⟩) | cases hp
theorem hNewA_n {t : ArrayType} (hp : hNewA t st h = some (st', h')) : h'.1 = h.1 + 1 ∧ h.2.1 ≤ h'.2.1 := by
  unfold hNewA at hp
  repeat' split at hp
  all_goals first | (cases hp; exact ⟨rfl, Nat.le_add_right _ _⟩) | cases hp
theorem hNewQ_n {c : Nat} (hp : hNewQ c st h = some (st', h')) : h'.1 = h.1 + 1 ∧ h.2.1 ≤ h'.2.1 := by
  unfold hNewQ at hp
  repeat' split at hp
  all_goals first | (cases hp; exact ⟨rfl, Nat.le_add_right _ _⟩) | cases hp
end HP4
theorem hp_up {m : Nat} {i : Instr} {st st' : List AV} {h h' : AH} (hq : hp m i st h = some (st', h')) : h.1 ≤ h'.1 ∧ h.2.1 ≤ h'.2.1 := by
  have e0 : h' = h → h.1 ≤ h'.1 ∧ h.2.1 ≤ h'.2.1 := fun e => by rw [e]; exact ⟨Nat.le_refl _, Nat.le_refl _⟩
  have e1 : h'.1 = h.1 ∧ h'.2.1 = h.2.1 → h.1 ≤ h'.1 ∧ h.2.1 ≤ h'.2.1 := fun e => by rw [e.1, e.2]; exact ⟨Nat.le_refl _, Nat.le_refl _⟩
  have e2 : h'.1 = h.1 + 1 ∧ h.2.1 ≤ h'.2.1 → h.1 ≤ h'.1 ∧ h.2.1 ≤ h'.2.1 := fun e => ⟨by omega, e.2⟩
  unfold hp at hq
  split at hq
  · split at hq
    · exact e0 (hGet_n hq)
    · cases hq
  · split at hq
    · exact e1 (hPut_n hq)
    · cases hq
  · exact e0 (hLd_n hq)
  · exact e0 (hLd_n hq)
  · exact e0 (hLdB_n hq)
  · exact e1 (hSt_n hq)
  · exact e1 (hStJ_n hq)
  · exact e1 (hStB_n hq)
  · exact e0 (hLdQ_n hq)
  · exact e1 (hStQ_n hq)
  · exact e0 (hLen_n hq)
  · exact e2 (hNewA_n hq)
  · split at hq
    · exact e2 (hNewQ_n hq)
    · cases hq
  · split at hq
    · split at hq
      · cases hq
        exact ⟨Nat.le_add_right _ _, Nat.le_add_right _ _⟩
      · cases hq
    · cases hq
  · unfold hLdc at hq
    repeat' split at hq
    all_goals first | (cases hq; exact ⟨Nat.le_refl _, Nat.le_refl _⟩) | cases hq
  · unfold hLdc at hq
    repeat' split at hq
    all_goals first | (cases hq; exact ⟨Nat.le_refl _, Nat.le_refl _⟩) | cases hq
  · split at hq
    · cases hq
      exact ⟨Nat.le_refl _, Nat.le_refl _⟩
    · cases hq
  · split at hq
    · cases hq
      exact ⟨Nat.le_refl _, Nat.le_refl _⟩
    · cases hq
      exact ⟨Nat.le_refl _, Nat.le_refl _⟩
    · cases hq
  · split at hq
    · split at hq
      · cases hq
        exact ⟨Nat.le_refl _, Nat.le_refl _⟩
      · cases hq
    · cases hq
  · split at hq
    · exact e1 (hCpy_n hq)
    · unfold hMax at hq
      repeat' split at hq
      all_goals first | (cases hq; exact ⟨Nat.le_refl _, Nat.le_refl _⟩) | cases hq
    · unfold hMin at hq
      repeat' split at hq
      all_goals first | (cases hq; exact ⟨Nat.le_refl _, Nat.le_refl _⟩) | cases hq
    · cases hq
  · cases hq
section HP5
variable {p : Program} {l : Launch} {e : Env} {R : Room} {s : State} {mid : MethodId} {args : Array Value} {below : List Frame} {meth : Method} {c : Code} {H : Heap} {locs : List Loc} {cells slots : Nat} {Q : State → Prop} {pc : Nat} {lsr : Array Slot} {st st' : List AV} {sz : Nat} {X : Nat → Value} {tid : Nat → ClassId} {D : va_G} {XC : Nat → AC} {hB h h' : AH}
theorem RA_u {a b : ClassId} {ty : FieldType} (hp : ty = .int ∨ ty = .long ∨ ty = .byte ∨ ty = .boolean) (h1 : va_RA s a ty) (h2 : va_RA s b ty) : a = b := by
  rcases hp with rfl | rfl | rfl | rfl <;> exact Option.some.inj (Eq.trans (Eq.symm h1) h2)
set_option maxHeartbeats 4000000 in
theorem S_hp {m len : Nat} {i : Instr} (hx : p.tables.exec = Jvm.exec) (hb : c.code = mC m) (hml : c.maxLocals = lsr.size) (hown : s.vm.findClass (cN (mK m)) = some mid.cls) (hini : mS m = 2 → meth.name = "<init>") (hN : EN sz X tid D XC s) (hI : IN sz X tid D XC s hB h H locs cells slots) (hE : h'.1 ≤ E0) (hR1 : h'.1 ≤ hB.1 + R.cells) (hR2 : h'.2.1 ≤ hB.2.1 + R.slots) (hF : 10 ≤ R.frames) (hL : 300 ≤ R.locals) (hd : decode (mC m) pc = .ok (i, len)) (hn : lnO i len = true) (hq : hp m i st h = some (st', h'))
    (kk : ∀ H1 locs1, IN sz X tid D XC s hB h' H1 locs1 (cells + (h'.1 - h.1)) (slots + (h'.2.1 - h.2.1)) → W p l e R s mid args below meth c H1 locs1 (cells + (h'.1 - h.1)) (slots + (h'.2.1 - h.2.1)) Q (F0 mid (pc + len) lsr (st'.map (cv sz X)))) : W p l e R s mid args below meth c H locs cells slots Q (F0 mid pc lsr (st.map (cv sz X))) := by
  have hup := hp_up hq
  have hE0 : h.1 ≤ E0 := Nat.le_trans hup.1 hE
  have hX1 : ∀ a, (X a).category = 1 := fun a => by rcases hN.2.2.1 a with h | ⟨q, h⟩ <;> rw [h] <;> rfl
  have hcat : ∀ r : List AV, (r.map ct).sum ≤ 8 → ((r.map (cv sz X)).map fun v => v.category).sum ≤ 8 := fun r hr => by
    rw [List.map_map, show ((fun v : Value => v.category) ∘ cv sz X) = ct from funext fun v => cv_cat hX1]
    exact hr
  have kn : h'.1 = h.1 ∧ h'.2.1 = h.2.1 → ∀ H1 locs1, IN sz X tid D XC s hB h' H1 locs1 cells slots → W p l e R s mid args below meth c H1 locs1 cells slots Q (F0 mid (pc + len) lsr (st'.map (cv sz X))) := fun hh H1 locs1 hI1 => by
    have w := kk H1 locs1
    rw [hh.1, hh.2, Nat.sub_self, Nat.sub_self, Nat.add_zero, Nat.add_zero] at w
    exact w hI1
  have ks : h' = h → IN sz X tid D XC s hB h' H locs cells slots → W p l e R s mid args below meth c H locs cells slots Q (F0 mid (pc + len) lsr (st'.map (cv sz X))) := fun hh => kn (by rw [hh]; exact ⟨rfl, rfl⟩) H locs
  unfold hp at hq
  split at hq
  · obtain rfl := bq hn
    split at hq
    · rename_i hpl
      exact S_get hx hb hown hN hI hE0 (pl_PF hpl (by decide)) hd hq (ks (hGet_n hq))
    · cases hq
  · obtain rfl := bq hn
    split at hq
    · rename_i hpl
      exact S_put hx hb hown hini hN hI hE0 (pl_PF hpl (by decide)) hd hq (kn (hPut_n hq))
    · cases hq
  · obtain rfl := bq hn
    exact S_iald hx hb hI hE0 hN hd hq (ks (hLd_n hq))
  · obtain rfl := bq hn
    exact S_lald hx hb hI hE0 hN hd hq (ks (hLd_n hq))
  · obtain rfl := bq hn
    exact S_bald hx hb hI hE0 hN hd hq (ks (hLdB_n hq))
  · obtain rfl := bq hn
    exact S_iast hx hb hI hE0 hN hd hq (kn (hSt_n hq))
  · obtain rfl := bq hn
    exact S_last hx hb hI hE0 hN hd hq (kn (hStJ_n hq))
  · obtain rfl := bq hn
    exact S_bast hx hb hI hE0 hN hd hq (kn (hStB_n hq))
  · obtain rfl := bq hn
    exact S_aald hx hb hI hE0 hN hd hq (ks (hLdQ_n hq))
  · obtain rfl := bq hn
    exact S_aast hx hb hI hE0 hN hd hq (kn (hStQ_n hq))
  · obtain rfl := bq hn
    exact S_alen hx hb hI hE0 hN hd hq (ks (hLen_n hq))
  · rename_i t
    obtain rfl := bq hn
    have hq0 := hq
    cases t
    case int => exact S_newa hx hb hI hN hE hR1 hR2 hd rfl rfl wA_int rfl (fun a b => RA_u (Or.inl rfl)) (fun cA n => rfl) (by decide) hq (fun H1 => kk H1 locs)
    case long => exact S_newa hx hb hI hN hE hR1 hR2 hd rfl rfl wA_long rfl (fun a b => RA_u (Or.inr (Or.inl rfl))) (fun cA n => rfl) (by decide) hq (fun H1 => kk H1 locs)
    case byte => exact S_newa hx hb hI hN hE hR1 hR2 hd rfl rfl wA_byte rfl (fun a b => RA_u (Or.inr (Or.inr (Or.inl rfl)))) (fun cA n => rfl) (by decide) hq (fun H1 => kk H1 locs)
    case boolean => exact S_newa hx hb hI hN hE hR1 hR2 hd rfl rfl wA_boolean rfl (fun a b => RA_u (Or.inr (Or.inr (Or.inr rfl)))) (fun cA n => rfl) (by decide) hq (fun H1 => kk H1 locs)
    all_goals (unfold hNewA at hq; split at hq <;> cases hq)
  · obtain rfl := bq hn
    split at hq
    · rename_i hpl
      exact S_newq hx hb hown hI hN hE hR1 hR2 (pl_PF hpl (by decide)) hd hq (fun H1 => kk H1 locs)
    · cases hq
  · obtain rfl := bq hn
    split at hq
    · rename_i c0 b0 z0 hpl
      split at hq
      · rename_i hc0
        cases hq
        have e1 : (al h (cNf.getD c0 0) (Sum.inr (Sum.inr (c0, fs0 c0)))).1 - h.1 = 1 := Nat.add_sub_cancel_left ..
        have e2 : (al h (cNf.getD c0 0) (Sum.inr (Sum.inr (c0, fs0 c0)))).2.1 - h.2.1 = cF c0 := Nat.add_sub_cancel_left ..
        have hE1 : h.1 + 1 ≤ E0 := hE
        refine S_new hx hb hown hI hN hc0 hE1 hR1 hR2 (pl_PF hpl (by decide)) hd (fun H1 hI1 => ?_)
        have w := kk H1 locs
        rw [e1, e2, List.map_cons, show cv sz X (vR h.1) = .ref (sz + h.1) from cv_lo (by omega)] at w
        exact w hI1
      · cases hq
    · cases hq
  · obtain rfl := bq hn
    unfold hLdc at hq
    split at hq
    · rename_i hpl
      cases hq
      exact lv_ldc hx hb hown (hN.1 _ (pl_PF hpl (by decide)) rfl args) hd (ks rfl hI)
    · rename_i i0 b0 z0 hpl
      cases hq
      obtain ⟨h79, t, ht⟩ := pl_PF hpl (by decide)
      obtain ⟨q, hX0, hR⟩ := hN.2.2.2.2.1.2.2.2.1 i0 _ _ _ ht
      have w := ks rfl hI
      rw [List.map_cons, show cv sz X (vR (E0 + 2 + 2 * i0)) = X (E0 + 2 + 2 * i0 - E0) from cv_hi (by omega), show E0 + 2 + 2 * i0 - E0 = 2 + 2 * i0 by omega, hX0] at w
      exact va_ldcS hx hb hown hR hd w
    · cases hq
  · obtain rfl := bq hn
    unfold hLdc at hq
    split at hq
    · rename_i hpl
      cases hq
      exact lv_ldcw hx hb hown (hN.1 _ (pl_PF hpl (by decide)) rfl args) hd (ks rfl hI)
    · cases hq
    · cases hq
  · obtain rfl := bq hn
    split at hq
    · rename_i hpl
      cases hq
      exact lv_ldc2 hx hb hown (hN.1 _ (pl_PF hpl (by decide)) rfl args) hd (ks rfl hI)
    · cases hq
  · obtain rfl := bq hn
    split at hq
    · rename_i hpl
      cases hq
      exact va_gets hx hb hN.2.2.2.2.1.2.2.2.2.1 hI.2.2.2.2.2.1 hown (hN.1 _ (pl_PF hpl (by decide)) rfl args) (fun _ h9 => h9) hd (ks rfl hI)
    · rename_i hpl
      cases hq
      have w := ks rfl hI
      rw [List.map_cons, show cv sz X (vR (E0 + 1)) = X (E0 + 1 - E0) from cv_hi (by omega), show E0 + 1 - E0 = 1 by omega] at w
      exact va_gets hx hb hN.2.2.2.2.1.2.2.2.2.2.1 hI.2.2.2.2.2.1 hown (hN.1 _ (pl_PF hpl (by decide)) rfl args) (fun _ h9 => h9) hd w
    · cases hq
  · obtain rfl := bq hn
    split at hq
    · rename_i a0 b0 z0 a r hpl
      split at hq
      · rename_i hr
        cases hq
        have w := ks rfl hI
        refine W.eq (g2 := F0 mid pc lsr (.ref (sz + a) :: st'.map (cv sz X))) (by rw [List.map_cons, cv_lo (Nat.lt_of_lt_of_le hr.2 hE0)]) ?_
        exact W.objInit hx hb hown (hN.1 _ (pl_PF hpl (by decide)) rfl args) (hN.1 _ wO_ins rfl args) (hN.1 _ wO_cod rfl args) rfl hml.symm rfl hd (by omega) (Nat.le_trans (Nat.add_le_add_right (Nat.le_trans (Nat.le_of_eq (Nat.zero_add _)) (hcat _ hr.1)) 12) (by omega)) w
      · cases hq
    · cases hq
  · obtain rfl := bq hn
    split at hq
    · rename_i hpl
      exact S_cpy hx hb hml hown hI hN hE0 hF hL wC_nat wC_sta wC_ini (pl_PF hpl (by decide)) hd hq (kn (hCpy_n hq))
    · rename_i hpl
      unfold hMax at hq
      split at hq
      · rename_i b a r
        split at hq
        · rename_i hr
          cases hq
          refine va_mmax hx hb hml hown (hN.1 _ (pl_PF hpl (by decide)) rfl args) (hN.1 _ wM_max_s rfl args) (hN.1 _ wM_ini rfl args) (hN.1 _ wM_max_c rfl args) (by omega) (Nat.le_trans (Nat.add_le_add_right (hcat _ hr) 13) (by omega)) (by have := hI.2.2.2.1; omega) (by have := hI.2.2.2.2.1; omega) hd ?_
          have w := ks rfl hI
          have ev : cv sz X (if w32 a < w32 b then (Sum.inl b : AV) else Sum.inl a) = .int (if Int32.ofInt a < Int32.ofInt b then Int32.ofInt b else Int32.ofInt a) := by
            by_cases hc : w32 a < w32 b
            · rw [if_pos hc, if_pos (c_lt.mpr hc)]; rfl
            · rw [if_neg hc, if_neg (fun h => hc (c_lt.mp h))]; rfl
          rw [List.map_cons, ev] at w
          exact w
        · cases hq
      · cases hq
    · rename_i hpl
      unfold hMin at hq
      split at hq
      · rename_i b a r
        split at hq
        · rename_i hr
          cases hq
          refine va_mmin hx hb hml hown (hN.1 _ (pl_PF hpl (by decide)) rfl args) (hN.1 _ wM_min_s rfl args) (hN.1 _ wM_ini rfl args) (hN.1 _ wM_min_c rfl args) (by omega) (Nat.le_trans (Nat.add_le_add_right (hcat _ hr) 13) (by omega)) (by have := hI.2.2.2.1; omega) (by have := hI.2.2.2.2.1; omega) hd ?_
          have w := ks rfl hI
          have ev : cv sz X (if w32 b < w32 a then (Sum.inl b : AV) else Sum.inl a) = .int (if Int32.ofInt b < Int32.ofInt a then Int32.ofInt b else Int32.ofInt a) := by
            by_cases hc : w32 b < w32 a
            · rw [if_pos hc, if_pos (c_lt.mpr hc)]; rfl
            · rw [if_neg hc, if_neg (fun h => hc (c_lt.mp h))]; rfl
          rw [List.map_cons, ev] at w
          exact w
        · cases hq
      · cases hq
    · cases hq
  · cases hq
end HP5
