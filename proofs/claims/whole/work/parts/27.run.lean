/-! ===== THE WALK, AT LAST ===== -/
section Frames2
variable {sz : Nat} {X : Nat → Value} {tid : Nat → ClassId} {D : va_G} {XC : Nat → AC} {s : State} {hB h : AH} {H : Heap} {locs : List Loc} {cells slots : Nat}
theorem IN.grow2 {H1 : Heap} {q n : Nat} {ce1 : AC} (hI : IN sz X tid D XC s hB h H locs cells slots) (hE : h.1 + 1 ≤ E0) (hP : va_P D clA (wsH sz X tid h ++ [(q, ce sz X tid ce1)]) H1) (hD : va_D (fun q => sz ≤ q) (wsH sz X tid h ++ [(q, ce sz X tid ce1)])) (hS : va_S (fun q => sz ≤ q) s.heap H1 locs) (hz : H1.size ≤ s.heap.size + (cells + 1)) :
    q = sz + h.1 ∧ IN sz X tid D XC s hB (al h n ce1) H1 locs (cells + 1) (slots + n) := by
  obtain ⟨i1, i2, i3, i4, i5, i6, i7⟩ := hI
  have hl : (wsH sz X tid h ++ [(q, ce sz X tid ce1)])[h.1]? = some (q, ce sz X tid ce1) := by
    rw [List.getElem?_append_right (by rw [wsH_len]; omega), wsH_len, Nat.sub_self]
    rfl
  have hq1 : sz ≤ q := hD.2 _ _ hl
  have hq2 : q < H1.size := (hP _ _ hl).lt
  have hq : q = sz + h.1 := by
    by_cases hlt : q < sz + h.1
    · exfalso
      have hk : q - sz < h.1 := by omega
      have hg : (wsH sz X tid h ++ [(q, ce sz X tid ce1)])[q - sz]? = some (sz + (q - sz), ce sz X tid (gt h (q - sz))) := by
        rw [List.getElem?_append_left (by rw [wsH_len]; exact hk), wsH_get hk]
      have := hD.1 _ _ _ _ hg hl (by dsimp only; omega)
      omega
    · omega
  refine ⟨hq, ?_, ?_, i3, ?_, ?_, hS, fun b hb => ?_⟩
  · rw [hq, wsH_al (n := n)] at hP
    exact hP
  · show H1.size = sz + (h.1 + 1)
    omega
  · show cells + 1 + hB.1 = h.1 + 1
    omega
  · show slots + n + hB.2.1 = h.2.1 + n
    omega
  · have e : ¬ b = h.1 := by omega
    show (if b = h.1 then ce1 else h.2.2 b) = XC b
    rw [if_neg e]
    exact i7 b hb
end Frames2
section Walk2
variable {l : Launch} {sz : Nat} {X : Nat → Value} {tid : Nat → ClassId} {D : va_G} {XC : Nat → AC} {p : Program} {e : Env} {R : Room} {s : State} {mid : MethodId} {args : Array Value} {below : List Frame} {meth : Method} {c : Code} {H : Heap} {locs : List Loc} {cells slots : Nat} {lsr : Array Slot} {hB h h' : AH} {d m pc : Nat} {ls st : List AV} {r : AR} {Q : State → Prop}
theorem S_run {n kd x y b d' : Nat} {z : Int} {r1 : AR} {h1 : AH} (hS : SW l (exec n)) (hd : (kd = 0 ∧ decode (mC m) pc = .ok (.invokestatic x, 3)) ∨ (kd = 1 ∧ decode (mC m) pc = .ok (.invokevirtual x, 3)) ∨ (kd = 2 ∧ decode (mC m) pc = .ok (.invokespecial x, 3)))
    (hp : pl (mK m) x = (1, y, b, z)) (hco : calO kd (mA y + (bif kd.beq 0 then 0 else 1)) y st h = true) (er : exec n d' y 0 (ent y (st.take (mA y + (bif kd.beq 0 then 0 else 1))).reverse) [] h = some (r1, h1)) (hE1 : h1.1 ≤ E0)
    (hBD : BD sz X tid D XC p l R s mid meth c m (d' + 1)) (hsz : ls.length = mL m) (hl : LR sz X lsr ls) (hI : IN sz X tid D XC s hB h H locs cells slots) (hR1 : h1.1 ≤ hB.1 + R.cells) (hR2 : h1.2.1 ≤ hB.2.1 + R.slots) :
    ∃ a9 : Array Value, vx_Run p l e R s mid args below meth c H locs cells slots (h1.1 - h.1) (h1.2.1 - h.2.1) (F0 mid pc lsr (st.map (cv sz X))) ((st.drop (mA y + (bif kd.beq 0 then 0 else 1))).map (cv sz X)) (QcS sz X tid D XC r1 h1 a9) (XcS sz X tid D XC r1 h1) (fun q => sz ≤ q) := by
  obtain ⟨hx, hb, hml, hown, hini, hN, hF, hL, hret, hlk, htab, hst⟩ := hBD
  obtain ⟨hy, hlk2⟩ := pl_PF hp (by decide)
  have hup : h.1 ≤ h1.1 ∧ h.2.1 ≤ h1.2.1 := exec_up _ _ _ _ _ _ _ _ er
  have hmf := mfA y hy
  have hX1 : ∀ a, (X a).category = 1 := fun a => by rcases hN.2.2.1 a with h | ⟨q, h⟩ <;> rw [h] <;> rfl
  unfold calO at hco
  simp only [Bool.and_eq_true, decide_eq_true_eq] at hco
  obtain ⟨c1, -, c3, c4, c5, c6⟩ := hco
  generalize hNN : mA y + (bif kd.beq 0 then 0 else 1) = N at *
  have hM := met_of (sz := sz) (X := X) (tid := tid) (D := D) (XC := XC) (vs := (st.take N).reverse) hS hst hy er c5 hE1
  have hpre : ∀ (U : State), U.heap = H → s.WarmedH U.vm → PcS sz X tid D XC (st.take N).reverse h (((st.take N).reverse).map (cv sz X)).toArray U := fun U hU hW => by
    refine ⟨rfl, hN.moved hW (fun q hq => ?_) ?_, by rw [hU]; exact hI.1, by rw [hU]; exact hI.2.1, hI.2.2.2.2.2.2⟩
    · rw [hU]
      exact hI.2.2.2.2.2.1.2.1 q (Nat.lt_of_lt_of_le hq hN.2.2.2.1) (Nat.not_le.mpr hq)
    · rw [hU]
      exact Nat.le_trans hN.2.2.2.1 hI.2.2.2.2.2.1.1
  have hcat : ((((st.drop N).map (cv sz X))).map fun v => v.category).sum ≤ 8 := by
    rw [List.map_map, show ((fun v : Value => v.category) ∘ cv sz X) = ct from funext fun v => cv_cat hX1]
    exact c4
  have hfix : CallFix p mid c (mC m) (mL m) s args [] (cN (mK m)) := ⟨hx, hb, hml, hown, fun _ hz => nomatch hz⟩
  have hsl : lsr.size = mL m := hl.1.trans hsz
  have i4 := hI.2.2.2.1
  have i5 := hI.2.2.2.2.1
  have hf : cells + (h1.1 - h.1) ≤ R.cells ∧ slots + (h1.2.1 - h.2.1) ≤ R.slots := ⟨by omega, by omega⟩
  have hlen : ((st.take N).reverse).length = N := by rw [List.length_reverse, List.length_take]; omega
  have hstk : st.map (cv sz X) = (((st.take N).reverse).map (cv sz X)).reverse ++ (st.drop N).map (cv sz X) := by
    rw [← List.map_reverse, List.reverse_reverse, ← List.map_append, List.take_append_drop]
  have hT0 : kd ≠ 0 → hT y = [] := fun hk => by
    cases h9 : hT y with
    | nil => rfl
    | cons q r9 => exact absurd ((hT_static (by rw [h9]; exact List.cons_ne_nil _ _)).symm.trans c1).symm hk
  rcases hd with ⟨rfl, hd⟩ | ⟨rfl, hd⟩ | ⟨rfl, hd⟩
  · have hsta : (Cond.static (mN y)).before args s = true := by
      have h9 := hmf.2.1
      rw [c1] at h9
      exact hN.1 _ h9 rfl args
    have hn0 : (((st.take N).reverse).map (cv sz X)).length = mA y := by rw [List.length_map, hlen, ← hNN]; rfl
    by_cases hb0 : b = 0
    · rw [if_pos hb0] at hlk2
      have hl9 := hN.1 _ hlk2 rfl args
      cases h9 : hT y with
      | nil => exact ⟨_, vx_runS hfix hM ⟨callB_S hN hy h9 hF hL hl9, hsta⟩ ⟨blindS, hpre⟩ rfl hn0 hsl hstk (by show 2 * 0 + _ ≤ 8; omega) hd hf⟩
      | cons q r9 => exact ⟨_, vx_runSX hfix hM (callX_S hN hy h9 hF hL hl9 hsta) ⟨blindS, hpre⟩ rfl hn0 hsl hstk (by show 2 * 0 + _ ≤ 8; omega) hd hf⟩
    · rw [if_neg hb0] at hlk2
      exact ⟨_, vx_runSN hfix hM ⟨callN_S hN hy (nest_plain hp hb0) hF hL (va_Nw.use rfl (hN.2.2.2.2.2.1 _ _ _ hlk2)), hsta, trivial⟩ ⟨blindS, hpre⟩ rfl hn0 hsl hstk (by show 2 * 0 + _ ≤ 8; omega) hd hf⟩
  · have c7 : rcv (mK y) (st.take N).reverse h = true := by
      have h9 : (match (st.take N).reverse with | .inr (.inr (.inl (some _))) :: _ => rcv (mK y) (st.take N).reverse h | _ => false) = true := c6
      split at h9
      · exact h9
      · cases h9
    obtain ⟨b9, vs', v, hv, hcv, hcell⟩ := recv_S hN hI c7 (Nat.le_trans hup.1 hE1)
    have hins : (Cond.instanceMethod (mN y)).before args s = true := by
      have h9 := hmf.2.1
      rw [c1] at h9
      exact hN.1 _ h9 rfl args
    have hsel : (Cond.selects (mN y).cls (mN y) (mN y)).before args s = true := by
      have h9 := hmf.2.2.1
      rw [c1] at h9
      exact hN.1 _ h9 rfl args
    have hn0 : (vs'.map (cv sz X)).length = mA y := by
      have h9 := hlen
      rw [hv, ← hNN] at h9
      rw [List.length_map]
      exact Nat.succ.inj h9
    have hstk' : st.map (cv sz X) = (vs'.map (cv sz X)).reverse ++ .ref b9 :: (st.drop N).map (cv sz X) := by
      rw [hstk, hv, List.map_cons, List.reverse_cons, hcv, List.append_assoc]
      rfl
    have hpre' : ∀ (U : State), U.heap = H → s.WarmedH U.vm → PcS sz X tid D XC (st.take N).reverse h (Value.ref b9 :: vs'.map (cv sz X)).toArray U := fun U hU hW => by
      have h9 := hpre U hU hW
      rw [hv, List.map_cons, hcv] at h9
      rw [hv]
      exact h9
    have hcls : s.vm.findClass (mN y).cls = s.vm.findClass (cN (mK y)) := by rw [hmf.2.2.2.2.1]
    have hcell' : ∃ cellB : Cell, H[b9]? = some cellB ∧ cellB.vm.isStatics = false ∧ s.vm.findClass (mN y).cls = some cellB.cls := by rw [hcls]; exact hcell
    by_cases hb0 : b = 0
    · rw [if_pos hb0] at hlk2
      have hl9 := hN.1 _ hlk2 rfl args
      exact ⟨_, vx_runV hfix hM ⟨callB_S hN hy (hT0 (by decide)) hF hL hl9, hins, hsel⟩ ⟨blindS, hcell', hpre'⟩ rfl hn0 hsl hstk' (by show 2 * 0 + _ ≤ 8; omega) hd hf⟩
    · rw [if_neg hb0] at hlk2
      exact ⟨_, vx_runVN hfix hM ⟨callN_S hN hy (nest_plain hp hb0) hF hL (va_Nw.use rfl (hN.2.2.2.2.2.1 _ _ _ hlk2)), hins, hsel⟩ ⟨blindS, hcell', hpre'⟩ rfl hn0 hsl hstk' (by show 2 * 0 + _ ≤ 8; omega) hd hf⟩
  · obtain ⟨a9, vs', hv, ha9⟩ : ∃ (a9 : Nat) (vs' : List AV), (st.take N).reverse = .inr (.inr (.inl (some a9))) :: vs' ∧ a9 < E0 := by
      have h9 : (match (st.take N).reverse with | .inr (.inr (.inl (some a))) :: _ => decide (a < E0) | _ => false) = true := c6
      split at h9
      · rename_i a2 vs2 heq
        exact ⟨a2, vs2, heq, of_decide_eq_true h9⟩
      · cases h9
    have hins : (Cond.instanceMethod (mN y)).before args s = true := by
      have h9 := hmf.2.1
      rw [c1] at h9
      exact hN.1 _ h9 rfl args
    have hnm : (mN y).name = "<init>" ∧ mR y = none := by
      have h9 := hmf.2.2.2.2.2.2.2.2.2
      rw [c1] at h9
      exact h9
    have hcv : cv sz X (.inr (.inr (.inl (some a9)))) = .ref (sz + a9) := cv_lo ha9
    have hn0 : (vs'.map (cv sz X)).length = mA y := by
      have h9 := hlen
      rw [hv, ← hNN] at h9
      rw [List.length_map]
      exact Nat.succ.inj h9
    have hstk' : st.map (cv sz X) = (vs'.map (cv sz X)).reverse ++ .ref (sz + a9) :: (st.drop N).map (cv sz X) := by
      rw [hstk, hv, List.map_cons, List.reverse_cons, hcv, List.append_assoc]
      rfl
    have hpre' : ∀ (U : State), U.heap = H → s.WarmedH U.vm → PcS sz X tid D XC (st.take N).reverse h (Value.ref (sz + a9) :: vs'.map (cv sz X)).toArray U := fun U hU hW => by
      have h9 := hpre U hU hW
      rw [hv, List.map_cons, hcv] at h9
      rw [hv]
      exact h9
    by_cases hb0 : b = 0
    · rw [if_pos hb0] at hlk2
      have hl9 := hN.1 _ hlk2 rfl args
      have hcb := callB_S (h := h) (h1 := h1) hN hy (hT0 (by decide)) hF hL hl9
      rw [hnm.2] at hcb
      exact ⟨_, vx_runI hfix hM ⟨hcb, hnm.1, hins⟩ ⟨blindS, hpre'⟩ rfl hn0 hsl hstk' (by show 2 * 0 + _ ≤ 8; omega) hd hf⟩
    · rw [if_neg hb0] at hlk2
      have hcb := callN_S (args := args) (h := h) (h1 := h1) hN hy (nest_plain hp hb0) hF hL (va_Nw.use rfl (hN.2.2.2.2.2.1 _ _ _ hlk2))
      rw [hnm.2] at hcb
      exact ⟨_, vx_runIN hfix hM ⟨hcb, hnm.1, hins⟩ ⟨blindS, hpre'⟩ rfl hn0 hsl hstk' (by show 2 * 0 + _ ≤ 8; omega) hd hf⟩
end Walk2
