/-! ===== ENDS, THROWS, CALLS; THE WALK ===== -/
section Walk3
variable {l : Launch} {sz : Nat} {X : Nat → Value} {tid : Nat → ClassId} {D : va_G} {XC : Nat → AC} {p : Program} {e : Env} {R : Room} {s : State} {mid : MethodId} {args : Array Value} {below : List Frame} {meth : Method} {c : Code} {H : Heap} {locs : List Loc} {cells slots : Nat} {lsr : Array Slot} {hB h h' : AH} {d m pc : Nat} {ls st : List AV} {r : AR} {Q : State → Prop}
theorem S_cal {n kd x : Nat} (hS : SW l (exec n)) (hd : (kd = 0 ∧ decode (mC m) pc = .ok (.invokestatic x, 3)) ∨ (kd = 1 ∧ decode (mC m) pc = .ok (.invokevirtual x, 3)) ∨ (kd = 2 ∧ decode (mC m) pc = .ok (.invokespecial x, 3)))
    (e1 : cal (exec n) kd d m pc x ls st h = some (r, h')) (hE : h'.1 ≤ E0) (hBD : BD sz X tid D XC p l R s mid meth c m d) (hsz : ls.length = mL m) (hl : LR sz X lsr ls) (hI : IN sz X tid D XC s hB h H locs cells slots) (hR1 : h'.1 ≤ hB.1 + R.cells) (hR2 : h'.2.1 ≤ hB.2.1 + R.slots) :
    W p l e R s mid args below meth c H locs cells slots (EndS sz X tid D XC below args s hB r h') (F0 mid pc lsr (st.map (cv sz X))) := by
  unfold cal at e1
  split at e1
  · rename_i y b z hp
    split at e1
    · rename_i hco
      cases d with
      | zero => cases e1
      | succ d' =>
        dsimp only at e1
        split at e1
        · rename_i r1 h1 hr1
          have up2 := exec_up _ _ _ _ _ _ _ _ e1
          have up1 := exec_up _ _ _ _ _ _ _ _ hr1
          obtain ⟨a9, hrun⟩ := S_run (e := e) (args := args) (below := below) hS hd hp hco hr1 (Nat.le_trans up2.1 hE) hBD hsz hl hI (Nat.le_trans up2.1 hR1) (Nat.le_trans up2.2 hR2)
          refine S_back up1.1 up1.2 hI hrun (fun v hv H1 locs1 hI1 => ?_) (fun ci hci => nomatch hci)
          cases hv
          exact hS _ _ _ _ _ _ _ _ e1 hE _ _ _ _ _ _ _ _ _ _ _ _ _ _ _ _ _ _ _ _ hBD hsz hl hI1 hR1 hR2
        · rename_i q1 h1 hr1
          have up1 := exec_up _ _ _ _ _ _ _ _ hr1
          have up2 := thr_up (exec_up n) e1
          obtain ⟨a9, hrun⟩ := S_run (e := e) (args := args) (below := below) hS hd hp hco hr1 (Nat.le_trans up2.1 hE) hBD hsz hl hI (Nat.le_trans up2.1 hR1) (Nat.le_trans up2.2 hR2)
          refine S_back up1.1 up1.2 hI hrun (fun v hv => nomatch hv) (fun ci hci H1 locs1 q9 ce9 hI1 hq hv hcl => ?_)
          cases hci
          exact S_thr hS e1 hE hBD hsz hl hI1 hR1 hR2 hq hv hcl
        · cases e1
    · cases e1
  · cases e1
/-- new X(text) -/
theorem S_exn {n x ci is ic ln : Nat} (hS : SW l (exec n)) (hd : decode (mC m) pc = .ok (.new x, 3)) (hex : exN m pc x st = some (ci, is, ic, ln)) (e1 : exec n d m (pc + ln) ls (vR h.1 :: st) (al h 6 (.inr (.inr (ci, [])))) = some (r, h'))
    (hE : h'.1 ≤ E0) (hBD : BD sz X tid D XC p l R s mid meth c m d) (hsz : ls.length = mL m) (hl : LR sz X lsr ls) (hI : IN sz X tid D XC s hB h H locs cells slots) (hR1 : h'.1 ≤ hB.1 + R.cells) (hR2 : h'.2.1 ≤ hB.2.1 + R.slots) :
    W p l e R s mid args below meth c H locs cells slots (EndS sz X tid D XC below args s hB r h') (F0 mid pc lsr (st.map (cv sz X))) := by
  have hBD0 := hBD
  obtain ⟨hx, hb, hml, hown, hini, hN, hF, hL, hret, hlk, htab, hst⟩ := hBD
  have hX1 : ∀ a, (X a).category = 1 := fun a => by rcases hN.2.2.1 a with h | ⟨q, h⟩ <;> rw [h] <;> rfl
  have up := exec_up _ _ _ _ _ _ _ _ e1
  have up1 : h.1 + 1 ≤ h'.1 := up.1
  have up2 : h.2.1 + 6 ≤ h'.2.1 := up.2
  have i4 := hI.2.2.2.1
  have i5 := hI.2.2.2.2.1
  unfold exN at hex
  split at hex
  · rename_i ci9 a9 b9 hp
    split at hex
    · rename_i is9 d3 d4
      split at hex
      · rename_i ic9 d6
        unfold exF at hex
        split at hex
        · rename_i hcat
          split at hex
          · rename_i a6 _ _ cj _ _ hp6 hp11
            split at hex
            · rename_i hcj
              subst hcj
              cases hex
              obtain ⟨hci, hlk3⟩ := pl_PF hp (by decide)
              obtain ⟨ha6, tx, htx⟩ := pl_PF hp6 (by decide)
              obtain ⟨-, hlk11⟩ := pl_PF hp11 (by decide)
              obtain ⟨ix, rx, hws, ⟨x0, x1, x2, x5⟩, hfit, hcl, hin0, hot⟩ := xfA ci hci
              obtain ⟨sa, hsa, hstr⟩ := hN.2.2.2.2.1.2.2.2.1 _ _ _ _ htx
              have hok : ∀ w ∈ xe_at (cN (mK m)) ic (xN ci) ix rx xnm, OKW w := fun w hw => hws _ _ hlk11 w (List.mem_filter.mp hw).1 (List.mem_filter.mp hw).2
              have hbef : ∀ w, OKW w → w.before args s = true := fun w hw => by
                rcases hw with ⟨h1, h2⟩ | ⟨y9, rfl, h2⟩ | ⟨c9, h1, rfl⟩
                · exact hN.1 w h1 h2 args
                · exact va_Nw.use rfl (hN.2.2.2.2.2.2.2.2.2 y9 h2)
                · exact va_Nw.use rfl (hN.2.2.2.2.2.2.2.1 c9 h1)
              have hnm : ∀ n9 ∈ xnm, Bundle.fit n9 = true := by decide +kernel
              have hcat' : ((st.map (cv sz X)).map fun v => v.category).sum ≤ 8 := by
                rw [List.map_map, show ((fun v : Value => v.category) ∘ cv sz X) = ct from funext fun v => cv_cat hX1]
                exact hcat
              refine xe_makeS (own := cN (mK m)) (cls := xN ci) (names := xnm) (A := fun q => sz ≤ q) (ws := wsH sz X tid h) hx hb hst x0 x1 x2 x5 hown hfit hnm (hN.1 _ hlk3 rfl args) (hN.1 _ hin0 rfl args) hstr (fun w hw => hbef w (hok w hw)) (fun w hw => ?_) hN.2.2.2.2.1.2.2.2.2.2.2.1 hN.2.2.2.2.1.2.2.2.2.2.2.2 hI.2.2.2.2.2.1 (by rw [hl.1, hsz, hml]) hd d3 d4 d6 hN.2.1 hI.1 (wsH_D h) (fun q hq => Nat.le_trans hN.2.2.2.1 hq) hcl (by show 2 + 3 < R.frames; omega) (by show _ + (13 * (2 + 1) + 43) ≤ R.locals; omega) (by omega) (by omega) (fun q H1 hP1 hD1 hS1 => W_sz fun hz => ?_)
              · rcases List.mem_cons.mp hw with rfl | hw
                · rfl
                · rcases List.mem_cons.mp hw with rfl | hw
                  · rfl
                  · exact hot w (hok w hw)
              · obtain ⟨hq, hI1⟩ := hI.grow2 (n := 6) (ce1 := .inr (.inr (ci, []))) (Nat.le_trans up1 hE) hP1 hD1 hS1 hz
                subst hq
                have w9 := hS _ _ _ _ _ _ _ _ e1 hE sz X tid D XC p e R s mid args below meth c H1 locs _ _ lsr hB hBD0 hsz hl hI1 hR1 hR2
                have e9 : (vR h.1 :: st).map (cv sz X) = .ref (sz + h.1) :: st.map (cv sz X) := by
                  rw [List.map_cons]
                  exact congrArg (· :: st.map (cv sz X)) (cv_lo (Nat.lt_of_lt_of_le (Nat.lt_succ_self _) (Nat.le_trans up1 hE)))
                rw [e9] at w9
                exact w9
            · cases hex
          · cases hex
        · cases hex
      · cases hex
    · rename_i is9 d3 d4
      split at hex
      · rename_i ic9 d6
        unfold exF at hex
        split at hex
        · rename_i hcat
          split at hex
          · rename_i a6 _ _ cj _ _ hp6 hp11
            split at hex
            · rename_i hcj
              subst hcj
              cases hex
              obtain ⟨hci, hlk3⟩ := pl_PF hp (by decide)
              obtain ⟨ha6, tx, htx⟩ := pl_PF hp6 (by decide)
              obtain ⟨-, hlk11⟩ := pl_PF hp11 (by decide)
              obtain ⟨ix, rx, hws, ⟨x0, x1, x2, x5⟩, hfit, hcl, hin0, hot⟩ := xfA ci hci
              obtain ⟨sa, hsa, hstr⟩ := hN.2.2.2.2.1.2.2.2.1 _ _ _ _ htx
              have hok : ∀ w ∈ xe_at (cN (mK m)) ic (xN ci) ix rx xnm, OKW w := fun w hw => hws _ _ hlk11 w (List.mem_filter.mp hw).1 (List.mem_filter.mp hw).2
              have hbef : ∀ w, OKW w → w.before args s = true := fun w hw => by
                rcases hw with ⟨h1, h2⟩ | ⟨y9, rfl, h2⟩ | ⟨c9, h1, rfl⟩
                · exact hN.1 w h1 h2 args
                · exact va_Nw.use rfl (hN.2.2.2.2.2.2.2.2.2 y9 h2)
                · exact va_Nw.use rfl (hN.2.2.2.2.2.2.2.1 c9 h1)
              have hnm : ∀ n9 ∈ xnm, Bundle.fit n9 = true := by decide +kernel
              have hcat' : ((st.map (cv sz X)).map fun v => v.category).sum ≤ 8 := by
                rw [List.map_map, show ((fun v : Value => v.category) ∘ cv sz X) = ct from funext fun v => cv_cat hX1]
                exact hcat
              refine xe_makeSW (own := cN (mK m)) (cls := xN ci) (names := xnm) (A := fun q => sz ≤ q) (ws := wsH sz X tid h) hx hb hst x0 x1 x2 x5 hown hfit hnm (hN.1 _ hlk3 rfl args) (hN.1 _ hin0 rfl args) hstr (fun w hw => hbef w (hok w hw)) (fun w hw => ?_) hN.2.2.2.2.1.2.2.2.2.2.2.1 hN.2.2.2.2.1.2.2.2.2.2.2.2 hI.2.2.2.2.2.1 (by rw [hl.1, hsz, hml]) hd d3 d4 d6 hN.2.1 hI.1 (wsH_D h) (fun q hq => Nat.le_trans hN.2.2.2.1 hq) hcl (by show 2 + 3 < R.frames; omega) (by show _ + (13 * (2 + 1) + 43) ≤ R.locals; omega) (by omega) (by omega) (fun q H1 hP1 hD1 hS1 => W_sz fun hz => ?_)
              · rcases List.mem_cons.mp hw with rfl | hw
                · rfl
                · rcases List.mem_cons.mp hw with rfl | hw
                  · rfl
                  · exact hot w (hok w hw)
              · obtain ⟨hq, hI1⟩ := hI.grow2 (n := 6) (ce1 := .inr (.inr (ci, []))) (Nat.le_trans up1 hE) hP1 hD1 hS1 hz
                subst hq
                have w9 := hS _ _ _ _ _ _ _ _ e1 hE sz X tid D XC p e R s mid args below meth c H1 locs _ _ lsr hB hBD0 hsz hl hI1 hR1 hR2
                have e9 : (vR h.1 :: st).map (cv sz X) = .ref (sz + h.1) :: st.map (cv sz X) := by
                  rw [List.map_cons]
                  exact congrArg (· :: st.map (cv sz X)) (cv_lo (Nat.lt_of_lt_of_le (Nat.lt_succ_self _) (Nat.le_trans up1 hE)))
                rw [e9] at w9
                exact w9
            · cases hex
          · cases hex
        · cases hex
      · cases hex
    · cases hex
  · cases hex
theorem S_end (hI : IN sz X tid D XC s hB h H locs cells slots) {g : JFrame} (k : W p l e R s mid args below meth c H locs cells slots (MQ below (QcS sz X tid D XC r h) args s cells slots (fun q => sz ≤ q)) g) : W p l e R s mid args below meth c H locs cells slots (EndS sz X tid D XC below args s hB r h) g := by
  have i4 := hI.2.2.2.1
  have i5 := hI.2.2.2.2.1
  have ec : h.1 - hB.1 = cells := by omega
  have es : h.2.1 - hB.2.1 = slots := by omega
  unfold EndS
  rw [ec, es]
  exact vx_ret k
theorem S_ctl {n len : Nat} {i : Instr} (hS : SW l (exec n)) (hd : decode (mC m) pc = .ok (i, len)) (hn : lnO i len = true) (e1 : ctl (exec n) d m pc i ls st h = some (r, h'))
    (hE : h'.1 ≤ E0) (hBD : BD sz X tid D XC p l R s mid meth c m d) (hsz : ls.length = mL m) (hl : LR sz X lsr ls) (hI : IN sz X tid D XC s hB h H locs cells slots) (hR1 : h'.1 ≤ hB.1 + R.cells) (hR2 : h'.2.1 ≤ hB.2.1 + R.slots) :
    W p l e R s mid args below meth c H locs cells slots (EndS sz X tid D XC below args s hB r h') (F0 mid pc lsr (st.map (cv sz X))) := by
  have hBD0 := hBD
  obtain ⟨hx, hb, hml, hown, hini, hN, hF, hL, hret, hlk, htab, hst⟩ := hBD
  have hloc := hI.2.2.2.2.2.1.2.2
  have hX1 : ∀ a, (X a).category = 1 := fun a => by rcases hN.2.2.1 a with h | ⟨q, h⟩ <;> rw [h] <;> rfl
  unfold ctl at e1
  split at e1
  · obtain rfl := bq hn
    split at e1
    · rename_i z9
      split at e1
      · rename_i hb9
        cases e1
        obtain ⟨ty, hty, hnr⟩ := narB hb9
        exact S_end hI (W.zret hx hb (hret.trans hty) hnr (fun t ht _ => ⟨⟨_, rfl, rfl, (hI.ed ht).1⟩, (hI.ed ht).2⟩) hloc hd hlk)
      · cases e1
    · cases e1
  · obtain rfl := bq hn
    split at e1
    · rename_i z9
      split at e1
      · rename_i hb9
        cases e1
        exact S_end hI (W.lret hx hb (hret.trans hb9) (fun t ht _ => ⟨⟨_, rfl, rfl, (hI.ed ht).1⟩, (hI.ed ht).2⟩) hloc hd hlk)
      · cases e1
    · cases e1
  · obtain rfl := bq hn
    split at e1
    · rename_i a9 nm hmr
      cases e1
      refine S_end hI (W.aret hx hb (hret.trans hmr) (Or.inl ⟨_, rfl⟩) (v := cv sz X (.inr (.inr (.inl (some a9))))) ?_ (fun t ht _ => ⟨⟨_, rfl, rfl, (hI.ed ht).1⟩, (hI.ed ht).2⟩) hloc hd hlk)
      by_cases ha : a9 < E0
      · exact Or.inr ⟨_, cv_lo ha⟩
      · rw [cv_hi (Nat.not_lt.mp ha)]
        exact hN.2.2.1 _
    · cases e1
  · obtain rfl := bq hn
    split at e1
    · split at e1
      · rename_i hb9
        cases e1
        exact S_end hI (W.vret hx hb (hret.trans hb9) (fun t ht _ => ⟨⟨_, rfl, rfl, (hI.ed ht).1⟩, (hI.ed ht).2⟩) hloc hd hlk)
      · cases e1
    · cases e1
  · obtain rfl := bq hn
    split at e1
    · rename_i q9 r9
      split at e1
      · rename_i ci hg
        split at e1
        · rename_i hq
          have he := wsH_get (sz := sz) (X := X) (tid := tid) hq
          have hp := hI.1 q9 _ he
          rw [hg] at hp
          obtain ⟨w9, hw9, cell, q1, q2, q3, -⟩ := hp
          have hci : 13 ≤ ci ∧ ci < 18 := by
            unfold thr at e1
            split at e1
            · assumption
            · cases e1
          obtain ⟨-, -, -, -, -, hcl, -, -⟩ := xfA ci hci
          have hup := thr_up (exec_up n) e1
          have hlo : cv sz X (.inr (.inr (.inl (some q9)))) = .ref (sz + q9) := cv_lo (Nat.lt_of_lt_of_le hq (Nat.le_trans hup.1 hE))
          show W p l e R s mid args below meth c H locs cells slots _ (F0 mid pc lsr (cv sz X (.inr (.inr (.inl (some q9)))) :: r9.map (cv sz X)))
          rw [hlo]
          exact vx_athrow hx hb hd (S_thr hS e1 hE hBD0 hsz hl hI hR1 hR2 q1 q3 (by rw [q2]; exact (hN.2.1.1 ci _ hcl).2.1))
        · cases e1
      · cases e1
    · cases e1
  · obtain rfl := bq hn
    split at e1
    · rename_i ci is ic ln hex
      exact S_exn hS hd hex e1 hE hBD0 hsz hl hI hR1 hR2
    · cases e1
  · obtain rfl := bq hn
    exact S_cal hS (Or.inl ⟨rfl, hd⟩) e1 hE hBD0 hsz hl hI hR1 hR2
  · obtain rfl := bq hn
    exact S_cal hS (Or.inr (Or.inl ⟨rfl, hd⟩)) e1 hE hBD0 hsz hl hI hR1 hR2
  · obtain rfl := bq hn
    exact S_cal hS (Or.inr (Or.inr ⟨rfl, hd⟩)) e1 hE hBD0 hsz hl hI hR1 hR2
  · cases e1
end Walk3
theorem SW_succ {l : Launch} {n : Nat} (hS : SW l (exec n)) : SW l (exec (n + 1)) := by
  intro d m pc ls st h r h' e0 hE sz X tid D XC p e R s mid args below meth c H locs cells slots lsr hB hBD hsz hl hI hR1 hR2
  have hBD0 := hBD
  obtain ⟨hx, hb, hml, hown, hini, hN, hF, hL, hret, hlk, htab, hst⟩ := hBD
  have e1 : stp (exec n) d m pc ls st h = some (r, h') := e0
  unfold stp at e1
  split at e1
  · cases e1
  · rename_i i len hd
    split at e1
    · cases e1
    · rename_i hn0
      have hn : lnO i len = true := by
        cases h9 : lnO i len with
        | false => exact absurd h9 hn0
        | true => rfl
      split at e1
      · rename_i q hp
        exact S_pu (ls' := q.1) (st' := q.2) hx hb hN.2.2.1 hd hn hp hl (fun lsr' hl' => hS _ _ _ _ _ _ _ _ e1 hE _ _ _ _ _ _ _ _ _ _ _ _ _ _ _ _ _ _ _ _ hBD0 ((pu_len hp).trans hsz) hl' hI hR1 hR2)
      · split at e1
        · rename_i q hp
          cases hx9 : nxt st with
          | false => rw [hx9] at e1; cases e1
          | true =>
            rw [hx9] at e1
            exact S_br (pc' := q.1) (st' := q.2) hx hb hN.2.2.1 hd hn hp (nxt_ok hx9) (hS _ _ _ _ _ _ _ _ e1 hE _ _ _ _ _ _ _ _ _ _ _ _ _ _ _ _ _ _ _ _ hBD0 hsz hl hI hR1 hR2)
        · split at e1
          · rename_i q hp
            have up := exec_up _ _ _ _ _ _ _ _ e1
            exact S_hp (st' := q.1) (h' := q.2) hx hb (by rw [hl.1, hsz, hml]) hown hini hN hI (Nat.le_trans up.1 hE) (Nat.le_trans up.1 hR1) (Nat.le_trans up.2 hR2) (by omega) (by omega) hd hn hp (fun H1 locs1 hI1 => hS _ _ _ _ _ _ _ _ e1 hE _ _ _ _ _ _ _ _ _ _ _ _ _ _ _ _ _ _ _ _ hBD0 hsz hl hI1 hR1 hR2)
          · exact S_ctl hS hd hn e1 hE hBD0 hsz hl hI hR1 hR2
theorem SW_all (l : Launch) : ∀ n, SW l (exec n)
  | 0 => fun _ _ _ _ _ _ _ _ e0 => nomatch e0
  | n + 1 => SW_succ (SW_all l n)
