/-! ===== branches ===== -/
section BR
variable {p : Program} {l : Launch} {e : Env} {R : Room} {s : State} {mid : MethodId} {args : Array Value} {below : List Frame} {meth : Method} {c : Code} {H : Heap} {locs : List Loc} {cells slots : Nat} {Q : State → Prop} {cc : ByteArray} {pc : Nat} {lsr : Array Slot} {ls st : List AV} {sz : Nat} {X : Nat → Value}
theorem tg_ok {pc : Nat} {off : Int} (h : 0 ≤ (pc : Int) + off) : (pc : Int) + off = ((tg pc off : Nat) : Int) := (Int.toNat_of_nonneg h).symm
theorem c_eq {a b : Int} : (Int32.ofInt a = Int32.ofInt b) ↔ w32 a = w32 b := ⟨fun h => by unfold w32; rw [h], fun h => Int32.toInt_inj.mp h⟩
theorem c_lt {a b : Int} : (Int32.ofInt a < Int32.ofInt b) ↔ w32 a < w32 b := Int32.lt_iff_toInt_lt
theorem c_le {a b : Int} : (Int32.ofInt a ≤ Int32.ofInt b) ↔ w32 a ≤ w32 b := Int32.le_iff_toInt_le
theorem W_if {P : Prop} {b : Bool} {t f : Nat} (hb : P ↔ b = true) {r : List Value} (kk : W p l e R s mid args below meth c H locs cells slots Q (F0 mid (bif b then t else f) lsr r)) : (P → W p l e R s mid args below meth c H locs cells slots Q (F0 mid t lsr r)) ∧ (¬ P → W p l e R s mid args below meth c H locs cells slots Q (F0 mid f lsr r)) := by
  cases b with
  | true => exact ⟨fun _ => kk, fun h => absurd (hb.mpr rfl) h⟩
  | false => exact ⟨fun h => (by cases hb.mp h), fun _ => kk⟩
set_option maxHeartbeats 4000000 in
theorem S_br {i : Instr} {len pc' : Nat} {st' : List AV} (hx : p.tables.exec = Jvm.exec) (hb : c.code = cc) (hX : ∀ a, X a = .null ∨ ∃ q, X a = .ref q) (hd : decode cc pc = .ok (i, len)) (hn : lnO i len = true) (hp : br i pc st = some (pc', st')) (hq : ∀ a, E0 ≤ a → ∀ r, st ≠ .inr (.inr (.inl (some a))) :: r)
    (kk : W p l e R s mid args below meth c H locs cells slots Q (F0 mid pc' lsr (st'.map (cv sz X)))) : W p l e R s mid args below meth c H locs cells slots Q (F0 mid pc lsr (st.map (cv sz X))) := by
  cases i
  case goto off =>
    obtain rfl := bq hn
    unfold br at hp
    dsimp only at hp
    split at hp
    · rename_i h
      cases hp
      exact lv_goto hx hb hd (tg_ok h) kk
    · cases hp
  case if_icmp cd off =>
    obtain rfl := bq hn
    unfold br at hp
    dsimp only at hp
    split at hp
    · rename_i b a r
      split at hp
      · rename_i h
        cases hp
        cases cd
        · obtain ⟨h1, h2⟩ := W_if (P := Int32.ofInt a = Int32.ofInt b) (by simp only [cmpB, decide_eq_true_eq]; exact c_eq) kk
          exact lv_icmp_eq hx hb hd (tg_ok h) h1 h2
        · obtain ⟨h1, h2⟩ := W_if (P := ¬ Int32.ofInt a = Int32.ofInt b) (by simp only [cmpB, decide_eq_true_eq]; exact not_congr c_eq) kk
          exact lv_icmp_ne hx hb hd (tg_ok h) h1 (fun g => h2 (not_not_intro g))
        · obtain ⟨h1, h2⟩ := W_if (P := Int32.ofInt a < Int32.ofInt b) (by simp only [cmpB, decide_eq_true_eq]; exact c_lt) kk
          exact lv_icmp_lt hx hb hd (tg_ok h) h1 h2
        · obtain ⟨h1, h2⟩ := W_if (P := Int32.ofInt a ≥ Int32.ofInt b) (by simp only [cmpB, decide_eq_true_eq]; exact c_le) kk
          exact lv_icmp_ge hx hb hd (tg_ok h) h1 h2
        · obtain ⟨h1, h2⟩ := W_if (P := Int32.ofInt a > Int32.ofInt b) (by simp only [cmpB, decide_eq_true_eq]; exact c_lt) kk
          exact lv_icmp_gt hx hb hd (tg_ok h) h1 h2
        · obtain ⟨h1, h2⟩ := W_if (P := Int32.ofInt a ≤ Int32.ofInt b) (by simp only [cmpB, decide_eq_true_eq]; exact c_le) kk
          exact lv_icmp_le hx hb hd (tg_ok h) h1 h2
      · cases hp
    · cases hp
  case ifCond cd off =>
    obtain rfl := bq hn
    unfold br at hp
    dsimp only at hp
    split at hp
    · rename_i a r
      split at hp
      · rename_i h
        cases hp
        cases cd
        · obtain ⟨h1, h2⟩ := W_if (P := Int32.ofInt a = 0) (by simp only [cmpB, decide_eq_true_eq]; exact c_eq (b := 0)) kk
          exact lv_if_eq hx hb hd (tg_ok h) h1 h2
        · obtain ⟨h1, h2⟩ := W_if (P := ¬ Int32.ofInt a = 0) (by simp only [cmpB, decide_eq_true_eq]; exact not_congr (c_eq (b := 0))) kk
          exact lv_if_ne hx hb hd (tg_ok h) h1 (fun g => h2 (not_not_intro g))
        · obtain ⟨h1, h2⟩ := W_if (P := Int32.ofInt a < 0) (by simp only [cmpB, decide_eq_true_eq]; exact c_lt (b := 0)) kk
          exact lv_if_lt hx hb hd (tg_ok h) h1 h2
        · obtain ⟨h1, h2⟩ := W_if (P := Int32.ofInt a ≥ 0) (by simp only [cmpB, decide_eq_true_eq]; exact c_le (a := 0)) kk
          exact lv_if_ge hx hb hd (tg_ok h) h1 h2
        · obtain ⟨h1, h2⟩ := W_if (P := Int32.ofInt a > 0) (by simp only [cmpB, decide_eq_true_eq]; exact c_lt (a := 0)) kk
          exact lv_if_gt hx hb hd (tg_ok h) h1 h2
        · obtain ⟨h1, h2⟩ := W_if (P := Int32.ofInt a ≤ 0) (by simp only [cmpB, decide_eq_true_eq]; exact c_le (b := 0)) kk
          exact lv_if_le hx hb hd (tg_ok h) h1 h2
      · cases hp
    · cases hp
  case ifnull off =>
    obtain rfl := bq hn
    unfold br at hp
    dsimp only at hp
    split at hp
    · rename_i a r
      cases hp
      have ha : a < E0 := Nat.not_le.mp fun h => hq a h _ rfl
      refine W.eq (g2 := F0 mid pc lsr (.ref (sz + a) :: st'.map (cv sz X))) (by show F0 mid pc lsr ((if a < E0 then Value.ref (sz + a) else X (a - E0)) :: _) = _; rw [if_pos ha]) ?_
      exact lv_ifnull hx hb hd kk
    · rename_i r
      split at hp
      · rename_i h
        cases hp
        exact lv_ifnullN hx hb hd (tg_ok h) kk
      · cases hp
    · cases hp
  case ifnonnull off =>
    obtain rfl := bq hn
    unfold br at hp
    dsimp only at hp
    split at hp
    · rename_i a r
      split at hp
      · rename_i h
        cases hp
        have ha : a < E0 := Nat.not_le.mp fun h => hq a h _ rfl
        refine W.eq (g2 := F0 mid pc lsr (.ref (sz + a) :: st'.map (cv sz X))) (by show F0 mid pc lsr ((if a < E0 then Value.ref (sz + a) else X (a - E0)) :: _) = _; rw [if_pos ha]) ?_
        exact lv_ifnonnull hx hb hd (tg_ok h) kk
      · cases hp
    · rename_i r
      cases hp
      exact lv_ifnonnullN hx hb hd kk
    · cases hp
  case tableswitch dflt lo hi offs =>
    unfold br at hp
    dsimp only at hp
    split at hp
    · rename_i a r
      split at hp
      · rename_i h
        obtain ⟨h1, h2⟩ := h
        cases hp
        by_cases g1 : w32 a < lo
        · rw [show swt lo offs dflt hi (w32 a) = dflt by unfold swt; rw [if_pos g1]] at h2 kk
          exact lv_tableOut hx hb hd (Or.inl g1) (tg_ok h2) kk
        · by_cases g2 : hi < w32 a
          · rw [show swt lo offs dflt hi (w32 a) = dflt by unfold swt; rw [if_neg g1, if_pos g2]] at h2 kk
            exact lv_tableOut hx hb hd (Or.inr g2) (tg_ok h2) kk
          · have h3 := h1 (by omega) (by omega)
            have e : offs[(w32 a - lo).toNat]? = some (swt lo offs dflt hi (w32 a)) := by
              unfold swt
              rw [if_neg g1, if_neg g2, Array.getElem?_eq_getElem h3]
            exact lv_tableIn hx hb hd g1 g2 e (tg_ok h2) kk
      · cases hp
    · cases hp
  case lookupswitch dflt ps =>
    unfold br at hp
    dsimp only at hp
    split at hp
    · rename_i a r
      split at hp
      · rename_i h
        obtain ⟨h1, h2⟩ := h
        cases hp
        exact lv_lookup hx hb hd h1 rfl (tg_ok h2) kk
      · cases hp
    · cases hp
  all_goals cases hp
end BR
