/-! ===== THE START: what the entry gives, as the small machine sees it ===== -/
def stt_T (i : Nat) : Term := .string (stL.getD i ("", 0, "")).1 (stL.getD i ("", 0, "")).2.1
def stt_W (i : Nat) : List Cond := [.exactly (stt_T i) "java/lang/String", .eq (.field (stt_T i) "java/lang/String" "coder" "B") (.int 0), .arrayOf (.field (stt_T i) "java/lang/String" "value" "[B") .byte, .eq (.length (.field (stt_T i) "java/lang/String" "value" "[B")) (.int (Int32.ofNat (stN.getD i 0)))] ++ (List.range (stN.getD i 0)).map fun j => .eq (.elem (.field (stt_T i) "java/lang/String" "value" "[B") (.int (Int32.ofNat j))) (.int ((stB.getD i []).getD j 0))
def stt_keep (w : Cond) : Bool := match w with
  | .eq (.string _ _) (.string _ _) => false
  | _ => true
theorem stt_flat : (flatC (Jvm.Cond.and given_1 narrow_1)).filter stt_keep = ((flatC (Jvm.Cond.and given_1 narrow_1)).filter stt_keep).take 96 ++ (List.range 79).flatMap stt_W := by decide +kernel
theorem stt_in {i : Nat} (hi : i < 79) {w : Cond} (hw : w ∈ stt_W i) : w ∈ flatC (Jvm.Cond.and given_1 narrow_1) := by
  have h : w ∈ (flatC (Jvm.Cond.and given_1 narrow_1)).filter stt_keep := by
    rw [stt_flat]
    exact List.mem_append_right _ (List.mem_flatMap.mpr ⟨i, List.mem_range.mpr hi, hw⟩)
  exact (List.mem_filter.mp h).1
theorem stt_sr : ∀ q ∈ stL, Cond.stringRef q.1 q.2.1 q.2.2 ∈ lw_tbl := List.forall_mem_cons.mpr ⟨(tb3 (List.mem_of_getElem? (i := 146) rfl)), List.forall_mem_cons.mpr ⟨(tb3 (List.mem_of_getElem? (i := 207) rfl)), List.forall_mem_cons.mpr ⟨(tb3 (List.mem_of_getElem? (i := 220) rfl)), List.forall_mem_cons.mpr ⟨(tb3 (List.mem_of_getElem? (i := 227) rfl)), List.forall_mem_cons.mpr ⟨(tb3 (List.mem_of_getElem? (i := 232) rfl)), List.forall_mem_cons.mpr ⟨(tb3 (List.mem_of_getElem? (i := 237) rfl)), List.forall_mem_cons.mpr ⟨(tb3 (List.mem_of_getElem? (i := 238) rfl)), List.forall_mem_cons.mpr ⟨(tb3 (List.mem_of_getElem? (i := 239) rfl)), List.forall_mem_cons.mpr ⟨(tb4 (List.mem_of_getElem? (i := 12) rfl)), List.forall_mem_cons.mpr ⟨(tb4 (List.mem_of_getElem? (i := 17) rfl)), List.forall_mem_cons.mpr ⟨(tb4 (List.mem_of_getElem? (i := 18) rfl)), List.forall_mem_cons.mpr ⟨(tb4 (List.mem_of_getElem? (i := 19) rfl)), List.forall_mem_cons.mpr ⟨(tb4 (List.mem_of_getElem? (i := 20) rfl)), List.forall_mem_cons.mpr ⟨(tb4 (List.mem_of_getElem? (i := 21) rfl)), List.forall_mem_cons.mpr ⟨(tb4 (List.mem_of_getElem? (i := 26) rfl)), List.forall_mem_cons.mpr ⟨(tb4 (List.mem_of_getElem? (i := 27) rfl)), List.forall_mem_cons.mpr ⟨(tb4 (List.mem_of_getElem? (i := 80) rfl)), List.forall_mem_cons.mpr ⟨(tb4 (List.mem_of_getElem? (i := 116) rfl)), List.forall_mem_cons.mpr ⟨(tb4 (List.mem_of_getElem? (i := 141) rfl)), List.forall_mem_cons.mpr ⟨(tb4 (List.mem_of_getElem? (i := 143) rfl)), List.forall_mem_cons.mpr ⟨(tb4 (List.mem_of_getElem? (i := 145) rfl)), List.forall_mem_cons.mpr ⟨(tb4 (List.mem_of_getElem? (i := 158) rfl)), List.forall_mem_cons.mpr ⟨(tb4 (List.mem_of_getElem? (i := 169) rfl)), List.forall_mem_cons.mpr ⟨(tb4 (List.mem_of_getElem? (i := 182) rfl)), List.forall_mem_cons.mpr ⟨(tb4 (List.mem_of_getElem? (i := 183) rfl)), List.forall_mem_cons.mpr ⟨(tb4 (List.mem_of_getElem? (i := 184) rfl)), List.forall_mem_cons.mpr ⟨(tb4 (List.mem_of_getElem? (i := 185) rfl)), List.forall_mem_cons.mpr ⟨(tb4 (List.mem_of_getElem? (i := 186) rfl)), List.forall_mem_cons.mpr ⟨(tb4 (List.mem_of_getElem? (i := 187) rfl)), List.forall_mem_cons.mpr ⟨(tb4 (List.mem_of_getElem? (i := 188) rfl)), List.forall_mem_cons.mpr ⟨(tb4 (List.mem_of_getElem? (i := 193) rfl)), List.forall_mem_cons.mpr ⟨(tb4 (List.mem_of_getElem? (i := 194) rfl)), List.forall_mem_cons.mpr ⟨(tb4 (List.mem_of_getElem? (i := 218) rfl)), List.forall_mem_cons.mpr ⟨(tb5 (List.mem_of_getElem? (i := 8) rfl)), List.forall_mem_cons.mpr ⟨(tb5 (List.mem_of_getElem? (i := 26) rfl)), List.forall_mem_cons.mpr ⟨(tb5 (List.mem_of_getElem? (i := 39) rfl)), List.forall_mem_cons.mpr ⟨(tb5 (List.mem_of_getElem? (i := 51) rfl)), List.forall_mem_cons.mpr ⟨(tb5 (List.mem_of_getElem? (i := 73) rfl)), List.forall_mem_cons.mpr ⟨(tb5 (List.mem_of_getElem? (i := 91) rfl)), List.forall_mem_cons.mpr ⟨(tb5 (List.mem_of_getElem? (i := 136) rfl)), List.forall_mem_cons.mpr ⟨(tb5 (List.mem_of_getElem? (i := 145) rfl)), List.forall_mem_cons.mpr ⟨(tb5 (List.mem_of_getElem? (i := 162) rfl)), List.forall_mem_cons.mpr ⟨(tb5 (List.mem_of_getElem? (i := 164) rfl)), List.forall_mem_cons.mpr ⟨(tb5 (List.mem_of_getElem? (i := 172) rfl)), List.forall_mem_cons.mpr ⟨(tb5 (List.mem_of_getElem? (i := 196) rfl)), List.forall_mem_cons.mpr ⟨(tb5 (List.mem_of_getElem? (i := 204) rfl)), List.forall_mem_cons.mpr ⟨(tb5 (List.mem_of_getElem? (i := 212) rfl)), List.forall_mem_cons.mpr ⟨(tb6 (List.mem_of_getElem? (i := 190) rfl)), List.forall_mem_cons.mpr ⟨(tb6 (List.mem_of_getElem? (i := 230) rfl)), List.forall_mem_cons.mpr ⟨(tb6 (List.mem_of_getElem? (i := 231) rfl)), List.forall_mem_cons.mpr ⟨(tb7 (List.mem_of_getElem? (i := 17) rfl)), List.forall_mem_cons.mpr ⟨(tb7 (List.mem_of_getElem? (i := 32) rfl)), List.forall_mem_cons.mpr ⟨(tb7 (List.mem_of_getElem? (i := 228) rfl)), List.forall_mem_cons.mpr ⟨(tb8 (List.mem_of_getElem? (i := 7) rfl)), List.forall_mem_cons.mpr ⟨(tb8 (List.mem_of_getElem? (i := 20) rfl)), List.forall_mem_cons.mpr ⟨(tb8 (List.mem_of_getElem? (i := 25) rfl)), List.forall_mem_cons.mpr ⟨(tb8 (List.mem_of_getElem? (i := 30) rfl)), List.forall_mem_cons.mpr ⟨(tb8 (List.mem_of_getElem? (i := 43) rfl)), List.forall_mem_cons.mpr ⟨(tb8 (List.mem_of_getElem? (i := 44) rfl)), List.forall_mem_cons.mpr ⟨(tb8 (List.mem_of_getElem? (i := 49) rfl)), List.forall_mem_cons.mpr ⟨(tb8 (List.mem_of_getElem? (i := 62) rfl)), List.forall_mem_cons.mpr ⟨(tb8 (List.mem_of_getElem? (i := 63) rfl)), List.forall_mem_cons.mpr ⟨(tb8 (List.mem_of_getElem? (i := 68) rfl)), List.forall_mem_cons.mpr ⟨(tb8 (List.mem_of_getElem? (i := 69) rfl)), List.forall_mem_cons.mpr ⟨(tb8 (List.mem_of_getElem? (i := 70) rfl)), List.forall_mem_cons.mpr ⟨(tb8 (List.mem_of_getElem? (i := 75) rfl)), List.forall_mem_cons.mpr ⟨(tb8 (List.mem_of_getElem? (i := 84) rfl)), List.forall_mem_cons.mpr ⟨(tb8 (List.mem_of_getElem? (i := 85) rfl)), List.forall_mem_cons.mpr ⟨(tb8 (List.mem_of_getElem? (i := 90) rfl)), List.forall_mem_cons.mpr ⟨(tb8 (List.mem_of_getElem? (i := 91) rfl)), List.forall_mem_cons.mpr ⟨(tb8 (List.mem_of_getElem? (i := 92) rfl)), List.forall_mem_cons.mpr ⟨(tb8 (List.mem_of_getElem? (i := 109) rfl)), List.forall_mem_cons.mpr ⟨(tb8 (List.mem_of_getElem? (i := 114) rfl)), List.forall_mem_cons.mpr ⟨(tb8 (List.mem_of_getElem? (i := 123) rfl)), List.forall_mem_cons.mpr ⟨(tb8 (List.mem_of_getElem? (i := 124) rfl)), List.forall_mem_cons.mpr ⟨(tb8 (List.mem_of_getElem? (i := 125) rfl)), List.forall_mem_cons.mpr ⟨(tb8 (List.mem_of_getElem? (i := 126) rfl)), List.forall_mem_cons.mpr ⟨(tb8 (List.mem_of_getElem? (i := 127) rfl)), List.forall_mem_cons.mpr ⟨(tb8 (List.mem_of_getElem? (i := 128) rfl)), fun _ h => absurd h List.not_mem_nil⟩⟩⟩⟩⟩⟩⟩⟩⟩⟩⟩⟩⟩⟩⟩⟩⟩⟩⟩⟩⟩⟩⟩⟩⟩⟩⟩⟩⟩⟩⟩⟩⟩⟩⟩⟩⟩⟩⟩⟩⟩⟩⟩⟩⟩⟩⟩⟩⟩⟩⟩⟩⟩⟩⟩⟩⟩⟩⟩⟩⟩⟩⟩⟩⟩⟩⟩⟩⟩⟩⟩⟩⟩⟩⟩⟩⟩⟩⟩
theorem stt_xi : ∀ c, 13 ≤ c ∧ c < 18 → Cond.instantiable (xN c) 6 ∈ lw_tbl := fun c hc => match c, hc with
  | 13, _ => (tb4 (List.mem_of_getElem? (i := 38) rfl))
  | 14, _ => (tb5 (List.mem_of_getElem? (i := 65) rfl))
  | 15, _ => (tb4 (List.mem_of_getElem? (i := 210) rfl))
  | 16, _ => (tb5 (List.mem_of_getElem? (i := 0) rfl))
  | 17, _ => (tb4 (List.mem_of_getElem? (i := 108) rfl))
  | 0, h => absurd h.1 (by decide)
  | 1, h => absurd h.1 (by decide)
  | 2, h => absurd h.1 (by decide)
  | 3, h => absurd h.1 (by decide)
  | 4, h => absurd h.1 (by decide)
  | 5, h => absurd h.1 (by decide)
  | 6, h => absurd h.1 (by decide)
  | 7, h => absurd h.1 (by decide)
  | 8, h => absurd h.1 (by decide)
  | 9, h => absurd h.1 (by decide)
  | 10, h => absurd h.1 (by decide)
  | 11, h => absurd h.1 (by decide)
  | 12, h => absurd h.1 (by decide)
  | c + 18, h => absurd h.2 (by omega)
theorem stt_nc : ∀ c, 13 ≤ c ∧ c < 18 → ∀ d, 13 ≤ d ∧ d < 18 → c ≠ d → Cond.not (.castable (xN c) (xN d)) ∈ flatC (Jvm.Cond.and given_1 narrow_1) := by
  have key : (List.range 5).all (fun c => (List.range 5).all fun d => decide (c = d) || decide (Cond.not (.castable (xN (13 + c)) (xN (13 + d))) ∈ flatC (Jvm.Cond.and given_1 narrow_1))) = true := by decide +kernel
  intro c hc d hd hcd
  have h1 := List.all_eq_true.mp (List.all_eq_true.mp key (c - 13) (List.mem_range.mpr (by omega))) (d - 13) (List.mem_range.mpr (by omega))
  rw [show 13 + (c - 13) = c by omega, show 13 + (d - 13) = d by omega, decide_eq_false (by omega), Bool.false_or] at h1
  exact of_decide_eq_true h1
section Stt
variable {args : Array Value} {s : State}
theorem stt_one {A : Nat → Prop} {i : Nat} (hi : i < 79) (h : ∀ w ∈ stt_W i, w.before args s = true) (hA : ∀ a : Nat, a < s.heap.size → ¬ A a) : ∃ q : Nat × Nat, (stt_T i).eval args s none [] s = some (.ref q.1) ∧ va_O "java/lang/String" q.1 A s s.heap ∧ va_OF "java/lang/String" "coder" "B" (.int 0) q.1 A s s.heap ∧ va_OF "java/lang/String" "value" "[B" (.ref q.2) q.1 A s s.heap ∧ va_T .byte q.2 (stN.getD i 0) (fun j => .int ((stB.getD i []).getD j 0)) A s s.heap := by
  have hN : stN.getD i 0 < 2 ^ 31 := Nat.lt_trans (stN_lt i hi) (by decide)
  have h0 := h _ (List.mem_append_left _ (List.Mem.head _))
  have h1 := h _ (List.mem_append_left _ (List.Mem.tail _ (List.Mem.head _)))
  have h2 := h _ (List.mem_append_left _ (List.Mem.tail _ (List.Mem.tail _ (List.Mem.head _))))
  have h3 := h _ (List.mem_append_left _ (List.Mem.tail _ (List.Mem.tail _ (List.Mem.tail _ (List.Mem.head _)))))
  obtain ⟨adK, adV, ⟨hS, -⟩, hE⟩ := vk_Sof (args := args) (s := s) (N := 1) (tm := fun _ => stt_T i) (len := [stN.getD i 0]) (byt := [stB.getD i []]) (A := A)
    (fun j hj => by obtain rfl : j = 0 := by omega
                    exact hN) (fun j _ => h0) (fun j _ => h1) (fun j _ => h2)
    (fun j hj => by obtain rfl : j = 0 := by omega
                    exact h3)
    (fun j hj k hk => by obtain rfl : j = 0 := by omega
                         exact h _ (List.mem_append_right _ (List.mem_map.mpr ⟨k, List.mem_range.mpr hk, rfl⟩)))
    (fun j k hj hk hne => absurd (show j = k by omega) hne) hA
  obtain ⟨q1, q2, q3, q4⟩ := hS 0 Nat.one_pos
  exact ⟨(adK 0, adV 0), hE 0 Nat.one_pos, q1, q2, q3, q4⟩
def stt_X (b : Nat) (fm : Value) (ad : Nat → Nat × Nat) (k : Nat) : Value := match k with
  | 0 => .ref b
  | 1 => fm
  | k + 2 => if k % 2 = 0 then .ref (ad (k / 2)).1 else .ref (ad (k / 2)).2
theorem stt_xc (e : Nat) (Z : Nat × (Nat → Int)) (k : Nat) : xcG e Z (e + k) = (match k with
  | 0 => cA 0 Z.1 Z.2
  | 1 => cO 60 []
  | b + 2 => if b / 2 < 79 then (if b % 2 = 0 then cO 50 [vR (e + b + 3), vI 0] else cA 2 (stN.getD (b / 2) 0) (fun j => ((stB.getD (b / 2) []).getD j 0).toInt)) else cO 60 []) := by
  unfold xcG
  rw [Nat.add_sub_cancel_left]
  rfl
theorem stt_cls (hts : ∀ w ∈ lw_tbl, w.before args s = true) : ∀ c : Nat, ∃ p : ClassId × (Nat → Nat), ∀ q, clA[c]? = some q → u_Kn s q.1 q.2.1 q.2.2 p.1 p.2 := by
  intro c
  by_cases h1 : c < 13
  · obtain ⟨e1, e2, -, -, e5, -⟩ := cfA c h1
    obtain ⟨cC, iS, hk⟩ := u_known hts e2 (hts _ e5)
    refine ⟨(cC, iS), fun q hq => ?_⟩
    cases e1.symm.trans hq
    exact hk
  · by_cases h2 : c < 18
    · obtain ⟨_, _, -, -, -, e1, -⟩ := xfA c ⟨Nat.not_lt.mp h1, h2⟩
      obtain ⟨cC, iS, hk⟩ := u_known (C := xN c) (T := TX0) (N := 0) hts (fun w hw => absurd hw List.not_mem_nil) (hts _ (stt_xi c ⟨Nat.not_lt.mp h1, h2⟩))
      refine ⟨(cC, iS), fun q hq => ?_⟩
      cases e1.symm.trans hq
      exact hk
    · refine ⟨(0, fun _ => 0), fun q hq => absurd (List.getElem?_eq_some_iff.mp hq).1 ?_⟩
      show ¬ c < 18
      exact h2
theorem stt_arr (hts : ∀ w ∈ lw_tbl, w.before args s = true) : ∃ tid : Nat → ClassId, ∀ (k : Nat) (q : ClassId × FieldType), (tyA tid)[k]? = some q → ArrOfT s q.1 q.2 ∧ va_RA s q.1 q.2 := by
  obtain ⟨c0, k0, p0, a0, b0, d0⟩ := Cond.arrayClass_spec (args := args) (first := s) (o := none) (s := s) (idx := []) (hts _ wA_int)
  obtain ⟨c1, k1, p1, a1, b1, d1⟩ := Cond.arrayClass_spec (args := args) (first := s) (o := none) (s := s) (idx := []) (hts _ wA_long)
  obtain ⟨c2, k2, p2, a2, b2, d2⟩ := Cond.arrayClass_spec (args := args) (first := s) (o := none) (s := s) (idx := []) (hts _ wA_byte)
  obtain ⟨c3, k3, p3, a3, b3, d3⟩ := Cond.arrayClass_spec (args := args) (first := s) (o := none) (s := s) (idx := []) (hts _ wA_boolean)
  obtain ⟨p4, c4, k4, a4, -, b4, d4, e4⟩ := Cond.arrayOver_spec (args := args) (first := s) (o := none) (s := s) (idx := []) (hts _ wX_over)
  refine ⟨fun k => match k with
    | 0 => c0
    | 1 => c1
    | 2 => c2
    | 3 => c3
    | _ => c4, fun k q hk => ?_⟩
  match k, hk with
  | 0, hk => cases hk; exact ⟨fun N z => ⟨fun k h => (nomatch h), k0, b0, p0, d0⟩, a0⟩
  | 1, hk => cases hk; exact ⟨fun N z => ⟨fun k h => (nomatch h), k1, b1, p1, d1⟩, a1⟩
  | 2, hk => cases hk; exact ⟨fun N z => ⟨fun k h => (nomatch h), k2, b2, p2, d2⟩, a2⟩
  | 3, hk => cases hk; exact ⟨fun N z => ⟨fun k h => (nomatch h), k3, b3, p3, d3⟩, a3⟩
  | 4, hk => cases hk; exact ⟨fun N z => ⟨fun k h => (nomatch h), k4, b4, p4, d4⟩, k4, p4, b4, d4, a4, e4⟩
  | k + 5, hk => cases hk
theorem stt_ref {t : Term} (h : (Cond.isRef t).before args s = true) : ∃ v : Value, t.eval args s none [] s = some v ∧ (v = .null ∨ ∃ q, v = .ref q) := by
  obtain ⟨v, hv, hr⟩ := Cond.isRef_spec (args := args) (first := s) (o := none) (s := s) (idx := []) h
  refine ⟨v, hv, ?_⟩
  cases v with
  | ref q => exact Or.inr ⟨q, rfl⟩
  | null => exact Or.inl rfl
  | _ => exact (Bool.false_ne_true hr).elim
theorem stt_EN {b L : Nat} {xs : Nat → Int32} (hts : ∀ w ∈ lw_tbl, w.before args s = true) (hX : va_X b L xs s s.heap) (hbl : b < s.heap.size) (hgv : (Jvm.Cond.and given_1 narrow_1).before args s = true) : ∃ (X : Nat → Value) (tid : Nat → ClassId) (D : va_G), X 0 = .ref b ∧ EN s.heap.size X tid D (xc (L, fun j => (xs j).toInt)) s := by
  have hfl := flat_of_before _ hgv
  have hA : ∀ a : Nat, a < s.heap.size → ¬ s.heap.size ≤ a := fun a ha => Nat.not_le.mpr ha
  have hst : ∀ i : Nat, ∃ q : Nat × Nat, i < 79 → (stt_T i).eval args s none [] s = some (.ref q.1) ∧ va_O "java/lang/String" q.1 (fun q => s.heap.size ≤ q) s s.heap ∧ va_OF "java/lang/String" "coder" "B" (.int 0) q.1 (fun q => s.heap.size ≤ q) s s.heap ∧ va_OF "java/lang/String" "value" "[B" (.ref q.2) q.1 (fun q => s.heap.size ≤ q) s s.heap ∧ va_T .byte q.2 (stN.getD i 0) (fun j => .int ((stB.getD i []).getD j 0)) (fun q => s.heap.size ≤ q) s s.heap := by
    intro i
    by_cases hi : i < 79
    · obtain ⟨q, hq⟩ := stt_one (A := fun q => s.heap.size ≤ q) hi (fun w hw => hfl w (stt_in hi hw)) hA
      exact ⟨q, fun _ => hq⟩
    · exact ⟨(0, 0), fun h => absurd h hi⟩
  obtain ⟨ad, had⟩ := Classical.axiomOfChoice hst
  obtain ⟨fm, hfm, hfr⟩ := stt_ref (hfl (Cond.isRef (.static "jdk/internal/util/Preconditions" "SIOOBE_FORMATTER" "Ljava/util/function/BiFunction;")) (by decide +kernel))
  obtain ⟨dc, hdc⟩ := Classical.axiomOfChoice (stt_cls hts)
  obtain ⟨tid, htid⟩ := stt_arr hts
  have hZ : (fun j => Int32.ofInt ((xs j).toInt)) = xs := funext fun j => Int32.ofInt_toInt _
  refine ⟨stt_X b fm ad, tid, (fun c => (dc c).1, fun c => (dc c).2), rfl, fun w hw hg a9 => word_at (State.WarmedH.refl s) (good_of_word hg) (hts w hw), ⟨fun c q hq => hdc c q hq, htid⟩, ?_, Nat.le_refl _, ⟨?_, ?_, ?_, ?_, ?_, ?_, ?_, ?_⟩, fun c i y hw => va_Nw.of rfl (hts _ hw), va_AO.of (hts _ wX_over), ?_, ?_, fun y hw => va_Nw.of rfl (hts _ hw)⟩
  · intro a
    match a with
    | 0 => exact Or.inr ⟨_, rfl⟩
    | 1 => exact hfr
    | k + 2 =>
      refine Or.inr ?_
      show ∃ q, (if k % 2 = 0 then Value.ref (ad (k / 2)).1 else Value.ref (ad (k / 2)).2) = .ref q
      split
      · exact ⟨_, rfl⟩
      · exact ⟨_, rfl⟩
  · intro a ha c fs hc h60
    obtain ⟨k, rfl⟩ : ∃ k, a = E0 + k := ⟨a - E0, (Nat.add_sub_cancel' ha).symm⟩
    unfold xc at hc
    rw [stt_xc] at hc
    match k, hc with
    | 0, hc => cases hc
    | 1, hc => cases hc; exact absurd rfl h60
    | k + 2, hc =>
      dsimp only at hc
      split at hc
      · rename_i h79
        split at hc
        · rename_i h2
          cases hc
          obtain ⟨-, q1, q2, q3, -⟩ := had (k / 2) h79
          refine ⟨rfl, (ad (k / 2)).1, _, _, rfl, ?_, q1, ?_, q2⟩
          · rw [Nat.add_sub_cancel_left]
            show (if k % 2 = 0 then Value.ref (ad (k / 2)).1 else Value.ref (ad (k / 2)).2) = _
            rw [if_pos h2]
          · have e8 : cv s.heap.size (stt_X b fm ad) (vR (E0 + k + 3)) = stt_X b fm ad (E0 + k + 3 - E0) := cv_hi (by omega)
            rw [e8, show E0 + k + 3 - E0 = (k + 1) + 2 by omega]
            have e9 : stt_X b fm ad ((k + 1) + 2) = .ref (ad (k / 2)).2 := by
              show (if (k + 1) % 2 = 0 then Value.ref (ad ((k + 1) / 2)).1 else Value.ref (ad ((k + 1) / 2)).2) = _
              rw [if_neg (by omega), show (k + 1) / 2 = k / 2 by omega]
            rw [e9]
            exact q3
        · cases hc
      · cases hc
        exact absurd rfl h60
  · intro a ha k9 n f hc
    obtain ⟨k, rfl⟩ : ∃ k, a = E0 + k := ⟨a - E0, (Nat.add_sub_cancel' ha).symm⟩
    unfold xc at hc
    rw [stt_xc] at hc
    rw [Nat.add_sub_cancel_left]
    match k, hc with
    | 0, hc =>
      cases hc
      exact ⟨b, rfl, Or.inl ⟨rfl, by rw [hZ]; exact hX, hbl⟩⟩
    | 1, hc => cases hc
    | k + 2, hc =>
      dsimp only at hc
      split at hc
      · rename_i h79
        split at hc
        · cases hc
        · rename_i h2
          cases hc
          obtain ⟨-, -, -, -, q4⟩ := had (k / 2) h79
          refine ⟨(ad (k / 2)).2, ?_, Or.inr ⟨rfl, ?_⟩⟩
          · show (if k % 2 = 0 then Value.ref (ad (k / 2)).1 else Value.ref (ad (k / 2)).2) = _
            rw [if_neg h2]
          · have e9 : (fun j => Value.int (Int32.ofInt ((stB.getD (k / 2) []).getD j 0).toInt)) = fun j => Value.int ((stB.getD (k / 2) []).getD j 0) := funext fun j => by rw [Int32.ofInt_toInt]
            rw [e9]
            exact q4
      · cases hc
  · intro a ha n f hc
    obtain ⟨k, rfl⟩ : ∃ k, a = E0 + k := ⟨a - E0, (Nat.add_sub_cancel' ha).symm⟩
    unfold xc at hc
    rw [stt_xc] at hc
    match k, hc with
    | 0, hc => cases hc
    | 1, hc => cases hc
    | k + 2, hc =>
      dsimp only at hc
      split at hc
      · split at hc
        · cases hc
        · cases hc
      · cases hc
  · intro i own k t hi
    have h79 : i < 79 := (List.getElem?_eq_some_iff.mp hi).1
    have e9 : stL.getD i ("", 0, "") = (own, k, t) := by rw [List.getD_eq_getElem?_getD, hi]; rfl
    refine ⟨(ad i).1, ?_, vk_R.of (hts _ (stt_sr _ (List.mem_of_getElem? hi))) ?_⟩
    · rw [Nat.add_comm]
      show (if 2 * i % 2 = 0 then Value.ref (ad (2 * i / 2)).1 else Value.ref (ad (2 * i / 2)).2) = _
      rw [if_pos (by omega), show 2 * i / 2 = i by omega]
    · have h1 := (had i h79).1
      unfold stt_T at h1
      rw [e9] at h1
      exact h1
  · exact va_Zof (hts _ (tb3 (List.mem_of_getElem? (i := 163) rfl))) (hts _ (tb1 (List.mem_of_getElem? (i := 16) rfl))) (va_eqt (hfl _ (by decide +kernel))) hA
  · exact va_Zof (hts _ (tb3 (List.mem_of_getElem? (i := 179) rfl))) (hts _ (tb1 (List.mem_of_getElem? (i := 18) rfl))) hfm hA
  · exact vx_Zqof (hts (Cond.laysStatic "java/lang/Throwable" "UNASSIGNED_STACK" "[Ljava/lang/StackTraceElement;") (tb4 (List.mem_of_getElem? (i := 64) rfl))) (hts (Cond.initialized "java/lang/Throwable") (tb1 (List.mem_of_getElem? (i := 20) rfl))) (hfl (Cond.isRef (.static "java/lang/Throwable" "UNASSIGNED_STACK" "[Ljava/lang/StackTraceElement;")) (by decide +kernel)) hA
  · exact vx_Zqof (hts (Cond.laysStatic "java/lang/Throwable" "SUPPRESSED_SENTINEL" "Ljava/util/List;") (tb4 (List.mem_of_getElem? (i := 66) rfl))) (hts (Cond.initialized "java/lang/Throwable") (tb1 (List.mem_of_getElem? (i := 20) rfl))) (hfl (Cond.isRef (.static "java/lang/Throwable" "SUPPRESSED_SENTINEL" "Ljava/util/List;")) (by decide +kernel)) hA
  · exact fun c hc => match c, hc with
    | 13, _ => va_Nw.of rfl (hts _ wX_cast13)
    | 14, _ => va_Nw.of rfl (hts _ wX_cast14)
    | 15, _ => va_Nw.of rfl (hts _ wX_cast15)
    | 16, _ => va_Nw.of rfl (hts _ wX_cast16)
    | 17, _ => va_Nw.of rfl (hts _ wX_cast17)
    | 0, h => absurd h.1 (by decide)
    | 1, h => absurd h.1 (by decide)
    | 2, h => absurd h.1 (by decide)
    | 3, h => absurd h.1 (by decide)
    | 4, h => absurd h.1 (by decide)
    | 5, h => absurd h.1 (by decide)
    | 6, h => absurd h.1 (by decide)
    | 7, h => absurd h.1 (by decide)
    | 8, h => absurd h.1 (by decide)
    | 9, h => absurd h.1 (by decide)
    | 10, h => absurd h.1 (by decide)
    | 11, h => absurd h.1 (by decide)
    | 12, h => absurd h.1 (by decide)
      | c + 18, h => absurd h.2 (by omega)
  · exact fun c d hc hd hne => va_Nc.of (hfl _ (stt_nc c hc d hd hne))
theorem stt_drop {t : State} {Lc : List Loc} {k n k' n' : Nat} (h : s.sameButNew t Lc k n) (hL : ∀ x ∈ Lc, s.heap.size ≤ x.base) (hk : k ≤ k') (hn : n ≤ n') : s.sameButNew t [] k' n' := by
  obtain ⟨h1, h2, h3, h4, h5, h6⟩ := h
  refine ⟨h1, h2, Nat.le_trans h3 (by omega), h4, Nat.le_trans h5 hn, fun a c hc => ?_⟩
  obtain ⟨c', q1, q2, q3, q4⟩ := h6 a c hc
  exact ⟨c', q1, q2, q3, fun i _ => q4 i fun hm => absurd (hL _ hm) (Nat.not_le.mpr (Array.getElem?_eq_some_iff.mp hc).1)⟩
end Stt
theorem stt_code : code = mC 332 := rfl
/-- the law comes to its end with true, if the reading of it by numbers does -/
theorem whole_of {p : Program} {e : Env} {s : State} {m : MethodId} {below : List Frame} {meth : Method} {c : Code} (l : Launch) (hflags : l.flags = flags0) {b L : Nat} {xs : Nat → Int32} (hL : L ≤ 3072)
    (hx : p.tables.exec = Jvm.exec) (hb : c.code = code) (hr : meth.sig.returnType = ret) (hml : c.maxLocals = 7) (hown : s.vm.findClass "GlassHillLaw" = some m.cls) (hts : ∀ w ∈ lw_tbl, w.before #[Value.ref b] s = true) (hX : va_X b L xs s s.heap) (hbl : b < s.heap.size) (hlk : meth.locks = false) (hgv : (Jvm.Cond.and given_1 narrow_1).before #[Value.ref b] s = true) (htab : c.exceptionTable.isEmpty = true)
    (hM : ∃ M', drv_main (L, fun j => (xs j).toInt) M0 = some (rI 1, M')) :
    W p l e room_1 s m #[Value.ref b] below meth c s.heap [] 0 0 (fun t => ∃ o, t.status = .running ∧ Ended t below o ∧ o = .returned (some (.int 1)) ∧ Framed s o t [] 601024 7293034) (entryFrame m ([Value.ref b] : List Value).toArray 7) := by
  obtain ⟨M', hM⟩ := hM
  obtain ⟨X, tid, D, hX0, hEN⟩ := stt_EN hts hX hbl hgv
  obtain ⟨n, r, h', hex, rfl, hR⟩ := law_init (d := 47) (drv_main_ok (Z := (L, fun j => (xs j).toInt)) (d := 47 + 5) (Nat.le_refl _) (by show L < 2147483648; omega) hM)
  obtain ⟨-, ⟨r2a, r2b⟩, r3, r4, -, -⟩ := hR
  have hs1 : h'.1 ≤ 100187 := by
    rw [r3]
    split <;> omega
  have hs2 : h'.2.1 ≤ 657616 := by
    rw [r4]
    unfold SL0 SLS
    split <;> omega
  have hE0 : h'.1 ≤ E0 := Nat.le_trans hs1 (by decide)
  have hX1 : ∀ a, (X a).category = 1 := fun a => by rcases hEN.2.2.1 a with h | ⟨q, h⟩ <;> rw [h] <;> rfl
  have hLR := LR_ent (sz := s.heap.size) (X := X) (y := 332) (vs := [vR E0]) hX1 (by decide)
  have hvs : ([vR E0] : List AV).map (cv s.heap.size X) = [Value.ref b] := by
    have e8 : cv s.heap.size X (vR E0) = X (E0 - E0) := cv_hi (Nat.le_refl _)
    rw [List.map_cons, List.map_nil, e8, Nat.sub_self, hX0]
  rw [hvs] at hLR
  have htab' : c.exceptionTable.toList = tableOf (hT 332) := by
    show c.exceptionTable.toList = []
    rw [Array.isEmpty_iff.mp htab]
  have hcl : s.vm.findClass (cN (mK 332)) = some m.cls := by
    rw [show cN (mK 332) = "GlassHillLaw" by decide +kernel]
    exact hown
  have w := SW_all l n (47 + 5) 332 0 _ [] (0, 0, xc (L, fun j => (xs j).toInt)) (rI 1) h' hex hE0 s.heap.size X tid D (xc (L, fun j => (xs j).toInt)) p e room_1 s m #[Value.ref b] below meth c s.heap [] 0 0 _ (0, 0, xc (L, fun j => (xs j).toInt))
    ⟨hx, hb.trans stt_code, hml, hcl, fun h => absurd h (by decide +kernel), hEN, by decide, by decide, hr, hlk, htab', by unfold Launch.stackTraces; rw [hflags]; decide +kernel⟩ rfl hLR
    ⟨fun k q hq => absurd hq (by intro h; cases h), rfl, rfl, rfl, rfl, va_S.rf, fun a _ => gt_00⟩ (by show h'.1 ≤ 0 + 601024; omega) (by show h'.2.1 ≤ 0 + 7293034; omega)
  rw [lg_entry_eq]
  intro T hT XT
  obtain ⟨t, a1, o, b1, b2, b3⟩ := w T hT XT
  refine ⟨t, a1, o, b1, b2, ?_⟩
  rcases b3 with ⟨⟨⟨v, hv, ho, -⟩, -⟩, Lc, hF, hLc⟩ | ⟨q, -, E, ce9, Lc, ⟨⟨ci, hci, -⟩, -⟩, -⟩
  · cases hv
    subst ho
    exact ⟨rfl, ⟨_, rfl⟩, hF.2.1, stt_drop hF.2.2 hLc (by show h'.1 - 0 ≤ 601024; omega) (by show h'.2.1 - 0 ≤ 7293034; omega)⟩
  · cases hci
