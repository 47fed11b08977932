/-! ===== the classes: fields, types, words ===== -/
abbrev clA : List vw_C := vwCl ++ [("java/lang/IllegalArgumentException", TX0, 0), ("java/lang/IllegalStateException", TX0, 0), ("java/lang/IndexOutOfBoundsException", TX0, 0), ("java/util/NoSuchElementException", TX0, 0), ("java/lang/UnsupportedOperationException", TX0, 0)]
def cY (c : Nat) : Nat → FieldType := cTy.getD c tyX0
/-- the types that fields have here -/
def tyO (t : FieldType) : Bool := match t with
  | .int => true
  | .boolean => true
  | .array _ => true
  | .object _ => true
  | _ => false
def CF (c : Nat) : Prop := clA[c]? = some (cN c, cT c, cF c) ∧ (∀ w ∈ u_ws (cN c) (cT c) (cF c), w ∈ lw_tbl) ∧ (∀ k, k < cF c → parseFieldDescriptor (cT c k).2.2.1 = some (cY c k)) ∧ (∀ a, a < cF c → ∀ b, b < cF c → a ≠ b → (cT c a).2.1 ≠ (cT c b).2.1) ∧ Cond.instantiable (cN c) (cF c) ∈ lw_tbl ∧ Cond.initialized (cN c) ∈ lw_tbl ∧ (∀ k, k < cF c → tyO (cY c k) = true) ∧ (∀ k, k < cF c → (cT c k).1 = cN c)
theorem uw0 : ∀ k, k < 14 → u_lay RX0 TX0 k ∈ lw_tbl := fun k hk => match k, hk with
  | 0, _ => (tb2 (List.mem_of_getElem? (i := 31) rfl))
  | 1, _ => (tb2 (List.mem_of_getElem? (i := 33) rfl))
  | 2, _ => (tb2 (List.mem_of_getElem? (i := 35) rfl))
  | 3, _ => (tb2 (List.mem_of_getElem? (i := 37) rfl))
  | 4, _ => (tb2 (List.mem_of_getElem? (i := 39) rfl))
  | 5, _ => (tb2 (List.mem_of_getElem? (i := 41) rfl))
  | 6, _ => (tb2 (List.mem_of_getElem? (i := 43) rfl))
  | 7, _ => (tb2 (List.mem_of_getElem? (i := 45) rfl))
  | 8, _ => (tb2 (List.mem_of_getElem? (i := 47) rfl))
  | 9, _ => (tb2 (List.mem_of_getElem? (i := 49) rfl))
  | 10, _ => (tb2 (List.mem_of_getElem? (i := 51) rfl))
  | 11, _ => (tb2 (List.mem_of_getElem? (i := 53) rfl))
  | 12, _ => (tb2 (List.mem_of_getElem? (i := 55) rfl))
  | 13, _ => (tb2 (List.mem_of_getElem? (i := 57) rfl))
  | k + 14, h => absurd h (by omega)
theorem cf0 : CF 0 := by
  refine ⟨rfl, fun w hw => ?_, tyX0_ok, nmX0, (tb1 (List.mem_of_getElem? (i := 224) rfl)), (tb1 (List.mem_of_getElem? (i := 5) rfl)), by decide +kernel, by decide +kernel⟩
  obtain ⟨k, hk, rfl⟩ := List.mem_map.mp hw
  exact uw0 k (List.mem_range.mp hk)
theorem uw1 : ∀ k, k < 20 → u_lay RX1 TX1 k ∈ lw_tbl := fun k hk => match k, hk with
  | 0, _ => (tb1 (List.mem_of_getElem? (i := 147) rfl))
  | 1, _ => (tb1 (List.mem_of_getElem? (i := 149) rfl))
  | 2, _ => (tb1 (List.mem_of_getElem? (i := 151) rfl))
  | 3, _ => (tb1 (List.mem_of_getElem? (i := 153) rfl))
  | 4, _ => (tb1 (List.mem_of_getElem? (i := 155) rfl))
  | 5, _ => (tb1 (List.mem_of_getElem? (i := 157) rfl))
  | 6, _ => (tb1 (List.mem_of_getElem? (i := 159) rfl))
  | 7, _ => (tb1 (List.mem_of_getElem? (i := 161) rfl))
  | 8, _ => (tb1 (List.mem_of_getElem? (i := 163) rfl))
  | 9, _ => (tb1 (List.mem_of_getElem? (i := 165) rfl))
  | 10, _ => (tb1 (List.mem_of_getElem? (i := 167) rfl))
  | 11, _ => (tb1 (List.mem_of_getElem? (i := 169) rfl))
  | 12, _ => (tb1 (List.mem_of_getElem? (i := 171) rfl))
  | 13, _ => (tb1 (List.mem_of_getElem? (i := 173) rfl))
  | 14, _ => (tb1 (List.mem_of_getElem? (i := 175) rfl))
  | 15, _ => (tb1 (List.mem_of_getElem? (i := 177) rfl))
  | 16, _ => (tb1 (List.mem_of_getElem? (i := 179) rfl))
  | 17, _ => (tb1 (List.mem_of_getElem? (i := 181) rfl))
  | 18, _ => (tb1 (List.mem_of_getElem? (i := 183) rfl))
  | 19, _ => (tb1 (List.mem_of_getElem? (i := 185) rfl))
  | k + 20, h => absurd h (by omega)
theorem cf1 : CF 1 := by
  refine ⟨rfl, fun w hw => ?_, tyX1_ok, nmX1, (tb1 (List.mem_of_getElem? (i := 67) rfl)), (tb1 (List.mem_of_getElem? (i := 3) rfl)), by decide +kernel, by decide +kernel⟩
  obtain ⟨k, hk, rfl⟩ := List.mem_map.mp hw
  exact uw1 k (List.mem_range.mp hk)
theorem uw2 : ∀ k, k < 7 → u_lay RX2 TX2 k ∈ lw_tbl := fun k hk => match k, hk with
  | 0, _ => (tb1 (List.mem_of_getElem? (i := 208) rfl))
  | 1, _ => (tb1 (List.mem_of_getElem? (i := 210) rfl))
  | 2, _ => (tb1 (List.mem_of_getElem? (i := 212) rfl))
  | 3, _ => (tb1 (List.mem_of_getElem? (i := 214) rfl))
  | 4, _ => (tb1 (List.mem_of_getElem? (i := 216) rfl))
  | 5, _ => (tb1 (List.mem_of_getElem? (i := 218) rfl))
  | 6, _ => (tb1 (List.mem_of_getElem? (i := 220) rfl))
  | k + 7, h => absurd h (by omega)
theorem cf2 : CF 2 := by
  refine ⟨rfl, fun w hw => ?_, tyX2_ok, nmX2, (tb1 (List.mem_of_getElem? (i := 189) rfl)), (tb1 (List.mem_of_getElem? (i := 4) rfl)), by decide +kernel, by decide +kernel⟩
  obtain ⟨k, hk, rfl⟩ := List.mem_map.mp hw
  exact uw2 k (List.mem_range.mp hk)
theorem uw3 : ∀ k, k < 2 → u_lay RX3 TX3 k ∈ lw_tbl := fun k hk => match k, hk with
  | 0, _ => (tb2 (List.mem_of_getElem? (i := 84) rfl))
  | 1, _ => (tb2 (List.mem_of_getElem? (i := 86) rfl))
  | k + 2, h => absurd h (by omega)
theorem cf3 : CF 3 := by
  refine ⟨rfl, fun w hw => ?_, tyX3_ok, nmX3, (tb2 (List.mem_of_getElem? (i := 77) rfl)), (tb1 (List.mem_of_getElem? (i := 8) rfl)), by decide +kernel, by decide +kernel⟩
  obtain ⟨k, hk, rfl⟩ := List.mem_map.mp hw
  exact uw3 k (List.mem_range.mp hk)
theorem uw4 : ∀ k, k < 3 → u_lay RX4 TX4 k ∈ lw_tbl := fun k hk => match k, hk with
  | 0, _ => (tb2 (List.mem_of_getElem? (i := 102) rfl))
  | 1, _ => (tb2 (List.mem_of_getElem? (i := 104) rfl))
  | 2, _ => (tb2 (List.mem_of_getElem? (i := 106) rfl))
  | k + 3, h => absurd h (by omega)
theorem cf4 : CF 4 := by
  refine ⟨rfl, fun w hw => ?_, tyX4_ok, nmX4, (tb2 (List.mem_of_getElem? (i := 90) rfl)), (tb1 (List.mem_of_getElem? (i := 9) rfl)), by decide +kernel, by decide +kernel⟩
  obtain ⟨k, hk, rfl⟩ := List.mem_map.mp hw
  exact uw4 k (List.mem_range.mp hk)
theorem uw5 : ∀ k, k < 7 → u_lay RX5 TX5 k ∈ lw_tbl := fun k hk => match k, hk with
  | 0, _ => (tb2 (List.mem_of_getElem? (i := 160) rfl))
  | 1, _ => (tb2 (List.mem_of_getElem? (i := 162) rfl))
  | 2, _ => (tb2 (List.mem_of_getElem? (i := 164) rfl))
  | 3, _ => (tb2 (List.mem_of_getElem? (i := 166) rfl))
  | 4, _ => (tb2 (List.mem_of_getElem? (i := 168) rfl))
  | 5, _ => (tb2 (List.mem_of_getElem? (i := 170) rfl))
  | 6, _ => (tb2 (List.mem_of_getElem? (i := 172) rfl))
  | k + 7, h => absurd h (by omega)
theorem cf5 : CF 5 := by
  refine ⟨rfl, fun w hw => ?_, tyX5_ok, nmX5, (tb2 (List.mem_of_getElem? (i := 147) rfl)), (tb1 (List.mem_of_getElem? (i := 12) rfl)), by decide +kernel, by decide +kernel⟩
  obtain ⟨k, hk, rfl⟩ := List.mem_map.mp hw
  exact uw5 k (List.mem_range.mp hk)
theorem uw6 : ∀ k, k < 14 → u_lay RX6 TX6 k ∈ lw_tbl := fun k hk => match k, hk with
  | 0, _ => (tb6 (List.mem_of_getElem? (i := 6) rfl))
  | 1, _ => (tb6 (List.mem_of_getElem? (i := 8) rfl))
  | 2, _ => (tb6 (List.mem_of_getElem? (i := 10) rfl))
  | 3, _ => (tb6 (List.mem_of_getElem? (i := 12) rfl))
  | 4, _ => (tb6 (List.mem_of_getElem? (i := 14) rfl))
  | 5, _ => (tb6 (List.mem_of_getElem? (i := 16) rfl))
  | 6, _ => (tb6 (List.mem_of_getElem? (i := 18) rfl))
  | 7, _ => (tb6 (List.mem_of_getElem? (i := 20) rfl))
  | 8, _ => (tb6 (List.mem_of_getElem? (i := 22) rfl))
  | 9, _ => (tb6 (List.mem_of_getElem? (i := 24) rfl))
  | 10, _ => (tb6 (List.mem_of_getElem? (i := 26) rfl))
  | 11, _ => (tb6 (List.mem_of_getElem? (i := 28) rfl))
  | 12, _ => (tb6 (List.mem_of_getElem? (i := 30) rfl))
  | 13, _ => (tb6 (List.mem_of_getElem? (i := 32) rfl))
  | k + 14, h => absurd h (by omega)
theorem cf6 : CF 6 := by
  refine ⟨rfl, fun w hw => ?_, tyX6_ok, nmX6, (tb5 (List.mem_of_getElem? (i := 225) rfl)), (tb1 (List.mem_of_getElem? (i := 29) rfl)), by decide +kernel, by decide +kernel⟩
  obtain ⟨k, hk, rfl⟩ := List.mem_map.mp hw
  exact uw6 k (List.mem_range.mp hk)
theorem uw7 : ∀ k, k < 4 → u_lay RX7 TX7 k ∈ lw_tbl := fun k hk => match k, hk with
  | 0, _ => (tb2 (List.mem_of_getElem? (i := 121) rfl))
  | 1, _ => (tb2 (List.mem_of_getElem? (i := 123) rfl))
  | 2, _ => (tb2 (List.mem_of_getElem? (i := 125) rfl))
  | 3, _ => (tb2 (List.mem_of_getElem? (i := 127) rfl))
  | k + 4, h => absurd h (by omega)
theorem cf7 : CF 7 := by
  refine ⟨rfl, fun w hw => ?_, tyX7_ok, nmX7, (tb2 (List.mem_of_getElem? (i := 110) rfl)), (tb1 (List.mem_of_getElem? (i := 10) rfl)), by decide +kernel, by decide +kernel⟩
  obtain ⟨k, hk, rfl⟩ := List.mem_map.mp hw
  exact uw7 k (List.mem_range.mp hk)
theorem uw8 : ∀ k, k < 3 → u_lay RX8 TX8 k ∈ lw_tbl := fun k hk => match k, hk with
  | 0, _ => (tb2 (List.mem_of_getElem? (i := 69) rfl))
  | 1, _ => (tb2 (List.mem_of_getElem? (i := 71) rfl))
  | 2, _ => (tb2 (List.mem_of_getElem? (i := 73) rfl))
  | k + 3, h => absurd h (by omega)
theorem cf8 : CF 8 := by
  refine ⟨rfl, fun w hw => ?_, tyX8_ok, nmX8, (tb2 (List.mem_of_getElem? (i := 61) rfl)), (tb1 (List.mem_of_getElem? (i := 7) rfl)), by decide +kernel, by decide +kernel⟩
  obtain ⟨k, hk, rfl⟩ := List.mem_map.mp hw
  exact uw8 k (List.mem_range.mp hk)
theorem uw9 : ∀ k, k < 5 → u_lay RX9 TX9 k ∈ lw_tbl := fun k hk => match k, hk with
  | 0, _ => (tb1 (List.mem_of_getElem? (i := 54) rfl))
  | 1, _ => (tb1 (List.mem_of_getElem? (i := 56) rfl))
  | 2, _ => (tb1 (List.mem_of_getElem? (i := 58) rfl))
  | 3, _ => (tb1 (List.mem_of_getElem? (i := 60) rfl))
  | 4, _ => (tb1 (List.mem_of_getElem? (i := 62) rfl))
  | k + 5, h => absurd h (by omega)
theorem cf9 : CF 9 := by
  refine ⟨rfl, fun w hw => ?_, tyX9_ok, nmX9, (tb1 (List.mem_of_getElem? (i := 39) rfl)), (tb1 (List.mem_of_getElem? (i := 2) rfl)), by decide +kernel, by decide +kernel⟩
  obtain ⟨k, hk, rfl⟩ := List.mem_map.mp hw
  exact uw9 k (List.mem_range.mp hk)
theorem uw10 : ∀ k, k < 3 → u_lay RX10 TX10 k ∈ lw_tbl := fun k hk => match k, hk with
  | 0, _ => (tb2 (List.mem_of_getElem? (i := 139) rfl))
  | 1, _ => (tb2 (List.mem_of_getElem? (i := 141) rfl))
  | 2, _ => (tb2 (List.mem_of_getElem? (i := 143) rfl))
  | k + 3, h => absurd h (by omega)
theorem cf10 : CF 10 := by
  refine ⟨rfl, fun w hw => ?_, tyX10_ok, nmX10, (tb2 (List.mem_of_getElem? (i := 131) rfl)), (tb1 (List.mem_of_getElem? (i := 11) rfl)), by decide +kernel, by decide +kernel⟩
  obtain ⟨k, hk, rfl⟩ := List.mem_map.mp hw
  exact uw10 k (List.mem_range.mp hk)
theorem uw11 : ∀ k, k < 19 → u_lay RX11 TX11 k ∈ lw_tbl := fun k hk => match k, hk with
  | 0, _ => (tb2 (List.mem_of_getElem? (i := 194) rfl))
  | 1, _ => (tb2 (List.mem_of_getElem? (i := 196) rfl))
  | 2, _ => (tb2 (List.mem_of_getElem? (i := 198) rfl))
  | 3, _ => (tb2 (List.mem_of_getElem? (i := 200) rfl))
  | 4, _ => (tb2 (List.mem_of_getElem? (i := 202) rfl))
  | 5, _ => (tb2 (List.mem_of_getElem? (i := 204) rfl))
  | 6, _ => (tb2 (List.mem_of_getElem? (i := 206) rfl))
  | 7, _ => (tb2 (List.mem_of_getElem? (i := 208) rfl))
  | 8, _ => (tb2 (List.mem_of_getElem? (i := 210) rfl))
  | 9, _ => (tb2 (List.mem_of_getElem? (i := 212) rfl))
  | 10, _ => (tb2 (List.mem_of_getElem? (i := 214) rfl))
  | 11, _ => (tb2 (List.mem_of_getElem? (i := 216) rfl))
  | 12, _ => (tb2 (List.mem_of_getElem? (i := 218) rfl))
  | 13, _ => (tb2 (List.mem_of_getElem? (i := 220) rfl))
  | 14, _ => (tb2 (List.mem_of_getElem? (i := 222) rfl))
  | 15, _ => (tb2 (List.mem_of_getElem? (i := 224) rfl))
  | 16, _ => (tb2 (List.mem_of_getElem? (i := 226) rfl))
  | 17, _ => (tb2 (List.mem_of_getElem? (i := 228) rfl))
  | 18, _ => (tb2 (List.mem_of_getElem? (i := 230) rfl))
  | k + 19, h => absurd h (by omega)
theorem cf11 : CF 11 := by
  refine ⟨rfl, fun w hw => ?_, tyX11_ok, nmX11, (tb1 (List.mem_of_getElem? (i := 31) rfl)), (tb1 (List.mem_of_getElem? (i := 1) rfl)), by decide +kernel, by decide +kernel⟩
  obtain ⟨k, hk, rfl⟩ := List.mem_map.mp hw
  exact uw11 k (List.mem_range.mp hk)
theorem uw12 : ∀ k, k < 32 → u_lay RX12 TX12 k ∈ lw_tbl := fun k hk => match k, hk with
  | 0, _ => (tb7 (List.mem_of_getElem? (i := 106) rfl))
  | 1, _ => (tb7 (List.mem_of_getElem? (i := 108) rfl))
  | 2, _ => (tb7 (List.mem_of_getElem? (i := 110) rfl))
  | 3, _ => (tb7 (List.mem_of_getElem? (i := 112) rfl))
  | 4, _ => (tb7 (List.mem_of_getElem? (i := 114) rfl))
  | 5, _ => (tb7 (List.mem_of_getElem? (i := 116) rfl))
  | 6, _ => (tb7 (List.mem_of_getElem? (i := 118) rfl))
  | 7, _ => (tb7 (List.mem_of_getElem? (i := 120) rfl))
  | 8, _ => (tb7 (List.mem_of_getElem? (i := 122) rfl))
  | 9, _ => (tb7 (List.mem_of_getElem? (i := 124) rfl))
  | 10, _ => (tb7 (List.mem_of_getElem? (i := 126) rfl))
  | 11, _ => (tb7 (List.mem_of_getElem? (i := 128) rfl))
  | 12, _ => (tb7 (List.mem_of_getElem? (i := 130) rfl))
  | 13, _ => (tb7 (List.mem_of_getElem? (i := 132) rfl))
  | 14, _ => (tb7 (List.mem_of_getElem? (i := 134) rfl))
  | 15, _ => (tb7 (List.mem_of_getElem? (i := 136) rfl))
  | 16, _ => (tb7 (List.mem_of_getElem? (i := 138) rfl))
  | 17, _ => (tb7 (List.mem_of_getElem? (i := 140) rfl))
  | 18, _ => (tb7 (List.mem_of_getElem? (i := 142) rfl))
  | 19, _ => (tb7 (List.mem_of_getElem? (i := 144) rfl))
  | 20, _ => (tb7 (List.mem_of_getElem? (i := 146) rfl))
  | 21, _ => (tb7 (List.mem_of_getElem? (i := 148) rfl))
  | 22, _ => (tb7 (List.mem_of_getElem? (i := 150) rfl))
  | 23, _ => (tb7 (List.mem_of_getElem? (i := 152) rfl))
  | 24, _ => (tb7 (List.mem_of_getElem? (i := 154) rfl))
  | 25, _ => (tb7 (List.mem_of_getElem? (i := 156) rfl))
  | 26, _ => (tb7 (List.mem_of_getElem? (i := 158) rfl))
  | 27, _ => (tb7 (List.mem_of_getElem? (i := 160) rfl))
  | 28, _ => (tb7 (List.mem_of_getElem? (i := 162) rfl))
  | 29, _ => (tb7 (List.mem_of_getElem? (i := 164) rfl))
  | 30, _ => (tb7 (List.mem_of_getElem? (i := 166) rfl))
  | 31, _ => (tb7 (List.mem_of_getElem? (i := 168) rfl))
  | k + 32, h => absurd h (by omega)
theorem cf12 : CF 12 := by
  refine ⟨rfl, fun w hw => ?_, tyX12_ok, nmX12, (tb7 (List.mem_of_getElem? (i := 69) rfl)), (tb1 (List.mem_of_getElem? (i := 13) rfl)), by decide +kernel, by decide +kernel⟩
  obtain ⟨k, hk, rfl⟩ := List.mem_map.mp hw
  exact uw12 k (List.mem_range.mp hk)
theorem cfA : ∀ c, c < 13 → CF c := fun c hc => match c, hc with
  | 0, _ => cf0
  | 1, _ => cf1
  | 2, _ => cf2
  | 3, _ => cf3
  | 4, _ => cf4
  | 5, _ => cf5
  | 6, _ => cf6
  | 7, _ => cf7
  | 8, _ => cf8
  | 9, _ => cf9
  | 10, _ => cf10
  | 11, _ => cf11
  | 12, _ => cf12
  | c + 13, h => absurd h (by omega)
theorem pfA : ∀ c q, q ∈ ptb.getD c [] → PF c q := fun c => match c with
  | 0 => pf0
  | 1 => pf1
  | 2 => pf2
  | 3 => pf3
  | 4 => pf4
  | 5 => pf5
  | 6 => pf6
  | 7 => pf7
  | 8 => pf8
  | 9 => pf9
  | 10 => pf10
  | 11 => pf11
  | 12 => pf12
  | 13 => pf13
  | 14 => pf14
  | 15 => pf15
  | 16 => pf16
  | 17 => pf17
  | 18 => pf18
  | 19 => pf19
  | _ + 20 => fun q h => absurd h List.not_mem_nil
theorem plk_mem {i : Nat} {t a b : Nat} {z : Int} : ∀ {L : List (Nat × Nat × Nat × Nat × Int)}, plk i L = (t, a, b, z) → t ≠ 99 → (i, t, a, b, z) ∈ L
  | [], h, ht => by cases h; exact absurd rfl ht
  | q :: r, h, ht => by
    unfold plk at h
    cases e : q.1.beq i with
    | true =>
      rw [e] at h
      have e1 : q.1 = i := Nat.eq_of_beq_eq_true e
      have e2 : q = (i, t, a, b, z) := by
        rw [← e1, ← (show q.2 = (t, a, b, z) from h)]
      rw [e2]
      exact List.mem_cons_self
    | false =>
      rw [e] at h
      exact List.mem_cons_of_mem _ (plk_mem h ht)
theorem pl_PF {c i t a b : Nat} {z : Int} (h : pl c i = (t, a, b, z)) (ht : t ≠ 99) : PF c (i, t, a, b, z) := pfA c _ (plk_mem h ht)
theorem mfA : ∀ y, y < 332 → MF y := fun y hy => match y, hy with
  | 0, _ => mf0
  | 1, _ => mf1
  | 2, _ => mf2
  | 3, _ => mf3
  | 4, _ => mf4
  | 5, _ => mf5
  | 6, _ => mf6
  | 7, _ => mf7
  | 8, _ => mf8
  | 9, _ => mf9
  | 10, _ => mf10
  | 11, _ => mf11
  | 12, _ => mf12
  | 13, _ => mf13
  | 14, _ => mf14
  | 15, _ => mf15
  | 16, _ => mf16
  | 17, _ => mf17
  | 18, _ => mf18
  | 19, _ => mf19
  | 20, _ => mf20
  | 21, _ => mf21
  | 22, _ => mf22
  | 23, _ => mf23
  | 24, _ => mf24
  | 25, _ => mf25
  | 26, _ => mf26
  | 27, _ => mf27
  | 28, _ => mf28
  | 29, _ => mf29
  | 30, _ => mf30
  | 31, _ => mf31
  | 32, _ => mf32
  | 33, _ => mf33
  | 34, _ => mf34
  | 35, _ => mf35
  | 36, _ => mf36
  | 37, _ => mf37
  | 38, _ => mf38
  | 39, _ => mf39
  | 40, _ => mf40
  | 41, _ => mf41
  | 42, _ => mf42
  | 43, _ => mf43
  | 44, _ => mf44
  | 45, _ => mf45
  | 46, _ => mf46
  | 47, _ => mf47
  | 48, _ => mf48
  | 49, _ => mf49
  | 50, _ => mf50
  | 51, _ => mf51
  | 52, _ => mf52
  | 53, _ => mf53
  | 54, _ => mf54
  | 55, _ => mf55
  | 56, _ => mf56
  | 57, _ => mf57
  | 58, _ => mf58
  | 59, _ => mf59
  | 60, _ => mf60
  | 61, _ => mf61
  | 62, _ => mf62
  | 63, _ => mf63
  | 64, _ => mf64
  | 65, _ => mf65
  | 66, _ => mf66
  | 67, _ => mf67
  | 68, _ => mf68
  | 69, _ => mf69
  | 70, _ => mf70
  | 71, _ => mf71
  | 72, _ => mf72
  | 73, _ => mf73
  | 74, _ => mf74
  | 75, _ => mf75
  | 76, _ => mf76
  | 77, _ => mf77
  | 78, _ => mf78
  | 79, _ => mf79
  | 80, _ => mf80
  | 81, _ => mf81
  | 82, _ => mf82
  | 83, _ => mf83
  | 84, _ => mf84
  | 85, _ => mf85
  | 86, _ => mf86
  | 87, _ => mf87
  | 88, _ => mf88
  | 89, _ => mf89
  | 90, _ => mf90
  | 91, _ => mf91
  | 92, _ => mf92
  | 93, _ => mf93
  | 94, _ => mf94
  | 95, _ => mf95
  | 96, _ => mf96
  | 97, _ => mf97
  | 98, _ => mf98
  | 99, _ => mf99
  | 100, _ => mf100
  | 101, _ => mf101
  | 102, _ => mf102
  | 103, _ => mf103
  | 104, _ => mf104
  | 105, _ => mf105
  | 106, _ => mf106
  | 107, _ => mf107
  | 108, _ => mf108
  | 109, _ => mf109
  | 110, _ => mf110
  | 111, _ => mf111
  | 112, _ => mf112
  | 113, _ => mf113
  | 114, _ => mf114
  | 115, _ => mf115
  | 116, _ => mf116
  | 117, _ => mf117
  | 118, _ => mf118
  | 119, _ => mf119
  | 120, _ => mf120
  | 121, _ => mf121
  | 122, _ => mf122
  | 123, _ => mf123
  | 124, _ => mf124
  | 125, _ => mf125
  | 126, _ => mf126
  | 127, _ => mf127
  | 128, _ => mf128
  | 129, _ => mf129
  | 130, _ => mf130
  | 131, _ => mf131
  | 132, _ => mf132
  | 133, _ => mf133
  | 134, _ => mf134
  | 135, _ => mf135
  | 136, _ => mf136
  | 137, _ => mf137
  | 138, _ => mf138
  | 139, _ => mf139
  | 140, _ => mf140
  | 141, _ => mf141
  | 142, _ => mf142
  | 143, _ => mf143
  | 144, _ => mf144
  | 145, _ => mf145
  | 146, _ => mf146
  | 147, _ => mf147
  | 148, _ => mf148
  | 149, _ => mf149
  | 150, _ => mf150
  | 151, _ => mf151
  | 152, _ => mf152
  | 153, _ => mf153
  | 154, _ => mf154
  | 155, _ => mf155
  | 156, _ => mf156
  | 157, _ => mf157
  | 158, _ => mf158
  | 159, _ => mf159
  | 160, _ => mf160
  | 161, _ => mf161
  | 162, _ => mf162
  | 163, _ => mf163
  | 164, _ => mf164
  | 165, _ => mf165
  | 166, _ => mf166
  | 167, _ => mf167
  | 168, _ => mf168
  | 169, _ => mf169
  | 170, _ => mf170
  | 171, _ => mf171
  | 172, _ => mf172
  | 173, _ => mf173
  | 174, _ => mf174
  | 175, _ => mf175
  | 176, _ => mf176
  | 177, _ => mf177
  | 178, _ => mf178
  | 179, _ => mf179
  | 180, _ => mf180
  | 181, _ => mf181
  | 182, _ => mf182
  | 183, _ => mf183
  | 184, _ => mf184
  | 185, _ => mf185
  | 186, _ => mf186
  | 187, _ => mf187
  | 188, _ => mf188
  | 189, _ => mf189
  | 190, _ => mf190
  | 191, _ => mf191
  | 192, _ => mf192
  | 193, _ => mf193
  | 194, _ => mf194
  | 195, _ => mf195
  | 196, _ => mf196
  | 197, _ => mf197
  | 198, _ => mf198
  | 199, _ => mf199
  | 200, _ => mf200
  | 201, _ => mf201
  | 202, _ => mf202
  | 203, _ => mf203
  | 204, _ => mf204
  | 205, _ => mf205
  | 206, _ => mf206
  | 207, _ => mf207
  | 208, _ => mf208
  | 209, _ => mf209
  | 210, _ => mf210
  | 211, _ => mf211
  | 212, _ => mf212
  | 213, _ => mf213
  | 214, _ => mf214
  | 215, _ => mf215
  | 216, _ => mf216
  | 217, _ => mf217
  | 218, _ => mf218
  | 219, _ => mf219
  | 220, _ => mf220
  | 221, _ => mf221
  | 222, _ => mf222
  | 223, _ => mf223
  | 224, _ => mf224
  | 225, _ => mf225
  | 226, _ => mf226
  | 227, _ => mf227
  | 228, _ => mf228
  | 229, _ => mf229
  | 230, _ => mf230
  | 231, _ => mf231
  | 232, _ => mf232
  | 233, _ => mf233
  | 234, _ => mf234
  | 235, _ => mf235
  | 236, _ => mf236
  | 237, _ => mf237
  | 238, _ => mf238
  | 239, _ => mf239
  | 240, _ => mf240
  | 241, _ => mf241
  | 242, _ => mf242
  | 243, _ => mf243
  | 244, _ => mf244
  | 245, _ => mf245
  | 246, _ => mf246
  | 247, _ => mf247
  | 248, _ => mf248
  | 249, _ => mf249
  | 250, _ => mf250
  | 251, _ => mf251
  | 252, _ => mf252
  | 253, _ => mf253
  | 254, _ => mf254
  | 255, _ => mf255
  | 256, _ => mf256
  | 257, _ => mf257
  | 258, _ => mf258
  | 259, _ => mf259
  | 260, _ => mf260
  | 261, _ => mf261
  | 262, _ => mf262
  | 263, _ => mf263
  | 264, _ => mf264
  | 265, _ => mf265
  | 266, _ => mf266
  | 267, _ => mf267
  | 268, _ => mf268
  | 269, _ => mf269
  | 270, _ => mf270
  | 271, _ => mf271
  | 272, _ => mf272
  | 273, _ => mf273
  | 274, _ => mf274
  | 275, _ => mf275
  | 276, _ => mf276
  | 277, _ => mf277
  | 278, _ => mf278
  | 279, _ => mf279
  | 280, _ => mf280
  | 281, _ => mf281
  | 282, _ => mf282
  | 283, _ => mf283
  | 284, _ => mf284
  | 285, _ => mf285
  | 286, _ => mf286
  | 287, _ => mf287
  | 288, _ => mf288
  | 289, _ => mf289
  | 290, _ => mf290
  | 291, _ => mf291
  | 292, _ => mf292
  | 293, _ => mf293
  | 294, _ => mf294
  | 295, _ => mf295
  | 296, _ => mf296
  | 297, _ => mf297
  | 298, _ => mf298
  | 299, _ => mf299
  | 300, _ => mf300
  | 301, _ => mf301
  | 302, _ => mf302
  | 303, _ => mf303
  | 304, _ => mf304
  | 305, _ => mf305
  | 306, _ => mf306
  | 307, _ => mf307
  | 308, _ => mf308
  | 309, _ => mf309
  | 310, _ => mf310
  | 311, _ => mf311
  | 312, _ => mf312
  | 313, _ => mf313
  | 314, _ => mf314
  | 315, _ => mf315
  | 316, _ => mf316
  | 317, _ => mf317
  | 318, _ => mf318
  | 319, _ => mf319
  | 320, _ => mf320
  | 321, _ => mf321
  | 322, _ => mf322
  | 323, _ => mf323
  | 324, _ => mf324
  | 325, _ => mf325
  | 326, _ => mf326
  | 327, _ => mf327
  | 328, _ => mf328
  | 329, _ => mf329
  | 330, _ => mf330
  | 331, _ => mf331
  | y + 332, h => absurd h (by omega)
