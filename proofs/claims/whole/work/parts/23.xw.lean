/-! ===== the words of an exception that is made ===== -/
def OKW (w : Cond) : Prop := (w ∈ lw_tbl ∧ goodWord w = true) ∨ (∃ y, w = .declares y ∧ w ∈ lw_tbl) ∨ (∃ c, (13 ≤ c ∧ c < 18) ∧ w = .castable (xN c) (xN c))
def xnm : List String := ["java/lang/RuntimeException", "java/lang/Exception"]
theorem xwT : ∀ w ∈ Bundle.throwableAtoms, vx_no w = true → OKW w :=
  List.forall_mem_cons.mpr ⟨(fun _ => Or.inl ⟨(tb1 (List.mem_of_getElem? (i := 20) rfl)), rfl⟩),
  List.forall_mem_cons.mpr ⟨(fun _ => Or.inl ⟨(tb4 (List.mem_of_getElem? (i := 59) rfl)), rfl⟩),
  List.forall_mem_cons.mpr ⟨(fun _ => Or.inl ⟨(tb4 (List.mem_of_getElem? (i := 68) rfl)), rfl⟩),
  List.forall_mem_cons.mpr ⟨(fun _ => Or.inl ⟨(tb4 (List.mem_of_getElem? (i := 74) rfl)), rfl⟩),
  List.forall_mem_cons.mpr ⟨(fun _ => Or.inl ⟨(tb4 (List.mem_of_getElem? (i := 77) rfl)), rfl⟩),
  List.forall_mem_cons.mpr ⟨(fun _ => Or.inl ⟨(tb4 (List.mem_of_getElem? (i := 79) rfl)), rfl⟩),
  List.forall_mem_cons.mpr ⟨(fun _ => Or.inl ⟨(tb4 (List.mem_of_getElem? (i := 60) rfl)), rfl⟩),
  List.forall_mem_cons.mpr ⟨(fun _ => Or.inl ⟨(tb4 (List.mem_of_getElem? (i := 61) rfl)), rfl⟩),
  List.forall_mem_cons.mpr ⟨(fun _ => Or.inl ⟨(tb1 (List.mem_of_getElem? (i := 36) rfl)), rfl⟩),
  List.forall_mem_cons.mpr ⟨(fun _ => Or.inl ⟨(tb1 (List.mem_of_getElem? (i := 37) rfl)), rfl⟩),
  List.forall_mem_cons.mpr ⟨(fun _ => Or.inl ⟨(tb4 (List.mem_of_getElem? (i := 62) rfl)), rfl⟩),
  List.forall_mem_cons.mpr ⟨(fun _ => Or.inl ⟨(tb4 (List.mem_of_getElem? (i := 67) rfl)), rfl⟩),
  List.forall_mem_cons.mpr ⟨(fun _ => Or.inl ⟨(tb4 (List.mem_of_getElem? (i := 75) rfl)), rfl⟩),
  List.forall_mem_cons.mpr ⟨(fun _ => Or.inl ⟨(tb4 (List.mem_of_getElem? (i := 95) rfl)), rfl⟩),
  List.forall_mem_cons.mpr ⟨(fun _ => Or.inl ⟨(tb4 (List.mem_of_getElem? (i := 49) rfl)), rfl⟩),
  List.forall_mem_cons.mpr ⟨(fun _ => Or.inl ⟨(tb4 (List.mem_of_getElem? (i := 96) rfl)), rfl⟩),
  List.forall_mem_cons.mpr ⟨(fun _ => Or.inl ⟨(tb4 (List.mem_of_getElem? (i := 51) rfl)), rfl⟩),
  List.forall_mem_cons.mpr ⟨(fun _ => Or.inl ⟨(tb4 (List.mem_of_getElem? (i := 97) rfl)), rfl⟩),
  List.forall_mem_cons.mpr ⟨(fun _ => Or.inl ⟨(tb4 (List.mem_of_getElem? (i := 53) rfl)), rfl⟩),
  List.forall_mem_cons.mpr ⟨(fun _ => Or.inl ⟨(tb4 (List.mem_of_getElem? (i := 63) rfl)), rfl⟩),
  List.forall_mem_cons.mpr ⟨(fun h => absurd h (by decide +kernel)),
  List.forall_mem_cons.mpr ⟨(fun _ => Or.inl ⟨(tb4 (List.mem_of_getElem? (i := 65) rfl)), rfl⟩),
  List.forall_mem_cons.mpr ⟨(fun h => absurd h (by decide +kernel)),
  List.forall_mem_cons.mpr ⟨(fun _ => Or.inl ⟨(tb4 (List.mem_of_getElem? (i := 55) rfl)), rfl⟩),
  fun _ h => absurd h List.not_mem_nil⟩⟩⟩⟩⟩⟩⟩⟩⟩⟩⟩⟩⟩⟩⟩⟩⟩⟩⟩⟩⟩⟩⟩⟩
theorem xwS : ∀ w ∈ Bundle.throwableSAtoms, vx_no w = true → OKW w :=
  List.forall_mem_cons.mpr ⟨(fun _ => Or.inl ⟨(tb4 (List.mem_of_getElem? (i := 91) rfl)), rfl⟩),
  List.forall_mem_cons.mpr ⟨(fun _ => Or.inl ⟨(tb4 (List.mem_of_getElem? (i := 92) rfl)), rfl⟩),
  List.forall_mem_cons.mpr ⟨(fun _ => Or.inl ⟨(tb4 (List.mem_of_getElem? (i := 94) rfl)), rfl⟩),
  List.forall_mem_cons.mpr ⟨(fun _ => Or.inl ⟨(tb4 (List.mem_of_getElem? (i := 55) rfl)), rfl⟩),
  fun _ h => absurd h List.not_mem_nil⟩⟩⟩⟩
theorem xwR : ∀ w ∈ Bundle.chainSAtoms "java/lang/RuntimeException" ["java/lang/Exception"], vx_no w = true → OKW w :=
  List.forall_mem_cons.mpr ⟨(fun _ => Or.inl ⟨(tb4 (List.mem_of_getElem? (i := 85) rfl)), rfl⟩),
  List.forall_mem_cons.mpr ⟨(fun _ => Or.inl ⟨(tb4 (List.mem_of_getElem? (i := 86) rfl)), rfl⟩),
  List.forall_mem_cons.mpr ⟨(fun _ => Or.inl ⟨(tb4 (List.mem_of_getElem? (i := 87) rfl)), rfl⟩),
  List.forall_mem_cons.mpr ⟨(fun _ => Or.inl ⟨(tb4 (List.mem_of_getElem? (i := 88) rfl)), rfl⟩),
  List.forall_mem_cons.mpr ⟨(fun _ => Or.inr (Or.inl ⟨_, rfl, (tb4 (List.mem_of_getElem? (i := 43) rfl))⟩)),
  List.forall_mem_cons.mpr ⟨(fun _ => Or.inl ⟨(tb4 (List.mem_of_getElem? (i := 88) rfl)), rfl⟩),
  List.forall_mem_cons.mpr ⟨(fun _ => Or.inl ⟨(tb4 (List.mem_of_getElem? (i := 89) rfl)), rfl⟩),
  List.forall_mem_cons.mpr ⟨(fun _ => Or.inl ⟨(tb4 (List.mem_of_getElem? (i := 90) rfl)), rfl⟩),
  List.forall_mem_cons.mpr ⟨(fun _ => Or.inl ⟨(tb4 (List.mem_of_getElem? (i := 91) rfl)), rfl⟩),
  List.forall_mem_cons.mpr ⟨(fun _ => Or.inr (Or.inl ⟨_, rfl, (tb4 (List.mem_of_getElem? (i := 45) rfl))⟩)),
  fun _ h => absurd h List.not_mem_nil⟩⟩⟩⟩⟩⟩⟩⟩⟩⟩
def xrx13 : ByteArray := prog_19_method_2_code
theorem xwC13 : ∀ w ∈ xe_chain (xN 13) 7 xrx13 xnm, vx_no w = true → OKW w := fun w hw => (List.mem_append.mp hw).elim ((
  List.forall_mem_cons.mpr ⟨(fun _ => Or.inl ⟨(tb4 (List.mem_of_getElem? (i := 82) rfl)), rfl⟩),
  List.forall_mem_cons.mpr ⟨(fun _ => Or.inl ⟨(tb4 (List.mem_of_getElem? (i := 83) rfl)), rfl⟩),
  List.forall_mem_cons.mpr ⟨(fun _ => Or.inl ⟨(tb4 (List.mem_of_getElem? (i := 84) rfl)), rfl⟩),
  List.forall_mem_cons.mpr ⟨(fun _ => Or.inl ⟨(tb4 (List.mem_of_getElem? (i := 85) rfl)), rfl⟩),
  List.forall_mem_cons.mpr ⟨(fun _ => Or.inr (Or.inl ⟨_, rfl, (tb4 (List.mem_of_getElem? (i := 41) rfl))⟩)),
  fun _ h => absurd h List.not_mem_nil⟩⟩⟩⟩⟩ : ∀ w ∈ Bundle.passSAtoms (xN 13) "java/lang/RuntimeException" 7 xrx13, vx_no w = true → OKW w) w) (xwR w)
theorem xw13 {own : String} {ic : Nat} (hm : Cond.methodLink own ic (Bundle.initS (xN 13)) ∈ lw_tbl) : ∀ w ∈ xe_own own ic (xN 13) 7 xrx13 xnm, vx_no w = true → OKW w := by
  intro w hw
  rcases List.mem_append.mp hw with hw | hw
  · rcases List.mem_append.mp hw with hw | hw
    · rcases List.mem_append.mp hw with hw | hw
      · exact xwT w hw
      · exact xwS w hw
    · exact xwC13 w hw
  · exact (List.forall_mem_cons.mpr ⟨(fun _ => Or.inl ⟨hm, rfl⟩),
  List.forall_mem_cons.mpr ⟨(fun _ => Or.inl ⟨(tb4 (List.mem_of_getElem? (i := 38) rfl)), rfl⟩),
  List.forall_mem_cons.mpr ⟨(fun _ => Or.inr (Or.inr ⟨13, ⟨by decide, by decide⟩, rfl⟩)),
  List.forall_mem_cons.mpr ⟨(fun _ => Or.inl ⟨(tb4 (List.mem_of_getElem? (i := 46) rfl)), rfl⟩),
  List.forall_mem_cons.mpr ⟨(fun _ => Or.inl ⟨(tb4 (List.mem_of_getElem? (i := 47) rfl)), rfl⟩),
  List.forall_mem_cons.mpr ⟨(fun _ => Or.inl ⟨(tb4 (List.mem_of_getElem? (i := 48) rfl)), rfl⟩),
  List.forall_mem_cons.mpr ⟨(fun _ => Or.inl ⟨(tb4 (List.mem_of_getElem? (i := 50) rfl)), rfl⟩),
  List.forall_mem_cons.mpr ⟨(fun _ => Or.inl ⟨(tb4 (List.mem_of_getElem? (i := 52) rfl)), rfl⟩),
  List.forall_mem_cons.mpr ⟨(fun _ => Or.inl ⟨(tb4 (List.mem_of_getElem? (i := 54) rfl)), rfl⟩),
  List.forall_mem_cons.mpr ⟨(fun h => absurd h (by decide +kernel)),
  List.forall_mem_cons.mpr ⟨(fun h => absurd h (by decide +kernel)),
  List.forall_mem_cons.mpr ⟨(fun _ => Or.inl ⟨(tb4 (List.mem_of_getElem? (i := 58) rfl)), rfl⟩),
  List.forall_mem_cons.mpr ⟨(fun _ => Or.inl ⟨(tb4 (List.mem_of_getElem? (i := 57) rfl)), rfl⟩),
  List.forall_mem_cons.mpr ⟨(fun _ => Or.inl ⟨(tb4 (List.mem_of_getElem? (i := 56) rfl)), rfl⟩),
  fun _ h => absurd h List.not_mem_nil⟩⟩⟩⟩⟩⟩⟩⟩⟩⟩⟩⟩⟩⟩ : ∀ w ∈ xe_tail own ic (xN 13), vx_no w = true → OKW w) w hw
theorem xd13 : decode xrx13 0 = .ok (.aload_n 0, 1) ∧ decode xrx13 1 = .ok (.aload_n 1, 1) ∧ decode xrx13 2 = .ok (.invokespecial 7, 3) ∧ decode xrx13 5 = .ok (.return_, 1) := by decide +kernel
def xrx14 : ByteArray := prog_20_method_2_code
theorem xwC14 : ∀ w ∈ xe_chain (xN 14) 7 xrx14 xnm, vx_no w = true → OKW w := fun w hw => (List.mem_append.mp hw).elim ((
  List.forall_mem_cons.mpr ⟨(fun _ => Or.inl ⟨(tb5 (List.mem_of_getElem? (i := 75) rfl)), rfl⟩),
  List.forall_mem_cons.mpr ⟨(fun _ => Or.inl ⟨(tb5 (List.mem_of_getElem? (i := 76) rfl)), rfl⟩),
  List.forall_mem_cons.mpr ⟨(fun _ => Or.inl ⟨(tb5 (List.mem_of_getElem? (i := 77) rfl)), rfl⟩),
  List.forall_mem_cons.mpr ⟨(fun _ => Or.inl ⟨(tb4 (List.mem_of_getElem? (i := 85) rfl)), rfl⟩),
  List.forall_mem_cons.mpr ⟨(fun _ => Or.inr (Or.inl ⟨_, rfl, (tb4 (List.mem_of_getElem? (i := 41) rfl))⟩)),
  fun _ h => absurd h List.not_mem_nil⟩⟩⟩⟩⟩ : ∀ w ∈ Bundle.passSAtoms (xN 14) "java/lang/RuntimeException" 7 xrx14, vx_no w = true → OKW w) w) (xwR w)
theorem xw14 {own : String} {ic : Nat} (hm : Cond.methodLink own ic (Bundle.initS (xN 14)) ∈ lw_tbl) : ∀ w ∈ xe_own own ic (xN 14) 7 xrx14 xnm, vx_no w = true → OKW w := by
  intro w hw
  rcases List.mem_append.mp hw with hw | hw
  · rcases List.mem_append.mp hw with hw | hw
    · rcases List.mem_append.mp hw with hw | hw
      · exact xwT w hw
      · exact xwS w hw
    · exact xwC14 w hw
  · exact (List.forall_mem_cons.mpr ⟨(fun _ => Or.inl ⟨hm, rfl⟩),
  List.forall_mem_cons.mpr ⟨(fun _ => Or.inl ⟨(tb5 (List.mem_of_getElem? (i := 65) rfl)), rfl⟩),
  List.forall_mem_cons.mpr ⟨(fun _ => Or.inr (Or.inr ⟨14, ⟨by decide, by decide⟩, rfl⟩)),
  List.forall_mem_cons.mpr ⟨(fun _ => Or.inl ⟨(tb5 (List.mem_of_getElem? (i := 67) rfl)), rfl⟩),
  List.forall_mem_cons.mpr ⟨(fun _ => Or.inl ⟨(tb4 (List.mem_of_getElem? (i := 70) rfl)), rfl⟩),
  List.forall_mem_cons.mpr ⟨(fun _ => Or.inl ⟨(tb5 (List.mem_of_getElem? (i := 68) rfl)), rfl⟩),
  List.forall_mem_cons.mpr ⟨(fun _ => Or.inl ⟨(tb5 (List.mem_of_getElem? (i := 69) rfl)), rfl⟩),
  List.forall_mem_cons.mpr ⟨(fun _ => Or.inl ⟨(tb5 (List.mem_of_getElem? (i := 70) rfl)), rfl⟩),
  List.forall_mem_cons.mpr ⟨(fun _ => Or.inl ⟨(tb5 (List.mem_of_getElem? (i := 71) rfl)), rfl⟩),
  List.forall_mem_cons.mpr ⟨(fun h => absurd h (by decide +kernel)),
  List.forall_mem_cons.mpr ⟨(fun h => absurd h (by decide +kernel)),
  List.forall_mem_cons.mpr ⟨(fun _ => Or.inl ⟨(tb4 (List.mem_of_getElem? (i := 58) rfl)), rfl⟩),
  List.forall_mem_cons.mpr ⟨(fun _ => Or.inl ⟨(tb4 (List.mem_of_getElem? (i := 57) rfl)), rfl⟩),
  List.forall_mem_cons.mpr ⟨(fun _ => Or.inl ⟨(tb5 (List.mem_of_getElem? (i := 72) rfl)), rfl⟩),
  fun _ h => absurd h List.not_mem_nil⟩⟩⟩⟩⟩⟩⟩⟩⟩⟩⟩⟩⟩⟩ : ∀ w ∈ xe_tail own ic (xN 14), vx_no w = true → OKW w) w hw
theorem xd14 : decode xrx14 0 = .ok (.aload_n 0, 1) ∧ decode xrx14 1 = .ok (.aload_n 1, 1) ∧ decode xrx14 2 = .ok (.invokespecial 7, 3) ∧ decode xrx14 5 = .ok (.return_, 1) := by decide +kernel
def xrx15 : ByteArray := prog_21_method_2_code
theorem xwC15 : ∀ w ∈ xe_chain (xN 15) 7 xrx15 xnm, vx_no w = true → OKW w := fun w hw => (List.mem_append.mp hw).elim ((
  List.forall_mem_cons.mpr ⟨(fun _ => Or.inl ⟨(tb4 (List.mem_of_getElem? (i := 220) rfl)), rfl⟩),
  List.forall_mem_cons.mpr ⟨(fun _ => Or.inl ⟨(tb4 (List.mem_of_getElem? (i := 221) rfl)), rfl⟩),
  List.forall_mem_cons.mpr ⟨(fun _ => Or.inl ⟨(tb4 (List.mem_of_getElem? (i := 222) rfl)), rfl⟩),
  List.forall_mem_cons.mpr ⟨(fun _ => Or.inl ⟨(tb4 (List.mem_of_getElem? (i := 85) rfl)), rfl⟩),
  List.forall_mem_cons.mpr ⟨(fun _ => Or.inr (Or.inl ⟨_, rfl, (tb4 (List.mem_of_getElem? (i := 41) rfl))⟩)),
  fun _ h => absurd h List.not_mem_nil⟩⟩⟩⟩⟩ : ∀ w ∈ Bundle.passSAtoms (xN 15) "java/lang/RuntimeException" 7 xrx15, vx_no w = true → OKW w) w) (xwR w)
theorem xw15 {own : String} {ic : Nat} (hm : Cond.methodLink own ic (Bundle.initS (xN 15)) ∈ lw_tbl) : ∀ w ∈ xe_own own ic (xN 15) 7 xrx15 xnm, vx_no w = true → OKW w := by
  intro w hw
  rcases List.mem_append.mp hw with hw | hw
  · rcases List.mem_append.mp hw with hw | hw
    · rcases List.mem_append.mp hw with hw | hw
      · exact xwT w hw
      · exact xwS w hw
    · exact xwC15 w hw
  · exact (List.forall_mem_cons.mpr ⟨(fun _ => Or.inl ⟨hm, rfl⟩),
  List.forall_mem_cons.mpr ⟨(fun _ => Or.inl ⟨(tb4 (List.mem_of_getElem? (i := 210) rfl)), rfl⟩),
  List.forall_mem_cons.mpr ⟨(fun _ => Or.inr (Or.inr ⟨15, ⟨by decide, by decide⟩, rfl⟩)),
  List.forall_mem_cons.mpr ⟨(fun _ => Or.inl ⟨(tb4 (List.mem_of_getElem? (i := 212) rfl)), rfl⟩),
  List.forall_mem_cons.mpr ⟨(fun _ => Or.inl ⟨(tb4 (List.mem_of_getElem? (i := 71) rfl)), rfl⟩),
  List.forall_mem_cons.mpr ⟨(fun _ => Or.inl ⟨(tb4 (List.mem_of_getElem? (i := 213) rfl)), rfl⟩),
  List.forall_mem_cons.mpr ⟨(fun _ => Or.inl ⟨(tb4 (List.mem_of_getElem? (i := 214) rfl)), rfl⟩),
  List.forall_mem_cons.mpr ⟨(fun _ => Or.inl ⟨(tb4 (List.mem_of_getElem? (i := 215) rfl)), rfl⟩),
  List.forall_mem_cons.mpr ⟨(fun _ => Or.inl ⟨(tb4 (List.mem_of_getElem? (i := 216) rfl)), rfl⟩),
  List.forall_mem_cons.mpr ⟨(fun h => absurd h (by decide +kernel)),
  List.forall_mem_cons.mpr ⟨(fun h => absurd h (by decide +kernel)),
  List.forall_mem_cons.mpr ⟨(fun _ => Or.inl ⟨(tb4 (List.mem_of_getElem? (i := 58) rfl)), rfl⟩),
  List.forall_mem_cons.mpr ⟨(fun _ => Or.inl ⟨(tb4 (List.mem_of_getElem? (i := 57) rfl)), rfl⟩),
  List.forall_mem_cons.mpr ⟨(fun _ => Or.inl ⟨(tb4 (List.mem_of_getElem? (i := 217) rfl)), rfl⟩),
  fun _ h => absurd h List.not_mem_nil⟩⟩⟩⟩⟩⟩⟩⟩⟩⟩⟩⟩⟩⟩ : ∀ w ∈ xe_tail own ic (xN 15), vx_no w = true → OKW w) w hw
theorem xd15 : decode xrx15 0 = .ok (.aload_n 0, 1) ∧ decode xrx15 1 = .ok (.aload_n 1, 1) ∧ decode xrx15 2 = .ok (.invokespecial 7, 3) ∧ decode xrx15 5 = .ok (.return_, 1) := by decide +kernel
def xrx16 : ByteArray := prog_34_method_4_code
theorem xwC16 : ∀ w ∈ xe_chain (xN 16) 13 xrx16 xnm, vx_no w = true → OKW w := fun w hw => (List.mem_append.mp hw).elim ((
  List.forall_mem_cons.mpr ⟨(fun _ => Or.inl ⟨(tb5 (List.mem_of_getElem? (i := 10) rfl)), rfl⟩),
  List.forall_mem_cons.mpr ⟨(fun _ => Or.inl ⟨(tb5 (List.mem_of_getElem? (i := 11) rfl)), rfl⟩),
  List.forall_mem_cons.mpr ⟨(fun _ => Or.inl ⟨(tb5 (List.mem_of_getElem? (i := 12) rfl)), rfl⟩),
  List.forall_mem_cons.mpr ⟨(fun _ => Or.inl ⟨(tb4 (List.mem_of_getElem? (i := 85) rfl)), rfl⟩),
  List.forall_mem_cons.mpr ⟨(fun _ => Or.inr (Or.inl ⟨_, rfl, (tb4 (List.mem_of_getElem? (i := 41) rfl))⟩)),
  fun _ h => absurd h List.not_mem_nil⟩⟩⟩⟩⟩ : ∀ w ∈ Bundle.passSAtoms (xN 16) "java/lang/RuntimeException" 13 xrx16, vx_no w = true → OKW w) w) (xwR w)
theorem xw16 {own : String} {ic : Nat} (hm : Cond.methodLink own ic (Bundle.initS (xN 16)) ∈ lw_tbl) : ∀ w ∈ xe_own own ic (xN 16) 13 xrx16 xnm, vx_no w = true → OKW w := by
  intro w hw
  rcases List.mem_append.mp hw with hw | hw
  · rcases List.mem_append.mp hw with hw | hw
    · rcases List.mem_append.mp hw with hw | hw
      · exact xwT w hw
      · exact xwS w hw
    · exact xwC16 w hw
  · exact (List.forall_mem_cons.mpr ⟨(fun _ => Or.inl ⟨hm, rfl⟩),
  List.forall_mem_cons.mpr ⟨(fun _ => Or.inl ⟨(tb5 (List.mem_of_getElem? (i := 0) rfl)), rfl⟩),
  List.forall_mem_cons.mpr ⟨(fun _ => Or.inr (Or.inr ⟨16, ⟨by decide, by decide⟩, rfl⟩)),
  List.forall_mem_cons.mpr ⟨(fun _ => Or.inl ⟨(tb5 (List.mem_of_getElem? (i := 2) rfl)), rfl⟩),
  List.forall_mem_cons.mpr ⟨(fun _ => Or.inl ⟨(tb4 (List.mem_of_getElem? (i := 73) rfl)), rfl⟩),
  List.forall_mem_cons.mpr ⟨(fun _ => Or.inl ⟨(tb5 (List.mem_of_getElem? (i := 3) rfl)), rfl⟩),
  List.forall_mem_cons.mpr ⟨(fun _ => Or.inl ⟨(tb5 (List.mem_of_getElem? (i := 4) rfl)), rfl⟩),
  List.forall_mem_cons.mpr ⟨(fun _ => Or.inl ⟨(tb5 (List.mem_of_getElem? (i := 5) rfl)), rfl⟩),
  List.forall_mem_cons.mpr ⟨(fun _ => Or.inl ⟨(tb5 (List.mem_of_getElem? (i := 6) rfl)), rfl⟩),
  List.forall_mem_cons.mpr ⟨(fun h => absurd h (by decide +kernel)),
  List.forall_mem_cons.mpr ⟨(fun h => absurd h (by decide +kernel)),
  List.forall_mem_cons.mpr ⟨(fun _ => Or.inl ⟨(tb4 (List.mem_of_getElem? (i := 58) rfl)), rfl⟩),
  List.forall_mem_cons.mpr ⟨(fun _ => Or.inl ⟨(tb4 (List.mem_of_getElem? (i := 57) rfl)), rfl⟩),
  List.forall_mem_cons.mpr ⟨(fun _ => Or.inl ⟨(tb5 (List.mem_of_getElem? (i := 7) rfl)), rfl⟩),
  fun _ h => absurd h List.not_mem_nil⟩⟩⟩⟩⟩⟩⟩⟩⟩⟩⟩⟩⟩⟩ : ∀ w ∈ xe_tail own ic (xN 16), vx_no w = true → OKW w) w hw
theorem xd16 : decode xrx16 0 = .ok (.aload_n 0, 1) ∧ decode xrx16 1 = .ok (.aload_n 1, 1) ∧ decode xrx16 2 = .ok (.invokespecial 13, 3) ∧ decode xrx16 5 = .ok (.return_, 1) := by decide +kernel
def xrx17 : ByteArray := prog_30_method_2_code
theorem xwC17 : ∀ w ∈ xe_chain (xN 17) 7 xrx17 xnm, vx_no w = true → OKW w := fun w hw => (List.mem_append.mp hw).elim ((
  List.forall_mem_cons.mpr ⟨(fun _ => Or.inl ⟨(tb4 (List.mem_of_getElem? (i := 118) rfl)), rfl⟩),
  List.forall_mem_cons.mpr ⟨(fun _ => Or.inl ⟨(tb4 (List.mem_of_getElem? (i := 119) rfl)), rfl⟩),
  List.forall_mem_cons.mpr ⟨(fun _ => Or.inl ⟨(tb4 (List.mem_of_getElem? (i := 120) rfl)), rfl⟩),
  List.forall_mem_cons.mpr ⟨(fun _ => Or.inl ⟨(tb4 (List.mem_of_getElem? (i := 85) rfl)), rfl⟩),
  List.forall_mem_cons.mpr ⟨(fun _ => Or.inr (Or.inl ⟨_, rfl, (tb4 (List.mem_of_getElem? (i := 41) rfl))⟩)),
  fun _ h => absurd h List.not_mem_nil⟩⟩⟩⟩⟩ : ∀ w ∈ Bundle.passSAtoms (xN 17) "java/lang/RuntimeException" 7 xrx17, vx_no w = true → OKW w) w) (xwR w)
theorem xw17 {own : String} {ic : Nat} (hm : Cond.methodLink own ic (Bundle.initS (xN 17)) ∈ lw_tbl) : ∀ w ∈ xe_own own ic (xN 17) 7 xrx17 xnm, vx_no w = true → OKW w := by
  intro w hw
  rcases List.mem_append.mp hw with hw | hw
  · rcases List.mem_append.mp hw with hw | hw
    · rcases List.mem_append.mp hw with hw | hw
      · exact xwT w hw
      · exact xwS w hw
    · exact xwC17 w hw
  · exact (List.forall_mem_cons.mpr ⟨(fun _ => Or.inl ⟨hm, rfl⟩),
  List.forall_mem_cons.mpr ⟨(fun _ => Or.inl ⟨(tb4 (List.mem_of_getElem? (i := 108) rfl)), rfl⟩),
  List.forall_mem_cons.mpr ⟨(fun _ => Or.inr (Or.inr ⟨17, ⟨by decide, by decide⟩, rfl⟩)),
  List.forall_mem_cons.mpr ⟨(fun _ => Or.inl ⟨(tb4 (List.mem_of_getElem? (i := 110) rfl)), rfl⟩),
  List.forall_mem_cons.mpr ⟨(fun _ => Or.inl ⟨(tb4 (List.mem_of_getElem? (i := 72) rfl)), rfl⟩),
  List.forall_mem_cons.mpr ⟨(fun _ => Or.inl ⟨(tb4 (List.mem_of_getElem? (i := 111) rfl)), rfl⟩),
  List.forall_mem_cons.mpr ⟨(fun _ => Or.inl ⟨(tb4 (List.mem_of_getElem? (i := 112) rfl)), rfl⟩),
  List.forall_mem_cons.mpr ⟨(fun _ => Or.inl ⟨(tb4 (List.mem_of_getElem? (i := 113) rfl)), rfl⟩),
  List.forall_mem_cons.mpr ⟨(fun _ => Or.inl ⟨(tb4 (List.mem_of_getElem? (i := 114) rfl)), rfl⟩),
  List.forall_mem_cons.mpr ⟨(fun h => absurd h (by decide +kernel)),
  List.forall_mem_cons.mpr ⟨(fun h => absurd h (by decide +kernel)),
  List.forall_mem_cons.mpr ⟨(fun _ => Or.inl ⟨(tb4 (List.mem_of_getElem? (i := 58) rfl)), rfl⟩),
  List.forall_mem_cons.mpr ⟨(fun _ => Or.inl ⟨(tb4 (List.mem_of_getElem? (i := 57) rfl)), rfl⟩),
  List.forall_mem_cons.mpr ⟨(fun _ => Or.inl ⟨(tb4 (List.mem_of_getElem? (i := 115) rfl)), rfl⟩),
  fun _ h => absurd h List.not_mem_nil⟩⟩⟩⟩⟩⟩⟩⟩⟩⟩⟩⟩⟩⟩ : ∀ w ∈ xe_tail own ic (xN 17), vx_no w = true → OKW w) w hw
theorem xd17 : decode xrx17 0 = .ok (.aload_n 0, 1) ∧ decode xrx17 1 = .ok (.aload_n 1, 1) ∧ decode xrx17 2 = .ok (.invokespecial 7, 3) ∧ decode xrx17 5 = .ok (.return_, 1) := by decide +kernel
/-- all that is said of the five, together -/
def XF (c : Nat) : Prop := ∃ (ix : Nat) (rx : ByteArray), (∀ (own : String) (ic : Nat), Cond.methodLink own ic (Bundle.initS (xN c)) ∈ lw_tbl → ∀ w ∈ xe_own own ic (xN c) ix rx xnm, vx_no w = true → OKW w) ∧ (decode rx 0 = .ok (.aload_n 0, 1) ∧ decode rx 1 = .ok (.aload_n 1, 1) ∧ decode rx 2 = .ok (.invokespecial ix, 3) ∧ decode rx 5 = .ok (.return_, 1)) ∧ Bundle.fit (xN c) = true ∧ clA[c]? = some (xN c, TX0, 0) ∧ Cond.initialized (xN c) ∈ lw_tbl ∧ ∀ w : Cond, OKW w → vx_ot w = true
theorem okw_ot (w : Cond) (h : OKW w) : vx_ot w = true := by
  unfold vx_ot
  rcases h with ⟨-, h⟩ | ⟨y, rfl, -⟩ | ⟨c, -, rfl⟩
  · rw [h, Bool.or_true]
  · rfl
  · rfl
theorem xf13 : XF 13 := ⟨7, xrx13, fun _ _ hm => xw13 hm, xd13, by decide +kernel, rfl, wX_ini13, okw_ot⟩
theorem xf14 : XF 14 := ⟨7, xrx14, fun _ _ hm => xw14 hm, xd14, by decide +kernel, rfl, wX_ini14, okw_ot⟩
theorem xf15 : XF 15 := ⟨7, xrx15, fun _ _ hm => xw15 hm, xd15, by decide +kernel, rfl, wX_ini15, okw_ot⟩
theorem xf16 : XF 16 := ⟨13, xrx16, fun _ _ hm => xw16 hm, xd16, by decide +kernel, rfl, wX_ini16, okw_ot⟩
theorem xf17 : XF 17 := ⟨7, xrx17, fun _ _ hm => xw17 hm, xd17, by decide +kernel, rfl, wX_ini17, okw_ot⟩
theorem xfA : ∀ c, 13 ≤ c ∧ c < 18 → XF c := fun c hc => match c, hc with
  | 13, _ => xf13
  | 14, _ => xf14
  | 15, _ => xf15
  | 16, _ => xf16
  | 17, _ => xf17
  | 0, h => absurd h.1 (by decide)
  | 1, h => absurd h.1 (by decide)
  | 2, h => absurd h.1 (by decide)
  | 3, h => absurd h.1 (by decide)
  | 4, h => absurd h.1 (by decide)
  | 5, h => absurd h.1 (by decide)
  | 6, h => absurd h.1 (by decide)
  | 7, h => absurd h.1 (by decide)
  | 8, h => absurd h.1 (by decide)
  | 9, h => absurd h.1 (by decide)
  | 10, h => absurd h.1 (by decide)
  | 11, h => absurd h.1 (by decide)
  | 12, h => absurd h.1 (by decide)
  | c + 18, h => absurd h.2 (by omega)
