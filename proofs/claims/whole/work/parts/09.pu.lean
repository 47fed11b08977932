/-! ===== instructions on locals and stack ===== -/
theorem oi_ti (x : Int32) : Int32.ofInt x.toInt = x := Int32.ofInt_toInt x
theorem ol_tl (x : Int64) : Int64.ofInt x.toInt = x := Int64.ofInt_toInt x
theorem oi_add (a b : Int) : Int32.ofInt a + Int32.ofInt b = Int32.ofInt (a + b) := (Int32.ofInt_add a b).symm
theorem oi_sub (a b : Int) : Int32.ofInt a - Int32.ofInt b = Int32.ofInt (a - b) := (Int32.ofInt_sub a b).symm
theorem oi_mul (a b : Int) : Int32.ofInt a * Int32.ofInt b = Int32.ofInt (a * b) := (Int32.ofInt_mul a b).symm
theorem ol_add (a b : Int) : Int64.ofInt a + Int64.ofInt b = Int64.ofInt (a + b) := (Int64.ofInt_add a b).symm
theorem ol_sub (a b : Int) : Int64.ofInt a - Int64.ofInt b = Int64.ofInt (a - b) := (Int64.ofInt_sub a b).symm
theorem ol_mul (a b : Int) : Int64.ofInt a * Int64.ofInt b = Int64.ofInt (a * b) := (Int64.ofInt_mul a b).symm
theorem oi_div (a b : Int) : Int32.ofInt a / Int32.ofInt b = Int32.ofInt ((w32 a).tdiv (w32 b)) := by
  apply Int32.toInt_inj.mp
  rw [Int32.toInt_div]
  exact Int32.toInt_ofInt.symm
theorem oi_mod (a b : Int) : Int32.ofInt a % Int32.ofInt b = Int32.ofInt ((w32 a).tmod (w32 b)) := by
  rw [← oi_ti (Int32.ofInt a % Int32.ofInt b), Int32.toInt_mod]
  rfl
theorem ol_div (a b : Int) : Int64.ofInt a / Int64.ofInt b = Int64.ofInt ((w64 a).tdiv (w64 b)) := by
  apply Int64.toInt_inj.mp
  rw [Int64.toInt_div]
  exact Int64.toInt_ofInt.symm
theorem oi_zero {b : Int} (h : ¬ w32 b = 0) : ¬ Int32.ofInt b = 0 := fun e => h (by unfold w32; rw [e]; rfl)
theorem ol_zero {b : Int} (h : ¬ w64 b = 0) : ¬ Int64.ofInt b = 0 := fun e => h (by unfold w64; rw [e]; rfl)
theorem oi_b {n : Int} (h : -128 ≤ n ∧ n < 128) : (Int8.ofInt n).toInt32 = Int32.ofInt n := by
  apply Int32.toInt_inj.mp
  rw [Int8.toInt_toInt32, Int8.toInt_ofInt_of_le (by omega) (by omega), Int32.toInt_ofInt_of_le (by omega) (by omega)]
theorem oi_s {n : Int} (h : -32768 ≤ n ∧ n < 32768) : (Int16.ofInt n).toInt32 = Int32.ofInt n := by
  apply Int32.toInt_inj.mp
  rw [Int16.toInt_toInt32, Int16.toInt_ofInt_of_le (by omega) (by omega), Int32.toInt_ofInt_of_le (by omega) (by omega)]
theorem oi_l2i (a : Int) : (Int64.ofInt a).toInt32 = Int32.ofInt a := by
  simp
theorem oi_i2l (a : Int) : (Int32.ofInt a).toInt64 = Int64.ofInt (w32 a) := by
  apply Int64.toInt_inj.mp
  have h1 := Int32.le_toInt (Int32.ofInt a)
  have h2 := Int32.toInt_lt (Int32.ofInt a)
  rw [Int32.toInt_toInt64, Int64.toInt_ofInt_of_le (by unfold w32; omega) (by unfold w32; omega)]
  rfl
theorem ol_lconst (n : Fin 2) : Int64.ofNat (n : Nat) = Int64.ofInt ((n.val : Nat) : Int) := by
  rw [Int64.ofInt_eq_ofNat]
section PU
variable {p : Program} {l : Launch} {e : Env} {R : Room} {s : State} {mid : MethodId} {args : Array Value} {below : List Frame} {meth : Method} {c : Code} {H : Heap} {locs : List Loc} {cells slots : Nat} {Q : State → Prop} {cc : ByteArray} {pc : Nat} {lsr : Array Slot} {ls st : List AV} {sz : Nat} {X : Nat → Value}
theorem S_ldI {k : Nat} {ls' st' : List AV} {len : Nat} (hl : LR sz X lsr ls) (hp : ldI k ls st = some (ls', st')) (row : ∀ x : Int32, lsr[k]? = some (.val (.int x)) → W p l e R s mid args below meth c H locs cells slots Q (F0 mid (pc + len) lsr (.int x :: st.map (cv sz X))) → W p l e R s mid args below meth c H locs cells slots Q (F0 mid pc lsr (st.map (cv sz X))))
    (kk : ∀ lsr', LR sz X lsr' ls' → W p l e R s mid args below meth c H locs cells slots Q (F0 mid (pc + len) lsr' (st'.map (cv sz X)))) : W p l e R s mid args below meth c H locs cells slots Q (F0 mid pc lsr (st.map (cv sz X))) := by
  unfold ldI at hp
  split at hp
  · rename_i z hz
    cases hp
    exact row _ (hl.2.2 k _ hz (fun h => by cases h)) (kk lsr hl)
  · cases hp
theorem S_ldJ {k : Nat} {ls' st' : List AV} {len : Nat} (hl : LR sz X lsr ls) (hp : ldJ k ls st = some (ls', st')) (row : ∀ x : Int64, lsr[k]? = some (.val (.long x)) → W p l e R s mid args below meth c H locs cells slots Q (F0 mid (pc + len) lsr (.long x :: st.map (cv sz X))) → W p l e R s mid args below meth c H locs cells slots Q (F0 mid pc lsr (st.map (cv sz X))))
    (kk : ∀ lsr', LR sz X lsr' ls' → W p l e R s mid args below meth c H locs cells slots Q (F0 mid (pc + len) lsr' (st'.map (cv sz X)))) : W p l e R s mid args below meth c H locs cells slots Q (F0 mid pc lsr (st.map (cv sz X))) := by
  unfold ldJ at hp
  split at hp
  · rename_i z hz
    cases hp
    exact row _ (hl.2.2 k _ hz (fun h => by cases h)) (kk lsr hl)
  · cases hp
theorem S_ldR {k : Nat} {ls' st' : List AV} {len : Nat} (hl : LR sz X lsr ls) (hp : ldR k ls st = some (ls', st')) (hX : ∀ a, X a = .null ∨ ∃ q, X a = .ref q) (row : ∀ v : Value, (v = .null ∨ ∃ x, v = .ref x) → lsr[k]? = some (.val v) → W p l e R s mid args below meth c H locs cells slots Q (F0 mid (pc + len) lsr (v :: st.map (cv sz X))) → W p l e R s mid args below meth c H locs cells slots Q (F0 mid pc lsr (st.map (cv sz X))))
    (kk : ∀ lsr', LR sz X lsr' ls' → W p l e R s mid args below meth c H locs cells slots Q (F0 mid (pc + len) lsr' (st'.map (cv sz X)))) : W p l e R s mid args below meth c H locs cells slots Q (F0 mid pc lsr (st.map (cv sz X))) := by
  unfold ldR at hp
  split at hp
  · rename_i a hz
    cases hp
    refine row _ ?_ (hl.2.2 k _ hz (fun h => by cases h)) (kk lsr hl)
    show (if a < E0 then Value.ref (sz + a) else X (a - E0)) = .null ∨ ∃ x, (if a < E0 then Value.ref (sz + a) else X (a - E0)) = .ref x
    split
    · exact Or.inr ⟨_, rfl⟩
    · exact hX _
  · cases hp
theorem S_stI {k : Nat} {ls' st' : List AV} {len : Nat} (hX : ∀ a, (X a).category = 1) (hl : LR sz X lsr ls) (hp : stI k ls st = some (ls', st'))
    (row : ∀ (x : Int32) (r : List Value), k < ls.length → (∀ lsr' : Array Slot, lv_has lsr' ls.length ((k, Value.int x) :: (prs sz X ls).filter (fun q => !(q.1 == k) && !(q.1 + 1 == k && q.2.category == 2))) → W p l e R s mid args below meth c H locs cells slots Q (F0 mid (pc + len) lsr' r)) → W p l e R s mid args below meth c H locs cells slots Q (F0 mid pc lsr (.int x :: r)))
    (kk : ∀ lsr', LR sz X lsr' ls' → W p l e R s mid args below meth c H locs cells slots Q (F0 mid (pc + len) lsr' (st'.map (cv sz X)))) : W p l e R s mid args below meth c H locs cells slots Q (F0 mid pc lsr (st.map (cv sz X))) := by
  unfold stI at hp
  split at hp
  · rename_i z r
    split at hp
    · rename_i hk
      cases hp
      exact row _ _ hk (fun lsr' h => kk lsr' (LR_st1 (v := .inl z) hX hk h))
    · cases hp
  · cases hp
theorem S_stJ {k : Nat} {ls' st' : List AV} {len : Nat} (hX : ∀ a, (X a).category = 1) (hl : LR sz X lsr ls) (hp : stJ k ls st = some (ls', st'))
    (row : ∀ (x : Int64) (r : List Value), k + 1 < ls.length → (∀ lsr' : Array Slot, lv_has lsr' ls.length ((k, Value.long x) :: (prs sz X ls).filter (fun q => !(q.1 == k) && (!(q.1 == k + 1) && !(q.1 + 1 == k && q.2.category == 2)))) → W p l e R s mid args below meth c H locs cells slots Q (F0 mid (pc + len) lsr' r)) → W p l e R s mid args below meth c H locs cells slots Q (F0 mid pc lsr (.long x :: r)))
    (kk : ∀ lsr', LR sz X lsr' ls' → W p l e R s mid args below meth c H locs cells slots Q (F0 mid (pc + len) lsr' (st'.map (cv sz X)))) : W p l e R s mid args below meth c H locs cells slots Q (F0 mid pc lsr (st.map (cv sz X))) := by
  unfold stJ at hp
  split at hp
  · rename_i z r
    split at hp
    · rename_i hk
      cases hp
      exact row _ _ hk (fun lsr' h => kk lsr' (LR_st2 (v := .inr (.inl z)) hX hk h))
    · cases hp
  · cases hp
theorem S_stR {k : Nat} {ls' st' : List AV} {len : Nat} (hX : ∀ a, (X a).category = 1) (hX2 : ∀ a, X a = .null ∨ ∃ q, X a = .ref q) (hl : LR sz X lsr ls) (hp : stR k ls st = some (ls', st'))
    (row : ∀ (v : Value) (r : List Value), (v = .null ∨ ∃ x, v = .ref x) → k < ls.length → (∀ lsr' : Array Slot, lv_has lsr' ls.length ((k, v) :: (prs sz X ls).filter (fun q => !(q.1 == k) && !(q.1 + 1 == k && q.2.category == 2))) → W p l e R s mid args below meth c H locs cells slots Q (F0 mid (pc + len) lsr' r)) → W p l e R s mid args below meth c H locs cells slots Q (F0 mid pc lsr (v :: r)))
    (kk : ∀ lsr', LR sz X lsr' ls' → W p l e R s mid args below meth c H locs cells slots Q (F0 mid (pc + len) lsr' (st'.map (cv sz X)))) : W p l e R s mid args below meth c H locs cells slots Q (F0 mid pc lsr (st.map (cv sz X))) := by
  unfold stR at hp
  split at hp
  · rename_i a r
    split at hp
    · rename_i hk
      cases hp
      refine row _ _ ?_ hk (fun lsr' h => kk lsr' (LR_st1 (v := .inr (.inr (.inl (some a)))) hX hk h))
      show (if a < E0 then Value.ref (sz + a) else X (a - E0)) = .null ∨ ∃ x, (if a < E0 then Value.ref (sz + a) else X (a - E0)) = .ref x
      split
      · exact Or.inr ⟨_, rfl⟩
      · exact hX2 _
    · cases hp
  · cases hp
theorem S_b2I {f : Int → Int → Int} {ls' st' : List AV} (hl : LR sz X lsr ls) (hp : b2I f ls st = some (ls', st')) (g : Int32 → Int32 → Int32) (hg : ∀ a b, g (Int32.ofInt a) (Int32.ofInt b) = Int32.ofInt (f a b))
    (row : ∀ (x y : Int32) (r : List Value), W p l e R s mid args below meth c H locs cells slots Q (F0 mid (pc + 1) lsr (.int (g x y) :: r)) → W p l e R s mid args below meth c H locs cells slots Q (F0 mid pc lsr (.int y :: .int x :: r)))
    (kk : ∀ lsr', LR sz X lsr' ls' → W p l e R s mid args below meth c H locs cells slots Q (F0 mid (pc + 1) lsr' (st'.map (cv sz X)))) : W p l e R s mid args below meth c H locs cells slots Q (F0 mid pc lsr (st.map (cv sz X))) := by
  unfold b2I at hp
  split at hp
  · rename_i b a r
    cases hp
    refine row _ _ _ ?_
    rw [hg]
    exact kk lsr hl
  · cases hp
theorem S_b2D {f : Int → Int → Int} {ls' st' : List AV} (hl : LR sz X lsr ls) (hp : b2D f ls st = some (ls', st')) (g : Int32 → Int32 → Int32) (hg : ∀ a b, g (Int32.ofInt a) (Int32.ofInt b) = Int32.ofInt (f a b))
    (row : ∀ (x y : Int32) (r : List Value), ¬ y = 0 → W p l e R s mid args below meth c H locs cells slots Q (F0 mid (pc + 1) lsr (.int (g x y) :: r)) → W p l e R s mid args below meth c H locs cells slots Q (F0 mid pc lsr (.int y :: .int x :: r)))
    (kk : ∀ lsr', LR sz X lsr' ls' → W p l e R s mid args below meth c H locs cells slots Q (F0 mid (pc + 1) lsr' (st'.map (cv sz X)))) : W p l e R s mid args below meth c H locs cells slots Q (F0 mid pc lsr (st.map (cv sz X))) := by
  unfold b2D at hp
  split at hp
  · rename_i b a r
    split at hp
    · cases hp
    · rename_i hz
      cases hp
      refine row _ _ _ (oi_zero hz) ?_
      rw [hg]
      exact kk lsr hl
  · cases hp
theorem S_b2J {f : Int → Int → Int} {ls' st' : List AV} (hl : LR sz X lsr ls) (hp : b2J f ls st = some (ls', st')) (g : Int64 → Int64 → Int64) (hg : ∀ a b, g (Int64.ofInt a) (Int64.ofInt b) = Int64.ofInt (f a b))
    (row : ∀ (x y : Int64) (r : List Value), W p l e R s mid args below meth c H locs cells slots Q (F0 mid (pc + 1) lsr (.long (g x y) :: r)) → W p l e R s mid args below meth c H locs cells slots Q (F0 mid pc lsr (.long y :: .long x :: r)))
    (kk : ∀ lsr', LR sz X lsr' ls' → W p l e R s mid args below meth c H locs cells slots Q (F0 mid (pc + 1) lsr' (st'.map (cv sz X)))) : W p l e R s mid args below meth c H locs cells slots Q (F0 mid pc lsr (st.map (cv sz X))) := by
  unfold b2J at hp
  split at hp
  · rename_i b a r
    cases hp
    refine row _ _ _ ?_
    rw [hg]
    exact kk lsr hl
  · cases hp
theorem S_b2E {f : Int → Int → Int} {ls' st' : List AV} (hl : LR sz X lsr ls) (hp : b2E f ls st = some (ls', st')) (g : Int64 → Int64 → Int64) (hg : ∀ a b, g (Int64.ofInt a) (Int64.ofInt b) = Int64.ofInt (f a b))
    (row : ∀ (x y : Int64) (r : List Value), ¬ y = 0 → W p l e R s mid args below meth c H locs cells slots Q (F0 mid (pc + 1) lsr (.long (g x y) :: r)) → W p l e R s mid args below meth c H locs cells slots Q (F0 mid pc lsr (.long y :: .long x :: r)))
    (kk : ∀ lsr', LR sz X lsr' ls' → W p l e R s mid args below meth c H locs cells slots Q (F0 mid (pc + 1) lsr' (st'.map (cv sz X)))) : W p l e R s mid args below meth c H locs cells slots Q (F0 mid pc lsr (st.map (cv sz X))) := by
  unfold b2E at hp
  split at hp
  · rename_i b a r
    split at hp
    · cases hp
    · rename_i hz
      cases hp
      refine row _ _ _ (ol_zero hz) ?_
      rw [hg]
      exact kk lsr hl
  · cases hp
theorem S_b2S {f : Int → Int → Int} {ls' st' : List AV} (hl : LR sz X lsr ls) (hp : b2S f ls st = some (ls', st')) (g : Int64 → Int32 → Int64) (hg : ∀ a b, g (Int64.ofInt a) (Int32.ofInt b) = Int64.ofInt (f a b))
    (row : ∀ (x : Int64) (y : Int32) (r : List Value), W p l e R s mid args below meth c H locs cells slots Q (F0 mid (pc + 1) lsr (.long (g x y) :: r)) → W p l e R s mid args below meth c H locs cells slots Q (F0 mid pc lsr (.int y :: .long x :: r)))
    (kk : ∀ lsr', LR sz X lsr' ls' → W p l e R s mid args below meth c H locs cells slots Q (F0 mid (pc + 1) lsr' (st'.map (cv sz X)))) : W p l e R s mid args below meth c H locs cells slots Q (F0 mid pc lsr (st.map (cv sz X))) := by
  unfold b2S at hp
  split at hp
  · rename_i b a r
    cases hp
    refine row _ _ _ ?_
    rw [hg]
    exact kk lsr hl
  · cases hp
end PU
