/-! ===== instructions on locals and stack: all of them ===== -/
theorem bq {a b : Nat} (h : a.beq b = true) : a = b := Nat.eq_of_beq_eq_true h
theorem oi_rem (a b : Int) : Int32.ofInt a - Int32.ofInt a / Int32.ofInt b * Int32.ofInt b = Int32.ofInt ((w32 a).tmod (w32 b)) := by
  rw [oi_div]
  have ea : Int32.ofInt a = Int32.ofInt (w32 a) := (oi_ti _).symm
  have eb : Int32.ofInt b = Int32.ofInt (w32 b) := (oi_ti _).symm
  rw [ea, eb, oi_mul, oi_sub]
  congr 1
  have h := Int.mul_tdiv_add_tmod (w32 a) (w32 b)
  have e1 : w32 (w32 a) = w32 a := by unfold w32; rw [oi_ti]
  have e2 : w32 (w32 b) = w32 b := by unfold w32; rw [oi_ti]
  rw [Int.mul_comm ((w32 a).tdiv (w32 b))]
  omega
section PUall
variable {p : Program} {l : Launch} {e : Env} {R : Room} {s : State} {mid : MethodId} {args : Array Value} {below : List Frame} {meth : Method} {c : Code} {H : Heap} {locs : List Loc} {cells slots : Nat} {Q : State → Prop} {cc : ByteArray} {pc : Nat} {lsr : Array Slot} {ls st : List AV} {sz : Nat} {X : Nat → Value}
theorem rowR {k len : Nat} {st : List Value} (rN : lsr[k]? = some (.val .null) → W p l e R s mid args below meth c H locs cells slots Q (F0 mid (pc + len) lsr (.null :: st)) → W p l e R s mid args below meth c H locs cells slots Q (F0 mid pc lsr st)) (rR : ∀ x, lsr[k]? = some (.val (.ref x)) → W p l e R s mid args below meth c H locs cells slots Q (F0 mid (pc + len) lsr (.ref x :: st)) → W p l e R s mid args below meth c H locs cells slots Q (F0 mid pc lsr st)) :
    ∀ v : Value, (v = .null ∨ ∃ x, v = .ref x) → lsr[k]? = some (.val v) → W p l e R s mid args below meth c H locs cells slots Q (F0 mid (pc + len) lsr (v :: st)) → W p l e R s mid args below meth c H locs cells slots Q (F0 mid pc lsr st) := by
  rintro v (rfl | ⟨x, rfl⟩) h k
  · exact rN h k
  · exact rR x h k
set_option maxHeartbeats 4000000 in
theorem S_pu {i : Instr} {len : Nat} {ls' st' : List AV} (hx : p.tables.exec = Jvm.exec) (hb : c.code = cc) (hX : ∀ a, X a = .null ∨ ∃ q, X a = .ref q) (hd : decode cc pc = .ok (i, len)) (hn : lnO i len = true) (hp : pu i ls st = some (ls', st')) (hl : LR sz X lsr ls)
    (kk : ∀ lsr', LR sz X lsr' ls' → W p l e R s mid args below meth c H locs cells slots Q (F0 mid (pc + len) lsr' (st'.map (cv sz X)))) : W p l e R s mid args below meth c H locs cells slots Q (F0 mid pc lsr (st.map (cv sz X))) := by
  have hX1 : ∀ a, (X a).category = 1 := fun a => by rcases hX a with h | ⟨q, h⟩ <;> rw [h] <;> rfl
  cases i
  case iconst n => obtain rfl := bq hn; cases hp; exact lv_iconst hx hb hd rfl (kk lsr hl)
  case bipush n => obtain rfl := bq hn; (unfold pu at hp; dsimp only at hp; split at hp); (rename_i h; cases hp; exact lv_bipush hx hb hd (oi_b h) (kk lsr hl)); cases hp
  case sipush n => obtain rfl := bq hn; (unfold pu at hp; dsimp only at hp; split at hp); (rename_i h; cases hp; exact lv_sipush hx hb hd (oi_s h) (kk lsr hl)); cases hp
  case lconst n => obtain rfl := bq hn; cases hp; exact lv_lconst hx hb hd (ol_lconst n) (kk lsr hl)
  case aconst_null => obtain rfl := bq hn; cases hp; exact lv_null hx hb hd (kk lsr hl)
  case iload_n k => obtain rfl := bq hn; exact S_ldI hl hp (fun x h w => lv_iload_n hx hb hd rfl h w) kk
  case iload k => obtain rfl := bq hn; exact S_ldI hl hp (fun x h w => lv_iload hx hb hd h w) kk
  case lload_n k => obtain rfl := bq hn; exact S_ldJ hl hp (fun x h w => lv_lload_n hx hb hd rfl h w) kk
  case lload k => obtain rfl := bq hn; exact S_ldJ hl hp (fun x h w => lv_lload hx hb hd h w) kk
  case aload_n k => obtain rfl := bq hn; exact S_ldR hl hp hX (rowR (fun h w => lv_aload_nN hx hb hd rfl h w) (fun x h w => lv_aload_n hx hb hd rfl h w)) kk
  case aload k => obtain rfl := bq hn; exact S_ldR hl hp hX (rowR (fun h w => lv_aloadN hx hb hd h w) (fun x h w => lv_aload hx hb hd h w)) kk
  case istore_n k => obtain rfl := bq hn; exact S_stI hX1 hl hp (fun x r hk w => lv_istore_n hx hb hd rfl hl.has hk rfl w) kk
  case istore k => obtain rfl := bq hn; exact S_stI hX1 hl hp (fun x r hk w => lv_istore hx hb hd hl.has hk rfl w) kk
  case lstore_n k => obtain rfl := bq hn; exact S_stJ hX1 hl hp (fun x r hk w => lv_lstore_n hx hb hd rfl hl.has hk rfl w) kk
  case lstore k => obtain rfl := bq hn; exact S_stJ hX1 hl hp (fun x r hk w => lv_lstore hx hb hd hl.has hk rfl w) kk
  case astore_n k => obtain rfl := bq hn; refine S_stR hX1 hX hl hp (fun v r hv hk w => ?_) kk; rcases hv with rfl | ⟨x, rfl⟩; (exact lv_astore_nN hx hb hd rfl hl.has hk rfl w); (exact lv_astore_n hx hb hd rfl hl.has hk rfl w)
  case astore k => obtain rfl := bq hn; refine S_stR hX1 hX hl hp (fun v r hv hk w => ?_) kk; rcases hv with rfl | ⟨x, rfl⟩; (exact lv_astoreN hx hb hd hl.has hk rfl w); (exact lv_astore hx hb hd hl.has hk rfl w)
  case iinc k n =>
    obtain rfl := bq hn
    unfold pu at hp
    dsimp only at hp
    split at hp
    · rename_i z hz
      cases hp
      have hm : (k, cv sz X (.inl z)) ∈ prs sz X ls := mem_prs.mpr ⟨_, hz, (fun h => by cases h), rfl⟩
      obtain ⟨j, hj⟩ := List.getElem?_of_mem hm
      have hk : k < ls.length := (List.getElem?_eq_some_iff.mp hz).1
      exact lv_iinc hx hb hd hl.has hj (oi_add z n) hk rfl (fun lsr' h => kk lsr' (LR_st1 (v := .inl (z + n)) hX1 hk h))
    · cases hp
  case iadd => obtain rfl := bq hn; exact S_b2I hl hp (fun x y => x + y) oi_add (fun x y r w => lv_iadd hx hb hd w) kk
  case isub => obtain rfl := bq hn; exact S_b2I hl hp (fun x y => x - y) oi_sub (fun x y r w => lv_isub hx hb hd w) kk
  case imul => obtain rfl := bq hn; exact S_b2I hl hp (fun x y => x * y) oi_mul (fun x y r w => lv_imul hx hb hd w) kk
  case iand => obtain rfl := bq hn; exact S_b2I hl hp (fun x y => x &&& y) (fun a b => (oi_ti _).symm) (fun x y r w => lv_iand hx hb hd w) kk
  case ior => obtain rfl := bq hn; exact S_b2I hl hp (fun x y => x ||| y) (fun a b => (oi_ti _).symm) (fun x y r w => lv_ior hx hb hd w) kk
  case ixor => obtain rfl := bq hn; exact S_b2I hl hp (fun x y => x ^^^ y) (fun a b => (oi_ti _).symm) (fun x y r w => lv_ixor hx hb hd w) kk
  case ishl => obtain rfl := bq hn; exact S_b2I hl hp (fun x y => x <<< (y &&& 31)) (fun a b => (oi_ti _).symm) (fun x y r w => lv_ishl hx hb hd w) kk
  case ishr => obtain rfl := bq hn; exact S_b2I hl hp (fun x y => x >>> (y &&& 31)) (fun a b => (oi_ti _).symm) (fun x y r w => lv_ishr hx hb hd w) kk
  case iushr => obtain rfl := bq hn; exact S_b2I hl hp (fun x y => (x.toUInt32 >>> (y.toUInt32 &&& Int32.toUInt32 31)).toInt32) (fun a b => (oi_ti _).symm) (fun x y r w => lv_iushr hx hb hd rfl w) kk
  case idiv => obtain rfl := bq hn; exact S_b2D hl hp (fun x y => x / y) oi_div (fun x y r hz w => lv_idiv hx hb hd hz w) kk
  case irem => obtain rfl := bq hn; exact S_b2D hl hp (fun x y => x - x / y * y) oi_rem (fun x y r hz w => lv_irem hx hb hd hz w) kk
  case ladd => obtain rfl := bq hn; exact S_b2J hl hp (fun x y => x + y) ol_add (fun x y r w => lv_ladd hx hb hd w) kk
  case lsub => obtain rfl := bq hn; exact S_b2J hl hp (fun x y => x - y) ol_sub (fun x y r w => lv_lsub hx hb hd w) kk
  case lmul => obtain rfl := bq hn; exact S_b2J hl hp (fun x y => x * y) ol_mul (fun x y r w => lv_lmul hx hb hd w) kk
  case land => obtain rfl := bq hn; exact S_b2J hl hp (fun x y => x &&& y) (fun a b => (ol_tl _).symm) (fun x y r w => lv_land hx hb hd w) kk
  case lor => obtain rfl := bq hn; exact S_b2J hl hp (fun x y => x ||| y) (fun a b => (ol_tl _).symm) (fun x y r w => lv_lor hx hb hd w) kk
  case lxor => obtain rfl := bq hn; exact S_b2J hl hp (fun x y => x ^^^ y) (fun a b => (ol_tl _).symm) (fun x y r w => lv_lxor hx hb hd w) kk
  case ldiv => obtain rfl := bq hn; exact S_b2E hl hp (fun x y => x / y) ol_div (fun x y r hz w => lv_ldiv hx hb hd hz w) kk
  case lshl => obtain rfl := bq hn; exact S_b2S hl hp (fun x y => x <<< (y.toInt64 &&& 63)) (fun a b => (ol_tl _).symm) (fun x y r w => lv_lshl hx hb hd rfl w) kk
  case lshr => obtain rfl := bq hn; exact S_b2S hl hp (fun x y => x >>> (y.toInt64 &&& 63)) (fun a b => (ol_tl _).symm) (fun x y r w => lv_lshr hx hb hd rfl w) kk
  case lushr => obtain rfl := bq hn; exact S_b2S hl hp (fun x y => (x.toUInt64 >>> (y.toInt64.toUInt64 &&& Int64.toUInt64 63)).toInt64) (fun a b => (ol_tl _).symm) (fun x y r w => lv_lushr hx hb hd rfl w) kk
  case lcmp =>
    obtain rfl := bq hn
    unfold pu at hp
    dsimp only at hp
    split at hp
    · rename_i b a r
      cases hp
      refine W.lcmp hx hb hd ?_
      have h := kk lsr hl
      rw [show List.map (cv sz X) (Sum.inl (lCmp a b) :: r) = Value.int (lg_cmp (Int64.ofInt a) (Int64.ofInt b)) :: r.map (cv sz X) from by show Value.int (Int32.ofInt (lCmp a b)) :: _ = _; unfold lCmp; rw [oi_ti]] at h
      exact h
    · cases hp
  case i2l => obtain rfl := bq hn; (unfold pu at hp; dsimp only at hp; split at hp); (cases hp; exact lv_i2l hx hb hd (oi_i2l _) (kk lsr hl)); cases hp
  case l2i => obtain rfl := bq hn; (unfold pu at hp; dsimp only at hp; split at hp); (cases hp; exact lv_l2i hx hb hd (oi_l2i _) (kk lsr hl)); cases hp
  case i2b => obtain rfl := bq hn; (unfold pu u1I at hp; dsimp only at hp; split at hp); (cases hp; exact lv_i2b hx hb hd (oi_ti _).symm (kk lsr hl)); cases hp
  case i2c => obtain rfl := bq hn; (unfold pu u1I at hp; dsimp only at hp; split at hp); (cases hp; exact lv_i2c hx hb hd (oi_ti _).symm (kk lsr hl)); cases hp
  case dup =>
    obtain rfl := bq hn
    unfold pu at hp
    dsimp only at hp
    split at hp
    · split at hp
      · rename_i hc
        cases hp
        exact lv_dup hx hb hd (by rw [cv_cat hX1]; exact hc) (kk lsr hl)
      · cases hp
    · cases hp
  case dup2 =>
    obtain rfl := bq hn
    unfold pu at hp
    dsimp only at hp
    split at hp
    · split at hp
      · rename_i hc
        cases hp
        exact lv_dup2_11 hx hb hd (by rw [cv_cat hX1]; exact hc.1) (by rw [cv_cat hX1]; exact hc.2) (kk lsr hl)
      · cases hp
    · cases hp
  case pop =>
    obtain rfl := bq hn
    unfold pu at hp
    dsimp only at hp
    split at hp
    · split at hp
      · rename_i hc
        cases hp
        exact lv_pop hx hb hd (by rw [cv_cat hX1]; exact hc) (kk lsr hl)
      · cases hp
    · cases hp
  all_goals cases hp
end PUall
