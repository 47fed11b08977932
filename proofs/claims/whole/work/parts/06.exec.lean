def hnd (m pc ci : Nat) : List (Nat × Nat × Nat × Nat) → Option (Option Nat)
  | [] => some none
  | (b, e, g, t) :: r => if b ≤ pc ∧ pc < e then (match pl (mK m) t with
    | (3, c, _, _) => if c = ci then some (some g) else hnd m pc ci r
    | _ => none) else hnd m pc ci r
abbrev RC : Type := Nat → Nat → Nat → List AV → List AV → AH → Option (AR × AH)
/-- an exception of the class ci: its handler, which stores it and forgets it, or out -/
def thr (rc : RC) (d m pc : Nat) (ls : List AV) (h : AH) (ci : Nat) : Option (AR × AH) := if 13 ≤ ci ∧ ci < 18 then (match hnd m pc ci (hT m) with
  | some (some g) => (match decode (mC m) g with
    | .ok (.astore_n k, 1) => if k.val < ls.length then rc d m (g + 1) (st1 k.val vU ls) [] h else none
    | .ok (.astore k, 2) => if k < ls.length then rc d m (g + 2) (st1 k vU ls) [] h else none
    | _ => none)
  | some none => some (.inr ci, h)
  | none => none) else none
def rcv (k : Nat) (st : List AV) (h : AH) : Bool := match st with
  | .inr (.inr (.inl (some a))) :: _ => (match gt h a with
    | .inr (.inr (c, _)) => bif decide (a < h.1) then decide (c = k ∧ k < 13) else decide (E0 ≤ a ∧ c = 50 ∧ k = 16)
    | _ => false)
  | _ => false
/-- a call: the kind of the instruction, the callee, how many are taken off -/
def calO (kd n y : Nat) (st : List AV) (h : AH) : Bool := decide (mS y = kd) && (decide (n = mA y + (bif kd.beq 0 then 0 else 1)) && (decide (n ≤ st.length) && (decide (((st.drop n).map ct).sum ≤ 8) && (decide ((lay (st.take n).reverse).length ≤ mL y) && (bif kd.beq 0 then true else (match (st.take n).reverse with
  | .inr (.inr (.inl (some a))) :: _ => (bif kd.beq 1 then rcv (mK y) (st.take n).reverse h else decide (a < E0))
  | _ => false))))))
def cal (rc : RC) (kd d m pc x : Nat) (ls st : List AV) (h : AH) : Option (AR × AH) := match pl (mK m) x with
  | (1, y, _, _) => if calO kd (mA y + (bif kd.beq 0 then 0 else 1)) y st h = true then (match d with
    | 0 => none
    | d' + 1 => match rc d' y 0 (ent y (st.take (mA y + (bif kd.beq 0 then 0 else 1))).reverse) [] h with
      | some (.inl r, h') => rc (d' + 1) m (pc + 3) ls (r.toList ++ st.drop (mA y + (bif kd.beq 0 then 0 else 1))) h'
      | some (.inr q, h') => thr rc (d' + 1) m pc ls h' q
      | none => none) else none
  | _ => none
def retB (t : Option FieldType) (z : Int) : Bool := match t with
  | some .int => true
  | some .boolean => decide (z = 0 ∨ z = 1)
  | some .byte => decide (-128 ≤ z ∧ z < 128)
  | some .char => decide (0 ≤ z ∧ z < 65536)
  | _ => false
/-- new X(text): the four instructions that make it, in one -/
def exF (m pc ci is ic ln : Nat) (st : List AV) : Option (Nat × Nat × Nat × Nat) := if (st.map ct).sum ≤ 8 then (match pl (mK m) is, pl (mK m) ic with
      | (6, _, _, _), (11, cj, _, _) => if cj = ci then some (ci, is, ic, ln) else none
      | _, _ => none) else none
def exN (m pc x : Nat) (st : List AV) : Option (Nat × Nat × Nat × Nat) := match pl (mK m) x with
  | (3, ci, _, _) => (match decode (mC m) (pc + 3), decode (mC m) (pc + 4) with
    | .ok (.dup, 1), .ok (.ldc is, 2) => (match decode (mC m) (pc + 6) with
      | .ok (.invokespecial ic, 3) => exF m pc ci is ic 9 st
      | _ => none)
    | .ok (.dup, 1), .ok (.ldc_w is, 3) => (match decode (mC m) (pc + 7) with
      | .ok (.invokespecial ic, 3) => exF m pc ci is ic 10 st
      | _ => none)
    | _, _ => none)
  | _ => none
def ctl (rc : RC) (d m pc : Nat) (i : Instr) (ls st : List AV) (h : AH) : Option (AR × AH) := match i with
  | .ireturn => (match st with
    | [.inl z] => if retB (mR m) z = true then some (.inl (some (.inl z)), h) else none
    | _ => none)
  | .lreturn => (match st with
    | [.inr (.inl z)] => if mR m = some .long then some (.inl (some (.inr (.inl z))), h) else none
    | _ => none)
  | .areturn => (match st, mR m with
    | [.inr (.inr (.inl (some a)))], some (.object _) => some (.inl (some (.inr (.inr (.inl (some a))))), h)
    | _, _ => none)
  | .return_ => (match st with
    | [] => if mR m = none then some (.inl none, h) else none
    | _ => none)
  | .athrow => (match st with
    | .inr (.inr (.inl (some q))) :: _ => (match gt h q with
      | .inr (.inr (ci, [])) => if q < h.1 then thr rc d m pc ls h ci else none
      | _ => none)
    | _ => none)
  | .new x => (match exN m pc x st with
    | some (ci, _, _, ln) => rc d m (pc + ln) ls (vR h.1 :: st) (al h 6 (.inr (.inr (ci, []))))
    | none => none)
  | .invokestatic x => cal rc 0 d m pc x ls st h
  | .invokevirtual x => cal rc 1 d m pc x ls st h
  | .invokespecial x => cal rc 2 d m pc x ls st h
  | _ => none
/-- the length that an instruction has -/
def lnO (i : Instr) (len : Nat) : Bool := match i with
  | .bipush _ => len.beq 2
  | .iload _ => len.beq 2
  | .lload _ => len.beq 2
  | .aload _ => len.beq 2
  | .istore _ => len.beq 2
  | .lstore _ => len.beq 2
  | .astore _ => len.beq 2
  | .ldc _ => len.beq 2
  | .newarray _ => len.beq 2
  | .tableswitch _ _ _ _ => true
  | .lookupswitch _ _ => true
  | .sipush _ => len.beq 3
  | .iinc _ _ => len.beq 3
  | .getfield _ => len.beq 3
  | .putfield _ => len.beq 3
  | .getstatic _ => len.beq 3
  | .goto _ => len.beq 3
  | .if_icmp _ _ => len.beq 3
  | .ifCond _ _ => len.beq 3
  | .ifnull _ => len.beq 3
  | .ifnonnull _ => len.beq 3
  | .invokestatic _ => len.beq 3
  | .invokevirtual _ => len.beq 3
  | .invokespecial _ => len.beq 3
  | .new _ => len.beq 3
  | .anewarray _ => len.beq 3
  | .ldc_w _ => len.beq 3
  | .ldc2_w _ => len.beq 3
  | _ => len.beq 1
/-- what a branch looks at is none of what the law finds -/
def nxt (st : List AV) : Bool := match st with
  | .inr (.inr (.inl (some a))) :: _ => decide (a < E0)
  | _ => true
def stp (rc : RC) (d m pc : Nat) (ls st : List AV) (h : AH) : Option (AR × AH) := match decode (mC m) pc with
  | .error _ => none
  | .ok (i, len) => if lnO i len = false then none else match pu i ls st with
    | some q => rc d m (pc + len) q.1 q.2 h
    | none => match br i pc st with
      | some q => bif nxt st then rc d m q.1 ls q.2 h else none
      | none => match hp m i st h with
        | some q => rc d m (pc + len) ls q.1 q.2
        | none => ctl rc d m pc i ls st h
def exec : Nat → RC
  | 0 => fun _ _ _ _ _ _ => none
  | n + 1 => stp (exec n)
-- more fuel, the same end
theorem thr_mono {rc rc' : RC} (hr : ∀ d m pc ls st h q, rc d m pc ls st h = some q → rc' d m pc ls st h = some q) {d m pc : Nat} {ls : List AV} {h : AH} {a : Nat} {q : AR × AH} (e : thr rc d m pc ls h a = some q) : thr rc' d m pc ls h a = some q := by
  revert e
  unfold thr
  split
  · split
    · split
      · split
        · exact hr _ _ _ _ _ _ _
        · exact id
      · split
        · exact hr _ _ _ _ _ _ _
        · exact id
      · exact id
    · exact id
    · exact id
  · exact id
theorem cal_mono {rc rc' : RC} (hr : ∀ d m pc ls st h q, rc d m pc ls st h = some q → rc' d m pc ls st h = some q) {kd d m pc x : Nat} {ls st : List AV} {h : AH} {q : AR × AH} (e : cal rc kd d m pc x ls st h = some q) : cal rc' kd d m pc x ls st h = some q := by
  revert e
  unfold cal
  split
  · split
    · cases d with
      | zero => exact id
      | succ d =>
        dsimp only
        intro e
        split at e
        · rename_i r h' hr1
          rw [hr _ _ _ _ _ _ _ hr1]
          exact hr _ _ _ _ _ _ _ e
        · rename_i r h' hr1
          rw [hr _ _ _ _ _ _ _ hr1]
          exact thr_mono hr e
        · cases e
    · exact id
  · exact id
theorem ctl_mono {rc rc' : RC} (hr : ∀ d m pc ls st h q, rc d m pc ls st h = some q → rc' d m pc ls st h = some q) {d m pc : Nat} {i : Instr} {ls st : List AV} {h : AH} {q : AR × AH} (e : ctl rc d m pc i ls st h = some q) : ctl rc' d m pc i ls st h = some q := by
  revert e
  cases i <;> first
    | exact id
    | exact cal_mono hr
    | (unfold ctl; dsimp only; split <;> first | exact thr_mono hr | exact hr _ _ _ _ _ _ _ | exact id)
    | (unfold ctl; dsimp only; split <;> first | exact id | (split <;> first | exact id | (split <;> first | exact id | exact thr_mono hr)))
theorem stp_mono {rc rc' : RC} (hr : ∀ d m pc ls st h q, rc d m pc ls st h = some q → rc' d m pc ls st h = some q) {d m pc : Nat} {ls st : List AV} {h : AH} {q : AR × AH} (e : stp rc d m pc ls st h = some q) : stp rc' d m pc ls st h = some q := by
  revert e
  unfold stp
  split
  · exact id
  · split
    · exact id
    · split
      · exact hr _ _ _ _ _ _ _
      · split
        · cases nxt st
          · exact id
          · exact hr _ _ _ _ _ _ _
        · split
          · exact hr _ _ _ _ _ _ _
          · exact ctl_mono hr
theorem exec_succ : ∀ n d m pc ls st h q, exec n d m pc ls st h = some q → exec (n + 1) d m pc ls st h = some q
  | 0, _, _, _, _, _, _, _, e => by cases e
  | n + 1, _, _, _, _, _, _, _, e => stp_mono (exec_succ n) e
theorem exec_le {n k d m pc : Nat} {ls st : List AV} {h : AH} {q : AR × AH} (hk : n ≤ k) (e : exec n d m pc ls st h = some q) : exec k d m pc ls st h = some q := by
  induction hk with
  | refl => exact e
  | step _ ih => exact exec_succ _ _ _ _ _ _ _ _ ih

