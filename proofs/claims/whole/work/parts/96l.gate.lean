/-! ===== GATE: orders of brothers, least lateness, the first that has it ===== -/
section Gate
variable {hm du : Nat → Int}
def gst (hm du : Nat → Int) (a : Int × Int) (b : Nat) : Int × Int := (mx a.1 (hm b) + 1, mx a.2 (mx a.1 (hm b) - du b))
def gHT (hm du : Nat → Int) (o : List Nat) : Int × Int := o.foldl (gst hm du) (0, 0)
theorem gHT_a {o : List Nat} {b : Nat} : gHT hm du (o ++ [b]) = gst hm du (gHT hm du o) b := by
  unfold gHT
  rw [List.foldl_append]; rfl
theorem gHT_m {o : List Nat} {b : Nat} : (gHT hm du o).2 ≤ (gHT hm du (o ++ [b])).2 := by
  rw [gHT_a]; exact mx_l _ _
def gfs (hm du : Nat → Int) (o : List Nat) (s : Int × List Nat) : Int × List Nat := if (gHT hm du o).2 < s.1 then ((gHT hm du o).2, o) else s
def gR (R : List Nat → List Nat → Int × List Nat → Int × List Nat) (pre : List Nat) : List Nat → List Nat → Int × List Nat → Int × List Nat
  | _, [], s => s
  | A, b :: B, s => gR R pre (A ++ [b]) B (R (pre ++ [b]) (A ++ B) s)
def gW (hm du : Nat → Int) : Nat → List Nat → List Nat → Int × List Nat → Int × List Nat
  | 0, pre, _, s => gfs hm du pre s
  | n + 1, pre, l, s => gR (gW hm du n) pre [] l s
/-- nothing is found where all come too late -/
theorem gR_cut {R : List Nat → List Nat → Int × List Nat → Int × List Nat} {pre : List Nat} {s : Int × List Nat} (h : ∀ b l, R (pre ++ [b]) l s = s) : ∀ B A, gR R pre A B s = s
  | [], A => rfl
  | b :: B, A => by
    rw [gR, h]
    exact gR_cut h B _
theorem gW_cut {s : Int × List Nat} : ∀ n pre l, s.1 ≤ (gHT hm du pre).2 → gW hm du n pre l s = s
  | 0, pre, l, h => by
    show gfs hm du pre s = s
    unfold gfs
    rw [if_neg (by omega)]
  | n + 1, pre, l, h => gR_cut (fun b l => gW_cut n (pre ++ [b]) l (Int.le_trans h gHT_m)) l []
theorem gR_le {R : List Nat → List Nat → Int × List Nat → Int × List Nat} {pre : List Nat} (h : ∀ b l s, (R (pre ++ [b]) l s).1 ≤ s.1) : ∀ B A s, (gR R pre A B s).1 ≤ s.1
  | [], A, s => Int.le_refl _
  | b :: B, A, s => Int.le_trans (gR_le h B _ _) (h b _ s)
theorem gW_le : ∀ n pre l (s : Int × List Nat), (gW hm du n pre l s).1 ≤ s.1
  | 0, pre, l, s => by
    show (gfs hm du pre s).1 ≤ s.1
    unfold gfs
    split
    · exact Int.le_of_lt (by assumption)
    · exact Int.le_refl _
  | n + 1, pre, l, s => gR_le (fun b l s => gW_le n (pre ++ [b]) l s) l [] s
theorem gHT_b {z : Int} (hz : 0 ≤ z) (hh : ∀ b, 0 ≤ hm b ∧ hm b ≤ z) (hd : ∀ b, 0 ≤ du b) : ∀ o : List Nat, ∀ a : Int × Int, (0 ≤ a.1 ∧ 0 ≤ a.2) → ∀ c : Int, a.1 ≤ c → z ≤ c → a.2 ≤ c → (0 ≤ (o.foldl (gst hm du) a).1 ∧ (o.foldl (gst hm du) a).1 ≤ c + o.length) ∧ (0 ≤ (o.foldl (gst hm du) a).2 ∧ (o.foldl (gst hm du) a).2 ≤ c + o.length)
  | [], a, h, c, h1, h2, h3 => by
    show (0 ≤ a.1 ∧ a.1 ≤ c + ((0 : Nat) : Int)) ∧ (0 ≤ a.2 ∧ a.2 ≤ c + ((0 : Nat) : Int))
    omega
  | b :: o, a, h, c, h1, h2, h3 => by
    have hb := hh b
    have hdb := hd b
    have m1 := mx_l a.1 (hm b)
    have m2 : mx a.1 (hm b) ≤ c := mx_le h1 (by omega)
    have m3 := mx_l a.2 (mx a.1 (hm b) - du b)
    have m4 : mx a.2 (mx a.1 (hm b) - du b) ≤ c := mx_le h3 (by omega)
    have := gHT_b hz hh hd o (gst hm du a b) ⟨by show 0 ≤ mx a.1 (hm b) + 1; omega, by show 0 ≤ mx a.2 _; omega⟩ (c + 1) (by show mx a.1 (hm b) + 1 ≤ c + 1; omega) (by omega) (by show mx a.2 _ ≤ c + 1; omega)
    rw [List.foldl_cons, List.length_cons]
    omega
theorem gHT_J {z : Int} (hz : 0 ≤ z) (hh : ∀ b, 0 ≤ hm b ∧ hm b ≤ z) (hd : ∀ b, 0 ≤ du b) (o : List Nat) : (0 ≤ (gHT hm du o).1 ∧ (gHT hm du o).1 ≤ z + o.length) ∧ (0 ≤ (gHT hm du o).2 ∧ (gHT hm du o).2 ≤ z + o.length) := gHT_b hz hh hd o (0, 0) ⟨by decide, by decide⟩ z hz (Int.le_refl z) hz
/-- something is found -/
theorem gW_some {c : Int} : ∀ n pre l (s : Int × List Nat), l.length = n → (∀ o : List Nat, o.length = pre.length + n → (gHT hm du o).2 ≤ c) → (gW hm du n pre l s).1 ≤ c
  | 0, pre, l, s, h, hc => by
    have := hc pre (by omega)
    show (gfs hm du pre s).1 ≤ c
    unfold gfs
    split
    · exact this
    · omega
  | n + 1, pre, [], s, h, hc => by simp at h
  | n + 1, pre, b :: B, s, h, hc => by
    show (gR (gW hm du n) pre ([] ++ [b]) B (gW hm du n (pre ++ [b]) ([] ++ B) s)).1 ≤ c
    refine Int.le_trans (gR_le (fun b l s => gW_le n (pre ++ [b]) l s) B _ _) (gW_some n (pre ++ [b]) ([] ++ B) s (by simpa using h) fun o ho => hc o (by rw [ho]; simp; omega))
/-- what is kept -/
theorem gR_inv {P : Int × List Nat → Prop} {R : List Nat → List Nat → Int × List Nat → Int × List Nat} {pre : List Nat} (h : ∀ b l s, P s → P (R (pre ++ [b]) l s)) : ∀ B A s, P s → P (gR R pre A B s)
  | [], A, s, hs => hs
  | b :: B, A, s, hs => gR_inv h B _ _ (h b _ s hs)
theorem gW_inv {P : Int × List Nat → Prop} : ∀ n pre l (s : Int × List Nat), (∀ o s, o.length = pre.length + n → P s → P (gfs hm du o s)) → P s → P (gW hm du n pre l s)
  | 0, pre, l, s, h, hs => h pre s (by omega) hs
  | n + 1, pre, l, s, h, hs => gR_inv (fun b l s hs => gW_inv n (pre ++ [b]) l s (fun o s ho hs => h o s (by rw [ho]; simp; omega) hs) hs) l [] s hs
end Gate
