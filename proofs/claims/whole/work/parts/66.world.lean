/-! ===== THE WORLD: the reference's row, and what the class holds of it ===== -/
def bcv (v : Int) : Int := match jdk_bitCount v (fun _ _ => 0) with
  | some (.inl (some (.inl z)), _) => z
  | _ => 0
theorem bc_v {v : Int} {M : MM} : jdk_bitCount v M = some (rI (bcv v), M) := rfl
def cnt (f : Nat → Bool) : Nat → Nat
  | 0 => 0
  | n + 1 => cnt f n + (bif f n then 1 else 0)
theorem cnt_le (f : Nat → Bool) : ∀ n, cnt f n ≤ n
  | 0 => Nat.le_refl 0
  | n + 1 => by
    show cnt f n + _ ≤ n + 1
    have := cnt_le f n
    cases f n <;> simp <;> omega
theorem cnt_cg {f g : Nat → Bool} : ∀ n, (∀ i, i < n → f i = g i) → cnt f n = cnt g n
  | 0, _ => rfl
  | n + 1, h => by
    show cnt f n + _ = cnt g n + _
    rw [cnt_cg n (fun i hi => h i (by omega)), h n (by omega)]
theorem bcv_s {x : Nat} (h : x < 1024) : bcv (x : Int) = (cnt x.testBit 10 : Nat) := by
  have : ∀ x : Nat, x < 1024 → bcv (x : Int) = (cnt x.testBit 10 : Nat) := by decide +kernel
  exact this x h
def oP (w : Nat → Int) (p j : Int) : Int := w ((10 + 8 * p) + j).toNat
def oT (w : Nat → Int) (t j : Int) : Int := w ((90 + 4 * t) + j).toNat
def oR (w : Nat → Int) (r j : Int) : Int := w ((130 + 4 * r) + j).toNat
def oB (w : Nat → Int) (b j : Int) : Int := w ((194 + 6 * b) + j).toNat
-- what may be: counts, places, things, roads, brothers, gifts, the log
def WC (k : Nat) (w : Nat → Int) : Prop := (0 ≤ w 0 ∧ w 0 ≤ 10) ∧ (0 ≤ w 1 ∧ w 1 ≤ 10) ∧ (0 ≤ w 2 ∧ w 2 ≤ 16) ∧ (0 ≤ w 3 ∧ w 3 ≤ 7) ∧ (0 ≤ w 4 ∧ w 4 ≤ 12) ∧ (w 5 = 0 ∨ w 5 = 1) ∧ (0 ≤ w 6 ∧ w 6 ≤ 200 * (k : Int)) ∧ (0 ≤ w 7 ∧ (w 7 < w 0 ∨ (w 0 = 0 ∧ w 7 = 0))) ∧ (-1 ≤ w 8 ∧ w 8 < w 2 ∨ w 8 = -1) ∧ (0 ≤ w 9 ∧ w 9 ≤ 10) ∧ (w 0 = 0 → w 1 = 0 ∧ w 2 = 0 ∧ w 3 = 0)
def WP (w : Nat → Int) : Prop := ∀ p : Int, 0 ≤ p → p < w 0 → (oP w p 0 = 0 ∨ oP w p 0 = 1) ∧ (0 ≤ oP w p 1 ∧ oP w p 1 ≤ 15) ∧ (0 ≤ oP w p 2 ∧ oP w p 2 ≤ 15) ∧ (oP w p 3 = -1 ∧ oP w p 4 = -1 ∨ 0 ≤ oP w p 3 ∧ oP w p 3 ≤ oP w p 4 ∧ oP w p 4 ≤ 23) ∧ (oP w p 5 = 0 ∨ oP w p 5 = 1) ∧ (-1 ≤ oP w p 6 ∧ oP w p 6 < w 1) ∧ (oP w p 7 = 0 ∨ oP w p 7 = 1) ∧ (oP w p 0 = 0 → oP w p 1 = 0 ∧ oP w p 2 = 0 ∧ oP w p 3 = -1 ∧ oP w p 4 = -1 ∧ oP w p 5 = 0 ∧ oP w p 6 = -1 ∧ oP w p 7 = 0)
def WT (w : Nat → Int) : Prop := ∀ t : Int, 0 ≤ t → t < w 1 → (0 ≤ oT w t 0 ∧ oT w t 0 ≤ 15) ∧ (1 ≤ oT w t 1 ∧ oT w t 1 ≤ 99) ∧ (0 ≤ oT w t 2 ∧ oT w t 2 ≤ 3) ∧ (0 ≤ oT w t 3 ∧ oT w t 3 < w 0)
def WR (w : Nat → Int) : Prop := ∀ r : Int, 0 ≤ r → r < w 2 → (0 ≤ oR w r 0 ∧ oR w r 0 < w 0) ∧ (0 ≤ oR w r 1 ∧ oR w r 1 < w 0) ∧ oR w r 0 ≠ oR w r 1 ∧ (1 ≤ oR w r 2 ∧ oR w r 2 ≤ 9) ∧ (1 ≤ oR w r 3 ∧ oR w r 3 ≤ 100)
def WB (w : Nat → Int) : Prop := ∀ b : Int, 0 ≤ b → b < w 3 → (0 ≤ oB w b 0 ∧ oB w b 0 < w 0) ∧ (0 ≤ oB w b 1 ∧ oB w b 1 ≤ 15) ∧ (0 ≤ oB w b 2 ∧ oB w b 2 ≤ 15) ∧ (0 ≤ oB w b 3 ∧ oB w b 3 ≤ 99) ∧ (0 ≤ oB w b 4 ∧ oB w b 4 ≤ 999) ∧ (-1 ≤ oB w b 5 ∧ oB w b 5 ≤ w 6)
def WG (w : Nat → Int) : Prop := (∀ p : Int, 0 ≤ p → p < w 0 → 0 ≤ oP w p 6 → (oP w p 7 = 0 ↔ oT w (oP w p 6) 2 = 1) ∧ (oP w p 7 = 0 → oT w (oP w p 6) 3 = p)) ∧ ∀ p q : Int, 0 ≤ p → p < w 0 → 0 ≤ q → q < w 0 → 0 ≤ oP w p 6 → oP w p 6 = oP w q 6 → p = q
-- sets of it
def kpB (w : Nat → Int) (p : Nat) : Bool := decide ((p : Int) < w 0) && decide (oP w p 0 = 1)
def tkB (w : Nat → Int) (p : Nat) : Bool := decide ((p : Int) < w 0) && decide (oP w p 5 = 1)
def paB (w : Nat → Int) (p : Nat) : Bool := decide ((p : Int) < w 0) && decide (oP w p 7 = 1)
def stB' (w : Nat → Int) (z : Int) (t : Nat) : Bool := decide ((t : Int) < w 1) && decide (oT w t 2 = z)
def frB (w : Nat → Int) (b : Nat) : Bool := decide ((b : Int) < w 3) && decide (0 ≤ oB w b 5)
def WL (w : Nat → Int) : Prop := w 9 = (cnt (paB w) 10 : Nat) ∧ ∀ k : Int, 0 ≤ k → k < w 9 → (0 ≤ w ((236 + 3 * k) + 0).toNat ∧ w ((236 + 3 * k) + 0).toNat ≤ 9) ∧ (0 ≤ w ((236 + 3 * k) + 1).toNat ∧ w ((236 + 3 * k) + 1).toNat ≤ 9) ∧ (0 ≤ w ((236 + 3 * k) + 2).toNat ∧ w ((236 + 3 * k) + 2).toNat ≤ w 6)
def WF (k : Nat) (w : Nat → Int) : Prop := WC k w ∧ WP w ∧ WT w ∧ WR w ∧ WB w ∧ WG w ∧ WL w
-- the class's land, journey
def LandR (a : Nat) (w : Nat → Int) (M : MM) : Prop := (M a 0 = w 0 ∧ M a 1 = w 1 ∧ M a 2 = w 2 ∧ M a 3 = w 3 ∧ M a 4 = w 4) ∧ M a 5 = ((bset 10 (kpB w) : Nat) : Int) ∧ M a 6 = ((bset 10 (tkB w) : Nat) : Int) ∧
  (∀ p : Int, 0 ≤ p → p < w 0 → oP w p 0 = 1 → M (a + 1) p.toNat = oP w p 1 ∧ M (a + 2) p.toNat = oP w p 2 ∧ M (a + 3) p.toNat = oP w p 3 ∧ M (a + 4) p.toNat = oP w p 4 ∧ M (a + 5) p.toNat = oP w p 6) ∧
  (∀ t : Int, 0 ≤ t → t < w 1 → M (a + 6) t.toNat = oT w t 0 ∧ M (a + 7) t.toNat = oT w t 1) ∧
  (∀ r : Int, 0 ≤ r → r < w 2 → M (a + 8) (2 * r).toNat = oR w r 0 ∧ M (a + 8) (2 * r + 1).toNat = oR w r 1 ∧ M (a + 9) r.toNat = oR w r 2 ∧ M (a + 10) r.toNat = oR w r 3) ∧
  (∀ b : Int, 0 ≤ b → b < w 3 → M (a + 11) b.toNat = oB w b 0 ∧ M (a + 1) (10 + b).toNat = oB w b 1 ∧ M (a + 2) (10 + b).toNat = oB w b 2 ∧ M (a + 12) b.toNat = oB w b 3 ∧ M (a + 13) b.toNat = oB w b 4)
def JnyR (a : Nat) (w : Nat → Int) (M : MM) : Prop := (M a 0 = w 7 ∧ M a 1 = w 6 ∧ M a 2 = w 8 ∧ M a 8 = w 9) ∧ M a 3 = ((bset 10 (stB' w 2) : Nat) : Int) ∧ M a 4 = ((bset 10 (stB' w 3) : Nat) : Int) ∧ M a 5 = ((bset 10 (stB' w 1) : Nat) : Int) ∧ M a 6 = ((bset 10 (paB w) : Nat) : Int) ∧ M a 7 = ((bset 7 (frB w) : Nat) : Int) ∧
  (∀ t : Int, 0 ≤ t → t < w 1 → M (a + 1) t.toNat = oT w t 3) ∧ (∀ t : Int, w 1 ≤ t → t < 10 → M (a + 1) t.toNat = -1) ∧
  (∀ b : Int, 0 ≤ b → b < w 3 → 0 ≤ oB w b 5 → M (a + 2) b.toNat = oB w b 5) ∧
  (∀ k : Int, 0 ≤ k → k < w 9 → M (a + 3) k.toNat = w (236 + 3 * k).toNat ∧ M (a + 4) k.toNat = w (236 + 3 * k + 1).toNat ∧ M (a + 5) k.toNat = w (236 + 3 * k + 2).toNat)
-- all of it depends on the row's first 266 cells
theorem oP_cg {w w' : Nat → Int} (h : ∀ k, k < 266 → w' k = w k) {p j : Int} (hp : 0 ≤ p) (hp9 : p ≤ 9) (hj : 0 ≤ j) (hj7 : j ≤ 7) : oP w' p j = oP w p j := h _ (by omega)
theorem oT_cg {w w' : Nat → Int} (h : ∀ k, k < 266 → w' k = w k) {p j : Int} (hp : 0 ≤ p) (hp9 : p ≤ 9) (hj : 0 ≤ j) (hj7 : j ≤ 3) : oT w' p j = oT w p j := h _ (by omega)
theorem oR_cg {w w' : Nat → Int} (h : ∀ k, k < 266 → w' k = w k) {p j : Int} (hp : 0 ≤ p) (hp9 : p ≤ 15) (hj : 0 ≤ j) (hj7 : j ≤ 3) : oR w' p j = oR w p j := h _ (by omega)
theorem oB_cg {w w' : Nat → Int} (h : ∀ k, k < 266 → w' k = w k) {p j : Int} (hp : 0 ≤ p) (hp9 : p ≤ 6) (hj : 0 ≤ j) (hj7 : j ≤ 5) : oB w' p j = oB w p j := h _ (by omega)
-- reading the reference's row
section MoRead
variable {M : MM} {k : Int → MM → OR} {v1 v2 z : Int}
theorem mo_places_b : bI (mo_places M) k = k (M 166 0) M := rfl
theorem mo_things_b : bI (mo_things M) k = k (M 166 1) M := rfl
theorem mo_roads_b : bI (mo_roads M) k = k (M 166 2) M := rfl
theorem mo_brothers_b : bI (mo_brothers M) k = k (M 166 3) M := rfl
theorem mo_of_b (h0 : 0 ≤ v1) (h1 : v1 ≤ 9) (h2 : 0 ≤ v2) (h3 : v2 ≤ 7) : bI (mo_of v1 v2 M) k = k (oP (M 166) v1 v2) M := by
  unfold mo_of
  rw [bq_in (by omega) (by omega)]; rfl
theorem mo_ofThing_b (h0 : 0 ≤ v1) (h1 : v1 ≤ 9) (h2 : 0 ≤ v2) (h3 : v2 ≤ 3) : bI (mo_ofThing v1 v2 M) k = k (oT (M 166) v1 v2) M := by
  unfold mo_ofThing
  rw [bq_in (by omega) (by omega)]; rfl
theorem mo_ofRoad_b (h0 : 0 ≤ v1) (h1 : v1 ≤ 15) (h2 : 0 ≤ v2) (h3 : v2 ≤ 3) : bI (mo_ofRoad v1 v2 M) k = k (oR (M 166) v1 v2) M := by
  unfold mo_ofRoad
  rw [bq_in (by omega) (by omega)]; rfl
theorem mo_ofBrother_b (h0 : 0 ≤ v1) (h1 : v1 ≤ 6) (h2 : 0 ≤ v2) (h3 : v2 ≤ 5) : bI (mo_ofBrother v1 v2 M) k = k (oB (M 166) v1 v2) M := by
  unfold mo_ofBrother
  rw [bq_in (by omega) (by omega)]; rfl
theorem mo_in_v {lo hi : Int} (h : I32 z) (h1 : I32 lo) (h2 : I32 hi) : mo_in z lo hi M = some (rI (b2 (decide (lo ≤ z ∧ z ≤ hi))), M) := by
  unfold mo_in
  rw [bq_lt h h1]
  by_cases h3 : z < lo
  · rw [if_pos h3, decide_eq_false (by omega)]; rfl
  · rw [if_neg h3, bq_gt h h2]
    by_cases h4 : hi < z
    · rw [if_pos h4, decide_eq_false (by omega)]; rfl
    · rw [if_neg h4, decide_eq_true (by omega)]; rfl
theorem mo_in_b {lo hi : Int} (h : I32 z) (h1 : I32 lo) (h2 : I32 hi) : bI (mo_in z lo hi M) k = k (b2 (decide (lo ≤ z ∧ z ≤ hi))) M := by rw [mo_in_v h h1 h2]; rfl
theorem mo_throwsIf_t {c : Int} : bI (mo_throwsIf (b2 true) c M) k = k (b2 true) (mU M 165 0 c) := rfl
theorem mo_throwsIf_f {c : Int} : bI (mo_throwsIf (b2 false) c M) k = k (b2 false) M := rfl
theorem mo_throwsIf_1 {c : Int} : bI (mo_throwsIf 1 c M) k = k 1 (mU M 165 0 c) := rfl
theorem mo_throwsIf_0 {c : Int} : bI (mo_throwsIf 0 c M) k = k 0 M := rfl
end MoRead
