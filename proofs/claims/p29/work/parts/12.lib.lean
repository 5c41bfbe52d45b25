/-! words for what the methods compute, over the ints i and longs l of all objects -/
theorem pl_X0 : plainName RX0 = true := by decide +kernel
theorem pl_X1 : plainName RX1 = true := by decide +kernel
theorem pl_X2 : plainName RX2 = true := by decide +kernel
theorem pl_X3 : plainName RX3 = true := by decide +kernel
theorem pl_X4 : plainName RX4 = true := by decide +kernel
theorem pl_X5 : plainName RX5 = true := by decide +kernel
theorem pl_X6 : plainName RX6 = true := by decide +kernel
theorem pl_X7 : plainName RX7 = true := by decide +kernel
theorem pl_X8 : plainName RX8 = true := by decide +kernel
theorem mBit (b : BitVec 64) (k : Nat) : (b >>> k &&& BitVec.ofNat 64 1 = BitVec.ofNat 64 0) ↔ b.getLsbD k = false := by
  have h1 : b >>> k &&& BitVec.ofNat 64 1 = BitVec.ofNat 64 0 ↔ ∀ j, (b >>> k &&& BitVec.ofNat 64 1).getLsbD j = (BitVec.ofNat 64 0).getLsbD j := ⟨fun h j => by rw [h], fun h => BitVec.eq_of_getLsbD_eq (fun j _ => h j)⟩
  rw [h1]
  constructor
  · intro h
    have := h 0
    simpa using this
  · intro h j
    by_cases hj : j = 0
    · subst hj; simp [h]
    · have : (BitVec.ofNat 64 1).getLsbD j = false := by
        rw [BitVec.getLsbD_ofNat]
        have : Nat.testBit 1 j = false := Bool.eq_false_iff.mpr (fun h => hj (Nat.testBit_one_eq_true_iff_self_eq_zero.mp h))
        simp [this]
      simp [BitVec.getLsbD_and, this]
theorem mTF3 {p : Int} (hp : 0 ≤ p ∧ p < 4) : mTF 3 p.toNat = 22 - 6 * p := by
  rcases (show p = 0 ∨ p = 1 ∨ p = 2 ∨ p = 3 by omega) with rfl | rfl | rfl | rfl <;> rfl
/-- a singer's numbers are in their ranges -/
def okS (i : Nat → Int → Int) (q : Nat) : Prop := (1 ≤ i q 0 ∧ i q 0 ≤ 9) ∧ (100 ≤ i q 1 ∧ i q 1 ≤ 220) ∧ (0 ≤ i q 4 ∧ 0 ≤ i q 5 ∧ i q 4 + i q 5 ≤ 41) ∧ (-9 ≤ i q 6 ∧ i q 6 ≤ 3 ∧ (i q 6 = -9 ∨ 0 ≤ i q 6)) ∧ (0 ≤ i q 7 ∧ i q 7 ≤ 1) ∧ (0 ≤ i q 8 ∧ i q 8 ≤ 40) ∧ (-9 ≤ i q 9 ∧ i q 9 ≤ 39 ∧ (i q 9 = -9 ∨ 0 ≤ i q 9)) ∧ (0 ≤ i q 10 ∧ i q 10 ≤ 40)
/-- a choir's numbers are in their ranges -/
def okC (i : Nat → Int → Int) (c : Nat) : Prop := ((0 ≤ i c 4 ∧ i c 4 ≤ 10) ∧ (0 ≤ i c 5 ∧ i c 5 ≤ 40) ∧ (0 ≤ i c 6 ∧ i c 6 ≤ 4 * i c 5) ∧ (0 ≤ i c 7 ∧ i c 7 ≤ 10 * i c 5) ∧ (1 ≤ i (c + 12) 0 ∧ i (c + 12) 0 ≤ 15) ∧ (1 ≤ i (c + 12) 1 ∧ i (c + 12) 1 ≤ 50) ∧ (0 ≤ i (c + 12) 2 ∧ i (c + 12) 2 ≤ 10) ∧ (1 ≤ i (c + 12) 3 ∧ i (c + 12) 3 ≤ 6)) ∧ (∀ p : Int, 0 ≤ p → p < 4 → 0 ≤ i (c + 14) p ∧ i (c + 14) p ≤ 40) ∧ (∀ x : Int, 0 ≤ x → x < 4 * i c 5 → -9 ≤ i (c + 13) x ∧ i (c + 13) x ≤ 9) ∧ ∀ x : Int, 0 ≤ x → x < i c 4 → okS i (c + 2 + x.toNat)
theorem okC.n {i : Nat → Int → Int} {c : Nat} (h : okC i c) : (0 ≤ i c 4 ∧ i c 4 ≤ 10) ∧ (0 ≤ i c 5 ∧ i c 5 ≤ 40) ∧ (0 ≤ i c 6 ∧ i c 6 ≤ 4 * i c 5) ∧ (0 ≤ i c 7 ∧ i c 7 ≤ 10 * i c 5) ∧ (1 ≤ i (c + 12) 0 ∧ i (c + 12) 0 ≤ 15) ∧ (1 ≤ i (c + 12) 1 ∧ i (c + 12) 1 ≤ 50) ∧ (0 ≤ i (c + 12) 2 ∧ i (c + 12) 2 ≤ 10) ∧ (1 ≤ i (c + 12) 3 ∧ i (c + 12) 3 ≤ 6) := h.1
theorem okC.s {i : Nat → Int → Int} {c : Nat} (h : okC i c) {x : Int} (h0 : 0 ≤ x) (h1 : x < i c 4) : (1 ≤ i (c + 2 + x.toNat) 0 ∧ i (c + 2 + x.toNat) 0 ≤ 9) ∧ (100 ≤ i (c + 2 + x.toNat) 1 ∧ i (c + 2 + x.toNat) 1 ≤ 220) ∧ (0 ≤ i (c + 2 + x.toNat) 4 ∧ 0 ≤ i (c + 2 + x.toNat) 5 ∧ i (c + 2 + x.toNat) 4 + i (c + 2 + x.toNat) 5 ≤ 41) ∧ (-9 ≤ i (c + 2 + x.toNat) 6 ∧ i (c + 2 + x.toNat) 6 ≤ 3 ∧ (i (c + 2 + x.toNat) 6 = -9 ∨ 0 ≤ i (c + 2 + x.toNat) 6)) ∧ (0 ≤ i (c + 2 + x.toNat) 7 ∧ i (c + 2 + x.toNat) 7 ≤ 1) ∧ (0 ≤ i (c + 2 + x.toNat) 8 ∧ i (c + 2 + x.toNat) 8 ≤ 40) ∧ (-9 ≤ i (c + 2 + x.toNat) 9 ∧ i (c + 2 + x.toNat) 9 ≤ 39 ∧ (i (c + 2 + x.toNat) 9 = -9 ∨ 0 ≤ i (c + 2 + x.toNat) 9)) ∧ (0 ≤ i (c + 2 + x.toNat) 10 ∧ i (c + 2 + x.toNat) 10 ≤ 40) := h.2.2.2 x h0 h1
/-- row so far, longest row, its lowest note: behind n notes of which f tells -/
def rw3 (f : Int → Bool) : Nat → Int × Int × Int
  | 0 => (0, 0, 0)
  | n + 1 => if f n then (if (rw3 f n).1 + 1 > (rw3 f n).2.1 then ((rw3 f n).1 + 1, (rw3 f n).1 + 1, n - ((rw3 f n).1 + 1) + 1) else ((rw3 f n).1 + 1, (rw3 f n).2.1, (rw3 f n).2.2)) else (0, (rw3 f n).2.1, (rw3 f n).2.2)
def rwZ (f : Int → Bool) (x : Int) : Int × Int × Int := rw3 f x.toNat
theorem rwZ_s (f : Int → Bool) {x : Int} (h : 0 ≤ x) : rwZ f (x + 1) = if f x then (if (rwZ f x).1 + 1 > (rwZ f x).2.1 then ((rwZ f x).1 + 1, (rwZ f x).1 + 1, x - ((rwZ f x).1 + 1) + 1) else ((rwZ f x).1 + 1, (rwZ f x).2.1, (rwZ f x).2.2)) else (0, (rwZ f x).2.1, (rwZ f x).2.2) := by
  unfold rwZ
  rw [show (x + 1).toNat = x.toNat + 1 by omega]
  show (if f (x.toNat : Int) then _ else _) = _
  rw [Int.toNat_of_nonneg h]
theorem rwZ_bd (f : Int → Bool) {x : Int} (h : 0 ≤ x) : 0 ≤ (rwZ f x).1 ∧ (rwZ f x).1 ≤ x ∧ 0 ≤ (rwZ f x).2.1 ∧ 0 ≤ (rwZ f x).2.2 ∧ (rwZ f x).2.2 + (rwZ f x).2.1 ≤ x := by
  have key : ∀ n : Nat, 0 ≤ (rw3 f n).1 ∧ (rw3 f n).1 ≤ n ∧ 0 ≤ (rw3 f n).2.1 ∧ 0 ≤ (rw3 f n).2.2 ∧ (rw3 f n).2.2 + (rw3 f n).2.1 ≤ n := by
    intro n
    induction n with
    | zero => simp [rw3]
    | succ n ih =>
      unfold rw3
      split
      · split <;> simp only [] <;> omega
      · simp only []; omega
  have := key x.toNat
  rwa [Int.toNat_of_nonneg h] at this
theorem rwZ_no (x : Int) : rwZ (fun _ => false) x = (0, 0, 0) := by
  unfold rwZ
  induction x.toNat with
  | zero => rfl
  | succ n ih => show (if false = true then _ else _) = _; rw [if_neg (by decide), ih]
theorem rwZ_congr {f f' : Int → Bool} {x : Int} (h : ∀ k, 0 ≤ k → k < x → f k = f' k) : rwZ f x = rwZ f' x := by
  have key : ∀ n : Nat, (∀ k : Int, 0 ≤ k → k < n → f k = f' k) → rw3 f n = rw3 f' n := by
    intro n
    induction n with
    | zero => intro _; rfl
    | succ n ih =>
      intro hh
      unfold rw3
      rw [ih (fun k h0 h1 => hh k h0 (by omega)), hh n (by omega) (by omega)]
  exact key _ (fun k h0 h1 => h k h0 (by omega))
/-- a set of parts (of notes ..) as bits -/
def orN (f : Int → Bool) : Nat → Nat
  | 0 => 0
  | n + 1 => if f n then orN f n ||| 2 ^ n else orN f n
def orZ (f : Int → Bool) (x : Int) : Int := (orN f x.toNat : Nat)
theorem orZ_s (f : Int → Bool) {x : Int} (h : 0 ≤ x) : orZ f (x + 1) = if f x then (((orZ f x).toNat ||| 2 ^ x.toNat : Nat) : Int) else orZ f x := by
  unfold orZ
  rw [show (x + 1).toNat = x.toNat + 1 by omega]
  show ((if f (x.toNat : Int) then _ else _ : Nat) : Int) = _
  rw [Int.toNat_of_nonneg h]
  split <;> rfl
theorem orN_lt (f : Int → Bool) (n : Nat) : orN f n < 2 ^ n := by
  induction n with
  | zero => simp [orN]
  | succ n ih =>
    have h2 : 2 ^ n < 2 ^ (n + 1) := Nat.pow_lt_pow_right (by decide) (by omega)
    unfold orN
    split
    · exact Nat.or_lt_two_pow (Nat.lt_trans ih h2) h2
    · omega
theorem orZ_bd (f : Int → Bool) {x : Int} (h : x ≤ 30) : 0 ≤ orZ f x ∧ orZ f x < 1073741824 := by
  unfold orZ
  have h1 := orN_lt f x.toNat
  have h2 : 2 ^ x.toNat ≤ 2 ^ 30 := Nat.pow_le_pow_right (by decide) (by omega)
  omega
/-- notes of a part within a singer's range -/
def fIn (i : Nat → Int → Int) (q : Nat) (p : Int) : Int := max 0 (min (i q 4 + i q 5) (22 - 6 * p + 15) - max (i q 4) (22 - 6 * p))
def fFit (i : Nat → Int → Int) (c : Nat) (x p : Int) : Prop := i (c + 12) 0 ≤ fIn i (c + 2 + x.toNat) p
def fFits (i : Nat → Int → Int) (c : Nat) (x : Int) : Int := orZ (fun p => decide (i (c + 12) 0 ≤ fIn i (c + 2 + x.toNat) p)) 4
def fMem (i : Nat → Int → Int) (c : Nat) (p : Int) : Int := sumZ (fun k => if i (c + 2 + k.toNat) 6 = p then 1 else 0) (i c 4)
def fStr (i : Nat → Int → Int) (c : Nat) (p : Int) : Int := sumZ (fun k => if i (c + 2 + k.toNat) 6 = p then i (c + 2 + k.toNat) 0 else 0) (i c 4)
def fPres (i : Nat → Int → Int) (c : Nat) (p : Int) : Int := sumZ (fun k => if i (c + 2 + k.toNat) 6 = p ∧ i (c + 2 + k.toNat) 7 ≠ 0 then i (c + 2 + k.toNat) 0 else 0) (i c 4)
def fAbs (i : Nat → Int → Int) (c : Nat) : Int := sumZ (fun k => if i (c + 2 + k.toNat) 7 = 0 then 1 else 0) (i c 4)
def fCov (i : Nat → Int → Int) (c : Nat) : Int := orZ (fun p => decide (i (c + 12) 1 ≤ fPres i c p)) 4
def fRows (i : Nat → Int → Int) (c : Nat) (p : Int) : Int := (fMem i c p + i (c + 12) 3 - 1) / i (c + 12) 3
def fRest (i : Nat → Int → Int) (c q : Nat) : Prop := i q 9 = -9 ∨ i (c + 12) 2 < i c 5 - i q 9
def fSeat (i : Nat → Int → Int) (c : Nat) (x : Int) : Int := sumZ (fun k => if i (c + 2 + k.toNat) 6 = i (c + 2 + x.toNat) 6 ∧ (i (c + 2 + k.toNat) 1 < i (c + 2 + x.toNat) 1 ∨ (i (c + 2 + k.toNat) 1 = i (c + 2 + x.toNat) 1 ∧ k < x)) then 1 else 0) (i c 4)
theorem fMem_bd {i : Nat → Int → Int} {c : Nat} {p : Int} (h : okC i c) : 0 ≤ fMem i c p ∧ fMem i c p ≤ 10 := by
  have h1 := h.n
  have := sumZ_bd (f := fun k => if i (c + 2 + k.toNat) 6 = p then 1 else 0) (x := i c 4) (a := 0) (b := 1) h1.1.1 (fun k _ _ => by split <;> omega)
  unfold fMem
  omega
theorem fStr_bd {i : Nat → Int → Int} {c : Nat} {p : Int} (h : okC i c) : 0 ≤ fStr i c p ∧ fStr i c p ≤ 90 := by
  have h1 := h.n
  have := sumZ_bd (f := fun k => if i (c + 2 + k.toNat) 6 = p then i (c + 2 + k.toNat) 0 else 0) (x := i c 4) (a := 0) (b := 9) h1.1.1 (fun k h0 h2 => by have := h.s h0 h2; split <;> omega)
  unfold fStr
  omega
theorem fPres_bd {i : Nat → Int → Int} {c : Nat} {p : Int} (h : okC i c) : 0 ≤ fPres i c p ∧ fPres i c p ≤ 90 := by
  have h1 := h.n
  have := sumZ_bd (f := fun k => if i (c + 2 + k.toNat) 6 = p ∧ i (c + 2 + k.toNat) 7 ≠ 0 then i (c + 2 + k.toNat) 0 else 0) (x := i c 4) (a := 0) (b := 9) h1.1.1 (fun k h0 h2 => by have := h.s h0 h2; split <;> omega)
  unfold fPres
  omega
