/-! the shape of the two systems, once made: which object is which, by the order in which they are made -/
def kL : List (Nat ⊕ (Nat × Nat)) := [.inl 8, .inl 0, .inr (3, 10), .inl 5, .inl 5, .inl 5, .inl 5, .inl 5, .inl 5, .inl 5, .inl 5, .inl 5, .inl 5, .inr (0, 4), .inr (0, 160), .inr (0, 4), .inl 1, .inr (4, 8), .inl 0, .inr (3, 10), .inl 5, .inl 5, .inl 5, .inl 5, .inl 5, .inl 5, .inl 5, .inl 5, .inl 5, .inl 5, .inr (0, 4), .inr (0, 160), .inr (0, 4), .inl 0, .inr (3, 10), .inl 5, .inl 5, .inl 5, .inl 5, .inl 5, .inl 5, .inl 5, .inl 5, .inl 5, .inl 5, .inr (0, 4), .inr (0, 160), .inr (0, 4), .inl 0, .inr (3, 10), .inl 5, .inl 5, .inl 5, .inl 5, .inl 5, .inl 5, .inl 5, .inl 5, .inl 5, .inl 5, .inr (0, 4), .inr (0, 160), .inr (0, 4), .inl 0, .inr (3, 10), .inl 5, .inl 5, .inl 5, .inl 5, .inl 5, .inl 5, .inl 5, .inl 5, .inl 5, .inl 5, .inr (0, 4), .inr (0, 160), .inr (0, 4), .inl 0, .inr (3, 10), .inl 5, .inl 5, .inl 5, .inl 5, .inl 5, .inl 5, .inl 5, .inl 5, .inl 5, .inl 5, .inr (0, 4), .inr (0, 160), .inr (0, 4), .inl 0, .inr (3, 10), .inl 5, .inl 5, .inl 5, .inl 5, .inl 5, .inl 5, .inl 5, .inl 5, .inl 5, .inl 5, .inr (0, 4), .inr (0, 160), .inr (0, 4), .inl 0, .inr (3, 10), .inl 5, .inl 5, .inl 5, .inl 5, .inl 5, .inl 5, .inl 5, .inl 5, .inl 5, .inl 5, .inr (0, 4), .inr (0, 160), .inr (0, 4), .inl 0, .inr (3, 10), .inl 5, .inl 5, .inl 5, .inl 5, .inl 5, .inl 5, .inl 5, .inl 5, .inl 5, .inl 5, .inr (0, 4), .inr (0, 160), .inr (0, 4), .inr (4, 2), .inl 0, .inr (3, 10), .inl 5, .inl 5, .inl 5, .inl 5, .inl 5, .inl 5, .inl 5, .inl 5, .inl 5, .inl 5, .inr (0, 4), .inr (0, 160), .inr (0, 4), .inl 0, .inr (3, 10), .inl 5, .inl 5, .inl 5, .inl 5, .inl 5, .inl 5, .inl 5, .inl 5, .inl 5, .inl 5, .inr (0, 4), .inr (0, 160), .inr (0, 4), .inr (2, 2), .inl 7, .inr (0, 60), .inl 3, .inl 4, .inr (0, 10), .inr (0, 4), .inr (0, 4), .inl 2, .inl 6, .inr (1, 1024), .inr (1, 1024), .inl 6, .inr (1, 1024), .inr (1, 1024), .inr (0, 1024), .inr (0, 4), .inr (0, 10), .inr (0, 10), .inr (0, 10)]
def rL : List (List (Option Nat)) := [[some 1, some 16, some 138, some 169, some 170, some 172, some 173, some 177], [some 2, some 13, some 14, some 15], [some 3, some 4, some 5, some 6, some 7, some 8, some 9, some 10, some 11, some 12], [], [], [], [], [], [], [], [], [], [], [], [], [], [some 17], [some 18, some 33, some 48, some 63, some 78, some 93, some 108, some 123], [some 19, some 30, some 31, some 32], [some 20, some 21, some 22, some 23, some 24, some 25, some 26, some 27, some 28, some 29], [], [], [], [], [], [], [], [], [], [], [], [], [], [some 34, some 45, some 46, some 47], [some 35, some 36, some 37, some 38, some 39, some 40, some 41, some 42, some 43, some 44], [], [], [], [], [], [], [], [], [], [], [], [], [], [some 49, some 60, some 61, some 62], [some 50, some 51, some 52, some 53, some 54, some 55, some 56, some 57, some 58, some 59], [], [], [], [], [], [], [], [], [], [], [], [], [], [some 64, some 75, some 76, some 77], [some 65, some 66, some 67, some 68, some 69, some 70, some 71, some 72, some 73, some 74], [], [], [], [], [], [], [], [], [], [], [], [], [], [some 79, some 90, some 91, some 92], [some 80, some 81, some 82, some 83, some 84, some 85, some 86, some 87, some 88, some 89], [], [], [], [], [], [], [], [], [], [], [], [], [], [some 94, some 105, some 106, some 107], [some 95, some 96, some 97, some 98, some 99, some 100, some 101, some 102, some 103, some 104], [], [], [], [], [], [], [], [], [], [], [], [], [], [some 109, some 120, some 121, some 122], [some 110, some 111, some 112, some 113, some 114, some 115, some 116, some 117, some 118, some 119], [], [], [], [], [], [], [], [], [], [], [], [], [], [some 124, some 135, some 136, some 137], [some 125, some 126, some 127, some 128, some 129, some 130, some 131, some 132, some 133, some 134], [], [], [], [], [], [], [], [], [], [], [], [], [], [some 139, some 154], [some 140, some 151, some 152, some 153], [some 141, some 142, some 143, some 144, some 145, some 146, some 147, some 148, some 149, some 150], [], [], [], [], [], [], [], [], [], [], [], [], [], [some 155, some 166, some 167, some 168], [some 156, some 157, some 158, some 159, some 160, some 161, some 162, some 163, some 164, some 165], [], [], [], [], [], [], [], [], [], [], [], [], [], [], [some 171], [], [], [some 174, some 175, some 176], [], [], [], [some 178, some 181, some 184, some 185, some 186, some 187, some 188], [some 179, some 180], [], [], [some 182, some 183], [], [], [], [], [], [], []]
/-- where a book's objects begin -/
def ob (b : Bool) : Nat := cond b 189 0
theorem ob_or (b : Bool) : ob b = 0 ∨ ob b = 189 := by cases b <;> simp [ob]
def K0 (a : Nat) : Nat ⊕ (Nat × Nat) := if a < 189 then kL.getD a (.inl 0) else if a < 378 then kL.getD (a - 189) (.inl 0) else if a % 2 = 0 then .inr (0, 40) else .inr (0, 4)
def R0 (a : Nat) (b : Int) : Option Nat := if a < 189 then (rL.getD a []).getD b.toNat none else if a < 378 then ((rL.getD (a - 189) []).getD b.toNat none).map (189 + ·) else none
theorem K0b {bb : Bool} {a : Nat} (h : a < 189) : K0 (ob bb + a) = kL.getD a (.inl 0) := by
  unfold K0
  cases bb
  · rw [show ob false + a = a from Nat.zero_add a, if_pos h]
  · rw [show ob true = 189 from rfl, if_neg (by omega), if_pos (by omega), show 189 + a - 189 = a by omega]
theorem R0b {bb : Bool} {a : Nat} (h : a < 189) (b : Int) : R0 (ob bb + a) b = ((rL.getD a []).getD b.toNat none).map (ob bb + ·) := by
  unfold R0
  cases bb
  · rw [show ob false + a = a from Nat.zero_add a, if_pos h]
    cases (rL.getD a []).getD b.toNat none with
    | none => rfl
    | some z => show some z = some (0 + z); rw [Nat.zero_add]
  · rw [show ob true = 189 from rfl, if_neg (by omega), if_pos (by omega), show 189 + a - 189 = a by omega]
/-- a state of the two made books and of nn rows that the law made: what their ints and longs are -/
abbrev st (nn : Nat) (i : Nat → Int → Int) (l : Nat → Int → BitVec 64) : mS := (378 + nn, K0, i, l, R0)
def cL : List Nat := [1, 18, 33, 48, 63, 78, 93, 108, 123, 139, 154]
theorem cL_lt {c : Nat} (h : c ∈ cL) : c + 15 ≤ 169 := (by decide : ∀ c ∈ cL, c + 15 ≤ 169) c h
/-- c is one of the eleven choirs of the book bb -/
def isC (bb : Bool) (c : Nat) : Prop := ∃ d, d ∈ cL ∧ c = ob bb + d
theorem isC_lt {bb : Bool} {c : Nat} (h : isC bb c) : c + 15 ≤ 378 := by
  obtain ⟨d, hd, rfl⟩ := h
  have := cL_lt hd
  rcases ob_or bb with e | e <;> omega
theorem isC_0 {nn : Nat} {bb : Bool} {c : Nat} (h : isC bb c) : c < 378 + nn := by have := isC_lt h; omega
theorem isC_S {nn : Nat} {bb : Bool} {c : Nat} (h : isC bb c) : c + 1 < 378 + nn := by have := isC_lt h; omega
theorem isC_T {nn : Nat} {bb : Bool} {c : Nat} (h : isC bb c) : c + 12 < 378 + nn := by have := isC_lt h; omega
theorem isC_O {nn : Nat} {bb : Bool} {c : Nat} (h : isC bb c) : c + 13 < 378 + nn := by have := isC_lt h; omega
theorem isC_W {nn : Nat} {bb : Bool} {c : Nat} (h : isC bb c) : c + 14 < 378 + nn := by have := isC_lt h; omega
theorem isC_s {nn : Nat} {bb : Bool} {c : Nat} (h : isC bb c) {k : Nat} (hk : k < 10) : c + 2 + k < 378 + nn := by have := isC_lt h; omega
theorem kC {bb : Bool} {c : Nat} (h : isC bb c) : K0 (c) = .inl 0 := by
  obtain ⟨d, hd, rfl⟩ := h
  have := cL_lt hd
  rw [K0b (by omega)]
  exact (by decide +kernel : ∀ d ∈ cL, kL.getD (d) (.inl 0) = .inl 0) d hd
theorem kCS {bb : Bool} {c : Nat} (h : isC bb c) : K0 (c + 1) = .inr (3, 10) := by
  obtain ⟨d, hd, rfl⟩ := h
  have := cL_lt hd
  rw [Nat.add_assoc, K0b (by omega)]
  exact (by decide +kernel : ∀ d ∈ cL, kL.getD (d + 1) (.inl 0) = .inr (3, 10)) d hd
theorem kCT {bb : Bool} {c : Nat} (h : isC bb c) : K0 (c + 12) = .inr (0, 4) := by
  obtain ⟨d, hd, rfl⟩ := h
  have := cL_lt hd
  rw [Nat.add_assoc, K0b (by omega)]
  exact (by decide +kernel : ∀ d ∈ cL, kL.getD (d + 12) (.inl 0) = .inr (0, 4)) d hd
theorem kCO {bb : Bool} {c : Nat} (h : isC bb c) : K0 (c + 13) = .inr (0, 160) := by
  obtain ⟨d, hd, rfl⟩ := h
  have := cL_lt hd
  rw [Nat.add_assoc, K0b (by omega)]
  exact (by decide +kernel : ∀ d ∈ cL, kL.getD (d + 13) (.inl 0) = .inr (0, 160)) d hd
theorem kCW {bb : Bool} {c : Nat} (h : isC bb c) : K0 (c + 14) = .inr (0, 4) := by
  obtain ⟨d, hd, rfl⟩ := h
  have := cL_lt hd
  rw [Nat.add_assoc, K0b (by omega)]
  exact (by decide +kernel : ∀ d ∈ cL, kL.getD (d + 14) (.inl 0) = .inr (0, 4)) d hd
theorem kCs {bb : Bool} {c : Nat} (h : isC bb c) {k : Nat} (hk : k < 10) : K0 (c + 2 + k) = .inl 5 := by
  obtain ⟨d, hd, rfl⟩ := h
  have := cL_lt hd
  rw [Nat.add_assoc, Nat.add_assoc, K0b (by omega)]
  exact (by decide +kernel : ∀ d ∈ cL, ∀ k, k < 10 → kL.getD (d + (2 + k)) (.inl 0) = .inl 5) d hd k hk
theorem rC0 {bb : Bool} {c : Nat} (h : isC bb c) : R0 c 0 = some (c + 1) := by
  obtain ⟨d, hd, rfl⟩ := h
  have := cL_lt hd
  rw [R0b (by omega), (by decide +kernel : ∀ d ∈ cL, (rL.getD d []).getD (0 : Int).toNat none = some (d + 1)) d hd]
  rfl
theorem rC1 {bb : Bool} {c : Nat} (h : isC bb c) : R0 c 1 = some (c + 12) := by
  obtain ⟨d, hd, rfl⟩ := h
  have := cL_lt hd
  rw [R0b (by omega), (by decide +kernel : ∀ d ∈ cL, (rL.getD d []).getD (1 : Int).toNat none = some (d + 12)) d hd]
  rfl
theorem rC2 {bb : Bool} {c : Nat} (h : isC bb c) : R0 c 2 = some (c + 13) := by
  obtain ⟨d, hd, rfl⟩ := h
  have := cL_lt hd
  rw [R0b (by omega), (by decide +kernel : ∀ d ∈ cL, (rL.getD d []).getD (2 : Int).toNat none = some (d + 13)) d hd]
  rfl
theorem rC3 {bb : Bool} {c : Nat} (h : isC bb c) : R0 c 3 = some (c + 14) := by
  obtain ⟨d, hd, rfl⟩ := h
  have := cL_lt hd
  rw [R0b (by omega), (by decide +kernel : ∀ d ∈ cL, (rL.getD d []).getD (3 : Int).toNat none = some (d + 14)) d hd]
  rfl
theorem rCs {bb : Bool} {c : Nat} (h : isC bb c) {x : Int} (hx : 0 ≤ x ∧ x < 10) : R0 (c + 1) x = some (c + 2 + x.toNat) := by
  obtain ⟨d, hd, rfl⟩ := h
  have := cL_lt hd
  rw [Nat.add_assoc, R0b (by omega), (by decide +kernel : ∀ d ∈ cL, ∀ k, k < 10 → (rL.getD (d + 1) []).getD k none = some (d + 2 + k)) d hd x.toNat (by omega)]
  show some (ob bb + (d + 2 + x.toNat)) = _
  congr 1; omega
/-- q is a singer's object of some choir of the book -/
def isS (bb : Bool) (q : Nat) : Prop := ∃ c k, isC bb c ∧ k < 10 ∧ q = c + 2 + k
theorem isS.of {bb : Bool} {c : Nat} (h : isC bb c) {k : Nat} (hk : k < 10) : isS bb (c + 2 + k) := ⟨c, k, h, hk, rfl⟩
theorem isS_lt {nn : Nat} {bb : Bool} {q : Nat} (h : isS bb q) : q < 378 + nn := by
  obtain ⟨c, k, hc, hk, rfl⟩ := h
  exact isC_s hc hk
theorem kS {bb : Bool} {q : Nat} (h : isS bb q) : K0 q = .inl 5 := by
  obtain ⟨c, k, hc, hk, rfl⟩ := h
  exact kCs hc hk
/-- the states of the history and the images are choirs -/
theorem rH {bb : Bool} {x : Int} (hx : 0 ≤ x ∧ x < 8) : R0 (ob bb + 17) x = some (ob bb + 18 + 15 * x.toNat) := by
  rw [R0b (by omega), (by decide +kernel : ∀ k, k < 8 → (rL.getD 17 []).getD k none = some (18 + 15 * k)) x.toNat (by omega)]
  show some (ob bb + (18 + 15 * x.toNat)) = _
  congr 1; omega
theorem isC_h {bb : Bool} {k : Nat} (hk : k < 8) : isC bb (ob bb + 18 + 15 * k) := ⟨18 + 15 * k, (by decide : ∀ k, k < 8 → 18 + 15 * k ∈ cL) k hk, by omega⟩
theorem rM {bb : Bool} {x : Int} (hx : 0 ≤ x ∧ x < 2) : R0 (ob bb + 138) x = some (ob bb + 139 + 15 * x.toNat) := by
  rw [R0b (by omega), (by decide +kernel : ∀ k, k < 2 → (rL.getD 138 []).getD k none = some (139 + 15 * k)) x.toNat (by omega)]
  show some (ob bb + (139 + 15 * x.toNat)) = _
  congr 1; omega
theorem isC_m {bb : Bool} {k : Nat} (hk : k < 2) : isC bb (ob bb + 139 + 15 * k) := ⟨139 + 15 * k, (by decide : ∀ k, k < 2 → 139 + 15 * k ∈ cL) k hk, by omega⟩
theorem isC_1 {bb : Bool} : isC bb (ob bb + 1) := ⟨1, (by decide : (1 : Nat) ∈ cL), rfl⟩
/-! ends of methods -/
abbrev qI (e : Int) (g : mS) : Option mV → mS → Prop := fun v g' => v = some (vI e) ∧ g' = g
abbrev qL (e : BitVec 64) (g : mS) : Option mV → mS → Prop := fun v g' => v = some (vL e) ∧ g' = g
abbrev qB (P : Prop) (g : mS) : Option mV → mS → Prop := fun v g' => g' = g ∧ ((P ∧ v = some (vI 1)) ∨ (¬ P ∧ v = some (vI 0)))
abbrev qV (nn : Nat) (P : (Nat → Int → Int) → (Nat → Int → BitVec 64) → Prop) : Option mV → mS → Prop := fun v g' => v = none ∧ ∃ i' l', g' = st nn i' l' ∧ P i' l'
abbrev qW (nn : Nat) (P : Int → (Nat → Int → Int) → (Nat → Int → BitVec 64) → Prop) : Option mV → mS → Prop := fun v g' => ∃ z i' l', v = some (vI z) ∧ g' = st nn i' l' ∧ P z i' l'
/-- sums, counted from 0 on -/
def sumN (f : Int → Int) : Nat → Int
  | 0 => 0
  | n + 1 => sumN f n + f n
def sumZ (f : Int → Int) (x : Int) : Int := sumN f x.toNat
theorem sumZ_0 (f : Int → Int) : sumZ f 0 = 0 := rfl
theorem sumZ_s (f : Int → Int) {x : Int} (h : 0 ≤ x) : sumZ f (x + 1) = sumZ f x + f x := by
  unfold sumZ
  rw [show (x + 1).toNat = x.toNat + 1 by omega]
  show sumN f x.toNat + f (x.toNat : Int) = _
  rw [Int.toNat_of_nonneg h]
theorem sumN_congr {f f' : Int → Int} {n : Nat} (h : ∀ k : Int, 0 ≤ k → k < n → f k = f' k) : sumN f n = sumN f' n := by
  induction n with
  | zero => rfl
  | succ n ih =>
    show sumN f n + f n = sumN f' n + f' n
    rw [ih (fun k h0 h1 => h k h0 (by omega)), h n (by omega) (by omega)]
theorem sumZ_congr {f f' : Int → Int} {x : Int} (h : ∀ k, 0 ≤ k → k < x → f k = f' k) : sumZ f x = sumZ f' x := sumN_congr (fun k h0 h1 => h k h0 (by omega))
theorem sumN_bd {f : Int → Int} {n : Nat} {a b : Int} (h : ∀ k : Int, 0 ≤ k → k < n → a ≤ f k ∧ f k ≤ b) : a * n ≤ sumN f n ∧ sumN f n ≤ b * n := by
  induction n with
  | zero => simp [sumN]
  | succ n ih =>
    have h1 := ih (fun k h0 h1 => h k h0 (by omega))
    have h2 := h n (by omega) (by omega)
    show a * ((n + 1 : Nat) : Int) ≤ sumN f n + f n ∧ sumN f n + f n ≤ b * ((n + 1 : Nat) : Int)
    rw [Int.natCast_add, Int.mul_add, Int.mul_add]
    omega
theorem sumZ_bd {f : Int → Int} {x a b : Int} (hx : 0 ≤ x) (h : ∀ k, 0 ≤ k → k < x → a ≤ f k ∧ f k ≤ b) : a * x ≤ sumZ f x ∧ sumZ f x ≤ b * x := by
  have := sumN_bd (f := f) (n := x.toNat) (a := a) (b := b) (fun k h0 h1 => h k h0 (by omega))
  rwa [Int.toNat_of_nonneg hx] at this
theorem k_0 {bb : Bool} : K0 (ob bb) = .inl 8 := (K0b (a := 0) (by decide)).trans (by decide +kernel)
theorem r_0_0 {bb : Bool} : R0 (ob bb) 0 = some (ob bb + 1) := (R0b (a := 0) (by decide) 0).trans (by rw [show (rL.getD 0 []).getD (0 : Int).toNat none = some 1 by decide +kernel]; rfl)
theorem r_0_1 {bb : Bool} : R0 (ob bb) 1 = some (ob bb + 16) := (R0b (a := 0) (by decide) 1).trans (by rw [show (rL.getD 0 []).getD (1 : Int).toNat none = some 16 by decide +kernel]; rfl)
theorem r_0_2 {bb : Bool} : R0 (ob bb) 2 = some (ob bb + 138) := (R0b (a := 0) (by decide) 2).trans (by rw [show (rL.getD 0 []).getD (2 : Int).toNat none = some 138 by decide +kernel]; rfl)
theorem r_0_3 {bb : Bool} : R0 (ob bb) 3 = some (ob bb + 169) := (R0b (a := 0) (by decide) 3).trans (by rw [show (rL.getD 0 []).getD (3 : Int).toNat none = some 169 by decide +kernel]; rfl)
theorem r_0_4 {bb : Bool} : R0 (ob bb) 4 = some (ob bb + 170) := (R0b (a := 0) (by decide) 4).trans (by rw [show (rL.getD 0 []).getD (4 : Int).toNat none = some 170 by decide +kernel]; rfl)
theorem r_0_5 {bb : Bool} : R0 (ob bb) 5 = some (ob bb + 172) := (R0b (a := 0) (by decide) 5).trans (by rw [show (rL.getD 0 []).getD (5 : Int).toNat none = some 172 by decide +kernel]; rfl)
theorem r_0_6 {bb : Bool} : R0 (ob bb) 6 = some (ob bb + 173) := (R0b (a := 0) (by decide) 6).trans (by rw [show (rL.getD 0 []).getD (6 : Int).toNat none = some 173 by decide +kernel]; rfl)
theorem r_0_7 {bb : Bool} : R0 (ob bb) 7 = some (ob bb + 177) := (R0b (a := 0) (by decide) 7).trans (by rw [show (rL.getD 0 []).getD (7 : Int).toNat none = some 177 by decide +kernel]; rfl)
theorem k_16 {bb : Bool} : K0 (ob bb + 16) = .inl 1 := (K0b (a := 16) (by decide)).trans (by decide +kernel)
theorem r_16_0 {bb : Bool} : R0 (ob bb + 16) 0 = some (ob bb + 17) := (R0b (a := 16) (by decide) 0).trans (by rw [show (rL.getD 16 []).getD (0 : Int).toNat none = some 17 by decide +kernel]; rfl)
theorem k_17 {bb : Bool} : K0 (ob bb + 17) = .inr (4, 8) := (K0b (a := 17) (by decide)).trans (by decide +kernel)
theorem k_138 {bb : Bool} : K0 (ob bb + 138) = .inr (4, 2) := (K0b (a := 138) (by decide)).trans (by decide +kernel)
theorem k_169 {bb : Bool} : K0 (ob bb + 169) = .inr (2, 2) := (K0b (a := 169) (by decide)).trans (by decide +kernel)
theorem k_170 {bb : Bool} : K0 (ob bb + 170) = .inl 7 := (K0b (a := 170) (by decide)).trans (by decide +kernel)
theorem r_170_0 {bb : Bool} : R0 (ob bb + 170) 0 = some (ob bb + 171) := (R0b (a := 170) (by decide) 0).trans (by rw [show (rL.getD 170 []).getD (0 : Int).toNat none = some 171 by decide +kernel]; rfl)
theorem k_171 {bb : Bool} : K0 (ob bb + 171) = .inr (0, 60) := (K0b (a := 171) (by decide)).trans (by decide +kernel)
theorem k_172 {bb : Bool} : K0 (ob bb + 172) = .inl 3 := (K0b (a := 172) (by decide)).trans (by decide +kernel)
theorem k_173 {bb : Bool} : K0 (ob bb + 173) = .inl 4 := (K0b (a := 173) (by decide)).trans (by decide +kernel)
theorem r_173_0 {bb : Bool} : R0 (ob bb + 173) 0 = some (ob bb + 174) := (R0b (a := 173) (by decide) 0).trans (by rw [show (rL.getD 173 []).getD (0 : Int).toNat none = some 174 by decide +kernel]; rfl)
theorem r_173_1 {bb : Bool} : R0 (ob bb + 173) 1 = some (ob bb + 175) := (R0b (a := 173) (by decide) 1).trans (by rw [show (rL.getD 173 []).getD (1 : Int).toNat none = some 175 by decide +kernel]; rfl)
theorem r_173_2 {bb : Bool} : R0 (ob bb + 173) 2 = some (ob bb + 176) := (R0b (a := 173) (by decide) 2).trans (by rw [show (rL.getD 173 []).getD (2 : Int).toNat none = some 176 by decide +kernel]; rfl)
theorem k_174 {bb : Bool} : K0 (ob bb + 174) = .inr (0, 10) := (K0b (a := 174) (by decide)).trans (by decide +kernel)
theorem k_175 {bb : Bool} : K0 (ob bb + 175) = .inr (0, 4) := (K0b (a := 175) (by decide)).trans (by decide +kernel)
theorem k_176 {bb : Bool} : K0 (ob bb + 176) = .inr (0, 4) := (K0b (a := 176) (by decide)).trans (by decide +kernel)
theorem k_177 {bb : Bool} : K0 (ob bb + 177) = .inl 2 := (K0b (a := 177) (by decide)).trans (by decide +kernel)
theorem r_177_0 {bb : Bool} : R0 (ob bb + 177) 0 = some (ob bb + 178) := (R0b (a := 177) (by decide) 0).trans (by rw [show (rL.getD 177 []).getD (0 : Int).toNat none = some 178 by decide +kernel]; rfl)
theorem r_177_1 {bb : Bool} : R0 (ob bb + 177) 1 = some (ob bb + 181) := (R0b (a := 177) (by decide) 1).trans (by rw [show (rL.getD 177 []).getD (1 : Int).toNat none = some 181 by decide +kernel]; rfl)
theorem r_177_2 {bb : Bool} : R0 (ob bb + 177) 2 = some (ob bb + 184) := (R0b (a := 177) (by decide) 2).trans (by rw [show (rL.getD 177 []).getD (2 : Int).toNat none = some 184 by decide +kernel]; rfl)
theorem r_177_3 {bb : Bool} : R0 (ob bb + 177) 3 = some (ob bb + 185) := (R0b (a := 177) (by decide) 3).trans (by rw [show (rL.getD 177 []).getD (3 : Int).toNat none = some 185 by decide +kernel]; rfl)
theorem r_177_4 {bb : Bool} : R0 (ob bb + 177) 4 = some (ob bb + 186) := (R0b (a := 177) (by decide) 4).trans (by rw [show (rL.getD 177 []).getD (4 : Int).toNat none = some 186 by decide +kernel]; rfl)
theorem r_177_5 {bb : Bool} : R0 (ob bb + 177) 5 = some (ob bb + 187) := (R0b (a := 177) (by decide) 5).trans (by rw [show (rL.getD 177 []).getD (5 : Int).toNat none = some 187 by decide +kernel]; rfl)
theorem r_177_6 {bb : Bool} : R0 (ob bb + 177) 6 = some (ob bb + 188) := (R0b (a := 177) (by decide) 6).trans (by rw [show (rL.getD 177 []).getD (6 : Int).toNat none = some 188 by decide +kernel]; rfl)
theorem k_178 {bb : Bool} : K0 (ob bb + 178) = .inl 6 := (K0b (a := 178) (by decide)).trans (by decide +kernel)
theorem r_178_0 {bb : Bool} : R0 (ob bb + 178) 0 = some (ob bb + 179) := (R0b (a := 178) (by decide) 0).trans (by rw [show (rL.getD 178 []).getD (0 : Int).toNat none = some 179 by decide +kernel]; rfl)
theorem r_178_1 {bb : Bool} : R0 (ob bb + 178) 1 = some (ob bb + 180) := (R0b (a := 178) (by decide) 1).trans (by rw [show (rL.getD 178 []).getD (1 : Int).toNat none = some 180 by decide +kernel]; rfl)
theorem k_179 {bb : Bool} : K0 (ob bb + 179) = .inr (1, 1024) := (K0b (a := 179) (by decide)).trans (by decide +kernel)
theorem k_180 {bb : Bool} : K0 (ob bb + 180) = .inr (1, 1024) := (K0b (a := 180) (by decide)).trans (by decide +kernel)
theorem k_181 {bb : Bool} : K0 (ob bb + 181) = .inl 6 := (K0b (a := 181) (by decide)).trans (by decide +kernel)
theorem r_181_0 {bb : Bool} : R0 (ob bb + 181) 0 = some (ob bb + 182) := (R0b (a := 181) (by decide) 0).trans (by rw [show (rL.getD 181 []).getD (0 : Int).toNat none = some 182 by decide +kernel]; rfl)
theorem r_181_1 {bb : Bool} : R0 (ob bb + 181) 1 = some (ob bb + 183) := (R0b (a := 181) (by decide) 1).trans (by rw [show (rL.getD 181 []).getD (1 : Int).toNat none = some 183 by decide +kernel]; rfl)
theorem k_182 {bb : Bool} : K0 (ob bb + 182) = .inr (1, 1024) := (K0b (a := 182) (by decide)).trans (by decide +kernel)
theorem k_183 {bb : Bool} : K0 (ob bb + 183) = .inr (1, 1024) := (K0b (a := 183) (by decide)).trans (by decide +kernel)
theorem k_184 {bb : Bool} : K0 (ob bb + 184) = .inr (0, 1024) := (K0b (a := 184) (by decide)).trans (by decide +kernel)
theorem k_185 {bb : Bool} : K0 (ob bb + 185) = .inr (0, 4) := (K0b (a := 185) (by decide)).trans (by decide +kernel)
theorem k_186 {bb : Bool} : K0 (ob bb + 186) = .inr (0, 10) := (K0b (a := 186) (by decide)).trans (by decide +kernel)
theorem k_187 {bb : Bool} : K0 (ob bb + 187) = .inr (0, 10) := (K0b (a := 187) (by decide)).trans (by decide +kernel)
theorem k_188 {bb : Bool} : K0 (ob bb + 188) = .inr (0, 10) := (K0b (a := 188) (by decide)).trans (by decide +kernel)
theorem b_lt {nn : Nat} {bb : Bool} {k : Nat} (h : Nat.blt k 189 = true) : ob bb + k < 378 + nn := by
  have : k < 189 := by simpa using h
  rcases ob_or bb with e | e <;> omega
theorem b_lt0 {nn : Nat} {bb : Bool} : ob bb < 378 + nn := by rcases ob_or bb with e | e <;> omega
theorem kA1 {nn : Nat} (h : nn % 2 = 0) : K0 (378 + nn) = .inr (0, 40) := by unfold K0; rw [if_neg (by omega), if_neg (by omega), if_pos (by omega)]
theorem kA2 {nn : Nat} (h : nn % 2 = 0) : K0 (378 + (nn + 1)) = .inr (0, 4) := by unfold K0; rw [if_neg (by omega), if_neg (by omega), if_neg (by omega)]
theorem rA (a : Nat) (h : 378 ≤ a) (b : Int) : R0 a b = none := by unfold R0; rw [if_neg (by omega), if_neg (by omega)]
