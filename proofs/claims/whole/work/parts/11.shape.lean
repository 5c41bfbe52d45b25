/-! the shape of the two systems, once made: which object is which, by the order in which they are made -/
def kL : List (Nat ⊕ (Nat × Nat)) := [.inl 8, .inl 0, .inr (3, 10), .inl 5, .inl 5, .inl 5, .inl 5, .inl 5, .inl 5, .inl 5, .inl 5, .inl 5, .inl 5, .inr (0, 4), .inr (0, 160), .inr (0, 4), .inl 1, .inr (4, 8), .inl 0, .inr (3, 10), .inl 5, .inl 5, .inl 5, .inl 5, .inl 5, .inl 5, .inl 5, .inl 5, .inl 5, .inl 5, .inr (0, 4), .inr (0, 160), .inr (0, 4), .inl 0, .inr (3, 10), .inl 5, .inl 5, .inl 5, .inl 5, .inl 5, .inl 5, .inl 5, .inl 5, .inl 5, .inl 5, .inr (0, 4), .inr (0, 160), .inr (0, 4), .inl 0, .inr (3, 10), .inl 5, .inl 5, .inl 5, .inl 5, .inl 5, .inl 5, .inl 5, .inl 5, .inl 5, .inl 5, .inr (0, 4), .inr (0, 160), .inr (0, 4), .inl 0, .inr (3, 10), .inl 5, .inl 5, .inl 5, .inl 5, .inl 5, .inl 5, .inl 5, .inl 5, .inl 5, .inl 5, .inr (0, 4), .inr (0, 160), .inr (0, 4), .inl 0, .inr (3, 10), .inl 5, .inl 5, .inl 5, .inl 5, .inl 5, .inl 5, .inl 5, .inl 5, .inl 5, .inl 5, .inr (0, 4), .inr (0, 160), .inr (0, 4), .inl 0, .inr (3, 10), .inl 5, .inl 5, .inl 5, .inl 5, .inl 5, .inl 5, .inl 5, .inl 5, .inl 5, .inl 5, .inr (0, 4), .inr (0, 160), .inr (0, 4), .inl 0, .inr (3, 10), .inl 5, .inl 5, .inl 5, .inl 5, .inl 5, .inl 5, .inl 5, .inl 5, .inl 5, .inl 5, .inr (0, 4), .inr (0, 160), .inr (0, 4), .inl 0, .inr (3, 10), .inl 5, .inl 5, .inl 5, .inl 5, .inl 5, .inl 5, .inl 5, .inl 5, .inl 5, .inl 5, .inr (0, 4), .inr (0, 160), .inr (0, 4), .inr (4, 2), .inl 0, .inr (3, 10), .inl 5, .inl 5, .inl 5, .inl 5, .inl 5, .inl 5, .inl 5, .inl 5, .inl 5, .inl 5, .inr (0, 4), .inr (0, 160), .inr (0, 4), .inl 0, .inr (3, 10), .inl 5, .inl 5, .inl 5, .inl 5, .inl 5, .inl 5, .inl 5, .inl 5, .inl 5, .inl 5, .inr (0, 4), .inr (0, 160), .inr (0, 4), .inr (2, 2), .inl 7, .inr (0, 60), .inl 3, .inl 4, .inr (0, 10), .inr (0, 4), .inr (0, 4), .inl 2, .inl 6, .inr (1, 1024), .inr (1, 1024), .inl 6, .inr (1, 1024), .inr (1, 1024), .inr (0, 1024), .inr (0, 4), .inr (0, 10), .inr (0, 10), .inr (0, 10), .inl 9, .inr (0, 652), .inr (0, 5216), .inr (0, 1304), .inr (0, 60), .inr (0, 10), .inr (0, 10), .inr (0, 10), .inr (0, 4), .inr (0, 10), .inr (0, 4), .inr (0, 4), .inr (0, 30), .inr (0, 30), .inr (0, 30)]
def rL : List (List (Option Nat)) := [[some 1, some 16, some 138, some 169, some 170, some 172, some 173, some 177], [some 2, some 13, some 14, some 15], [some 3, some 4, some 5, some 6, some 7, some 8, some 9, some 10, some 11, some 12], [], [], [], [], [], [], [], [], [], [], [], [], [], [some 17], [some 18, some 33, some 48, some 63, some 78, some 93, some 108, some 123], [some 19, some 30, some 31, some 32], [some 20, some 21, some 22, some 23, some 24, some 25, some 26, some 27, some 28, some 29], [], [], [], [], [], [], [], [], [], [], [], [], [], [some 34, some 45, some 46, some 47], [some 35, some 36, some 37, some 38, some 39, some 40, some 41, some 42, some 43, some 44], [], [], [], [], [], [], [], [], [], [], [], [], [], [some 49, some 60, some 61, some 62], [some 50, some 51, some 52, some 53, some 54, some 55, some 56, some 57, some 58, some 59], [], [], [], [], [], [], [], [], [], [], [], [], [], [some 64, some 75, some 76, some 77], [some 65, some 66, some 67, some 68, some 69, some 70, some 71, some 72, some 73, some 74], [], [], [], [], [], [], [], [], [], [], [], [], [], [some 79, some 90, some 91, some 92], [some 80, some 81, some 82, some 83, some 84, some 85, some 86, some 87, some 88, some 89], [], [], [], [], [], [], [], [], [], [], [], [], [], [some 94, some 105, some 106, some 107], [some 95, some 96, some 97, some 98, some 99, some 100, some 101, some 102, some 103, some 104], [], [], [], [], [], [], [], [], [], [], [], [], [], [some 109, some 120, some 121, some 122], [some 110, some 111, some 112, some 113, some 114, some 115, some 116, some 117, some 118, some 119], [], [], [], [], [], [], [], [], [], [], [], [], [], [some 124, some 135, some 136, some 137], [some 125, some 126, some 127, some 128, some 129, some 130, some 131, some 132, some 133, some 134], [], [], [], [], [], [], [], [], [], [], [], [], [], [some 139, some 154], [some 140, some 151, some 152, some 153], [some 141, some 142, some 143, some 144, some 145, some 146, some 147, some 148, some 149, some 150], [], [], [], [], [], [], [], [], [], [], [], [], [], [some 155, some 166, some 167, some 168], [some 156, some 157, some 158, some 159, some 160, some 161, some 162, some 163, some 164, some 165], [], [], [], [], [], [], [], [], [], [], [], [], [], [], [some 171], [], [], [some 174, some 175, some 176], [], [], [], [some 178, some 181, some 184, some 185, some 186, some 187, some 188], [some 179, some 180], [], [], [some 182, some 183], [], [], [], [], [], [], [], [some 190, some 191, none, some 192, none, some 193, none, none, none, none, none, some 194, some 195, some 196, some 197, none, none, some 198, some 199, some 200, none, some 201, some 202, some 203], [], [], [], [], [], [], [], [], [], [], [], [], [], []]
def K0 (a : Nat) : Nat ⊕ (Nat × Nat) := kL.getD a (.inl 0)
def R0 (a : Nat) (b : Int) : Option Nat := (rL.getD a []).getD b.toNat none
/-- a state of the made systems: what their ints and longs are -/
abbrev st (i : Nat → Int → Int) (l : Nat → Int → BitVec 64) : mS := (204, K0, i, l, R0)
def cL : List Nat := [1, 18, 33, 48, 63, 78, 93, 108, 123, 139, 154]
/-- c is one of the eleven choirs -/
def isC (c : Nat) : Prop := c ∈ cL
theorem isC_lt {c : Nat} (h : isC c) : c + 15 ≤ 204 := by
  have : ∀ c ∈ cL, c + 15 ≤ 204 := by decide
  exact this c h
theorem isC_0 {c : Nat} (h : isC c) : c < 204 := by have := isC_lt h; omega
theorem isC_S {c : Nat} (h : isC c) : c + 1 < 204 := by have := isC_lt h; omega
theorem isC_T {c : Nat} (h : isC c) : c + 12 < 204 := by have := isC_lt h; omega
theorem isC_O {c : Nat} (h : isC c) : c + 13 < 204 := by have := isC_lt h; omega
theorem isC_W {c : Nat} (h : isC c) : c + 14 < 204 := by have := isC_lt h; omega
theorem isC_s {c : Nat} (h : isC c) {k : Nat} (hk : k < 10) : c + 2 + k < 204 := by have := isC_lt h; omega
theorem kC {c : Nat} (h : isC c) : K0 c = .inl 0 := (by decide +kernel : ∀ c ∈ cL, K0 c = .inl 0) c h
theorem kCS {c : Nat} (h : isC c) : K0 (c + 1) = .inr (3, 10) := (by decide +kernel : ∀ c ∈ cL, K0 (c + 1) = .inr (3, 10)) c h
theorem kCT {c : Nat} (h : isC c) : K0 (c + 12) = .inr (0, 4) := (by decide +kernel : ∀ c ∈ cL, K0 (c + 12) = .inr (0, 4)) c h
theorem kCO {c : Nat} (h : isC c) : K0 (c + 13) = .inr (0, 160) := (by decide +kernel : ∀ c ∈ cL, K0 (c + 13) = .inr (0, 160)) c h
theorem kCW {c : Nat} (h : isC c) : K0 (c + 14) = .inr (0, 4) := (by decide +kernel : ∀ c ∈ cL, K0 (c + 14) = .inr (0, 4)) c h
theorem kCs {c : Nat} (h : isC c) {k : Nat} (hk : k < 10) : K0 (c + 2 + k) = .inl 5 := (by decide +kernel : ∀ c ∈ cL, ∀ k, k < 10 → K0 (c + 2 + k) = .inl 5) c h k hk
theorem rC0 {c : Nat} (h : isC c) : R0 c 0 = some (c + 1) := (by decide +kernel : ∀ c ∈ cL, R0 c 0 = some (c + 1)) c h
theorem rC1 {c : Nat} (h : isC c) : R0 c 1 = some (c + 12) := (by decide +kernel : ∀ c ∈ cL, R0 c 1 = some (c + 12)) c h
theorem rC2 {c : Nat} (h : isC c) : R0 c 2 = some (c + 13) := (by decide +kernel : ∀ c ∈ cL, R0 c 2 = some (c + 13)) c h
theorem rC3 {c : Nat} (h : isC c) : R0 c 3 = some (c + 14) := (by decide +kernel : ∀ c ∈ cL, R0 c 3 = some (c + 14)) c h
theorem rCs {c : Nat} (h : isC c) {x : Int} (hx : 0 ≤ x ∧ x < 10) : R0 (c + 1) x = some (c + 2 + x.toNat) := by
  have h1 := (by decide +kernel : ∀ c ∈ cL, ∀ k, k < 10 → R0 (c + 1) ((k : Nat) : Int) = some (c + 2 + k)) c h x.toNat (by omega)
  rwa [Int.toNat_of_nonneg hx.1] at h1
/-- q is a singer's object of some choir -/
def isS (q : Nat) : Prop := ∃ c k, isC c ∧ k < 10 ∧ q = c + 2 + k
theorem isS.of {c : Nat} (h : isC c) {k : Nat} (hk : k < 10) : isS (c + 2 + k) := ⟨c, k, h, hk, rfl⟩
theorem isS_lt {q : Nat} (h : isS q) : q < 204 := by
  obtain ⟨c, k, hc, hk, rfl⟩ := h
  exact isC_s hc hk
theorem kS {q : Nat} (h : isS q) : K0 q = .inl 5 := by
  obtain ⟨c, k, hc, hk, rfl⟩ := h
  exact kCs hc hk
/-- the states of the history and the images are choirs -/
theorem rH {x : Int} (hx : 0 ≤ x ∧ x < 8) : R0 17 x = some (18 + 15 * x.toNat) := by
  have h1 := (by decide +kernel : ∀ k, k < 8 → R0 17 ((k : Nat) : Int) = some (18 + 15 * k)) x.toNat (by omega)
  rwa [Int.toNat_of_nonneg hx.1] at h1
theorem isC_h {k : Nat} (hk : k < 8) : isC (18 + 15 * k) := (by decide : ∀ k, k < 8 → 18 + 15 * k ∈ cL) k hk
theorem rM {x : Int} (hx : 0 ≤ x ∧ x < 2) : R0 138 x = some (139 + 15 * x.toNat) := by
  have h1 := (by decide +kernel : ∀ k, k < 2 → R0 138 ((k : Nat) : Int) = some (139 + 15 * k)) x.toNat (by omega)
  rwa [Int.toNat_of_nonneg hx.1] at h1
theorem isC_m {k : Nat} (hk : k < 2) : isC (139 + 15 * k) := (by decide : ∀ k, k < 2 → 139 + 15 * k ∈ cL) k hk
theorem isC_1 : isC 1 := (by decide : (1 : Nat) ∈ cL)
/-! ends of methods -/
abbrev qI (e : Int) (g : mS) : Option mV → mS → Prop := fun v g' => v = some (vI e) ∧ g' = g
abbrev qL (e : BitVec 64) (g : mS) : Option mV → mS → Prop := fun v g' => v = some (vL e) ∧ g' = g
abbrev qB (P : Prop) (g : mS) : Option mV → mS → Prop := fun v g' => g' = g ∧ ((P ∧ v = some (vI 1)) ∨ (¬ P ∧ v = some (vI 0)))
abbrev qV (P : (Nat → Int → Int) → (Nat → Int → BitVec 64) → Prop) : Option mV → mS → Prop := fun v g' => v = none ∧ ∃ i' l', g' = st i' l' ∧ P i' l'
abbrev qW (P : Int → (Nat → Int → Int) → (Nat → Int → BitVec 64) → Prop) : Option mV → mS → Prop := fun v g' => ∃ z i' l', v = some (vI z) ∧ g' = st i' l' ∧ P z i' l'
/-- sums, counted from 0 on -/
def sumN (f : Int → Int) : Nat → Int
  | 0 => 0
  | n + 1 => sumN f n + f n
def sumZ (f : Int → Int) (x : Int) : Int := sumN f x.toNat
theorem sumZ_0 (f : Int → Int) : sumZ f 0 = 0 := rfl
theorem sumZ_s (f : Int → Int) {x : Int} (h : 0 ≤ x) : sumZ f (x + 1) = sumZ f x + f x := by
  unfold sumZ
  rw [show (x + 1).toNat = x.toNat + 1 by omega]
  show sumN f x.toNat + f (x.toNat : Int) = _
  rw [Int.toNat_of_nonneg h]
theorem sumN_congr {f f' : Int → Int} {n : Nat} (h : ∀ k : Int, 0 ≤ k → k < n → f k = f' k) : sumN f n = sumN f' n := by
  induction n with
  | zero => rfl
  | succ n ih =>
    show sumN f n + f n = sumN f' n + f' n
    rw [ih (fun k h0 h1 => h k h0 (by omega)), h n (by omega) (by omega)]
theorem sumZ_congr {f f' : Int → Int} {x : Int} (h : ∀ k, 0 ≤ k → k < x → f k = f' k) : sumZ f x = sumZ f' x := sumN_congr (fun k h0 h1 => h k h0 (by omega))
theorem sumN_bd {f : Int → Int} {n : Nat} {a b : Int} (h : ∀ k : Int, 0 ≤ k → k < n → a ≤ f k ∧ f k ≤ b) : a * n ≤ sumN f n ∧ sumN f n ≤ b * n := by
  induction n with
  | zero => simp [sumN]
  | succ n ih =>
    have h1 := ih (fun k h0 h1 => h k h0 (by omega))
    have h2 := h n (by omega) (by omega)
    show a * ((n + 1 : Nat) : Int) ≤ sumN f n + f n ∧ sumN f n + f n ≤ b * ((n + 1 : Nat) : Int)
    rw [Int.natCast_add, Int.mul_add, Int.mul_add]
    omega
theorem sumZ_bd {f : Int → Int} {x a b : Int} (hx : 0 ≤ x) (h : ∀ k, 0 ≤ k → k < x → a ≤ f k ∧ f k ≤ b) : a * x ≤ sumZ f x ∧ sumZ f x ≤ b * x := by
  have := sumN_bd (f := f) (n := x.toNat) (a := a) (b := b) (fun k h0 h1 => h k h0 (by omega))
  rwa [Int.toNat_of_nonneg hx] at this
theorem k_0 : K0 0 = .inl 8 := by decide +kernel
theorem r_0_0 : R0 0 0 = some 1 := by decide +kernel
theorem r_0_1 : R0 0 1 = some 16 := by decide +kernel
theorem r_0_2 : R0 0 2 = some 138 := by decide +kernel
theorem r_0_3 : R0 0 3 = some 169 := by decide +kernel
theorem r_0_4 : R0 0 4 = some 170 := by decide +kernel
theorem r_0_5 : R0 0 5 = some 172 := by decide +kernel
theorem r_0_6 : R0 0 6 = some 173 := by decide +kernel
theorem r_0_7 : R0 0 7 = some 177 := by decide +kernel
theorem k_16 : K0 16 = .inl 1 := by decide +kernel
theorem r_16_0 : R0 16 0 = some 17 := by decide +kernel
theorem k_17 : K0 17 = .inr (4, 8) := by decide +kernel
theorem k_138 : K0 138 = .inr (4, 2) := by decide +kernel
theorem k_169 : K0 169 = .inr (2, 2) := by decide +kernel
theorem k_170 : K0 170 = .inl 7 := by decide +kernel
theorem r_170_0 : R0 170 0 = some 171 := by decide +kernel
theorem k_171 : K0 171 = .inr (0, 60) := by decide +kernel
theorem k_172 : K0 172 = .inl 3 := by decide +kernel
theorem k_173 : K0 173 = .inl 4 := by decide +kernel
theorem r_173_0 : R0 173 0 = some 174 := by decide +kernel
theorem r_173_1 : R0 173 1 = some 175 := by decide +kernel
theorem r_173_2 : R0 173 2 = some 176 := by decide +kernel
theorem k_174 : K0 174 = .inr (0, 10) := by decide +kernel
theorem k_175 : K0 175 = .inr (0, 4) := by decide +kernel
theorem k_176 : K0 176 = .inr (0, 4) := by decide +kernel
theorem k_177 : K0 177 = .inl 2 := by decide +kernel
theorem r_177_0 : R0 177 0 = some 178 := by decide +kernel
theorem r_177_1 : R0 177 1 = some 181 := by decide +kernel
theorem r_177_2 : R0 177 2 = some 184 := by decide +kernel
theorem r_177_3 : R0 177 3 = some 185 := by decide +kernel
theorem r_177_4 : R0 177 4 = some 186 := by decide +kernel
theorem r_177_5 : R0 177 5 = some 187 := by decide +kernel
theorem r_177_6 : R0 177 6 = some 188 := by decide +kernel
theorem k_178 : K0 178 = .inl 6 := by decide +kernel
theorem r_178_0 : R0 178 0 = some 179 := by decide +kernel
theorem r_178_1 : R0 178 1 = some 180 := by decide +kernel
theorem k_179 : K0 179 = .inr (1, 1024) := by decide +kernel
theorem k_180 : K0 180 = .inr (1, 1024) := by decide +kernel
theorem k_181 : K0 181 = .inl 6 := by decide +kernel
theorem r_181_0 : R0 181 0 = some 182 := by decide +kernel
theorem r_181_1 : R0 181 1 = some 183 := by decide +kernel
theorem k_182 : K0 182 = .inr (1, 1024) := by decide +kernel
theorem k_183 : K0 183 = .inr (1, 1024) := by decide +kernel
theorem k_184 : K0 184 = .inr (0, 1024) := by decide +kernel
theorem k_185 : K0 185 = .inr (0, 4) := by decide +kernel
theorem k_186 : K0 186 = .inr (0, 10) := by decide +kernel
theorem k_187 : K0 187 = .inr (0, 10) := by decide +kernel
theorem k_188 : K0 188 = .inr (0, 10) := by decide +kernel
theorem k_189 : K0 189 = .inl 9 := by decide +kernel
theorem r_189_0 : R0 189 0 = some 190 := by decide +kernel
theorem r_189_1 : R0 189 1 = some 191 := by decide +kernel
theorem r_189_3 : R0 189 3 = some 192 := by decide +kernel
theorem r_189_5 : R0 189 5 = some 193 := by decide +kernel
theorem r_189_11 : R0 189 11 = some 194 := by decide +kernel
theorem r_189_12 : R0 189 12 = some 195 := by decide +kernel
theorem r_189_13 : R0 189 13 = some 196 := by decide +kernel
theorem r_189_14 : R0 189 14 = some 197 := by decide +kernel
theorem r_189_17 : R0 189 17 = some 198 := by decide +kernel
theorem r_189_18 : R0 189 18 = some 199 := by decide +kernel
theorem r_189_19 : R0 189 19 = some 200 := by decide +kernel
theorem r_189_21 : R0 189 21 = some 201 := by decide +kernel
theorem r_189_22 : R0 189 22 = some 202 := by decide +kernel
theorem r_189_23 : R0 189 23 = some 203 := by decide +kernel
theorem k_190 : K0 190 = .inr (0, 652) := by decide +kernel
theorem k_191 : K0 191 = .inr (0, 5216) := by decide +kernel
theorem k_192 : K0 192 = .inr (0, 1304) := by decide +kernel
theorem k_193 : K0 193 = .inr (0, 60) := by decide +kernel
theorem k_194 : K0 194 = .inr (0, 10) := by decide +kernel
theorem k_195 : K0 195 = .inr (0, 10) := by decide +kernel
theorem k_196 : K0 196 = .inr (0, 10) := by decide +kernel
theorem k_197 : K0 197 = .inr (0, 4) := by decide +kernel
theorem k_198 : K0 198 = .inr (0, 10) := by decide +kernel
theorem k_199 : K0 199 = .inr (0, 4) := by decide +kernel
theorem k_200 : K0 200 = .inr (0, 4) := by decide +kernel
theorem k_201 : K0 201 = .inr (0, 30) := by decide +kernel
theorem k_202 : K0 202 = .inr (0, 30) := by decide +kernel
theorem k_203 : K0 203 = .inr (0, 30) := by decide +kernel
theorem n_lt {a : Nat} (h : Nat.blt a 204 = true) : a < 204 := by simpa using h
