variable {nn : Nat} {bb : Bool}
/-! what each call is to do, in the words of the rows -/
abbrev bT : Type := (Int → Int) × Int × (Int → Int → Int) × (Int → Int → Int) × (Int → Bool) × (Int → Int) × Int × Int × Int
def addW (W : Int → Int) (s h : Int) : Int → Int := fun k => if k = 11 then W 11 + 1 else if 12 + 48 * W 11 ≤ k ∧ k < 60 + 48 * W 11 then (if k = 12 + 48 * W 11 then s else if k = 13 + 48 * W 11 then h else if k = 15 + 48 * W 11 then 1 else if k = 16 + 48 * W 11 ∨ k = 18 + 48 * W 11 then 0 else -9) else W k
def remW (W : Int → Int) (y : Int) : Int → Int := fun k => if k = 11 then W 11 - 1 else if 12 + 48 * y ≤ k ∧ k < 12 + 48 * (W 11 - 1) then W (k + 48) else W k
theorem rgZ_cv {V V' : Int → Int} (h : ∀ k, 0 ≤ k → k < 48 → V' k = V k) : rgZ V' = rgZ V := by
  unfold rgZ
  exact rwZ_congr (fun k h0 h1 => by rw [h (7 + k) (by omega) (by omega)])
theorem okV.cv {V V' : Int → Int} (hV : okV V) (h : ∀ k, 0 ≤ k → k < 48 → V' k = V k) : okV V' := by
  obtain ⟨v0, v1, v2, v3, v4, v5, v6, v7⟩ := hV
  unfold okV
  rw [h 0 (by omega) (by omega), h 1 (by omega) (by omega), h 2 (by omega) (by omega), h 3 (by omega) (by omega), h 4 (by omega) (by omega), h 5 (by omega) (by omega), h 6 (by omega) (by omega)]
  exact ⟨v0, v1, v2, v3, v4, v5, v6, fun n h0 h1 => by rw [h (7 + n) (by omega) (by omega)]; exact v7 n h0 h1⟩
theorem relS.cv {i : Nat → Int → Int} {l : Nat → Int → BitVec 64} {q : Nat} {V V' : Int → Int} (hV : relS i l q V) (h : ∀ k, 0 ≤ k → k < 48 → V' k = V k) : relS i l q V' := by
  obtain ⟨v0, v1, v2⟩ := hV
  unfold relS
  rw [rgZ_cv h, h 0 (by omega) (by omega), h 1 (by omega) (by omega), h 2 (by omega) (by omega), h 3 (by omega) (by omega), h 4 (by omega) (by omega), h 5 (by omega) (by omega), h 6 (by omega) (by omega)]
  exact ⟨v0, fun n h0 h1 => by rw [h (7 + n) (by omega) (by omega)]; exact v1 n h0 h1, v2⟩
theorem sVe {W : Int → Int} {s k : Int} : sV W s k = W (12 + 48 * s + k) := rfl
theorem rgZ_no {V : Int → Int} (h : ∀ k, 0 ≤ k → k < 41 → V (7 + k) ≠ 1) : rgZ V = (0, 0, 0) := by
  unfold rgZ
  rw [rwZ_congr (f' := fun _ => false) (fun k h0 h1 => decide_eq_false (h k h0 h1)), rwZ_no]
/-- in a row of a choir, what lies in no singer's place -/
theorem okW.mk {W W' : Int → Int} (h : okW W) (h4 : W' 4 = W 4) (h9 : W' 9 = W 9) (h10 : W' 10 = W 10) (h5 : ∀ p, 0 ≤ p → p < 4 → W' (5 + p) = W (5 + p)) (hs : ∀ x, 0 ≤ x → x < 160 → W' (492 + x) = W (492 + x))
    (h0 : (0 ≤ W' 11 ∧ W' 11 ≤ 10) ∧ (1 ≤ W' 0 ∧ W' 0 ≤ 15) ∧ (1 ≤ W' 1 ∧ W' 1 ≤ 50) ∧ (0 ≤ W' 2 ∧ W' 2 ≤ 10) ∧ (1 ≤ W' 3 ∧ W' 3 ≤ 6)) (hv : ∀ s, 0 ≤ s → s < W' 11 → okV (sV W' s) ∧ sV W' s 4 ≤ W 4 ∧ sV W' s 6 ≤ W 4 ∧ sV W' s 5 < W 4) : okW W' := by
  obtain ⟨g1, g2, g3, g4, g5⟩ := h
  refine ⟨by rw [h4, h9, h10]; omega, fun p a b => by rw [h5 p a b, h4]; exact g2 p a b, fun x a b => ?_, fun s a b => (hv s a b).1, fun s a b => by rw [h4]; exact (hv s a b).2⟩
  rw [h4] at b
  rw [hs x a (by omega)]
  exact g3 x a b
theorem okW_add {W : Int → Int} {s h : Int} (hW : okW W) (hn : W 11 < 10) (hs : 1 ≤ s ∧ s ≤ 9) (hh : 100 ≤ h ∧ h ≤ 220) : okW (addW W s h) := by
  have hN := hW.n
  have e : ∀ k, k < 11 ∨ 492 ≤ k → addW W s h k = W k := by
    intro k hk
    unfold addW
    rw [if_neg (by omega), if_neg (by omega)]
  have e11 : addW W s h 11 = W 11 + 1 := by unfold addW; rw [if_pos rfl]
  refine hW.mk (e _ (by omega)) (e _ (by omega)) (e _ (by omega)) (fun p _ _ => e _ (by omega)) (fun x _ _ => e _ (by omega)) ?_ (fun k h0 hk => ?_)
  · rw [e11, e 0 (by omega), e 1 (by omega), e 2 (by omega), e 3 (by omega)]; omega
  · rw [e11] at hk
    by_cases hkn : k = W 11
    · have eq : ∀ j, 0 ≤ j → j < 48 → sV (addW W s h) k j = (if j = 0 then s else if j = 1 then h else if j = 3 then 1 else if j = 4 ∨ j = 6 then 0 else -9) := by
        intro j h0 h1
        unfold sV addW
        rw [if_neg (by omega), if_pos (by omega)]
        have a0 : (12 + 48 * k + j = 12 + 48 * W 11) ↔ j = 0 := by omega
        have a1 : (12 + 48 * k + j = 13 + 48 * W 11) ↔ j = 1 := by omega
        have a2 : (12 + 48 * k + j = 15 + 48 * W 11) ↔ j = 3 := by omega
        have a3 : (12 + 48 * k + j = 16 + 48 * W 11) ↔ j = 4 := by omega
        have a4 : (12 + 48 * k + j = 18 + 48 * W 11) ↔ j = 6 := by omega
        simp only [a0, a1, a2, a3, a4]
      have q0 := eq 0 (by omega) (by omega)
      have q1 := eq 1 (by omega) (by omega)
      have q2 := eq 2 (by omega) (by omega)
      have q3 := eq 3 (by omega) (by omega)
      have q4 := eq 4 (by omega) (by omega)
      have q5 := eq 5 (by omega) (by omega)
      have q6 := eq 6 (by omega) (by omega)
      simp at q0 q1 q2 q3 q4 q5 q6
      unfold okV
      rw [q0, q1, q2, q3, q4, q5, q6]
      refine ⟨⟨by omega, by omega, by omega, by omega, by omega, by omega, by omega, fun n h0 h1 => ?_⟩, by omega, by omega, by omega⟩
      rw [eq (7 + n) (by omega) (by omega), if_neg (by omega), if_neg (by omega), if_neg (by omega), if_neg (by omega)]
      omega
    · have eq : ∀ j, 0 ≤ j → j < 48 → sV (addW W s h) k j = sV W k j := by
        intro j h0 h1
        unfold sV addW
        rw [if_neg (by omega), if_neg (by omega)]
      rw [eq 4 (by omega) (by omega), eq 5 (by omega) (by omega), eq 6 (by omega) (by omega)]
      exact ⟨(hW.2.2.2.1 k h0 (by omega)).cv eq, hW.2.2.2.2 k h0 (by omega)⟩
theorem relC_add {i i' : Nat → Int → Int} {l l' : Nat → Int → BitVec 64} {c : Nat} {W : Int → Int} {s h : Int} (hr : relC i l c W) (hW : okW W) (hn : W 11 < 10)
    (hi : ∀ a b, i' a b = if a = c ∧ b = 4 then i c 4 + 1 else if a = c + 2 + (i c 4).toNat then (if b = 0 then s else if b = 1 then h else if b = 4 ∨ b = 5 ∨ b = 8 ∨ b = 10 then 0 else if b = 6 ∨ b = 9 then -9 else if b = 7 then 1 else i a b) else i a b)
    (hl : ∀ a b, l' a b = if a = c + 2 + (i c 4).toNat ∧ (b = 2 ∨ b = 3) then 0#64 else l a b) : relC i' l' c (addW W s h) := by
  have hN := hW.n
  obtain ⟨⟨h11, h12, h13, h14⟩, ⟨h21, h22, h23, h24⟩, h3, h4, h5⟩ := hr
  have e : ∀ k, k < 11 ∨ 492 ≤ k → addW W s h k = W k := by
    intro k hk
    unfold addW
    rw [if_neg (by omega), if_neg (by omega)]
  have e11 : addW W s h 11 = W 11 + 1 := by unfold addW; rw [if_pos rfl]
  rw [h11] at hi hl
  refine ⟨?_, ?_, fun p h0 hp => ?_, fun x h0 hx => ?_, fun k h0 hk => ?_⟩
  · rw [e11, e 4 (by omega), e 9 (by omega), e 10 (by omega), hi, if_pos ⟨rfl, rfl⟩, hi, if_neg (by omega), if_neg (by omega), hi, if_neg (by omega), if_neg (by omega), hi, if_neg (by omega), if_neg (by omega)]
    exact ⟨rfl, h12, h13, h14⟩
  · rw [e 0 (by omega), e 1 (by omega), e 2 (by omega), e 3 (by omega), hi, if_neg (by omega), if_neg (by omega), hi, if_neg (by omega), if_neg (by omega), hi, if_neg (by omega), if_neg (by omega), hi, if_neg (by omega), if_neg (by omega)]
    exact ⟨h21, h22, h23, h24⟩
  · rw [e _ (by omega), hi, if_neg (by omega), if_neg (by omega)]; exact h3 p h0 hp
  · rw [e 4 (by omega)] at hx
    rw [e _ (by omega), hi, if_neg (by omega), if_neg (by omega)]; exact h4 x h0 hx
  · rw [e11] at hk
    by_cases hkn : k = W 11
    · have eq : ∀ j, 0 ≤ j → j < 48 → sV (addW W s h) k j = (if j = 0 then s else if j = 1 then h else if j = 3 then 1 else if j = 4 ∨ j = 6 then 0 else -9) := by
        intro j h0 h1
        unfold sV addW
        rw [if_neg (by omega), if_pos (by omega)]
        have a0 : (12 + 48 * k + j = 12 + 48 * W 11) ↔ j = 0 := by omega
        have a1 : (12 + 48 * k + j = 13 + 48 * W 11) ↔ j = 1 := by omega
        have a2 : (12 + 48 * k + j = 15 + 48 * W 11) ↔ j = 3 := by omega
        have a3 : (12 + 48 * k + j = 16 + 48 * W 11) ↔ j = 4 := by omega
        have a4 : (12 + 48 * k + j = 18 + 48 * W 11) ↔ j = 6 := by omega
        simp only [a0, a1, a2, a3, a4]
      have q0 := eq 0 (by omega) (by omega)
      have q1 := eq 1 (by omega) (by omega)
      have q2 := eq 2 (by omega) (by omega)
      have q3 := eq 3 (by omega) (by omega)
      have q4 := eq 4 (by omega) (by omega)
      have q5 := eq 5 (by omega) (by omega)
      have q6 := eq 6 (by omega) (by omega)
      simp at q0 q1 q2 q3 q4 q5 q6
      have hno : ∀ n, 0 ≤ n → n < 41 → sV (addW W s h) k (7 + n) = -9 := fun n h0 h1 => by
        rw [eq (7 + n) (by omega) (by omega), if_neg (by omega), if_neg (by omega), if_neg (by omega), if_neg (by omega)]
      have hQ : c + 2 + k.toNat = c + 2 + (W 11).toNat := by rw [hkn]
      have ev : ∀ b, i' (c + 2 + k.toNat) b = (if b = 0 then s else if b = 1 then h else if b = 4 ∨ b = 5 ∨ b = 8 ∨ b = 10 then 0 else if b = 6 ∨ b = 9 then -9 else if b = 7 then 1 else i (c + 2 + k.toNat) b) := by
        intro b
        rw [hi, if_neg (by omega), if_pos hQ]
      have rg : rgZ (sV (addW W s h) k) = (0, 0, 0) := rgZ_no (fun n h0 h1 => by rw [hno n h0 h1]; decide)
      unfold relS
      rw [q0, q1, q2, q3, q4, q5, q6, rg]
      refine ⟨⟨?_, ?_, ?_, ?_, ?_, ?_, ?_⟩, fun n h0 h1 => ?_, ?_, ?_⟩
      · rw [ev]; simp
      · rw [ev]; simp
      · rw [ev]; simp
      · rw [ev]; simp
      · rw [ev]; simp
      · rw [ev]; simp
      · rw [ev]; simp
      · rw [hno n h0 h1, hl, hl, if_pos ⟨hQ, Or.inl rfl⟩, if_pos ⟨hQ, Or.inr rfl⟩]; simp
      · rw [ev]; simp
      · rw [ev]; simp
    · have eq : ∀ j, 0 ≤ j → j < 48 → sV (addW W s h) k j = sV W k j := by
        intro j h0 h1
        unfold sV addW
        rw [if_neg (by omega), if_neg (by omega)]
      refine ((h5 k h0 (by omega)).congr (fun b _ => ?_) (fun b _ => ?_)).cv eq
      · rw [hi, if_neg (by omega), if_neg (by omega)]
      · rw [hl, if_neg (by omega)]
theorem okW_rem {W : Int → Int} {y : Int} (hW : okW W) (hy : 0 ≤ y ∧ y < W 11) : okW (remW W y) := by
  have hN := hW.n
  have e : ∀ k, k < 11 ∨ 492 ≤ k → remW W y k = W k := by
    intro k hk
    unfold remW
    rw [if_neg (by omega), if_neg (by omega)]
  have e11 : remW W y 11 = W 11 - 1 := by unfold remW; rw [if_pos rfl]
  refine hW.mk (e _ (by omega)) (e _ (by omega)) (e _ (by omega)) (fun p _ _ => e _ (by omega)) (fun x _ _ => e _ (by omega)) ?_ (fun k h0 hk => ?_)
  · rw [e11, e 0 (by omega), e 1 (by omega), e 2 (by omega), e 3 (by omega)]; omega
  · rw [e11] at hk
    by_cases hky : k < y
    · have eq : ∀ j, 0 ≤ j → j < 48 → sV (remW W y) k j = sV W k j := by
        intro j h0 h1
        unfold sV remW
        rw [if_neg (by omega), if_neg (by omega)]
      rw [eq 4 (by omega) (by omega), eq 5 (by omega) (by omega), eq 6 (by omega) (by omega)]
      exact ⟨(hW.2.2.2.1 k h0 (by omega)).cv eq, hW.2.2.2.2 k h0 (by omega)⟩
    · have eq : ∀ j, 0 ≤ j → j < 48 → sV (remW W y) k j = sV W (k + 1) j := by
        intro j h0 h1
        unfold sV remW
        rw [if_neg (by omega), if_pos (by omega)]
        exact congrS (by omega)
      rw [eq 4 (by omega) (by omega), eq 5 (by omega) (by omega), eq 6 (by omega) (by omega)]
      exact ⟨(hW.2.2.2.1 (k + 1) (by omega) (by omega)).cv eq, hW.2.2.2.2 (k + 1) (by omega) (by omega)⟩
theorem relC_rem {i i' : Nat → Int → Int} {l l' : Nat → Int → BitVec 64} {c : Nat} {W : Int → Int} {y : Int} (hr : relC i l c W) (hW : okW W) (hy : 0 ≤ y ∧ y < W 11)
    (hi : ∀ a b, i' a b = if a = c ∧ b = 4 then i c 4 - 1 else if c + 2 + y ≤ (a : Int) ∧ (a : Int) < c + 2 + (i c 4 - 1) ∧ (b = 0 ∨ b = 1 ∨ (4 ≤ b ∧ b ≤ 10)) then i (a + 1) b else i a b)
    (hl : ∀ a b, l' a b = if c + 2 + y ≤ (a : Int) ∧ (a : Int) < c + 2 + (i c 4 - 1) ∧ (b = 2 ∨ b = 3) then l (a + 1) b else l a b) : relC i' l' c (remW W y) := by
  have hN := hW.n
  obtain ⟨⟨h11, h12, h13, h14⟩, ⟨h21, h22, h23, h24⟩, h3, h4, h5⟩ := hr
  have e : ∀ k, k < 11 ∨ 492 ≤ k → remW W y k = W k := by
    intro k hk
    unfold remW
    rw [if_neg (by omega), if_neg (by omega)]
  have e11 : remW W y 11 = W 11 - 1 := by unfold remW; rw [if_pos rfl]
  rw [h11] at hi hl
  refine ⟨?_, ?_, fun p h0 hp => ?_, fun x h0 hx => ?_, fun k h0 hk => ?_⟩
  · rw [e11, e 4 (by omega), e 9 (by omega), e 10 (by omega), hi, if_pos ⟨rfl, rfl⟩, hi, if_neg (by omega), if_neg (by omega), hi, if_neg (by omega), if_neg (by omega), hi, if_neg (by omega), if_neg (by omega)]
    exact ⟨rfl, h12, h13, h14⟩
  · rw [e 0 (by omega), e 1 (by omega), e 2 (by omega), e 3 (by omega), hi, if_neg (by omega), if_neg (by omega), hi, if_neg (by omega), if_neg (by omega), hi, if_neg (by omega), if_neg (by omega), hi, if_neg (by omega), if_neg (by omega)]
    exact ⟨h21, h22, h23, h24⟩
  · rw [e _ (by omega), hi, if_neg (by omega), if_neg (by omega)]; exact h3 p h0 hp
  · rw [e 4 (by omega)] at hx
    rw [e _ (by omega), hi, if_neg (by omega), if_neg (by omega)]; exact h4 x h0 hx
  · rw [e11] at hk
    by_cases hky : k < y
    · have eq : ∀ j, 0 ≤ j → j < 48 → sV (remW W y) k j = sV W k j := by
        intro j h0 h1
        unfold sV remW
        rw [if_neg (by omega), if_neg (by omega)]
      refine ((h5 k h0 (by omega)).congr (fun b _ => ?_) (fun b _ => ?_)).cv eq
      · rw [hi, if_neg (by omega), if_neg (by omega)]
      · rw [hl, if_neg (by omega)]
    · have eq : ∀ j, 0 ≤ j → j < 48 → sV (remW W y) k j = sV W (k + 1) j := by
        intro j h0 h1
        unfold sV remW
        rw [if_neg (by omega), if_pos (by omega)]
        exact congrS (by omega)
      have hQ : c + 2 + k.toNat + 1 = c + 2 + (k + 1).toNat := by omega
      refine ((h5 (k + 1) (by omega) (by omega)).congr (fun b hb => ?_) (fun b hb => ?_)).cv eq
      · rw [hi, if_neg (by omega), if_pos ⟨by omega, by omega, hb⟩, hQ]
      · rw [hl, if_pos ⟨by omega, by omega, hb⟩, hQ]
/-- a setting -/
def setW (W : Int → Int) (x v : Int) : Int → Int := fun k => if k = x then v else W k
theorem okW_set {W : Int → Int} {x v : Int} (hW : okW W) (hx : (x = 0 ∧ 1 ≤ v ∧ v ≤ 15) ∨ (x = 1 ∧ 1 ≤ v ∧ v ≤ 50) ∨ (x = 2 ∧ 0 ≤ v ∧ v ≤ 10) ∨ (x = 3 ∧ 1 ≤ v ∧ v ≤ 6)) : okW (setW W x v) := by
  have hN := hW.n
  have e : ∀ k, 4 ≤ k → (setW W x v) k = W k := fun k hk => by unfold setW; exact if_neg (by omega)
  have eq : ∀ s, 0 ≤ s → ∀ j, 0 ≤ j → j < 48 → sV (setW W x v) s j = sV W s j := fun s hs j h0 h1 => e _ (by omega)
  refine hW.mk (e _ (by omega)) (e _ (by omega)) (e _ (by omega)) (fun p _ _ => e _ (by omega)) (fun x _ _ => e _ (by omega)) ?_ (fun k h0 hk => ?_)
  · rw [e 11 (by omega)]
    unfold setW
    rcases hx with ⟨rfl, hx⟩ | ⟨rfl, hx⟩ | ⟨rfl, hx⟩ | ⟨rfl, hx⟩ <;> simp <;> omega
  · rw [e 11 (by omega)] at hk
    rw [eq k h0 4 (by omega) (by omega), eq k h0 5 (by omega) (by omega), eq k h0 6 (by omega) (by omega)]
    exact ⟨(hW.2.2.2.1 k h0 hk).cv (eq k h0), hW.2.2.2.2 k h0 hk⟩
theorem relC_set {i i' : Nat → Int → Int} {l : Nat → Int → BitVec 64} {c : Nat} {W : Int → Int} {x v : Int} (hr : relC i l c W) (hW : okW W) (hx : 0 ≤ x ∧ x < 4) (hi : i' = mU i (c + 12) x v) : relC i' l c (setW W x v) := by
  have hN := hW.n
  obtain ⟨⟨h11, h12, h13, h14⟩, ⟨h21, h22, h23, h24⟩, h3, h4, h5⟩ := hr
  have e : ∀ k, 4 ≤ k → (setW W x v) k = W k := fun k hk => by unfold setW; exact if_neg (by omega)
  have ei : ∀ a b, a ≠ c + 12 → i' a b = i a b := fun a b ha => by rw [hi, mUne _ _ _ _ _ ha]
  have e12 : ∀ k, i' (c + 12) k = if k = x then v else i (c + 12) k := fun k => by rw [hi]; simp only [mU, true_and]
  refine ⟨?_, ?_, fun p h0 hp => ?_, fun y h0 hx => ?_, fun k h0 hk => ?_⟩
  · rw [e 11 (by omega), e 4 (by omega), e 9 (by omega), e 10 (by omega), ei c 4 (by omega), ei c 5 (by omega), ei c 6 (by omega), ei c 7 (by omega)]
    exact ⟨h11, h12, h13, h14⟩
  · rw [e12, e12, e12, e12, h21, h22, h23, h24]; exact ⟨rfl, rfl, rfl, rfl⟩
  · rw [e _ (by omega), ei _ _ (by omega)]; exact h3 p h0 hp
  · rw [e 4 (by omega)] at hx
    rw [e _ (by omega), ei _ _ (by omega)]; exact h4 y h0 hx
  · rw [e 11 (by omega)] at hk
    exact ((h5 k h0 hk).congr (fun b _ => ei _ _ (by omega)) (fun b _ => rfl)).cv (fun j h0 h1 => e _ (by omega))
/-- one singer is another now -/
theorem okW_one {W W' : Int → Int} {y : Int} (hW : okW W) (hy : 0 ≤ y ∧ y < W 11) (he : ∀ k, k < 12 + 48 * y ∨ 60 + 48 * y ≤ k → W' k = W k) (hv : okV (sV W' y) ∧ sV W' y 4 ≤ W 4 ∧ sV W' y 6 ≤ W 4 ∧ sV W' y 5 < W 4) : okW W' := by
  have hN := hW.n
  refine hW.mk (he _ (by omega)) (he _ (by omega)) (he _ (by omega)) (fun p _ _ => he _ (by omega)) (fun x _ _ => he _ (by omega)) ?_ (fun k h0 hk => ?_)
  · rw [he 11 (by omega), he 0 (by omega), he 1 (by omega), he 2 (by omega), he 3 (by omega)]; omega
  · rw [he 11 (by omega)] at hk
    by_cases hky : k = y
    · rw [hky]; exact hv
    · have eq : ∀ j, 0 ≤ j → j < 48 → sV W' k j = sV W k j := fun j h0 h1 => he _ (by omega)
      rw [eq 4 (by omega) (by omega), eq 5 (by omega) (by omega), eq 6 (by omega) (by omega)]
      exact ⟨(hW.2.2.2.1 k h0 hk).cv eq, hW.2.2.2.2 k h0 hk⟩
theorem relC_one {i i' : Nat → Int → Int} {l l' : Nat → Int → BitVec 64} {c : Nat} {W W' : Int → Int} {y : Int} (hr : relC i l c W) (hW : okW W) (hy : 0 ≤ y ∧ y < W 11) (he : ∀ k, k < 12 + 48 * y ∨ 60 + 48 * y ≤ k → W' k = W k)
    (hi : ∀ a b, a ≠ c + 2 + y.toNat → i' a b = i a b) (hl : ∀ a b, a ≠ c + 2 + y.toNat → l' a b = l a b) (hv : relS i' l' (c + 2 + y.toNat) (sV W' y)) : relC i' l' c W' := by
  have hN := hW.n
  obtain ⟨⟨h11, h12, h13, h14⟩, ⟨h21, h22, h23, h24⟩, h3, h4, h5⟩ := hr
  refine ⟨?_, ?_, fun p h0 hp => ?_, fun x h0 hx => ?_, fun k h0 hk => ?_⟩
  · rw [he 11 (by omega), he 4 (by omega), he 9 (by omega), he 10 (by omega), hi _ _ (by omega), hi _ _ (by omega), hi _ _ (by omega), hi _ _ (by omega)]
    exact ⟨h11, h12, h13, h14⟩
  · rw [he 0 (by omega), he 1 (by omega), he 2 (by omega), he 3 (by omega), hi _ _ (by omega), hi _ _ (by omega), hi _ _ (by omega), hi _ _ (by omega)]
    exact ⟨h21, h22, h23, h24⟩
  · rw [he _ (by omega), hi _ _ (by omega)]; exact h3 p h0 hp
  · rw [he 4 (by omega)] at hx
    rw [he _ (by omega), hi _ _ (by omega)]; exact h4 x h0 hx
  · rw [he 11 (by omega)] at hk
    by_cases hky : k = y
    · rw [hky]; exact hv
    · exact ((h5 k h0 hk).congr (fun b _ => hi _ _ (by omega)) (fun b _ => hl _ _ (by omega))).cv (fun j h0 h1 => he _ (by omega))
