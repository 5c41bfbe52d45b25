variable {nn : Nat} {bb : Bool}
/-! singers change, the rest of a choir stays -/
theorem okW_sing {W W' : Int → Int} (hW : okW W) (he : ∀ k, k < 12 ∨ 492 ≤ k → W' k = W k) (hv : ∀ s, 0 ≤ s → s < W 11 → okV (sV W' s) ∧ sV W' s 4 ≤ W 4 ∧ sV W' s 6 ≤ W 4 ∧ sV W' s 5 < W 4) : okW W' := by
  have hN := hW.n
  refine hW.mk (he _ (by omega)) (he _ (by omega)) (he _ (by omega)) (fun p _ _ => he _ (by omega)) (fun x _ _ => he _ (by omega)) ?_ (fun k h0 hk => ?_)
  · rw [he 11 (by omega), he 0 (by omega), he 1 (by omega), he 2 (by omega), he 3 (by omega)]; omega
  · rw [he 11 (by omega)] at hk
    exact hv k h0 hk
theorem relC_sing {i i' : Nat → Int → Int} {l l' : Nat → Int → BitVec 64} {c : Nat} {W W' : Int → Int} (hr : relC i l c W) (he : ∀ k, k < 12 ∨ 492 ≤ k → W' k = W k)
    (hi : ∀ a b, a < c + 2 ∨ c + 12 ≤ a → i' a b = i a b) (hv : ∀ s, 0 ≤ s → s < W 11 → relS i' l' (c + 2 + s.toNat) (sV W' s)) : relC i' l' c W' := by
  obtain ⟨⟨h11, h12, h13, h14⟩, ⟨h21, h22, h23, h24⟩, h3, h4, h5⟩ := hr
  refine ⟨?_, ?_, fun p h0 hp => ?_, fun x h0 hx => ?_, fun k h0 hk => ?_⟩
  · rw [he 11 (by omega), he 4 (by omega), he 9 (by omega), he 10 (by omega), hi _ _ (by omega), hi _ _ (by omega), hi _ _ (by omega), hi _ _ (by omega)]
    exact ⟨h11, h12, h13, h14⟩
  · rw [he 0 (by omega), he 1 (by omega), he 2 (by omega), he 3 (by omega), hi _ _ (by omega), hi _ _ (by omega), hi _ _ (by omega), hi _ _ (by omega)]
    exact ⟨h21, h22, h23, h24⟩
  · rw [he _ (by omega), hi _ _ (by omega)]; exact h3 p h0 hp
  · rw [he 4 (by omega)] at hx
    rw [he _ (by omega), hi _ _ (by omega)]; exact h4 x h0 hx
  · rw [he 11 (by omega)] at hk
    exact hv k h0 hk
/-- a part -/
theorem okW_part {W : Int → Int} {y p : Int} (hW : okW W) (hy : 0 ≤ y ∧ y < W 11) (hp : p = -9 ∨ (0 ≤ p ∧ p < 4)) : okW (setW W (14 + 48 * y) p) := by
  have e : ∀ k, k ≠ 14 + 48 * y → setW W (14 + 48 * y) p k = W k := fun k hk => by unfold setW; exact if_neg hk
  have e2 : setW W (14 + 48 * y) p (14 + 48 * y) = p := by unfold setW; exact if_pos rfl
  have hV := hW.2.2.2.1 y hy.1 hy.2
  have hb := hW.2.2.2.2 y hy.1 hy.2
  obtain ⟨v0, v1, v2, v3, v4, v5, v6, v7⟩ := hV
  unfold sV at *
  refine okW_one hW hy (fun k hk => e k (by omega)) ?_
  unfold okV sV
  rw [e (12 + 48 * y + 0) (by omega), e (12 + 48 * y + 1) (by omega), show 12 + 48 * y + 2 = 14 + 48 * y by omega, e2, e (12 + 48 * y + 3) (by omega), e (12 + 48 * y + 4) (by omega), e (12 + 48 * y + 5) (by omega), e (12 + 48 * y + 6) (by omega)]
  exact ⟨⟨v0, v1, hp, v3, v4, v5, v6, fun n h0 h1 => by rw [e _ (by omega)]; exact v7 n h0 h1⟩, hb⟩
theorem relC_part {i i' : Nat → Int → Int} {l : Nat → Int → BitVec 64} {c : Nat} {W : Int → Int} {y p : Int} (hr : relC i l c W) (hW : okW W) (hy : 0 ≤ y ∧ y < W 11) (hi : i' = mU i (c + 2 + y.toNat) 6 p) : relC i' l c (setW W (14 + 48 * y) p) := by
  have e : ∀ k, k ≠ 14 + 48 * y → setW W (14 + 48 * y) p k = W k := fun k hk => by unfold setW; exact if_neg hk
  have e2 : setW W (14 + 48 * y) p (14 + 48 * y) = p := by unfold setW; exact if_pos rfl
  have ei : ∀ a b, ¬ (a = c + 2 + y.toNat ∧ b = 6) → i' a b = i a b := fun a b ha => by rw [hi]; simp only [mU]; rw [if_neg ha]
  have e6 : i' (c + 2 + y.toNat) 6 = p := by rw [hi, mUs]
  refine relC_one hr hW hy (fun k hk => e k (by omega)) (fun a b ha => ei a b (fun q => ha q.1)) (fun _ _ _ => rfl) ?_
  obtain ⟨⟨h0, h1, h2, h3, h4, h5, h6⟩, h7, h8, h9⟩ := hr.s hy.1 hy.2
  unfold relS
  have rg : rgZ (sV (setW W (14 + 48 * y) p) y) = rgZ (sV W y) := by
    unfold rgZ
    refine rwZ_congr (fun k g0 g1 => ?_)
    unfold sV
    rw [e _ (by omega)]
  rw [rg, ei _ 0 (by omega), ei _ 1 (by omega), e6, ei _ 7 (by omega), ei _ 8 (by omega), ei _ 9 (by omega), ei _ 10 (by omega), ei _ 4 (by omega), ei _ 5 (by omega)]
  refine ⟨⟨?_, ?_, ?_, ?_, ?_, ?_, ?_⟩, fun n g0 g1 => ?_, h8, h9⟩
  · unfold sV; rw [e _ (by omega)]; exact h0
  · unfold sV; rw [e _ (by omega)]; exact h1
  · unfold sV; rw [show 12 + 48 * y + 2 = 14 + 48 * y by omega]; exact e2.symm
  · unfold sV; rw [e _ (by omega)]; exact h3
  · unfold sV; rw [e _ (by omega)]; exact h4
  · unfold sV; rw [e _ (by omega)]; exact h5
  · unfold sV; rw [e _ (by omega)]; exact h6
  · unfold sV; rw [e _ (by omega)]; exact h7 n g0 g1
/-! tests -/
abbrev wT : Type := Int × Int × Int
/-- notes of singer y behind words, the last one first -/
def tsW (W : Int → Int) (y : Int) : List wT → Int → Int
  | [] => W
  | w :: r => fun k => if 19 + 48 * y + w.1 ≤ k ∧ k ≤ 19 + 48 * y + w.2.1 then w.2.2 else tsW W y r k
def tT (T : BitVec 64) : List wT → BitVec 64
  | [] => T
  | w :: r => tT T r ||| wBits w.1 w.2.1
def tS (S : BitVec 64) : List wT → BitVec 64
  | [] => S
  | w :: r => if w.2.2 = 1 then tS S r ||| wBits w.1 w.2.1 else tS S r &&& (wBits w.1 w.2.1 ^^^ -1)
def okWs (hi : Int) (ws : List wT) : Prop := ∀ w ∈ ws, 0 ≤ w.1 ∧ w.1 ≤ w.2.1 ∧ w.2.1 ≤ hi ∧ (w.2.2 = 0 ∨ w.2.2 = 1)
theorem wBits_get {a b n : Int} (ha : 0 ≤ a) (hab : a ≤ b) (hb : b ≤ 40) (hn : 0 ≤ n ∧ n < 64) : (wBits a b).getLsbD n.toNat = decide (a ≤ n ∧ n ≤ b) := by
  unfold wBits
  have h1 : (1#64 <<< (b - a + 1).toNat - 1#64) = BitVec.ofNat 64 (2 ^ (b - a + 1).toNat - 1) := by
    apply BitVec.eq_of_toNat_eq
    have hm : 2 ^ (b - a + 1).toNat < 2 ^ 64 := Nat.pow_lt_pow_right (by decide) (by omega)
    have hp := Nat.two_pow_pos (b - a + 1).toNat
    rw [BitVec.toNat_sub, BitVec.toNat_shiftLeft, BitVec.toNat_ofNat, BitVec.toNat_ofNat, Nat.shiftLeft_eq, Nat.mod_eq_of_lt (show 1 < 2 ^ 64 by decide), Nat.one_mul, Nat.mod_eq_of_lt hm]
    omega
  rw [h1, BitVec.getLsbD_shiftLeft, BitVec.getLsbD_ofNat, Nat.testBit_two_pow_sub_one]
  by_cases h : a ≤ n ∧ n ≤ b
  · rw [decide_eq_true h, decide_eq_true (show n.toNat < 64 by omega), decide_eq_false (show ¬ n.toNat < a.toNat by omega), decide_eq_true (show n.toNat - a.toNat < (b - a + 1).toNat by omega), decide_eq_true (show n.toNat - a.toNat < 64 by omega)]
    rfl
  · rw [decide_eq_false h]
    by_cases h2 : n < a
    · rw [decide_eq_true (show n.toNat < a.toNat by omega)]; simp
    · rw [decide_eq_false (show ¬ n.toNat - a.toNat < (b - a + 1).toNat by omega)]; simp
theorem ts_bits {W : Int → Int} {y : Int} {T S : BitVec 64} (h0 : ∀ n, 0 ≤ n → n < 41 → (T.getLsbD n.toNat = true ↔ W (19 + 48 * y + n) ≠ -9) ∧ (S.getLsbD n.toNat = true ↔ W (19 + 48 * y + n) = 1)) (ws : List wT) (hw : okWs 40 ws) :
    ∀ n, 0 ≤ n → n < 41 → ((tT T ws).getLsbD n.toNat = true ↔ tsW W y ws (19 + 48 * y + n) ≠ -9) ∧ ((tS S ws).getLsbD n.toNat = true ↔ tsW W y ws (19 + 48 * y + n) = 1) := by
  induction ws with
  | nil => exact h0
  | cons w r ih =>
    intro n g0 g1
    have hi := ih (fun v hv => hw v (List.mem_cons_of_mem _ hv)) n g0 g1
    obtain ⟨w1, w2, w3, w4⟩ := hw w List.mem_cons_self
    have hb := wBits_get w1 w2 w3 (show 0 ≤ n ∧ n < 64 by omega)
    have hone : (-1 : BitVec 64).getLsbD n.toNat = true := by
      rw [show (-1 : BitVec 64) = BitVec.allOnes 64 from rfl, BitVec.getLsbD_allOnes]
      simp; omega
    have ec : (19 + 48 * y + w.1 ≤ 19 + 48 * y + n ∧ 19 + 48 * y + n ≤ 19 + 48 * y + w.2.1) ↔ (w.1 ≤ n ∧ n ≤ w.2.1) := by omega
    unfold tT tS tsW
    simp only [ec]
    by_cases h : w.1 ≤ n ∧ n ≤ w.2.1
    · rw [decide_eq_true h] at hb
      rw [if_pos h, BitVec.getLsbD_or, hb, Bool.or_true]
      constructor
      · constructor
        · intro _; omega
        · intro _; rfl
      · rcases w4 with w4 | w4
        · rw [if_neg (by omega), BitVec.getLsbD_and, BitVec.getLsbD_xor, hb, hone, w4]; simp
        · rw [if_pos w4, BitVec.getLsbD_or, hb, w4]; simp
    · rw [decide_eq_false h] at hb
      rw [if_neg h, BitVec.getLsbD_or, hb, Bool.or_false]
      refine ⟨hi.1, ?_⟩
      rcases w4 with w4 | w4
      · rw [if_neg (by omega), BitVec.getLsbD_and, BitVec.getLsbD_xor, hb, hone]; simpa using hi.2
      · rw [if_pos w4, BitVec.getLsbD_or, hb, Bool.or_false]; exact hi.2
theorem tsW_else {W : Int → Int} {y : Int} {ws : List wT} (hw : okWs 40 ws) {k : Int} (hk : k < 19 + 48 * y ∨ 60 + 48 * y ≤ k) : tsW W y ws k = W k := by
  induction ws with
  | nil => rfl
  | cons w r ih =>
    obtain ⟨w1, w2, w3, w4⟩ := hw w List.mem_cons_self
    unfold tsW
    rw [if_neg (by omega)]
    exact ih (fun v hv => hw v (List.mem_cons_of_mem _ hv))
theorem tsW_val {W : Int → Int} {y : Int} {ws : List wT} (hw : okWs 40 ws) (k : Int) : tsW W y ws k = W k ∨ tsW W y ws k = 0 ∨ tsW W y ws k = 1 := by
  induction ws with
  | nil => left; rfl
  | cons w r ih =>
    obtain ⟨w1, w2, w3, w4⟩ := hw w List.mem_cons_self
    unfold tsW
    split
    · right; exact w4
    · exact ih (fun v hv => hw v (List.mem_cons_of_mem _ hv))
theorem okW_test {W : Int → Int} {y : Int} {ws : List wT} (hW : okW W) (hy : 0 ≤ y ∧ y < W 11) (hw : okWs 40 ws) : okW (tsW W y ws) := by
  have e : ∀ k, k < 19 + 48 * y ∨ 60 + 48 * y ≤ k → tsW W y ws k = W k := fun k hk => tsW_else hw hk
  have hV := hW.2.2.2.1 y hy.1 hy.2
  have hb := hW.2.2.2.2 y hy.1 hy.2
  obtain ⟨v0, v1, v2, v3, v4, v5, v6, v7⟩ := hV
  unfold sV at *
  refine okW_one hW hy (fun k hk => e k (by omega)) ?_
  unfold okV sV
  rw [e (12 + 48 * y + 0) (by omega), e (12 + 48 * y + 1) (by omega), e (12 + 48 * y + 2) (by omega), e (12 + 48 * y + 3) (by omega), e (12 + 48 * y + 4) (by omega), e (12 + 48 * y + 5) (by omega), e (12 + 48 * y + 6) (by omega)]
  refine ⟨⟨v0, v1, v2, v3, v4, v5, v6, fun n h0 h1 => ?_⟩, hb⟩
  have := v7 n h0 h1
  rcases tsW_val (W := W) (y := y) hw (12 + 48 * y + (7 + n)) with h | h | h <;> rw [h] <;> omega
theorem relC_test {i i' : Nat → Int → Int} {l l' : Nat → Int → BitVec 64} {c : Nat} {W : Int → Int} {y : Int} {ws : List wT} {t u : BitVec 64} (hr : relC i l c W) (hW : okW W) (hy : 0 ≤ y ∧ y < W 11) (hw : okWs 40 ws)
    (ht : t = tT (l (c + 2 + y.toNat) 2) ws) (hu : u = tS (l (c + 2 + y.toNat) 3) ws)
    (hi : ∀ a b, i' a b = if a = c + 2 + y.toNat ∧ b = 4 then (rwZ (fun k => u.getLsbD k.toNat) 41).2.2 else if a = c + 2 + y.toNat ∧ b = 5 then (rwZ (fun k => u.getLsbD k.toNat) 41).2.1 else i a b)
    (hl : ∀ a b, l' a b = if a = c + 2 + y.toNat ∧ b = 2 then t else if a = c + 2 + y.toNat ∧ b = 3 then u else l a b) : relC i' l' c (tsW W y ws) := by
  have e : ∀ k, k < 19 + 48 * y ∨ 60 + 48 * y ≤ k → tsW W y ws k = W k := fun k hk => tsW_else hw hk
  have ei : ∀ a b, ¬ (a = c + 2 + y.toNat ∧ (b = 4 ∨ b = 5)) → i' a b = i a b := fun a b ha => by rw [hi, if_neg (by omega), if_neg (by omega)]
  obtain ⟨⟨h0, h1, h2, h3, h4, h5, h6⟩, h7, h8, h9⟩ := hr.s hy.1 hy.2
  have hb := ts_bits (W := W) (y := y) (T := l (c + 2 + y.toNat) 2) (S := l (c + 2 + y.toNat) 3) (fun n g0 g1 => by have := h7 n g0 g1; unfold sV at this; rw [show 12 + 48 * y + (7 + n) = 19 + 48 * y + n by omega] at this; exact this) ws hw
  refine relC_one hr hW hy (fun k hk => e k (by omega)) (fun a b ha => ei a b (fun q => ha q.1)) (fun a b ha => by rw [hl, if_neg (fun q => ha q.1), if_neg (fun q => ha q.1)]) ?_
  have l2 : l' (c + 2 + y.toNat) 2 = t := by rw [hl, if_pos ⟨rfl, rfl⟩]
  have l3 : l' (c + 2 + y.toNat) 3 = u := by rw [hl, if_neg (by omega), if_pos ⟨rfl, rfl⟩]
  have rg : rwZ (fun k => u.getLsbD k.toNat) 41 = rgZ (sV (tsW W y ws) y) := by
    unfold rgZ
    refine rwZ_congr (fun k g0 g1 => ?_)
    have := (hb k g0 g1).2
    rw [← hu] at this
    unfold sV
    rw [show 12 + 48 * y + (7 + k) = 19 + 48 * y + k by omega, Bool.eq_iff_iff, this, decide_eq_true_eq]
  unfold relS
  rw [ei _ 0 (by omega), ei _ 1 (by omega), ei _ 6 (by omega), ei _ 7 (by omega), ei _ 8 (by omega), ei _ 9 (by omega), ei _ 10 (by omega), ← rg, l2, l3]
  refine ⟨⟨?_, ?_, ?_, ?_, ?_, ?_, ?_⟩, fun n g0 g1 => ?_, ?_, ?_⟩
  · unfold sV; rw [e _ (by omega)]; exact h0
  · unfold sV; rw [e _ (by omega)]; exact h1
  · unfold sV; rw [e _ (by omega)]; exact h2
  · unfold sV; rw [e _ (by omega)]; exact h3
  · unfold sV; rw [e _ (by omega)]; exact h4
  · unfold sV; rw [e _ (by omega)]; exact h5
  · unfold sV; rw [e _ (by omega)]; exact h6
  · unfold sV
    rw [show 12 + 48 * y + (7 + n) = 19 + 48 * y + n by omega, ht, hu]
    exact hb n g0 g1
  · rw [hi, if_pos ⟨rfl, rfl⟩]
  · rw [hi, if_neg (by omega), if_pos ⟨rfl, rfl⟩]
/-! who has come -/
/-- whether a word tells x -/
def hasW : List wT → Int → Bool
  | [], _ => false
  | w :: r, x => (decide (w.1 ≤ x) && decide (x ≤ w.2.1)) || hasW r x
def atW (W : Int → Int) (ws : List wT) : Int → Int := fun k => if (12 ≤ k ∧ k < 12 + 48 * W 11) ∧ (k - 12) % 48 = 3 then (if hasW ws ((k - 12) / 48) = true then 0 else 1) else W k
theorem hasW_bits {ws : List wT} (hw : okWs 40 ws) {n : Int} (hn : 0 ≤ n ∧ n < 41) : (tT 0#64 ws).getLsbD n.toNat = hasW ws n := by
  induction ws with
  | nil => unfold tT hasW; simp
  | cons w r ih =>
    obtain ⟨w1, w2, w3, w4⟩ := hw w List.mem_cons_self
    unfold tT hasW
    rw [BitVec.getLsbD_or, wBits_get w1 w2 w3 (by omega), ih (fun v hv => hw v (List.mem_cons_of_mem _ hv)), Bool.or_comm]
    simp
theorem atW_else {W : Int → Int} {ws : List wT} {k : Int} (h : ¬ ((12 ≤ k ∧ k < 12 + 48 * W 11) ∧ (k - 12) % 48 = 3)) : atW W ws k = W k := by unfold atW; exact if_neg h
theorem okW_att {W : Int → Int} {ws : List wT} (hW : okW W) : okW (atW W ws) := by
  have hN := hW.n
  refine okW_sing hW (fun k hk => atW_else (by omega)) (fun s h0 hs => ?_)
  have e : ∀ j, 0 ≤ j → j < 48 → j ≠ 3 → sV (atW W ws) s j = sV W s j := fun j g0 g1 g3 => atW_else (by omega)
  obtain ⟨v0, v1, v2, v3, v4, v5, v6, v7⟩ := hW.2.2.2.1 s h0 hs
  unfold okV
  rw [e 0 (by omega) (by omega) (by omega), e 1 (by omega) (by omega) (by omega), e 2 (by omega) (by omega) (by omega), e 4 (by omega) (by omega) (by omega), e 5 (by omega) (by omega) (by omega), e 6 (by omega) (by omega) (by omega)]
  refine ⟨⟨v0, v1, v2, ?_, v4, v5, v6, fun n g0 g1 => by rw [e (7 + n) (by omega) (by omega) (by omega)]; exact v7 n g0 g1⟩, hW.2.2.2.2 s h0 hs⟩
  unfold sV atW
  rw [if_pos (by omega)]
  split <;> omega
theorem relC_att {i i' : Nat → Int → Int} {l : Nat → Int → BitVec 64} {c : Nat} {W : Int → Int} {ws : List wT} {T : BitVec 64} (hr : relC i l c W) (hW : okW W) (hw : okWs 40 ws) (hT : T = tT 0#64 ws)
    (hi : ∀ a b, i' a b = if b = 7 ∧ c + 2 ≤ a ∧ (a : Int) < c + 2 + W 11 then (if T.getLsbD (a - c - 2) = true then 0 else 1) else i a b) : relC i' l c (atW W ws) := by
  have hN := hW.n
  refine relC_sing hr (fun k hk => atW_else (by omega)) (fun a b ha => by rw [hi, if_neg (by omega)]) (fun s h0 hs => ?_)
  have e : ∀ j, 0 ≤ j → j < 48 → j ≠ 3 → sV (atW W ws) s j = sV W s j := fun j g0 g1 g3 => atW_else (by omega)
  obtain ⟨⟨v0, v1, v2, v3, v4, v5, v6⟩, v7, v8, v9⟩ := hr.s h0 hs
  have ei : ∀ b, b ≠ 7 → i' (c + 2 + s.toNat) b = i (c + 2 + s.toNat) b := fun b hb => by rw [hi, if_neg (fun q => hb q.1)]
  have rg : rgZ (sV (atW W ws) s) = rgZ (sV W s) := by
    unfold rgZ
    exact rwZ_congr (fun k g0 g1 => by rw [e (7 + k) (by omega) (by omega) (by omega)])
  unfold relS
  rw [rg, e 0 (by omega) (by omega) (by omega), e 1 (by omega) (by omega) (by omega), e 2 (by omega) (by omega) (by omega), e 4 (by omega) (by omega) (by omega), e 5 (by omega) (by omega) (by omega), e 6 (by omega) (by omega) (by omega), ei 0 (by omega), ei 1 (by omega), ei 6 (by omega), ei 8 (by omega), ei 9 (by omega), ei 10 (by omega), ei 4 (by omega), ei 5 (by omega)]
  refine ⟨⟨v0, v1, v2, ?_, v4, v5, v6⟩, fun n g0 g1 => by rw [e (7 + n) (by omega) (by omega) (by omega)]; exact v7 n g0 g1, v8, v9⟩
  have e3 : sV (atW W ws) s 3 = if hasW ws s = true then 0 else 1 := by
    unfold sV atW
    rw [if_pos (by omega), show (12 + 48 * s + 3 - 12) / 48 = s by omega]
  rw [hi, if_pos ⟨rfl, by omega, by omega⟩, e3, hT, show c + 2 + s.toNat - c - 2 = s.toNat by omega, hasW_bits hw (by omega)]
