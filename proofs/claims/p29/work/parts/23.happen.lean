variable {nn : Nat} {bb : Bool}
/-! a rehearsal that happens -/
def hsZ (bb : Bool) (i : Nat → Int → Int) (k x : Int) : Int := sumZ (fun p => if i (ob bb + 176) p = k then 1 else 0) x
theorem hsZ_s (i : Nat → Int → Int) (k : Int) {x : Int} (h : 0 ≤ x) : hsZ bb i k (x + 1) = hsZ bb i k x + if i (ob bb + 176) x = k then 1 else 0 := sumZ_s _ h
theorem hsZ_nn (i : Nat → Int → Int) (k : Int) {x : Int} (h : 0 ≤ x) : 0 ≤ hsZ bb i k x := by
  have := (sumZ_bd (f := fun p => if i (ob bb + 176) p = k then 1 else 0) (x := x) (a := 0) (b := 1) h (fun k _ _ => by split <;> omega)).1
  unfold hsZ
  omega
def hpA (bb : Bool) (i ii : Nat → Int → Int) (c : Nat) (x : Int) : Prop := ∀ a b, ii a b = if a = c + 14 ∧ 0 ≤ b ∧ b < x then i a b + (if i (ob bb + 175) b < i (c + 12) 1 then 1 else 0) else if a = c + 13 ∧ i c 5 * 4 ≤ b ∧ b < i c 5 * 4 + x then i (ob bb + 176) (b - i c 5 * 4) else if c + 2 ≤ a ∧ (a : Int) < c + 2 + i c 4 ∧ b = 8 then i a b + hsZ bb i (a - c - 2) x else if c + 2 ≤ a ∧ (a : Int) < c + 2 + i c 4 ∧ b = 9 ∧ 0 < hsZ bb i (a - c - 2) x then i c 5 else i a b
theorem hpA_0 (i : Nat → Int → Int) (c : Nat) : hpA bb i i c 0 := by
  intro a b
  have : hsZ bb i (a - c - 2) 0 = 0 := rfl
  rw [if_neg (by omega), if_neg (by omega), this]
  split
  · omega
  · rw [if_neg (by omega)]
theorem hp_step {i ii i' : Nat → Int → Int} {c : Nat} {x : Int} (hx : 0 ≤ x ∧ x < 4) (hn : 0 ≤ i c 4 ∧ i c 4 ≤ 10) (hso : i (ob bb + 176) x = -9 ∨ (0 ≤ i (ob bb + 176) x ∧ i (ob bb + 176) x < i c 4)) (hA : hpA bb i ii c x)
    (hi : ∀ a b, i' a b = if a = c + 14 ∧ b = x ∧ i (ob bb + 175) x < i (c + 12) 1 then i a b + 1 else if a = c + 13 ∧ b = i c 5 * 4 + x then i (ob bb + 176) x else if i (ob bb + 176) x ≠ -9 ∧ a = c + 2 + (i (ob bb + 176) x).toNat ∧ b = 9 then i c 5 else if i (ob bb + 176) x ≠ -9 ∧ a = c + 2 + (i (ob bb + 176) x).toNat ∧ b = 8 then ii a b + 1 else ii a b) : hpA bb i i' c (x + 1) := by
  intro a b
  have hnn := hsZ_nn (bb := bb) i (a - c - 2) hx.1
  rw [hi, hsZ_s _ _ hx.1]
  have hA' := hA a b
  by_cases h14 : a = c + 14
  · rw [hA', if_neg (show ¬ (a = c + 13 ∧ b = i c 5 * 4 + x) by omega), if_neg (show ¬ (i (ob bb + 176) x ≠ -9 ∧ a = c + 2 + (i (ob bb + 176) x).toNat ∧ b = 9) by omega), if_neg (show ¬ (i (ob bb + 176) x ≠ -9 ∧ a = c + 2 + (i (ob bb + 176) x).toNat ∧ b = 8) by omega)]
    by_cases hb : b = x
    · subst hb
      rw [if_pos (show a = c + 14 ∧ 0 ≤ b ∧ b < b + 1 by omega), if_neg (show ¬ (a = c + 14 ∧ 0 ≤ b ∧ b < b) by omega), if_neg (show ¬ (a = c + 13 ∧ _) by omega), if_neg (show ¬ (c + 2 ≤ a ∧ (a : Int) < c + 2 + i c 4 ∧ b = 8) by omega), if_neg (show ¬ (c + 2 ≤ a ∧ (a : Int) < c + 2 + i c 4 ∧ b = 9 ∧ _) by omega)]
      by_cases hcov : i (ob bb + 175) b < i (c + 12) 1
      · rw [if_pos ⟨h14, rfl, hcov⟩, if_pos hcov]
      · rw [if_neg (fun q => hcov q.2.2), if_neg hcov]; omega
    · rw [if_neg (show ¬ (a = c + 14 ∧ b = x ∧ _) by omega)]
      by_cases hb2 : 0 ≤ b ∧ b < x
      · rw [if_pos ⟨h14, hb2⟩, if_pos (show a = c + 14 ∧ 0 ≤ b ∧ b < x + 1 by omega)]
      · rw [if_neg (show ¬ (a = c + 14 ∧ 0 ≤ b ∧ b < x) by omega), if_neg (show ¬ (a = c + 14 ∧ 0 ≤ b ∧ b < x + 1) by omega), if_neg (show ¬ (a = c + 13 ∧ _) by omega), if_neg (show ¬ (a = c + 13 ∧ _) by omega), if_neg (show ¬ (c + 2 ≤ a ∧ (a : Int) < c + 2 + i c 4 ∧ b = 8) by omega), if_neg (show ¬ (c + 2 ≤ a ∧ (a : Int) < c + 2 + i c 4 ∧ b = 9 ∧ _) by omega), if_neg (show ¬ (c + 2 ≤ a ∧ (a : Int) < c + 2 + i c 4 ∧ b = 8) by omega), if_neg (show ¬ (c + 2 ≤ a ∧ (a : Int) < c + 2 + i c 4 ∧ b = 9 ∧ _) by omega)]
  · rw [hA', if_neg (show ¬ (a = c + 14 ∧ b = x ∧ _) by omega), if_neg (show ¬ (a = c + 14 ∧ 0 ≤ b ∧ b < x) by omega), if_neg (show ¬ (a = c + 14 ∧ 0 ≤ b ∧ b < x + 1) by omega)]
    by_cases h13 : a = c + 13
    · rw [if_neg (show ¬ (i (ob bb + 176) x ≠ -9 ∧ a = c + 2 + (i (ob bb + 176) x).toNat ∧ b = 9) by omega), if_neg (show ¬ (i (ob bb + 176) x ≠ -9 ∧ a = c + 2 + (i (ob bb + 176) x).toNat ∧ b = 8) by omega)]
      by_cases hb : b = i c 5 * 4 + x
      · rw [if_pos ⟨h13, hb⟩, if_pos (by omega)]
        congr 1
        omega
      · rw [if_neg (fun q => hb q.2)]
        by_cases hb2 : i c 5 * 4 ≤ b ∧ b < i c 5 * 4 + x
        · rw [if_pos ⟨h13, hb2⟩, if_pos (by omega)]
        · rw [if_neg (fun q => hb2 q.2), if_neg (show ¬ (a = c + 13 ∧ i c 5 * 4 ≤ b ∧ b < i c 5 * 4 + (x + 1)) by omega), if_neg (show ¬ (c + 2 ≤ a ∧ (a : Int) < c + 2 + i c 4 ∧ b = 8) by omega), if_neg (show ¬ (c + 2 ≤ a ∧ (a : Int) < c + 2 + i c 4 ∧ b = 9 ∧ _) by omega), if_neg (show ¬ (c + 2 ≤ a ∧ (a : Int) < c + 2 + i c 4 ∧ b = 8) by omega), if_neg (show ¬ (c + 2 ≤ a ∧ (a : Int) < c + 2 + i c 4 ∧ b = 9 ∧ _) by omega)]
    · rw [if_neg (show ¬ (a = c + 13 ∧ b = i c 5 * 4 + x) by omega), if_neg (show ¬ (a = c + 13 ∧ i c 5 * 4 ≤ b ∧ b < i c 5 * 4 + x) by omega), if_neg (show ¬ (a = c + 13 ∧ i c 5 * 4 ≤ b ∧ b < i c 5 * 4 + (x + 1)) by omega)]
      by_cases hs : i (ob bb + 176) x ≠ -9 ∧ a = c + 2 + (i (ob bb + 176) x).toNat
      · have e : i (ob bb + 176) x = a - c - 2 := by omega
        rw [if_pos e]
        by_cases h9 : b = 9
        · rw [if_pos ⟨hs.1, hs.2, h9⟩, if_neg (show ¬ (c + 2 ≤ a ∧ (a : Int) < c + 2 + i c 4 ∧ b = 8) by omega), if_pos (by omega)]
        · rw [if_neg (fun q => h9 q.2.2)]
          by_cases h8 : b = 8
          · rw [if_pos ⟨hs.1, hs.2, h8⟩, if_pos (show c + 2 ≤ a ∧ (a : Int) < c + 2 + i c 4 ∧ b = 8 by omega), if_pos (show c + 2 ≤ a ∧ (a : Int) < c + 2 + i c 4 ∧ b = 8 by omega)]
            omega
          · rw [if_neg (fun q => h8 q.2.2), if_neg (fun q => h8 q.2.2), if_neg (fun q => h9 q.2.2.1), if_neg (fun q => h8 q.2.2), if_neg (fun q => h9 q.2.2.1)]
      · rw [if_neg (fun q => hs ⟨q.1, q.2.1⟩), if_neg (fun q => hs ⟨q.1, q.2.1⟩)]
        by_cases hr : c + 2 ≤ a ∧ (a : Int) < c + 2 + i c 4
        · rw [if_neg (show ¬ (i (ob bb + 176) x = a - c - 2) by omega), show hsZ bb i (a - c - 2) x + 0 = hsZ bb i (a - c - 2) x by omega]
        · rw [if_neg (fun q => hr ⟨q.1, q.2.1⟩), if_neg (fun q => hr ⟨q.1, q.2.1⟩), if_neg (fun q => hr ⟨q.1, q.2.1⟩), if_neg (fun q => hr ⟨q.1, q.2.1⟩)]
def siC (bb : Bool) (i : Nat → Int → Int) (x : Int) : Int := sumZ (fun k => if i (ob bb + 174) k = -9 then 0 else 1) x
theorem siC_s (i : Nat → Int → Int) {x : Int} (h : 0 ≤ x) : siC bb i (x + 1) = siC bb i x + if i (ob bb + 174) x = -9 then 0 else 1 := sumZ_s _ h
def sgC (bb : Bool) (i : Nat → Int → Int) (x : Int) : Int := sumZ (fun p => if i (ob bb + 176) p = -9 then 0 else 1) x
theorem sgC_s (i : Nat → Int → Int) {x : Int} (h : 0 ≤ x) : sgC bb i (x + 1) = sgC bb i x + if i (ob bb + 176) x = -9 then 0 else 1 := sumZ_s _ h
def hpB (bb : Bool) (i kk jj : Nat → Int → Int) (c : Nat) (x : Int) : Prop := ∀ a b, jj a b = if a = c ∧ b = 7 then kk c 7 + siC bb i x else if c + 2 ≤ a ∧ (a : Int) < c + 2 + x ∧ b = 10 then kk a b + (if i (ob bb + 174) (a - c - 2) = -9 then 0 else 1) else if c + 2 ≤ a ∧ (a : Int) < c + 2 + x ∧ b = 7 then 1 else kk a b
theorem hpB_step {i kk jj i' : Nat → Int → Int} {c : Nat} {x : Int} (hx : 0 ≤ x ∧ x < 10) (hA : hpB bb i kk jj c x)
    (hi : ∀ a b, i' a b = if a = c + 2 + x.toNat ∧ b = 7 then 1 else if i (ob bb + 174) x ≠ -9 ∧ a = c ∧ b = 7 then jj c 7 + 1 else if i (ob bb + 174) x ≠ -9 ∧ a = c + 2 + x.toNat ∧ b = 10 then jj a b + 1 else jj a b) : hpB bb i kk i' c (x + 1) := by
  intro a b
  rw [hi, siC_s _ hx.1, hA a b, hA c 7, if_pos (show c = c ∧ (7 : Int) = 7 from ⟨rfl, rfl⟩)]
  by_cases ha : a = c + 2 + x.toNat
  · have e : (a : Int) - c - 2 = x := by omega
    rw [e]
    by_cases hb : b = 7
    · rw [if_pos ⟨ha, hb⟩, if_neg (show ¬ (a = c ∧ b = 7) by omega), if_neg (show ¬ (c + 2 ≤ a ∧ (a : Int) < c + 2 + (x + 1) ∧ b = 10) by omega), if_pos (by omega)]
    · rw [if_neg (fun q => hb q.2), if_neg (fun q => hb q.2.2), if_neg (show ¬ (a = c ∧ b = 7) from fun q => hb q.2), if_neg (show ¬ (c + 2 ≤ a ∧ (a : Int) < c + 2 + x ∧ b = 10) by omega), if_neg (show ¬ (c + 2 ≤ a ∧ (a : Int) < c + 2 + x ∧ b = 7) by omega), if_neg (show ¬ (a = c ∧ b = 7) from fun q => hb q.2), if_neg (show ¬ (c + 2 ≤ a ∧ (a : Int) < c + 2 + (x + 1) ∧ b = 7) from fun q => hb q.2.2)]
      by_cases h10 : b = 10
      · rw [if_pos (show c + 2 ≤ a ∧ (a : Int) < c + 2 + (x + 1) ∧ b = 10 by omega)]
        by_cases h174 : i (ob bb + 174) x = -9
        · rw [if_neg (fun q => q.1 h174), if_pos h174]; omega
        · rw [if_pos ⟨h174, ha, h10⟩, if_neg h174]
      · rw [if_neg (fun q => h10 q.2.2), if_neg (fun q => h10 q.2.2)]
  · rw [if_neg (fun q => ha q.1), if_neg (show ¬ (i (ob bb + 174) x ≠ -9 ∧ a = c + 2 + x.toNat ∧ b = 10) from fun q => ha q.2.1)]
    by_cases h7 : a = c ∧ b = 7
    · rw [if_pos h7, if_pos h7]
      by_cases h174 : i (ob bb + 174) x = -9
      · rw [if_neg (fun q => q.1 h174), if_pos h174]; omega
      · rw [if_pos ⟨h174, h7⟩, if_neg h174]; omega
    · rw [if_neg (fun q => h7 q.2), if_neg h7, if_neg h7]
      have e1 : (c + 2 ≤ a ∧ (a : Int) < c + 2 + x) ↔ (c + 2 ≤ a ∧ (a : Int) < c + 2 + (x + 1)) := by omega
      by_cases hr : c + 2 ≤ a ∧ (a : Int) < c + 2 + x
      · have hr2 := e1.mp hr
        simp only [hr, hr2, true_and]
      · have hr2 := fun q => hr (e1.mpr q)
        rw [if_neg (fun q => hr ⟨q.1, q.2.1⟩), if_neg (fun q => hr ⟨q.1, q.2.1⟩), if_neg (fun q => hr2 ⟨q.1, q.2.1⟩), if_neg (fun q => hr2 ⟨q.1, q.2.1⟩)]
theorem hp_put {ii i0 i1 i' : Nat → Int → Int} {c : Nat} {C : Prop} [Decidable C] {x h s : Int} {w : Nat → Int → Int} {Q : Nat} (hQ : Q ≠ c + 14 ∧ Q ≠ c + 13) (h1 : i1 = mU i0 (c + 13) (h * 4 + x) s) (h0 : ∀ a b, i0 a b = if a = c + 14 ∧ b = x ∧ C then w a b else ii a b)
    (hi : (s = -9 ∧ i' = i1) ∨ (s ≠ -9 ∧ i' = mU (mU i1 Q 8 (i1 Q 8 + 1)) Q 9 h)) : ∀ a b, i' a b = if a = c + 14 ∧ b = x ∧ C then w a b else if a = c + 13 ∧ b = h * 4 + x then s else if s ≠ -9 ∧ a = Q ∧ b = 9 then h else if s ≠ -9 ∧ a = Q ∧ b = 8 then ii a b + 1 else ii a b := by
  intro a b
  have e1 : ∀ a b, i1 a b = if a = c + 14 ∧ b = x ∧ C then w a b else if a = c + 13 ∧ b = h * 4 + x then s else ii a b := by
    intro a b
    rw [h1]
    simp only [mU]
    by_cases q : a = c + 13 ∧ b = h * 4 + x
    · rw [if_pos q, if_neg (by omega), if_pos q]
    · rw [if_neg q, if_neg q, h0]
  rcases hi with ⟨hs, rfl⟩ | ⟨hs, rfl⟩
  · rw [e1, if_neg (show ¬ (s ≠ -9 ∧ a = Q ∧ b = 9) from fun q => q.1 hs), if_neg (show ¬ (s ≠ -9 ∧ a = Q ∧ b = 8) from fun q => q.1 hs)]
  · simp only [mU]
    by_cases q9 : a = Q ∧ b = 9
    · rw [if_pos q9, if_neg (by omega), if_neg (by omega), if_pos ⟨hs, q9⟩]
    · rw [if_neg q9, if_neg (show ¬ (s ≠ -9 ∧ a = Q ∧ b = 9) from fun q => q9 q.2)]
      by_cases q8 : a = Q ∧ b = 8
      · rw [if_pos q8, if_neg (show ¬ (a = c + 14 ∧ b = x ∧ C) by omega), if_neg (by omega), if_pos ⟨hs, q8⟩, e1, if_neg (by omega), if_neg (by omega), q8.1, q8.2]
      · rw [if_neg q8, if_neg (show ¬ (s ≠ -9 ∧ a = Q ∧ b = 8) from fun q => q8 q.2), e1]
set_option maxRecDepth 20000 in
set_option maxHeartbeats 2000000 in
theorem c_happen {i : Nat → Int → Int} {l : Nat → Int → BitVec 64} {c : Nat} (hc : isC bb c) (hO : okC i c) (hh : i c 5 ≤ 39) (h175 : ∀ p, 0 ≤ p → p < 4 → -2000 ≤ i (ob bb + 175) p ∧ i (ob bb + 175) p ≤ 2000) (h174 : ∀ k, 0 ≤ k → k < 10 → -9 ≤ i (ob bb + 174) k ∧ i (ob bb + 174) k ≤ 3) (hso : ∀ p, 0 ≤ p → p < 4 → i (ob bb + 176) p = -9 ∨ (0 ≤ i (ob bb + 176) p ∧ i (ob bb + 176) p < i c 4)) : mCtr m_X4_happen 2 0 0 [vR (some (ob bb + 173)), vR (some c)] (st nn i l) (qW nn (fun z i' l' => z = sgC bb i 4 ∧ l' = l ∧ ∃ ii kk jj, hpA bb i ii c 4 ∧ kk = mU ii c 6 (i c 6 + sgC bb i 4) ∧ hpB bb i kk jj c (i c 4) ∧ i' = mU jj c 5 (i c 5 + 1))) := by
  refine mCtr_of pl_X4 dc_X4_happen (Nat.le_of_ble_eq_true rfl) rfl ?_
  show mX m_X4_happen 2 _ 0 0 0 [some (vR (some (ob bb + 173))), some (vR (some c)), none, none] [] (st nn i l)
  have hN := hO.n
  have hr := isC_r hc
  refine x_iconst 0 rfl ?_
  refine x_istore_n 1 (L' := [some (vR (some (ob bb + 173))), some (vR (some c)), some (vI (0)), none]) rfl (by decide) rfl rfl ?_
  refine x_iconst 2 rfl ?_
  refine x_istore_n 3 (L' := [some (vR (some (ob bb + 173))), some (vR (some c)), some (vI (0)), some (vI (0))]) rfl (by decide) rfl rfl ?_
  have loopL1 : ∀ (nz : Nat) (ii : Nat → Int → Int) (x : Int) (g : Int), (0 ≤ x ∧ x ≤ 4) → (g = sgC bb i x) → (hpA bb i ii c x) → (4 - x) < (nz : Int) → mX m_X4_happen 2 (qW nn (fun z i' l' => z = sgC bb i 4 ∧ l' = l ∧ ∃ ii kk jj, hpA bb i ii c 4 ∧ kk = mU ii c 6 (i c 6 + sgC bb i 4) ∧ hpB bb i kk jj c (i c 4) ∧ i' = mU jj c 5 (i c 5 + 1))) 0 0 4 [some (vR (some (ob bb + 173))), some (vR (some c)), some (vI (g)), some (vI (x))] [] (st nn ii l) := by
    intro nz
    induction nz with
    | zero => intro ii x g hx hg hA hz; exact absurd hz (by omega)
    | succ nz ihL1 =>
      intro ii x g hx hg hA hzL1
      refine x_iload_n 4 rfl rfl ?_
      refine x_iconst 5 rfl ?_
      refine x_icmp_ge 6 (tgt := 109) rfl (by decide) (by omega) (fun h2 => ?_) (fun h2 => ?_)
      · have f4 : ii c 4 = i c 4 := by rw [hA, if_neg (by omega), if_neg (by omega), if_neg (by omega), if_neg (by omega)]
        have f5 : ii c 5 = i c 5 := by rw [hA, if_neg (by omega), if_neg (by omega), if_neg (by omega), if_neg (by omega)]
        have e6 : ii c 6 = i c 6 := by rw [hA, if_neg (by omega), if_neg (by omega), if_neg (by omega), if_neg (by omega)]
        have f174 : ∀ k, ii (ob bb + 174) k = i (ob bb + 174) k := by intro k; rw [hA, if_neg (by omega), if_neg (by omega), if_neg (by omega), if_neg (by omega)]
        refine x_aload_n 66 rfl rfl ?_
        refine x_dup 67 rfl rfl ?_
        refine x_getI 68 (z := ii c 6) rfl fl_X4_91 (isC_0 hc) (kC hc) rfl rfl ?_
        refine x_iload_n 69 rfl rfl ?_
        refine x_iadd 70 (r := (ii c 6) + g) rfl rfl ?_
        obtain ⟨i3, hi3⟩ : ∃ f, f = mU ii c 6 ((ii c 6) + g) := ⟨_, rfl⟩
        refine x_putI 71 rfl fl_X4_91 (isC_0 hc) (kC hc) rfl rfl (g' := st nn i3 l) (by subst hi3; rfl) ?_
        refine x_iconst 72 rfl ?_
        refine x_istore_n 73 (L' := [some (vR (some (ob bb + 173))), some (vR (some c)), some (vI (g)), some (vI (0))]) rfl (by decide) rfl rfl ?_
        obtain ⟨kk, hkk⟩ : ∃ f, f = i3 := ⟨_, rfl⟩
        have hkk2 : kk = mU ii c 6 (i c 6 + g) := by rw [hkk, hi3, e6]
        have k4 : kk c 4 = i c 4 := by rw [hkk2]; simp only [mU]; rw [if_neg (by omega)]; exact f4
        have k5 : kk c 5 = i c 5 := by rw [hkk2]; simp only [mU]; rw [if_neg (by omega)]; exact f5
        have k174 : ∀ k, kk (ob bb + 174) k = i (ob bb + 174) k := by intro k; rw [hkk2]; simp only [mU]; rw [if_neg (by omega)]; exact f174 k
        have loopL4 : ∀ (nz : Nat) (jj : Nat → Int → Int) (x2 : Int), (0 ≤ x2 ∧ x2 ≤ i c 4) → (hpB bb i kk jj c x2) → (i c 4 - x2) < (nz : Int) → mX m_X4_happen 2 (qW nn (fun z i' l' => z = sgC bb i 4 ∧ l' = l ∧ ∃ ii kk jj, hpA bb i ii c 4 ∧ kk = mU ii c 6 (i c 6 + sgC bb i 4) ∧ hpB bb i kk jj c (i c 4) ∧ i' = mU jj c 5 (i c 5 + 1))) 0 0 121 [some (vR (some (ob bb + 173))), some (vR (some c)), some (vI (g)), some (vI (x2))] [] (st nn jj l) := by
          intro nz
          induction nz with
          | zero => intro jj x2 hx2 hB hz; exact absurd hz (by omega)
          | succ nz ihL4 =>
            intro jj x2 hx2 hB hzL4
            have j4 : jj c 4 = i c 4 := by rw [hB, if_neg (by omega), if_neg (by omega), if_neg (by omega)]; exact k4
            have j5 : jj c 5 = i c 5 := by rw [hB, if_neg (by omega), if_neg (by omega), if_neg (by omega)]; exact k5
            have j174 : jj (ob bb + 174) x2 = i (ob bb + 174) x2 := by rw [hB, if_neg (by omega), if_neg (by omega), if_neg (by omega)]; exact k174 x2
            refine x_iload_n 74 rfl rfl ?_
            refine x_aload_n 75 rfl rfl ?_
            refine x_getI 76 (z := jj c 4) rfl fl_X4_35 (isC_0 hc) (kC hc) rfl rfl ?_
            refine x_icmp_ge 77 (tgt := 181) rfl (by decide) (by omega) (fun h5 => ?_) (fun h5 => ?_)
            · refine x_aload_n 107 rfl rfl ?_
              refine x_dup 108 rfl rfl ?_
              refine x_getI 109 (z := jj c 5) rfl fl_X4_82 (isC_0 hc) (kC hc) rfl rfl ?_
              refine x_iconst 110 rfl ?_
              refine x_iadd 111 (r := (jj c 5) + 1) rfl rfl ?_
              obtain ⟨i6, hi6⟩ : ∃ f, f = mU jj c 5 ((jj c 5) + 1) := ⟨_, rfl⟩
              refine x_putI 112 rfl fl_X4_82 (isC_0 hc) (kC hc) rfl rfl (g' := st nn i6 l) (by subst hi6; rfl) ?_
              refine x_iload_n 113 rfl rfl ?_
              refine x_ret 114 (some (vI (g))) rfl ⟨rfl, Or.inl rfl⟩ ⟨_, i6, l, rfl, rfl, ?_⟩
              rw [show x = 4 by omega] at hA hg
              rw [show x2 = i c 4 by omega] at hB
              refine ⟨hg, rfl, ii, kk, jj, hA, ?_, hB, ?_⟩
              · rw [hkk2, hg]
              · rw [hi6, j5]
            · have hx174 := h174 x2 hx2.1 (by omega)
              refine x_aload_n 78 rfl rfl ?_
              refine x_getR 79 (z := (ob bb + 174)) rfl fl_X4_9 (b_lt rfl) k_173 rfl r_173_0 ?_
              refine x_iload_n 80 rfl rfl ?_
              refine x_iald 81 (z := jj (ob bb + 174) x2) rfl (b_lt rfl) k_174 (by omega) rfl ?_
              refine x_bipush 82 rfl (by decide) ?_
              refine x_icmp_eq 83 (tgt := 165) rfl (by decide) (by omega) (fun h7 => ?_) (fun h7 => ?_)
              · refine x_aload_n 99 rfl rfl ?_
                refine x_getR 100 (z := (c + 1)) rfl fl_X4_47 (isC_0 hc) (kC hc) rfl (rC0 hc) ?_
                refine x_iload_n 101 rfl rfl ?_
                refine x_aald 102 (t := 3) (z := (c + 2 + (x2).toNat)) rfl (isC_S hc) (kCS hc) (by omega) ⟨rfl, rfl⟩ (rCs hc (by omega)) ?_
                refine x_iconst 103 rfl ?_
                obtain ⟨i8, hi8⟩ : ∃ f, f = mU jj (c + 2 + (x2).toNat) 7 (1) := ⟨_, rfl⟩
                refine x_putZ 104 rfl fl_X4_58 (isS_lt (isS.of hc (show (x2).toNat < 10 by omega))) (kS (isS.of hc (show (x2).toNat < 10 by omega))) rfl (by omega) rfl (g' := st nn i8 l) (by subst hi8; rfl) ?_
                refine x_iinc 105 (L' := [some (vR (some (ob bb + 173))), some (vR (some c)), some (vI (g)), some (vI (x2 + 1))]) rfl (by decide) rfl rfl rfl rfl ?_
                refine x_goto 106 (tgt := 121) rfl (by decide) ?_
                exact ihL4 i8 (x2 + 1) (by omega) (hpB_step (by omega) hB (by intro a b; subst_vars; simp only [mU]; grind)) (by omega)
              · refine x_aload_n 84 rfl rfl ?_
                refine x_getR 85 (z := (c + 1)) rfl fl_X4_47 (isC_0 hc) (kC hc) rfl (rC0 hc) ?_
                refine x_iload_n 86 rfl rfl ?_
                refine x_aald 87 (t := 3) (z := (c + 2 + (x2).toNat)) rfl (isC_S hc) (kCS hc) (by omega) ⟨rfl, rfl⟩ (rCs hc (by omega)) ?_
                refine x_dup 88 rfl rfl ?_
                refine x_getI 89 (z := jj (c + 2 + (x2).toNat) 10) rfl fl_X4_92 (isS_lt (isS.of hc (show (x2).toNat < 10 by omega))) (kS (isS.of hc (show (x2).toNat < 10 by omega))) rfl rfl ?_
                refine x_iconst 90 rfl ?_
                refine x_iadd 91 (r := (jj (c + 2 + (x2).toNat) 10) + 1) rfl rfl ?_
                obtain ⟨i9, hi9⟩ : ∃ f, f = mU jj (c + 2 + (x2).toNat) 10 ((jj (c + 2 + (x2).toNat) 10) + 1) := ⟨_, rfl⟩
                refine x_putI 92 rfl fl_X4_92 (isS_lt (isS.of hc (show (x2).toNat < 10 by omega))) (kS (isS.of hc (show (x2).toNat < 10 by omega))) rfl rfl (g' := st nn i9 l) (by subst hi9; rfl) ?_
                refine x_aload_n 93 rfl rfl ?_
                refine x_dup 94 rfl rfl ?_
                refine x_getI 95 (z := i9 c 7) rfl fl_X4_95 (isC_0 hc) (kC hc) rfl rfl ?_
                refine x_iconst 96 rfl ?_
                refine x_iadd 97 (r := (i9 c 7) + 1) rfl rfl ?_
                obtain ⟨i10, hi10⟩ : ∃ f, f = mU i9 c 7 ((i9 c 7) + 1) := ⟨_, rfl⟩
                refine x_putI 98 rfl fl_X4_95 (isC_0 hc) (kC hc) rfl rfl (g' := st nn i10 l) (by subst hi10; rfl) ?_
                refine x_aload_n 99 rfl rfl ?_
                refine x_getR 100 (z := (c + 1)) rfl fl_X4_47 (isC_0 hc) (kC hc) rfl (rC0 hc) ?_
                refine x_iload_n 101 rfl rfl ?_
                refine x_aald 102 (t := 3) (z := (c + 2 + (x2).toNat)) rfl (isC_S hc) (kCS hc) (by omega) ⟨rfl, rfl⟩ (rCs hc (by omega)) ?_
                refine x_iconst 103 rfl ?_
                obtain ⟨i11, hi11⟩ : ∃ f, f = mU i10 (c + 2 + (x2).toNat) 7 (1) := ⟨_, rfl⟩
                refine x_putZ 104 rfl fl_X4_58 (isS_lt (isS.of hc (show (x2).toNat < 10 by omega))) (kS (isS.of hc (show (x2).toNat < 10 by omega))) rfl (by omega) rfl (g' := st nn i11 l) (by subst hi11; rfl) ?_
                refine x_iinc 105 (L' := [some (vR (some (ob bb + 173))), some (vR (some c)), some (vI (g)), some (vI (x2 + 1))]) rfl (by decide) rfl rfl rfl rfl ?_
                refine x_goto 106 (tgt := 121) rfl (by decide) ?_
                exact ihL4 i11 (x2 + 1) (by omega) (hpB_step (by omega) hB (by intro a b; subst_vars; simp only [mU]; grind)) (by omega)
        exact loopL4 ((i c 4 - ((0))) + 1 : Int).toNat i3 (0) (by omega) (by intro a b; rw [if_neg (show ¬ (c + 2 ≤ a ∧ (a : Int) < c + 2 + 0 ∧ b = 10) by omega), if_neg (show ¬ (c + 2 ≤ a ∧ (a : Int) < c + 2 + 0 ∧ b = 7) by omega), hkk]; show _ = if a = c ∧ b = 7 then _ + 0 else _; by_cases q : a = c ∧ b = 7; (rw [if_pos q, q.1, q.2]; omega); (rw [if_neg q])) (by omega)
      · have e175 : ii (ob bb + 175) x = i (ob bb + 175) x := by rw [hA, if_neg (by omega), if_neg (by omega), if_neg (by omega), if_neg (by omega)]
        have e176 : ii (ob bb + 176) x = i (ob bb + 176) x := by rw [hA, if_neg (by omega), if_neg (by omega), if_neg (by omega), if_neg (by omega)]
        have e121 : ii (c + 12) 1 = i (c + 12) 1 := by rw [hA, if_neg (by omega), if_neg (by omega), if_neg (by omega), if_neg (by omega)]
        have e5 : ii c 5 = i c 5 := by rw [hA, if_neg (by omega), if_neg (by omega), if_neg (by omega), if_neg (by omega)]
        have h175x := h175 x hx.1 (by omega)
        have hsx := hso x hx.1 (by omega)
        have ew : ii (c + 14) x = i (c + 14) x := by rw [hA, if_neg (by omega), if_neg (by omega), if_neg (by omega), if_neg (by omega)]
        refine x_aload_n 7 rfl rfl ?_
        refine x_aload_n 8 rfl rfl ?_
        refine x_getR 9 (z := (ob bb + 175)) rfl fl_X4_15 (b_lt rfl) k_173 rfl r_173_1 ?_
        refine x_iload_n 10 rfl rfl ?_
        refine x_iald 11 (z := ii (ob bb + 175) x) rfl (b_lt rfl) k_175 (by omega) rfl ?_
        refine x_callV 12 m_X0_covers (c_covers hc (by omega) (by omega)) rfl ok_X0_covers (isC_0 hc) (kC hc) rfl rfl ml_X4_39 im_X0_covers se_X0_covers rfl (by decide) rfl (Nat.le_of_ble_eq_true rfl) rfl rfl (fun v g q12 => ?_)
        rcases q12 with ⟨rfl, ⟨h13, rfl⟩ | ⟨h13, rfl⟩⟩
        · show mX m_X4_happen 2 _ 0 0 _ _ [vI (1)] _
          refine x_if_ne 13 (tgt := 32) rfl (by decide) (by decide) (fun h14 => ?_) (fun h14 => absurd h14 (by decide))
          obtain ⟨hI0, hI0d⟩ : ∃ f, f = ii := ⟨_, rfl⟩
          have e5q : ii c 5 = i c 5 := by assumption
          have e176q : ii (ob bb + 176) x = i (ob bb + 176) x := by assumption
          have hI0e : ∀ a b, hI0 a b = if a = c + 14 ∧ b = x ∧ i (ob bb + 175) x < i (c + 12) 1 then i a b + 1 else ii a b := by intro a b; rw [hI0d]; first | rw [if_neg (by omega)] | (rw [hii]; simp only [mU, ew]; by_cases q : a = c + 14 ∧ b = x; (rw [if_pos q, if_pos ⟨q.1, q.2, by omega⟩, q.1, q.2]); (rw [if_neg q, if_neg (fun z => q ⟨z.1, z.2.1⟩)]))
          refine x_aload_n 22 rfl rfl ?_
          refine x_getR 23 (z := (c + 13)) rfl fl_X4_79 (isC_0 hc) (kC hc) rfl (rC2 hc) ?_
          refine x_aload_n 24 rfl rfl ?_
          refine x_getI 25 (z := ii c 5) rfl fl_X4_82 (isC_0 hc) (kC hc) rfl rfl ?_
          refine x_iconst 26 rfl ?_
          refine x_imul 27 (r := (ii c 5) * 4) rfl rfl ?_
          refine x_iload_n 28 rfl rfl ?_
          refine x_iadd 29 (r := ((ii c 5) * 4) + x) rfl rfl ?_
          refine x_aload_n 30 rfl rfl ?_
          refine x_getR 31 (z := (ob bb + 176)) rfl fl_X4_18 (b_lt rfl) k_173 rfl r_173_2 ?_
          refine x_iload_n 32 rfl rfl ?_
          refine x_iald 33 (z := ii (ob bb + 176) x) rfl (b_lt rfl) k_176 (by omega) rfl ?_
          obtain ⟨i15, hi15⟩ : ∃ f, f = mU ii (c + 13) (((ii c 5) * 4) + x) (ii (ob bb + 176) x) := ⟨_, rfl⟩
          refine x_iast 34 rfl (isC_O hc) (kCO hc) (by omega) (g' := st nn i15 l) (by subst hi15; rfl) ?_
          have e5i15 : i15 c 5 = i c 5 := by rw [hi15]; simp only [mU]; rw [if_neg (by omega)]; assumption
          have e176i15 : i15 (ob bb + 176) x = i (ob bb + 176) x := by rw [hi15]; simp only [mU]; rw [if_neg (by omega)]; assumption
          obtain ⟨hI1, hI1d⟩ : ∃ f, f = i15 := ⟨_, rfl⟩
          have hI1e : hI1 = mU hI0 (c + 13) (i c 5 * 4 + x) (i (ob bb + 176) x) := by rw [hI1d, hi15, e5q, e176q, hI0d]
          have e176r := e176i15
          refine x_aload_n 35 rfl rfl ?_
          refine x_getR 36 (z := (ob bb + 176)) rfl fl_X4_18 (b_lt rfl) k_173 rfl r_173_2 ?_
          refine x_iload_n 37 rfl rfl ?_
          refine x_iald 38 (z := i15 (ob bb + 176) x) rfl (b_lt rfl) k_176 (by omega) rfl ?_
          refine x_bipush 39 rfl (by decide) ?_
          refine x_icmp_eq 40 (tgt := 103) rfl (by decide) (by omega) (fun h16 => ?_) (fun h16 => ?_)
          · refine x_iinc 64 (L' := [some (vR (some (ob bb + 173))), some (vR (some c)), some (vI (g)), some (vI (x + 1))]) rfl (by decide) rfl rfl rfl rfl ?_
            refine x_goto 65 (tgt := 4) rfl (by decide) ?_
            exact ihL1 i15 (x + 1) (g) (by omega) (by rw [sgC_s _ hx.1]; split <;> omega) (hp_step (by omega) hN.1 hsx hA (hp_put (w := fun a b => i a b + 1) (Q := c + 2 + (i (ob bb + 176) x).toNat) (i0 := hI0) (i1 := hI1) (ii := ii) (C := i (ob bb + 175) x < i (c + 12) 1) (by omega) hI1e hI0e (by first | exact Or.inl ⟨by omega, hI1d.symm⟩ | exact Or.inr ⟨by omega, hfin⟩))) (by omega)
          · refine x_aload_n 41 rfl rfl ?_
            refine x_getR 42 (z := (c + 1)) rfl fl_X4_47 (isC_0 hc) (kC hc) rfl (rC0 hc) ?_
            refine x_aload_n 43 rfl rfl ?_
            refine x_getR 44 (z := (ob bb + 176)) rfl fl_X4_18 (b_lt rfl) k_173 rfl r_173_2 ?_
            refine x_iload_n 45 rfl rfl ?_
            refine x_iald 46 (z := i15 (ob bb + 176) x) rfl (b_lt rfl) k_176 (by omega) rfl ?_
            refine x_aald 47 (t := 3) (z := (c + 2 + (i15 (ob bb + 176) x).toNat)) rfl (isC_S hc) (kCS hc) (by omega) ⟨rfl, rfl⟩ (rCs hc (by omega)) ?_
            refine x_dup 48 rfl rfl ?_
            refine x_getI 49 (z := i15 (c + 2 + (i15 (ob bb + 176) x).toNat) 8) rfl fl_X4_85 (isS_lt (isS.of hc (show (i15 (ob bb + 176) x).toNat < 10 by omega))) (kS (isS.of hc (show (i15 (ob bb + 176) x).toNat < 10 by omega))) rfl rfl ?_
            refine x_iconst 50 rfl ?_
            refine x_iadd 51 (r := (i15 (c + 2 + (i15 (ob bb + 176) x).toNat) 8) + 1) rfl rfl ?_
            obtain ⟨i17, hi17⟩ : ∃ f, f = mU i15 (c + 2 + (i15 (ob bb + 176) x).toNat) 8 ((i15 (c + 2 + (i15 (ob bb + 176) x).toNat) 8) + 1) := ⟨_, rfl⟩
            refine x_putI 52 rfl fl_X4_85 (isS_lt (isS.of hc (show (i15 (ob bb + 176) x).toNat < 10 by omega))) (kS (isS.of hc (show (i15 (ob bb + 176) x).toNat < 10 by omega))) rfl rfl (g' := st nn i17 l) (by subst hi17; rfl) ?_
            have e5i17 : i17 c 5 = i c 5 := by rw [hi17]; simp only [mU]; rw [if_neg (by omega)]; assumption
            have e176i17 : i17 (ob bb + 176) x = i (ob bb + 176) x := by rw [hi17]; simp only [mU]; rw [if_neg (by omega)]; assumption
            have hs79 := hi17
            rw [e176r] at hs79
            have e176s := e176i17
            have e5s := e5i17
            refine x_aload_n 53 rfl rfl ?_
            refine x_getR 54 (z := (c + 1)) rfl fl_X4_47 (isC_0 hc) (kC hc) rfl (rC0 hc) ?_
            refine x_aload_n 55 rfl rfl ?_
            refine x_getR 56 (z := (ob bb + 176)) rfl fl_X4_18 (b_lt rfl) k_173 rfl r_173_2 ?_
            refine x_iload_n 57 rfl rfl ?_
            refine x_iald 58 (z := i17 (ob bb + 176) x) rfl (b_lt rfl) k_176 (by omega) rfl ?_
            refine x_aald 59 (t := 3) (z := (c + 2 + (i17 (ob bb + 176) x).toNat)) rfl (isC_S hc) (kCS hc) (by omega) ⟨rfl, rfl⟩ (rCs hc (by omega)) ?_
            refine x_aload_n 60 rfl rfl ?_
            refine x_getI 61 (z := i17 c 5) rfl fl_X4_82 (isC_0 hc) (kC hc) rfl rfl ?_
            obtain ⟨i18, hi18⟩ : ∃ f, f = mU i17 (c + 2 + (i17 (ob bb + 176) x).toNat) 9 (i17 c 5) := ⟨_, rfl⟩
            refine x_putI 62 rfl fl_X4_88 (isS_lt (isS.of hc (show (i17 (ob bb + 176) x).toNat < 10 by omega))) (kS (isS.of hc (show (i17 (ob bb + 176) x).toNat < 10 by omega))) rfl rfl (g' := st nn i18 l) (by subst hi18; rfl) ?_
            have hs97 := hi18
            rw [e176s, e5s] at hs97
            have hfin : i18 = mU (mU hI1 (c + 2 + (i (ob bb + 176) x).toNat) 8 (hI1 (c + 2 + (i (ob bb + 176) x).toNat) 8 + 1)) (c + 2 + (i (ob bb + 176) x).toNat) 9 (i c 5) := by rw [hs97, hs79, hI1d]
            refine x_iinc 63 (L' := [some (vR (some (ob bb + 173))), some (vR (some c)), some (vI (g + 1)), some (vI (x))]) rfl (by decide) rfl rfl rfl rfl ?_
            refine x_iinc 64 (L' := [some (vR (some (ob bb + 173))), some (vR (some c)), some (vI (g + 1)), some (vI (x + 1))]) rfl (by decide) rfl rfl rfl rfl ?_
            refine x_goto 65 (tgt := 4) rfl (by decide) ?_
            exact ihL1 i18 (x + 1) (g + 1) (by omega) (by rw [sgC_s _ hx.1]; split <;> omega) (hp_step (by omega) hN.1 hsx hA (hp_put (w := fun a b => i a b + 1) (Q := c + 2 + (i (ob bb + 176) x).toNat) (i0 := hI0) (i1 := hI1) (ii := ii) (C := i (ob bb + 175) x < i (c + 12) 1) (by omega) hI1e hI0e (by first | exact Or.inl ⟨by omega, hI1d.symm⟩ | exact Or.inr ⟨by omega, hfin⟩))) (by omega)
        · show mX m_X4_happen 2 _ 0 0 _ _ [vI (0)] _
          refine x_if_ne 13 (tgt := 32) rfl (by decide) (by decide) (fun h19 => absurd h19 (by decide)) (fun h19 => ?_)
          refine x_aload_n 14 rfl rfl ?_
          refine x_getR 15 (z := (c + 14)) rfl fl_X4_76 (isC_0 hc) (kC hc) rfl (rC3 hc) ?_
          refine x_iload_n 16 rfl rfl ?_
          refine x_dup2 17 rfl rfl rfl ?_
          refine x_iald 18 (z := ii (c + 14) x) rfl (isC_W hc) (kCW hc) (by omega) rfl ?_
          refine x_iconst 19 rfl ?_
          refine x_iadd 20 (r := (ii (c + 14) x) + 1) rfl rfl ?_
          obtain ⟨i20, hi20⟩ : ∃ f, f = mU ii (c + 14) (x) ((ii (c + 14) x) + 1) := ⟨_, rfl⟩
          refine x_iast 21 rfl (isC_W hc) (kCW hc) (by omega) (g' := st nn i20 l) (by subst hi20; rfl) ?_
          have e5i20 : i20 c 5 = i c 5 := by rw [hi20]; simp only [mU]; rw [if_neg (by omega)]; assumption
          have e176i20 : i20 (ob bb + 176) x = i (ob bb + 176) x := by rw [hi20]; simp only [mU]; rw [if_neg (by omega)]; assumption
          obtain ⟨hI0, hI0d⟩ : ∃ f, f = i20 := ⟨_, rfl⟩
          have e5q : i20 c 5 = i c 5 := by assumption
          have e176q : i20 (ob bb + 176) x = i (ob bb + 176) x := by assumption
          have hI0e : ∀ a b, hI0 a b = if a = c + 14 ∧ b = x ∧ i (ob bb + 175) x < i (c + 12) 1 then i a b + 1 else ii a b := by intro a b; rw [hI0d]; first | rw [if_neg (by omega)] | (rw [hi20]; simp only [mU, ew]; by_cases q : a = c + 14 ∧ b = x; (rw [if_pos q, if_pos ⟨q.1, q.2, by omega⟩, q.1, q.2]); (rw [if_neg q, if_neg (fun z => q ⟨z.1, z.2.1⟩)]))
          refine x_aload_n 22 rfl rfl ?_
          refine x_getR 23 (z := (c + 13)) rfl fl_X4_79 (isC_0 hc) (kC hc) rfl (rC2 hc) ?_
          refine x_aload_n 24 rfl rfl ?_
          refine x_getI 25 (z := i20 c 5) rfl fl_X4_82 (isC_0 hc) (kC hc) rfl rfl ?_
          refine x_iconst 26 rfl ?_
          refine x_imul 27 (r := (i20 c 5) * 4) rfl rfl ?_
          refine x_iload_n 28 rfl rfl ?_
          refine x_iadd 29 (r := ((i20 c 5) * 4) + x) rfl rfl ?_
          refine x_aload_n 30 rfl rfl ?_
          refine x_getR 31 (z := (ob bb + 176)) rfl fl_X4_18 (b_lt rfl) k_173 rfl r_173_2 ?_
          refine x_iload_n 32 rfl rfl ?_
          refine x_iald 33 (z := i20 (ob bb + 176) x) rfl (b_lt rfl) k_176 (by omega) rfl ?_
          obtain ⟨i21, hi21⟩ : ∃ f, f = mU i20 (c + 13) (((i20 c 5) * 4) + x) (i20 (ob bb + 176) x) := ⟨_, rfl⟩
          refine x_iast 34 rfl (isC_O hc) (kCO hc) (by omega) (g' := st nn i21 l) (by subst hi21; rfl) ?_
          have e5i21 : i21 c 5 = i c 5 := by rw [hi21]; simp only [mU]; rw [if_neg (by omega)]; assumption
          have e176i21 : i21 (ob bb + 176) x = i (ob bb + 176) x := by rw [hi21]; simp only [mU]; rw [if_neg (by omega)]; assumption
          obtain ⟨hI1, hI1d⟩ : ∃ f, f = i21 := ⟨_, rfl⟩
          have hI1e : hI1 = mU hI0 (c + 13) (i c 5 * 4 + x) (i (ob bb + 176) x) := by rw [hI1d, hi21, e5q, e176q, hI0d]
          have e176r := e176i21
          refine x_aload_n 35 rfl rfl ?_
          refine x_getR 36 (z := (ob bb + 176)) rfl fl_X4_18 (b_lt rfl) k_173 rfl r_173_2 ?_
          refine x_iload_n 37 rfl rfl ?_
          refine x_iald 38 (z := i21 (ob bb + 176) x) rfl (b_lt rfl) k_176 (by omega) rfl ?_
          refine x_bipush 39 rfl (by decide) ?_
          refine x_icmp_eq 40 (tgt := 103) rfl (by decide) (by omega) (fun h22 => ?_) (fun h22 => ?_)
          · refine x_iinc 64 (L' := [some (vR (some (ob bb + 173))), some (vR (some c)), some (vI (g)), some (vI (x + 1))]) rfl (by decide) rfl rfl rfl rfl ?_
            refine x_goto 65 (tgt := 4) rfl (by decide) ?_
            exact ihL1 i21 (x + 1) (g) (by omega) (by rw [sgC_s _ hx.1]; split <;> omega) (hp_step (by omega) hN.1 hsx hA (hp_put (w := fun a b => i a b + 1) (Q := c + 2 + (i (ob bb + 176) x).toNat) (i0 := hI0) (i1 := hI1) (ii := ii) (C := i (ob bb + 175) x < i (c + 12) 1) (by omega) hI1e hI0e (by first | exact Or.inl ⟨by omega, hI1d.symm⟩ | exact Or.inr ⟨by omega, hfin⟩))) (by omega)
          · refine x_aload_n 41 rfl rfl ?_
            refine x_getR 42 (z := (c + 1)) rfl fl_X4_47 (isC_0 hc) (kC hc) rfl (rC0 hc) ?_
            refine x_aload_n 43 rfl rfl ?_
            refine x_getR 44 (z := (ob bb + 176)) rfl fl_X4_18 (b_lt rfl) k_173 rfl r_173_2 ?_
            refine x_iload_n 45 rfl rfl ?_
            refine x_iald 46 (z := i21 (ob bb + 176) x) rfl (b_lt rfl) k_176 (by omega) rfl ?_
            refine x_aald 47 (t := 3) (z := (c + 2 + (i21 (ob bb + 176) x).toNat)) rfl (isC_S hc) (kCS hc) (by omega) ⟨rfl, rfl⟩ (rCs hc (by omega)) ?_
            refine x_dup 48 rfl rfl ?_
            refine x_getI 49 (z := i21 (c + 2 + (i21 (ob bb + 176) x).toNat) 8) rfl fl_X4_85 (isS_lt (isS.of hc (show (i21 (ob bb + 176) x).toNat < 10 by omega))) (kS (isS.of hc (show (i21 (ob bb + 176) x).toNat < 10 by omega))) rfl rfl ?_
            refine x_iconst 50 rfl ?_
            refine x_iadd 51 (r := (i21 (c + 2 + (i21 (ob bb + 176) x).toNat) 8) + 1) rfl rfl ?_
            obtain ⟨i23, hi23⟩ : ∃ f, f = mU i21 (c + 2 + (i21 (ob bb + 176) x).toNat) 8 ((i21 (c + 2 + (i21 (ob bb + 176) x).toNat) 8) + 1) := ⟨_, rfl⟩
            refine x_putI 52 rfl fl_X4_85 (isS_lt (isS.of hc (show (i21 (ob bb + 176) x).toNat < 10 by omega))) (kS (isS.of hc (show (i21 (ob bb + 176) x).toNat < 10 by omega))) rfl rfl (g' := st nn i23 l) (by subst hi23; rfl) ?_
            have e5i23 : i23 c 5 = i c 5 := by rw [hi23]; simp only [mU]; rw [if_neg (by omega)]; assumption
            have e176i23 : i23 (ob bb + 176) x = i (ob bb + 176) x := by rw [hi23]; simp only [mU]; rw [if_neg (by omega)]; assumption
            have hs79 := hi23
            rw [e176r] at hs79
            have e176s := e176i23
            have e5s := e5i23
            refine x_aload_n 53 rfl rfl ?_
            refine x_getR 54 (z := (c + 1)) rfl fl_X4_47 (isC_0 hc) (kC hc) rfl (rC0 hc) ?_
            refine x_aload_n 55 rfl rfl ?_
            refine x_getR 56 (z := (ob bb + 176)) rfl fl_X4_18 (b_lt rfl) k_173 rfl r_173_2 ?_
            refine x_iload_n 57 rfl rfl ?_
            refine x_iald 58 (z := i23 (ob bb + 176) x) rfl (b_lt rfl) k_176 (by omega) rfl ?_
            refine x_aald 59 (t := 3) (z := (c + 2 + (i23 (ob bb + 176) x).toNat)) rfl (isC_S hc) (kCS hc) (by omega) ⟨rfl, rfl⟩ (rCs hc (by omega)) ?_
            refine x_aload_n 60 rfl rfl ?_
            refine x_getI 61 (z := i23 c 5) rfl fl_X4_82 (isC_0 hc) (kC hc) rfl rfl ?_
            obtain ⟨i24, hi24⟩ : ∃ f, f = mU i23 (c + 2 + (i23 (ob bb + 176) x).toNat) 9 (i23 c 5) := ⟨_, rfl⟩
            refine x_putI 62 rfl fl_X4_88 (isS_lt (isS.of hc (show (i23 (ob bb + 176) x).toNat < 10 by omega))) (kS (isS.of hc (show (i23 (ob bb + 176) x).toNat < 10 by omega))) rfl rfl (g' := st nn i24 l) (by subst hi24; rfl) ?_
            have hs97 := hi24
            rw [e176s, e5s] at hs97
            have hfin : i24 = mU (mU hI1 (c + 2 + (i (ob bb + 176) x).toNat) 8 (hI1 (c + 2 + (i (ob bb + 176) x).toNat) 8 + 1)) (c + 2 + (i (ob bb + 176) x).toNat) 9 (i c 5) := by rw [hs97, hs79, hI1d]
            refine x_iinc 63 (L' := [some (vR (some (ob bb + 173))), some (vR (some c)), some (vI (g + 1)), some (vI (x))]) rfl (by decide) rfl rfl rfl rfl ?_
            refine x_iinc 64 (L' := [some (vR (some (ob bb + 173))), some (vR (some c)), some (vI (g + 1)), some (vI (x + 1))]) rfl (by decide) rfl rfl rfl rfl ?_
            refine x_goto 65 (tgt := 4) rfl (by decide) ?_
            exact ihL1 i24 (x + 1) (g + 1) (by omega) (by rw [sgC_s _ hx.1]; split <;> omega) (hp_step (by omega) hN.1 hsx hA (hp_put (w := fun a b => i a b + 1) (Q := c + 2 + (i (ob bb + 176) x).toNat) (i0 := hI0) (i1 := hI1) (ii := ii) (C := i (ob bb + 175) x < i (c + 12) 1) (by omega) hI1e hI0e (by first | exact Or.inl ⟨by omega, hI1d.symm⟩ | exact Or.inr ⟨by omega, hfin⟩))) (by omega)
  exact loopL1 ((4 - ((0))) + 1 : Int).toNat i (0) (0) (by omega) (rfl) (hpA_0 i c) (by omega)
