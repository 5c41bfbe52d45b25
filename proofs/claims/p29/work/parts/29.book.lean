variable {nn : Nat} {bb : Bool}
/-! the book's calls, as they are to be -/
def RelT (bb : Bool) (i : Nat → Int → Int) (l : Nat → Int → BitVec 64) (B : bT) : Prop := RelB bb i l B.1 B.2.1 B.2.2.1 B.2.2.2.1 B.2.2.2.2.1 B.2.2.2.2.2.1 B.2.2.2.2.2.2.1 B.2.2.2.2.2.2.2.1 B.2.2.2.2.2.2.2.2
abbrev qT (nn : Nat) (bb : Bool) (i : Nat → Int → Int) (l : Nat → Int → BitVec 64) (r : Int × bT) : Option mV → mS → Prop := qW nn (fun z i' l' => z = r.1 ∧ RelT bb i' l' r.2 ∧ ∀ a b, (a < ob bb ∨ ob bb + 189 ≤ a) → i' a b = i a b ∧ l' a b = l a b)
theorem qs {i0 i : Nat → Int → Int} {l0 l : Nat → Int → BitVec 64} {z z' : Int} {r : Int × bT} {W : Int → Int} {PN : Int} {P M : Int → Int → Int} {K : Int → Bool} {T : Int → Int} {TN FK FP : Int} (hz : z = z') (hR : RelB bb i l W PN P M K T TN FK FP) (h : r = (z', W, PN, P, M, K, T, TN, FK, FP)) (hf : ∀ a b, (a < ob bb ∨ ob bb + 189 ≤ a) → i a b = i0 a b) (hl : ∀ a b, (a < ob bb ∨ ob bb + 189 ≤ a) → l a b = l0 a b) : z = r.1 ∧ RelT bb i l r.2 ∧ ∀ a b, (a < ob bb ∨ ob bb + 189 ≤ a) → i a b = i0 a b ∧ l a b = l0 a b := by
  subst h
  exact ⟨hz, hR, fun a b ha => ⟨hf a b ha, hl a b ha⟩⟩
def spAdd (s h : Int) (W : Int → Int) (PN : Int) (P M : Int → Int → Int) (K : Int → Bool) (T : Int → Int) (TN FK FP : Int) : Int × bT :=
  if s < 1 ∨ 9 < s ∨ h < 100 ∨ 220 < h then (-1, W, PN, P, M, K, T, TN, FK, FP) else if 10 ≤ W 11 then (-3, W, PN, P, M, K, T, TN, FK, FP) else (W 11, addW W s h, rmN PN, rmP W PN P, M, K, T, TN, FK, FP)
def spRemove (y : Int) (W : Int → Int) (PN : Int) (P M : Int → Int → Int) (K : Int → Bool) (T : Int → Int) (TN FK FP : Int) : Int × bT :=
  if ¬ (0 ≤ y ∧ y < W 11) then (-1, W, PN, P, M, K, T, TN, FK, FP) else (W 11 - 1, remW W y, rmN PN, rmP W PN P, M, K, T, TN, FK, FP)
def sLo (x : Int) : Int := if x = 2 then 0 else 1
def sHi (x : Int) : Int := if x = 0 then 15 else if x = 1 then 50 else if x = 2 then 10 else 6
def spSet (x v : Int) (W : Int → Int) (PN : Int) (P M : Int → Int → Int) (K : Int → Bool) (T : Int → Int) (TN FK FP : Int) : Int × bT :=
  if ¬ (0 ≤ x ∧ x < 4) ∨ v < sLo x ∨ sHi x < v then (-1, W, PN, P, M, K, T, TN, FK, FP) else (W x, setW W x v, rmN PN, rmP W PN P, M, K, T, TN, FK, FP)
noncomputable def spTest (y : Int) (W : Int → Int) (PN : Int) (P M : Int → Int → Int) (K : Int → Bool) (T : Int → Int) (TN FK FP : Int) : Int × bT :=
  if ¬ (0 ≤ y ∧ y < W 11) then (-1, W, PN, P, M, K, T, TN, FK, FP) else match gRead 1 40 T TN with
    | .inr e => (-2, W, PN, P, M, K, T, TN, e.1, e.2)
    | .inl g => ((rgZ (sV (tsW W y g.2.2.2.2.2) y)).2.1, tsW W y g.2.2.2.2.2, rmN PN, rmP W PN P, M, K, T, TN, FK, FP)
def spPlace (y p : Int) (W : Int → Int) (PN : Int) (P M : Int → Int → Int) (K : Int → Bool) (T : Int → Int) (TN FK FP : Int) : Int × bT :=
  if ¬ (0 ≤ y ∧ y < W 11) ∨ (¬ (0 ≤ p ∧ p < 4) ∧ p ≠ -9) then (-1, W, PN, P, M, K, T, TN, FK, FP) else if p ≠ -9 ∧ ¬ W 0 ≤ gIn (sV W y) p then (-2, W, PN, P, M, K, T, TN, FK, FP) else (sV W y 2, setW W (14 + 48 * y) p, rmN PN, rmP W PN P, M, K, T, TN, FK, FP)
noncomputable def spPlaceAll (W : Int → Int) (PN : Int) (P M : Int → Int → Int) (K : Int → Bool) (T : Int → Int) (TN FK FP : Int) : Int × bT := ((bsW W (-1)).1, plW W, rmN PN, rmP W PN P, M, K, T, TN, FK, FP)
noncomputable def spAtt (W : Int → Int) (PN : Int) (P M : Int → Int → Int) (K : Int → Bool) (T : Int → Int) (TN FK FP : Int) : Int × bT :=
  match gRead 0 (W 11 - 1) T TN with
    | .inr e => (-2, W, PN, P, M, K, T, TN, e.1, e.2)
    | .inl g => (gAbs (atW W g.2.2.2.2.2), atW W g.2.2.2.2.2, rmN PN, rmP W PN P, M, K, T, TN, FK, FP)
def spHold (W : Int → Int) (PN : Int) (P M : Int → Int → Int) (K : Int → Bool) (T : Int → Int) (TN FK FP : Int) : Int × bT :=
  if W 11 = 0 then (-2, W, PN, P, M, K, T, TN, FK, FP) else if 40 ≤ W 4 then (-3, W, PN, P, M, K, T, TN, FK, FP) else (sgW W, hoW W, rmN PN, rmP W PN P, M, K, T, TN, FK, FP)
def spUndo (W : Int → Int) (PN : Int) (P M : Int → Int → Int) (K : Int → Bool) (T : Int → Int) (TN FK FP : Int) : Int × bT :=
  if PN = 0 then (-2, W, PN, P, M, K, T, TN, FK, FP) else (PN - 1, P (PN - 1), PN - 1, P, M, K, T, TN, FK, FP)
def spWrite (c : Int) (W : Int → Int) (PN : Int) (P M : Int → Int → Int) (K : Int → Bool) (T : Int → Int) (TN FK FP : Int) : Int × bT :=
  if c < 32 ∨ 126 < c then (-1, W, PN, P, M, K, T, TN, FK, FP) else if 60 ≤ TN then (-3, W, PN, P, M, K, T, TN, FK, FP) else (TN + 1, W, PN, P, M, K, fU T TN c, TN + 1, FK, FP)
def spWipe (W : Int → Int) (PN : Int) (P M : Int → Int → Int) (K : Int → Bool) (T : Int → Int) (TN FK FP : Int) : Int × bT := (TN, W, PN, P, M, K, T, 0, FK, FP)
def spAsk (z : Int) (W : Int → Int) (PN : Int) (P M : Int → Int → Int) (K : Int → Bool) (T : Int → Int) (TN FK FP : Int) : Int × bT := (z, W, PN, P, M, K, T, TN, FK, FP)
def anFault (x FK FP : Int) : Int := if x = 0 then FK else if x = 1 then FP else -1
def anTold (x : Int) (W : Int → Int) (PN TN : Int) : Int := if x = 0 then W 11 else if x = 1 then sumZ (fun p => gMem W p) 4 else if x = 2 then W 4 else if x = 3 then gAbs W else if x = 4 then gCov W else if x = 5 then W 9 else if x = 6 then W 10 else if x = 7 then TN else if x = 8 then PN else -1
def anSetting (x : Int) (W : Int → Int) : Int := if 0 ≤ x ∧ x < 4 then W x else -1
def anSinger (y x : Int) (W : Int → Int) : Int := if ¬ (0 ≤ y ∧ y < W 11) then -1 else if x = 0 then sV W y 0 else if x = 1 then sV W y 1 else if x = 2 then (if (rgZ (sV W y)).2.1 = 0 then -9 else (rgZ (sV W y)).2.2) else if x = 3 then (if (rgZ (sV W y)).2.1 = 0 then -9 else (rgZ (sV W y)).2.2 + (rgZ (sV W y)).2.1 - 1) else if x = 4 then gFits W y else if x = 5 then sV W y 2 else if x = 6 then sV W y 3 else if x = 7 then sV W y 4 else if x = 8 then sV W y 5 else if x = 9 then sV W y 6 else -1
def anNote (y n : Int) (W : Int → Int) : Int := if ¬ (0 ≤ y ∧ y < W 11) ∨ n < 0 ∨ 41 ≤ n then -1 else sV W y (7 + n)
def anOverlap (y p : Int) (W : Int → Int) : Int := if ¬ (0 ≤ y ∧ y < W 11) ∨ ¬ (0 ≤ p ∧ p < 4) then -1 else gIn (sV W y) p
def anPart (p x : Int) (W : Int → Int) : Int := if ¬ (0 ≤ p ∧ p < 4) then -1 else if x = 0 then gMem W p else if x = 1 then gStr W p else if x = 2 then gPres W p else if x = 3 then W (5 + p) else if x = 4 then gRows W p else if x = 5 then plS W p else -1
def anSeat (y x : Int) (W : Int → Int) : Int := if ¬ (0 ≤ y ∧ y < W 11) ∨ x < 0 ∨ 1 < x then -1 else if sV W y 2 = -9 then -9 else if x = 0 then sumZ (fun k => gRows W k) (sV W y 2) + gSeat W y / W 3 else if gSeat W y % W 3 % 2 = 1 then (gSeat W y % W 3 + 1) / 2 else -(gSeat W y % W 3 / 2)
def anSolo (h p : Int) (W : Int → Int) : Int := if h < 0 ∨ W 4 ≤ h ∨ ¬ (0 ≤ p ∧ p < 4) then -1 else W (492 + (h * 4 + p))
def anStand (y : Int) (W : Int → Int) : Int := if ¬ (0 ≤ y ∧ y < W 11) then -1 else (plT W).1 y
noncomputable def anPassed (y : Int) (W : Int → Int) : Int := by
  classical exact if ¬ (0 ≤ y ∧ y < W 11) then -1 else if sV W y 2 = -9 then 1 else if sV W y 3 = 0 then 2 else if (plT W).1 y ≠ -9 then 3 else if ¬ gRest W y then 4 else if plS W (sV W y 2) = y then 0 else 5
noncomputable def anWithout (y : Int) (W : Int → Int) : Int := if y ≠ -1 ∧ ¬ (0 ≤ y ∧ y < W 11) then -1 else (bsW W y).1
def kU (K : Int → Bool) (m : Int) : Int → Bool := fun j => if j = m then true else K j
def imW (M : Int → Int → Int) (m : Int) (W : Int → Int) : Int → Int → Int := fun j => if j = m then W else M j
def spKeep (m : Int) (W : Int → Int) (PN : Int) (P M : Int → Int → Int) (K : Int → Bool) (T : Int → Int) (TN FK FP : Int) : Int × bT :=
  if ¬ (0 ≤ m ∧ m < 2) then (-1, W, PN, P, M, K, T, TN, FK, FP) else (W 11, W, PN, P, imW M m W, kU K m, T, TN, FK, FP)
def spBack (m : Int) (W : Int → Int) (PN : Int) (P M : Int → Int → Int) (K : Int → Bool) (T : Int → Int) (TN FK FP : Int) : Int × bT :=
  if ¬ (0 ≤ m ∧ m < 2) then (-1, W, PN, P, M, K, T, TN, FK, FP) else if K m = false then (-2, W, PN, P, M, K, T, TN, FK, FP) else (M m 11, M m, rmN PN, rmP W PN P, M, K, T, TN, FK, FP)
/-! helps -/
theorem RelB_ch2 {i i' : Nat → Int → Int} {l l' : Nat → Int → BitVec 64} {W W' : Int → Int} {PN : Int} {P M : Int → Int → Int} {K : Int → Bool} {T : Int → Int} {TN FK FP : Int} (h : RelB bb i l W PN P M K T TN FK FP) (hB : okB W PN P M K T TN)
    (he : ∀ a b, (ob bb + 16) ≤ a → i' a b = i a b) (hl : ∀ a b, (ob bb + 16) ≤ a → l' a b = l a b) (hW : relC i' l' (ob bb + 1) W') : RelB bb i' l' W' PN P M K T TN FK FP :=
  RelB_ch h hB (fun a b h1 _ => he a b h1) (fun a b h1 _ => hl a b h1) (he _ _ (by omega)) (he _ _ (by omega)) (by
    have hz := h.2.2.2.2.2.2
    unfold PZ at hz ⊢
    rw [he (ob bb + 184) 0 (by omega), hl (ob bb + 179) 0 (by omega), hl (ob bb + 180) 0 (by omega), hl (ob bb + 182) 0 (by omega), hl (ob bb + 183) 0 (by omega)]
    exact hz) hW
theorem mTF0 {x : Int} (h : 0 ≤ x ∧ x < 4) : mTF 0 x.toNat = sLo x := by
  rcases (show x = 0 ∨ x = 1 ∨ x = 2 ∨ x = 3 by omega) with rfl | rfl | rfl | rfl <;> rfl
theorem mTF1 {x : Int} (h : 0 ≤ x ∧ x < 4) : mTF 1 x.toNat = sHi x := by
  rcases (show x = 0 ∨ x = 1 ∨ x = 2 ∨ x = 3 by omega) with rfl | rfl | rfl | rfl <;> rfl
theorem sLH {x : Int} (h : 0 ≤ x ∧ x < 4) : 0 ≤ sLo x ∧ sLo x ≤ 1 ∧ 6 ≤ sHi x ∧ sHi x ≤ 50 := by
  rcases (show x = 0 ∨ x = 1 ∨ x = 2 ∨ x = 3 by omega) with rfl | rfl | rfl | rfl <;> decide
theorem relC.t {i : Nat → Int → Int} {l : Nat → Int → BitVec 64} {c : Nat} {W : Int → Int} (h : relC i l c W) {x : Int} (hx : 0 ≤ x ∧ x < 4) : i (c + 12) x = W x := by
  obtain ⟨_, ⟨h0, h1, h2, h3⟩, _⟩ := h
  rcases (show x = 0 ∨ x = 1 ∨ x = 2 ∨ x = 3 by omega) with rfl | rfl | rfl | rfl <;> assumption
theorem gRead_congr {sg hi : Int} {f f' : Int → Int} {len : Int} (h : ∀ k, 0 ≤ k → k < len → f k = f' k) : gRead sg hi f len = gRead sg hi f' len := by
  have key : ∀ n : Nat, (n : Int) ≤ len → gRun sg hi f n = gRun sg hi f' n := by
    intro n
    induction n with
    | zero => intro _; rfl
    | succ n ih =>
      intro hn
      unfold gRun
      rw [ih (by omega), h n (by omega) (by omega)]
  unfold gRead
  by_cases h0 : 0 ≤ len
  · rw [key _ (by omega)]
  · rw [show len.toNat = 0 by omega]
    rfl
/-- what the class's reader leaves, in words -/
theorem rd_class {i' : Nat → Int → Int} {l' : Nat → Int → BitVec 64} {i : Nat → Int → Int} {T0 S0 : BitVec 64} {sg hi z : Int} {T : Int → Int} {TN a b c d : Int} (hT : ∀ k, 0 ≤ k → k < TN → i (ob bb + 171) k = T k) (hn : i (ob bb + 170) 1 = TN)
    (h : match cRead sg hi (fun k => i (ob bb + 171) k) (0, a, b, c, d, T0, S0) (i (ob bb + 170) 1) with | .inl s => z = 1 ∧ l' (ob bb + 172) 0 = s.2.2.2.2.2.1 ∧ l' (ob bb + 172) 1 = s.2.2.2.2.2.2 ∧ i' (ob bb + 172) 2 = i (ob bb + 172) 2 ∧ i' (ob bb + 172) 3 = i (ob bb + 172) 3 | .inr e => z = 0 ∧ i' (ob bb + 172) 2 = e.1 ∧ i' (ob bb + 172) 3 = e.2) :
    (z = 1 ∧ ∃ g, gRead sg hi T TN = .inl g ∧ l' (ob bb + 172) 0 = tT T0 g.2.2.2.2.2 ∧ l' (ob bb + 172) 1 = tS S0 g.2.2.2.2.2 ∧ i' (ob bb + 172) 2 = i (ob bb + 172) 2 ∧ i' (ob bb + 172) 3 = i (ob bb + 172) 3) ∨ (z = 0 ∧ ∃ e, gRead sg hi T TN = .inr e ∧ i' (ob bb + 172) 2 = e.1 ∧ i' (ob bb + 172) 3 = e.2) := by
  have hs := sim_read (sg := sg) (hi := hi) (f := fun k => i (ob bb + 171) k) (s0 := (0, a, b, c, d, T0, S0)) (len := i (ob bb + 170) 1) rfl rfl rfl
  rw [hn] at h hs
  rw [gRead_congr (f' := T) (fun k h0 h1 => hT k h0 h1)] at hs
  cases hc : cRead sg hi (fun k => i (ob bb + 171) k) (0, a, b, c, d, T0, S0) TN with
  | inl s =>
    rw [hc] at h hs
    obtain ⟨g, hg, h1, h2⟩ := hs
    exact Or.inl ⟨h.1, g, hg, by rw [h.2.1, h1], by rw [h.2.2.1, h2], h.2.2.2.1, h.2.2.2.2⟩
  | inr e =>
    rw [hc] at h hs
    exact Or.inr ⟨h.1, e, hs, h.2.1, h.2.2⟩
theorem RelB_fault {i i' : Nat → Int → Int} {l l' : Nat → Int → BitVec 64} {W : Int → Int} {PN : Int} {P M : Int → Int → Int} {K : Int → Bool} {T : Int → Int} {TN FK FP a b : Int} (h : RelB bb i l W PN P M K T TN FK FP) (hB : okB W PN P M K T TN)
    (he : ∀ a b, a ≠ (ob bb + 172) → i' a b = i a b) (hl : ∀ a b, a ≠ (ob bb + 172) → l' a b = l a b) (h2 : i' (ob bb + 172) 2 = a) (h3 : i' (ob bb + 172) 3 = b) : RelB bb i' l' W PN P M K T TN a b := by
  have hz := h.2.2.2.2.2.2
  have h' : RelB bb (mU (mU i (ob bb + 172) 2 a) (ob bb + 172) 3 b) l W PN P M K T TN a b := by
    obtain ⟨r1, r2, r3, r4, r5, r6, r7⟩ := h
    have e : ∀ a' b', a' ≠ (ob bb + 172) → mU (mU i (ob bb + 172) 2 a) (ob bb + 172) 3 b a' b' = i a' b' := fun a' b' ha => by simp [mU, ha]
    have hh := hC_lt (bb := bb) i
    refine ⟨r1.congr hB.1.n.1.2 (fun a' b' _ _ => e _ _ (by omega)) (fun _ _ _ _ => rfl), by rw [e (ob bb + 16) 1 (by omega), e (ob bb + 16) 2 (by omega)]; exact r2, fun j h0 hj => ?_, fun m h0 hm => ⟨by rw [e (ob bb + 169) m (by omega)]; exact (r4 m h0 hm).1, fun hk => ((r4 m h0 hm).2 hk).congr ((hB.2.2.2.1 m h0 hm hk).n.1.2) (fun a' b' _ _ => e _ _ (by omega)) (fun _ _ _ _ => rfl)⟩, ⟨by rw [e (ob bb + 170) 1 (by omega)]; exact r5.1, fun k h0 hk => by rw [e (ob bb + 171) k (by omega)]; exact r5.2 k h0 hk⟩, ⟨by simp [mU], by simp [mU]⟩, ?_⟩
    · have := hh j
      rw [show hC bb (mU (mU i (ob bb + 172) 2 a) (ob bb + 172) 3 b) j = hC bb i j by unfold hC; rw [e (ob bb + 16) 1 (by omega)]]
      exact (r3 j h0 hj).congr ((hB.2.2.1 j h0 hj).n.1.2) (fun a' b' _ _ => e _ _ (by omega)) (fun _ _ _ _ => rfl)
    · unfold PZ at r7 ⊢
      rw [e (ob bb + 184) 0 (by omega)]
      exact r7
  refine RelB_same h' hB (fun a' b' ha => ?_) (fun a' b' ha => hl a' b' (by omega)) (by rw [h2]; simp [mU]) (by rw [h3]; simp [mU]) ?_
  · rw [he a' b' (by omega), mUne _ _ _ _ _ (by omega), mUne _ _ _ _ _ (by omega)]
  · unfold PZ at hz ⊢
    rw [he (ob bb + 184) 0 (by omega), hl (ob bb + 179) 0 (by omega), hl (ob bb + 180) 0 (by omega), hl (ob bb + 182) 0 (by omega), hl (ob bb + 183) 0 (by omega)]
    exact hz
theorem RelB_restore {i i' : Nat → Int → Int} {l l' : Nat → Int → BitVec 64} {W : Int → Int} {PN : Int} {P M : Int → Int → Int} {K : Int → Bool} {T : Int → Int} {TN FK FP : Int} (h : RelB bb i l W PN P M K T TN FK FP) (hB : okB W PN P M K T TN) (h1 : 1 ≤ PN)
    (hcp : cpC (mU i (ob bb + 16) 2 (i (ob bb + 16) 2 - 1)) l i' l' (ob bb + 1) (ob bb + 18 + 15 * ((i (ob bb + 16) 1 + (i (ob bb + 16) 2 - 1)) % 8).toNat)) : RelB bb i' l' (P (PN - 1)) (PN - 1) P M K T TN FK FP := by
  obtain ⟨r1, r2, r3, r4, r5, r6, r7⟩ := h
  rw [r2.2.2] at hcp
  have hc := r3 (PN - 1) (by omega) (by omega)
  have hW := hB.2.2.1 (PN - 1) (by omega) (by omega)
  have hh := hC_lt (bb := bb) i (PN - 1)
  have e0 : ∀ a b, ¬ (a = (ob bb + 16) ∧ b = 2) → mU i (ob bb + 16) 2 (PN - 1) a b = i a b := fun a b q => by simp only [mU]; rw [if_neg q]
  have hc' : relC (mU i (ob bb + 16) 2 (PN - 1)) l (hC bb i (PN - 1)) (P (PN - 1)) := hc.congr hW.n.1.2 (fun a b _ _ => e0 a b (by omega)) (fun _ _ _ _ => rfl)
  have h4 : mU i (ob bb + 16) 2 (PN - 1) (hC bb i (PN - 1)) 4 ≤ 10 := by rw [hc'.1.1]; exact hW.n.1.2
  have eI : ∀ a b, (ob bb + 16) ≤ a → ¬ (a = (ob bb + 16) ∧ b = 2) → i' a b = i a b := fun a b ha q => by rw [cp_elseI hcp h4 (by omega) b, e0 a b q]
  have eL : ∀ a b, (ob bb + 16) ≤ a → l' a b = l a b := fun a b ha => cp_elseL hcp h4 (by omega) b
  have e16 : i' (ob bb + 16) 2 = PN - 1 := by rw [cp_elseI hcp h4 (by omega) 2, mUs]
  refine ⟨relC_cp hcp hc' hW, by rw [eI (ob bb + 16) 1 (by omega) (by omega), e16]; exact ⟨r2.1, r2.2.1, rfl⟩, fun j g0 gj => ?_, fun m g0 hm => ⟨by rw [eI (ob bb + 169) m (by omega) (by omega)]; exact (r4 m g0 hm).1, fun hk => ((r4 m g0 hm).2 hk).congr ((hB.2.2.2.1 m g0 hm hk).n.1.2) (fun a b _ _ => eI a b (by omega) (by omega)) (fun a b _ _ => eL a b (by omega))⟩, ⟨by rw [eI (ob bb + 170) 1 (by omega) (by omega)]; exact r5.1, fun k g0 hk => by rw [eI (ob bb + 171) k (by omega) (by omega)]; exact r5.2 k g0 hk⟩, ⟨by rw [eI (ob bb + 172) 2 (by omega) (by omega)]; exact r6.1, by rw [eI (ob bb + 172) 3 (by omega) (by omega)]; exact r6.2⟩, ?_⟩
  · have hj := hC_lt (bb := bb) i j
    rw [show hC bb i' j = hC bb i j by unfold hC; rw [eI (ob bb + 16) 1 (by omega) (by omega)]]
    exact (r3 j g0 (by omega)).congr ((hB.2.2.1 j g0 (by omega)).n.1.2) (fun a b _ _ => eI a b (by omega) (by omega)) (fun a b _ _ => eL a b (by omega))
  · unfold PZ at r7 ⊢
    rw [eI (ob bb + 184) 0 (by omega) (by omega), eL (ob bb + 179) 0 (by omega), eL (ob bb + 180) 0 (by omega), eL (ob bb + 182) 0 (by omega), eL (ob bb + 183) 0 (by omega)]
    exact r7
