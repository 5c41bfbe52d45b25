variable {nn : Nat} {bb : Bool}
/-! what the book holds, in the words of a row W of 652 ints; and when the class's objects say so -/
theorem congrS {α : Type} {f : Int → α} {x y : Int} (h : x = y) : f x = f y := h ▸ rfl
def rgZ (V : Int → Int) : Int × Int × Int := rwZ (fun k => decide (V (7 + k) = 1)) 41
def sV (W : Int → Int) (s : Int) : Int → Int := fun k => W (12 + 48 * s + k)
def okV (V : Int → Int) : Prop := (1 ≤ V 0 ∧ V 0 ≤ 9) ∧ (100 ≤ V 1 ∧ V 1 ≤ 220) ∧ (V 2 = -9 ∨ (0 ≤ V 2 ∧ V 2 < 4)) ∧ (V 3 = 0 ∨ V 3 = 1) ∧ (0 ≤ V 4 ∧ V 4 ≤ 40) ∧ (V 5 = -9 ∨ (0 ≤ V 5 ∧ V 5 ≤ 39)) ∧ (0 ≤ V 6 ∧ V 6 ≤ 40) ∧ ∀ n, 0 ≤ n → n < 41 → V (7 + n) = -9 ∨ V (7 + n) = 0 ∨ V (7 + n) = 1
def okW (W : Int → Int) : Prop := ((0 ≤ W 11 ∧ W 11 ≤ 10) ∧ (0 ≤ W 4 ∧ W 4 ≤ 40) ∧ (0 ≤ W 9 ∧ W 9 ≤ 4 * W 4) ∧ (0 ≤ W 10 ∧ W 10 ≤ 10 * W 4) ∧ (1 ≤ W 0 ∧ W 0 ≤ 15) ∧ (1 ≤ W 1 ∧ W 1 ≤ 50) ∧ (0 ≤ W 2 ∧ W 2 ≤ 10) ∧ (1 ≤ W 3 ∧ W 3 ≤ 6)) ∧ (∀ p, 0 ≤ p → p < 4 → 0 ≤ W (5 + p) ∧ W (5 + p) ≤ W 4) ∧ (∀ x, 0 ≤ x → x < 4 * W 4 → -9 ≤ W (492 + x) ∧ W (492 + x) ≤ 9) ∧ (∀ s, 0 ≤ s → s < W 11 → okV (sV W s)) ∧ ∀ s, 0 ≤ s → s < W 11 → sV W s 4 ≤ W 4 ∧ sV W s 6 ≤ W 4 ∧ sV W s 5 < W 4
def relS (i : Nat → Int → Int) (l : Nat → Int → BitVec 64) (q : Nat) (V : Int → Int) : Prop := (i q 0 = V 0 ∧ i q 1 = V 1 ∧ i q 6 = V 2 ∧ i q 7 = V 3 ∧ i q 8 = V 4 ∧ i q 9 = V 5 ∧ i q 10 = V 6) ∧ (∀ n, 0 ≤ n → n < 41 → ((l q 2).getLsbD n.toNat = true ↔ V (7 + n) ≠ -9) ∧ ((l q 3).getLsbD n.toNat = true ↔ V (7 + n) = 1)) ∧ i q 4 = (rgZ V).2.2 ∧ i q 5 = (rgZ V).2.1
def relC (i : Nat → Int → Int) (l : Nat → Int → BitVec 64) (c : Nat) (W : Int → Int) : Prop := (i c 4 = W 11 ∧ i c 5 = W 4 ∧ i c 6 = W 9 ∧ i c 7 = W 10) ∧ (i (c + 12) 0 = W 0 ∧ i (c + 12) 1 = W 1 ∧ i (c + 12) 2 = W 2 ∧ i (c + 12) 3 = W 3) ∧ (∀ p, 0 ≤ p → p < 4 → i (c + 14) p = W (5 + p)) ∧ (∀ x, 0 ≤ x → x < 4 * W 4 → i (c + 13) x = W (492 + x)) ∧ ∀ s, 0 ≤ s → s < W 11 → relS i l (c + 2 + s.toNat) (sV W s)
theorem relS.congr {i i' : Nat → Int → Int} {l l' : Nat → Int → BitVec 64} {q q' : Nat} {V : Int → Int} (h : relS i l q V) (he : ∀ b, (b = 0 ∨ b = 1 ∨ (4 ≤ b ∧ b ≤ 10)) → i' q' b = i q b) (hl : ∀ b, (b = 2 ∨ b = 3) → l' q' b = l q b) : relS i' l' q' V := by
  obtain ⟨h1, h2, h3⟩ := h
  unfold relS
  rw [he 0 (by omega), he 1 (by omega), he 6 (by omega), he 7 (by omega), he 8 (by omega), he 9 (by omega), he 10 (by omega), he 4 (by omega), he 5 (by omega), hl 2 (by omega), hl 3 (by omega)]
  exact ⟨h1, h2, h3⟩
theorem relC.congr {i i' : Nat → Int → Int} {l l' : Nat → Int → BitVec 64} {c : Nat} {W : Int → Int} (h : relC i l c W) (hn : W 11 ≤ 10) (he : ∀ a b, c ≤ a → a < c + 15 → i' a b = i a b) (hl : ∀ a b, c ≤ a → a < c + 15 → l' a b = l a b) : relC i' l' c W := by
  obtain ⟨h1, h2, h3, h4, h5⟩ := h
  refine ⟨?_, ?_, fun p h0 hp => ?_, fun x h0 hx => ?_, fun s h0 hs => ?_⟩
  · simp only [he c _ (Nat.le_refl _) (by omega)]; exact h1
  · simp only [he (c + 12) _ (by omega) (by omega)]; exact h2
  · rw [he _ _ (by omega) (by omega)]; exact h3 p h0 hp
  · rw [he _ _ (by omega) (by omega)]; exact h4 x h0 hx
  · exact (h5 s h0 hs).congr (fun b _ => he _ _ (by omega) (by omega)) (fun b _ => hl _ _ (by omega) (by omega))
theorem okW.n {W : Int → Int} (h : okW W) : (0 ≤ W 11 ∧ W 11 ≤ 10) ∧ (0 ≤ W 4 ∧ W 4 ≤ 40) ∧ (0 ≤ W 9 ∧ W 9 ≤ 4 * W 4) ∧ (0 ≤ W 10 ∧ W 10 ≤ 10 * W 4) ∧ (1 ≤ W 0 ∧ W 0 ≤ 15) ∧ (1 ≤ W 1 ∧ W 1 ≤ 50) ∧ (0 ≤ W 2 ∧ W 2 ≤ 10) ∧ (1 ≤ W 3 ∧ W 3 ≤ 6) := h.1
theorem relC_cp {i i' : Nat → Int → Int} {l l' : Nat → Int → BitVec 64} {c c2 : Nat} {W : Int → Int} (hcp : cpC i l i' l' c c2) (h : relC i l c2 W) (hW : okW W) : relC i' l' c W := by
  obtain ⟨hA, hB⟩ := hcp
  obtain ⟨⟨h11, h12, h13, h14⟩, ⟨h21, h22, h23, h24⟩, h3, h4, h5⟩ := h
  have hn := hW.n
  refine ⟨⟨?_, ?_, ?_, ?_⟩, ⟨?_, ?_, ?_, ?_⟩, fun p h0 hp => ?_, fun x h0 hx => ?_, fun s h0 hs => ?_⟩
  · rw [hA, if_neg (by omega), if_neg (by omega), if_neg (by omega), if_pos ⟨rfl, rfl⟩]; exact h11
  · rw [hA, if_neg (by omega), if_neg (by omega), if_pos ⟨rfl, rfl⟩]; exact h12
  · rw [hA, if_neg (by omega), if_pos ⟨rfl, rfl⟩]; exact h13
  · rw [hA, if_pos ⟨rfl, rfl⟩]; exact h14
  · rw [hA, if_neg (by omega), if_neg (by omega), if_neg (by omega), if_neg (by omega), if_neg (by omega), if_neg (by omega), if_pos (by omega)]; exact h21
  · rw [hA, if_neg (by omega), if_neg (by omega), if_neg (by omega), if_neg (by omega), if_neg (by omega), if_neg (by omega), if_pos (by omega)]; exact h22
  · rw [hA, if_neg (by omega), if_neg (by omega), if_neg (by omega), if_neg (by omega), if_neg (by omega), if_neg (by omega), if_pos (by omega)]; exact h23
  · rw [hA, if_neg (by omega), if_neg (by omega), if_neg (by omega), if_neg (by omega), if_neg (by omega), if_neg (by omega), if_pos (by omega)]; exact h24
  · rw [hA, if_neg (by omega), if_neg (by omega), if_neg (by omega), if_neg (by omega), if_pos (by omega)]; exact h3 p h0 hp
  · rw [hA, if_neg (by omega), if_neg (by omega), if_neg (by omega), if_neg (by omega), if_neg (by omega), if_pos (by omega)]; exact h4 x h0 hx
  · have e : c + 2 + s.toNat - c + c2 = c2 + 2 + s.toNat := by omega
    refine (h5 s h0 hs).congr (fun b hb => ?_) (fun b hb => ?_)
    · rw [hA, if_neg (by omega), if_neg (by omega), if_neg (by omega), if_neg (by omega), if_neg (by omega), if_neg (by omega), if_neg (by omega), if_pos ⟨by omega, by omega, hb⟩, e]
    · rw [hB, if_pos ⟨by omega, by omega, hb⟩, e]
/-- a copy changes the objects of its choir alone -/
theorem cp_elseI {i i' : Nat → Int → Int} {l l' : Nat → Int → BitVec 64} {c c2 : Nat} (hcp : cpC i l i' l' c c2) (h4 : i c2 4 ≤ 10) {a : Nat} (ha : a < c ∨ c + 15 ≤ a) (b : Int) : i' a b = i a b := by
  rw [hcp.1, if_neg (by omega), if_neg (by omega), if_neg (by omega), if_neg (by omega), if_neg (by omega), if_neg (by omega), if_neg (by omega), if_neg (by omega)]
theorem cp_elseL {i i' : Nat → Int → Int} {l l' : Nat → Int → BitVec 64} {c c2 : Nat} (hcp : cpC i l i' l' c c2) (h4 : i c2 4 ≤ 10) {a : Nat} (ha : a < c ∨ c + 15 ≤ a) (b : Int) : l' a b = l a b := by
  rw [hcp.2, if_neg (by omega)]
theorem rgZ_bd (V : Int → Int) : 0 ≤ (rgZ V).2.1 ∧ 0 ≤ (rgZ V).2.2 ∧ (rgZ V).2.2 + (rgZ V).2.1 ≤ 41 := by
  have := rwZ_bd (fun k => decide (V (7 + k) = 1)) (x := 41) (by omega)
  unfold rgZ
  omega
theorem okS_of {i : Nat → Int → Int} {l : Nat → Int → BitVec 64} {q : Nat} {V : Int → Int} (h : relS i l q V) (hV : okV V) : okS i q := by
  obtain ⟨⟨h0, h1, h2, h3, h4, h5, h6⟩, _, h7, h8⟩ := h
  obtain ⟨v0, v1, v2, v3, v4, v5, v6, _⟩ := hV
  have hb := rgZ_bd V
  unfold okS
  rw [h0, h1, h2, h3, h4, h5, h6, h7, h8]
  omega
theorem okC_of {i : Nat → Int → Int} {l : Nat → Int → BitVec 64} {c : Nat} {W : Int → Int} (h : relC i l c W) (hW : okW W) : okC i c := by
  obtain ⟨⟨h11, h12, h13, h14⟩, ⟨h21, h22, h23, h24⟩, h3, h4, h5⟩ := h
  have hn := hW.n
  refine ⟨by rw [h11, h12, h13, h14, h21, h22, h23, h24]; exact hn, fun p h0 hp => ?_, fun x h0 hx => ?_, fun s h0 hs => ?_⟩
  · rw [h3 p h0 hp]; have := hW.2.1 p h0 hp; omega
  · rw [h12] at hx; rw [h4 x h0 hx]; exact hW.2.2.1 x h0 hx
  · rw [h11] at hs; exact okS_of (h5 s h0 hs) (hW.2.2.2.1 s h0 hs)
/-! the same words, of W -/
def gIn (V : Int → Int) (p : Int) : Int := max 0 (min ((rgZ V).2.2 + (rgZ V).2.1) (22 - 6 * p + 15) - max (rgZ V).2.2 (22 - 6 * p))
def gFits (W : Int → Int) (s : Int) : Int := orZ (fun p => decide (W 0 ≤ gIn (sV W s) p)) 4
def gMem (W : Int → Int) (p : Int) : Int := sumZ (fun k => if sV W k 2 = p then 1 else 0) (W 11)
def gStr (W : Int → Int) (p : Int) : Int := sumZ (fun k => if sV W k 2 = p then sV W k 0 else 0) (W 11)
def gPres (W : Int → Int) (p : Int) : Int := sumZ (fun k => if sV W k 2 = p ∧ sV W k 3 ≠ 0 then sV W k 0 else 0) (W 11)
def gAbs (W : Int → Int) : Int := sumZ (fun k => if sV W k 3 = 0 then 1 else 0) (W 11)
def gCov (W : Int → Int) : Int := orZ (fun p => decide (W 1 ≤ gPres W p)) 4
def gRows (W : Int → Int) (p : Int) : Int := (gMem W p + W 3 - 1) / W 3
def gRest (W : Int → Int) (s : Int) : Prop := sV W s 5 = -9 ∨ W 2 < W 4 - sV W s 5
def gSeat (W : Int → Int) (x : Int) : Int := sumZ (fun k => if sV W k 2 = sV W x 2 ∧ (sV W k 1 < sV W x 1 ∨ (sV W k 1 = sV W x 1 ∧ k < x)) then 1 else 0) (W 11)
theorem fIn_rel {i : Nat → Int → Int} {l : Nat → Int → BitVec 64} {q : Nat} {V : Int → Int} (h : relS i l q V) (p : Int) : fIn i q p = gIn V p := by
  unfold fIn gIn
  rw [h.2.2.1, h.2.2.2]
theorem relC.s {i : Nat → Int → Int} {l : Nat → Int → BitVec 64} {c : Nat} {W : Int → Int} (h : relC i l c W) {s : Int} (h0 : 0 ≤ s) (hs : s < W 11) : relS i l (c + 2 + s.toNat) (sV W s) := h.2.2.2.2 s h0 hs
theorem fFits_rel {i : Nat → Int → Int} {l : Nat → Int → BitVec 64} {c : Nat} {W : Int → Int} (h : relC i l c W) {s : Int} (h0 : 0 ≤ s) (hs : s < W 11) : fFits i c s = gFits W s := by
  unfold fFits gFits
  simp only [fIn_rel (h.s h0 hs), h.2.1.1]
theorem fMem_rel {i : Nat → Int → Int} {l : Nat → Int → BitVec 64} {c : Nat} {W : Int → Int} (h : relC i l c W) (p : Int) : fMem i c p = gMem W p := by
  unfold fMem gMem
  rw [h.1.1]
  exact sumZ_congr (fun k h0 h1 => by rw [(h.s h0 h1).1.2.2.1])
theorem fStr_rel {i : Nat → Int → Int} {l : Nat → Int → BitVec 64} {c : Nat} {W : Int → Int} (h : relC i l c W) (p : Int) : fStr i c p = gStr W p := by
  unfold fStr gStr
  rw [h.1.1]
  exact sumZ_congr (fun k h0 h1 => by rw [(h.s h0 h1).1.2.2.1, (h.s h0 h1).1.1])
theorem fPres_rel {i : Nat → Int → Int} {l : Nat → Int → BitVec 64} {c : Nat} {W : Int → Int} (h : relC i l c W) (p : Int) : fPres i c p = gPres W p := by
  unfold fPres gPres
  rw [h.1.1]
  exact sumZ_congr (fun k h0 h1 => by rw [(h.s h0 h1).1.2.2.1, (h.s h0 h1).1.1, (h.s h0 h1).1.2.2.2.1])
theorem fAbs_rel {i : Nat → Int → Int} {l : Nat → Int → BitVec 64} {c : Nat} {W : Int → Int} (h : relC i l c W) : fAbs i c = gAbs W := by
  unfold fAbs gAbs
  rw [h.1.1]
  exact sumZ_congr (fun k h0 h1 => by rw [(h.s h0 h1).1.2.2.2.1])
theorem fCov_rel {i : Nat → Int → Int} {l : Nat → Int → BitVec 64} {c : Nat} {W : Int → Int} (h : relC i l c W) : fCov i c = gCov W := by
  unfold fCov gCov
  simp only [fPres_rel h, h.2.1.2.1]
theorem fRows_rel {i : Nat → Int → Int} {l : Nat → Int → BitVec 64} {c : Nat} {W : Int → Int} (h : relC i l c W) (p : Int) : fRows i c p = gRows W p := by
  unfold fRows gRows
  rw [fMem_rel h, h.2.1.2.2.2]
theorem fRest_rel {i : Nat → Int → Int} {l : Nat → Int → BitVec 64} {c : Nat} {W : Int → Int} (h : relC i l c W) {s : Int} (h0 : 0 ≤ s) (hs : s < W 11) : fRest i c (c + 2 + s.toNat) ↔ gRest W s := by
  unfold fRest gRest
  rw [(h.s h0 hs).1.2.2.2.2.2.1, h.2.1.2.2.1, h.1.2.1]
theorem fSeat_rel {i : Nat → Int → Int} {l : Nat → Int → BitVec 64} {c : Nat} {W : Int → Int} (h : relC i l c W) {s : Int} (h0 : 0 ≤ s) (hs : s < W 11) : fSeat i c s = gSeat W s := by
  unfold fSeat gSeat
  rw [h.1.1]
  exact sumZ_congr (fun k g0 g1 => by rw [(h.s g0 g1).1.2.2.1, (h.s g0 g1).1.2.1, (h.s h0 hs).1.2.2.1, (h.s h0 hs).1.2.1])
/-! what is held, all of it -/
def hC (bb : Bool) (i : Nat → Int → Int) (j : Int) : Nat := ob bb + 18 + 15 * ((i (ob bb + 16) 1 + j) % 8).toNat
def RelB (bb : Bool) (i : Nat → Int → Int) (l : Nat → Int → BitVec 64) (W : Int → Int) (PN : Int) (P M : Int → Int → Int) (K : Int → Bool) (T : Int → Int) (TN FK FP : Int) : Prop :=
  relC i l (ob bb + 1) W ∧ (0 ≤ i (ob bb + 16) 1 ∧ i (ob bb + 16) 1 < 8 ∧ i (ob bb + 16) 2 = PN) ∧ (∀ j, 0 ≤ j → j < PN → relC i l (hC bb i j) (P j)) ∧ (∀ m, 0 ≤ m → m < 2 → (i (ob bb + 169) m = if K m = true then 1 else 0) ∧ (K m = true → relC i l (ob bb + 139 + 15 * m.toNat) (M m))) ∧ (i (ob bb + 170) 1 = TN ∧ ∀ k, 0 ≤ k → k < TN → i (ob bb + 171) k = T k) ∧ (i (ob bb + 172) 2 = FK ∧ i (ob bb + 172) 3 = FP) ∧ PZ bb i l
def okB (W : Int → Int) (PN : Int) (P M : Int → Int → Int) (K : Int → Bool) (T : Int → Int) (TN : Int) : Prop :=
  okW W ∧ (0 ≤ PN ∧ PN ≤ 8) ∧ (∀ j, 0 ≤ j → j < PN → okW (P j)) ∧ (∀ m, 0 ≤ m → m < 2 → K m = true → okW (M m)) ∧ (0 ≤ TN ∧ TN ≤ 60) ∧ ∀ k, 0 ≤ k → k < TN → 32 ≤ T k ∧ T k ≤ 126
def rmN (PN : Int) : Int := if PN < 8 then PN + 1 else PN
def rmP (W : Int → Int) (PN : Int) (P : Int → Int → Int) : Int → Int → Int := fun j => if PN < 8 then (if j = PN then W else P j) else (if j = 7 then W else P (j + 1))
theorem okB_rm {W : Int → Int} {PN : Int} {P M : Int → Int → Int} {K : Int → Bool} {T : Int → Int} {TN : Int} (h : okB W PN P M K T TN) {W' : Int → Int} (hW' : okW W') : okB W' (rmN PN) (rmP W PN P) M K T TN := by
  obtain ⟨h1, h2, h3, h4, h5⟩ := h
  refine ⟨hW', by unfold rmN; split <;> omega, fun j h0 hj => ?_, h4, h5⟩
  unfold rmN at hj
  unfold rmP
  by_cases hp : PN < 8
  · rw [if_pos hp] at hj ⊢
    split
    · exact h1
    · exact h3 j h0 (by omega)
  · rw [if_neg hp] at hj ⊢
    split
    · exact h1
    · exact h3 (j + 1) (by omega) (by omega)
theorem hC_lt (i : Nat → Int → Int) (j : Int) : ob bb + 18 ≤ hC bb i j ∧ hC bb i j + 15 ≤ (ob bb + 138) := by unfold hC; omega
/-- all but choir 1 stays as it was -/
theorem RelB_ch {i i' : Nat → Int → Int} {l l' : Nat → Int → BitVec 64} {W W' : Int → Int} {PN : Int} {P M : Int → Int → Int} {K : Int → Bool} {T : Int → Int} {TN FK FP : Int} (h : RelB bb i l W PN P M K T TN FK FP) (hB : okB W PN P M K T TN)
    (he : ∀ a b, (ob bb + 16) ≤ a → a < (ob bb + 172) → i' a b = i a b) (hl : ∀ a b, (ob bb + 16) ≤ a → a < (ob bb + 172) → l' a b = l a b) (h2 : i' (ob bb + 172) 2 = i (ob bb + 172) 2) (h3 : i' (ob bb + 172) 3 = i (ob bb + 172) 3) (hz : PZ bb i' l') (hW : relC i' l' (ob bb + 1) W') : RelB bb i' l' W' PN P M K T TN FK FP := by
  obtain ⟨r1, r2, r3, r4, r5, r6, r7⟩ := h
  refine ⟨hW, by rw [he (ob bb + 16) 1 (by omega) (by omega), he (ob bb + 16) 2 (by omega) (by omega)]; exact r2, fun j h0 hj => ?_, fun m h0 hm => ⟨?_, fun hk => ?_⟩, ⟨?_, fun k h0 hk => ?_⟩, ⟨by rw [h2]; exact r6.1, by rw [h3]; exact r6.2⟩, hz⟩
  · have hh := hC_lt (bb := bb) i j
    rw [show hC bb i' j = hC bb i j by unfold hC; rw [he (ob bb + 16) 1 (by omega) (by omega)]]
    exact (r3 j h0 hj).congr ((hB.2.2.1 j h0 hj).n.1.2) (fun a b _ _ => he a b (by omega) (by omega)) (fun a b _ _ => hl a b (by omega) (by omega))
  · rw [he (ob bb + 169) m (by omega) (by omega)]; exact (r4 m h0 hm).1
  · exact ((r4 m h0 hm).2 hk).congr ((hB.2.2.2.1 m h0 hm hk).n.1.2) (fun a b _ _ => he a b (by omega) (by omega)) (fun a b _ _ => hl a b (by omega) (by omega))
  · rw [he (ob bb + 170) 1 (by omega) (by omega)]; exact r5.1
  · rw [he (ob bb + 171) k (by omega) (by omega)]; exact r5.2 k h0 hk
theorem RelB_same {i i' : Nat → Int → Int} {l l' : Nat → Int → BitVec 64} {W : Int → Int} {PN : Int} {P M : Int → Int → Int} {K : Int → Bool} {T : Int → Int} {TN FK FP : Int} (h : RelB bb i l W PN P M K T TN FK FP) (hB : okB W PN P M K T TN)
    (he : ∀ a b, a < (ob bb + 172) → i' a b = i a b) (hl : ∀ a b, a < (ob bb + 172) → l' a b = l a b) (h2 : i' (ob bb + 172) 2 = i (ob bb + 172) 2) (h3 : i' (ob bb + 172) 3 = i (ob bb + 172) 3) (hz : PZ bb i' l') : RelB bb i' l' W PN P M K T TN FK FP :=
  RelB_ch h hB (fun a b _ h1 => he a b h1) (fun a b _ h1 => hl a b h1) h2 h3 hz (h.1.congr hB.1.n.1.2 (fun a b _ _ => he a b (by omega)) (fun a b _ _ => hl a b (by omega)))
theorem RelB_record {i i' : Nat → Int → Int} {l l' : Nat → Int → BitVec 64} {W : Int → Int} {PN : Int} {P M : Int → Int → Int} {K : Int → Bool} {T : Int → Int} {TN FK FP : Int} (h : RelB bb i l W PN P M K T TN FK FP) (hB : okB W PN P M K T TN)
    (hr : ∃ i1, cpC i l i1 l' (ob bb + 18 + 15 * ((i (ob bb + 16) 1 + i (ob bb + 16) 2) % 8).toNat) (ob bb + 1) ∧ ∀ a b, i' a b = if a = (ob bb + 16) ∧ b = 2 then (if i (ob bb + 16) 2 < 8 then i (ob bb + 16) 2 + 1 else i (ob bb + 16) 2) else if a = (ob bb + 16) ∧ b = 1 then (if i (ob bb + 16) 2 < 8 then i (ob bb + 16) 1 else (i (ob bb + 16) 1 + 1) % 8) else i1 a b) : RelB bb i' l' W (rmN PN) (rmP W PN P) M K T TN FK FP := by
  obtain ⟨i1, hcp, hi⟩ := hr
  obtain ⟨r1, r2, r3, r4, r5, r6, r7⟩ := h
  have hN := hB.1.n
  have h14 : i (ob bb + 1) 4 ≤ 10 := by rw [r1.1.1]; exact hN.1.2
  have hPN := hB.2.1
  obtain ⟨o, ho⟩ : ∃ o, o = i (ob bb + 16) 1 := ⟨_, rfl⟩
  rw [r2.2.2, ← ho] at hcp
  rw [← ho, r2.2.2] at hi
  rw [← ho] at r2
  have hT : ob bb + 18 ≤ ob bb + 18 + 15 * ((o + PN) % 8).toNat ∧ ob bb + 18 + 15 * ((o + PN) % 8).toNat + 15 ≤ (ob bb + 138) := by omega
  have eI : ∀ a b, (a < ob bb + 18 + 15 * ((o + PN) % 8).toNat ∨ ob bb + 18 + 15 * ((o + PN) % 8).toNat + 15 ≤ a) → a ≠ (ob bb + 16) → i' a b = i a b := fun a b h1 h2 => by rw [hi, if_neg (by omega), if_neg (by omega)]; exact cp_elseI hcp h14 h1 b
  have eL : ∀ a b, (a < ob bb + 18 + 15 * ((o + PN) % 8).toNat ∨ ob bb + 18 + 15 * ((o + PN) % 8).toNat + 15 ≤ a) → l' a b = l a b := fun a b h1 => cp_elseL hcp h14 h1 b
  have e161 : i' (ob bb + 16) 1 = if PN < 8 then o else (o + 1) % 8 := by rw [hi, if_neg (by omega), if_pos ⟨rfl, rfl⟩]
  have e162 : i' (ob bb + 16) 2 = if PN < 8 then PN + 1 else PN := by rw [hi, if_pos ⟨rfl, rfl⟩]
  have hnew : relC i' l' (ob bb + 18 + 15 * ((o + PN) % 8).toNat) W := (relC_cp hcp r1 hB.1).congr hN.1.2 (fun a b h1 h2 => by rw [hi, if_neg (by omega), if_neg (by omega)]) (fun a b _ _ => rfl)
  have hold : ∀ j, 0 ≤ j → j < PN → (o + j) % 8 ≠ (o + PN) % 8 → relC i' l' (ob bb + 18 + 15 * ((o + j) % 8).toNat) (P j) := by
    intro j h0 hj hne
    have := r3 j h0 hj
    unfold hC at this
    rw [← ho] at this
    exact this.congr ((hB.2.2.1 j h0 hj).n.1.2) (fun a b _ _ => eI a b (by omega) (by omega)) (fun a b _ _ => eL a b (by omega))
  refine ⟨?_, ?_, fun j h0 hj => ?_, fun m h0 hm => ⟨?_, fun hk => ?_⟩, ⟨?_, fun k h0 hk => ?_⟩, ⟨?_, ?_⟩, ?_⟩
  · exact r1.congr hN.1.2 (fun a b _ _ => eI a b (by omega) (by omega)) (fun a b _ _ => eL a b (by omega))
  · unfold rmN
    rw [e161, e162]
    refine ⟨?_, ?_, rfl⟩ <;> split <;> omega
  · unfold rmN at hj
    unfold hC rmP
    rw [e161]
    by_cases hp : PN < 8
    · rw [if_pos hp] at hj
      rw [if_pos hp, if_pos hp]
      by_cases e : j = PN
      · rw [if_pos e, e]; exact hnew
      · rw [if_neg e]; exact hold j h0 (by omega) (by omega)
    · rw [if_neg hp] at hj
      rw [if_neg hp, if_neg hp]
      by_cases e : j = 7
      · rw [if_pos e, e, show ((o + 1) % 8 + 7) % 8 = (o + PN) % 8 by omega]; exact hnew
      · rw [if_neg e, show ((o + 1) % 8 + j) % 8 = (o + (j + 1)) % 8 by omega]; exact hold (j + 1) (by omega) (by omega) (by omega)
  · rw [eI (ob bb + 169) m (by omega) (by omega)]; exact (r4 m h0 hm).1
  · exact ((r4 m h0 hm).2 hk).congr ((hB.2.2.2.1 m h0 hm hk).n.1.2) (fun a b _ _ => eI a b (by omega) (by omega)) (fun a b _ _ => eL a b (by omega))
  · rw [eI (ob bb + 170) 1 (by omega) (by omega)]; exact r5.1
  · rw [eI (ob bb + 171) k (by omega) (by omega)]; exact r5.2 k h0 hk
  · rw [eI (ob bb + 172) 2 (by omega) (by omega)]; exact r6.1
  · rw [eI (ob bb + 172) 3 (by omega) (by omega)]; exact r6.2
  · unfold PZ at r7 ⊢
    rw [eI (ob bb + 184) 0 (by omega) (by omega), eL (ob bb + 179) 0 (by omega), eL (ob bb + 180) 0 (by omega), eL (ob bb + 182) 0 (by omega), eL (ob bb + 183) 0 (by omega)]
    exact r7
theorem rec_else {i i' : Nat → Int → Int} {l l' : Nat → Int → BitVec 64} (h14 : i (ob bb + 1) 4 ≤ 10) (h16 : 0 ≤ i (ob bb + 16) 1 ∧ 0 ≤ i (ob bb + 16) 2)
    (hr : ∃ i1, cpC i l i1 l' (ob bb + 18 + 15 * ((i (ob bb + 16) 1 + i (ob bb + 16) 2) % 8).toNat) (ob bb + 1) ∧ ∀ a b, i' a b = if a = (ob bb + 16) ∧ b = 2 then (if i (ob bb + 16) 2 < 8 then i (ob bb + 16) 2 + 1 else i (ob bb + 16) 2) else if a = (ob bb + 16) ∧ b = 1 then (if i (ob bb + 16) 2 < 8 then i (ob bb + 16) 1 else (i (ob bb + 16) 1 + 1) % 8) else i1 a b) : (∀ a b, (a < (ob bb + 16) ∨ (ob bb + 138) ≤ a) → i' a b = i a b) ∧ ∀ a b, (a < (ob bb + 16) ∨ (ob bb + 138) ≤ a) → l' a b = l a b := by
  obtain ⟨i1, hcp, hi⟩ := hr
  exact ⟨fun a b h1 => by rw [hi, if_neg (by omega), if_neg (by omega)]; exact cp_elseI hcp h14 (by omega) b, fun a b h1 => cp_elseL hcp h14 (by omega) b⟩
