variable {nn : Nat} {bb : Bool}
/-! rehearsals, in the words of W -/
def dAg (D D' : dT) : Prop := dN D = dN D' ∧ dC D = dC D' ∧ ∀ k, 0 ≤ k → k < dN D → dP D k = dP D' k ∧ dR D k = dR D' k ∧ dG D k = dG D' k ∧ dS D k = dS D' k ∧ dL D k = dL D' k ∧ (∀ p, 0 ≤ p → p < 4 → dF D k p = dF D' k p) ∧ dZ D k = dZ D' k
theorem siZ_ag {D D' : dT} (h : dAg D D') {p : Int} (hp : 0 ≤ p ∧ p < 4) (S : sT) {x : Int} (hx : x ≤ dN D) : siZ D p S x = siZ D' p S x := by
  have key : ∀ n : Nat, (n : Int) ≤ dN D → siN D p S n = siN D' p S n := by
    intro n
    induction n with
    | zero => intro _; rfl
    | succ n ih =>
      intro hn
      obtain ⟨e1, e2, e3, e4, e5, e6, e7⟩ := h.2.2 n (by omega) (by omega)
      have e6 := e6 p hp.1 hp.2
      have i1 := ih (by omega)
      have q1 : siOk D p n (siN D' p S n) = siOk D' p n (siN D' p S n) := by
        unfold siOk
        rw [h.2.1, e1, e2, e3, e6]
      have q2 : siDo D p n (siN D' p S n) = siDo D' p n (siN D' p S n) := by
        unfold siDo
        rw [e1, e3]
      show (if (siN D p S n).2 p < dC D then (if siOk D p n (siN D p S n) then siDo D p n (siN D p S n) else siN D p S n) else siN D p S n) = (if (siN D' p S n).2 p < dC D' then (if siOk D' p n (siN D' p S n) then siDo D' p n (siN D' p S n) else siN D' p S n) else siN D' p S n)
      have q0 : ((siN D' p S n).2 p < dC D) = ((siN D' p S n).2 p < dC D') := by rw [h.2.1]
      rw [i1, q2]
      simp only [q0, q1]
  by_cases h0 : 0 ≤ x
  · exact key _ (by omega)
  · unfold siZ
    rw [show x.toNat = 0 by omega]
    rfl
theorem siAZ_ag {D D' : dT} (h : dAg D D') (S : sT) {p : Int} (hp : p ≤ 4) : siAZ D S p = siAZ D' S p := by
  unfold siAZ
  have key : ∀ n : Nat, n ≤ 4 → siAll D S n = siAll D' S n := by
    intro n
    induction n with
    | zero => intro _; rfl
    | succ n ih =>
      intro hn
      show siZ D n (siAll D S n) (dN D) = siZ D' n (siAll D' S n) (dN D')
      rw [ih (by omega), ← h.1]
      exact siZ_ag h (by omega) _ (by omega)
  exact key _ (by omega)
theorem soZ_ag {D D' : dT} (h : dAg D D') (f : Int → Int) (p : Int) {x : Int} (hx : x ≤ dN D) : soZ D f p x = soZ D' f p x := by
  have key : ∀ n : Nat, (n : Int) ≤ dN D → soN D f p n = soN D' f p n ∧ (soN D' f p n = -9 ∨ (0 ≤ soN D' f p n ∧ soN D' f p n < n)) := by
    intro n
    induction n with
    | zero => intro _; exact ⟨rfl, Or.inl rfl⟩
    | succ n ih =>
      intro hn
      obtain ⟨e1, e2, e3, e4, e5, e6, e7⟩ := h.2.2 n (by omega) (by omega)
      obtain ⟨i1, i2⟩ := ih (by omega)
      have q : (soOk D f p n ∧ (soN D' f p n = -9 ∨ soBf D n (soN D' f p n))) ↔ (soOk D' f p n ∧ (soN D' f p n = -9 ∨ soBf D' n (soN D' f p n))) := by
        unfold soOk soBf
        rw [e1, e2, e7, e4, e5]
        rcases i2 with i2 | i2
        · rw [i2]; simp
        · obtain ⟨_, _, _, b4, b5, _, _⟩ := h.2.2 _ i2.1 (by omega)
          rw [b4, b5]
      have hz : soN D f p (n + 1) = if soOk D f p n ∧ (soN D f p n = -9 ∨ soBf D n (soN D f p n)) then (n : Int) else soN D f p n := rfl
      have hz' : soN D' f p (n + 1) = if soOk D' f p n ∧ (soN D' f p n = -9 ∨ soBf D' n (soN D' f p n)) then (n : Int) else soN D' f p n := rfl
      rw [hz, hz', i1]
      simp only [q]
      refine ⟨trivial, ?_⟩
      by_cases hq : (soOk D' f p n ∧ (soN D' f p n = -9 ∨ soBf D' n (soN D' f p n)))
      · rw [if_pos hq]
        exact Or.inr ⟨Int.natCast_nonneg n, by rw [Int.natCast_add]; exact Int.lt_succ _⟩
      · rw [if_neg hq]
        exact i2.imp id (fun h => ⟨h.1, Int.lt_trans h.2 (by rw [Int.natCast_add]; exact Int.lt_succ _)⟩)
  by_cases h0 : 0 ≤ x
  · exact (key _ (by omega)).1
  · unfold soZ
    rw [show x.toNat = 0 by omega]
    rfl
theorem soZ_ok (D : dT) (f : Int → Int) (p : Int) (x : Int) : soZ D f p x = -9 ∨ soOk D f p (soZ D f p x) := by
  unfold soZ
  induction x.toNat with
  | zero => left; rfl
  | succ n ih =>
    show (if soOk D f p n ∧ (soN D f p n = -9 ∨ soBf D n (soN D f p n)) then (n : Int) else soN D f p n) = -9 ∨ soOk D f p (if soOk D f p n ∧ (soN D f p n = -9 ∨ soBf D n (soN D f p n)) then (n : Int) else soN D f p n)
    by_cases h : soOk D f p n ∧ (soN D f p n = -9 ∨ soBf D n (soN D f p n))
    · rw [if_pos h]; right; exact h.1
    · rw [if_neg h]; exact ih
def wD (W : Int → Int) : dT := (W 11, W 1, fun k => sV W k 2, fun k => sV W k 3, fun k => sV W k 0, fun k => sV W k 4, fun k => sV W k 5, fun k p => decide (W 0 ≤ gIn (sV W k) p), fun k => decide (sV W k 5 = -9 ∨ W 2 < W 4 - sV W k 5))
theorem cD_ag {i : Nat → Int → Int} {l : Nat → Int → BitVec 64} {c : Nat} {W : Int → Int} (h : relC i l c W) (hn : W 11 ≤ 10) : dAg (cD i c) (wD W) := by
  refine ⟨h.1.1, h.2.1.2.1, fun k h0 hk => ?_⟩
  have hk' : k < W 11 := by have : k < i c 4 := hk; rw [h.1.1] at this; exact this
  have hs := h.s h0 hk'
  obtain ⟨⟨s0, s1, s2, s3, s4, s5, s6⟩, _, _, _⟩ := hs
  unfold cD wD
  simp only [dN, dC, dP, dR, dG, dS, dL, dF, dZ, cQ_at (show 0 ≤ k ∧ k < 10 by omega), s0, s2, s3, s4, s5, fIn_rel (h.s h0 hk'), h.2.1.1, h.2.1.2.2.1, h.1.2.1]
  exact ⟨trivial, trivial, trivial, trivial, trivial, fun _ _ _ => trivial, trivial⟩
def S0w (W : Int → Int) : sT := (fun _ => -9, fun q => if 0 ≤ q ∧ q < 4 then gPres W q else 0)
def plT (W : Int → Int) : sT := siAZ (wD W) (S0w W) 4
def plS (W : Int → Int) (p : Int) : Int := soZ (wD W) (plT W).1 p (W 11)
theorem S0_rel {i : Nat → Int → Int} {l : Nat → Int → BitVec 64} {c : Nat} {W : Int → Int} (h : relC i l c W) : S0 i c = S0w W := by
  unfold S0 S0w
  simp only [fPres_rel h]
theorem plT_rel {i : Nat → Int → Int} {l : Nat → Int → BitVec 64} {c : Nat} {W : Int → Int} (h : relC i l c W) (hn : W 11 ≤ 10) : siAZ (cD i c) (S0 i c) 4 = plT W := by
  rw [S0_rel h]
  exact siAZ_ag (cD_ag h hn) _ (by omega)
theorem plS_rel {i : Nat → Int → Int} {l : Nat → Int → BitVec 64} {c : Nat} {W : Int → Int} (h : relC i l c W) (hn : W 11 ≤ 10) (p : Int) : soZ (cD i c) (siAZ (cD i c) (S0 i c) 4).1 p (i c 4) = plS W p := by
  rw [plT_rel h hn, h.1.1]
  exact soZ_ag (cD_ag h hn) _ _ (by show W 11 ≤ i c 4; rw [h.1.1]; omega)
theorem plS_bd (W : Int → Int) (p : Int) (h : 0 ≤ W 11) : plS W p = -9 ∨ (0 ≤ plS W p ∧ plS W p < W 11) := soZ_bd _ _ _ h
theorem plS_part (W : Int → Int) (p : Int) : plS W p = -9 ∨ sV W (plS W p) 2 = p := (soZ_ok (wD W) _ p (W 11)).imp id (fun h => h.1)
theorem plT_sb (W : Int → Int) : ∀ k, -9 ≤ (plT W).1 k ∧ (plT W).1 k ≤ 3 := siAZ_sb _ _ (by omega) (fun k => by show -9 ≤ (-9 : Int) ∧ (-9 : Int) ≤ 3; omega)
/-- behind the next rehearsal -/
def sgW (W : Int → Int) : Int := sumZ (fun p => if plS W p = -9 then 0 else 1) 4
def siW (W : Int → Int) : Int := sumZ (fun k => if (plT W).1 k = -9 then 0 else 1) (W 11)
def hsW (W : Int → Int) (k : Int) : Int := sumZ (fun p => if plS W p = k then 1 else 0) 4
def hoW (W : Int → Int) : Int → Int := fun k =>
  if k = 4 then W 4 + 1 else if k = 9 then W 9 + sgW W else if k = 10 then W 10 + siW W
  else if 5 ≤ k ∧ k < 9 then W k + (if (plT W).2 (k - 5) < W 1 then 1 else 0)
  else if 492 + 4 * W 4 ≤ k ∧ k < 496 + 4 * W 4 then plS W (k - 492 - 4 * W 4)
  else if 12 ≤ k ∧ k < 12 + 48 * W 11 then
    (if (k - 12) % 48 = 4 then W k + hsW W ((k - 12) / 48) else if (k - 12) % 48 = 5 then (if 0 < hsW W ((k - 12) / 48) then W 4 else W k) else if (k - 12) % 48 = 6 then W k + (if (plT W).1 ((k - 12) / 48) = -9 then 0 else 1) else if (k - 12) % 48 = 3 then 1 else W k)
  else W k
theorem sumZ4 (f : Int → Int) : sumZ f 4 = f 0 + f 1 + f 2 + f 3 := by
  show 0 + f ((0 : Nat) : Int) + f ((1 : Nat) : Int) + f ((2 : Nat) : Int) + f ((3 : Nat) : Int) = _
  rw [Int.zero_add]
  rfl
theorem hsW_bd (W : Int → Int) {k : Int} (hk : 0 ≤ k) : 0 ≤ hsW W k ∧ hsW W k ≤ 1 := by
  unfold hsW
  rw [sumZ4]
  have h0 := plS_part W 0
  have h1 := plS_part W 1
  have h2 := plS_part W 2
  have h3 := plS_part W 3
  by_cases a0 : plS W 0 = k <;> by_cases a1 : plS W 1 = k <;> by_cases a2 : plS W 2 = k <;> by_cases a3 : plS W 3 = k <;> simp only [a0, a1, a2, a3, if_true, if_false] at * <;> omega
theorem sgW_bd (W : Int → Int) : 0 ≤ sgW W ∧ sgW W ≤ 4 := by
  unfold sgW
  rw [sumZ4]
  omega
theorem siW_bd (W : Int → Int) (h : 0 ≤ W 11) : 0 ≤ siW W ∧ siW W ≤ W 11 := by
  have := sumZ_bd (f := fun k => if (plT W).1 k = -9 then 0 else 1) (x := W 11) (a := 0) (b := 1) h (fun k _ _ => by split <;> omega)
  unfold siW
  omega
theorem hoW_s {W : Int → Int} (hn : W 11 ≤ 10) (h4 : 0 ≤ W 4) {s j : Int} (h0 : 0 ≤ s) (hs : s < W 11) (g0 : 0 ≤ j) (g1 : j < 48) : sV (hoW W) s j = if j = 4 then sV W s 4 + hsW W s else if j = 5 then (if 0 < hsW W s then W 4 else sV W s 5) else if j = 6 then sV W s 6 + (if (plT W).1 s = -9 then 0 else 1) else if j = 3 then 1 else sV W s j := by
  unfold sV hoW
  rw [if_neg (by omega), if_neg (by omega), if_neg (by omega), if_neg (by omega), if_neg (by omega), if_pos (by omega), show (12 + 48 * s + j - 12) % 48 = j by omega, show (12 + 48 * s + j - 12) / 48 = s by omega]
  by_cases j4 : j = 4
  · rw [if_pos j4, if_pos j4, j4]
  · rw [if_neg j4, if_neg j4]
    by_cases j5 : j = 5
    · rw [if_pos j5, if_pos j5, j5]
    · rw [if_neg j5, if_neg j5]
      by_cases j6 : j = 6
      · rw [if_pos j6, if_pos j6, j6]
      · rw [if_neg j6, if_neg j6]
theorem hoW_e {W : Int → Int} (hW : okW W) {k : Int} (hk : k = 11 ∨ (0 ≤ k ∧ k < 4)) : hoW W k = W k := by
  have hN := hW.n
  unfold hoW
  rw [if_neg (by omega), if_neg (by omega), if_neg (by omega), if_neg (by omega), if_neg (by omega), if_neg (by omega)]
theorem okW_hold {W : Int → Int} (hW : okW W) (h4 : W 4 < 40) : okW (hoW W) := by
  have hN := hW.n
  have e4 : hoW W 4 = W 4 + 1 := by unfold hoW; rw [if_pos rfl]
  have e9 : hoW W 9 = W 9 + sgW W := by unfold hoW; rw [if_neg (by omega), if_pos rfl]
  have e10 : hoW W 10 = W 10 + siW W := by unfold hoW; rw [if_neg (by omega), if_neg (by omega), if_pos rfl]
  have b1 := sgW_bd W
  have b2 := siW_bd W hN.1.1
  refine ⟨?_, fun p h0 hp => ?_, fun x h0 hx => ?_, fun s h0 hs => ?_, fun s h0 hs => ?_⟩
  · rw [e4, e9, e10, hoW_e hW (Or.inl rfl), hoW_e hW (k := 0) (by omega), hoW_e hW (k := 1) (by omega), hoW_e hW (k := 2) (by omega), hoW_e hW (k := 3) (by omega)]
    omega
  · have := hW.2.1 p h0 hp
    rw [e4]
    unfold hoW
    rw [if_neg (by omega), if_neg (by omega), if_neg (by omega), if_pos (by omega)]
    split <;> omega
  · rw [e4] at hx
    unfold hoW
    rw [if_neg (by omega), if_neg (by omega), if_neg (by omega), if_neg (by omega)]
    by_cases hn : 492 + 4 * W 4 ≤ 492 + x
    · rw [if_pos (by omega)]
      have := plS_bd W (492 + x - 492 - 4 * W 4) hN.1.1
      omega
    · rw [if_neg (by omega), if_neg (by omega)]
      exact hW.2.2.1 x h0 (by omega)
  · rw [hoW_e hW (Or.inl rfl)] at hs
    obtain ⟨v0, v1, v2, v3, v4, v5, v6, v7⟩ := hW.2.2.2.1 s h0 hs
    have hb := hW.2.2.2.2 s h0 hs
    have hh := hsW_bd W h0
    have e := fun j g0 g1 => hoW_s (W := W) hN.1.2 hN.2.1.1 h0 hs (j := j) g0 g1
    unfold okV
    rw [e 0 (by omega) (by omega), e 1 (by omega) (by omega), e 2 (by omega) (by omega), e 3 (by omega) (by omega), e 4 (by omega) (by omega), e 5 (by omega) (by omega), e 6 (by omega) (by omega)]
    simp only [show ¬ (0 : Int) = 4 by omega, show ¬ (0 : Int) = 5 by omega, show ¬ (0 : Int) = 6 by omega, show ¬ (0 : Int) = 3 by omega, show ¬ (1 : Int) = 4 by omega, show ¬ (1 : Int) = 5 by omega, show ¬ (1 : Int) = 6 by omega, show ¬ (1 : Int) = 3 by omega, show ¬ (2 : Int) = 4 by omega, show ¬ (2 : Int) = 5 by omega, show ¬ (2 : Int) = 6 by omega, show ¬ (2 : Int) = 3 by omega, show ¬ (3 : Int) = 4 by omega, show ¬ (3 : Int) = 5 by omega, show ¬ (3 : Int) = 6 by omega, show ¬ (5 : Int) = 4 by omega, show ¬ (6 : Int) = 4 by omega, show ¬ (6 : Int) = 5 by omega, if_true, if_false]
    refine ⟨v0, v1, v2, Or.inr trivial, by omega, by split <;> omega, by split <;> omega, fun n g0 g1 => ?_⟩
    rw [e (7 + n) (by omega) (by omega), if_neg (by omega), if_neg (by omega), if_neg (by omega), if_neg (by omega)]
    exact v7 n g0 g1
  · rw [hoW_e hW (Or.inl rfl)] at hs
    have hb := hW.2.2.2.2 s h0 hs
    have hh := hsW_bd W h0
    have e := fun j g0 g1 => hoW_s (W := W) hN.1.2 hN.2.1.1 h0 hs (j := j) g0 g1
    rw [e4, e 4 (by omega) (by omega), e 5 (by omega) (by omega), e 6 (by omega) (by omega)]
    simp only [show ¬ (5 : Int) = 4 by omega, show ¬ (6 : Int) = 4 by omega, show ¬ (6 : Int) = 5 by omega, if_true, if_false]
    refine ⟨by omega, by split <;> omega, by split <;> omega⟩
theorem relC_hold {i ii kk jj i' : Nat → Int → Int} {l : Nat → Int → BitVec 64} {c : Nat} {W : Int → Int} (hr : relC i l c W) (hW : okW W) (h174 : ∀ k, 0 ≤ k → k < 10 → i (ob bb + 174) k = (plT W).1 k) (h175 : ∀ p, 0 ≤ p → p < 4 → i (ob bb + 175) p = (plT W).2 p) (h176 : ∀ p, 0 ≤ p → p < 4 → i (ob bb + 176) p = plS W p)
    (hA : hpA bb i ii c 4) (hk : kk = mU ii c 6 (i c 6 + sgC bb i 4)) (hB : hpB bb i kk jj c (i c 4)) (hi : i' = mU jj c 5 (i c 5 + 1)) : relC i' l c (hoW W) := by
  have hN := hW.n
  have esg : sgC bb i 4 = sgW W := sumZ_congr (fun p h0 h1 => by rw [h176 p h0 h1])
  have esi : siC bb i (i c 4) = siW W := by rw [hr.1.1]; exact sumZ_congr (fun k h0 h1 => by rw [h174 k h0 (by omega)])
  have ehs : ∀ k, hsZ bb i k 4 = hsW W k := fun k => sumZ_congr (fun p h0 h1 => by rw [h176 p h0 h1])
  obtain ⟨⟨h11, h12, h13, h14⟩, ⟨h21, h22, h23, h24⟩, h3, h4, h5⟩ := hr
  rw [h11] at hB
  have ej : ∀ a b, ¬ (a = c ∧ b = 5) → i' a b = jj a b := fun a b h => by rw [hi]; simp only [mU]; rw [if_neg h]
  have ek : ∀ a b, ¬ (a = c ∧ b = 6) → kk a b = ii a b := fun a b h => by rw [hk]; simp only [mU]; rw [if_neg h]
  have e4 : hoW W 4 = W 4 + 1 := by unfold hoW; rw [if_pos rfl]
  have e9 : hoW W 9 = W 9 + sgW W := by unfold hoW; rw [if_neg (by omega), if_pos rfl]
  have e10 : hoW W 10 = W 10 + siW W := by unfold hoW; rw [if_neg (by omega), if_neg (by omega), if_pos rfl]
  have low : ∀ a b, ¬ (a = c ∧ b = 5) → ¬ (a = c ∧ b = 6) → ¬ (a = c ∧ b = 7) → ¬ (c + 2 ≤ a ∧ a < c + 12) → i' a b = ii a b := by
    intro a b q5 q6 q7 qs
    rw [ej a b q5, hB, if_neg q7, if_neg (by omega), if_neg (by omega), ek a b q6]
  have lowI : ∀ a b, ¬ (c + 2 ≤ a ∧ a < c + 12) → a ≠ c + 13 → a ≠ c + 14 → ii a b = i a b := by
    intro a b qs q13 q14
    rw [hA, if_neg (by omega), if_neg (by omega), if_neg (by omega), if_neg (by omega)]
  refine ⟨?_, ?_, fun p h0 hp => ?_, fun x h0 hx => ?_, fun s h0 hs => ?_⟩
  · rw [hoW_e hW (Or.inl rfl), e4, e9, e10, low c 4 (by omega) (by omega) (by omega) (by omega), lowI c 4 (by omega) (by omega) (by omega)]
    refine ⟨h11, ?_, ?_, ?_⟩
    · rw [hi, mUs, h12]
    · rw [ej c 6 (by omega), hB, if_neg (by omega), if_neg (by omega), if_neg (by omega), hk, mUs, h13, esg]
    · rw [ej c 7 (by omega), hB, if_pos ⟨rfl, rfl⟩, ek c 7 (by omega), lowI c 7 (by omega) (by omega) (by omega), h14, ← esi, h11]
  · rw [hoW_e hW (k := 0) (by omega), hoW_e hW (k := 1) (by omega), hoW_e hW (k := 2) (by omega), hoW_e hW (k := 3) (by omega)]
    have e := fun b => (low (c + 12) b (by omega) (by omega) (by omega) (by omega)).trans (lowI (c + 12) b (by omega) (by omega) (by omega))
    rw [e, e, e, e]
    exact ⟨h21, h22, h23, h24⟩
  · have hw5 : hoW W (5 + p) = W (5 + p) + (if (plT W).2 p < W 1 then 1 else 0) := by
      unfold hoW
      rw [if_neg (by omega), if_neg (by omega), if_neg (by omega), if_pos (by omega), show 5 + p - 5 = p by omega]
    rw [low _ _ (by omega) (by omega) (by omega) (by omega), hA, if_pos ⟨rfl, h0, by omega⟩, h3 p h0 hp, h175 p h0 hp, h22, hw5]
  · rw [e4] at hx
    have hw5 : hoW W (492 + x) = if 4 * W 4 ≤ x then plS W (x - 4 * W 4) else W (492 + x) := by
      unfold hoW
      rw [if_neg (by omega), if_neg (by omega), if_neg (by omega), if_neg (by omega)]
      by_cases hn : 4 * W 4 ≤ x
      · rw [if_pos (by omega), if_pos hn, show 492 + x - 492 - 4 * W 4 = x - 4 * W 4 by omega]
      · rw [if_neg (by omega), if_neg (by omega), if_neg hn]
    rw [low _ _ (by omega) (by omega) (by omega) (by omega), hA, if_neg (by omega), h12, hw5]
    by_cases hn : 4 * W 4 ≤ x
    · rw [if_pos (show c + 13 = c + 13 ∧ W 4 * 4 ≤ x ∧ x < W 4 * 4 + 4 by omega), if_pos hn, h176 _ (by omega) (by omega), show x - W 4 * 4 = x - 4 * W 4 by omega]
    · rw [if_neg (show ¬ (c + 13 = c + 13 ∧ W 4 * 4 ≤ x ∧ x < W 4 * 4 + 4) by omega), if_neg hn, if_neg (by omega), if_neg (by omega)]
      exact h4 x h0 (by omega)
  · rw [hoW_e hW (Or.inl rfl)] at hs
    obtain ⟨⟨v0, v1, v2, v3, v4, v5, v6⟩, v7, v8, v9⟩ := h5 s h0 hs
    have e := fun j g0 g1 => hoW_s (W := W) hN.1.2 hN.2.1.1 h0 hs (j := j) g0 g1
    have hcs : ((c + 2 + s.toNat : Nat) : Int) - c - 2 = s := by omega
    have sg : ∀ b, i' (c + 2 + s.toNat) b = if b = 10 then i (c + 2 + s.toNat) 10 + (if (plT W).1 s = -9 then 0 else 1) else if b = 7 then 1 else if b = 8 then i (c + 2 + s.toNat) 8 + hsW W s else if b = 9 then (if 0 < hsW W s then W 4 else i (c + 2 + s.toNat) 9) else i (c + 2 + s.toNat) b := by
      intro b
      rw [ej _ _ (by omega), hB, if_neg (by omega), hcs]
      have hii : ∀ b, ¬ (b = 8) → ¬ (b = 9) → ii (c + 2 + s.toNat) b = i (c + 2 + s.toNat) b := fun b n8 n9 => by rw [hA, if_neg (by omega), if_neg (by omega), if_neg (by omega), if_neg (by omega)]
      by_cases b10 : b = 10
      · rw [if_pos ⟨by omega, by omega, b10⟩, if_pos b10, ek _ _ (by omega), b10, hii 10 (by omega) (by omega), h174 s h0 (by omega)]
      · rw [if_neg (fun q => b10 q.2.2), if_neg b10]
        by_cases b7 : b = 7
        · rw [if_pos ⟨by omega, by omega, b7⟩, if_pos b7]
        · rw [if_neg (fun q => b7 q.2.2), if_neg b7, ek _ _ (by omega)]
          by_cases b8 : b = 8
          · rw [if_pos b8, hA, if_neg (by omega), if_neg (by omega), if_pos ⟨by omega, by omega, b8⟩, hcs, ehs, b8]
          · rw [if_neg b8]
            by_cases b9 : b = 9
            · rw [if_pos b9, hA, if_neg (by omega), if_neg (by omega), if_neg (fun q => b8 q.2.2), hcs, ehs, h12]
              by_cases hp : 0 < hsW W s
              · rw [if_pos ⟨by omega, by omega, b9, hp⟩, if_pos hp]
              · rw [if_neg (fun q => hp q.2.2.2), if_neg hp, b9]
            · rw [if_neg b9, hii b b8 b9]
    have rg : rgZ (sV (hoW W) s) = rgZ (sV W s) := by
      unfold rgZ
      exact rwZ_congr (fun k g0 g1 => by rw [e (7 + k) (by omega) (by omega), if_neg (by omega), if_neg (by omega), if_neg (by omega), if_neg (by omega)])
    unfold relS
    rw [rg, sg 0, sg 1, sg 6, sg 7, sg 8, sg 9, sg 10, sg 4, sg 5, e 0 (by omega) (by omega), e 1 (by omega) (by omega), e 2 (by omega) (by omega), e 3 (by omega) (by omega), e 4 (by omega) (by omega), e 5 (by omega) (by omega), e 6 (by omega) (by omega)]
    refine ⟨⟨?_, ?_, ?_, ?_, ?_, ?_, ?_⟩, fun n g0 g1 => ?_, ?_, ?_⟩
    · simpa using v0
    · simpa using v1
    · simpa using v2
    · simp
    · simp [v4]
    · simp [v5]
    · simp [v6]
    · rw [e (7 + n) (by omega) (by omega), if_neg (by omega), if_neg (by omega), if_neg (by omega), if_neg (by omega)]
      exact v7 n g0 g1
    · simpa using v8
    · simpa using v9
/-! placing -/
def vwN (W : Int → Int) (y : Int) : Nat → List vO
  | 0 => []
  | n + 1 => if (n : Int) ≠ y ∧ gFits W n ≠ 0 then ((n : Int), sV W n 0, gFits W n) :: vwN W y n else vwN W y n
def vwZ (W : Int → Int) (y : Int) : List vO := vwN W y (W 11).toNat
theorem vw_rel {i : Nat → Int → Int} {l : Nat → Int → BitVec 64} {c : Nat} {W : Int → Int} (h : relC i l c W) (y : Int) : vsZ i c y (i c 4) = vwZ W y := by
  rw [h.1.1]
  unfold vsZ vwZ
  have key : ∀ n : Nat, (n : Int) ≤ W 11 → vsN i c y n = vwN W y n := by
    intro n
    induction n with
    | zero => intro _; rfl
    | succ n ih =>
      intro hn
      have e := (h.s (show 0 ≤ (n : Int) by omega) (by omega)).1.1
      rw [Int.toNat_natCast] at e
      unfold vsN vwN
      rw [ih (by omega), fFits_rel h (show 0 ≤ (n : Int) by omega) (by omega), e]
  by_cases h0 : 0 ≤ W 11
  · exact key _ (by omega)
  · rw [show (W 11).toNat = 0 by omega]
    rfl
theorem vw_mem {W : Int → Int} {y : Int} {v : vO} (hv : v ∈ vwZ W y) : (0 ≤ v.1 ∧ v.1 < W 11) ∧ v.1 ≠ y ∧ v.2.1 = sV W v.1 0 ∧ v.2.2 = gFits W v.1 ∧ v.2.2 ≠ 0 := by
  unfold vwZ at hv
  have key : ∀ n : Nat, v ∈ vwN W y n → (0 ≤ v.1 ∧ v.1 < n) ∧ v.1 ≠ y ∧ v.2.1 = sV W v.1 0 ∧ v.2.2 = gFits W v.1 ∧ v.2.2 ≠ 0 := by
    intro n
    induction n with
    | zero => intro h; exact absurd h List.not_mem_nil
    | succ n ih =>
      intro h
      unfold vwN at h
      split at h
      · rename_i hc
        rcases List.mem_cons.mp h with rfl | h
        · exact ⟨⟨by show 0 ≤ (n : Int); omega, by show (n : Int) < _; omega⟩, hc.1, rfl, rfl, hc.2⟩
        · have := ih h; refine ⟨⟨this.1.1, by omega⟩, this.2⟩
      · have := ih h; refine ⟨⟨this.1.1, by omega⟩, this.2⟩
  have := key _ hv
  refine ⟨⟨this.1.1, by omega⟩, this.2⟩
theorem gFits_bd (W : Int → Int) (x : Int) : 0 ≤ gFits W x ∧ gFits W x ≤ 15 := by
  unfold gFits orZ
  have := orN_lt (fun p => decide (W 0 ≤ gIn (sV W x) p)) 4
  have e : (4 : Int).toNat = 4 := rfl
  rw [e]
  omega
noncomputable def bsW (W : Int → Int) (y : Int) : Int × Int := wpZ (vwZ W y) (2 ^ (vwZ W y).length)
noncomputable def chW (W : Int → Int) (s : Int) : Int := (chZ (vwZ W (-1)) (bsW W (-1)).1 (bsW W (-1)).2 (vwZ W (-1)).length).2 s
noncomputable def plW (W : Int → Int) : Int → Int := fun k => if (12 ≤ k ∧ k < 12 + 48 * W 11) ∧ (k - 12) % 48 = 2 then chW W ((k - 12) / 48) else W k
theorem plW_else {W : Int → Int} {k : Int} (h : ¬ ((12 ≤ k ∧ k < 12 + 48 * W 11) ∧ (k - 12) % 48 = 2)) : plW W k = W k := by unfold plW; exact if_neg h
theorem chZ_pb (r : List vO) (L G : Int) (x : Int) : ∀ s, (chZ r L G x).2 s = -9 ∨ (0 ≤ (chZ r L G x).2 s ∧ (chZ r L G x).2 s < 4) := by
  unfold chZ
  induction x.toNat with
  | zero => intro s; left; rfl
  | succ n ih =>
    intro s
    show fU (chN r L G n).2 (vAt r n).1 (fgZ r n L G (chN r L G n).1) s = -9 ∨ _
    show _ ∨ (0 ≤ fU (chN r L G n).2 (vAt r n).1 (fgZ r n L G (chN r L G n).1) s ∧ fU (chN r L G n).2 (vAt r n).1 (fgZ r n L G (chN r L G n).1) s < 4)
    unfold fU
    split
    · exact fgZ_bd _ _ _ _ _
    · exact ih s
theorem okW_plc {W : Int → Int} (hW : okW W) : okW (plW W) := by
  have hN := hW.n
  refine okW_sing hW (fun k hk => plW_else (by omega)) (fun s h0 hs => ?_)
  have e : ∀ j, 0 ≤ j → j < 48 → j ≠ 2 → sV (plW W) s j = sV W s j := fun j g0 g1 g3 => plW_else (by omega)
  obtain ⟨v0, v1, v2, v3, v4, v5, v6, v7⟩ := hW.2.2.2.1 s h0 hs
  unfold okV
  rw [e 0 (by omega) (by omega) (by omega), e 1 (by omega) (by omega) (by omega), e 3 (by omega) (by omega) (by omega), e 4 (by omega) (by omega) (by omega), e 5 (by omega) (by omega) (by omega), e 6 (by omega) (by omega) (by omega)]
  refine ⟨⟨v0, v1, ?_, v3, v4, v5, v6, fun n g0 g1 => by rw [e (7 + n) (by omega) (by omega) (by omega)]; exact v7 n g0 g1⟩, hW.2.2.2.2 s h0 hs⟩
  unfold sV plW
  rw [if_pos (by omega)]
  exact chZ_pb _ _ _ _ _
theorem relC_plc {i i' : Nat → Int → Int} {l l' : Nat → Int → BitVec 64} {c : Nat} {W : Int → Int} (hr : relC i l c W) (hW : okW W) (hl : ∀ a b, c ≤ a → a < c + 15 → l' a b = l a b)
    (hi : ∀ a b, c ≤ a → a < c + 15 → i' a b = if b = 6 ∧ c + 2 ≤ a ∧ (a : Int) < c + 2 + W 11 then chW W (a - c - 2) else i a b) : relC i' l' c (plW W) := by
  have hN := hW.n
  obtain ⟨⟨h11, h12, h13, h14⟩, ⟨h21, h22, h23, h24⟩, h3, h4, h5⟩ := hr
  have he : ∀ k, k < 12 ∨ 492 ≤ k → plW W k = W k := fun k hk => plW_else (by omega)
  refine ⟨?_, ?_, fun p h0 hp => ?_, fun x h0 hx => ?_, fun s h0 hs => ?_⟩
  · rw [he 11 (by omega), he 4 (by omega), he 9 (by omega), he 10 (by omega), hi _ _ (by omega) (by omega), if_neg (by omega), hi _ _ (by omega) (by omega), if_neg (by omega), hi _ _ (by omega) (by omega), if_neg (by omega), hi _ _ (by omega) (by omega), if_neg (by omega)]
    exact ⟨h11, h12, h13, h14⟩
  · rw [he 0 (by omega), he 1 (by omega), he 2 (by omega), he 3 (by omega), hi _ _ (by omega) (by omega), if_neg (by omega), hi _ _ (by omega) (by omega), if_neg (by omega), hi _ _ (by omega) (by omega), if_neg (by omega), hi _ _ (by omega) (by omega), if_neg (by omega)]
    exact ⟨h21, h22, h23, h24⟩
  · rw [he _ (by omega), hi _ _ (by omega) (by omega), if_neg (by omega)]; exact h3 p h0 hp
  · rw [he 4 (by omega)] at hx
    rw [he _ (by omega), hi _ _ (by omega) (by omega), if_neg (by omega)]; exact h4 x h0 hx
  · rw [he 11 (by omega)] at hs
    have e : ∀ j, 0 ≤ j → j < 48 → j ≠ 2 → sV (plW W) s j = sV W s j := fun j g0 g1 g3 => plW_else (by omega)
    obtain ⟨⟨v0, v1, v2, v3, v4, v5, v6⟩, v7, v8, v9⟩ := h5 s h0 hs
    have ei : ∀ b, b ≠ 6 → i' (c + 2 + s.toNat) b = i (c + 2 + s.toNat) b := fun b hb => by rw [hi _ _ (by omega) (by omega), if_neg (fun q => hb q.1)]
    have rg : rgZ (sV (plW W) s) = rgZ (sV W s) := by
      unfold rgZ
      exact rwZ_congr (fun k g0 g1 => by rw [e (7 + k) (by omega) (by omega) (by omega)])
    unfold relS
    rw [rg, e 0 (by omega) (by omega) (by omega), e 1 (by omega) (by omega) (by omega), e 3 (by omega) (by omega) (by omega), e 4 (by omega) (by omega) (by omega), e 5 (by omega) (by omega) (by omega), e 6 (by omega) (by omega) (by omega), ei 0 (by omega), ei 1 (by omega), ei 7 (by omega), ei 8 (by omega), ei 9 (by omega), ei 10 (by omega), ei 4 (by omega), ei 5 (by omega), hl _ 2 (by omega) (by omega), hl _ 3 (by omega) (by omega)]
    refine ⟨⟨v0, v1, ?_, v3, v4, v5, v6⟩, fun n g0 g1 => by rw [e (7 + n) (by omega) (by omega) (by omega)]; exact v7 n g0 g1, v8, v9⟩
    rw [hi _ _ (by omega) (by omega), if_pos ⟨rfl, by omega, by omega⟩]
    unfold sV plW
    rw [if_pos (by omega)]
    exact congrS (by omega)
