/-! the other book reads -/
def wAt (ws : List wT) (k : Int) : wT := ws.getD (ws.length - 1 - k.toNat) (0, 0, 0)
theorem wAt_old {w : wT} {ws : List wT} {k : Int} (h0 : 0 ≤ k) (h : k < ws.length) : wAt (w :: ws) k = wAt ws k := by
  unfold wAt
  rw [List.length_cons, show ws.length + 1 - 1 - k.toNat = (ws.length - 1 - k.toNat) + 1 by omega, List.getD_cons_succ]
theorem wAt_new (w : wT) (ws : List wT) : wAt (w :: ws) ws.length = w := by
  unfold wAt
  rw [List.length_cons, show ws.length + 1 - 1 - (ws.length : Int).toNat = 0 by omega, List.getD_cons_zero]
def entM (i : Nat → Int → Int) (ws : List wT) : Prop := ∀ k : Int, 0 ≤ k → k < ws.length → i 201 k = (wAt ws k).1 ∧ i 202 k = (wAt ws k).2.1 ∧ i 203 k = (wAt ws k).2.2
def simM (i : Nat → Int → Int) (s : gT) : Prop := i 189 26 = s.1 ∧ ((s.1 = 1 ∨ s.1 = 3) → i 189 27 = s.2.1 ∧ i 189 28 = s.2.2.1 ∧ i 189 29 = s.2.2.2.1) ∧ ((s.1 = 2 ∨ s.1 = 3) → i 201 s.2.2.2.2.2.length = s.2.2.2.2.1 ∧ i 203 s.2.2.2.2.2.length = 1) ∧ (i 189 20 = if s.1 = 4 then (s.2.2.2.2.2.length : Int) - 1 else s.2.2.2.2.2.length) ∧ (s.1 = 4 → 1 ≤ s.2.2.2.2.2.length) ∧ entM i s.2.2.2.2.2
/-- each word has taken two places at least -/
def lenM (s : gT) (n : Int) : Prop := 2 * (s.2.2.2.2.2.length : Int) + (if s.1 = 1 ∨ s.1 = 2 ∨ s.1 = 3 then 1 else 0) ≤ n
def simMR (i : Nat → Int → Int) (n : Int) : gT ⊕ (Int × Int) → Prop
  | .inl s => i 189 24 = -9 ∧ simM i s ∧ lenM s n
  | .inr e => i 189 24 = e.1 ∧ i 189 25 = e.2 ∧ 1 ≤ e.1 ∧ e.1 ≤ 3
/-- what reading may change -/
def fM (i i' : Nat → Int → Int) : Prop := ∀ a b, a ≠ 201 → a ≠ 202 → a ≠ 203 → ¬ (a = 189 ∧ (b = 20 ∨ (24 ≤ b ∧ b ≤ 29))) → i' a b = i a b
theorem fM.rf (i : Nat → Int → Int) : fM i i := fun _ _ _ _ _ _ => rfl
theorem fM.tr {i i' i'' : Nat → Int → Int} (h : fM i i') (h2 : fM i' i'') : fM i i'' := fun a b q1 q2 q3 q4 => (h2 a b q1 q2 q3 q4).trans (h a b q1 q2 q3 q4)
theorem entM.c {i i' : Nat → Int → Int} {ws : List wT} (h : entM i ws) (he : ∀ (a : Nat) (b : Int), (a = 201 ∨ a = 202 ∨ a = 203) → 0 ≤ b → b < ws.length → i' a b = i a b) : entM i' ws := by
  intro k h0 h1
  rw [he 201 k (by omega) h0 h1, he 202 k (by omega) h0 h1, he 203 k (by omega) h0 h1]
  exact h k h0 h1
theorem entM.p {i : Nat → Int → Int} {ws : List wT} {w : wT} (h : entM i ws) (h1 : i 201 ws.length = w.1) (h2 : i 202 ws.length = w.2.1) (h3 : i 203 ws.length = w.2.2) : entM i (w :: ws) := by
  intro k k0 k1
  rw [List.length_cons] at k1
  by_cases e : k = ws.length
  · rw [e, wAt_new]; exact ⟨h1, h2, h3⟩
  · rw [wAt_old k0 (by omega)]; exact h k k0 (by omega)
theorem dg_res {i i' : Nat → Int → Int} {s : gT} {sg hi code x n : Int} (h : simM i s) (hg : okG hi s) (hl : lenM s n) (hn : i 189 24 = -9) (hd : 48 ≤ code ∧ code ≤ 57)
    (hc : ((i 189 26 = 0 ∨ i 189 26 = 2) ∧ i' = mU (mU (mU (mU i 189 26 (i 189 26 + 1)) 189 27 (code - 48)) 189 28 1) 189 29 x) ∨ ((i 189 26 = 1 ∨ i 189 26 = 3) ∧ i 189 28 < 2 ∧ i' = mU (mU i 189 27 (10 * i 189 27 + code - 48)) 189 28 (i 189 28 + 1)) ∨ ((i 189 26 = 4 ∨ ((i 189 26 = 1 ∨ i 189 26 = 3) ∧ 2 ≤ i 189 28)) ∧ i' = mU (mU i 189 24 1) 189 25 x)) : simMR i' (n + 1) (gStep sg hi code x s) := by
  obtain ⟨w, v, d, st, f, ws⟩ := s
  obtain ⟨h1, h2, h3, h4, h5, h6⟩ := h
  obtain ⟨g1, g2, g3, g4⟩ := hg
  simp only at h1 h2 h3 h4 h5 h6 g1 g2 g3 g4
  unfold lenM at hl
  simp only at hl
  rw [h1] at hc
  unfold gStep gWhere
  simp only
  rcases hc with ⟨q, rfl⟩ | ⟨q, q2, rfl⟩ | ⟨q, rfl⟩
  · rw [if_neg (by omega), if_pos ⟨hd, by omega⟩]
    refine ⟨by simp [mU, hn], ⟨?_, fun _ => ⟨by simp [mU], by simp [mU], by simp [mU]⟩, fun z => ?_, ?_, fun z => ?_, ?_⟩, ?_⟩
    · rw [mUek _ _ _ _ (by omega), mUek _ _ _ _ (by omega), mUek _ _ _ _ (by omega), mUs]; simp only; split <;> omega
    · simp only at z ⊢
      have e : w = 2 := by
        by_cases e : w = 2
        · exact e
        · rw [if_neg e] at z; omega
      have := h3 (Or.inl e)
      simp [mU, this]
    · rw [mUek _ _ _ _ (by omega), mUek _ _ _ _ (by omega), mUek _ _ _ _ (by omega), mUek _ _ _ _ (by omega), h4, if_neg (show ¬ w = 4 by omega)]
      simp only
      rw [if_neg (show ¬ (if w = 2 then (3 : Int) else 1) = 4 by split <;> omega)]
    · simp only at z; split at z <;> omega
    · exact h6.c (fun a b ha _ _ => by simp only [mU]; rw [if_neg (by omega), if_neg (by omega), if_neg (by omega), if_neg (by omega)])
    · unfold lenM
      simp only
      rw [if_pos (by split <;> omega)]
      split at hl <;> omega
  · have g2 := g2 q
    obtain ⟨e27, e28, e29⟩ := h2 q
    rw [if_pos q, if_pos hd, if_neg (by omega)]
    refine ⟨by simp [mU, hn], ⟨by simp [mU, h1], fun _ => ⟨?_, ?_, ?_⟩, fun z => ?_, ?_, fun z => ?_, ?_⟩, ?_⟩
    · rw [mUek _ _ _ _ (by omega), mUs, e27]; simp only; omega
    · rw [mUs, e28]; simp only; omega
    · simp [mU, e29]
    · have := h3 z; simp [mU, this]
    · rw [mUek _ _ _ _ (by omega), mUek _ _ _ _ (by omega)]; exact h4
    · exact h5 z
    · exact h6.c (fun a b ha _ _ => by simp only [mU]; rw [if_neg (by omega), if_neg (by omega)])
    · unfold lenM
      simp only
      omega
  · rcases q with q | ⟨q, q2⟩
    · rw [if_neg (show ¬ (w = 1 ∨ w = 3) by omega), if_neg (show ¬ ((48 ≤ code ∧ code ≤ 57) ∧ w ≠ 4) by omega), if_neg (show ¬ (code = 32 ∧ w ≠ 2) by omega)]
      exact ⟨by simp [mU], by simp [mU], by simp, by simp⟩
    · have g2 := g2 q
      obtain ⟨e27, e28, e29⟩ := h2 q
      rw [if_pos q, if_pos hd, if_pos (show d = 2 by omega)]
      exact ⟨by simp [mU], by simp [mU], by simp, by simp⟩
/-- what a number that ends well has laid -/
def laid (i i' : Nat → Int → Int) (s : gT) : Prop := (∀ (a : Nat) (b : Int), ¬ ((a = 201 ∨ a = 202 ∨ a = 203) ∧ b = s.2.2.2.2.2.length) → i' a b = i a b) ∧ i' 201 s.2.2.2.2.2.length = (if s.1 = 3 then s.2.2.2.2.1 else s.2.1) ∧ i' 202 s.2.2.2.2.2.length = s.2.1 ∧ i' 203 s.2.2.2.2.2.length = 1
def ewR (i i' : Nat → Int → Int) (hi z : Int) (s : gT) : Prop := (z = 1 ∧ ((¬ (s.1 = 1 ∨ s.1 = 3) ∧ i' = i) ∨ ((s.1 = 1 ∨ s.1 = 3) ∧ gStands hi s ∧ laid i i' s))) ∨ (z = 0 ∧ (s.1 = 1 ∨ s.1 = 3) ∧ ¬ gStands hi s ∧ i' = mU (mU i 189 24 2) 189 25 s.2.2.2.1)
theorem ew_fM {i i' : Nat → Int → Int} {hi z : Int} {s : gT} (h : ewR i i' hi z s) : fM i i' := by
  intro a b q1 q2 q3 q4
  rcases h with ⟨_, ⟨_, rfl⟩ | ⟨_, _, hl⟩⟩ | ⟨_, _, _, rfl⟩
  · rfl
  · exact hl.1 a b (by omega)
  · simp only [mU]; rw [if_neg (by omega), if_neg (by omega)]
theorem ot_res {i i1 i' : Nat → Int → Int} {s : gT} {sg hi code x n z : Int} (h : simM i s) (hg : okG hi s) (hl : lenM s n) (hn : i 189 24 = -9) (hd : ¬ (48 ≤ code ∧ code ≤ 57)) (he : ewR i i1 hi z s)
    (hc : (z = 0 ∧ i' = i1) ∨ (z = 1 ∧ ((sg ≠ 0 ∧ i 189 26 = 1 ∧ code = 45 ∧ i' = mU i1 189 26 2) ∨ (sg ≠ 0 ∧ (i 189 26 = 1 ∨ i 189 26 = 3) ∧ code = 33 ∧ i' = mU (mU i1 203 (i1 189 20) 0) 189 26 4) ∨ (code = 32 ∧ i 189 26 ≠ 2 ∧ i' = mU (mU i1 189 20 (i1 189 20 + (if i 189 26 = 0 then 0 else 1))) 189 26 0) ∨ (¬ (sg ≠ 0 ∧ i 189 26 = 1 ∧ code = 45) ∧ ¬ (sg ≠ 0 ∧ (i 189 26 = 1 ∨ i 189 26 = 3) ∧ code = 33) ∧ ¬ (code = 32 ∧ i 189 26 ≠ 2) ∧ i' = mU (mU i1 189 24 1) 189 25 x)))) : simMR i' (n + 1) (gStep sg hi code x s) := by
  obtain ⟨w, v, d, st, f, ws⟩ := s
  obtain ⟨h1, h2, h3, h4, h5, h6⟩ := h
  obtain ⟨g1, g2, g3, g4⟩ := hg
  simp only at h1 h2 h3 h4 h5 h6 g1 g2 g3 g4
  unfold lenM at hl
  simp only at hl
  rw [h1] at hc
  unfold ewR laid at he
  simp only at he
  unfold gStep gWhere
  simp only
  by_cases q0 : w = 1 ∨ w = 3
  · rw [if_neg (show ¬ w = 4 by omega)] at h4
    rw [if_pos (show w = 1 ∨ w = 2 ∨ w = 3 by omega)] at hl
    rw [if_pos q0, if_neg hd]
    rcases he with ⟨hz, ⟨hq, _⟩ | ⟨_, hS, hL1, hL2, hL3, hL4⟩⟩ | ⟨hz, _, hS, rfl⟩
    · exact absurd q0 hq
    · rw [if_neg (Classical.not_not.mpr hS)]
      have e20 : i1 189 20 = ws.length := by rw [hL1 189 20 (by omega)]; exact h4
      have e24 : i1 189 24 = -9 := by rw [hL1 189 24 (by omega)]; exact hn
      have hE1 : entM i1 ws := h6.c (fun a b _ _ hb => hL1 a b (by omega))
      rcases hc with ⟨hc, _⟩ | ⟨_, ⟨c1, c2, c3, rfl⟩ | ⟨c1, c2, c3, rfl⟩ | ⟨c1, c2, rfl⟩ | ⟨c1, c2, c3, rfl⟩⟩
      · omega
      · rw [if_neg (by omega), if_neg (by omega), if_pos ⟨c3, c1, c2⟩]
        refine ⟨by simp [mU, e24], ⟨by simp [mU], fun q => by simp only at q; omega, fun _ => ?_, ?_, fun q => by simp only at q; omega, ?_⟩, ?_⟩
        · simp only
          rw [if_neg (by omega)] at hL2
          exact ⟨by simp [mU, hL2], by simp [mU, hL4]⟩
        · rw [mUek _ _ _ _ (by omega)]; simp only; rw [if_neg (show ¬ (2 : Int) = 4 by omega)]; exact e20
        · exact hE1.c (fun a b ha _ _ => by rw [mUne _ _ _ _ _ (by omega)])
        · unfold lenM; simp; omega
      · rw [if_neg (by omega), if_pos ⟨c3, c1⟩]
        refine ⟨by simp [mU, e24], ⟨by simp [mU], fun q => by simp only at q; omega, fun q => by simp only at q; omega, ?_, fun _ => by simp [gClose], ?_⟩, ?_⟩
        · rw [mUek _ _ _ _ (by omega), mUne _ _ _ _ _ (by omega), e20]; simp [gClose]
        · rw [e20]
          refine entM.p (ws := ws) (hE1.c (fun a b ha _ hb => ?_)) ?_ ?_ ?_
          · rw [mUne _ _ _ _ _ (by omega)]; simp only [mU]; rw [if_neg (by omega)]
          · rw [mUne _ _ _ _ _ (by omega), mUne _ _ _ _ _ (by omega)]; exact hL2
          · rw [mUne _ _ _ _ _ (by omega), mUne _ _ _ _ _ (by omega)]; exact hL3
          · rw [mUne _ _ _ _ _ (by omega), mUs]
        · unfold lenM; simp [gClose]; omega
      · rw [if_pos c1]
        refine ⟨by simp [mU, e24], ⟨by simp [mU], fun q => by simp only at q; omega, fun q => by simp only at q; omega, ?_, fun q => by simp only at q; omega, ?_⟩, ?_⟩
        · rw [mUek _ _ _ _ (by omega), mUs, e20, if_neg (show ¬ w = 0 by omega)]; simp [gClose]
        · refine entM.p (ws := ws) (hE1.c (fun a b ha _ hb => ?_)) ?_ ?_ ?_
          · rw [mUne _ _ _ _ _ (by omega), mUne _ _ _ _ _ (by omega)]
          · rw [mUne _ _ _ _ _ (by omega), mUne _ _ _ _ _ (by omega)]; exact hL2
          · rw [mUne _ _ _ _ _ (by omega), mUne _ _ _ _ _ (by omega)]; exact hL3
          · rw [mUne _ _ _ _ _ (by omega), mUne _ _ _ _ _ (by omega)]; exact hL4
        · unfold lenM; simp [gClose]; omega
      · rw [if_neg (by omega), if_neg (by omega), if_neg (by omega)]
        exact ⟨by simp [mU], by simp [mU], by simp, by simp⟩
    · rw [if_pos hS]
      rcases hc with ⟨_, rfl⟩ | ⟨hc, _⟩
      · exact ⟨by simp [mU], by simp [mU], by simp, by simp⟩
      · omega
  · rw [if_neg q0, if_neg (by omega)]
    rcases he with ⟨hz, ⟨_, rfl⟩ | ⟨hq, _⟩⟩ | ⟨_, hq, _⟩
    · rcases hc with ⟨hc, _⟩ | ⟨_, ⟨c1, c2, c3, rfl⟩ | ⟨c1, c2, c3, rfl⟩ | ⟨c1, c2, rfl⟩ | ⟨c1, c2, c3, rfl⟩⟩
      · omega
      · omega
      · omega
      · rw [if_pos (show code = 32 ∧ w ≠ 2 from ⟨c1, c2⟩)]
        refine ⟨by simp [mU, hn], ⟨by simp [mU], fun q => by simp only at q; omega, fun q => by simp only at q; omega, ?_, fun q => by simp only at q; omega, ?_⟩, ?_⟩
        · rw [mUek _ _ _ _ (by omega), mUs, h4]
          simp only
          rw [if_neg (show ¬ (0 : Int) = 4 by omega)]
          by_cases q4 : w = 4
          · rw [if_pos q4, if_neg (show ¬ w = 0 by omega)]; omega
          · rw [if_neg q4, if_pos (show w = 0 by omega)]; omega
        · exact h6.c (fun a b ha _ _ => by rw [mUne _ _ _ _ _ (by omega), mUne _ _ _ _ _ (by omega)])
        · unfold lenM; simp; split at hl <;> omega
      · rw [if_neg c3]
        exact ⟨by simp [mU], by simp [mU], by simp, by simp⟩
    · exact absurd hq q0
    · exact absurd hq q0
