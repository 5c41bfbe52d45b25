/-! the other book holds a rehearsal -/
def hsP (W : Int → Int) (s p : Int) : Int := sumZ (fun q => if plS W q = s then 1 else 0) p
theorem hsP_s (W : Int → Int) (s : Int) {p : Int} (h : 0 ≤ p) : hsP W s (p + 1) = hsP W s p + if plS W p = s then 1 else 0 := sumZ_s _ h
theorem hsP_nn (W : Int → Int) (s : Int) {p : Int} (h : 0 ≤ p) : 0 ≤ hsP W s p := by
  have := (sumZ_bd (f := fun q => if plS W q = s then 1 else 0) (x := p) (a := 0) (b := 1) h (fun k _ _ => by split <;> omega)).1
  unfold hsP
  omega
def hoP (W : Int → Int) (p k : Int) : Int :=
  if 5 ≤ k ∧ k < 5 + p then W k + (if (plT W).2 (k - 5) < W 1 then 1 else 0)
  else if 492 + 4 * W 4 ≤ k ∧ k < 492 + 4 * W 4 + p then plS W (k - 492 - 4 * W 4)
  else if (12 ≤ k ∧ k < 12 + 48 * W 11) ∧ (k - 12) % 48 = 4 then W k + hsP W ((k - 12) / 48) p
  else if ((12 ≤ k ∧ k < 12 + 48 * W 11) ∧ (k - 12) % 48 = 5) ∧ 0 < hsP W ((k - 12) / 48) p then W 4
  else W k
theorem hoP_0 (W : Int → Int) (k : Int) : hoP W 0 k = W k := by
  unfold hoP
  have h0 : ∀ s, hsP W s 0 = 0 := fun s => rfl
  rw [if_neg (by omega), if_neg (by omega), h0]
  split
  · omega
  · rw [if_neg (by omega)]
theorem hq_put {W : Int → Int} {ii i0 i1 i2 i' : Nat → Int → Int} {p s w : Int} (hp : 0 ≤ p ∧ p < 4) (hn : 0 ≤ W 11 ∧ W 11 ≤ 10) (h4 : 0 ≤ W 4 ∧ W 4 < 40) (hA : ∀ a b, ii a b = if a = 190 then hoP W p b else i0 a b) (hw : w = if (plT W).2 p < W 1 then 1 else 0)
    (g1 : i1 = mU ii 190 (5 + p) (W (5 + p) + w)) (g2 : i2 = mU i1 190 (492 + 4 * W 4 + p) s) (hs : s = plS W p)
    (hi : (s = -9 ∧ i' = i2) ∨ (s ≠ -9 ∧ i' = mU (mU i2 190 (12 + 48 * s + 4) (sV (i2 190) s 4 + 1)) 190 (12 + 48 * s + 5) (W 4))) : ∀ a b, i' a b = if a = 190 then hoP W (p + 1) b else i0 a b := by
  have hb := plS_bd W p hn.1
  rw [← hs] at hb
  have e2 : ∀ a b, i2 a b = if a = 190 then (if b = 492 + 4 * W 4 + p then s else if b = 5 + p then W (5 + p) + w else hoP W p b) else i0 a b := by
    intro a b
    rw [g2, g1]
    simp only [mU]
    by_cases ha : a = 190
    · simp only [ha, true_and, if_true]
      by_cases q : b = 492 + 4 * W 4 + p
      · rw [if_pos q, if_pos q]
      · rw [if_neg q, if_neg q]
        by_cases q2 : b = 5 + p
        · rw [if_pos q2, if_pos q2]
        · rw [if_neg q2, if_neg q2, hA, if_pos rfl]
    · rw [if_neg (fun q => ha q.1), if_neg (fun q => ha q.1), if_neg ha, hA, if_neg ha]
  have e3 : ∀ a b, i' a b = if a = 190 then (if s ≠ -9 ∧ b = 12 + 48 * s + 5 then W 4 else if s ≠ -9 ∧ b = 12 + 48 * s + 4 then hoP W p b + 1 else if b = 492 + 4 * W 4 + p then s else if b = 5 + p then W (5 + p) + w else hoP W p b) else i0 a b := by
    intro a b
    rcases hi with ⟨q, rfl⟩ | ⟨q, rfl⟩
    · rw [e2]
      by_cases ha : a = 190
      · rw [if_pos ha, if_pos ha, if_neg (show ¬ (s ≠ -9 ∧ b = 12 + 48 * s + 5) from fun z => z.1 q), if_neg (show ¬ (s ≠ -9 ∧ b = 12 + 48 * s + 4) from fun z => z.1 q)]
      · rw [if_neg ha, if_neg ha]
    · simp only [mU]
      by_cases ha : a = 190
      · rw [if_pos ha]
        by_cases q5 : b = 12 + 48 * s + 5
        · rw [if_pos ⟨ha, q5⟩, if_pos ⟨q, q5⟩]
        · rw [if_neg (show ¬ (a = 190 ∧ b = 12 + 48 * s + 5) from fun z => q5 z.2), if_neg (show ¬ (s ≠ -9 ∧ b = 12 + 48 * s + 5) from fun z => q5 z.2)]
          by_cases q4 : b = 12 + 48 * s + 4
          · rw [if_pos (show a = 190 ∧ b = 12 + 48 * s + 4 from ⟨ha, q4⟩), if_pos (show s ≠ -9 ∧ b = 12 + 48 * s + 4 from ⟨q, q4⟩)]
            unfold sV
            rw [e2, if_pos rfl, if_neg (by omega), if_neg (by omega), q4]
          · rw [if_neg (show ¬ (a = 190 ∧ b = 12 + 48 * s + 4) from fun z => q4 z.2), if_neg (show ¬ (s ≠ -9 ∧ b = 12 + 48 * s + 4) from fun z => q4 z.2), e2, if_pos ha]
      · rw [if_neg (fun z => ha z.1), if_neg (fun z => ha z.1), e2, if_neg ha, if_neg ha]
  intro a b
  rw [e3]
  by_cases ha : a = 190
  · rw [if_pos ha, if_pos ha]
    unfold hoP
    rw [hsP_s W _ hp.1, ← hs]
    have hnn := hsP_nn W ((b - 12) / 48) hp.1
    by_cases r1 : 5 ≤ b ∧ b < 5 + (p + 1)
    · rw [if_neg (by omega), if_neg (by omega), if_neg (by omega)]
      by_cases q2 : b = 5 + p
      · rw [if_pos q2, if_pos r1, hw, q2, show 5 + p - 5 = p by omega]
      · rw [if_neg q2, if_pos (by omega), if_pos r1]
    · rw [if_neg (show ¬ (5 ≤ b ∧ b < 5 + (p + 1)) from r1), if_neg (show ¬ (5 ≤ b ∧ b < 5 + p) by omega)]
      by_cases r2 : 492 + 4 * W 4 ≤ b ∧ b < 492 + 4 * W 4 + (p + 1)
      · rw [if_neg (show ¬ (s ≠ -9 ∧ b = 12 + 48 * s + 5) by omega), if_neg (show ¬ (s ≠ -9 ∧ b = 12 + 48 * s + 4) by omega), if_pos r2]
        by_cases q2 : b = 492 + 4 * W 4 + p
        · rw [if_pos q2, hs]; exact congrS (by omega)
        · rw [if_neg q2, if_neg (by omega), if_pos (by omega)]
      · rw [if_neg r2, if_neg (show ¬ (492 + 4 * W 4 ≤ b ∧ b < 492 + 4 * W 4 + p) by omega), if_neg (show ¬ (b = 492 + 4 * W 4 + p) by omega), if_neg (show ¬ (b = 5 + p) by omega)]
        by_cases r3 : (12 ≤ b ∧ b < 12 + 48 * W 11) ∧ (b - 12) % 48 = 4
        · rw [if_pos r3, if_neg (show ¬ (s ≠ -9 ∧ b = 12 + 48 * s + 5) by omega), if_pos r3]
          by_cases q : s = (b - 12) / 48
          · rw [if_pos ⟨by omega, by omega⟩, if_pos q]; omega
          · rw [if_neg (show ¬ (s ≠ -9 ∧ b = 12 + 48 * s + 4) by omega), if_neg q]; omega
        · rw [if_neg r3, if_neg r3, if_neg (show ¬ (s ≠ -9 ∧ b = 12 + 48 * s + 4) by omega)]
          by_cases r4 : (12 ≤ b ∧ b < 12 + 48 * W 11) ∧ (b - 12) % 48 = 5
          · by_cases q : s = (b - 12) / 48
            · rw [if_pos (show s ≠ -9 ∧ b = 12 + 48 * s + 5 by omega), if_pos q, if_pos ⟨r4, by omega⟩]
            · rw [if_neg (show ¬ (s ≠ -9 ∧ b = 12 + 48 * s + 5) by omega), if_neg q, Int.add_zero]
          · rw [if_neg (show ¬ (s ≠ -9 ∧ b = 12 + 48 * s + 5) by omega), if_neg (fun z => r4 z.1), if_neg (fun z => r4 z.1)]
  · rw [if_neg ha, if_neg ha]
def siP (W : Int → Int) (x : Int) : Int := sumZ (fun k => if (plT W).1 k = -9 then 0 else 1) x
theorem siP_s (W : Int → Int) {x : Int} (h : 0 ≤ x) : siP W (x + 1) = siP W x + if (plT W).1 x = -9 then 0 else 1 := sumZ_s _ h
def hoQ (W : Int → Int) (x k : Int) : Int :=
  if k = 10 then W 10 + siP W x
  else if (12 ≤ k ∧ k < 12 + 48 * x) ∧ (k - 12) % 48 = 6 then W k + (if (plT W).1 ((k - 12) / 48) = -9 then 0 else 1)
  else if (12 ≤ k ∧ k < 12 + 48 * x) ∧ (k - 12) % 48 = 3 then 1
  else hoP W 4 k
theorem hoP_o {W : Int → Int} {k : Int} (h : k = 10 ∨ k = 9 ∨ k = 4 ∨ k = 11 ∨ ((12 ≤ k ∧ k < 492) ∧ ((k - 12) % 48 = 6 ∨ (k - 12) % 48 = 3))) (h4 : 0 ≤ W 4) : hoP W 4 k = W k := by
  unfold hoP
  rw [if_neg (by omega), if_neg (by omega), if_neg (by omega), if_neg (by omega)]
theorem hq2_put {W : Int → Int} {jj i0 i2 i3 : Nat → Int → Int} {x s : Int} (hx : 0 ≤ x ∧ x < 10) (h4 : 0 ≤ W 4 ∧ W 4 < 40) (hA : ∀ a b, jj a b = if a = 190 then hoQ W x b else i0 a b) (hs : s = (plT W).1 x)
    (hi : (s = -9 ∧ i2 = jj) ∨ (s ≠ -9 ∧ i2 = mU (mU jj 190 (12 + 48 * x + 6) (sV (jj 190) x 6 + 1)) 190 10 (mU jj 190 (12 + 48 * x + 6) (sV (jj 190) x 6 + 1) 190 10 + 1))) (g3 : i3 = mU i2 190 (12 + 48 * x + 3) 1) : ∀ a b, i3 a b = if a = 190 then hoQ W (x + 1) b else i0 a b := by
  have e6 : sV (jj 190) x 6 = W (12 + 48 * x + 6) := by
    unfold sV
    rw [hA, if_pos rfl]
    unfold hoQ
    rw [if_neg (by omega), if_neg (by omega), if_neg (by omega)]
    exact hoP_o (by omega) h4.1
  have e10 : mU jj 190 (12 + 48 * x + 6) (sV (jj 190) x 6 + 1) 190 10 = W 10 + siP W x := by
    simp only [mU, true_and]
    rw [if_neg (by omega), hA, if_pos rfl]
    unfold hoQ
    rw [if_pos rfl]
  rw [e6] at hi e10
  rw [e10] at hi
  intro a b
  have key : ∀ b, i2 190 b = if s ≠ -9 ∧ b = 10 then W 10 + siP W x + 1 else if s ≠ -9 ∧ b = 12 + 48 * x + 6 then W b + 1 else hoQ W x b := by
    intro b
    rcases hi with ⟨q, rfl⟩ | ⟨q, rfl⟩
    · rw [if_neg (show ¬ (s ≠ -9 ∧ b = 10) from fun z => z.1 q), if_neg (show ¬ (s ≠ -9 ∧ b = 12 + 48 * x + 6) from fun z => z.1 q), hA, if_pos rfl]
    · simp only [mU, true_and]
      by_cases q1 : b = 10
      · rw [if_pos q1, if_pos ⟨q, q1⟩]
      · rw [if_neg q1, if_neg (show ¬ (s ≠ -9 ∧ b = 10) from fun z => q1 z.2)]
        by_cases q2 : b = 12 + 48 * x + 6
        · rw [if_pos q2, if_pos (show s ≠ -9 ∧ b = 12 + 48 * x + 6 from ⟨q, q2⟩), q2]
        · rw [if_neg q2, if_neg (show ¬ (s ≠ -9 ∧ b = 12 + 48 * x + 6) from fun z => q2 z.2), hA, if_pos rfl]
  have keyo : ∀ a b, a ≠ 190 → i2 a b = i0 a b := by
    intro a b ha
    rcases hi with ⟨q, rfl⟩ | ⟨q, rfl⟩
    · rw [hA, if_neg ha]
    · rw [mUne _ _ _ _ _ ha, mUne _ _ _ _ _ ha, hA, if_neg ha]
  by_cases ha : a = 190
  · subst ha
    rw [if_pos rfl, g3]
    simp only [mU, true_and]
    by_cases q3 : b = 12 + 48 * x + 3
    · rw [if_pos q3]
      unfold hoQ
      rw [if_neg (by omega), if_neg (by omega), if_pos (by omega)]
    · rw [if_neg q3, key]
      unfold hoQ
      rw [siP_s W hx.1, ← hs]
      by_cases q1 : b = 10
      · rw [if_pos q1]
        by_cases q : s = -9
        · rw [if_neg (show ¬ (s ≠ -9 ∧ b = 10) from fun z => z.1 q), if_neg (show ¬ (s ≠ -9 ∧ b = 12 + 48 * x + 6) from fun z => z.1 q), if_pos q1, if_pos q]; omega
        · rw [if_pos ⟨q, q1⟩, if_neg q]; omega
      · rw [if_neg (show ¬ (s ≠ -9 ∧ b = 10) from fun z => q1 z.2), if_neg q1, if_neg q1]
        by_cases q6 : b = 12 + 48 * x + 6
        · rw [if_pos (show (12 ≤ b ∧ b < 12 + 48 * (x + 1)) ∧ (b - 12) % 48 = 6 by omega), show (b - 12) / 48 = x by omega, ← hs]
          by_cases q : s = -9
          · rw [if_neg (show ¬ (s ≠ -9 ∧ b = 12 + 48 * x + 6) from fun z => z.1 q), if_pos q, if_neg (show ¬ ((12 ≤ b ∧ b < 12 + 48 * x) ∧ (b - 12) % 48 = 6) by omega), if_neg (show ¬ ((12 ≤ b ∧ b < 12 + 48 * x) ∧ (b - 12) % 48 = 3) by omega), hoP_o (by omega) h4.1]; omega
          · rw [if_pos ⟨q, q6⟩, if_neg q]
        · rw [if_neg (show ¬ (s ≠ -9 ∧ b = 12 + 48 * x + 6) from fun z => q6 z.2)]
          by_cases r6 : (12 ≤ b ∧ b < 12 + 48 * x) ∧ (b - 12) % 48 = 6
          · rw [if_pos r6, if_pos (show (12 ≤ b ∧ b < 12 + 48 * (x + 1)) ∧ (b - 12) % 48 = 6 by omega)]
          · rw [if_neg r6, if_neg (show ¬ ((12 ≤ b ∧ b < 12 + 48 * (x + 1)) ∧ (b - 12) % 48 = 6) by omega)]
            by_cases r3 : (12 ≤ b ∧ b < 12 + 48 * x) ∧ (b - 12) % 48 = 3
            · rw [if_pos r3, if_pos (by omega)]
            · rw [if_neg r3, if_neg (show ¬ ((12 ≤ b ∧ b < 12 + 48 * (x + 1)) ∧ (b - 12) % 48 = 3) by omega)]
  · rw [if_neg ha, g3, mUne _ _ _ _ _ ha]
    exact keyo a b ha
theorem hq_end {W : Int → Int} {jj i0 i' : Nat → Int → Int} {g : Int} (hn : 0 ≤ W 11 ∧ W 11 ≤ 10) (h4 : 0 ≤ W 4 ∧ W 4 < 40) (hA : ∀ a b, jj a b = if a = 190 then hoQ W (W 11) b else i0 a b) (hg : g = sgW W) (g2 : i' = mU (mU jj 190 9 (W 9 + g)) 190 4 (W 4 + 1)) (k : Int) : i' 190 k = hoW W k := by
  rw [g2]
  simp only [mU, true_and]
  unfold hoW
  by_cases q4 : k = 4
  · rw [if_pos q4, if_pos q4]
  · rw [if_neg q4, if_neg q4]
    by_cases q9 : k = 9
    · rw [if_pos q9, if_pos q9, hg]
    · rw [if_neg q9, if_neg q9, hA, if_pos rfl]
      unfold hoQ
      by_cases q10 : k = 10
      · rw [if_pos q10, if_pos q10]; rfl
      · rw [if_neg q10, if_neg q10]
        by_cases r1 : 5 ≤ k ∧ k < 9
        · rw [if_neg (by omega), if_neg (by omega), if_pos r1]
          unfold hoP
          rw [if_pos (by omega)]
        · rw [if_neg r1]
          by_cases r2 : 492 + 4 * W 4 ≤ k ∧ k < 496 + 4 * W 4
          · rw [if_neg (by omega), if_neg (by omega), if_pos r2]
            unfold hoP
            rw [if_neg (by omega), if_pos (by omega)]
          · rw [if_neg r2]
            by_cases rs : 12 ≤ k ∧ k < 12 + 48 * W 11
            · rw [if_pos rs]
              by_cases s4 : (k - 12) % 48 = 4
              · rw [if_pos s4, if_neg (by omega), if_neg (by omega)]
                unfold hoP
                rw [if_neg (by omega), if_neg (by omega), if_pos ⟨rs, s4⟩]; rfl
              · rw [if_neg s4]
                by_cases s5 : (k - 12) % 48 = 5
                · rw [if_pos s5, if_neg (by omega), if_neg (by omega)]
                  unfold hoP
                  rw [if_neg (by omega), if_neg (by omega), if_neg (by omega)]
                  by_cases hh : 0 < hsW W ((k - 12) / 48)
                  · rw [if_pos hh, if_pos ⟨⟨rs, s5⟩, hh⟩]
                  · rw [if_neg hh, if_neg (fun z => hh z.2)]
                · rw [if_neg s5]
                  by_cases s6 : (k - 12) % 48 = 6
                  · rw [if_pos s6, if_pos ⟨rs, s6⟩]
                  · rw [if_neg s6, if_neg (fun z => s6 z.2)]
                    by_cases s3 : (k - 12) % 48 = 3
                    · rw [if_pos s3, if_pos ⟨rs, s3⟩]
                    · rw [if_neg s3, if_neg (fun z => s3 z.2)]
                      unfold hoP
                      rw [if_neg (by omega), if_neg (by omega), if_neg (by omega), if_neg (by omega)]
            · rw [if_neg rs, if_neg (fun z => rs z.1), if_neg (fun z => rs z.1)]
              unfold hoP
              rw [if_neg (by omega), if_neg (by omega), if_neg (fun z => rs z.1), if_neg (fun z => rs z.1.1)]
theorem hold_w {A B T C w : Int} (h1 : A = T) (h2 : B = C) (h : (B ≤ A ∧ w = 0) ∨ (A < B ∧ w = 1)) : w = if T < C then 1 else 0 := by
  subst h1 h2
  split <;> omega
set_option maxRecDepth 20000 in
set_option maxHeartbeats 2000000 in
theorem r_b_hold {i : Nat → Int → Int} {l : Nat → Int → BitVec 64} (hB : okB (i 190) (i 189 2) (AP i) (AM i) (AK i) (i 193) (i 189 6)) (hF : 0 ≤ i 189 4 ∧ i 189 4 ≤ 3)  : mCtr m_X9_hold 9 0 0 [vR (some 189)] (st i l) (qR i l (spHold (i 190) (i 189 2) (AP i) (AM i) (AK i) (i 193) (i 189 6) (i 189 7) (i 189 8))) := by
  refine mCtr_of pl_X9 dc_X9_hold (Nat.le_of_ble_eq_true rfl) rfl ?_
  show mX m_X9_hold 9 _ 0 0 0 [some (vR (some 189)), none, none] [] (st i l)
  have hW := hB.1
  have hN := hW.n
  have hPN := hB.2.1
  have hTN := hB.2.2.2.2.1
  refine x_aload_n 0 rfl rfl ?_
  refine x_getR 1 (z := 190) rfl fl_X9_7 (n_lt rfl) k_189 rfl r_189_0 ?_
  refine x_bipush 2 rfl (by decide) ?_
  refine x_iald 3 (z := i 190 11) rfl (n_lt rfl) k_190 (by omega) rfl ?_
  refine x_if_ne 4 (tgt := 13) rfl (by decide) (by omega) (fun h1 => ?_) (fun h1 => ?_)
  · refine x_aload_n 7 rfl rfl ?_
    refine x_getR 8 (z := 190) rfl fl_X9_7 (n_lt rfl) k_189 rfl r_189_0 ?_
    refine x_iconst 9 rfl ?_
    refine x_iald 10 (z := i 190 4) rfl (n_lt rfl) k_190 (by omega) rfl ?_
    refine x_bipush 11 rfl (by decide) ?_
    refine x_icmp_ne 12 (tgt := 27) rfl (by decide) (by omega) (fun h2 => ?_) (fun h2 => ?_)
    · refine x_aload_n 15 rfl rfl ?_
      refine x_callV 16 m_X9_remember (r_remember (by omega)) rfl ok_X9_remember (n_lt rfl) k_189 rfl rfl ml_X9_107 im_X9_remember se_X9_remember rfl (by decide) rfl (Nat.le_of_ble_eq_true rfl) rfl rfl (fun v g q3 => ?_)
      obtain ⟨rfl, i4, li4, rfl, hi4⟩ := q3
      obtain ⟨hEi4, hi4⟩ := hi4
      have hEi4 := hEi4.symm
      subst hEi4
      show mX m_X9_hold 9 _ 0 0 _ _ [] _
      have hm := hi4
      have w190 := rmI_w i hm
      have hW1 : okW (i4 190) := by rw [w190]; exact hW
      have n11 : i4 190 11 = i 190 11 := by rw [w190]
      obtain ⟨i1, i1d⟩ : ∃ f, f = i4 := ⟨_, rfl⟩
      rw [← i1d] at hm w190
      refine x_aload_n 17 rfl rfl ?_
      refine x_callV 18 m_X9_findSolos (r_findSolos hW1) rfl ok_X9_findSolos (n_lt rfl) k_189 rfl rfl ml_X9_136 im_X9_findSolos se_X9_findSolos rfl (by decide) rfl (Nat.le_of_ble_eq_true rfl) rfl rfl (fun v g q5 => ?_)
      obtain ⟨rfl, i6, li6, rfl, hi6⟩ := q5
      obtain ⟨hEi6, hi6⟩ := hi6
      have hEi6 := hEi6.symm
      subst hEi6
      show mX m_X9_hold 9 _ 0 0 _ _ [] _
      obtain ⟨hf1, hs1, hso⟩ := hi6
      have f190 : i6 190 = i 190 := by rw [← w190, i1d]; funext b; exact hf1 190 b (by decide) (by decide) (by decide) (by omega)
      obtain ⟨i2, i2d⟩ : ∃ f, f = i6 := ⟨_, rfl⟩
      rw [← i1d, w190] at hs1 hso
      rw [← i1d] at hf1
      have hk2 : kA i1 i2 := fun a b q => by rw [i2d]; exact hf1 a b (by omega) (by omega) (by omega) (by omega)
      have hbT : ∀ q, -1500 ≤ (plT (i 190)).2 q ∧ (plT (i 190)).2 q ≤ 1500 := siAZ_bd _ _ (by omega) hN.1 (wD_g hW) (fun q => by have := gPres_bd hW q; show -100 ≤ (if 0 ≤ q ∧ q < 4 then gPres (i 190) q else 0) ∧ (if 0 ≤ q ∧ q < 4 then gPres (i 190) q else 0) ≤ 100; split <;> omega)
      refine x_iconst 19 rfl ?_
      refine x_istore_n 20 (L' := [some (vR (some 189)), some (vI (0)), none]) rfl (by decide) rfl rfl ?_
      refine x_iconst 21 rfl ?_
      refine x_istore_n 22 (L' := [some (vR (some 189)), some (vI (0)), some (vI (0))]) rfl (by decide) rfl rfl ?_
      have loopL7 : ∀ (nz : Nat) (ii : Nat → Int → Int) (p : Int) (g : Int), (0 ≤ p ∧ p ≤ 4) → (g = sumZ (fun p => if plS (i 190) p = -9 then 0 else 1) p) → (∀ a b, ii a b = if a = 190 then hoP (i 190) p b else i2 a b) → (4 - p) < (nz : Int) → mX m_X9_hold 9 (qR i l (spHold (i 190) (i 189 2) (AP i) (AM i) (AK i) (i 193) (i 189 6) (i 189 7) (i 189 8))) 0 0 39 [some (vR (some 189)), some (vI (g)), some (vI (p))] [] (st ii l) := by
        intro nz
        induction nz with
        | zero => intro ii p g hp hg hA hz; exact absurd hz (by omega)
        | succ nz ihL7 =>
          intro ii p g hp hg hA hzL7
          refine x_iload_n 23 rfl rfl ?_
          refine x_iconst 24 rfl ?_
          refine x_icmp_ge 25 (tgt := 161) rfl (by decide) (by omega) (fun h8 => ?_) (fun h8 => ?_)
          · have hA4 := hA
            rw [show p = 4 by omega] at hA4 hg
            have i11 : ii 190 11 = i 190 11 := by rw [hA4, if_pos rfl]; exact hoP_o (by omega) (by omega)
            refine x_iconst 100 rfl ?_
            refine x_istore_n 101 (L' := [some (vR (some 189)), some (vI (g)), some (vI (0))]) rfl (by decide) rfl rfl ?_
            have loopL9 : ∀ (nz : Nat) (jj : Nat → Int → Int) (x : Int), (0 ≤ x ∧ x ≤ i 190 11) → (∀ a b, jj a b = if a = 190 then hoQ (i 190) x b else i2 a b) → (i 190 11 - x) < (nz : Int) → mX m_X9_hold 9 (qR i l (spHold (i 190) (i 189 2) (AP i) (AM i) (AK i) (i 193) (i 189 6) (i 189 7) (i 189 8))) 0 0 163 [some (vR (some 189)), some (vI (g)), some (vI (x))] [] (st jj l) := by
              intro nz
              induction nz with
              | zero => intro jj x hx hB hz; exact absurd hz (by omega)
              | succ nz ihL9 =>
                intro jj x hx hB hzL9
                have j11 : jj 190 11 = i 190 11 := by rw [hB, if_pos rfl]; unfold hoQ; rw [if_neg (by omega), if_neg (by omega), if_neg (by omega)]; exact hoP_o (by omega) (by omega)
                refine x_iload_n 102 rfl rfl ?_
                refine x_aload_n 103 rfl rfl ?_
                refine x_getR 104 (z := 190) rfl fl_X9_7 (n_lt rfl) k_189 rfl r_189_0 ?_
                refine x_bipush 105 rfl (by decide) ?_
                refine x_iald 106 (z := jj 190 11) rfl (n_lt rfl) k_190 (by omega) rfl ?_
                refine x_icmp_ge 107 (tgt := 225) rfl (by decide) (by omega) (fun h10 => ?_) (fun h10 => ?_)
                · rw [show x = i 190 11 by omega] at hB
                  have j9 : jj 190 9 = i 190 9 := by rw [hB, if_pos rfl]; unfold hoQ; rw [if_neg (by omega), if_neg (by omega), if_neg (by omega)]; exact hoP_o (by omega) (by omega)
                  have j4 : jj 190 4 = i 190 4 := by rw [hB, if_pos rfl]; unfold hoQ; rw [if_neg (by omega), if_neg (by omega), if_neg (by omega)]; exact hoP_o (by omega) (by omega)
                  refine x_aload_n 139 rfl rfl ?_
                  refine x_getR 140 (z := 190) rfl fl_X9_7 (n_lt rfl) k_189 rfl r_189_0 ?_
                  refine x_bipush 141 rfl (by decide) ?_
                  refine x_dup2 142 rfl rfl rfl ?_
                  refine x_iald 143 (z := jj 190 9) rfl (n_lt rfl) k_190 (by omega) rfl ?_
                  refine x_iload_n 144 rfl rfl ?_
                  refine x_iadd 145 (r := (jj 190 9) + g) rfl rfl ?_
                  obtain ⟨i11, hi11⟩ : ∃ f, f = mU jj 190 (9) ((jj 190 9) + g) := ⟨_, rfl⟩
                  refine x_iast 146 rfl (n_lt rfl) k_190 (by omega) (g' := st i11 l) (by subst hi11; rfl) ?_
                  have k9 := hi11
                  have k4 : i11 190 4 = i 190 4 := by rw [k9]; simp only [mU, true_and]; rw [if_neg (by omega)]; exact j4
                  rw [j9] at k9
                  refine x_aload_n 147 rfl rfl ?_
                  refine x_getR 148 (z := 190) rfl fl_X9_7 (n_lt rfl) k_189 rfl r_189_0 ?_
                  refine x_iconst 149 rfl ?_
                  refine x_dup2 150 rfl rfl rfl ?_
                  refine x_iald 151 (z := i11 190 4) rfl (n_lt rfl) k_190 (by omega) rfl ?_
                  refine x_iconst 152 rfl ?_
                  refine x_iadd 153 (r := (i11 190 4) + 1) rfl rfl ?_
                  obtain ⟨i12, hi12⟩ : ∃ f, f = mU i11 190 (4) ((i11 190 4) + 1) := ⟨_, rfl⟩
                  refine x_iast 154 rfl (n_lt rfl) k_190 (by omega) (g' := st i12 l) (by subst hi12; rfl) ?_
                  have kf := hi12
                  rw [k4, k9] at kf
                  refine x_iload_n 155 rfl rfl ?_
                  refine x_ret 156 (some (vI (g))) rfl ⟨rfl, Or.inl rfl⟩ ⟨_, i12, l, rfl, rfl, ?_⟩
                  have hk_ : kA i1 i12 := hk2.tr (fun a b q => by rw [kf, mUne _ _ _ _ _ (by omega), mUne _ _ _ _ _ (by omega), hB, if_neg (by omega)])
                  exact rs_rem (z' := sgW (i 190)) (W' := hoW (i 190)) hg (by omega) hm hk_ (fun k _ _ => hq_end hN.1 (by omega) hB hg kf k) hF (by unfold spHold; rw [if_neg (by omega), if_neg (by omega)])
                · have j198 : jj 198 x = (plT (i 190)).1 x := by rw [hB, if_neg (by omega), i2d, ← hs1]; show _ = (if 0 ≤ x ∧ x < 10 then _ else _); rw [if_pos (by omega)]
                  have hsbx := plT_sb (i 190) x
                  refine x_aload_n 108 rfl rfl ?_
                  refine x_getR 109 (z := 198) rfl fl_X9_41 (n_lt rfl) k_189 rfl r_189_17 ?_
                  refine x_iload_n 110 rfl rfl ?_
                  refine x_iald 111 (z := jj 198 x) rfl (n_lt rfl) k_198 (by omega) rfl ?_
                  refine x_bipush 112 rfl (by decide) ?_
                  refine x_icmp_eq 113 (tgt := 212) rfl (by decide) (by omega) (fun h13 => ?_) (fun h13 => ?_)
                  · refine x_aload_n 132 rfl rfl ?_
                    refine x_iload_n 133 rfl rfl ?_
                    refine x_iconst 134 rfl ?_
                    refine x_iconst 135 rfl ?_
                    refine x_callV 136 m_X9_put (r_put (by omega) (by omega)) rfl ok_X9_put (n_lt rfl) k_189 rfl rfl ml_X9_113 im_X9_put se_X9_put rfl (by decide) rfl (Nat.le_of_ble_eq_true rfl) rfl rfl (fun v g q14 => ?_)
                    obtain ⟨rfl, i15, li15, rfl, hi15⟩ := q14
                    obtain ⟨hEi15, hi15⟩ := hi15
                    have hEi15 := hEi15.symm
                    subst hEi15
                    show mX m_X9_hold 9 _ 0 0 _ _ [] _
                    have hj3 := hi15
                    refine x_iinc 137 (L' := [some (vR (some 189)), some (vI (g)), some (vI (x + 1))]) rfl (by decide) rfl rfl rfl rfl ?_
                    refine x_goto 138 (tgt := 163) rfl (by decide) ?_
                    exact ihL9 i15 (x + 1) (by omega) (hq2_put (by omega) (by omega) hB rfl (by first | exact Or.inl ⟨by omega, rfl⟩ | exact Or.inr ⟨by omega, hj2⟩) hj3) (by omega)
                  · refine x_aload_n 114 rfl rfl ?_
                    refine x_iload_n 115 rfl rfl ?_
                    refine x_bipush 116 rfl (by decide) ?_
                    refine x_aload_n 117 rfl rfl ?_
                    refine x_iload_n 118 rfl rfl ?_
                    refine x_bipush 119 rfl (by decide) ?_
                    refine x_callV 120 m_X9_of (r_of (by omega) (by omega)) rfl ok_X9_of (n_lt rfl) k_189 rfl rfl ml_X9_72 im_X9_of se_X9_of rfl (by decide) rfl (Nat.le_of_ble_eq_true rfl) rfl rfl (fun v g q16 => ?_)
                    obtain ⟨rfl, rfl⟩ := q16
                    show mX m_X9_hold 9 _ 0 0 _ _ [vI (sV (jj 190) x 6), vI (6), vI (x), vR (some 189)] _
                    refine x_iconst 121 rfl ?_
                    refine x_iadd 122 (r := (sV (jj 190) x 6) + 1) rfl rfl ?_
                    refine x_callV 123 m_X9_put (r_put (by omega) (by omega)) rfl ok_X9_put (n_lt rfl) k_189 rfl rfl ml_X9_113 im_X9_put se_X9_put rfl (by decide) rfl (Nat.le_of_ble_eq_true rfl) rfl rfl (fun v g q17 => ?_)
                    obtain ⟨rfl, i18, li18, rfl, hi18⟩ := q17
                    obtain ⟨hEi18, hi18⟩ := hi18
                    have hEi18 := hEi18.symm
                    subst hEi18
                    show mX m_X9_hold 9 _ 0 0 _ _ [] _
                    have hj1 := hi18
                    refine x_aload_n 124 rfl rfl ?_
                    refine x_getR 125 (z := 190) rfl fl_X9_7 (n_lt rfl) k_189 rfl r_189_0 ?_
                    refine x_bipush 126 rfl (by decide) ?_
                    refine x_dup2 127 rfl rfl rfl ?_
                    refine x_iald 128 (z := i18 190 10) rfl (n_lt rfl) k_190 (by omega) rfl ?_
                    refine x_iconst 129 rfl ?_
                    refine x_iadd 130 (r := (i18 190 10) + 1) rfl rfl ?_
                    obtain ⟨i19, hi19⟩ : ∃ f, f = mU i18 190 (10) ((i18 190 10) + 1) := ⟨_, rfl⟩
                    refine x_iast 131 rfl (n_lt rfl) k_190 (by omega) (g' := st i19 l) (by subst hi19; rfl) ?_
                    have hj2 := hi19
                    rw [hj1] at hj2
                    refine x_aload_n 132 rfl rfl ?_
                    refine x_iload_n 133 rfl rfl ?_
                    refine x_iconst 134 rfl ?_
                    refine x_iconst 135 rfl ?_
                    refine x_callV 136 m_X9_put (r_put (by omega) (by omega)) rfl ok_X9_put (n_lt rfl) k_189 rfl rfl ml_X9_113 im_X9_put se_X9_put rfl (by decide) rfl (Nat.le_of_ble_eq_true rfl) rfl rfl (fun v g q20 => ?_)
                    obtain ⟨rfl, i21, li21, rfl, hi21⟩ := q20
                    obtain ⟨hEi21, hi21⟩ := hi21
                    have hEi21 := hEi21.symm
                    subst hEi21
                    show mX m_X9_hold 9 _ 0 0 _ _ [] _
                    have hj3 := hi21
                    refine x_iinc 137 (L' := [some (vR (some 189)), some (vI (g)), some (vI (x + 1))]) rfl (by decide) rfl rfl rfl rfl ?_
                    refine x_goto 138 (tgt := 163) rfl (by decide) ?_
                    exact ihL9 i21 (x + 1) (by omega) (hq2_put (by omega) (by omega) hB rfl (by first | exact Or.inl ⟨by omega, rfl⟩ | exact Or.inr ⟨by omega, hj2⟩) hj3) (by omega)
            exact loopL9 ((i 190 11 - ((0))) + 1 : Int).toNat ii (0) (by omega) (by intro a b; rw [hA4]; by_cases q : a = 190; (rw [if_pos q, if_pos q]; unfold hoQ; rw [if_neg (show ¬ ((12 ≤ b ∧ b < 12 + 48 * 0) ∧ (b - 12) % 48 = 6) by omega), if_neg (show ¬ ((12 ≤ b ∧ b < 12 + 48 * 0) ∧ (b - 12) % 48 = 3) by omega)]; by_cases q10 : b = 10; (rw [if_pos q10, hoP_o (by omega) (by omega), q10]; exact (Int.add_zero _).symm); (rw [if_neg q10])); (rw [if_neg q, if_neg q])) (by omega)
          · have r5 : ii 190 (5 + p) = i 190 (5 + p) := by rw [hA, if_pos rfl]; unfold hoP; rw [if_neg (by omega), if_neg (by omega), if_neg (by omega), if_neg (by omega)]
            have r199 : ii 199 p = (plT (i 190)).2 p := by rw [hA, if_neg (by omega), i2d, ← hs1]; show _ = (if 0 ≤ p ∧ p < 4 then _ else _); rw [if_pos (by omega)]
            have r1 : ii 190 1 = i 190 1 := by rw [hA, if_pos rfl]; unfold hoP; rw [if_neg (by omega), if_neg (by omega), if_neg (by omega), if_neg (by omega)]
            have r4 : ii 190 4 = i 190 4 := by rw [hA, if_pos rfl]; unfold hoP; rw [if_neg (by omega), if_neg (by omega), if_neg (by omega), if_neg (by omega)]
            have r200 : ii 200 p = plS (i 190) p := by rw [hA, if_neg (by omega), i2d]; exact hso p (by omega) (by omega)
            have hbt := hbT p
            have hpb := plS_bd (i 190) p hN.1.1
            refine x_aload_n 26 rfl rfl ?_
            refine x_getR 27 (z := 190) rfl fl_X9_7 (n_lt rfl) k_189 rfl r_189_0 ?_
            refine x_iconst 28 rfl ?_
            refine x_iload_n 29 rfl rfl ?_
            refine x_iadd 30 (r := 5 + p) rfl rfl ?_
            refine x_dup2 31 rfl rfl rfl ?_
            refine x_iald 32 (z := ii 190 (5 + p)) rfl (n_lt rfl) k_190 (by omega) rfl ?_
            refine x_aload_n 33 rfl rfl ?_
            refine x_getR 34 (z := 199) rfl fl_X9_44 (n_lt rfl) k_189 rfl r_189_18 ?_
            refine x_iload_n 35 rfl rfl ?_
            refine x_iald 36 (z := ii 199 p) rfl (n_lt rfl) k_199 (by omega) rfl ?_
            refine x_aload_n 37 rfl rfl ?_
            refine x_getR 38 (z := 190) rfl fl_X9_7 (n_lt rfl) k_189 rfl r_189_0 ?_
            refine x_iconst 39 rfl ?_
            refine x_iald 40 (z := ii 190 1) rfl (n_lt rfl) k_190 (by omega) rfl ?_
            refine x_icmp_ge 41 (tgt := 72) rfl (by decide) (by omega) (fun h22 => ?_) (fun h22 => ?_)
            · refine x_iconst 44 rfl ?_
              refine x_iadd 45 (r := (ii 190 (5 + p)) + 0) rfl rfl ?_
              obtain ⟨i23, hi23⟩ : ∃ f, f = mU ii 190 (5 + p) ((ii 190 (5 + p)) + 0) := ⟨_, rfl⟩
              refine x_iast 46 rfl (n_lt rfl) k_190 (by omega) (g' := st i23 l) (by subst hi23; rfl) ?_
              have gq1 := hi23
              rw [r5] at gq1
              have q4 : i23 190 4 = i 190 4 := by rw [hi23]; simp only [mU, true_and]; rw [if_neg (by omega)]; exact r4
              have q200 : i23 200 p = plS (i 190) p := by rw [hi23, mUne _ _ _ _ _ (by omega)]; exact r200
              have hwv := hold_w (T := (plT (i 190)).2 p) (C := i 190 1) r199 r1 (by first | exact Or.inl ⟨by omega, rfl⟩ | exact Or.inr ⟨by omega, rfl⟩)
              refine x_aload_n 47 rfl rfl ?_
              refine x_getR 48 (z := 190) rfl fl_X9_7 (n_lt rfl) k_189 rfl r_189_0 ?_
              refine x_sipush 49 rfl (by decide) ?_
              refine x_iconst 50 rfl ?_
              refine x_aload_n 51 rfl rfl ?_
              refine x_getR 52 (z := 190) rfl fl_X9_7 (n_lt rfl) k_189 rfl r_189_0 ?_
              refine x_iconst 53 rfl ?_
              refine x_iald 54 (z := i23 190 4) rfl (n_lt rfl) k_190 (by omega) rfl ?_
              refine x_imul 55 (r := 4 * (i23 190 4)) rfl rfl ?_
              refine x_iadd 56 (r := 492 + (4 * (i23 190 4))) rfl rfl ?_
              refine x_iload_n 57 rfl rfl ?_
              refine x_iadd 58 (r := (492 + (4 * (i23 190 4))) + p) rfl rfl ?_
              refine x_aload_n 59 rfl rfl ?_
              refine x_getR 60 (z := 200) rfl fl_X9_47 (n_lt rfl) k_189 rfl r_189_19 ?_
              refine x_iload_n 61 rfl rfl ?_
              refine x_iald 62 (z := i23 200 p) rfl (n_lt rfl) k_200 (by omega) rfl ?_
              obtain ⟨i24, hi24⟩ : ∃ f, f = mU i23 190 ((492 + (4 * (i23 190 4))) + p) (i23 200 p) := ⟨_, rfl⟩
              refine x_iast 63 rfl (n_lt rfl) k_190 (by omega) (g' := st i24 l) (by subst hi24; rfl) ?_
              have gq2 := hi24
              rw [q4, q200] at gq2
              have s4 : i24 190 4 = i 190 4 := by rw [gq2]; simp only [mU, true_and]; rw [if_neg (by omega)]; exact q4
              have s200 : i24 200 p = plS (i 190) p := by rw [gq2, mUne _ _ _ _ _ (by omega)]; exact q200
              obtain ⟨I2, I2d⟩ : ∃ f, f = i24 := ⟨_, rfl⟩
              have hI2 : i24 = i24 := rfl
              refine x_aload_n 64 rfl rfl ?_
              refine x_getR 65 (z := 200) rfl fl_X9_47 (n_lt rfl) k_189 rfl r_189_19 ?_
              refine x_iload_n 66 rfl rfl ?_
              refine x_iald 67 (z := i24 200 p) rfl (n_lt rfl) k_200 (by omega) rfl ?_
              refine x_bipush 68 rfl (by decide) ?_
              refine x_icmp_eq 69 (tgt := 155) rfl (by decide) (by omega) (fun h25 => ?_) (fun h25 => ?_)
              · refine x_iinc 98 (L' := [some (vR (some 189)), some (vI (g)), some (vI (p + 1))]) rfl (by decide) rfl rfl rfl rfl ?_
                refine x_goto 99 (tgt := 39) rfl (by decide) ?_
                exact ihL7 i24 (p + 1) (g) (by omega) (by rw [sumZ_s _ hp.1, hg]; split <;> omega) (hq_put (by omega) hN.1 (by omega) hA hwv gq1 gq2 rfl (by first | exact Or.inl ⟨by omega, hI2⟩ | exact Or.inr ⟨by omega, hfin⟩)) (by omega)
              · refine x_aload_n 70 rfl rfl ?_
                refine x_aload_n 71 rfl rfl ?_
                refine x_getR 72 (z := 200) rfl fl_X9_47 (n_lt rfl) k_189 rfl r_189_19 ?_
                refine x_iload_n 73 rfl rfl ?_
                refine x_iald 74 (z := i24 200 p) rfl (n_lt rfl) k_200 (by omega) rfl ?_
                refine x_iconst 75 rfl ?_
                refine x_aload_n 76 rfl rfl ?_
                refine x_aload_n 77 rfl rfl ?_
                refine x_getR 78 (z := 200) rfl fl_X9_47 (n_lt rfl) k_189 rfl r_189_19 ?_
                refine x_iload_n 79 rfl rfl ?_
                refine x_iald 80 (z := i24 200 p) rfl (n_lt rfl) k_200 (by omega) rfl ?_
                refine x_iconst 81 rfl ?_
                refine x_callV 82 m_X9_of (r_of (by omega) (by omega)) rfl ok_X9_of (n_lt rfl) k_189 rfl rfl ml_X9_72 im_X9_of se_X9_of rfl (by decide) rfl (Nat.le_of_ble_eq_true rfl) rfl rfl (fun v g q26 => ?_)
                obtain ⟨rfl, rfl⟩ := q26
                show mX m_X9_hold 9 _ 0 0 _ _ [vI (sV (i24 190) (i24 200 p) 4), vI (4), vI (i24 200 p), vR (some 189)] _
                refine x_iconst 83 rfl ?_
                refine x_iadd 84 (r := (sV (i24 190) (i24 200 p) 4) + 1) rfl rfl ?_
                refine x_callV 85 m_X9_put (r_put (by omega) (by omega)) rfl ok_X9_put (n_lt rfl) k_189 rfl rfl ml_X9_113 im_X9_put se_X9_put rfl (by decide) rfl (Nat.le_of_ble_eq_true rfl) rfl rfl (fun v g q27 => ?_)
                obtain ⟨rfl, i28, li28, rfl, hi28⟩ := q27
                obtain ⟨hEi28, hi28⟩ := hi28
                have hEi28 := hEi28.symm
                subst hEi28
                show mX m_X9_hold 9 _ 0 0 _ _ [] _
                have gq3 := hi28
                rw [s200] at gq3
                have t4 : i28 190 4 = i 190 4 := by rw [gq3]; simp only [mU, true_and]; rw [if_neg (by omega)]; exact s4
                have t200 : i28 200 p = plS (i 190) p := by rw [gq3, mUne _ _ _ _ _ (by omega)]; exact s200
                refine x_aload_n 86 rfl rfl ?_
                refine x_aload_n 87 rfl rfl ?_
                refine x_getR 88 (z := 200) rfl fl_X9_47 (n_lt rfl) k_189 rfl r_189_19 ?_
                refine x_iload_n 89 rfl rfl ?_
                refine x_iald 90 (z := i28 200 p) rfl (n_lt rfl) k_200 (by omega) rfl ?_
                refine x_iconst 91 rfl ?_
                refine x_aload_n 92 rfl rfl ?_
                refine x_getR 93 (z := 190) rfl fl_X9_7 (n_lt rfl) k_189 rfl r_189_0 ?_
                refine x_iconst 94 rfl ?_
                refine x_iald 95 (z := i28 190 4) rfl (n_lt rfl) k_190 (by omega) rfl ?_
                refine x_callV 96 m_X9_put (r_put (by omega) (by omega)) rfl ok_X9_put (n_lt rfl) k_189 rfl rfl ml_X9_113 im_X9_put se_X9_put rfl (by decide) rfl (Nat.le_of_ble_eq_true rfl) rfl rfl (fun v g q29 => ?_)
                obtain ⟨rfl, i30, li30, rfl, hi30⟩ := q29
                obtain ⟨hEi30, hi30⟩ := hi30
                have hEi30 := hEi30.symm
                subst hEi30
                show mX m_X9_hold 9 _ 0 0 _ _ [] _
                have hfin := hi30
                rw [t200, t4, gq3] at hfin
                refine x_iinc 97 (L' := [some (vR (some 189)), some (vI (g + 1)), some (vI (p))]) rfl (by decide) rfl rfl rfl rfl ?_
                refine x_iinc 98 (L' := [some (vR (some 189)), some (vI (g + 1)), some (vI (p + 1))]) rfl (by decide) rfl rfl rfl rfl ?_
                refine x_goto 99 (tgt := 39) rfl (by decide) ?_
                exact ihL7 i30 (p + 1) (g + 1) (by omega) (by rw [sumZ_s _ hp.1, hg]; split <;> omega) (hq_put (by omega) hN.1 (by omega) hA hwv gq1 gq2 rfl (by first | exact Or.inl ⟨by omega, hI2⟩ | exact Or.inr ⟨by omega, hfin⟩)) (by omega)
            · refine x_iconst 42 rfl ?_
              refine x_goto 43 (tgt := 73) rfl (by decide) ?_
              refine x_iadd 45 (r := (ii 190 (5 + p)) + 1) rfl rfl ?_
              obtain ⟨i31, hi31⟩ : ∃ f, f = mU ii 190 (5 + p) ((ii 190 (5 + p)) + 1) := ⟨_, rfl⟩
              refine x_iast 46 rfl (n_lt rfl) k_190 (by omega) (g' := st i31 l) (by subst hi31; rfl) ?_
              have gq1 := hi31
              rw [r5] at gq1
              have q4 : i31 190 4 = i 190 4 := by rw [hi31]; simp only [mU, true_and]; rw [if_neg (by omega)]; exact r4
              have q200 : i31 200 p = plS (i 190) p := by rw [hi31, mUne _ _ _ _ _ (by omega)]; exact r200
              have hwv := hold_w (T := (plT (i 190)).2 p) (C := i 190 1) r199 r1 (by first | exact Or.inl ⟨by omega, rfl⟩ | exact Or.inr ⟨by omega, rfl⟩)
              refine x_aload_n 47 rfl rfl ?_
              refine x_getR 48 (z := 190) rfl fl_X9_7 (n_lt rfl) k_189 rfl r_189_0 ?_
              refine x_sipush 49 rfl (by decide) ?_
              refine x_iconst 50 rfl ?_
              refine x_aload_n 51 rfl rfl ?_
              refine x_getR 52 (z := 190) rfl fl_X9_7 (n_lt rfl) k_189 rfl r_189_0 ?_
              refine x_iconst 53 rfl ?_
              refine x_iald 54 (z := i31 190 4) rfl (n_lt rfl) k_190 (by omega) rfl ?_
              refine x_imul 55 (r := 4 * (i31 190 4)) rfl rfl ?_
              refine x_iadd 56 (r := 492 + (4 * (i31 190 4))) rfl rfl ?_
              refine x_iload_n 57 rfl rfl ?_
              refine x_iadd 58 (r := (492 + (4 * (i31 190 4))) + p) rfl rfl ?_
              refine x_aload_n 59 rfl rfl ?_
              refine x_getR 60 (z := 200) rfl fl_X9_47 (n_lt rfl) k_189 rfl r_189_19 ?_
              refine x_iload_n 61 rfl rfl ?_
              refine x_iald 62 (z := i31 200 p) rfl (n_lt rfl) k_200 (by omega) rfl ?_
              obtain ⟨i32, hi32⟩ : ∃ f, f = mU i31 190 ((492 + (4 * (i31 190 4))) + p) (i31 200 p) := ⟨_, rfl⟩
              refine x_iast 63 rfl (n_lt rfl) k_190 (by omega) (g' := st i32 l) (by subst hi32; rfl) ?_
              have gq2 := hi32
              rw [q4, q200] at gq2
              have s4 : i32 190 4 = i 190 4 := by rw [gq2]; simp only [mU, true_and]; rw [if_neg (by omega)]; exact q4
              have s200 : i32 200 p = plS (i 190) p := by rw [gq2, mUne _ _ _ _ _ (by omega)]; exact q200
              obtain ⟨I2, I2d⟩ : ∃ f, f = i32 := ⟨_, rfl⟩
              have hI2 : i32 = i32 := rfl
              refine x_aload_n 64 rfl rfl ?_
              refine x_getR 65 (z := 200) rfl fl_X9_47 (n_lt rfl) k_189 rfl r_189_19 ?_
              refine x_iload_n 66 rfl rfl ?_
              refine x_iald 67 (z := i32 200 p) rfl (n_lt rfl) k_200 (by omega) rfl ?_
              refine x_bipush 68 rfl (by decide) ?_
              refine x_icmp_eq 69 (tgt := 155) rfl (by decide) (by omega) (fun h33 => ?_) (fun h33 => ?_)
              · refine x_iinc 98 (L' := [some (vR (some 189)), some (vI (g)), some (vI (p + 1))]) rfl (by decide) rfl rfl rfl rfl ?_
                refine x_goto 99 (tgt := 39) rfl (by decide) ?_
                exact ihL7 i32 (p + 1) (g) (by omega) (by rw [sumZ_s _ hp.1, hg]; split <;> omega) (hq_put (by omega) hN.1 (by omega) hA hwv gq1 gq2 rfl (by first | exact Or.inl ⟨by omega, hI2⟩ | exact Or.inr ⟨by omega, hfin⟩)) (by omega)
              · refine x_aload_n 70 rfl rfl ?_
                refine x_aload_n 71 rfl rfl ?_
                refine x_getR 72 (z := 200) rfl fl_X9_47 (n_lt rfl) k_189 rfl r_189_19 ?_
                refine x_iload_n 73 rfl rfl ?_
                refine x_iald 74 (z := i32 200 p) rfl (n_lt rfl) k_200 (by omega) rfl ?_
                refine x_iconst 75 rfl ?_
                refine x_aload_n 76 rfl rfl ?_
                refine x_aload_n 77 rfl rfl ?_
                refine x_getR 78 (z := 200) rfl fl_X9_47 (n_lt rfl) k_189 rfl r_189_19 ?_
                refine x_iload_n 79 rfl rfl ?_
                refine x_iald 80 (z := i32 200 p) rfl (n_lt rfl) k_200 (by omega) rfl ?_
                refine x_iconst 81 rfl ?_
                refine x_callV 82 m_X9_of (r_of (by omega) (by omega)) rfl ok_X9_of (n_lt rfl) k_189 rfl rfl ml_X9_72 im_X9_of se_X9_of rfl (by decide) rfl (Nat.le_of_ble_eq_true rfl) rfl rfl (fun v g q34 => ?_)
                obtain ⟨rfl, rfl⟩ := q34
                show mX m_X9_hold 9 _ 0 0 _ _ [vI (sV (i32 190) (i32 200 p) 4), vI (4), vI (i32 200 p), vR (some 189)] _
                refine x_iconst 83 rfl ?_
                refine x_iadd 84 (r := (sV (i32 190) (i32 200 p) 4) + 1) rfl rfl ?_
                refine x_callV 85 m_X9_put (r_put (by omega) (by omega)) rfl ok_X9_put (n_lt rfl) k_189 rfl rfl ml_X9_113 im_X9_put se_X9_put rfl (by decide) rfl (Nat.le_of_ble_eq_true rfl) rfl rfl (fun v g q35 => ?_)
                obtain ⟨rfl, i36, li36, rfl, hi36⟩ := q35
                obtain ⟨hEi36, hi36⟩ := hi36
                have hEi36 := hEi36.symm
                subst hEi36
                show mX m_X9_hold 9 _ 0 0 _ _ [] _
                have gq3 := hi36
                rw [s200] at gq3
                have t4 : i36 190 4 = i 190 4 := by rw [gq3]; simp only [mU, true_and]; rw [if_neg (by omega)]; exact s4
                have t200 : i36 200 p = plS (i 190) p := by rw [gq3, mUne _ _ _ _ _ (by omega)]; exact s200
                refine x_aload_n 86 rfl rfl ?_
                refine x_aload_n 87 rfl rfl ?_
                refine x_getR 88 (z := 200) rfl fl_X9_47 (n_lt rfl) k_189 rfl r_189_19 ?_
                refine x_iload_n 89 rfl rfl ?_
                refine x_iald 90 (z := i36 200 p) rfl (n_lt rfl) k_200 (by omega) rfl ?_
                refine x_iconst 91 rfl ?_
                refine x_aload_n 92 rfl rfl ?_
                refine x_getR 93 (z := 190) rfl fl_X9_7 (n_lt rfl) k_189 rfl r_189_0 ?_
                refine x_iconst 94 rfl ?_
                refine x_iald 95 (z := i36 190 4) rfl (n_lt rfl) k_190 (by omega) rfl ?_
                refine x_callV 96 m_X9_put (r_put (by omega) (by omega)) rfl ok_X9_put (n_lt rfl) k_189 rfl rfl ml_X9_113 im_X9_put se_X9_put rfl (by decide) rfl (Nat.le_of_ble_eq_true rfl) rfl rfl (fun v g q37 => ?_)
                obtain ⟨rfl, i38, li38, rfl, hi38⟩ := q37
                obtain ⟨hEi38, hi38⟩ := hi38
                have hEi38 := hEi38.symm
                subst hEi38
                show mX m_X9_hold 9 _ 0 0 _ _ [] _
                have hfin := hi38
                rw [t200, t4, gq3] at hfin
                refine x_iinc 97 (L' := [some (vR (some 189)), some (vI (g + 1)), some (vI (p))]) rfl (by decide) rfl rfl rfl rfl ?_
                refine x_iinc 98 (L' := [some (vR (some 189)), some (vI (g + 1)), some (vI (p + 1))]) rfl (by decide) rfl rfl rfl rfl ?_
                refine x_goto 99 (tgt := 39) rfl (by decide) ?_
                exact ihL7 i38 (p + 1) (g + 1) (by omega) (by rw [sumZ_s _ hp.1, hg]; split <;> omega) (hq_put (by omega) hN.1 (by omega) hA hwv gq1 gq2 rfl (by first | exact Or.inl ⟨by omega, hI2⟩ | exact Or.inr ⟨by omega, hfin⟩)) (by omega)
      exact loopL7 ((4 - ((0))) + 1 : Int).toNat i6 (0) (0) (by omega) (rfl) (by intro a b; rw [hoP_0]; by_cases q : a = 190; (rw [if_pos q, q, f190]); (rw [if_neg q, i2d])) (by omega)
    · refine x_bipush 13 rfl (by decide) ?_
      refine x_ret 14 (some (vI ((-3)))) rfl ⟨rfl, Or.inl rfl⟩ ⟨_, i, l, rfl, rfl, ?_⟩
      exact rs_ask (rfl) (kA.rf i) rfl hF (by unfold spHold; rw [if_neg (by omega), if_pos (by omega)])
  · refine x_bipush 5 rfl (by decide) ?_
    refine x_ret 6 (some (vI ((-2)))) rfl ⟨rfl, Or.inl rfl⟩ ⟨_, i, l, rfl, rfl, ?_⟩
    exact rs_ask (rfl) (kA.rf i) rfl hF (by unfold spHold; rw [if_pos (by omega)])
