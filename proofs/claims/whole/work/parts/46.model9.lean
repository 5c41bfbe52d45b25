/-! the other book's placing: its calls -/
theorem pla_loop {W : Int → Int} {jj i' i2 : Nat → Int → Int} {x : Int} (h0 : 0 ≤ x) (hA : ∀ a b, jj a b = if a = 190 ∧ (12 ≤ b ∧ b < 12 + 48 * x) ∧ (b - 12) % 48 = 2 then chW W ((b - 12) / 48) else i2 a b) (hi : i' = mU jj 190 (12 + 48 * x + 2) (chW W x)) : ∀ a b, i' a b = if a = 190 ∧ (12 ≤ b ∧ b < 12 + 48 * (x + 1)) ∧ (b - 12) % 48 = 2 then chW W ((b - 12) / 48) else i2 a b := by
  intro a b
  rw [hi]
  simp only [mU]
  by_cases q : a = 190 ∧ b = 12 + 48 * x + 2
  · rw [if_pos q, if_pos (by omega), show (b - 12) / 48 = x by omega]
  · rw [if_neg q, hA]
    by_cases q2 : a = 190 ∧ (12 ≤ b ∧ b < 12 + 48 * x) ∧ (b - 12) % 48 = 2
    · rw [if_pos q2, if_pos (by omega)]
    · rw [if_neg q2, if_neg (by omega)]
set_option maxRecDepth 20000 in
set_option maxHeartbeats 2000000 in
theorem r_b_placeAll {i : Nat → Int → Int} {l : Nat → Int → BitVec 64} (hB : okB (i 190) (i 189 2) (AP i) (AM i) (AK i) (i 193) (i 189 6)) (hF : 0 ≤ i 189 4 ∧ i 189 4 ≤ 3)  : mCtr m_X9_placeAll 7 0 0 [vR (some 189)] (st i l) (qR i l (spPlaceAll (i 190) (i 189 2) (AP i) (AM i) (AK i) (i 193) (i 189 6) (i 189 7) (i 189 8))) := by
  refine mCtr_of pl_X9 dc_X9_placeAll (Nat.le_of_ble_eq_true rfl) rfl ?_
  show mX m_X9_placeAll 7 _ 0 0 0 [some (vR (some 189)), none] [] (st i l)
  have hW := hB.1
  have hN := hW.n
  have hPN := hB.2.1
  have hTN := hB.2.2.2.2.1
  refine x_aload_n 0 rfl rfl ?_
  refine x_callV 1 m_X9_remember (r_remember (by omega)) rfl ok_X9_remember (n_lt rfl) k_189 rfl rfl ml_X9_107 im_X9_remember se_X9_remember rfl (by decide) rfl (Nat.le_of_ble_eq_true rfl) rfl rfl (fun v g q1 => ?_)
  obtain ⟨rfl, i2, li2, rfl, hi2⟩ := q1
  obtain ⟨hEi2, hi2⟩ := hi2
  have hEi2 := hEi2.symm
  subst hEi2
  show mX m_X9_placeAll 7 _ 0 0 _ _ [] _
  have hm := hi2
  have w190 := rmI_w i hm
  have hW1 : okW (i2 190) := by rw [w190]; exact hW
  have n11 : i2 190 11 = i 190 11 := by rw [w190]
  obtain ⟨i1, i1d⟩ : ∃ f, f = i2 := ⟨_, rfl⟩
  refine x_aload_n 2 rfl rfl ?_
  refine x_iconst 3 rfl ?_
  refine x_callV 4 m_X9_findBest (r_findBest hW1 (by omega)) rfl ok_X9_findBest (n_lt rfl) k_189 rfl rfl ml_X9_110 im_X9_findBest se_X9_findBest rfl (by decide) rfl (Nat.le_of_ble_eq_true rfl) rfl rfl (fun v g q3 => ?_)
  obtain ⟨rfl, i4, li4, rfl, hi4⟩ := q3
  obtain ⟨hEi4, hi4⟩ := hi4
  have hEi4 := hEi4.symm
  subst hEi4
  show mX m_X9_placeAll 7 _ 0 0 _ _ [] _
  obtain ⟨hff, hop⟩ := hi4
  rw [w190] at hop
  rw [← i1d] at hff hm w190
  obtain ⟨i2, i2d⟩ : ∃ f, f = i4 := ⟨_, rfl⟩
  rw [← i2d] at hff hop
  have w2 : i2 190 = i 190 := by rw [← w190]; funext b; exact hff 190 b (by omega) (by omega) (by omega) (by omega) (by omega)
  refine x_iconst 5 rfl ?_
  refine x_istore_n 6 (L' := [some (vR (some 189)), some (vI (0))]) rfl (by decide) rfl rfl ?_
  have loopL5 : ∀ (nz : Nat) (jj : Nat → Int → Int) (x : Int), (0 ≤ x ∧ x ≤ i 190 11) → (∀ a b, jj a b = if a = 190 ∧ (12 ≤ b ∧ b < 12 + 48 * x) ∧ (b - 12) % 48 = 2 then chW (i 190) ((b - 12) / 48) else i2 a b) → (i 190 11 - x) < (nz : Int) → mX m_X9_placeAll 7 (qR i l (spPlaceAll (i 190) (i 189 2) (AP i) (AM i) (AK i) (i 193) (i 189 6) (i 189 7) (i 189 8))) 0 0 11 [some (vR (some 189)), some (vI (x))] [] (st jj l) := by
    intro nz
    induction nz with
    | zero => intro jj x hx hA hz; exact absurd hz (by omega)
    | succ nz ihL5 =>
      intro jj x hx hA hzL5
      have j11 : jj 190 11 = i 190 11 := by rw [hA, if_neg (by omega), w2]
      refine x_iload_n 7 rfl rfl ?_
      refine x_aload_n 8 rfl rfl ?_
      refine x_getR 9 (z := 190) rfl fl_X9_7 (n_lt rfl) k_189 rfl r_189_0 ?_
      refine x_bipush 10 rfl (by decide) ?_
      refine x_iald 11 (z := jj 190 11) rfl (n_lt rfl) k_190 (by omega) rfl ?_
      refine x_icmp_ge 12 (tgt := 40) rfl (by decide) (by omega) (fun h6 => ?_) (fun h6 => ?_)
      · refine x_aload_n 23 rfl rfl ?_
        refine x_getI 24 (z := jj 189 15) rfl fl_X9_87 (n_lt rfl) k_189 rfl rfl ?_
        refine x_ret 25 (some (vI (jj 189 15))) rfl ⟨rfl, Or.inl rfl⟩ ⟨_, jj, l, rfl, rfl, ?_⟩
        have hbs := bs_opt hW hop
        have hk_ : kA i1 jj := fun a b q => by rw [hA, if_neg (by omega)]; exact hff a b (by omega) (by omega) (by omega) (by omega) (by omega)
        exact rs_rem (z' := (bsW (i 190) (-1)).1) (W' := plW (i 190)) (by rw [hA, if_neg (by omega), hbs]) (by omega) hm hk_ (fun k _ _ => by rw [hA, show x = i 190 11 by omega, w2]; unfold plW; simp only [true_and]) hF rfl
      · have jb : jj 196 x = chW (i 190) x := by rw [hA, if_neg (by omega)]; exact (ch_opt hW hop x hx.1 (by omega)).symm
        refine x_aload_n 13 rfl rfl ?_
        refine x_iload_n 14 rfl rfl ?_
        refine x_iconst 15 rfl ?_
        refine x_aload_n 16 rfl rfl ?_
        refine x_getR 17 (z := 196) rfl fl_X9_35 (n_lt rfl) k_189 rfl r_189_13 ?_
        refine x_iload_n 18 rfl rfl ?_
        refine x_iald 19 (z := jj 196 x) rfl (n_lt rfl) k_196 (by omega) rfl ?_
        refine x_callV 20 m_X9_put (r_put (by omega) (by omega)) rfl ok_X9_put (n_lt rfl) k_189 rfl rfl ml_X9_113 im_X9_put se_X9_put rfl (by decide) rfl (Nat.le_of_ble_eq_true rfl) rfl rfl (fun v g q7 => ?_)
        obtain ⟨rfl, i8, li8, rfl, hi8⟩ := q7
        obtain ⟨hEi8, hi8⟩ := hi8
        have hEi8 := hEi8.symm
        subst hEi8
        show mX m_X9_placeAll 7 _ 0 0 _ _ [] _
        have hput := hi8
        refine x_iinc 21 (L' := [some (vR (some 189)), some (vI (x + 1))]) rfl (by decide) rfl rfl rfl rfl ?_
        refine x_goto 22 (tgt := 11) rfl (by decide) ?_
        exact ihL5 i8 (x + 1) (by omega) (pla_loop hx.1 hA (by rw [hput, jb])) (by omega)
  exact loopL5 ((i 190 11 - ((0))) + 1 : Int).toNat i4 (0) (by omega) (by intro a b; rw [if_neg (by omega), i2d]) (by omega)
set_option maxRecDepth 20000 in
set_option maxHeartbeats 2000000 in
theorem r_b_without {i : Nat → Int → Int} {l : Nat → Int → BitVec 64} (hB : okB (i 190) (i 189 2) (AP i) (AM i) (AK i) (i 193) (i 189 6)) (hF : 0 ≤ i 189 4 ∧ i 189 4 ≤ 3) {y : Int} (hy : -2147483648 ≤ y ∧ y < 2147483648) : mCtr m_X9_without 7 0 0 [vR (some 189), vI (y)] (st i l) (qR i l (spAsk (anWithout y (i 190)) (i 190) (i 189 2) (AP i) (AM i) (AK i) (i 193) (i 189 6) (i 189 7) (i 189 8))) := by
  refine mCtr_of pl_X9 dc_X9_without (Nat.le_of_ble_eq_true rfl) rfl ?_
  show mX m_X9_without 7 _ 0 0 0 [some (vR (some 189)), some (vI (y))] [] (st i l)
  have hW := hB.1
  have hN := hW.n
  have hPN := hB.2.1
  have hTN := hB.2.2.2.2.1
  refine x_iload_n 0 rfl rfl ?_
  refine x_iconst 1 rfl ?_
  refine x_icmp_eq 2 (tgt := 15) rfl (by decide) (by omega) (fun h1 => ?_) (fun h1 => ?_)
  · refine x_aload_n 9 rfl rfl ?_
    refine x_iload_n 10 rfl rfl ?_
    refine x_callV 11 m_X9_findBest (r_findBest hW (by omega)) rfl ok_X9_findBest (n_lt rfl) k_189 rfl rfl ml_X9_110 im_X9_findBest se_X9_findBest rfl (by decide) rfl (Nat.le_of_ble_eq_true rfl) rfl rfl (fun v g q2 => ?_)
    obtain ⟨rfl, i3, li3, rfl, hi3⟩ := q2
    obtain ⟨hEi3, hi3⟩ := hi3
    have hEi3 := hEi3.symm
    subst hEi3
    show mX m_X9_without 7 _ 0 0 _ _ [] _
    obtain ⟨hff, hop⟩ := hi3
    refine x_aload_n 12 rfl rfl ?_
    refine x_getI 13 (z := i3 189 15) rfl fl_X9_87 (n_lt rfl) k_189 rfl rfl ?_
    refine x_ret 14 (some (vI (i3 189 15))) rfl ⟨rfl, Or.inl rfl⟩ ⟨_, i3, l, rfl, rfl, ?_⟩
    have hbs := bs_opt hW hop
    exact rs_ask (z' := anWithout y (i 190)) (by unfold anWithout; rw [if_neg (by omega), hbs]) (fun a b q => hff a b (by omega) (by omega) (by omega) (by omega) (by omega)) (by funext b; exact hff 190 b (by omega) (by omega) (by omega) (by omega) (by omega)) hF (by unfold spAsk; rfl)
  · refine x_aload_n 3 rfl rfl ?_
    refine x_iload_n 4 rfl rfl ?_
    refine x_callV 5 m_X9_isSinger (r_isSinger (by omega) (by omega)) rfl ok_X9_isSinger (n_lt rfl) k_189 rfl rfl ml_X9_117 im_X9_isSinger se_X9_isSinger rfl (by decide) rfl (Nat.le_of_ble_eq_true rfl) rfl rfl (fun v g q4 => ?_)
    rcases q4 with ⟨rfl, ⟨h5, rfl⟩ | ⟨h5, rfl⟩⟩
    · show mX m_X9_without 7 _ 0 0 _ _ [vI (1)] _
      refine x_if_ne 6 (tgt := 15) rfl (by decide) (by decide) (fun h6 => ?_) (fun h6 => absurd h6 (by decide))
      refine x_aload_n 9 rfl rfl ?_
      refine x_iload_n 10 rfl rfl ?_
      refine x_callV 11 m_X9_findBest (r_findBest hW (by omega)) rfl ok_X9_findBest (n_lt rfl) k_189 rfl rfl ml_X9_110 im_X9_findBest se_X9_findBest rfl (by decide) rfl (Nat.le_of_ble_eq_true rfl) rfl rfl (fun v g q7 => ?_)
      obtain ⟨rfl, i8, li8, rfl, hi8⟩ := q7
      obtain ⟨hEi8, hi8⟩ := hi8
      have hEi8 := hEi8.symm
      subst hEi8
      show mX m_X9_without 7 _ 0 0 _ _ [] _
      obtain ⟨hff, hop⟩ := hi8
      refine x_aload_n 12 rfl rfl ?_
      refine x_getI 13 (z := i8 189 15) rfl fl_X9_87 (n_lt rfl) k_189 rfl rfl ?_
      refine x_ret 14 (some (vI (i8 189 15))) rfl ⟨rfl, Or.inl rfl⟩ ⟨_, i8, l, rfl, rfl, ?_⟩
      have hbs := bs_opt hW hop
      exact rs_ask (z' := anWithout y (i 190)) (by unfold anWithout; rw [if_neg (by omega), hbs]) (fun a b q => hff a b (by omega) (by omega) (by omega) (by omega) (by omega)) (by funext b; exact hff 190 b (by omega) (by omega) (by omega) (by omega) (by omega)) hF (by unfold spAsk; rfl)
    · show mX m_X9_without 7 _ 0 0 _ _ [vI (0)] _
      refine x_if_ne 6 (tgt := 15) rfl (by decide) (by decide) (fun h9 => absurd h9 (by decide)) (fun h9 => ?_)
      refine x_iconst 7 rfl ?_
      refine x_ret 8 (some (vI ((-1)))) rfl ⟨rfl, Or.inl rfl⟩ ⟨_, i, l, rfl, rfl, ?_⟩
      exact rs_ask rfl (kA.rf i) rfl hF (by unfold spAsk anWithout; rw [if_pos (by omega)])
