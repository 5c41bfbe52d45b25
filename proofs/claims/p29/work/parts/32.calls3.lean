variable {nn : Nat} {bb : Bool}
/-! the book: what is asked, images -/
theorem fSeat_bd {i : Nat → Int → Int} {c : Nat} {y : Int} (h : okC i c) (hy : 0 ≤ y ∧ y < i c 4) : 0 ≤ fSeat i c y ∧ fSeat i c y ≤ 10 := by
  have h1 := h.n
  have := sumZ_bd (f := fun k => if i (c + 2 + k.toNat) 6 = i (c + 2 + y.toNat) 6 ∧ (i (c + 2 + k.toNat) 1 < i (c + 2 + y.toNat) 1 ∨ (i (c + 2 + k.toNat) 1 = i (c + 2 + y.toNat) 1 ∧ k < y)) then 1 else 0) (x := i c 4) (a := 0) (b := 1) h1.1.1 (fun k _ _ => by split <;> omega)
  unfold fSeat
  omega
theorem RelB_keep {i i1 i' : Nat → Int → Int} {l l' : Nat → Int → BitVec 64} {W : Int → Int} {PN : Int} {P M : Int → Int → Int} {K : Int → Bool} {T : Int → Int} {TN FK FP m : Int} (h : RelB bb i l W PN P M K T TN FK FP) (hB : okB W PN P M K T TN) (hm : 0 ≤ m ∧ m < 2)
    (hcp : cpC i l i1 l' (ob bb + 139 + 15 * m.toNat) (ob bb + 1)) (hi : i' = mU i1 (ob bb + 169) m 1) : RelB bb i' l' W PN P (imW M m W) (kU K m) T TN FK FP := by
  obtain ⟨r1, r2, r3, r4, r5, r6, r7⟩ := h
  have c14 : i (ob bb + 1) 4 ≤ 10 := by rw [r1.1.1]; exact hB.1.n.1.2
  have e1 : ∀ a b, (a < ob bb + 139 + 15 * m.toNat ∨ ob bb + 139 + 15 * m.toNat + 15 ≤ a) → a ≠ (ob bb + 169) → i' a b = i a b := fun a b h1 h2 => by rw [hi, mUne _ _ _ _ _ h2, cp_elseI hcp c14 h1 b]
  have el : ∀ a b, (a < ob bb + 139 + 15 * m.toNat ∨ ob bb + 139 + 15 * m.toNat + 15 ≤ a) → l' a b = l a b := fun a b h1 => cp_elseL hcp c14 h1 b
  have e169 : ∀ b, i' (ob bb + 169) b = if b = m then 1 else i (ob bb + 169) b := fun b => by
    rw [hi]
    simp only [mU, true_and]
    split
    · rfl
    · exact cp_elseI hcp c14 (by omega) b
  refine ⟨r1.congr hB.1.n.1.2 (fun a b _ _ => e1 a b (by omega) (by omega)) (fun a b _ _ => el a b (by omega)), by rw [e1 (ob bb + 16) 1 (by omega) (by omega), e1 (ob bb + 16) 2 (by omega) (by omega)]; exact r2, fun j h0 hj => ?_, fun j h0 hj => ⟨?_, fun hk => ?_⟩, ⟨by rw [e1 (ob bb + 170) 1 (by omega) (by omega)]; exact r5.1, fun k h0 hk => by rw [e1 (ob bb + 171) k (by omega) (by omega)]; exact r5.2 k h0 hk⟩, ⟨by rw [e1 (ob bb + 172) 2 (by omega) (by omega)]; exact r6.1, by rw [e1 (ob bb + 172) 3 (by omega) (by omega)]; exact r6.2⟩, ?_⟩
  · have := hC_lt (bb := bb) i j
    rw [show hC bb i' j = hC bb i j by unfold hC; rw [e1 (ob bb + 16) 1 (by omega) (by omega)]]
    exact (r3 j h0 hj).congr ((hB.2.2.1 j h0 hj).n.1.2) (fun a b _ _ => e1 _ _ (by omega) (by omega)) (fun a b _ _ => el _ _ (by omega))
  · rw [e169, (r4 j h0 hj).1]
    unfold kU
    by_cases q : j = m
    · rw [if_pos q, if_pos q, if_pos rfl]
    · rw [if_neg q, if_neg q]
  · unfold imW
    unfold kU at hk
    by_cases q : j = m
    · rw [if_pos q, q]
      exact (relC_cp hcp r1 hB.1).congr hB.1.n.1.2 (fun a b _ _ => by rw [hi, mUne _ _ _ _ _ (by omega)]) (fun _ _ _ _ => rfl)
    · rw [if_neg q] at hk ⊢
      exact ((r4 j h0 hj).2 hk).congr ((hB.2.2.2.1 j h0 hj hk).n.1.2) (fun a b _ _ => e1 _ _ (by omega) (by omega)) (fun a b _ _ => el _ _ (by omega))
  · unfold PZ at r7 ⊢
    rw [e1 (ob bb + 184) 0 (by omega) (by omega), el (ob bb + 179) 0 (by omega), el (ob bb + 180) 0 (by omega), el (ob bb + 182) 0 (by omega), el (ob bb + 183) 0 (by omega)]
    exact r7
set_option maxRecDepth 20000 in
set_option maxHeartbeats 2000000 in
theorem c_b_singer {i : Nat → Int → Int} {l : Nat → Int → BitVec 64} {W : Int → Int} {PN : Int} {P M : Int → Int → Int} {K : Int → Bool} {T : Int → Int} {TN FK FP : Int} (hR : RelB bb i l W PN P M K T TN FK FP) (hB : okB W PN P M K T TN) {y : Int} (hy : -2147483648 ≤ y ∧ y < 2147483648) {x : Int} (hx : -2147483648 ≤ x ∧ x < 2147483648) : mCtr m_X8_singer 6 0 0 [vR (some (ob bb)), vI (y), vI (x)] (st nn i l) (qT nn bb i l (spAsk (anSinger y x W) W PN P M K T TN FK FP)) := by
  refine mCtr_of pl_X8 dc_X8_singer (Nat.le_of_ble_eq_true rfl) rfl ?_
  show mX m_X8_singer 6 _ 0 0 0 [some (vR (some (ob bb))), some (vI (y)), some (vI (x)), none] [] (st nn i l)
  have hW := hB.1
  have hO := okC_of hR.1 hW
  have hN := hW.n
  have hCn := hO.n
  obtain ⟨⟨e4, e5, e6, e7⟩, ⟨s0, s1, s2, s3⟩, hwk, hsl, -⟩ := hR.1
  obtain ⟨o1, o2, o3⟩ := hR.2.1
  have hPN := hB.2.1
  have hTN := hB.2.2.2.2.1
  obtain ⟨t1, t2⟩ := hR.2.2.2.2.1
  have hcc : ∀ k, 0 ≤ k → k < i (ob bb + 170) 1 → 0 ≤ i (ob bb + 171) k ∧ i (ob bb + 171) k ≤ 127 := by intro k h0 h1; rw [t2 k h0 (by omega)]; have := hB.2.2.2.2.2 k h0 (by omega); omega
  refine x_aload_n 0 rfl rfl ?_
  refine x_getR 1 (z := (ob bb + 1)) rfl fl_X8_10 b_lt0 k_0 rfl r_0_0 ?_
  refine x_iload_n 2 rfl rfl ?_
  refine x_callV 3 m_X0_has (c_has isC_1 (by omega) (by omega)) rfl ok_X0_has (isC_0 isC_1) (kC isC_1) rfl rfl ml_X8_71 im_X0_has se_X0_has rfl (by decide) rfl (Nat.le_of_ble_eq_true rfl) rfl rfl (fun v g q1 => ?_)
  rcases q1 with ⟨rfl, ⟨h2, rfl⟩ | ⟨h2, rfl⟩⟩
  · show mX m_X8_singer 6 _ 0 0 _ _ [vI (1)] _
    refine x_if_ne 4 (tgt := 13) rfl (by decide) (by decide) (fun h3 => ?_) (fun h3 => absurd h3 (by decide))
    have hsr := hR.1.s (s := y) (by omega) (by omega)
    have hsk := hO.s (x := y) (by omega) (by omega)
    refine x_aload_n 7 rfl rfl ?_
    refine x_getR 8 (z := (ob bb + 1)) rfl fl_X8_10 b_lt0 k_0 rfl r_0_0 ?_
    refine x_getR 9 (z := ((ob bb + 1) + 1)) rfl fl_X8_92 (isC_0 isC_1) (kC isC_1) rfl (rC0 isC_1) ?_
    refine x_iload_n 10 rfl rfl ?_
    refine x_aald 11 (t := 3) (z := ((ob bb + 1) + 2 + (y).toNat)) rfl (isC_S isC_1) (kCS isC_1) (by omega) ⟨rfl, rfl⟩ (rCs isC_1 (by omega)) ?_
    refine x_astore_n 12 (L' := [some (vR (some (ob bb))), some (vI (y)), some (vI (x)), some (vR (some ((ob bb + 1) + 2 + (y).toNat)))]) rfl (by decide) rfl rfl ?_
    refine x_iload_n 13 rfl rfl ?_
    rcases (show (x < 0 ∨ 9 < x) ∨ x = 0 ∨ x = 1 ∨ x = 2 ∨ x = 3 ∨ x = 4 ∨ x = 5 ∨ x = 6 ∨ x = 7 ∨ x = 8 ∨ x = 9 by omega) with h4 | h4 | h4 | h4 | h4 | h4 | h4 | h4 | h4 | h4 | h4
    · refine x_tabOut 14 (tgt := 173) rfl (by omega) h4 (by decide) ?_
      refine x_iconst 66 rfl ?_
      refine x_ret 67 (some (vI ((-1)))) rfl ⟨rfl, Or.inl rfl⟩ ⟨_, i, l, rfl, rfl, ?_⟩
      exact qs (z' := anSinger y x W) (by unfold anSinger; rw [if_neg (by omega), if_neg (by omega), if_neg (by omega), if_neg (by omega), if_neg (by omega), if_neg (by omega), if_neg (by omega), if_neg (by omega), if_neg (by omega), if_neg (by omega), if_neg (by omega)]) hR rfl (fun _ _ _ => rfl) (fun _ _ _ => rfl)
    · refine x_tabIn 14 (off := 56) (tgt := 80) rfl (by omega) (by omega) (by rw [h4]; rfl) (by decide) ?_
      refine x_aload_n 15 rfl rfl ?_
      refine x_getI 16 (z := i ((ob bb + 1) + 2 + (y).toNat) 0) rfl fl_X8_192 (isS_lt (isS.of isC_1 (show (y).toNat < 10 by omega))) (kS (isS.of isC_1 (show (y).toNat < 10 by omega))) rfl rfl ?_
      refine x_ret 17 (some (vI (i ((ob bb + 1) + 2 + (y).toNat) 0))) rfl ⟨rfl, Or.inl rfl⟩ ⟨_, i, l, rfl, rfl, ?_⟩
      exact qs (z' := anSinger y x W) (by unfold anSinger; rw [if_neg (by omega), if_pos (by omega)]; exact hsr.1.1) hR rfl (fun _ _ _ => rfl) (fun _ _ _ => rfl)
    · refine x_tabIn 14 (off := 61) (tgt := 85) rfl (by omega) (by omega) (by rw [h4]; rfl) (by decide) ?_
      refine x_aload_n 18 rfl rfl ?_
      refine x_getI 19 (z := i ((ob bb + 1) + 2 + (y).toNat) 1) rfl fl_X8_195 (isS_lt (isS.of isC_1 (show (y).toNat < 10 by omega))) (kS (isS.of isC_1 (show (y).toNat < 10 by omega))) rfl rfl ?_
      refine x_ret 20 (some (vI (i ((ob bb + 1) + 2 + (y).toNat) 1))) rfl ⟨rfl, Or.inl rfl⟩ ⟨_, i, l, rfl, rfl, ?_⟩
      exact qs (z' := anSinger y x W) (by unfold anSinger; rw [if_neg (by omega), if_neg (by omega), if_pos (by omega)]; exact hsr.1.2.1) hR rfl (fun _ _ _ => rfl) (fun _ _ _ => rfl)
    · refine x_tabIn 14 (off := 66) (tgt := 90) rfl (by omega) (by omega) (by rw [h4]; rfl) (by decide) ?_
      refine x_aload_n 21 rfl rfl ?_
      refine x_getI 22 (z := i ((ob bb + 1) + 2 + (y).toNat) 5) rfl fl_X8_113 (isS_lt (isS.of isC_1 (show (y).toNat < 10 by omega))) (kS (isS.of isC_1 (show (y).toNat < 10 by omega))) rfl rfl ?_
      refine x_if_ne 23 (tgt := 102) rfl (by decide) (by omega) (fun h5 => ?_) (fun h5 => ?_)
      · refine x_aload_n 26 rfl rfl ?_
        refine x_getI 27 (z := i ((ob bb + 1) + 2 + (y).toNat) 4) rfl fl_X8_198 (isS_lt (isS.of isC_1 (show (y).toNat < 10 by omega))) (kS (isS.of isC_1 (show (y).toNat < 10 by omega))) rfl rfl ?_
        refine x_ret 28 (some (vI (i ((ob bb + 1) + 2 + (y).toNat) 4))) rfl ⟨rfl, Or.inl rfl⟩ ⟨_, i, l, rfl, rfl, ?_⟩
        first
          | (exact qs (z' := anSinger y x W) (by unfold anSinger; rw [if_neg (by omega), if_neg (by omega), if_neg (by omega), if_pos (by omega)]; rw [if_neg (by have := hsr.2.2.2; omega), hsr.2.2.1]) hR rfl (fun _ _ _ => rfl) (fun _ _ _ => rfl))
          | (exact qs (z' := anSinger y x W) (by unfold anSinger; rw [if_neg (by omega), if_neg (by omega), if_neg (by omega), if_pos (by omega)]; rw [if_pos (by have := hsr.2.2.2; omega)]) hR rfl (fun _ _ _ => rfl) (fun _ _ _ => rfl))
      · refine x_bipush 24 rfl (by decide) ?_
        refine x_goto 25 (tgt := 106) rfl (by decide) ?_
        refine x_ret 28 (some (vI ((-9)))) rfl ⟨rfl, Or.inl rfl⟩ ⟨_, i, l, rfl, rfl, ?_⟩
        first
          | (exact qs (z' := anSinger y x W) (by unfold anSinger; rw [if_neg (by omega), if_neg (by omega), if_neg (by omega), if_pos (by omega)]; rw [if_neg (by have := hsr.2.2.2; omega), hsr.2.2.1]) hR rfl (fun _ _ _ => rfl) (fun _ _ _ => rfl))
          | (exact qs (z' := anSinger y x W) (by unfold anSinger; rw [if_neg (by omega), if_neg (by omega), if_neg (by omega), if_pos (by omega)]; rw [if_pos (by have := hsr.2.2.2; omega)]) hR rfl (fun _ _ _ => rfl) (fun _ _ _ => rfl))
    · refine x_tabIn 14 (off := 83) (tgt := 107) rfl (by omega) (by omega) (by rw [h4]; rfl) (by decide) ?_
      refine x_aload_n 29 rfl rfl ?_
      refine x_getI 30 (z := i ((ob bb + 1) + 2 + (y).toNat) 5) rfl fl_X8_113 (isS_lt (isS.of isC_1 (show (y).toNat < 10 by omega))) (kS (isS.of isC_1 (show (y).toNat < 10 by omega))) rfl rfl ?_
      refine x_if_ne 31 (tgt := 119) rfl (by decide) (by omega) (fun h6 => ?_) (fun h6 => ?_)
      · refine x_aload_n 34 rfl rfl ?_
        refine x_getI 35 (z := i ((ob bb + 1) + 2 + (y).toNat) 4) rfl fl_X8_198 (isS_lt (isS.of isC_1 (show (y).toNat < 10 by omega))) (kS (isS.of isC_1 (show (y).toNat < 10 by omega))) rfl rfl ?_
        refine x_aload_n 36 rfl rfl ?_
        refine x_getI 37 (z := i ((ob bb + 1) + 2 + (y).toNat) 5) rfl fl_X8_113 (isS_lt (isS.of isC_1 (show (y).toNat < 10 by omega))) (kS (isS.of isC_1 (show (y).toNat < 10 by omega))) rfl rfl ?_
        refine x_iadd 38 (r := (i ((ob bb + 1) + 2 + (y).toNat) 4) + (i ((ob bb + 1) + 2 + (y).toNat) 5)) rfl rfl ?_
        refine x_iconst 39 rfl ?_
        refine x_isub 40 (r := ((i ((ob bb + 1) + 2 + (y).toNat) 4) + (i ((ob bb + 1) + 2 + (y).toNat) 5)) - 1) rfl rfl ?_
        refine x_ret 41 (some (vI (((i ((ob bb + 1) + 2 + (y).toNat) 4) + (i ((ob bb + 1) + 2 + (y).toNat) 5)) - 1))) rfl ⟨rfl, Or.inl rfl⟩ ⟨_, i, l, rfl, rfl, ?_⟩
        first
          | (exact qs (z' := anSinger y x W) (by unfold anSinger; rw [if_neg (by omega), if_neg (by omega), if_neg (by omega), if_neg (by omega), if_pos (by omega)]; rw [if_neg (by have := hsr.2.2.2; omega), hsr.2.2.1, hsr.2.2.2]) hR rfl (fun _ _ _ => rfl) (fun _ _ _ => rfl))
          | (exact qs (z' := anSinger y x W) (by unfold anSinger; rw [if_neg (by omega), if_neg (by omega), if_neg (by omega), if_neg (by omega), if_pos (by omega)]; rw [if_pos (by have := hsr.2.2.2; omega)]) hR rfl (fun _ _ _ => rfl) (fun _ _ _ => rfl))
      · refine x_bipush 32 rfl (by decide) ?_
        refine x_goto 33 (tgt := 130) rfl (by decide) ?_
        refine x_ret 41 (some (vI ((-9)))) rfl ⟨rfl, Or.inl rfl⟩ ⟨_, i, l, rfl, rfl, ?_⟩
        first
          | (exact qs (z' := anSinger y x W) (by unfold anSinger; rw [if_neg (by omega), if_neg (by omega), if_neg (by omega), if_neg (by omega), if_pos (by omega)]; rw [if_neg (by have := hsr.2.2.2; omega), hsr.2.2.1, hsr.2.2.2]) hR rfl (fun _ _ _ => rfl) (fun _ _ _ => rfl))
          | (exact qs (z' := anSinger y x W) (by unfold anSinger; rw [if_neg (by omega), if_neg (by omega), if_neg (by omega), if_neg (by omega), if_pos (by omega)]; rw [if_pos (by have := hsr.2.2.2; omega)]) hR rfl (fun _ _ _ => rfl) (fun _ _ _ => rfl))
    · refine x_tabIn 14 (off := 107) (tgt := 131) rfl (by omega) (by omega) (by rw [h4]; rfl) (by decide) ?_
      refine x_aload_n 42 rfl rfl ?_
      refine x_getR 43 (z := (ob bb + 1)) rfl fl_X8_10 b_lt0 k_0 rfl r_0_0 ?_
      refine x_iload_n 44 rfl rfl ?_
      refine x_callV 45 m_X0_fittingParts (c_fittingParts isC_1 hO (by omega)) rfl ok_X0_fittingParts (isC_0 isC_1) (kC isC_1) rfl rfl ml_X8_201 im_X0_fittingParts se_X0_fittingParts rfl (by decide) rfl (Nat.le_of_ble_eq_true rfl) rfl rfl (fun v g q7 => ?_)
      obtain ⟨rfl, rfl⟩ := q7
      show mX m_X8_singer 6 _ 0 0 _ _ [vI (fFits i (ob bb + 1) y)] _
      refine x_ret 46 (some (vI (fFits i (ob bb + 1) y))) rfl ⟨rfl, Or.inl rfl⟩ ⟨_, i, l, rfl, rfl, ?_⟩
      exact qs (z' := anSinger y x W) (by unfold anSinger; rw [if_neg (by omega), if_neg (by omega), if_neg (by omega), if_neg (by omega), if_neg (by omega), if_pos (by omega)]; exact fFits_rel hR.1 (by omega) (by omega)) hR rfl (fun _ _ _ => rfl) (fun _ _ _ => rfl)
    · refine x_tabIn 14 (off := 116) (tgt := 140) rfl (by omega) (by omega) (by rw [h4]; rfl) (by decide) ?_
      refine x_aload_n 47 rfl rfl ?_
      refine x_getI 48 (z := i ((ob bb + 1) + 2 + (y).toNat) 6) rfl fl_X8_123 (isS_lt (isS.of isC_1 (show (y).toNat < 10 by omega))) (kS (isS.of isC_1 (show (y).toNat < 10 by omega))) rfl rfl ?_
      refine x_ret 49 (some (vI (i ((ob bb + 1) + 2 + (y).toNat) 6))) rfl ⟨rfl, Or.inl rfl⟩ ⟨_, i, l, rfl, rfl, ?_⟩
      exact qs (z' := anSinger y x W) (by unfold anSinger; rw [if_neg (by omega), if_neg (by omega), if_neg (by omega), if_neg (by omega), if_neg (by omega), if_neg (by omega), if_pos (by omega)]; exact hsr.1.2.2.1) hR rfl (fun _ _ _ => rfl) (fun _ _ _ => rfl)
    · refine x_tabIn 14 (off := 121) (tgt := 145) rfl (by omega) (by omega) (by rw [h4]; rfl) (by decide) ?_
      refine x_aload_n 50 rfl rfl ?_
      refine x_getI 51 (z := i ((ob bb + 1) + 2 + (y).toNat) 7) rfl fl_X8_144 (isS_lt (isS.of isC_1 (show (y).toNat < 10 by omega))) (kS (isS.of isC_1 (show (y).toNat < 10 by omega))) rfl rfl ?_
      refine x_if_eq 52 (tgt := 156) rfl (by decide) (by omega) (fun h8 => ?_) (fun h8 => ?_)
      · refine x_iconst 55 rfl ?_
        refine x_ret 56 (some (vI (0))) rfl ⟨rfl, Or.inl rfl⟩ ⟨_, i, l, rfl, rfl, ?_⟩
        have h3 := hsr.1.2.2.2.1
        have h3b := hsk.2.2.2.2.1
        first
          | (exact qs (z' := anSinger y x W) (by unfold anSinger; rw [if_neg (by omega), if_neg (by omega), if_neg (by omega), if_neg (by omega), if_neg (by omega), if_neg (by omega), if_neg (by omega), if_pos (by omega)]; omega) hR rfl (fun _ _ _ => rfl) (fun _ _ _ => rfl))
      · refine x_iconst 53 rfl ?_
        refine x_goto 54 (tgt := 157) rfl (by decide) ?_
        refine x_ret 56 (some (vI (1))) rfl ⟨rfl, Or.inl rfl⟩ ⟨_, i, l, rfl, rfl, ?_⟩
        have h3 := hsr.1.2.2.2.1
        have h3b := hsk.2.2.2.2.1
        first
          | (exact qs (z' := anSinger y x W) (by unfold anSinger; rw [if_neg (by omega), if_neg (by omega), if_neg (by omega), if_neg (by omega), if_neg (by omega), if_neg (by omega), if_neg (by omega), if_pos (by omega)]; omega) hR rfl (fun _ _ _ => rfl) (fun _ _ _ => rfl))
    · refine x_tabIn 14 (off := 134) (tgt := 158) rfl (by omega) (by omega) (by rw [h4]; rfl) (by decide) ?_
      refine x_aload_n 57 rfl rfl ?_
      refine x_getI 58 (z := i ((ob bb + 1) + 2 + (y).toNat) 8) rfl fl_X8_205 (isS_lt (isS.of isC_1 (show (y).toNat < 10 by omega))) (kS (isS.of isC_1 (show (y).toNat < 10 by omega))) rfl rfl ?_
      refine x_ret 59 (some (vI (i ((ob bb + 1) + 2 + (y).toNat) 8))) rfl ⟨rfl, Or.inl rfl⟩ ⟨_, i, l, rfl, rfl, ?_⟩
      exact qs (z' := anSinger y x W) (by unfold anSinger; rw [if_neg (by omega), if_neg (by omega), if_neg (by omega), if_neg (by omega), if_neg (by omega), if_neg (by omega), if_neg (by omega), if_neg (by omega), if_pos (by omega)]; exact hsr.1.2.2.2.2.1) hR rfl (fun _ _ _ => rfl) (fun _ _ _ => rfl)
    · refine x_tabIn 14 (off := 139) (tgt := 163) rfl (by omega) (by omega) (by rw [h4]; rfl) (by decide) ?_
      refine x_aload_n 60 rfl rfl ?_
      refine x_getI 61 (z := i ((ob bb + 1) + 2 + (y).toNat) 9) rfl fl_X8_206 (isS_lt (isS.of isC_1 (show (y).toNat < 10 by omega))) (kS (isS.of isC_1 (show (y).toNat < 10 by omega))) rfl rfl ?_
      refine x_ret 62 (some (vI (i ((ob bb + 1) + 2 + (y).toNat) 9))) rfl ⟨rfl, Or.inl rfl⟩ ⟨_, i, l, rfl, rfl, ?_⟩
      exact qs (z' := anSinger y x W) (by unfold anSinger; rw [if_neg (by omega), if_neg (by omega), if_neg (by omega), if_neg (by omega), if_neg (by omega), if_neg (by omega), if_neg (by omega), if_neg (by omega), if_neg (by omega), if_pos (by omega)]; exact hsr.1.2.2.2.2.2.1) hR rfl (fun _ _ _ => rfl) (fun _ _ _ => rfl)
    · refine x_tabIn 14 (off := 144) (tgt := 168) rfl (by omega) (by omega) (by rw [h4]; rfl) (by decide) ?_
      refine x_aload_n 63 rfl rfl ?_
      refine x_getI 64 (z := i ((ob bb + 1) + 2 + (y).toNat) 10) rfl fl_X8_209 (isS_lt (isS.of isC_1 (show (y).toNat < 10 by omega))) (kS (isS.of isC_1 (show (y).toNat < 10 by omega))) rfl rfl ?_
      refine x_ret 65 (some (vI (i ((ob bb + 1) + 2 + (y).toNat) 10))) rfl ⟨rfl, Or.inl rfl⟩ ⟨_, i, l, rfl, rfl, ?_⟩
      exact qs (z' := anSinger y x W) (by unfold anSinger; rw [if_neg (by omega), if_neg (by omega), if_neg (by omega), if_neg (by omega), if_neg (by omega), if_neg (by omega), if_neg (by omega), if_neg (by omega), if_neg (by omega), if_neg (by omega), if_pos (by omega)]; exact hsr.1.2.2.2.2.2.2) hR rfl (fun _ _ _ => rfl) (fun _ _ _ => rfl)
  · show mX m_X8_singer 6 _ 0 0 _ _ [vI (0)] _
    refine x_if_ne 4 (tgt := 13) rfl (by decide) (by decide) (fun h9 => absurd h9 (by decide)) (fun h9 => ?_)
    refine x_iconst 5 rfl ?_
    refine x_ret 6 (some (vI ((-1)))) rfl ⟨rfl, Or.inl rfl⟩ ⟨_, i, l, rfl, rfl, ?_⟩
    exact qs (z' := anSinger y x W) (by unfold anSinger; rw [if_pos (by omega)]) hR rfl (fun _ _ _ => rfl) (fun _ _ _ => rfl)
set_option maxRecDepth 20000 in
set_option maxHeartbeats 2000000 in
theorem c_b_note {i : Nat → Int → Int} {l : Nat → Int → BitVec 64} {W : Int → Int} {PN : Int} {P M : Int → Int → Int} {K : Int → Bool} {T : Int → Int} {TN FK FP : Int} (hR : RelB bb i l W PN P M K T TN FK FP) (hB : okB W PN P M K T TN) {y : Int} (hy : -2147483648 ≤ y ∧ y < 2147483648) {n : Int} (hn : -2147483648 ≤ n ∧ n < 2147483648) : mCtr m_X8_note 5 0 0 [vR (some (ob bb)), vI (y), vI (n)] (st nn i l) (qT nn bb i l (spAsk (anNote y n W) W PN P M K T TN FK FP)) := by
  refine mCtr_of pl_X8 dc_X8_note (Nat.le_of_ble_eq_true rfl) rfl ?_
  show mX m_X8_note 5 _ 0 0 0 [some (vR (some (ob bb))), some (vI (y)), some (vI (n)), none] [] (st nn i l)
  have hW := hB.1
  have hO := okC_of hR.1 hW
  have hN := hW.n
  have hCn := hO.n
  obtain ⟨⟨e4, e5, e6, e7⟩, ⟨s0, s1, s2, s3⟩, hwk, hsl, -⟩ := hR.1
  obtain ⟨o1, o2, o3⟩ := hR.2.1
  have hPN := hB.2.1
  have hTN := hB.2.2.2.2.1
  obtain ⟨t1, t2⟩ := hR.2.2.2.2.1
  have hcc : ∀ k, 0 ≤ k → k < i (ob bb + 170) 1 → 0 ≤ i (ob bb + 171) k ∧ i (ob bb + 171) k ≤ 127 := by intro k h0 h1; rw [t2 k h0 (by omega)]; have := hB.2.2.2.2.2 k h0 (by omega); omega
  refine x_aload_n 0 rfl rfl ?_
  refine x_getR 1 (z := (ob bb + 1)) rfl fl_X8_10 b_lt0 k_0 rfl r_0_0 ?_
  refine x_iload_n 2 rfl rfl ?_
  refine x_callV 3 m_X0_has (c_has isC_1 (by omega) (by omega)) rfl ok_X0_has (isC_0 isC_1) (kC isC_1) rfl rfl ml_X8_71 im_X0_has se_X0_has rfl (by decide) rfl (Nat.le_of_ble_eq_true rfl) rfl rfl (fun v g q1 => ?_)
  rcases q1 with ⟨rfl, ⟨h2, rfl⟩ | ⟨h2, rfl⟩⟩
  · show mX m_X8_note 5 _ 0 0 _ _ [vI (1)] _
    refine x_if_eq 4 (tgt := 21) rfl (by decide) (by decide) (fun h3 => absurd h3 (by decide)) (fun h3 => ?_)
    refine x_iload_n 5 rfl rfl ?_
    refine x_if_lt 6 (tgt := 21) rfl (by decide) (by omega) (fun h4 => ?_) (fun h4 => ?_)
    · refine x_iconst 10 rfl ?_
      refine x_ret 11 (some (vI ((-1)))) rfl ⟨rfl, Or.inl rfl⟩ ⟨_, i, l, rfl, rfl, ?_⟩
      exact qs (z' := anNote y n W) (by unfold anNote; rw [if_pos (by omega)]) hR rfl (fun _ _ _ => rfl) (fun _ _ _ => rfl)
    · refine x_iload_n 7 rfl rfl ?_
      refine x_bipush 8 rfl (by decide) ?_
      refine x_icmp_lt 9 (tgt := 23) rfl (by decide) (by omega) (fun h5 => ?_) (fun h5 => ?_)
      · have hsr := hR.1.s (s := y) (by omega) (by omega)
        have hnb := hsr.2.1 n (by omega) (by omega)
        have hvb := (hW.2.2.2.1 y (by omega) (by omega)).2.2.2.2.2.2.2 n (by omega) (by omega)
        refine x_aload_n 12 rfl rfl ?_
        refine x_getR 13 (z := (ob bb + 1)) rfl fl_X8_10 b_lt0 k_0 rfl r_0_0 ?_
        refine x_getR 14 (z := ((ob bb + 1) + 1)) rfl fl_X8_92 (isC_0 isC_1) (kC isC_1) rfl (rC0 isC_1) ?_
        refine x_iload_n 15 rfl rfl ?_
        refine x_aald 16 (t := 3) (z := ((ob bb + 1) + 2 + (y).toNat)) rfl (isC_S isC_1) (kCS isC_1) (by omega) ⟨rfl, rfl⟩ (rCs isC_1 (by omega)) ?_
        refine x_astore_n 17 (L' := [some (vR (some (ob bb))), some (vI (y)), some (vI (n)), some (vR (some ((ob bb + 1) + 2 + (y).toNat)))]) rfl (by decide) rfl rfl ?_
        refine x_aload_n 18 rfl rfl ?_
        refine x_getL 19 (z := l ((ob bb + 1) + 2 + (y).toNat) 2) rfl fl_X8_210 (isS_lt (isS.of isC_1 (show (y).toNat < 10 by omega))) (kS (isS.of isC_1 (show (y).toNat < 10 by omega))) rfl rfl ?_
        refine x_iload_n 20 rfl rfl ?_
        refine x_callS 21 m_X8_contains (c_contains (by omega)) rfl ok_X8_contains ml_X8_140 st_X8_contains rfl (by decide) rfl (Nat.le_of_ble_eq_true rfl) rfl rfl (fun v g q6 => ?_)
        rcases q6 with ⟨rfl, ⟨h7, rfl⟩ | ⟨h7, rfl⟩⟩
        · show mX m_X8_note 5 _ 0 0 _ _ [vI (1)] _
          have ht := hnb.1.mp h7
          refine x_if_ne 22 (tgt := 47) rfl (by decide) (by decide) (fun h8 => ?_) (fun h8 => absurd h8 (by decide))
          refine x_aload_n 25 rfl rfl ?_
          refine x_getL 26 (z := l ((ob bb + 1) + 2 + (y).toNat) 3) rfl fl_X8_213 (isS_lt (isS.of isC_1 (show (y).toNat < 10 by omega))) (kS (isS.of isC_1 (show (y).toNat < 10 by omega))) rfl rfl ?_
          refine x_iload_n 27 rfl rfl ?_
          refine x_callS 28 m_X8_contains (c_contains (by omega)) rfl ok_X8_contains ml_X8_140 st_X8_contains rfl (by decide) rfl (Nat.le_of_ble_eq_true rfl) rfl rfl (fun v g q9 => ?_)
          rcases q9 with ⟨rfl, ⟨h10, rfl⟩ | ⟨h10, rfl⟩⟩
          · show mX m_X8_note 5 _ 0 0 _ _ [vI (1)] _
            have hu := hnb.2.mp h10
            refine x_if_eq 29 (tgt := 62) rfl (by decide) (by decide) (fun h11 => absurd h11 (by decide)) (fun h11 => ?_)
            refine x_iconst 30 rfl ?_
            refine x_goto 31 (tgt := 63) rfl (by decide) ?_
            refine x_ret 33 (some (vI (1))) rfl ⟨rfl, Or.inl rfl⟩ ⟨_, i, l, rfl, rfl, ?_⟩
            exact qs (z' := anNote y n W) (by unfold anNote; rw [if_neg (by omega)]; omega) hR rfl (fun _ _ _ => rfl) (fun _ _ _ => rfl)
          · show mX m_X8_note 5 _ 0 0 _ _ [vI (0)] _
            have hu : ¬ (sV W y (7 + n) = 1) := fun q => h10 (hnb.2.mpr q)
            refine x_if_eq 29 (tgt := 62) rfl (by decide) (by decide) (fun h12 => ?_) (fun h12 => absurd h12 (by decide))
            refine x_iconst 32 rfl ?_
            refine x_ret 33 (some (vI (0))) rfl ⟨rfl, Or.inl rfl⟩ ⟨_, i, l, rfl, rfl, ?_⟩
            exact qs (z' := anNote y n W) (by unfold anNote; rw [if_neg (by omega)]; omega) hR rfl (fun _ _ _ => rfl) (fun _ _ _ => rfl)
        · show mX m_X8_note 5 _ 0 0 _ _ [vI (0)] _
          have ht : ¬ (sV W y (7 + n) ≠ -9) := fun q => h7 (hnb.1.mpr q)
          refine x_if_ne 22 (tgt := 47) rfl (by decide) (by decide) (fun h13 => absurd h13 (by decide)) (fun h13 => ?_)
          refine x_bipush 23 rfl (by decide) ?_
          refine x_ret 24 (some (vI ((-9)))) rfl ⟨rfl, Or.inl rfl⟩ ⟨_, i, l, rfl, rfl, ?_⟩
          exact qs (z' := anNote y n W) (by unfold anNote; rw [if_neg (by omega)]; first | omega | (have := Classical.not_not.mp ht; omega)) hR rfl (fun _ _ _ => rfl) (fun _ _ _ => rfl)
      · refine x_iconst 10 rfl ?_
        refine x_ret 11 (some (vI ((-1)))) rfl ⟨rfl, Or.inl rfl⟩ ⟨_, i, l, rfl, rfl, ?_⟩
        exact qs (z' := anNote y n W) (by unfold anNote; rw [if_pos (by omega)]) hR rfl (fun _ _ _ => rfl) (fun _ _ _ => rfl)
  · show mX m_X8_note 5 _ 0 0 _ _ [vI (0)] _
    refine x_if_eq 4 (tgt := 21) rfl (by decide) (by decide) (fun h14 => ?_) (fun h14 => absurd h14 (by decide))
    refine x_iconst 10 rfl ?_
    refine x_ret 11 (some (vI ((-1)))) rfl ⟨rfl, Or.inl rfl⟩ ⟨_, i, l, rfl, rfl, ?_⟩
    exact qs (z' := anNote y n W) (by unfold anNote; rw [if_pos (by omega)]) hR rfl (fun _ _ _ => rfl) (fun _ _ _ => rfl)
set_option maxRecDepth 20000 in
set_option maxHeartbeats 2000000 in
theorem c_b_overlap {i : Nat → Int → Int} {l : Nat → Int → BitVec 64} {W : Int → Int} {PN : Int} {P M : Int → Int → Int} {K : Int → Bool} {T : Int → Int} {TN FK FP : Int} (hR : RelB bb i l W PN P M K T TN FK FP) (hB : okB W PN P M K T TN) {y : Int} (hy : -2147483648 ≤ y ∧ y < 2147483648) {p : Int} (hp : -2147483648 ≤ p ∧ p < 2147483648) : mCtr m_X8_overlap 5 0 0 [vR (some (ob bb)), vI (y), vI (p)] (st nn i l) (qT nn bb i l (spAsk (anOverlap y p W) W PN P M K T TN FK FP)) := by
  refine mCtr_of pl_X8 dc_X8_overlap (Nat.le_of_ble_eq_true rfl) rfl ?_
  show mX m_X8_overlap 5 _ 0 0 0 [some (vR (some (ob bb))), some (vI (y)), some (vI (p))] [] (st nn i l)
  have hW := hB.1
  have hO := okC_of hR.1 hW
  have hN := hW.n
  have hCn := hO.n
  obtain ⟨⟨e4, e5, e6, e7⟩, ⟨s0, s1, s2, s3⟩, hwk, hsl, -⟩ := hR.1
  obtain ⟨o1, o2, o3⟩ := hR.2.1
  have hPN := hB.2.1
  have hTN := hB.2.2.2.2.1
  obtain ⟨t1, t2⟩ := hR.2.2.2.2.1
  have hcc : ∀ k, 0 ≤ k → k < i (ob bb + 170) 1 → 0 ≤ i (ob bb + 171) k ∧ i (ob bb + 171) k ≤ 127 := by intro k h0 h1; rw [t2 k h0 (by omega)]; have := hB.2.2.2.2.2 k h0 (by omega); omega
  refine x_aload_n 0 rfl rfl ?_
  refine x_getR 1 (z := (ob bb + 1)) rfl fl_X8_10 b_lt0 k_0 rfl r_0_0 ?_
  refine x_iload_n 2 rfl rfl ?_
  refine x_callV 3 m_X0_has (c_has isC_1 (by omega) (by omega)) rfl ok_X0_has (isC_0 isC_1) (kC isC_1) rfl rfl ml_X8_71 im_X0_has se_X0_has rfl (by decide) rfl (Nat.le_of_ble_eq_true rfl) rfl rfl (fun v g q1 => ?_)
  rcases q1 with ⟨rfl, ⟨h2, rfl⟩ | ⟨h2, rfl⟩⟩
  · show mX m_X8_overlap 5 _ 0 0 _ _ [vI (1)] _
    refine x_if_eq 4 (tgt := 18) rfl (by decide) (by decide) (fun h3 => absurd h3 (by decide)) (fun h3 => ?_)
    refine x_iload_n 5 rfl rfl ?_
    refine x_callS 6 m_X8_isPart (c_isPart (by omega)) rfl ok_X8_isPart ml_X8_116 st_X8_isPart rfl (by decide) rfl (Nat.le_of_ble_eq_true rfl) rfl rfl (fun v g q4 => ?_)
    rcases q4 with ⟨rfl, ⟨h5, rfl⟩ | ⟨h5, rfl⟩⟩
    · show mX m_X8_overlap 5 _ 0 0 _ _ [vI (1)] _
      refine x_if_ne 7 (tgt := 20) rfl (by decide) (by decide) (fun h6 => ?_) (fun h6 => absurd h6 (by decide))
      have hsr := hR.1.s (s := y) (by omega) (by omega)
      have hsk := hO.s (x := y) (by omega) (by omega)
      refine x_aload_n 10 rfl rfl ?_
      refine x_getR 11 (z := (ob bb + 1)) rfl fl_X8_10 b_lt0 k_0 rfl r_0_0 ?_
      refine x_getR 12 (z := ((ob bb + 1) + 1)) rfl fl_X8_92 (isC_0 isC_1) (kC isC_1) rfl (rC0 isC_1) ?_
      refine x_iload_n 13 rfl rfl ?_
      refine x_aald 14 (t := 3) (z := ((ob bb + 1) + 2 + (y).toNat)) rfl (isC_S isC_1) (kCS isC_1) (by omega) ⟨rfl, rfl⟩ (rCs isC_1 (by omega)) ?_
      refine x_iload_n 15 rfl rfl ?_
      refine x_callV 16 m_X5_notesIn (c_notesIn (isS.of isC_1 (show (y).toNat < 10 by omega)) (by omega) (by omega)) rfl ok_X5_notesIn (isS_lt (isS.of isC_1 (show (y).toNat < 10 by omega))) (kS (isS.of isC_1 (show (y).toNat < 10 by omega))) rfl rfl ml_X8_214 im_X5_notesIn se_X5_notesIn rfl (by decide) rfl (Nat.le_of_ble_eq_true rfl) rfl rfl (fun v g q7 => ?_)
      obtain ⟨rfl, rfl⟩ := q7
      show mX m_X8_overlap 5 _ 0 0 _ _ [vI (fIn i ((ob bb + 1) + 2 + (y).toNat) p)] _
      refine x_ret 17 (some (vI (fIn i ((ob bb + 1) + 2 + (y).toNat) p))) rfl ⟨rfl, Or.inl rfl⟩ ⟨_, i, l, rfl, rfl, ?_⟩
      exact qs (z' := anOverlap y p W) (by unfold anOverlap; rw [if_neg (by omega)]; exact fIn_rel hsr p) hR rfl (fun _ _ _ => rfl) (fun _ _ _ => rfl)
    · show mX m_X8_overlap 5 _ 0 0 _ _ [vI (0)] _
      refine x_if_ne 7 (tgt := 20) rfl (by decide) (by decide) (fun h8 => absurd h8 (by decide)) (fun h8 => ?_)
      refine x_iconst 8 rfl ?_
      refine x_ret 9 (some (vI ((-1)))) rfl ⟨rfl, Or.inl rfl⟩ ⟨_, i, l, rfl, rfl, ?_⟩
      exact qs (z' := anOverlap y p W) (by unfold anOverlap; rw [if_pos (by omega)]) hR rfl (fun _ _ _ => rfl) (fun _ _ _ => rfl)
  · show mX m_X8_overlap 5 _ 0 0 _ _ [vI (0)] _
    refine x_if_eq 4 (tgt := 18) rfl (by decide) (by decide) (fun h9 => ?_) (fun h9 => absurd h9 (by decide))
    refine x_iconst 8 rfl ?_
    refine x_ret 9 (some (vI ((-1)))) rfl ⟨rfl, Or.inl rfl⟩ ⟨_, i, l, rfl, rfl, ?_⟩
    exact qs (z' := anOverlap y p W) (by unfold anOverlap; rw [if_pos (by omega)]) hR rfl (fun _ _ _ => rfl) (fun _ _ _ => rfl)
set_option maxRecDepth 20000 in
set_option maxHeartbeats 2000000 in
theorem c_b_part {i : Nat → Int → Int} {l : Nat → Int → BitVec 64} {W : Int → Int} {PN : Int} {P M : Int → Int → Int} {K : Int → Bool} {T : Int → Int} {TN FK FP : Int} (hR : RelB bb i l W PN P M K T TN FK FP) (hB : okB W PN P M K T TN) {p : Int} (hp : -2147483648 ≤ p ∧ p < 2147483648) {x : Int} (hx : -2147483648 ≤ x ∧ x < 2147483648) : mCtr m_X8_part 8 0 0 [vR (some (ob bb)), vI (p), vI (x)] (st nn i l) (qT nn bb i l (spAsk (anPart p x W) W PN P M K T TN FK FP)) := by
  refine mCtr_of pl_X8 dc_X8_part (Nat.le_of_ble_eq_true rfl) rfl ?_
  show mX m_X8_part 8 _ 0 0 0 [some (vR (some (ob bb))), some (vI (p)), some (vI (x))] [] (st nn i l)
  have hW := hB.1
  have hO := okC_of hR.1 hW
  have hN := hW.n
  have hCn := hO.n
  obtain ⟨⟨e4, e5, e6, e7⟩, ⟨s0, s1, s2, s3⟩, hwk, hsl, -⟩ := hR.1
  obtain ⟨o1, o2, o3⟩ := hR.2.1
  have hPN := hB.2.1
  have hTN := hB.2.2.2.2.1
  obtain ⟨t1, t2⟩ := hR.2.2.2.2.1
  have hcc : ∀ k, 0 ≤ k → k < i (ob bb + 170) 1 → 0 ≤ i (ob bb + 171) k ∧ i (ob bb + 171) k ≤ 127 := by intro k h0 h1; rw [t2 k h0 (by omega)]; have := hB.2.2.2.2.2 k h0 (by omega); omega
  refine x_iload_n 0 rfl rfl ?_
  refine x_callS 1 m_X8_isPart (c_isPart (by omega)) rfl ok_X8_isPart ml_X8_116 st_X8_isPart rfl (by decide) rfl (Nat.le_of_ble_eq_true rfl) rfl rfl (fun v g q1 => ?_)
  rcases q1 with ⟨rfl, ⟨h2, rfl⟩ | ⟨h2, rfl⟩⟩
  · show mX m_X8_part 8 _ 0 0 _ _ [vI (1)] _
    refine x_if_ne 2 (tgt := 9) rfl (by decide) (by decide) (fun h3 => ?_) (fun h3 => absurd h3 (by decide))
    refine x_iload_n 5 rfl rfl ?_
    rcases (show (x < 0 ∨ 5 < x) ∨ x = 0 ∨ x = 1 ∨ x = 2 ∨ x = 3 ∨ x = 4 ∨ x = 5 by omega) with h4 | h4 | h4 | h4 | h4 | h4 | h4
    · refine x_tabOut 6 (tgt := 115) rfl (by omega) h4 (by decide) ?_
      refine x_iconst 44 rfl ?_
      refine x_ret 45 (some (vI ((-1)))) rfl ⟨rfl, Or.inl rfl⟩ ⟨_, i, l, rfl, rfl, ?_⟩
      exact qs (z' := anPart p x W) (by unfold anPart; rw [if_neg (by omega), if_neg (by omega), if_neg (by omega), if_neg (by omega), if_neg (by omega), if_neg (by omega), if_neg (by omega)]) hR rfl (fun _ _ _ => rfl) (fun _ _ _ => rfl)
    · refine x_tabIn 6 (off := 38) (tgt := 48) rfl (by omega) (by omega) (by rw [h4]; rfl) (by decide) ?_
      refine x_aload_n 7 rfl rfl ?_
      refine x_getR 8 (z := (ob bb + 1)) rfl fl_X8_10 b_lt0 k_0 rfl r_0_0 ?_
      refine x_iload_n 9 rfl rfl ?_
      refine x_callV 10 m_X0_members (c_members isC_1 hO (by omega)) rfl ok_X0_members (isC_0 isC_1) (kC isC_1) rfl rfl ml_X8_217 im_X0_members se_X0_members rfl (by decide) rfl (Nat.le_of_ble_eq_true rfl) rfl rfl (fun v g q5 => ?_)
      obtain ⟨rfl, rfl⟩ := q5
      show mX m_X8_part 8 _ 0 0 _ _ [vI (fMem i (ob bb + 1) p)] _
      refine x_ret 11 (some (vI (fMem i (ob bb + 1) p))) rfl ⟨rfl, Or.inl rfl⟩ ⟨_, i, l, rfl, rfl, ?_⟩
      exact qs (z' := anPart p x W) (by unfold anPart; rw [if_neg (by omega), if_pos (by omega)]; exact fMem_rel hR.1 p) hR rfl (fun _ _ _ => rfl) (fun _ _ _ => rfl)
    · refine x_tabIn 6 (off := 47) (tgt := 57) rfl (by omega) (by omega) (by rw [h4]; rfl) (by decide) ?_
      refine x_aload_n 12 rfl rfl ?_
      refine x_getR 13 (z := (ob bb + 1)) rfl fl_X8_10 b_lt0 k_0 rfl r_0_0 ?_
      refine x_iload_n 14 rfl rfl ?_
      refine x_callV 15 m_X0_strength (c_strength isC_1 hO (by omega)) rfl ok_X0_strength (isC_0 isC_1) (kC isC_1) rfl rfl ml_X8_220 im_X0_strength se_X0_strength rfl (by decide) rfl (Nat.le_of_ble_eq_true rfl) rfl rfl (fun v g q6 => ?_)
      obtain ⟨rfl, rfl⟩ := q6
      show mX m_X8_part 8 _ 0 0 _ _ [vI (fStr i (ob bb + 1) p)] _
      refine x_ret 16 (some (vI (fStr i (ob bb + 1) p))) rfl ⟨rfl, Or.inl rfl⟩ ⟨_, i, l, rfl, rfl, ?_⟩
      exact qs (z' := anPart p x W) (by unfold anPart; rw [if_neg (by omega), if_neg (by omega), if_pos (by omega)]; exact fStr_rel hR.1 p) hR rfl (fun _ _ _ => rfl) (fun _ _ _ => rfl)
    · refine x_tabIn 6 (off := 56) (tgt := 66) rfl (by omega) (by omega) (by rw [h4]; rfl) (by decide) ?_
      refine x_aload_n 17 rfl rfl ?_
      refine x_getR 18 (z := (ob bb + 1)) rfl fl_X8_10 b_lt0 k_0 rfl r_0_0 ?_
      refine x_iload_n 19 rfl rfl ?_
      refine x_callV 20 m_X0_strengthPresent (c_strengthPresent isC_1 hO (by omega)) rfl ok_X0_strengthPresent (isC_0 isC_1) (kC isC_1) rfl rfl ml_X8_222 im_X0_strengthPresent se_X0_strengthPresent rfl (by decide) rfl (Nat.le_of_ble_eq_true rfl) rfl rfl (fun v g q7 => ?_)
      obtain ⟨rfl, rfl⟩ := q7
      show mX m_X8_part 8 _ 0 0 _ _ [vI (fPres i (ob bb + 1) p)] _
      refine x_ret 21 (some (vI (fPres i (ob bb + 1) p))) rfl ⟨rfl, Or.inl rfl⟩ ⟨_, i, l, rfl, rfl, ?_⟩
      exact qs (z' := anPart p x W) (by unfold anPart; rw [if_neg (by omega), if_neg (by omega), if_neg (by omega), if_pos (by omega)]; exact fPres_rel hR.1 p) hR rfl (fun _ _ _ => rfl) (fun _ _ _ => rfl)
    · refine x_tabIn 6 (off := 65) (tgt := 75) rfl (by omega) (by omega) (by rw [h4]; rfl) (by decide) ?_
      refine x_aload_n 22 rfl rfl ?_
      refine x_getR 23 (z := (ob bb + 1)) rfl fl_X8_10 b_lt0 k_0 rfl r_0_0 ?_
      refine x_getR 24 (z := ((ob bb + 1) + 14)) rfl fl_X8_225 (isC_0 isC_1) (kC isC_1) rfl (rC3 isC_1) ?_
      refine x_iload_n 25 rfl rfl ?_
      refine x_iald 26 (z := i ((ob bb + 1) + 14) p) rfl (isC_W isC_1) (kCW isC_1) (by omega) rfl ?_
      refine x_ret 27 (some (vI (i ((ob bb + 1) + 14) p))) rfl ⟨rfl, Or.inl rfl⟩ ⟨_, i, l, rfl, rfl, ?_⟩
      exact qs (z' := anPart p x W) (by unfold anPart; rw [if_neg (by omega), if_neg (by omega), if_neg (by omega), if_neg (by omega), if_pos (by omega)]; exact hwk p (by omega) (by omega)) hR rfl (fun _ _ _ => rfl) (fun _ _ _ => rfl)
    · refine x_tabIn 6 (off := 75) (tgt := 85) rfl (by omega) (by omega) (by rw [h4]; rfl) (by decide) ?_
      refine x_aload_n 28 rfl rfl ?_
      refine x_getR 29 (z := (ob bb + 1)) rfl fl_X8_10 b_lt0 k_0 rfl r_0_0 ?_
      refine x_iload_n 30 rfl rfl ?_
      refine x_callV 31 m_X0_rows (c_rows isC_1 hO (by omega)) rfl ok_X0_rows (isC_0 isC_1) (kC isC_1) rfl rfl ml_X8_228 im_X0_rows se_X0_rows rfl (by decide) rfl (Nat.le_of_ble_eq_true rfl) rfl rfl (fun v g q8 => ?_)
      obtain ⟨rfl, rfl⟩ := q8
      show mX m_X8_part 8 _ 0 0 _ _ [vI (fRows i (ob bb + 1) p)] _
      refine x_ret 32 (some (vI (fRows i (ob bb + 1) p))) rfl ⟨rfl, Or.inl rfl⟩ ⟨_, i, l, rfl, rfl, ?_⟩
      exact qs (z' := anPart p x W) (by unfold anPart; rw [if_neg (by omega), if_neg (by omega), if_neg (by omega), if_neg (by omega), if_neg (by omega), if_pos (by omega)]; exact fRows_rel hR.1 p) hR rfl (fun _ _ _ => rfl) (fun _ _ _ => rfl)
    · refine x_tabIn 6 (off := 84) (tgt := 94) rfl (by omega) (by omega) (by rw [h4]; rfl) (by decide) ?_
      refine x_aload_n 33 rfl rfl ?_
      refine x_getR 34 (z := (ob bb + 173)) rfl fl_X8_48 b_lt0 k_0 rfl r_0_6 ?_
      refine x_aload_n 35 rfl rfl ?_
      refine x_getR 36 (z := (ob bb + 1)) rfl fl_X8_10 b_lt0 k_0 rfl r_0_0 ?_
      refine x_callV 37 m_X4_plan (c_plan isC_1 hO) rfl ok_X4_plan (b_lt rfl) k_173 rfl rfl ml_X8_155 im_X4_plan se_X4_plan rfl (by decide) rfl (Nat.le_of_ble_eq_true rfl) rfl rfl (fun v g q9 => ?_)
      obtain ⟨rfl, i10, li10, rfl, hi10⟩ := q9
      show mX m_X8_part 8 _ 0 0 _ _ [] _
      obtain ⟨rfl, hpf, hps, hpo⟩ := hi10
      rw [plT_rel hR.1 (by omega)] at hps
      have h174 : ∀ k, 0 ≤ k → k < 10 → i10 (ob bb + 174) k = (plT W).1 k := by intro k h0 h1; rw [← hps]; show _ = (if 0 ≤ k ∧ k < 10 then _ else _); rw [if_pos ⟨h0, h1⟩]
      have h176 : ∀ p, 0 ≤ p → p < 4 → i10 (ob bb + 176) p = plS W p := by intro p h0 h1; rw [hpo p h0 h1]; exact plS_rel hR.1 (by omega) p
      have hR2 := RelB_same (i' := i10) hR hB (fun a b ha => hpf a b (by omega) (by omega) (by omega)) (fun _ _ _ => rfl) (hpf (ob bb + 172) 2 (by omega) (by omega) (by omega)) (hpf (ob bb + 172) 3 (by omega) (by omega) (by omega)) (by have hz := hR.2.2.2.2.2.2; unfold PZ at hz ⊢; rw [hpf (ob bb + 184) 0 (by omega) (by omega) (by omega)]; exact hz)
      have fr2 : ∀ a b, (a < ob bb ∨ ob bb + 189 ≤ a) → i10 a b = i a b := fun a b ha => hpf a b (by omega) (by omega) (by omega)
      refine x_aload_n 38 rfl rfl ?_
      refine x_getR 39 (z := (ob bb + 173)) rfl fl_X8_48 b_lt0 k_0 rfl r_0_6 ?_
      refine x_getR 40 (z := (ob bb + 176)) rfl fl_X8_231 (b_lt rfl) k_173 rfl r_173_2 ?_
      refine x_iload_n 41 rfl rfl ?_
      refine x_iald 42 (z := i10 (ob bb + 176) p) rfl (b_lt rfl) k_176 (by omega) rfl ?_
      refine x_ret 43 (some (vI (i10 (ob bb + 176) p))) rfl ⟨rfl, Or.inl rfl⟩ ⟨_, i10, li10, rfl, rfl, ?_⟩
      exact qs (z' := anPart p x W) (by unfold anPart; rw [if_neg (by omega), if_neg (by omega), if_neg (by omega), if_neg (by omega), if_neg (by omega), if_neg (by omega), if_pos (by omega)]; exact h176 p (by omega) (by omega)) hR2 rfl fr2 (fun _ _ _ => rfl)
  · show mX m_X8_part 8 _ 0 0 _ _ [vI (0)] _
    refine x_if_ne 2 (tgt := 9) rfl (by decide) (by decide) (fun h11 => absurd h11 (by decide)) (fun h11 => ?_)
    refine x_iconst 3 rfl ?_
    refine x_ret 4 (some (vI ((-1)))) rfl ⟨rfl, Or.inl rfl⟩ ⟨_, i, l, rfl, rfl, ?_⟩
    exact qs (z' := anPart p x W) (by unfold anPart; rw [if_pos (by omega)]) hR rfl (fun _ _ _ => rfl) (fun _ _ _ => rfl)
set_option maxRecDepth 20000 in
set_option maxHeartbeats 2000000 in
theorem c_b_seat {i : Nat → Int → Int} {l : Nat → Int → BitVec 64} {W : Int → Int} {PN : Int} {P M : Int → Int → Int} {K : Int → Bool} {T : Int → Int} {TN FK FP : Int} (hR : RelB bb i l W PN P M K T TN FK FP) (hB : okB W PN P M K T TN) {y : Int} (hy : -2147483648 ≤ y ∧ y < 2147483648) {x : Int} (hx : -2147483648 ≤ x ∧ x < 2147483648) : mCtr m_X8_seat 7 0 0 [vR (some (ob bb)), vI (y), vI (x)] (st nn i l) (qT nn bb i l (spAsk (anSeat y x W) W PN P M K T TN FK FP)) := by
  refine mCtr_of pl_X8 dc_X8_seat (Nat.le_of_ble_eq_true rfl) rfl ?_
  show mX m_X8_seat 7 _ 0 0 0 [some (vR (some (ob bb))), some (vI (y)), some (vI (x)), none, none, none] [] (st nn i l)
  have hW := hB.1
  have hO := okC_of hR.1 hW
  have hN := hW.n
  have hCn := hO.n
  obtain ⟨⟨e4, e5, e6, e7⟩, ⟨s0, s1, s2, s3⟩, hwk, hsl, -⟩ := hR.1
  obtain ⟨o1, o2, o3⟩ := hR.2.1
  have hPN := hB.2.1
  have hTN := hB.2.2.2.2.1
  obtain ⟨t1, t2⟩ := hR.2.2.2.2.1
  have hcc : ∀ k, 0 ≤ k → k < i (ob bb + 170) 1 → 0 ≤ i (ob bb + 171) k ∧ i (ob bb + 171) k ≤ 127 := by intro k h0 h1; rw [t2 k h0 (by omega)]; have := hB.2.2.2.2.2 k h0 (by omega); omega
  refine x_aload_n 0 rfl rfl ?_
  refine x_getR 1 (z := (ob bb + 1)) rfl fl_X8_10 b_lt0 k_0 rfl r_0_0 ?_
  refine x_iload_n 2 rfl rfl ?_
  refine x_callV 3 m_X0_has (c_has isC_1 (by omega) (by omega)) rfl ok_X0_has (isC_0 isC_1) (kC isC_1) rfl rfl ml_X8_71 im_X0_has se_X0_has rfl (by decide) rfl (Nat.le_of_ble_eq_true rfl) rfl rfl (fun v g q1 => ?_)
  rcases q1 with ⟨rfl, ⟨h2, rfl⟩ | ⟨h2, rfl⟩⟩
  · show mX m_X8_seat 7 _ 0 0 _ _ [vI (1)] _
    refine x_if_eq 4 (tgt := 20) rfl (by decide) (by decide) (fun h3 => absurd h3 (by decide)) (fun h3 => ?_)
    refine x_iload_n 5 rfl rfl ?_
    refine x_if_lt 6 (tgt := 20) rfl (by decide) (by omega) (fun h4 => ?_) (fun h4 => ?_)
    · refine x_iconst 10 rfl ?_
      refine x_ret 11 (some (vI ((-1)))) rfl ⟨rfl, Or.inl rfl⟩ ⟨_, i, l, rfl, rfl, ?_⟩
      exact qs (z' := anSeat y x W) (by unfold anSeat; rw [if_pos (by omega)]) hR rfl (fun _ _ _ => rfl) (fun _ _ _ => rfl)
    · refine x_iload_n 7 rfl rfl ?_
      refine x_iconst 8 rfl ?_
      refine x_icmp_le 9 (tgt := 22) rfl (by decide) (by omega) (fun h5 => ?_) (fun h5 => ?_)
      · have hsr := hR.1.s (s := y) (by omega) (by omega)
        have hsk := hO.s (x := y) (by omega) (by omega)
        have h2r := hsr.1.2.2.1
        refine x_aload_n 12 rfl rfl ?_
        refine x_getR 13 (z := (ob bb + 1)) rfl fl_X8_10 b_lt0 k_0 rfl r_0_0 ?_
        refine x_getR 14 (z := ((ob bb + 1) + 1)) rfl fl_X8_92 (isC_0 isC_1) (kC isC_1) rfl (rC0 isC_1) ?_
        refine x_iload_n 15 rfl rfl ?_
        refine x_aald 16 (t := 3) (z := ((ob bb + 1) + 2 + (y).toNat)) rfl (isC_S isC_1) (kCS isC_1) (by omega) ⟨rfl, rfl⟩ (rCs isC_1 (by omega)) ?_
        refine x_getI 17 (z := i ((ob bb + 1) + 2 + (y).toNat) 6) rfl fl_X8_123 (isS_lt (isS.of isC_1 (show (y).toNat < 10 by omega))) (kS (isS.of isC_1 (show (y).toNat < 10 by omega))) rfl rfl ?_
        refine x_istore_n 18 (L' := [some (vR (some (ob bb))), some (vI (y)), some (vI (x)), some (vI (i ((ob bb + 1) + 2 + (y).toNat) 6)), none, none]) rfl (by decide) rfl rfl ?_
        refine x_iload_n 19 rfl rfl ?_
        refine x_callS 20 m_X8_isPart (c_isPart (by omega)) rfl ok_X8_isPart ml_X8_116 st_X8_isPart rfl (by decide) rfl (Nat.le_of_ble_eq_true rfl) rfl rfl (fun v g q6 => ?_)
        rcases q6 with ⟨rfl, ⟨h7, rfl⟩ | ⟨h7, rfl⟩⟩
        · show mX m_X8_seat 7 _ 0 0 _ _ [vI (1)] _
          refine x_if_ne 21 (tgt := 45) rfl (by decide) (by decide) (fun h8 => ?_) (fun h8 => absurd h8 (by decide))
          have hst := fSeat_rel hR.1 (s := y) (by omega) (by omega)
          have hsb : 0 ≤ fSeat i (ob bb + 1) y ∧ fSeat i (ob bb + 1) y ≤ 10 := fSeat_bd hO (by omega)
          refine x_aload_n 24 rfl rfl ?_
          refine x_getR 25 (z := (ob bb + 1)) rfl fl_X8_10 b_lt0 k_0 rfl r_0_0 ?_
          refine x_iload_n 26 rfl rfl ?_
          refine x_callV 27 m_X0_seatedBefore (c_seatedBefore isC_1 hO (by omega)) rfl ok_X0_seatedBefore (isC_0 isC_1) (kC isC_1) rfl rfl ml_X8_234 im_X0_seatedBefore se_X0_seatedBefore rfl (by decide) rfl (Nat.le_of_ble_eq_true rfl) rfl rfl (fun v g q9 => ?_)
          obtain ⟨rfl, rfl⟩ := q9
          show mX m_X8_seat 7 _ 0 0 _ _ [vI (fSeat i (ob bb + 1) y)] _
          refine x_istore 28 (L' := [some (vR (some (ob bb))), some (vI (y)), some (vI (x)), some (vI (i ((ob bb + 1) + 2 + (y).toNat) 6)), some (vI (fSeat i (ob bb + 1) y)), none]) rfl (by decide) rfl rfl ?_
          refine x_iload_n 29 rfl rfl ?_
          refine x_if_ne 30 (tgt := 79) rfl (by decide) (by omega) (fun h10 => ?_) (fun h10 => ?_)
          · have hmod := Int.emod_nonneg (fSeat i (ob bb + 1) y) (show i ((ob bb + 1) + 12) 3 ≠ 0 by omega)
            have hmod2 := Int.emod_lt_of_pos (fSeat i (ob bb + 1) y) (show 0 < i ((ob bb + 1) + 12) 3 by omega)
            refine x_iload 42 rfl rfl ?_
            refine x_aload_n 43 rfl rfl ?_
            refine x_getR 44 (z := (ob bb + 1)) rfl fl_X8_10 b_lt0 k_0 rfl r_0_0 ?_
            refine x_callV 45 m_X0_width (c_width isC_1 hO) rfl ok_X0_width (isC_0 isC_1) (kC isC_1) rfl rfl ml_X8_240 im_X0_width se_X0_width rfl (by decide) rfl (Nat.le_of_ble_eq_true rfl) rfl rfl (fun v g q11 => ?_)
            obtain ⟨rfl, rfl⟩ := q11
            show mX m_X8_seat 7 _ 0 0 _ _ [vI (i ((ob bb + 1) + 12) 3), vI (fSeat i (ob bb + 1) y)] _
            refine x_irem 46 (r := (fSeat i (ob bb + 1) y) % (i ((ob bb + 1) + 12) 3)) rfl (by omega) rfl ?_
            refine x_istore 47 (L' := [some (vR (some (ob bb))), some (vI (y)), some (vI (x)), some (vI (i ((ob bb + 1) + 2 + (y).toNat) 6)), some (vI (fSeat i (ob bb + 1) y)), some (vI ((fSeat i (ob bb + 1) y) % (i ((ob bb + 1) + 12) 3)))]) rfl (by decide) rfl rfl ?_
            refine x_iload 48 rfl rfl ?_
            refine x_iconst 49 rfl ?_
            refine x_irem 50 (r := ((fSeat i (ob bb + 1) y) % (i ((ob bb + 1) + 12) 3)) % 2) rfl (by omega) rfl ?_
            refine x_iconst 51 rfl ?_
            refine x_icmp_ne 52 (tgt := 108) rfl (by decide) (by omega) (fun h12 => ?_) (fun h12 => ?_)
            · refine x_iload 59 rfl rfl ?_
              refine x_iconst 60 rfl ?_
              refine x_idiv 61 (r := ((fSeat i (ob bb + 1) y) % (i ((ob bb + 1) + 12) 3)) / 2) rfl (by omega) rfl ?_
              refine x_ineg 62 (r := -(((fSeat i (ob bb + 1) y) % (i ((ob bb + 1) + 12) 3)) / 2)) rfl rfl ?_
              refine x_ret 63 (some (vI (-(((fSeat i (ob bb + 1) y) % (i ((ob bb + 1) + 12) 3)) / 2)))) rfl ⟨rfl, Or.inl rfl⟩ ⟨_, i, l, rfl, rfl, ?_⟩
              first
                | (exact qs (z' := anSeat y x W) (by unfold anSeat; rw [if_neg (by omega), if_neg (by omega), if_neg (by omega), ← hst, ← s3, if_pos (by omega)]) hR rfl (fun _ _ _ => rfl) (fun _ _ _ => rfl))
                | (exact qs (z' := anSeat y x W) (by unfold anSeat; rw [if_neg (by omega), if_neg (by omega), if_neg (by omega), ← hst, ← s3, if_neg (by omega)]) hR rfl (fun _ _ _ => rfl) (fun _ _ _ => rfl))
            · refine x_iload 53 rfl rfl ?_
              refine x_iconst 54 rfl ?_
              refine x_iadd 55 (r := ((fSeat i (ob bb + 1) y) % (i ((ob bb + 1) + 12) 3)) + 1) rfl rfl ?_
              refine x_iconst 56 rfl ?_
              refine x_idiv 57 (r := (((fSeat i (ob bb + 1) y) % (i ((ob bb + 1) + 12) 3)) + 1) / 2) rfl (by omega) rfl ?_
              refine x_goto 58 (tgt := 113) rfl (by decide) ?_
              refine x_ret 63 (some (vI ((((fSeat i (ob bb + 1) y) % (i ((ob bb + 1) + 12) 3)) + 1) / 2))) rfl ⟨rfl, Or.inl rfl⟩ ⟨_, i, l, rfl, rfl, ?_⟩
              first
                | (exact qs (z' := anSeat y x W) (by unfold anSeat; rw [if_neg (by omega), if_neg (by omega), if_neg (by omega), ← hst, ← s3, if_pos (by omega)]) hR rfl (fun _ _ _ => rfl) (fun _ _ _ => rfl))
                | (exact qs (z' := anSeat y x W) (by unfold anSeat; rw [if_neg (by omega), if_neg (by omega), if_neg (by omega), ← hst, ← s3, if_neg (by omega)]) hR rfl (fun _ _ _ => rfl) (fun _ _ _ => rfl))
          · refine x_aload_n 31 rfl rfl ?_
            refine x_getR 32 (z := (ob bb + 1)) rfl fl_X8_10 b_lt0 k_0 rfl r_0_0 ?_
            refine x_iload_n 33 rfl rfl ?_
            have hrw : sumZ (fun k => fRows i (ob bb + 1) k) (i ((ob bb + 1) + 2 + y.toNat) 6) = sumZ (fun k => gRows W k) (i ((ob bb + 1) + 2 + y.toNat) 6) := sumZ_congr (fun k _ _ => fRows_rel hR.1 k)
            refine x_callV 34 m_X0_rowsBefore (c_rowsBefore isC_1 hO (by omega)) rfl ok_X0_rowsBefore (isC_0 isC_1) (kC isC_1) rfl rfl ml_X8_237 im_X0_rowsBefore se_X0_rowsBefore rfl (by decide) rfl (Nat.le_of_ble_eq_true rfl) rfl rfl (fun v g q13 => ?_)
            obtain ⟨rfl, rfl⟩ := q13
            show mX m_X8_seat 7 _ 0 0 _ _ [vI (sumZ (fun k => fRows i (ob bb + 1) k) (i ((ob bb + 1) + 2 + (y).toNat) 6))] _
            refine x_iload 35 rfl rfl ?_
            refine x_aload_n 36 rfl rfl ?_
            refine x_getR 37 (z := (ob bb + 1)) rfl fl_X8_10 b_lt0 k_0 rfl r_0_0 ?_
            refine x_callV 38 m_X0_width (c_width isC_1 hO) rfl ok_X0_width (isC_0 isC_1) (kC isC_1) rfl rfl ml_X8_240 im_X0_width se_X0_width rfl (by decide) rfl (Nat.le_of_ble_eq_true rfl) rfl rfl (fun v g q14 => ?_)
            obtain ⟨rfl, rfl⟩ := q14
            show mX m_X8_seat 7 _ 0 0 _ _ [vI (i ((ob bb + 1) + 12) 3), vI (fSeat i (ob bb + 1) y), vI (sumZ (fun k => fRows i (ob bb + 1) k) (i ((ob bb + 1) + 2 + (y).toNat) 6))] _
            refine x_idiv 39 (r := (fSeat i (ob bb + 1) y) / (i ((ob bb + 1) + 12) 3)) rfl (by omega) rfl ?_
            refine x_iadd 40 (r := (sumZ (fun k => fRows i (ob bb + 1) k) (i ((ob bb + 1) + 2 + (y).toNat) 6)) + ((fSeat i (ob bb + 1) y) / (i ((ob bb + 1) + 12) 3))) rfl rfl ?_
            refine x_ret 41 (some (vI ((sumZ (fun k => fRows i (ob bb + 1) k) (i ((ob bb + 1) + 2 + (y).toNat) 6)) + ((fSeat i (ob bb + 1) y) / (i ((ob bb + 1) + 12) 3))))) rfl ⟨rfl, Or.inl rfl⟩ ⟨_, i, l, rfl, rfl, ?_⟩
            exact qs (z' := anSeat y x W) (by unfold anSeat; rw [if_neg (by omega), if_neg (by omega), if_pos (by omega)]; rw [hst, s3, ← h2r]; exact congrArg (· + _) (sumZ_congr (fun k _ _ => fRows_rel hR.1 k))) hR rfl (fun _ _ _ => rfl) (fun _ _ _ => rfl)
        · show mX m_X8_seat 7 _ 0 0 _ _ [vI (0)] _
          refine x_if_ne 21 (tgt := 45) rfl (by decide) (by decide) (fun h15 => absurd h15 (by decide)) (fun h15 => ?_)
          refine x_bipush 22 rfl (by decide) ?_
          refine x_ret 23 (some (vI ((-9)))) rfl ⟨rfl, Or.inl rfl⟩ ⟨_, i, l, rfl, rfl, ?_⟩
          exact qs (z' := anSeat y x W) (by unfold anSeat; rw [if_neg (by omega), if_pos (by omega)]) hR rfl (fun _ _ _ => rfl) (fun _ _ _ => rfl)
      · refine x_iconst 10 rfl ?_
        refine x_ret 11 (some (vI ((-1)))) rfl ⟨rfl, Or.inl rfl⟩ ⟨_, i, l, rfl, rfl, ?_⟩
        exact qs (z' := anSeat y x W) (by unfold anSeat; rw [if_pos (by omega)]) hR rfl (fun _ _ _ => rfl) (fun _ _ _ => rfl)
  · show mX m_X8_seat 7 _ 0 0 _ _ [vI (0)] _
    refine x_if_eq 4 (tgt := 20) rfl (by decide) (by decide) (fun h16 => ?_) (fun h16 => absurd h16 (by decide))
    refine x_iconst 10 rfl ?_
    refine x_ret 11 (some (vI ((-1)))) rfl ⟨rfl, Or.inl rfl⟩ ⟨_, i, l, rfl, rfl, ?_⟩
    exact qs (z' := anSeat y x W) (by unfold anSeat; rw [if_pos (by omega)]) hR rfl (fun _ _ _ => rfl) (fun _ _ _ => rfl)
set_option maxRecDepth 20000 in
set_option maxHeartbeats 2000000 in
theorem c_b_solo {i : Nat → Int → Int} {l : Nat → Int → BitVec 64} {W : Int → Int} {PN : Int} {P M : Int → Int → Int} {K : Int → Bool} {T : Int → Int} {TN FK FP : Int} (hR : RelB bb i l W PN P M K T TN FK FP) (hB : okB W PN P M K T TN) {h : Int} (hh : -2147483648 ≤ h ∧ h < 2147483648) {p : Int} (hp : -2147483648 ≤ p ∧ p < 2147483648) : mCtr m_X8_solo 5 0 0 [vR (some (ob bb)), vI (h), vI (p)] (st nn i l) (qT nn bb i l (spAsk (anSolo h p W) W PN P M K T TN FK FP)) := by
  refine mCtr_of pl_X8 dc_X8_solo (Nat.le_of_ble_eq_true rfl) rfl ?_
  show mX m_X8_solo 5 _ 0 0 0 [some (vR (some (ob bb))), some (vI (h)), some (vI (p))] [] (st nn i l)
  have hW := hB.1
  have hO := okC_of hR.1 hW
  have hN := hW.n
  have hCn := hO.n
  obtain ⟨⟨e4, e5, e6, e7⟩, ⟨s0, s1, s2, s3⟩, hwk, hsl, -⟩ := hR.1
  obtain ⟨o1, o2, o3⟩ := hR.2.1
  have hPN := hB.2.1
  have hTN := hB.2.2.2.2.1
  obtain ⟨t1, t2⟩ := hR.2.2.2.2.1
  have hcc : ∀ k, 0 ≤ k → k < i (ob bb + 170) 1 → 0 ≤ i (ob bb + 171) k ∧ i (ob bb + 171) k ≤ 127 := by intro k h0 h1; rw [t2 k h0 (by omega)]; have := hB.2.2.2.2.2 k h0 (by omega); omega
  refine x_iload_n 0 rfl rfl ?_
  refine x_if_lt 1 (tgt := 22) rfl (by decide) (by omega) (fun h1 => ?_) (fun h1 => ?_)
  · refine x_iconst 10 rfl ?_
    refine x_ret 11 (some (vI ((-1)))) rfl ⟨rfl, Or.inl rfl⟩ ⟨_, i, l, rfl, rfl, ?_⟩
    exact qs (z' := anSolo h p W) (by unfold anSolo; rw [if_pos (by omega)]) hR rfl (fun _ _ _ => rfl) (fun _ _ _ => rfl)
  · refine x_iload_n 2 rfl rfl ?_
    refine x_aload_n 3 rfl rfl ?_
    refine x_getR 4 (z := (ob bb + 1)) rfl fl_X8_10 b_lt0 k_0 rfl r_0_0 ?_
    refine x_getI 5 (z := i (ob bb + 1) 5) rfl fl_X8_152 (isC_0 isC_1) (kC isC_1) rfl rfl ?_
    refine x_icmp_ge 6 (tgt := 22) rfl (by decide) (by omega) (fun h2 => ?_) (fun h2 => ?_)
    · refine x_iconst 10 rfl ?_
      refine x_ret 11 (some (vI ((-1)))) rfl ⟨rfl, Or.inl rfl⟩ ⟨_, i, l, rfl, rfl, ?_⟩
      exact qs (z' := anSolo h p W) (by unfold anSolo; rw [if_pos (by omega)]) hR rfl (fun _ _ _ => rfl) (fun _ _ _ => rfl)
    · refine x_iload_n 7 rfl rfl ?_
      refine x_callS 8 m_X8_isPart (c_isPart (by omega)) rfl ok_X8_isPart ml_X8_116 st_X8_isPart rfl (by decide) rfl (Nat.le_of_ble_eq_true rfl) rfl rfl (fun v g q3 => ?_)
      rcases q3 with ⟨rfl, ⟨h4, rfl⟩ | ⟨h4, rfl⟩⟩
      · show mX m_X8_solo 5 _ 0 0 _ _ [vI (1)] _
        refine x_if_ne 9 (tgt := 24) rfl (by decide) (by decide) (fun h5 => ?_) (fun h5 => absurd h5 (by decide))
        refine x_aload_n 12 rfl rfl ?_
        refine x_getR 13 (z := (ob bb + 1)) rfl fl_X8_10 b_lt0 k_0 rfl r_0_0 ?_
        refine x_getR 14 (z := ((ob bb + 1) + 13)) rfl fl_X8_243 (isC_0 isC_1) (kC isC_1) rfl (rC2 isC_1) ?_
        refine x_iload_n 15 rfl rfl ?_
        refine x_iconst 16 rfl ?_
        refine x_imul 17 (r := h * 4) rfl rfl ?_
        refine x_iload_n 18 rfl rfl ?_
        refine x_iadd 19 (r := (h * 4) + p) rfl rfl ?_
        refine x_iald 20 (z := i ((ob bb + 1) + 13) ((h * 4) + p)) rfl (isC_O isC_1) (kCO isC_1) (by omega) rfl ?_
        refine x_ret 21 (some (vI (i ((ob bb + 1) + 13) ((h * 4) + p)))) rfl ⟨rfl, Or.inl rfl⟩ ⟨_, i, l, rfl, rfl, ?_⟩
        exact qs (z' := anSolo h p W) (by unfold anSolo; rw [if_neg (by omega)]; exact hsl _ (by omega) (by omega)) hR rfl (fun _ _ _ => rfl) (fun _ _ _ => rfl)
      · show mX m_X8_solo 5 _ 0 0 _ _ [vI (0)] _
        refine x_if_ne 9 (tgt := 24) rfl (by decide) (by decide) (fun h6 => absurd h6 (by decide)) (fun h6 => ?_)
        refine x_iconst 10 rfl ?_
        refine x_ret 11 (some (vI ((-1)))) rfl ⟨rfl, Or.inl rfl⟩ ⟨_, i, l, rfl, rfl, ?_⟩
        exact qs (z' := anSolo h p W) (by unfold anSolo; rw [if_pos (by omega)]) hR rfl (fun _ _ _ => rfl) (fun _ _ _ => rfl)
set_option maxRecDepth 20000 in
set_option maxHeartbeats 2000000 in
theorem c_b_standIn {i : Nat → Int → Int} {l : Nat → Int → BitVec 64} {W : Int → Int} {PN : Int} {P M : Int → Int → Int} {K : Int → Bool} {T : Int → Int} {TN FK FP : Int} (hR : RelB bb i l W PN P M K T TN FK FP) (hB : okB W PN P M K T TN) {y : Int} (hy : -2147483648 ≤ y ∧ y < 2147483648) : mCtr m_X8_standIn 8 0 0 [vR (some (ob bb)), vI (y)] (st nn i l) (qT nn bb i l (spAsk (anStand y W) W PN P M K T TN FK FP)) := by
  refine mCtr_of pl_X8 dc_X8_standIn (Nat.le_of_ble_eq_true rfl) rfl ?_
  show mX m_X8_standIn 8 _ 0 0 0 [some (vR (some (ob bb))), some (vI (y))] [] (st nn i l)
  have hW := hB.1
  have hO := okC_of hR.1 hW
  have hN := hW.n
  have hCn := hO.n
  obtain ⟨⟨e4, e5, e6, e7⟩, ⟨s0, s1, s2, s3⟩, hwk, hsl, -⟩ := hR.1
  obtain ⟨o1, o2, o3⟩ := hR.2.1
  have hPN := hB.2.1
  have hTN := hB.2.2.2.2.1
  obtain ⟨t1, t2⟩ := hR.2.2.2.2.1
  have hcc : ∀ k, 0 ≤ k → k < i (ob bb + 170) 1 → 0 ≤ i (ob bb + 171) k ∧ i (ob bb + 171) k ≤ 127 := by intro k h0 h1; rw [t2 k h0 (by omega)]; have := hB.2.2.2.2.2 k h0 (by omega); omega
  refine x_aload_n 0 rfl rfl ?_
  refine x_getR 1 (z := (ob bb + 1)) rfl fl_X8_10 b_lt0 k_0 rfl r_0_0 ?_
  refine x_iload_n 2 rfl rfl ?_
  refine x_callV 3 m_X0_has (c_has isC_1 (by omega) (by omega)) rfl ok_X0_has (isC_0 isC_1) (kC isC_1) rfl rfl ml_X8_71 im_X0_has se_X0_has rfl (by decide) rfl (Nat.le_of_ble_eq_true rfl) rfl rfl (fun v g q1 => ?_)
  rcases q1 with ⟨rfl, ⟨h2, rfl⟩ | ⟨h2, rfl⟩⟩
  · show mX m_X8_standIn 8 _ 0 0 _ _ [vI (1)] _
    refine x_if_ne 4 (tgt := 13) rfl (by decide) (by decide) (fun h3 => ?_) (fun h3 => absurd h3 (by decide))
    refine x_aload_n 7 rfl rfl ?_
    refine x_getR 8 (z := (ob bb + 173)) rfl fl_X8_48 b_lt0 k_0 rfl r_0_6 ?_
    refine x_aload_n 9 rfl rfl ?_
    refine x_getR 10 (z := (ob bb + 1)) rfl fl_X8_10 b_lt0 k_0 rfl r_0_0 ?_
    refine x_callV 11 m_X4_plan (c_plan isC_1 hO) rfl ok_X4_plan (b_lt rfl) k_173 rfl rfl ml_X8_155 im_X4_plan se_X4_plan rfl (by decide) rfl (Nat.le_of_ble_eq_true rfl) rfl rfl (fun v g q4 => ?_)
    obtain ⟨rfl, i5, li5, rfl, hi5⟩ := q4
    show mX m_X8_standIn 8 _ 0 0 _ _ [] _
    obtain ⟨rfl, hpf, hps, hpo⟩ := hi5
    rw [plT_rel hR.1 (by omega)] at hps
    have h174 : ∀ k, 0 ≤ k → k < 10 → i5 (ob bb + 174) k = (plT W).1 k := by intro k h0 h1; rw [← hps]; show _ = (if 0 ≤ k ∧ k < 10 then _ else _); rw [if_pos ⟨h0, h1⟩]
    have h176 : ∀ p, 0 ≤ p → p < 4 → i5 (ob bb + 176) p = plS W p := by intro p h0 h1; rw [hpo p h0 h1]; exact plS_rel hR.1 (by omega) p
    have hR2 := RelB_same (i' := i5) hR hB (fun a b ha => hpf a b (by omega) (by omega) (by omega)) (fun _ _ _ => rfl) (hpf (ob bb + 172) 2 (by omega) (by omega) (by omega)) (hpf (ob bb + 172) 3 (by omega) (by omega) (by omega)) (by have hz := hR.2.2.2.2.2.2; unfold PZ at hz ⊢; rw [hpf (ob bb + 184) 0 (by omega) (by omega) (by omega)]; exact hz)
    have fr2 : ∀ a b, (a < ob bb ∨ ob bb + 189 ≤ a) → i5 a b = i a b := fun a b ha => hpf a b (by omega) (by omega) (by omega)
    refine x_aload_n 12 rfl rfl ?_
    refine x_getR 13 (z := (ob bb + 173)) rfl fl_X8_48 b_lt0 k_0 rfl r_0_6 ?_
    refine x_getR 14 (z := (ob bb + 174)) rfl fl_X8_247 (b_lt rfl) k_173 rfl r_173_0 ?_
    refine x_iload_n 15 rfl rfl ?_
    refine x_iald 16 (z := i5 (ob bb + 174) y) rfl (b_lt rfl) k_174 (by omega) rfl ?_
    refine x_ret 17 (some (vI (i5 (ob bb + 174) y))) rfl ⟨rfl, Or.inl rfl⟩ ⟨_, i5, li5, rfl, rfl, ?_⟩
    exact qs (z' := anStand y W) (by unfold anStand; rw [if_neg (by omega)]; exact h174 y (by omega) (by omega)) hR2 rfl fr2 (fun _ _ _ => rfl)
  · show mX m_X8_standIn 8 _ 0 0 _ _ [vI (0)] _
    refine x_if_ne 4 (tgt := 13) rfl (by decide) (by decide) (fun h6 => absurd h6 (by decide)) (fun h6 => ?_)
    refine x_iconst 5 rfl ?_
    refine x_ret 6 (some (vI ((-1)))) rfl ⟨rfl, Or.inl rfl⟩ ⟨_, i, l, rfl, rfl, ?_⟩
    exact qs (z' := anStand y W) (by unfold anStand; rw [if_pos (by omega)]) hR rfl (fun _ _ _ => rfl) (fun _ _ _ => rfl)
set_option maxRecDepth 20000 in
set_option maxHeartbeats 2000000 in
theorem c_b_passedOver {i : Nat → Int → Int} {l : Nat → Int → BitVec 64} {W : Int → Int} {PN : Int} {P M : Int → Int → Int} {K : Int → Bool} {T : Int → Int} {TN FK FP : Int} (hR : RelB bb i l W PN P M K T TN FK FP) (hB : okB W PN P M K T TN) {y : Int} (hy : -2147483648 ≤ y ∧ y < 2147483648) : mCtr m_X8_passedOver 8 0 0 [vR (some (ob bb)), vI (y)] (st nn i l) (qT nn bb i l (spAsk (anPassed y W) W PN P M K T TN FK FP)) := by
  refine mCtr_of pl_X8 dc_X8_passedOver (Nat.le_of_ble_eq_true rfl) rfl ?_
  show mX m_X8_passedOver 8 _ 0 0 0 [some (vR (some (ob bb))), some (vI (y)), none] [] (st nn i l)
  have hW := hB.1
  have hO := okC_of hR.1 hW
  have hN := hW.n
  have hCn := hO.n
  obtain ⟨⟨e4, e5, e6, e7⟩, ⟨s0, s1, s2, s3⟩, hwk, hsl, -⟩ := hR.1
  obtain ⟨o1, o2, o3⟩ := hR.2.1
  have hPN := hB.2.1
  have hTN := hB.2.2.2.2.1
  obtain ⟨t1, t2⟩ := hR.2.2.2.2.1
  have hcc : ∀ k, 0 ≤ k → k < i (ob bb + 170) 1 → 0 ≤ i (ob bb + 171) k ∧ i (ob bb + 171) k ≤ 127 := by intro k h0 h1; rw [t2 k h0 (by omega)]; have := hB.2.2.2.2.2 k h0 (by omega); omega
  refine x_aload_n 0 rfl rfl ?_
  refine x_getR 1 (z := (ob bb + 1)) rfl fl_X8_10 b_lt0 k_0 rfl r_0_0 ?_
  refine x_iload_n 2 rfl rfl ?_
  refine x_callV 3 m_X0_has (c_has isC_1 (by omega) (by omega)) rfl ok_X0_has (isC_0 isC_1) (kC isC_1) rfl rfl ml_X8_71 im_X0_has se_X0_has rfl (by decide) rfl (Nat.le_of_ble_eq_true rfl) rfl rfl (fun v g q1 => ?_)
  rcases q1 with ⟨rfl, ⟨h2, rfl⟩ | ⟨h2, rfl⟩⟩
  · show mX m_X8_passedOver 8 _ 0 0 _ _ [vI (1)] _
    refine x_if_ne 4 (tgt := 13) rfl (by decide) (by decide) (fun h3 => ?_) (fun h3 => absurd h3 (by decide))
    have hsr := hR.1.s (s := y) (by omega) (by omega)
    have hsk := hO.s (x := y) (by omega) (by omega)
    have h2r := hsr.1.2.2.1
    have h3r := hsr.1.2.2.2.1
    refine x_aload_n 7 rfl rfl ?_
    refine x_getR 8 (z := (ob bb + 1)) rfl fl_X8_10 b_lt0 k_0 rfl r_0_0 ?_
    refine x_getR 9 (z := ((ob bb + 1) + 1)) rfl fl_X8_92 (isC_0 isC_1) (kC isC_1) rfl (rC0 isC_1) ?_
    refine x_iload_n 10 rfl rfl ?_
    refine x_aald 11 (t := 3) (z := ((ob bb + 1) + 2 + (y).toNat)) rfl (isC_S isC_1) (kCS isC_1) (by omega) ⟨rfl, rfl⟩ (rCs isC_1 (by omega)) ?_
    refine x_astore_n 12 (L' := [some (vR (some (ob bb))), some (vI (y)), some (vR (some ((ob bb + 1) + 2 + (y).toNat)))]) rfl (by decide) rfl rfl ?_
    refine x_aload_n 13 rfl rfl ?_
    refine x_getI 14 (z := i ((ob bb + 1) + 2 + (y).toNat) 6) rfl fl_X8_123 (isS_lt (isS.of isC_1 (show (y).toNat < 10 by omega))) (kS (isS.of isC_1 (show (y).toNat < 10 by omega))) rfl rfl ?_
    refine x_callS 15 m_X8_isPart (c_isPart (by omega)) rfl ok_X8_isPart ml_X8_116 st_X8_isPart rfl (by decide) rfl (Nat.le_of_ble_eq_true rfl) rfl rfl (fun v g q4 => ?_)
    rcases q4 with ⟨rfl, ⟨h5, rfl⟩ | ⟨h5, rfl⟩⟩
    · show mX m_X8_passedOver 8 _ 0 0 _ _ [vI (1)] _
      refine x_if_ne 16 (tgt := 35) rfl (by decide) (by decide) (fun h6 => ?_) (fun h6 => absurd h6 (by decide))
      refine x_aload_n 19 rfl rfl ?_
      refine x_getI 20 (z := i ((ob bb + 1) + 2 + (y).toNat) 7) rfl fl_X8_144 (isS_lt (isS.of isC_1 (show (y).toNat < 10 by omega))) (kS (isS.of isC_1 (show (y).toNat < 10 by omega))) rfl rfl ?_
      refine x_if_ne 21 (tgt := 44) rfl (by decide) (by omega) (fun h7 => ?_) (fun h7 => ?_)
      · refine x_aload_n 24 rfl rfl ?_
        refine x_getR 25 (z := (ob bb + 173)) rfl fl_X8_48 b_lt0 k_0 rfl r_0_6 ?_
        refine x_aload_n 26 rfl rfl ?_
        refine x_getR 27 (z := (ob bb + 1)) rfl fl_X8_10 b_lt0 k_0 rfl r_0_0 ?_
        refine x_callV 28 m_X4_plan (c_plan isC_1 hO) rfl ok_X4_plan (b_lt rfl) k_173 rfl rfl ml_X8_155 im_X4_plan se_X4_plan rfl (by decide) rfl (Nat.le_of_ble_eq_true rfl) rfl rfl (fun v g q8 => ?_)
        obtain ⟨rfl, i9, li9, rfl, hi9⟩ := q8
        show mX m_X8_passedOver 8 _ 0 0 _ _ [] _
        obtain ⟨rfl, hpf, hps, hpo⟩ := hi9
        rw [plT_rel hR.1 (by omega)] at hps
        have h174 : ∀ k, 0 ≤ k → k < 10 → i9 (ob bb + 174) k = (plT W).1 k := by intro k h0 h1; rw [← hps]; show _ = (if 0 ≤ k ∧ k < 10 then _ else _); rw [if_pos ⟨h0, h1⟩]
        have h176 : ∀ p, 0 ≤ p → p < 4 → i9 (ob bb + 176) p = plS W p := by intro p h0 h1; rw [hpo p h0 h1]; exact plS_rel hR.1 (by omega) p
        have hR2 := RelB_same (i' := i9) hR hB (fun a b ha => hpf a b (by omega) (by omega) (by omega)) (fun _ _ _ => rfl) (hpf (ob bb + 172) 2 (by omega) (by omega) (by omega)) (hpf (ob bb + 172) 3 (by omega) (by omega) (by omega)) (by have hz := hR.2.2.2.2.2.2; unfold PZ at hz ⊢; rw [hpf (ob bb + 184) 0 (by omega) (by omega) (by omega)]; exact hz)
        have fr2 : ∀ a b, (a < ob bb ∨ ob bb + 189 ≤ a) → i9 a b = i a b := fun a b ha => hpf a b (by omega) (by omega) (by omega)
        have h174y := h174 y (by omega) (by omega)
        have q6 : i9 ((ob bb + 1) + 2 + y.toNat) 6 = i ((ob bb + 1) + 2 + y.toNat) 6 := hpf _ _ (by omega) (by omega) (by omega)
        have q9 : i9 ((ob bb + 1) + 2 + y.toNat) 9 = i ((ob bb + 1) + 2 + y.toNat) 9 := hpf _ _ (by omega) (by omega) (by omega)
        have hO2 := okC_of hR2.1 hW
        have h176y := h176 (i ((ob bb + 1) + 2 + y.toNat) 6)
        rw [← q6] at h176y
        have hplb := plS_bd W (i9 ((ob bb + 1) + 2 + y.toNat) 6) (by omega)
        have hpt := plT_sb W y
        have hq4 : i9 (ob bb + 1) 4 = W 11 := hR2.1.1.1
        have hN2 := hO2.n
        refine x_aload_n 29 rfl rfl ?_
        refine x_getR 30 (z := (ob bb + 173)) rfl fl_X8_48 b_lt0 k_0 rfl r_0_6 ?_
        refine x_getR 31 (z := (ob bb + 174)) rfl fl_X8_247 (b_lt rfl) k_173 rfl r_173_0 ?_
        refine x_iload_n 32 rfl rfl ?_
        refine x_iald 33 (z := i9 (ob bb + 174) y) rfl (b_lt rfl) k_174 (by omega) rfl ?_
        refine x_bipush 34 rfl (by decide) ?_
        refine x_icmp_eq 35 (tgt := 71) rfl (by decide) (by omega) (fun h10 => ?_) (fun h10 => ?_)
        · refine x_aload_n 38 rfl rfl ?_
          refine x_getR 39 (z := (ob bb + 1)) rfl fl_X8_10 b_lt0 k_0 rfl r_0_0 ?_
          refine x_aload_n 40 rfl rfl ?_
          refine x_callV 41 m_X0_rested (c_rested isC_1 hO2 (isS.of isC_1 (show y.toNat < 10 by omega)) (by omega)) rfl ok_X0_rested (isC_0 isC_1) (kC isC_1) rfl rfl ml_X8_250 im_X0_rested se_X0_rested rfl (by decide) rfl (Nat.le_of_ble_eq_true rfl) rfl rfl (fun v g q11 => ?_)
          rcases q11 with ⟨rfl, ⟨h12, rfl⟩ | ⟨h12, rfl⟩⟩
          · show mX m_X8_passedOver 8 _ 0 0 _ _ [vI (1)] _
            have hrs := h12
            rw [fRest_rel hR2.1 (by omega) (by omega)] at hrs
            refine x_if_ne 42 (tgt := 84) rfl (by decide) (by decide) (fun h13 => ?_) (fun h13 => absurd h13 (by decide))
            have e176a := h176y (by omega) (by omega)
            refine x_aload_n 45 rfl rfl ?_
            refine x_getR 46 (z := (ob bb + 173)) rfl fl_X8_48 b_lt0 k_0 rfl r_0_6 ?_
            refine x_getR 47 (z := (ob bb + 176)) rfl fl_X8_231 (b_lt rfl) k_173 rfl r_173_2 ?_
            refine x_aload_n 48 rfl rfl ?_
            refine x_getI 49 (z := i9 ((ob bb + 1) + 2 + (y).toNat) 6) rfl fl_X8_123 (isS_lt (isS.of isC_1 (show (y).toNat < 10 by omega))) (kS (isS.of isC_1 (show (y).toNat < 10 by omega))) rfl rfl ?_
            refine x_iald 50 (z := i9 (ob bb + 176) (i9 ((ob bb + 1) + 2 + (y).toNat) 6)) rfl (b_lt rfl) k_176 (by omega) rfl ?_
            refine x_iload_n 51 rfl rfl ?_
            refine x_icmp_ne 52 (tgt := 104) rfl (by decide) (by omega) (fun h14 => ?_) (fun h14 => ?_)
            · refine x_iconst 55 rfl ?_
              refine x_ret 56 (some (vI (5))) rfl ⟨rfl, Or.inl rfl⟩ ⟨_, i9, li9, rfl, rfl, ?_⟩
              have e176 := h176y (by omega) (by omega)
              rw [q6, h2r] at e176
              first
                | (exact qs (z' := anPassed y W) (by unfold anPassed; rw [if_neg (by omega), if_neg (by omega), if_neg (by omega), if_neg (by omega), if_neg (Classical.not_not.mpr hrs), if_pos (by rw [← e176, ← h2r, ← q6]; omega)]) hR2 rfl fr2 (fun _ _ _ => rfl))
                | (exact qs (z' := anPassed y W) (by unfold anPassed; rw [if_neg (by omega), if_neg (by omega), if_neg (by omega), if_neg (by omega), if_neg (Classical.not_not.mpr hrs), if_neg (by rw [← e176, ← h2r, ← q6]; omega)]) hR2 rfl fr2 (fun _ _ _ => rfl))
            · refine x_iconst 53 rfl ?_
              refine x_goto 54 (tgt := 105) rfl (by decide) ?_
              refine x_ret 56 (some (vI (0))) rfl ⟨rfl, Or.inl rfl⟩ ⟨_, i9, li9, rfl, rfl, ?_⟩
              have e176 := h176y (by omega) (by omega)
              rw [q6, h2r] at e176
              first
                | (exact qs (z' := anPassed y W) (by unfold anPassed; rw [if_neg (by omega), if_neg (by omega), if_neg (by omega), if_neg (by omega), if_neg (Classical.not_not.mpr hrs), if_pos (by rw [← e176, ← h2r, ← q6]; omega)]) hR2 rfl fr2 (fun _ _ _ => rfl))
                | (exact qs (z' := anPassed y W) (by unfold anPassed; rw [if_neg (by omega), if_neg (by omega), if_neg (by omega), if_neg (by omega), if_neg (Classical.not_not.mpr hrs), if_neg (by rw [← e176, ← h2r, ← q6]; omega)]) hR2 rfl fr2 (fun _ _ _ => rfl))
          · show mX m_X8_passedOver 8 _ 0 0 _ _ [vI (0)] _
            have hrs := h12
            rw [fRest_rel hR2.1 (by omega) (by omega)] at hrs
            refine x_if_ne 42 (tgt := 84) rfl (by decide) (by decide) (fun h15 => absurd h15 (by decide)) (fun h15 => ?_)
            refine x_iconst 43 rfl ?_
            refine x_ret 44 (some (vI (4))) rfl ⟨rfl, Or.inl rfl⟩ ⟨_, i9, li9, rfl, rfl, ?_⟩
            exact qs (z' := anPassed y W) (by unfold anPassed; rw [if_neg (by omega), if_neg (by omega), if_neg (by omega), if_neg (by omega), if_pos hrs]) hR2 rfl fr2 (fun _ _ _ => rfl)
        · refine x_iconst 36 rfl ?_
          refine x_ret 37 (some (vI (3))) rfl ⟨rfl, Or.inl rfl⟩ ⟨_, i9, li9, rfl, rfl, ?_⟩
          exact qs (z' := anPassed y W) (by unfold anPassed; rw [if_neg (by omega), if_neg (by omega), if_neg (by omega), if_pos (by omega)]) hR2 rfl fr2 (fun _ _ _ => rfl)
      · refine x_iconst 22 rfl ?_
        refine x_ret 23 (some (vI (2))) rfl ⟨rfl, Or.inl rfl⟩ ⟨_, i, l, rfl, rfl, ?_⟩
        exact qs (z' := anPassed y W) (by unfold anPassed; rw [if_neg (by omega), if_neg (by omega), if_pos (by omega)]) hR rfl (fun _ _ _ => rfl) (fun _ _ _ => rfl)
    · show mX m_X8_passedOver 8 _ 0 0 _ _ [vI (0)] _
      refine x_if_ne 16 (tgt := 35) rfl (by decide) (by decide) (fun h16 => absurd h16 (by decide)) (fun h16 => ?_)
      refine x_iconst 17 rfl ?_
      refine x_ret 18 (some (vI (1))) rfl ⟨rfl, Or.inl rfl⟩ ⟨_, i, l, rfl, rfl, ?_⟩
      exact qs (z' := anPassed y W) (by unfold anPassed; rw [if_neg (by omega), if_pos (by omega)]) hR rfl (fun _ _ _ => rfl) (fun _ _ _ => rfl)
  · show mX m_X8_passedOver 8 _ 0 0 _ _ [vI (0)] _
    refine x_if_ne 4 (tgt := 13) rfl (by decide) (by decide) (fun h17 => absurd h17 (by decide)) (fun h17 => ?_)
    refine x_iconst 5 rfl ?_
    refine x_ret 6 (some (vI ((-1)))) rfl ⟨rfl, Or.inl rfl⟩ ⟨_, i, l, rfl, rfl, ?_⟩
    exact qs (z' := anPassed y W) (by unfold anPassed; rw [if_pos (by omega)]) hR rfl (fun _ _ _ => rfl) (fun _ _ _ => rfl)
set_option maxRecDepth 20000 in
set_option maxHeartbeats 2000000 in
theorem c_b_without {i : Nat → Int → Int} {l : Nat → Int → BitVec 64} {W : Int → Int} {PN : Int} {P M : Int → Int → Int} {K : Int → Bool} {T : Int → Int} {TN FK FP : Int} (hR : RelB bb i l W PN P M K T TN FK FP) (hB : okB W PN P M K T TN) {y : Int} (hy : -2147483648 ≤ y ∧ y < 2147483648) : mCtr m_X8_without 8 0 0 [vR (some (ob bb)), vI (y)] (st nn i l) (qT nn bb i l (spAsk (anWithout y W) W PN P M K T TN FK FP)) := by
  refine mCtr_of pl_X8 dc_X8_without (Nat.le_of_ble_eq_true rfl) rfl ?_
  show mX m_X8_without 8 _ 0 0 0 [some (vR (some (ob bb))), some (vI (y))] [] (st nn i l)
  have hW := hB.1
  have hO := okC_of hR.1 hW
  have hN := hW.n
  have hCn := hO.n
  obtain ⟨⟨e4, e5, e6, e7⟩, ⟨s0, s1, s2, s3⟩, hwk, hsl, -⟩ := hR.1
  obtain ⟨o1, o2, o3⟩ := hR.2.1
  have hPN := hB.2.1
  have hTN := hB.2.2.2.2.1
  obtain ⟨t1, t2⟩ := hR.2.2.2.2.1
  have hcc : ∀ k, 0 ≤ k → k < i (ob bb + 170) 1 → 0 ≤ i (ob bb + 171) k ∧ i (ob bb + 171) k ≤ 127 := by intro k h0 h1; rw [t2 k h0 (by omega)]; have := hB.2.2.2.2.2 k h0 (by omega); omega
  refine x_iload_n 0 rfl rfl ?_
  refine x_iconst 1 rfl ?_
  refine x_icmp_eq 2 (tgt := 18) rfl (by decide) (by omega) (fun h1 => ?_) (fun h1 => ?_)
  · have hZ1 := hR.2.2.2.2.2.2
    refine x_aload_n 10 rfl rfl ?_
    refine x_getR 11 (z := (ob bb + 177)) rfl fl_X8_55 b_lt0 k_0 rfl r_0_7 ?_
    refine x_aload_n 12 rfl rfl ?_
    refine x_getR 13 (z := (ob bb + 1)) rfl fl_X8_10 b_lt0 k_0 rfl r_0_0 ?_
    refine x_iload_n 14 rfl rfl ?_
    refine x_callV 15 m_X2_weigh (c_weigh isC_1 hO hZ1 (by omega)) rfl ok_X2_weigh (b_lt rfl) k_177 rfl rfl ml_X8_126 im_X2_weigh se_X2_weigh rfl (by decide) rfl (Nat.le_of_ble_eq_true rfl) rfl rfl (fun v g q2 => ?_)
    obtain ⟨rfl, i3, li3, rfl, hi3⟩ := q2
    show mX m_X8_without 8 _ 0 0 _ _ [] _
    obtain ⟨hP2, hZ2, hW2, hf2, hg2⟩ := hi3
    rw [vw_rel hR.1] at hP2 hW2
    have e2 : ∀ a b, a < (ob bb + 177) → i3 a b = i a b := fun a b ha => hf2 a b (by omega) (by omega) (by omega) (by omega) (by omega)
    have l2 : ∀ a b, a < (ob bb + 177) → li3 a b = l a b := fun a b ha => hg2 a b (by omega) (by omega) (by omega) (by omega)
    have hR2 := RelB_same (i' := i3) (l' := li3) hR hB (fun a b ha => e2 a b (by omega)) (fun a b ha => l2 a b (by omega)) (e2 (ob bb + 172) 2 (by omega)) (e2 (ob bb + 172) 3 (by omega)) hZ2
    refine x_aload_n 16 rfl rfl ?_
    refine x_getR 17 (z := (ob bb + 177)) rfl fl_X8_55 b_lt0 k_0 rfl r_0_7 ?_
    refine x_getI 18 (z := i3 (ob bb + 177) 8) rfl fl_X8_133 (b_lt rfl) k_177 rfl rfl ?_
    refine x_ret 19 (some (vI (i3 (ob bb + 177) 8))) rfl ⟨rfl, Or.inl rfl⟩ ⟨_, i3, li3, rfl, rfl, ?_⟩
    exact qs (z' := anWithout y W) (by unfold anWithout; rw [if_neg (by omega)]; unfold bsW; rw [← hW2]) hR2 rfl (fun a b ha => hf2 a b (by omega) (by omega) (by omega) (by omega) (by omega)) (fun a b ha => hg2 a b (by omega) (by omega) (by omega) (by omega))
  · refine x_aload_n 3 rfl rfl ?_
    refine x_getR 4 (z := (ob bb + 1)) rfl fl_X8_10 b_lt0 k_0 rfl r_0_0 ?_
    refine x_iload_n 5 rfl rfl ?_
    refine x_callV 6 m_X0_has (c_has isC_1 (by omega) (by omega)) rfl ok_X0_has (isC_0 isC_1) (kC isC_1) rfl rfl ml_X8_71 im_X0_has se_X0_has rfl (by decide) rfl (Nat.le_of_ble_eq_true rfl) rfl rfl (fun v g q5 => ?_)
    rcases q5 with ⟨rfl, ⟨h6, rfl⟩ | ⟨h6, rfl⟩⟩
    · show mX m_X8_without 8 _ 0 0 _ _ [vI (1)] _
      refine x_if_ne 7 (tgt := 18) rfl (by decide) (by decide) (fun h7 => ?_) (fun h7 => absurd h7 (by decide))
      have hZ1 := hR.2.2.2.2.2.2
      refine x_aload_n 10 rfl rfl ?_
      refine x_getR 11 (z := (ob bb + 177)) rfl fl_X8_55 b_lt0 k_0 rfl r_0_7 ?_
      refine x_aload_n 12 rfl rfl ?_
      refine x_getR 13 (z := (ob bb + 1)) rfl fl_X8_10 b_lt0 k_0 rfl r_0_0 ?_
      refine x_iload_n 14 rfl rfl ?_
      refine x_callV 15 m_X2_weigh (c_weigh isC_1 hO hZ1 (by omega)) rfl ok_X2_weigh (b_lt rfl) k_177 rfl rfl ml_X8_126 im_X2_weigh se_X2_weigh rfl (by decide) rfl (Nat.le_of_ble_eq_true rfl) rfl rfl (fun v g q8 => ?_)
      obtain ⟨rfl, i9, li9, rfl, hi9⟩ := q8
      show mX m_X8_without 8 _ 0 0 _ _ [] _
      obtain ⟨hP2, hZ2, hW2, hf2, hg2⟩ := hi9
      rw [vw_rel hR.1] at hP2 hW2
      have e2 : ∀ a b, a < (ob bb + 177) → i9 a b = i a b := fun a b ha => hf2 a b (by omega) (by omega) (by omega) (by omega) (by omega)
      have l2 : ∀ a b, a < (ob bb + 177) → li9 a b = l a b := fun a b ha => hg2 a b (by omega) (by omega) (by omega) (by omega)
      have hR2 := RelB_same (i' := i9) (l' := li9) hR hB (fun a b ha => e2 a b (by omega)) (fun a b ha => l2 a b (by omega)) (e2 (ob bb + 172) 2 (by omega)) (e2 (ob bb + 172) 3 (by omega)) hZ2
      refine x_aload_n 16 rfl rfl ?_
      refine x_getR 17 (z := (ob bb + 177)) rfl fl_X8_55 b_lt0 k_0 rfl r_0_7 ?_
      refine x_getI 18 (z := i9 (ob bb + 177) 8) rfl fl_X8_133 (b_lt rfl) k_177 rfl rfl ?_
      refine x_ret 19 (some (vI (i9 (ob bb + 177) 8))) rfl ⟨rfl, Or.inl rfl⟩ ⟨_, i9, li9, rfl, rfl, ?_⟩
      exact qs (z' := anWithout y W) (by unfold anWithout; rw [if_neg (by omega)]; unfold bsW; rw [← hW2]) hR2 rfl (fun a b ha => hf2 a b (by omega) (by omega) (by omega) (by omega) (by omega)) (fun a b ha => hg2 a b (by omega) (by omega) (by omega) (by omega))
    · show mX m_X8_without 8 _ 0 0 _ _ [vI (0)] _
      refine x_if_ne 7 (tgt := 18) rfl (by decide) (by decide) (fun h11 => absurd h11 (by decide)) (fun h11 => ?_)
      refine x_iconst 8 rfl ?_
      refine x_ret 9 (some (vI ((-1)))) rfl ⟨rfl, Or.inl rfl⟩ ⟨_, i, l, rfl, rfl, ?_⟩
      exact qs (z' := anWithout y W) (by unfold anWithout; rw [if_pos (by omega)]) hR rfl (fun _ _ _ => rfl) (fun _ _ _ => rfl)
set_option maxRecDepth 20000 in
set_option maxHeartbeats 2000000 in
theorem c_b_keep {i : Nat → Int → Int} {l : Nat → Int → BitVec 64} {W : Int → Int} {PN : Int} {P M : Int → Int → Int} {K : Int → Bool} {T : Int → Int} {TN FK FP : Int} (hR : RelB bb i l W PN P M K T TN FK FP) (hB : okB W PN P M K T TN) {m : Int} (hm : -2147483648 ≤ m ∧ m < 2147483648) : mCtr m_X8_keep 6 0 0 [vR (some (ob bb)), vI (m)] (st nn i l) (qT nn bb i l (spKeep m W PN P M K T TN FK FP)) := by
  refine mCtr_of pl_X8 dc_X8_keep (Nat.le_of_ble_eq_true rfl) rfl ?_
  show mX m_X8_keep 6 _ 0 0 0 [some (vR (some (ob bb))), some (vI (m))] [] (st nn i l)
  have hW := hB.1
  have hO := okC_of hR.1 hW
  have hN := hW.n
  have hCn := hO.n
  obtain ⟨⟨e4, e5, e6, e7⟩, ⟨s0, s1, s2, s3⟩, hwk, hsl, -⟩ := hR.1
  obtain ⟨o1, o2, o3⟩ := hR.2.1
  have hPN := hB.2.1
  have hTN := hB.2.2.2.2.1
  obtain ⟨t1, t2⟩ := hR.2.2.2.2.1
  have hcc : ∀ k, 0 ≤ k → k < i (ob bb + 170) 1 → 0 ≤ i (ob bb + 171) k ∧ i (ob bb + 171) k ≤ 127 := by intro k h0 h1; rw [t2 k h0 (by omega)]; have := hB.2.2.2.2.2 k h0 (by omega); omega
  refine x_iload_n 0 rfl rfl ?_
  refine x_callS 1 m_X8_isImage (c_isImage (by omega)) rfl ok_X8_isImage ml_X8_254 st_X8_isImage rfl (by decide) rfl (Nat.le_of_ble_eq_true rfl) rfl rfl (fun v g q1 => ?_)
  rcases q1 with ⟨rfl, ⟨h2, rfl⟩ | ⟨h2, rfl⟩⟩
  · show mX m_X8_keep 6 _ 0 0 _ _ [vI (1)] _
    refine x_if_ne 2 (tgt := 9) rfl (by decide) (by decide) (fun h3 => ?_) (fun h3 => absurd h3 (by decide))
    refine x_aload_n 5 rfl rfl ?_
    refine x_getR 6 (z := (ob bb + 138)) rfl fl_X8_23 b_lt0 k_0 rfl r_0_2 ?_
    refine x_iload_n 7 rfl rfl ?_
    refine x_aald 8 (t := 4) (z := (ob bb + 139 + 15 * (m).toNat)) rfl (b_lt rfl) k_138 (by omega) ⟨rfl, rfl⟩ (rM (by omega)) ?_
    refine x_aload_n 9 rfl rfl ?_
    refine x_getR 10 (z := (ob bb + 1)) rfl fl_X8_10 b_lt0 k_0 rfl r_0_0 ?_
    refine x_callV 11 m_X0_copyFrom (c_copyFrom (isC_m (show m.toNat < 2 by omega)) isC_1 (by omega) hO) rfl ok_X0_copyFrom (isC_0 (isC_m (by omega))) (kC (isC_m (by omega))) rfl rfl ml_X8_257 im_X0_copyFrom se_X0_copyFrom rfl (by decide) rfl (Nat.le_of_ble_eq_true rfl) rfl rfl (fun v g q4 => ?_)
    obtain ⟨rfl, i5, li5, rfl, hi5⟩ := q4
    show mX m_X8_keep 6 _ 0 0 _ _ [] _
    have hcp := hi5
    have c14 : i (ob bb + 1) 4 ≤ 10 := hCn.1.2
    refine x_aload_n 12 rfl rfl ?_
    refine x_getR 13 (z := (ob bb + 169)) rfl fl_X8_27 b_lt0 k_0 rfl r_0_3 ?_
    refine x_iload_n 14 rfl rfl ?_
    refine x_iconst 15 rfl ?_
    obtain ⟨i6, hi6⟩ : ∃ f, f = mU i5 (ob bb + 169) (m) (1) := ⟨_, rfl⟩
    refine x_zast 16 rfl (b_lt rfl) k_169 (by omega) (by omega) (g' := st nn i6 li5) (by subst hi6; rfl) ?_
    have hi_ := hi6
    refine x_aload_n 17 rfl rfl ?_
    refine x_getR 18 (z := (ob bb + 1)) rfl fl_X8_10 b_lt0 k_0 rfl r_0_0 ?_
    refine x_getI 19 (z := i6 (ob bb + 1) 4) rfl fl_X8_59 (isC_0 isC_1) (kC isC_1) rfl rfl ?_
    refine x_ret 20 (some (vI (i6 (ob bb + 1) 4))) rfl ⟨rfl, Or.inl rfl⟩ ⟨_, i6, li5, rfl, rfl, ?_⟩
    have hR2 := RelB_keep hR hB (by omega) hcp hi_
    exact qs hR2.1.1.1 hR2 (by unfold spKeep; rw [if_neg (by omega)]) (fun a b ha => by rw [hi_, mUne _ _ _ _ _ (by omega), cp_elseI hcp c14 (by omega) b]) (fun a b ha => cp_elseL hcp c14 (by omega) b)
  · show mX m_X8_keep 6 _ 0 0 _ _ [vI (0)] _
    refine x_if_ne 2 (tgt := 9) rfl (by decide) (by decide) (fun h7 => absurd h7 (by decide)) (fun h7 => ?_)
    refine x_iconst 3 rfl ?_
    refine x_ret 4 (some (vI ((-1)))) rfl ⟨rfl, Or.inl rfl⟩ ⟨_, i, l, rfl, rfl, ?_⟩
    exact qs (rfl) hR (by unfold spKeep; rw [if_pos (by omega)]) (fun _ _ _ => rfl) (fun _ _ _ => rfl)
set_option maxRecDepth 20000 in
set_option maxHeartbeats 2000000 in
theorem c_b_back {i : Nat → Int → Int} {l : Nat → Int → BitVec 64} {W : Int → Int} {PN : Int} {P M : Int → Int → Int} {K : Int → Bool} {T : Int → Int} {TN FK FP : Int} (hR : RelB bb i l W PN P M K T TN FK FP) (hB : okB W PN P M K T TN) {m : Int} (hm : -2147483648 ≤ m ∧ m < 2147483648) : mCtr m_X8_back 6 0 0 [vR (some (ob bb)), vI (m)] (st nn i l) (qT nn bb i l (spBack m W PN P M K T TN FK FP)) := by
  refine mCtr_of pl_X8 dc_X8_back (Nat.le_of_ble_eq_true rfl) rfl ?_
  show mX m_X8_back 6 _ 0 0 0 [some (vR (some (ob bb))), some (vI (m))] [] (st nn i l)
  have hW := hB.1
  have hO := okC_of hR.1 hW
  have hN := hW.n
  have hCn := hO.n
  obtain ⟨⟨e4, e5, e6, e7⟩, ⟨s0, s1, s2, s3⟩, hwk, hsl, -⟩ := hR.1
  obtain ⟨o1, o2, o3⟩ := hR.2.1
  have hPN := hB.2.1
  have hTN := hB.2.2.2.2.1
  obtain ⟨t1, t2⟩ := hR.2.2.2.2.1
  have hcc : ∀ k, 0 ≤ k → k < i (ob bb + 170) 1 → 0 ≤ i (ob bb + 171) k ∧ i (ob bb + 171) k ≤ 127 := by intro k h0 h1; rw [t2 k h0 (by omega)]; have := hB.2.2.2.2.2 k h0 (by omega); omega
  refine x_iload_n 0 rfl rfl ?_
  refine x_callS 1 m_X8_isImage (c_isImage (by omega)) rfl ok_X8_isImage ml_X8_254 st_X8_isImage rfl (by decide) rfl (Nat.le_of_ble_eq_true rfl) rfl rfl (fun v g q1 => ?_)
  rcases q1 with ⟨rfl, ⟨h2, rfl⟩ | ⟨h2, rfl⟩⟩
  · show mX m_X8_back 6 _ 0 0 _ _ [vI (1)] _
    refine x_if_ne 2 (tgt := 9) rfl (by decide) (by decide) (fun h3 => ?_) (fun h3 => absurd h3 (by decide))
    have hm4 := hR.2.2.2.1 m (by omega) (by omega)
    have hk01 : i (ob bb + 169) m = 0 ∨ i (ob bb + 169) m = 1 := by rw [hm4.1]; split <;> omega
    refine x_aload_n 5 rfl rfl ?_
    refine x_getR 6 (z := (ob bb + 169)) rfl fl_X8_27 b_lt0 k_0 rfl r_0_3 ?_
    refine x_iload_n 7 rfl rfl ?_
    refine x_zald 8 (z := i (ob bb + 169) m) rfl (b_lt rfl) k_169 (by omega) rfl ?_
    refine x_if_ne 9 (tgt := 21) rfl (by decide) (by omega) (fun h4 => ?_) (fun h4 => ?_)
    · have hkt : K m = true := by cases hk : K m; (rw [hk] at hm4; simp at hm4; omega); rfl
      refine x_aload_n 12 rfl rfl ?_
      refine x_getR 13 (z := (ob bb + 16)) rfl fl_X8_19 b_lt0 k_0 rfl r_0_1 ?_
      refine x_aload_n 14 rfl rfl ?_
      refine x_getR 15 (z := (ob bb + 1)) rfl fl_X8_10 b_lt0 k_0 rfl r_0_0 ?_
      refine x_callV 16 m_X1_record (c_record hO (by omega)) rfl ok_X1_record (b_lt rfl) k_16 rfl rfl ml_X8_63 im_X1_record se_X1_record rfl (by decide) rfl (Nat.le_of_ble_eq_true rfl) rfl rfl (fun v g q5 => ?_)
      obtain ⟨rfl, i6, li6, rfl, hi6⟩ := q5
      show mX m_X8_back 6 _ 0 0 _ _ [] _
      have hrec := hi6
      have hR1 := RelB_record hR hB hrec
      have hB1 := okB_rm hB hW
      obtain ⟨eI, eL⟩ := rec_else (by omega) (by omega) hrec
      have hO1 := okC_of hR1.1 hW
      have hC1 := hO1.n
      have f4 : i6 (ob bb + 1) 4 = W 11 := hR1.1.1.1
      have fr1 : ∀ a b, (a < ob bb ∨ ob bb + 189 ≤ a) → i6 a b = i a b := fun a b ha => eI a b (by omega)
      have fl1 : ∀ a b, (a < ob bb ∨ ob bb + 189 ≤ a) → li6 a b = l a b := fun a b ha => eL a b (by omega)
      have hRm := (hR1.2.2.2.1 m (by omega) (by omega)).2 hkt
      have hWm := hB.2.2.2.1 m (by omega) (by omega) hkt
      have hOm := okC_of hRm hWm
      have cm4 : i6 (ob bb + 139 + 15 * m.toNat) 4 ≤ 10 := by rw [hRm.1.1]; exact hWm.n.1.2
      refine x_aload_n 17 rfl rfl ?_
      refine x_getR 18 (z := (ob bb + 1)) rfl fl_X8_10 b_lt0 k_0 rfl r_0_0 ?_
      refine x_aload_n 19 rfl rfl ?_
      refine x_getR 20 (z := (ob bb + 138)) rfl fl_X8_23 b_lt0 k_0 rfl r_0_2 ?_
      refine x_iload_n 21 rfl rfl ?_
      refine x_aald 22 (t := 4) (z := (ob bb + 139 + 15 * (m).toNat)) rfl (b_lt rfl) k_138 (by omega) ⟨rfl, rfl⟩ (rM (by omega)) ?_
      refine x_callV 23 m_X0_copyFrom (c_copyFrom isC_1 (isC_m (show m.toNat < 2 by omega)) (by omega) hOm) rfl ok_X0_copyFrom (isC_0 isC_1) (kC isC_1) rfl rfl ml_X8_257 im_X0_copyFrom se_X0_copyFrom rfl (by decide) rfl (Nat.le_of_ble_eq_true rfl) rfl rfl (fun v g q7 => ?_)
      obtain ⟨rfl, i8, li8, rfl, hi8⟩ := q7
      show mX m_X8_back 6 _ 0 0 _ _ [] _
      have hcp := hi8
      refine x_aload_n 24 rfl rfl ?_
      refine x_getR 25 (z := (ob bb + 1)) rfl fl_X8_10 b_lt0 k_0 rfl r_0_0 ?_
      refine x_getI 26 (z := i8 (ob bb + 1) 4) rfl fl_X8_59 (isC_0 isC_1) (kC isC_1) rfl rfl ?_
      refine x_ret 27 (some (vI (i8 (ob bb + 1) 4))) rfl ⟨rfl, Or.inl rfl⟩ ⟨_, i8, li8, rfl, rfl, ?_⟩
      have hRj := relC_cp hcp hRm hWm
      have hR2 := RelB_ch2 hR1 hB1 (fun a b ha => cp_elseI hcp cm4 (by omega) b) (fun a b ha => cp_elseL hcp cm4 (by omega) b) hRj
      exact qs hRj.1.1 hR2 (by unfold spBack; rw [if_neg (by omega), if_neg (by rw [hkt]; decide)]) (fun a b ha => by rw [cp_elseI hcp cm4 (by omega) b]; exact fr1 a b ha) (fun a b ha => by rw [cp_elseL hcp cm4 (by omega) b]; exact fl1 a b ha)
    · refine x_bipush 10 rfl (by decide) ?_
      refine x_ret 11 (some (vI ((-2)))) rfl ⟨rfl, Or.inl rfl⟩ ⟨_, i, l, rfl, rfl, ?_⟩
      exact qs rfl hR (by unfold spBack; rw [if_neg (by omega), if_pos (by cases hk : K m; rfl; (rw [hk] at hm4; simp at hm4; omega))]) (fun _ _ _ => rfl) (fun _ _ _ => rfl)
  · show mX m_X8_back 6 _ 0 0 _ _ [vI (0)] _
    refine x_if_ne 2 (tgt := 9) rfl (by decide) (by decide) (fun h9 => absurd h9 (by decide)) (fun h9 => ?_)
    refine x_iconst 3 rfl ?_
    refine x_ret 4 (some (vI ((-1)))) rfl ⟨rfl, Or.inl rfl⟩ ⟨_, i, l, rfl, rfl, ?_⟩
    exact qs (rfl) hR (by unfold spBack; rw [if_pos (by omega)]) (fun _ _ _ => rfl) (fun _ _ _ => rfl)
