variable {nn : Nat} {bb : Bool}
/-! the book: placeAll, attendance, hold, undo, the text, what is told -/
theorem at_step {ir jj i' : Nat → Int → Int} {x : Int} {B : BitVec 64} (hx : 0 ≤ x) (hA : ∀ a b, jj a b = if b = 7 ∧ (ob bb + 1) + 2 ≤ a ∧ (a : Int) < (ob bb + 1 : Nat) + 2 + x then (if B.getLsbD (a - (ob bb + 1) - 2) = true then 0 else 1) else ir a b)
    (hi : i' = mU jj ((ob bb + 1) + 2 + x.toNat) 7 (if B.getLsbD x.toNat = true then 0 else 1)) : ∀ a b, i' a b = if b = 7 ∧ (ob bb + 1) + 2 ≤ a ∧ (a : Int) < (ob bb + 1 : Nat) + 2 + (x + 1) then (if B.getLsbD (a - (ob bb + 1) - 2) = true then 0 else 1) else ir a b := by
  intro a b
  subst hi
  simp only [mU]
  by_cases h : a = (ob bb + 1) + 2 + x.toNat ∧ b = 7
  · rw [if_pos h, if_pos (show b = 7 ∧ (ob bb + 1) + 2 ≤ a ∧ (a : Int) < (ob bb + 1 : Nat) + 2 + (x + 1) by omega), show a - (ob bb + 1) - 2 = x.toNat by omega]
  · rw [if_neg h, hA]
    by_cases h2 : b = 7 ∧ (ob bb + 1) + 2 ≤ a ∧ (a : Int) < (ob bb + 1 : Nat) + 2 + x
    · rw [if_pos h2, if_pos (show b = 7 ∧ (ob bb + 1) + 2 ≤ a ∧ (a : Int) < (ob bb + 1 : Nat) + 2 + (x + 1) by omega)]
    · rw [if_neg h2, if_neg (by omega)]
theorem wD_g {W : Int → Int} (hW : okW W) : ∀ k, 0 ≤ k → k < dN (wD W) → 0 ≤ dG (wD W) k ∧ dG (wD W) k ≤ 9 := by
  intro k h0 h1
  have := (hW.2.2.2.1 k h0 h1).1
  show 0 ≤ sV W k 0 ∧ sV W k 0 ≤ 9
  omega
theorem ho_else {i ii kk jj i' : Nat → Int → Int} {n : Int} (hA : hpA bb i ii (ob bb + 1) 4) (hk : kk = mU ii (ob bb + 1) 6 (i (ob bb + 1) 6 + sgC bb i 4)) (hB : hpB bb i kk jj (ob bb + 1) (i (ob bb + 1) 4)) (hi : i' = mU jj (ob bb + 1) 5 (i (ob bb + 1) 5 + 1)) (h4 : i (ob bb + 1) 4 = n) (hn : n ≤ 10) {a : Nat} (ha : a < ob bb ∨ (ob bb + 16) ≤ a) (b : Int) : i' a b = i a b := by
  rw [hi, mUne _ _ _ _ _ (by omega), hB, if_neg (by omega), if_neg (by omega), if_neg (by omega), hk, mUne _ _ _ _ _ (by omega), hA, if_neg (by omega), if_neg (by omega), if_neg (by omega), if_neg (by omega)]
theorem RelB_text {i i' : Nat → Int → Int} {l : Nat → Int → BitVec 64} {W : Int → Int} {PN : Int} {P M : Int → Int → Int} {K : Int → Bool} {T T' : Int → Int} {TN TN' FK FP : Int} (h : RelB bb i l W PN P M K T TN FK FP) (hB : okB W PN P M K T TN)
    (he : ∀ a b, a ≠ (ob bb + 171) → a ≠ (ob bb + 170) → i' a b = i a b) (h1 : i' (ob bb + 170) 1 = TN') (h2 : ∀ k, 0 ≤ k → k < TN' → i' (ob bb + 171) k = T' k) : RelB bb i' l W PN P M K T' TN' FK FP := by
  obtain ⟨r1, r2, r3, r4, r5, r6, r7⟩ := h
  refine ⟨r1.congr hB.1.n.1.2 (fun a' b' _ _ => he _ _ (by omega) (by omega)) (fun _ _ _ _ => rfl), by rw [he (ob bb + 16) 1 (by omega) (by omega), he (ob bb + 16) 2 (by omega) (by omega)]; exact r2, fun j h0 hj => ?_, fun m h0 hm => ⟨by rw [he (ob bb + 169) m (by omega) (by omega)]; exact (r4 m h0 hm).1, fun hk => ((r4 m h0 hm).2 hk).congr ((hB.2.2.2.1 m h0 hm hk).n.1.2) (fun a' b' _ _ => he _ _ (by omega) (by omega)) (fun _ _ _ _ => rfl)⟩, ⟨h1, h2⟩, ⟨by rw [he (ob bb + 172) 2 (by omega) (by omega)]; exact r6.1, by rw [he (ob bb + 172) 3 (by omega) (by omega)]; exact r6.2⟩, ?_⟩
  · have := hC_lt (bb := bb) i j
    rw [show hC bb i' j = hC bb i j by unfold hC; rw [he (ob bb + 16) 1 (by omega) (by omega)]]
    exact (r3 j h0 hj).congr ((hB.2.2.1 j h0 hj).n.1.2) (fun a' b' _ _ => he _ _ (by omega) (by omega)) (fun _ _ _ _ => rfl)
  · unfold PZ at r7 ⊢
    rw [he (ob bb + 184) 0 (by omega) (by omega)]
    exact r7
set_option maxRecDepth 20000 in
set_option maxHeartbeats 2000000 in
theorem c_b_placeAll {i : Nat → Int → Int} {l : Nat → Int → BitVec 64} {W : Int → Int} {PN : Int} {P M : Int → Int → Int} {K : Int → Bool} {T : Int → Int} {TN FK FP : Int} (hR : RelB bb i l W PN P M K T TN FK FP) (hB : okB W PN P M K T TN)  : mCtr m_X8_placeAll 8 0 0 [vR (some (ob bb))] (st nn i l) (qT nn bb i l (spPlaceAll W PN P M K T TN FK FP)) := by
  refine mCtr_of pl_X8 dc_X8_placeAll (Nat.le_of_ble_eq_true rfl) rfl ?_
  show mX m_X8_placeAll 8 _ 0 0 0 [some (vR (some (ob bb)))] [] (st nn i l)
  have hW := hB.1
  have hO := okC_of hR.1 hW
  have hN := hW.n
  have hCn := hO.n
  obtain ⟨⟨e4, e5, e6, e7⟩, ⟨s0, s1, s2, s3⟩, hwk, hsl, -⟩ := hR.1
  obtain ⟨o1, o2, o3⟩ := hR.2.1
  have hPN := hB.2.1
  have hTN := hB.2.2.2.2.1
  obtain ⟨t1, t2⟩ := hR.2.2.2.2.1
  have hcc : ∀ k, 0 ≤ k → k < i (ob bb + 170) 1 → 0 ≤ i (ob bb + 171) k ∧ i (ob bb + 171) k ≤ 127 := by intro k h0 h1; rw [t2 k h0 (by omega)]; have := hB.2.2.2.2.2 k h0 (by omega); omega
  refine x_aload_n 0 rfl rfl ?_
  refine x_getR 1 (z := (ob bb + 16)) rfl fl_X8_19 b_lt0 k_0 rfl r_0_1 ?_
  refine x_aload_n 2 rfl rfl ?_
  refine x_getR 3 (z := (ob bb + 1)) rfl fl_X8_10 b_lt0 k_0 rfl r_0_0 ?_
  refine x_callV 4 m_X1_record (c_record hO (by omega)) rfl ok_X1_record (b_lt rfl) k_16 rfl rfl ml_X8_63 im_X1_record se_X1_record rfl (by decide) rfl (Nat.le_of_ble_eq_true rfl) rfl rfl (fun v g q1 => ?_)
  obtain ⟨rfl, i2, li2, rfl, hi2⟩ := q1
  show mX m_X8_placeAll 8 _ 0 0 _ _ [] _
  have hrec := hi2
  have hR1 := RelB_record hR hB hrec
  have hB1 := okB_rm hB hW
  obtain ⟨eI, eL⟩ := rec_else (by omega) (by omega) hrec
  have hO1 := okC_of hR1.1 hW
  have hC1 := hO1.n
  have f4 : i2 (ob bb + 1) 4 = W 11 := hR1.1.1.1
  have fr1 : ∀ a b, (a < ob bb ∨ ob bb + 189 ≤ a) → i2 a b = i a b := fun a b ha => eI a b (by omega)
  have fl1 : ∀ a b, (a < ob bb ∨ ob bb + 189 ≤ a) → li2 a b = l a b := fun a b ha => eL a b (by omega)
  have hZ1 := hR1.2.2.2.2.2.2
  refine x_aload_n 5 rfl rfl ?_
  refine x_getR 6 (z := (ob bb + 177)) rfl fl_X8_55 b_lt0 k_0 rfl r_0_7 ?_
  refine x_aload_n 7 rfl rfl ?_
  refine x_getR 8 (z := (ob bb + 1)) rfl fl_X8_10 b_lt0 k_0 rfl r_0_0 ?_
  refine x_iconst 9 rfl ?_
  refine x_callV 10 m_X2_weigh (c_weigh isC_1 hO1 hZ1 (by omega)) rfl ok_X2_weigh (b_lt rfl) k_177 rfl rfl ml_X8_126 im_X2_weigh se_X2_weigh rfl (by decide) rfl (Nat.le_of_ble_eq_true rfl) rfl rfl (fun v g q3 => ?_)
  obtain ⟨rfl, i4, li4, rfl, hi4⟩ := q3
  show mX m_X8_placeAll 8 _ 0 0 _ _ [] _
  obtain ⟨hP2, hZ2, hW2, hf2, hg2⟩ := hi4
  rw [vw_rel hR1.1] at hP2 hW2
  have e2 : ∀ a b, a < (ob bb + 177) → i4 a b = i2 a b := fun a b ha => hf2 a b (by omega) (by omega) (by omega) (by omega) (by omega)
  have l2 : ∀ a b, a < (ob bb + 177) → li4 a b = li2 a b := fun a b ha => hg2 a b (by omega) (by omega) (by omega) (by omega)
  have hwb := wpZ_bd hP2.2.2.1 hP2.2.1 (2 ^ (vwZ W (-1)).length)
  rw [← hW2] at hwb
  have h8 : i4 (ob bb + 177) 8 = (bsW W (-1)).1 := by unfold bsW; rw [← hW2]
  have h9 : i4 (ob bb + 177) 9 = (bsW W (-1)).2 := by unfold bsW; rw [← hW2]
  have e4w : i4 (ob bb + 1) 4 = W 11 := by rw [e2 (ob bb + 1) 4 (by omega), f4]
  have hvr : ∀ v ∈ vwZ W (-1), (0 ≤ v.1 ∧ v.1 < i4 (ob bb + 1) 4) ∧ 0 ≤ v.2.2 ∧ v.2.2 ≤ 15 := by intro v hv; have hm := vw_mem hv; have hb := gFits_bd W v.1; rw [e4w]; omega
  refine x_aload_n 11 rfl rfl ?_
  refine x_getR 12 (z := (ob bb + 177)) rfl fl_X8_55 b_lt0 k_0 rfl r_0_7 ?_
  refine x_aload_n 13 rfl rfl ?_
  refine x_getR 14 (z := (ob bb + 1)) rfl fl_X8_10 b_lt0 k_0 rfl r_0_0 ?_
  refine x_callV 15 m_X2_choose (c_choose isC_1 (by omega) hP2 (by omega) hvr) rfl ok_X2_choose (b_lt rfl) k_177 rfl rfl ml_X8_130 im_X2_choose se_X2_choose rfl (by decide) rfl (Nat.le_of_ble_eq_true rfl) rfl rfl (fun v g q6 => ?_)
  obtain ⟨rfl, i7, li7, rfl, hi7⟩ := q6
  show mX m_X8_placeAll 8 _ 0 0 _ _ [] _
  obtain ⟨rfl, hch⟩ := hi7
  rw [h8, h9, e4w] at hch
  refine x_aload_n 16 rfl rfl ?_
  refine x_getR 17 (z := (ob bb + 177)) rfl fl_X8_55 b_lt0 k_0 rfl r_0_7 ?_
  refine x_getI 18 (z := i7 (ob bb + 177) 8) rfl fl_X8_133 (b_lt rfl) k_177 rfl rfl ?_
  refine x_ret 19 (some (vI (i7 (ob bb + 177) 8))) rfl ⟨rfl, Or.inl rfl⟩ ⟨_, i7, li7, rfl, rfl, ?_⟩
  have hRj := relC_plc (i' := i7) (l' := li7) hR1.1 hW (fun a b h1 h2 => l2 a b (by omega)) (fun a b h1 h2 => by
    rw [hch]
    by_cases q : b = 6 ∧ (ob bb + 1) + 2 ≤ a ∧ (a : Int) < (ob bb + 1 : Nat) + 2 + W 11
    · rw [if_pos (by omega), if_pos (by omega)]; rfl
    · rw [if_neg (by omega), if_neg (by omega), if_neg (by omega), e2 a b (by omega)])
  have hR2 := RelB_ch (l' := li7) (i' := i7) hR1 hB1 (fun a b h1 h2 => by rw [hch, if_neg (by omega), if_neg (by omega), e2 a b (by omega)]) (fun a b h1 h2 => l2 a b (by omega)) (by rw [hch, if_neg (by omega), if_neg (by omega), e2 (ob bb + 172) 2 (by omega)]) (by rw [hch, if_neg (by omega), if_neg (by omega), e2 (ob bb + 172) 3 (by omega)]) (by unfold PZ at hZ2 ⊢; rw [hch, if_neg (by omega), if_neg (by omega)]; exact hZ2) hRj
  exact qs (z' := (bsW W (-1)).1) (by rw [hch, if_neg (by omega), if_neg (by omega)]; exact h8) hR2 rfl (fun a b ha => by rw [hch, if_neg (by omega), if_neg (by omega), hf2 a b (by omega) (by omega) (by omega) (by omega) (by omega)]; exact fr1 a b ha) (fun a b ha => by rw [hg2 a b (by omega) (by omega) (by omega) (by omega)]; exact fl1 a b ha)
set_option maxRecDepth 20000 in
set_option maxHeartbeats 2000000 in
theorem c_b_attendance {i : Nat → Int → Int} {l : Nat → Int → BitVec 64} {W : Int → Int} {PN : Int} {P M : Int → Int → Int} {K : Int → Bool} {T : Int → Int} {TN FK FP : Int} (hR : RelB bb i l W PN P M K T TN FK FP) (hB : okB W PN P M K T TN)  : mCtr m_X8_attendance 7 0 0 [vR (some (ob bb))] (st nn i l) (qT nn bb i l (spAtt W PN P M K T TN FK FP)) := by
  refine mCtr_of pl_X8 dc_X8_attendance (Nat.le_of_ble_eq_true rfl) rfl ?_
  show mX m_X8_attendance 7 _ 0 0 0 [some (vR (some (ob bb))), none] [] (st nn i l)
  have hW := hB.1
  have hO := okC_of hR.1 hW
  have hN := hW.n
  have hCn := hO.n
  obtain ⟨⟨e4, e5, e6, e7⟩, ⟨s0, s1, s2, s3⟩, hwk, hsl, -⟩ := hR.1
  obtain ⟨o1, o2, o3⟩ := hR.2.1
  have hPN := hB.2.1
  have hTN := hB.2.2.2.2.1
  obtain ⟨t1, t2⟩ := hR.2.2.2.2.1
  have hcc : ∀ k, 0 ≤ k → k < i (ob bb + 170) 1 → 0 ≤ i (ob bb + 171) k ∧ i (ob bb + 171) k ≤ 127 := by intro k h0 h1; rw [t2 k h0 (by omega)]; have := hB.2.2.2.2.2 k h0 (by omega); omega
  refine x_aload_n 0 rfl rfl ?_
  refine x_getR 1 (z := (ob bb + 172)) rfl fl_X8_41 b_lt0 k_0 rfl r_0_5 ?_
  refine x_aload_n 2 rfl rfl ?_
  refine x_getR 3 (z := (ob bb + 170)) rfl fl_X8_34 b_lt0 k_0 rfl r_0_4 ?_
  refine x_aload_n 4 rfl rfl ?_
  refine x_getR 5 (z := (ob bb + 1)) rfl fl_X8_10 b_lt0 k_0 rfl r_0_0 ?_
  refine x_getI 6 (z := i (ob bb + 1) 4) rfl fl_X8_59 (isC_0 isC_1) (kC isC_1) rfl rfl ?_
  refine x_callV 7 m_X3_readAbsent (c_readAbsent (by omega) (by omega) hcc) rfl ok_X3_readAbsent (b_lt rfl) k_172 rfl rfl ml_X8_136 im_X3_readAbsent se_X3_readAbsent rfl (by decide) rfl (Nat.le_of_ble_eq_true rfl) rfl rfl (fun v g q1 => ?_)
  obtain ⟨z3, i2, li2, rfl, rfl, hi2⟩ := q1
  show mX m_X8_attendance 7 _ 0 0 _ _ [vI (z3)] _
  obtain ⟨rz, rI, rL, rM⟩ := hi2
  have hd := rd_class (sg := 0) (hi := W 11 - 1) (T := T) (TN := TN) (fun k h0 h1 => t2 k h0 h1) t1 (by rw [← e4]; exact rM)
  have hz01 := rz
  refine x_if_ne 8 (tgt := 24) rfl (by decide) (by omega) (fun h4 => ?_) (fun h4 => ?_)
  · obtain ⟨hz, g, hg, ht0, ht1, hk2, hk3⟩ := hd.resolve_right (fun q => by omega)
    have hRr := RelB_same hR hB (fun a b ha => rI a b (by omega)) (fun a b ha => rL a b (by omega)) hk2 hk3 (by have hz := hR.2.2.2.2.2.2; unfold PZ at hz ⊢; rw [rI (ob bb + 184) 0 (by omega), rL (ob bb + 179) 0 (by omega), rL (ob bb + 180) 0 (by omega), rL (ob bb + 182) 0 (by omega), rL (ob bb + 183) 0 (by omega)]; exact hz)
    have hRo := okC_of hRr.1 hW
    refine x_aload_n 11 rfl rfl ?_
    refine x_getR 12 (z := (ob bb + 16)) rfl fl_X8_19 b_lt0 k_0 rfl r_0_1 ?_
    refine x_aload_n 13 rfl rfl ?_
    refine x_getR 14 (z := (ob bb + 1)) rfl fl_X8_10 b_lt0 k_0 rfl r_0_0 ?_
    refine x_callV 15 m_X1_record (c_record hRo (by rw [rI (ob bb + 16) 1 (by omega), rI (ob bb + 16) 2 (by omega)]; omega)) rfl ok_X1_record (b_lt rfl) k_16 rfl rfl ml_X8_63 im_X1_record se_X1_record rfl (by decide) rfl (Nat.le_of_ble_eq_true rfl) rfl rfl (fun v g q5 => ?_)
    obtain ⟨rfl, i6, li6, rfl, hi6⟩ := q5
    show mX m_X8_attendance 7 _ 0 0 _ _ [] _
    have hrec := hi6
    have hR1 := RelB_record hRr hB hrec
    have hB1 := okB_rm hB hW
    obtain ⟨eI, eL⟩ := rec_else (by rw [rI (ob bb + 1) 4 (by omega)]; omega) (by rw [rI (ob bb + 16) 1 (by omega), rI (ob bb + 16) 2 (by omega)]; omega) hrec
    have hO1 := okC_of hR1.1 hW
    have hC1 := hO1.n
    have f4 : i6 (ob bb + 1) 4 = W 11 := hR1.1.1.1
    have ewk : okWs 40 g.2.2.2.2.2 := fun v hv => by have := okG_read hg v hv; omega
    have hTb : li6 (ob bb + 172) 0 = tT 0#64 g.2.2.2.2.2 := by rw [eL (ob bb + 172) 0 (by omega)]; exact ht0
    obtain ⟨ir, hir⟩ : ∃ f, f = i6 := ⟨_, rfl⟩
    obtain ⟨lr, hlr⟩ : ∃ f, f = li6 := ⟨_, rfl⟩
    refine x_iconst 16 rfl ?_
    refine x_istore_n 17 (L' := [some (vR (some (ob bb))), some (vI (0))]) rfl (by decide) rfl rfl ?_
    have loopL7 : ∀ (nz : Nat) (jj : Nat → Int → Int) (x : Int), (0 ≤ x ∧ x ≤ W 11) → (∀ a b, jj a b = if b = 7 ∧ (ob bb + 1) + 2 ≤ a ∧ (a : Int) < (ob bb + 1 : Nat) + 2 + x then (if (lr (ob bb + 172) 0).getLsbD (a - (ob bb + 1) - 2) = true then 0 else 1) else ir a b) → (W 11 - x) < (nz : Int) → mX m_X8_attendance 7 (qT nn bb i l (spAtt W PN P M K T TN FK FP)) 0 0 37 [some (vR (some (ob bb))), some (vI (x))] [] (st nn jj li6) := by
      intro nz
      induction nz with
      | zero => intro jj x hx hA hz; exact absurd hz (by omega)
      | succ nz ihL7 =>
        intro jj x hx hA hzL7
        have j4 : jj (ob bb + 1) 4 = W 11 := by rw [hA, if_neg (by omega), hir, f4]
        refine x_iload_n 18 rfl rfl ?_
        refine x_aload_n 19 rfl rfl ?_
        refine x_getR 20 (z := (ob bb + 1)) rfl fl_X8_10 b_lt0 k_0 rfl r_0_0 ?_
        refine x_getI 21 (z := jj (ob bb + 1) 4) rfl fl_X8_59 (isC_0 isC_1) (kC isC_1) rfl rfl ?_
        refine x_icmp_ge 22 (tgt := 85) rfl (by decide) (by omega) (fun h8 => ?_) (fun h8 => ?_)
        · have hxe : x = W 11 := by omega
          subst hxe
          rw [hir, hlr] at hA
          have hRj := relC_att hR1.1 hW ewk hTb hA
          have hRo2 := okC_of hRj (okW_att hW)
          refine x_aload_n 40 rfl rfl ?_
          refine x_getR 41 (z := (ob bb + 1)) rfl fl_X8_10 b_lt0 k_0 rfl r_0_0 ?_
          refine x_callV 42 m_X0_absent (c_absent isC_1 hRo2) rfl ok_X0_absent (isC_0 isC_1) (kC isC_1) rfl rfl ml_X8_148 im_X0_absent se_X0_absent rfl (by decide) rfl (Nat.le_of_ble_eq_true rfl) rfl rfl (fun v g q9 => ?_)
          obtain ⟨rfl, rfl⟩ := q9
          show mX m_X8_attendance 7 _ 0 0 _ _ [vI (fAbs jj (ob bb + 1))] _
          refine x_ret 43 (some (vI (fAbs jj (ob bb + 1)))) rfl ⟨rfl, Or.inl rfl⟩ ⟨_, jj, li6, rfl, rfl, ?_⟩
          have hR2 := RelB_ch2 hR1 hB1 (fun a b ha => by rw [hA, if_neg (by omega)]) (fun _ _ _ => rfl) hRj
          exact qs (fAbs_rel hRj) hR2 (by unfold spAtt; rw [hg]) (fun a b ha => by rw [hA, if_neg (by omega), eI a b (by omega)]; exact rI a b (by omega)) (fun a b ha => by rw [eL a b (by omega)]; exact rL a b (by omega))
        · refine x_aload_n 23 rfl rfl ?_
          refine x_getR 24 (z := (ob bb + 1)) rfl fl_X8_10 b_lt0 k_0 rfl r_0_0 ?_
          refine x_getR 25 (z := ((ob bb + 1) + 1)) rfl fl_X8_92 (isC_0 isC_1) (kC isC_1) rfl (rC0 isC_1) ?_
          refine x_iload_n 26 rfl rfl ?_
          refine x_aald 27 (t := 3) (z := ((ob bb + 1) + 2 + (x).toNat)) rfl (isC_S isC_1) (kCS isC_1) (by omega) ⟨rfl, rfl⟩ (rCs isC_1 (by omega)) ?_
          refine x_aload_n 28 rfl rfl ?_
          refine x_getR 29 (z := (ob bb + 172)) rfl fl_X8_41 b_lt0 k_0 rfl r_0_5 ?_
          refine x_getL 30 (z := li6 (ob bb + 172) 0) rfl fl_X8_100 (b_lt rfl) k_172 rfl rfl ?_
          refine x_iload_n 31 rfl rfl ?_
          refine x_callS 32 m_X8_contains (c_contains (by omega)) rfl ok_X8_contains ml_X8_140 st_X8_contains rfl (by decide) rfl (Nat.le_of_ble_eq_true rfl) rfl rfl (fun v g q10 => ?_)
          rcases q10 with ⟨rfl, ⟨h11, rfl⟩ | ⟨h11, rfl⟩⟩
          · show mX m_X8_attendance 7 _ 0 0 _ _ [vI (1), vR (some ((ob bb + 1) + 2 + (x).toNat))] _
            have hbt := h11
            refine x_if_ne 33 (tgt := 75) rfl (by decide) (by decide) (fun h12 => ?_) (fun h12 => absurd h12 (by decide))
            refine x_iconst 36 rfl ?_
            obtain ⟨i13, hi13⟩ : ∃ f, f = mU jj ((ob bb + 1) + 2 + (x).toNat) 7 (0) := ⟨_, rfl⟩
            refine x_putZ 37 rfl fl_X8_144 (isS_lt (isS.of isC_1 (show (x).toNat < 10 by omega))) (kS (isS.of isC_1 (show (x).toNat < 10 by omega))) rfl (by omega) rfl (g' := st nn i13 li6) (by subst hi13; rfl) ?_
            refine x_iinc 38 (L' := [some (vR (some (ob bb))), some (vI (x + 1))]) rfl (by decide) rfl rfl rfl rfl ?_
            refine x_goto 39 (tgt := 37) rfl (by decide) ?_
            exact ihL7 i13 (x + 1) (by omega) (at_step hx.1 hA (by subst_vars; first | (rw [if_pos hbt]) | (rw [if_neg hbt]))) (by omega)
          · show mX m_X8_attendance 7 _ 0 0 _ _ [vI (0), vR (some ((ob bb + 1) + 2 + (x).toNat))] _
            have hbt := h11
            refine x_if_ne 33 (tgt := 75) rfl (by decide) (by decide) (fun h14 => absurd h14 (by decide)) (fun h14 => ?_)
            refine x_iconst 34 rfl ?_
            refine x_goto 35 (tgt := 76) rfl (by decide) ?_
            obtain ⟨i15, hi15⟩ : ∃ f, f = mU jj ((ob bb + 1) + 2 + (x).toNat) 7 (1) := ⟨_, rfl⟩
            refine x_putZ 37 rfl fl_X8_144 (isS_lt (isS.of isC_1 (show (x).toNat < 10 by omega))) (kS (isS.of isC_1 (show (x).toNat < 10 by omega))) rfl (by omega) rfl (g' := st nn i15 li6) (by subst hi15; rfl) ?_
            refine x_iinc 38 (L' := [some (vR (some (ob bb))), some (vI (x + 1))]) rfl (by decide) rfl rfl rfl rfl ?_
            refine x_goto 39 (tgt := 37) rfl (by decide) ?_
            exact ihL7 i15 (x + 1) (by omega) (at_step hx.1 hA (by subst_vars; first | (rw [if_pos hbt]) | (rw [if_neg hbt]))) (by omega)
    exact loopL7 ((W 11 - ((0))) + 1 : Int).toNat i6 (0) (by omega) (by intro a b; rw [if_neg (by omega), hir]) (by omega)
  · obtain ⟨hz, e, hg, hk2, hk3⟩ := hd.resolve_left (fun q => by omega)
    refine x_bipush 9 rfl (by decide) ?_
    refine x_ret 10 (some (vI ((-2)))) rfl ⟨rfl, Or.inl rfl⟩ ⟨_, i2, li2, rfl, rfl, ?_⟩
    exact qs rfl (RelB_fault hR hB rI rL hk2 hk3) (by unfold spAtt; rw [hg]) (fun a b ha => rI a b (by omega)) (fun a b ha => rL a b (by omega))
set_option maxRecDepth 20000 in
set_option maxHeartbeats 2000000 in
theorem c_b_hold {i : Nat → Int → Int} {l : Nat → Int → BitVec 64} {W : Int → Int} {PN : Int} {P M : Int → Int → Int} {K : Int → Bool} {T : Int → Int} {TN FK FP : Int} (hR : RelB bb i l W PN P M K T TN FK FP) (hB : okB W PN P M K T TN)  : mCtr m_X8_hold 8 0 0 [vR (some (ob bb))] (st nn i l) (qT nn bb i l (spHold W PN P M K T TN FK FP)) := by
  refine mCtr_of pl_X8 dc_X8_hold (Nat.le_of_ble_eq_true rfl) rfl ?_
  show mX m_X8_hold 8 _ 0 0 0 [some (vR (some (ob bb)))] [] (st nn i l)
  have hW := hB.1
  have hO := okC_of hR.1 hW
  have hN := hW.n
  have hCn := hO.n
  obtain ⟨⟨e4, e5, e6, e7⟩, ⟨s0, s1, s2, s3⟩, hwk, hsl, -⟩ := hR.1
  obtain ⟨o1, o2, o3⟩ := hR.2.1
  have hPN := hB.2.1
  have hTN := hB.2.2.2.2.1
  obtain ⟨t1, t2⟩ := hR.2.2.2.2.1
  have hcc : ∀ k, 0 ≤ k → k < i (ob bb + 170) 1 → 0 ≤ i (ob bb + 171) k ∧ i (ob bb + 171) k ≤ 127 := by intro k h0 h1; rw [t2 k h0 (by omega)]; have := hB.2.2.2.2.2 k h0 (by omega); omega
  refine x_aload_n 0 rfl rfl ?_
  refine x_getR 1 (z := (ob bb + 1)) rfl fl_X8_10 b_lt0 k_0 rfl r_0_0 ?_
  refine x_getI 2 (z := i (ob bb + 1) 4) rfl fl_X8_59 (isC_0 isC_1) (kC isC_1) rfl rfl ?_
  refine x_if_ne 3 (tgt := 13) rfl (by decide) (by omega) (fun h1 => ?_) (fun h1 => ?_)
  · refine x_aload_n 6 rfl rfl ?_
    refine x_getR 7 (z := (ob bb + 1)) rfl fl_X8_10 b_lt0 k_0 rfl r_0_0 ?_
    refine x_getI 8 (z := i (ob bb + 1) 5) rfl fl_X8_152 (isC_0 isC_1) (kC isC_1) rfl rfl ?_
    refine x_bipush 9 rfl (by decide) ?_
    refine x_icmp_lt 10 (tgt := 28) rfl (by decide) (by omega) (fun h2 => ?_) (fun h2 => ?_)
    · refine x_aload_n 13 rfl rfl ?_
      refine x_getR 14 (z := (ob bb + 16)) rfl fl_X8_19 b_lt0 k_0 rfl r_0_1 ?_
      refine x_aload_n 15 rfl rfl ?_
      refine x_getR 16 (z := (ob bb + 1)) rfl fl_X8_10 b_lt0 k_0 rfl r_0_0 ?_
      refine x_callV 17 m_X1_record (c_record hO (by omega)) rfl ok_X1_record (b_lt rfl) k_16 rfl rfl ml_X8_63 im_X1_record se_X1_record rfl (by decide) rfl (Nat.le_of_ble_eq_true rfl) rfl rfl (fun v g q3 => ?_)
      obtain ⟨rfl, i4, li4, rfl, hi4⟩ := q3
      show mX m_X8_hold 8 _ 0 0 _ _ [] _
      have hrec := hi4
      have hR1 := RelB_record hR hB hrec
      have hB1 := okB_rm hB hW
      obtain ⟨eI, eL⟩ := rec_else (by omega) (by omega) hrec
      have hO1 := okC_of hR1.1 hW
      have hC1 := hO1.n
      have f4 : i4 (ob bb + 1) 4 = W 11 := hR1.1.1.1
      have fr1 : ∀ a b, (a < ob bb ∨ ob bb + 189 ≤ a) → i4 a b = i a b := fun a b ha => eI a b (by omega)
      have fl1 : ∀ a b, (a < ob bb ∨ ob bb + 189 ≤ a) → li4 a b = l a b := fun a b ha => eL a b (by omega)
      refine x_aload_n 18 rfl rfl ?_
      refine x_getR 19 (z := (ob bb + 173)) rfl fl_X8_48 b_lt0 k_0 rfl r_0_6 ?_
      refine x_aload_n 20 rfl rfl ?_
      refine x_getR 21 (z := (ob bb + 1)) rfl fl_X8_10 b_lt0 k_0 rfl r_0_0 ?_
      refine x_callV 22 m_X4_plan (c_plan isC_1 hO1) rfl ok_X4_plan (b_lt rfl) k_173 rfl rfl ml_X8_155 im_X4_plan se_X4_plan rfl (by decide) rfl (Nat.le_of_ble_eq_true rfl) rfl rfl (fun v g q5 => ?_)
      obtain ⟨rfl, i6, li6, rfl, hi6⟩ := q5
      show mX m_X8_hold 8 _ 0 0 _ _ [] _
      obtain ⟨rfl, hpf, hps, hpo⟩ := hi6
      rw [plT_rel hR1.1 (by omega)] at hps
      have h174 : ∀ k, 0 ≤ k → k < 10 → i6 (ob bb + 174) k = (plT W).1 k := by intro k h0 h1; rw [← hps]; show _ = (if 0 ≤ k ∧ k < 10 then _ else _); rw [if_pos ⟨h0, h1⟩]
      have h175 : ∀ p, 0 ≤ p → p < 4 → i6 (ob bb + 175) p = (plT W).2 p := by intro p h0 h1; rw [← hps]; show _ = (if 0 ≤ p ∧ p < 4 then _ else _); rw [if_pos ⟨h0, h1⟩]
      have h176 : ∀ p, 0 ≤ p → p < 4 → i6 (ob bb + 176) p = plS W p := by intro p h0 h1; rw [hpo p h0 h1]; exact plS_rel hR1.1 (by omega) p
      have hRp := hR1.1.congr (by omega) (fun a b h1 h2 => hpf a b (by omega) (by omega) (by omega)) (fun _ _ _ _ => rfl)
      have hOp := okC_of hRp hW
      have hpb := hOp.n
      have p4 : i6 (ob bb + 1) 4 = W 11 := hRp.1.1
      have p5 : i6 (ob bb + 1) 5 = W 4 := hRp.1.2.1
      have hbT : ∀ q, -1500 ≤ (plT W).2 q ∧ (plT W).2 q ≤ 1500 := siAZ_bd _ _ (by omega) hN.1 (wD_g hW) (fun q => by have := fPres_bd (p := q) hO; rw [fPres_rel hR.1] at this; show -100 ≤ (if 0 ≤ q ∧ q < 4 then gPres W q else 0) ∧ (if 0 ≤ q ∧ q < 4 then gPres W q else 0) ≤ 100; split <;> omega)
      refine x_aload_n 23 rfl rfl ?_
      refine x_getR 24 (z := (ob bb + 173)) rfl fl_X8_48 b_lt0 k_0 rfl r_0_6 ?_
      refine x_aload_n 25 rfl rfl ?_
      refine x_getR 26 (z := (ob bb + 1)) rfl fl_X8_10 b_lt0 k_0 rfl r_0_0 ?_
      refine x_callV 27 m_X4_happen (c_happen isC_1 hOp (by omega) (fun p h0 h1 => by rw [h175 p h0 h1]; have := hbT p; omega) (fun k h0 h1 => by rw [h174 k h0 h1]; exact plT_sb W k) (fun p h0 h1 => by rw [h176 p h0 h1, p4]; exact plS_bd W p (by omega))) rfl ok_X4_happen (b_lt rfl) k_173 rfl rfl ml_X8_158 im_X4_happen se_X4_happen rfl (by decide) rfl (Nat.le_of_ble_eq_true rfl) rfl rfl (fun v g q7 => ?_)
      obtain ⟨z9, i8, li8, rfl, rfl, hi8⟩ := q7
      show mX m_X8_hold 8 _ 0 0 _ _ [vI (z9)] _
      obtain ⟨hgz, rfl, ii, kk, jj, hhA, hhk, hhB, hhi⟩ := hi8
      refine x_ret 28 (some (vI (z9))) rfl ⟨rfl, Or.inl rfl⟩ ⟨_, i8, li8, rfl, rfl, ?_⟩
      have hRj := relC_hold hRp hW h174 h175 h176 hhA hhk hhB hhi
      have hel : ∀ a b, (a < ob bb ∨ (ob bb + 16) ≤ a) → a ≠ (ob bb + 174) → a ≠ (ob bb + 175) → a ≠ (ob bb + 176) → i8 a b = _ := fun a b ha q1 q2 q3 => (ho_else hhA hhk hhB hhi p4 hN.1.2 ha b).trans (hpf a b q1 q2 q3)
      have hR2 := RelB_ch hR1 hB1 (fun a b h1 h2 => hel a b (Or.inr h1) (by omega) (by omega) (by omega)) (fun _ _ _ _ => rfl) (hel (ob bb + 172) 2 (by omega) (by omega) (by omega) (by omega)) (hel (ob bb + 172) 3 (by omega) (by omega) (by omega) (by omega)) (by have hz := hR1.2.2.2.2.2.2; unfold PZ at hz ⊢; rw [hel (ob bb + 184) 0 (by omega) (by omega) (by omega) (by omega)]; exact hz) hRj
      exact qs (z' := sgW W) (by rw [hgz]; exact sumZ_congr (fun p h0 h1 => by rw [h176 p h0 h1])) hR2 (by unfold spHold; rw [if_neg (by omega), if_neg (by omega)]) (fun a b ha => by rw [hel a b (by omega) (by omega) (by omega) (by omega)]; exact fr1 a b ha) fl1
    · refine x_bipush 11 rfl (by decide) ?_
      refine x_ret 12 (some (vI ((-3)))) rfl ⟨rfl, Or.inl rfl⟩ ⟨_, i, l, rfl, rfl, ?_⟩
      exact qs (rfl) hR (by unfold spHold; rw [if_neg (by omega), if_pos (by omega)]) (fun _ _ _ => rfl) (fun _ _ _ => rfl)
  · refine x_bipush 4 rfl (by decide) ?_
    refine x_ret 5 (some (vI ((-2)))) rfl ⟨rfl, Or.inl rfl⟩ ⟨_, i, l, rfl, rfl, ?_⟩
    exact qs (rfl) hR (by unfold spHold; rw [if_pos (by omega)]) (fun _ _ _ => rfl) (fun _ _ _ => rfl)
set_option maxRecDepth 20000 in
set_option maxHeartbeats 2000000 in
theorem c_b_undo {i : Nat → Int → Int} {l : Nat → Int → BitVec 64} {W : Int → Int} {PN : Int} {P M : Int → Int → Int} {K : Int → Bool} {T : Int → Int} {TN FK FP : Int} (hR : RelB bb i l W PN P M K T TN FK FP) (hB : okB W PN P M K T TN)  : mCtr m_X8_undo 5 0 0 [vR (some (ob bb))] (st nn i l) (qT nn bb i l (spUndo W PN P M K T TN FK FP)) := by
  refine mCtr_of pl_X8 dc_X8_undo (Nat.le_of_ble_eq_true rfl) rfl ?_
  show mX m_X8_undo 5 _ 0 0 0 [some (vR (some (ob bb)))] [] (st nn i l)
  have hW := hB.1
  have hO := okC_of hR.1 hW
  have hN := hW.n
  have hCn := hO.n
  obtain ⟨⟨e4, e5, e6, e7⟩, ⟨s0, s1, s2, s3⟩, hwk, hsl, -⟩ := hR.1
  obtain ⟨o1, o2, o3⟩ := hR.2.1
  have hPN := hB.2.1
  have hTN := hB.2.2.2.2.1
  obtain ⟨t1, t2⟩ := hR.2.2.2.2.1
  have hcc : ∀ k, 0 ≤ k → k < i (ob bb + 170) 1 → 0 ≤ i (ob bb + 171) k ∧ i (ob bb + 171) k ≤ 127 := by intro k h0 h1; rw [t2 k h0 (by omega)]; have := hB.2.2.2.2.2 k h0 (by omega); omega
  refine x_aload_n 0 rfl rfl ?_
  refine x_getR 1 (z := (ob bb + 16)) rfl fl_X8_19 b_lt0 k_0 rfl r_0_1 ?_
  refine x_getI 2 (z := i (ob bb + 16) 2) rfl fl_X8_162 (b_lt rfl) k_16 rfl rfl ?_
  refine x_if_ne 3 (tgt := 13) rfl (by decide) (by omega) (fun h1 => ?_) (fun h1 => ?_)
  · refine x_aload_n 6 rfl rfl ?_
    refine x_getR 7 (z := (ob bb + 16)) rfl fl_X8_19 b_lt0 k_0 rfl r_0_1 ?_
    refine x_aload_n 8 rfl rfl ?_
    refine x_getR 9 (z := (ob bb + 1)) rfl fl_X8_10 b_lt0 k_0 rfl r_0_0 ?_
    have hTo : okC i (ob bb + 18 + 15 * ((i (ob bb + 16) 1 + (i (ob bb + 16) 2 - 1)) % 8).toNat) := by have := okC_of (hR.2.2.1 (PN - 1) (by omega) (by omega)) (hB.2.2.1 (PN - 1) (by omega) (by omega)); unfold hC at this; rw [o3]; exact this
    refine x_callV 10 m_X1_restore (c_restore (by omega) hTo) rfl ok_X1_restore (b_lt rfl) k_16 rfl rfl ml_X8_165 im_X1_restore se_X1_restore rfl (by decide) rfl (Nat.le_of_ble_eq_true rfl) rfl rfl (fun v g q2 => ?_)
    obtain ⟨rfl, i3, li3, rfl, hi3⟩ := q2
    show mX m_X8_undo 5 _ 0 0 _ _ [] _
    have hm := hi3
    have hR2 := RelB_restore hR hB (by omega) hm
    refine x_aload_n 11 rfl rfl ?_
    refine x_getR 12 (z := (ob bb + 16)) rfl fl_X8_19 b_lt0 k_0 rfl r_0_1 ?_
    refine x_getI 13 (z := i3 (ob bb + 16) 2) rfl fl_X8_162 (b_lt rfl) k_16 rfl rfl ?_
    refine x_ret 14 (some (vI (i3 (ob bb + 16) 2))) rfl ⟨rfl, Or.inl rfl⟩ ⟨_, i3, li3, rfl, rfl, ?_⟩
    have h4 : mU i (ob bb + 16) 2 (i (ob bb + 16) 2 - 1) (ob bb + 18 + 15 * ((i (ob bb + 16) 1 + (i (ob bb + 16) 2 - 1)) % 8).toNat) 4 ≤ 10 := by rw [mUne _ _ _ _ _ (by omega)]; exact hTo.n.1.2
    exact qs hR2.2.1.2.2 hR2 (by unfold spUndo; rw [if_neg (by omega)]) (fun a b ha => by rw [cp_elseI hm h4 (by omega) b, mUne _ _ _ _ _ (by omega)]) (fun a b ha => cp_elseL hm h4 (by omega) b)
  · refine x_bipush 4 rfl (by decide) ?_
    refine x_ret 5 (some (vI ((-2)))) rfl ⟨rfl, Or.inl rfl⟩ ⟨_, i, l, rfl, rfl, ?_⟩
    exact qs (rfl) hR (by unfold spUndo; rw [if_pos (by omega)]) (fun _ _ _ => rfl) (fun _ _ _ => rfl)
set_option maxRecDepth 20000 in
set_option maxHeartbeats 2000000 in
theorem c_b_write {i : Nat → Int → Int} {l : Nat → Int → BitVec 64} {W : Int → Int} {PN : Int} {P M : Int → Int → Int} {K : Int → Bool} {T : Int → Int} {TN FK FP : Int} (hR : RelB bb i l W PN P M K T TN FK FP) (hB : okB W PN P M K T TN) {x : Int} (hx : -2147483648 ≤ x ∧ x < 2147483648) : mCtr m_X8_write 5 0 0 [vR (some (ob bb)), vI (x)] (st nn i l) (qT nn bb i l (spWrite x W PN P M K T TN FK FP)) := by
  refine mCtr_of pl_X8 dc_X8_write (Nat.le_of_ble_eq_true rfl) rfl ?_
  show mX m_X8_write 5 _ 0 0 0 [some (vR (some (ob bb))), some (vI (x))] [] (st nn i l)
  have hW := hB.1
  have hO := okC_of hR.1 hW
  have hN := hW.n
  have hCn := hO.n
  obtain ⟨⟨e4, e5, e6, e7⟩, ⟨s0, s1, s2, s3⟩, hwk, hsl, -⟩ := hR.1
  obtain ⟨o1, o2, o3⟩ := hR.2.1
  have hPN := hB.2.1
  have hTN := hB.2.2.2.2.1
  obtain ⟨t1, t2⟩ := hR.2.2.2.2.1
  have hcc : ∀ k, 0 ≤ k → k < i (ob bb + 170) 1 → 0 ≤ i (ob bb + 171) k ∧ i (ob bb + 171) k ≤ 127 := by intro k h0 h1; rw [t2 k h0 (by omega)]; have := hB.2.2.2.2.2 k h0 (by omega); omega
  refine x_iload_n 0 rfl rfl ?_
  refine x_bipush 1 rfl (by decide) ?_
  refine x_icmp_lt 2 (tgt := 12) rfl (by decide) (by omega) (fun h1 => ?_) (fun h1 => ?_)
  · refine x_iconst 6 rfl ?_
    refine x_ret 7 (some (vI ((-1)))) rfl ⟨rfl, Or.inl rfl⟩ ⟨_, i, l, rfl, rfl, ?_⟩
    exact qs (rfl) hR (by unfold spWrite; rw [if_pos (by omega)]) (fun _ _ _ => rfl) (fun _ _ _ => rfl)
  · refine x_iload_n 3 rfl rfl ?_
    refine x_bipush 4 rfl (by decide) ?_
    refine x_icmp_le 5 (tgt := 14) rfl (by decide) (by omega) (fun h2 => ?_) (fun h2 => ?_)
    · refine x_aload_n 8 rfl rfl ?_
      refine x_getR 9 (z := (ob bb + 170)) rfl fl_X8_34 b_lt0 k_0 rfl r_0_4 ?_
      refine x_getI 10 (z := i (ob bb + 170) 1) rfl fl_X8_168 (b_lt rfl) k_170 rfl rfl ?_
      refine x_bipush 11 rfl (by decide) ?_
      refine x_icmp_lt 12 (tgt := 29) rfl (by decide) (by omega) (fun h3 => ?_) (fun h3 => ?_)
      · refine x_aload_n 15 rfl rfl ?_
        refine x_getR 16 (z := (ob bb + 170)) rfl fl_X8_34 b_lt0 k_0 rfl r_0_4 ?_
        refine x_getR 17 (z := (ob bb + 171)) rfl fl_X8_171 (b_lt rfl) k_170 rfl r_170_0 ?_
        refine x_aload_n 18 rfl rfl ?_
        refine x_getR 19 (z := (ob bb + 170)) rfl fl_X8_34 b_lt0 k_0 rfl r_0_4 ?_
        refine x_getI 20 (z := i (ob bb + 170) 1) rfl fl_X8_168 (b_lt rfl) k_170 rfl rfl ?_
        refine x_iload_n 21 rfl rfl ?_
        obtain ⟨i4, hi4⟩ : ∃ f, f = mU i (ob bb + 171) (i (ob bb + 170) 1) (x) := ⟨_, rfl⟩
        refine x_iast 22 rfl (b_lt rfl) k_171 (by omega) (g' := st nn i4 l) (by subst hi4; rfl) ?_
        have hi1_ := hi4
        have q1 : i4 (ob bb + 170) 1 = i (ob bb + 170) 1 := by rw [hi4, mUne _ _ _ _ _ (by omega)]
        refine x_aload_n 23 rfl rfl ?_
        refine x_getR 24 (z := (ob bb + 170)) rfl fl_X8_34 b_lt0 k_0 rfl r_0_4 ?_
        refine x_dup 25 rfl rfl ?_
        refine x_getI 26 (z := i4 (ob bb + 170) 1) rfl fl_X8_168 (b_lt rfl) k_170 rfl rfl ?_
        refine x_iconst 27 rfl ?_
        refine x_iadd 28 (r := (i4 (ob bb + 170) 1) + 1) rfl rfl ?_
        obtain ⟨i5, hi5⟩ : ∃ f, f = mU i4 (ob bb + 170) 1 ((i4 (ob bb + 170) 1) + 1) := ⟨_, rfl⟩
        refine x_putI 29 rfl fl_X8_168 (b_lt rfl) k_170 rfl rfl (g' := st nn i5 l) (by subst hi5; rfl) ?_
        have hi2_ := hi5
        have ea : ∀ a b, a ≠ (ob bb + 171) → a ≠ (ob bb + 170) → i5 a b = i a b := fun a b h1 h2 => by rw [hi5, mUne _ _ _ _ _ h2, hi1_, mUne _ _ _ _ _ h1]
        refine x_aload_n 30 rfl rfl ?_
        refine x_getR 31 (z := (ob bb + 170)) rfl fl_X8_34 b_lt0 k_0 rfl r_0_4 ?_
        refine x_getI 32 (z := i5 (ob bb + 170) 1) rfl fl_X8_168 (b_lt rfl) k_170 rfl rfl ?_
        refine x_ret 33 (some (vI (i5 (ob bb + 170) 1))) rfl ⟨rfl, Or.inl rfl⟩ ⟨_, i5, l, rfl, rfl, ?_⟩
        have hq : i5 (ob bb + 170) 1 = TN + 1 := by rw [hi2_, mUs, q1, t1]
        have hR2 := RelB_text (i' := i5) (T' := fU T TN x) (TN' := TN + 1) hR hB ea hq (fun k h0 hk => by
          rw [hi2_, mUne _ _ _ _ _ (by omega), hi1_]
          unfold fU
          simp only [mU, true_and, t1]
          by_cases q : k = TN
          · rw [if_pos q, if_pos q]
          · rw [if_neg q, if_neg q]; exact t2 k h0 (by omega))
        exact qs hq hR2 (by unfold spWrite; rw [if_neg (by omega), if_neg (by omega)]) (fun a b ha => ea a b (by omega) (by omega)) (fun _ _ _ => rfl)
      · refine x_bipush 13 rfl (by decide) ?_
        refine x_ret 14 (some (vI ((-3)))) rfl ⟨rfl, Or.inl rfl⟩ ⟨_, i, l, rfl, rfl, ?_⟩
        exact qs (rfl) hR (by unfold spWrite; rw [if_neg (by omega), if_pos (by omega)]) (fun _ _ _ => rfl) (fun _ _ _ => rfl)
    · refine x_iconst 6 rfl ?_
      refine x_ret 7 (some (vI ((-1)))) rfl ⟨rfl, Or.inl rfl⟩ ⟨_, i, l, rfl, rfl, ?_⟩
      exact qs (rfl) hR (by unfold spWrite; rw [if_pos (by omega)]) (fun _ _ _ => rfl) (fun _ _ _ => rfl)
set_option maxRecDepth 20000 in
set_option maxHeartbeats 2000000 in
theorem c_b_wipe {i : Nat → Int → Int} {l : Nat → Int → BitVec 64} {W : Int → Int} {PN : Int} {P M : Int → Int → Int} {K : Int → Bool} {T : Int → Int} {TN FK FP : Int} (hR : RelB bb i l W PN P M K T TN FK FP) (hB : okB W PN P M K T TN)  : mCtr m_X8_wipe 5 0 0 [vR (some (ob bb))] (st nn i l) (qT nn bb i l (spWipe W PN P M K T TN FK FP)) := by
  refine mCtr_of pl_X8 dc_X8_wipe (Nat.le_of_ble_eq_true rfl) rfl ?_
  show mX m_X8_wipe 5 _ 0 0 0 [some (vR (some (ob bb))), none] [] (st nn i l)
  have hW := hB.1
  have hO := okC_of hR.1 hW
  have hN := hW.n
  have hCn := hO.n
  obtain ⟨⟨e4, e5, e6, e7⟩, ⟨s0, s1, s2, s3⟩, hwk, hsl, -⟩ := hR.1
  obtain ⟨o1, o2, o3⟩ := hR.2.1
  have hPN := hB.2.1
  have hTN := hB.2.2.2.2.1
  obtain ⟨t1, t2⟩ := hR.2.2.2.2.1
  have hcc : ∀ k, 0 ≤ k → k < i (ob bb + 170) 1 → 0 ≤ i (ob bb + 171) k ∧ i (ob bb + 171) k ≤ 127 := by intro k h0 h1; rw [t2 k h0 (by omega)]; have := hB.2.2.2.2.2 k h0 (by omega); omega
  refine x_aload_n 0 rfl rfl ?_
  refine x_getR 1 (z := (ob bb + 170)) rfl fl_X8_34 b_lt0 k_0 rfl r_0_4 ?_
  refine x_getI 2 (z := i (ob bb + 170) 1) rfl fl_X8_168 (b_lt rfl) k_170 rfl rfl ?_
  refine x_istore_n 3 (L' := [some (vR (some (ob bb))), some (vI (i (ob bb + 170) 1))]) rfl (by decide) rfl rfl ?_
  refine x_aload_n 4 rfl rfl ?_
  refine x_getR 5 (z := (ob bb + 170)) rfl fl_X8_34 b_lt0 k_0 rfl r_0_4 ?_
  refine x_iconst 6 rfl ?_
  obtain ⟨i1, hi1⟩ : ∃ f, f = mU i (ob bb + 170) 1 (0) := ⟨_, rfl⟩
  refine x_putI 7 rfl fl_X8_168 (b_lt rfl) k_170 rfl rfl (g' := st nn i1 l) (by subst hi1; rfl) ?_
  have hi1_ := hi1
  refine x_iload_n 8 rfl rfl ?_
  refine x_ret 9 (some (vI (i (ob bb + 170) 1))) rfl ⟨rfl, Or.inl rfl⟩ ⟨_, i1, l, rfl, rfl, ?_⟩
  have hR2 := RelB_text (i' := i1) (T' := T) (TN' := 0) hR hB (fun a b h1 h2 => by rw [hi1_, mUne _ _ _ _ _ h2]) (by rw [hi1_, mUs]) (fun k h0 hk => by omega)
  exact qs t1 hR2 rfl (fun a b ha => by rw [hi1_, mUne _ _ _ _ _ (by omega)]) (fun _ _ _ => rfl)
set_option maxRecDepth 20000 in
set_option maxHeartbeats 2000000 in
theorem c_b_told {i : Nat → Int → Int} {l : Nat → Int → BitVec 64} {W : Int → Int} {PN : Int} {P M : Int → Int → Int} {K : Int → Bool} {T : Int → Int} {TN FK FP : Int} (hR : RelB bb i l W PN P M K T TN FK FP) (hB : okB W PN P M K T TN) {x : Int} (hx : -2147483648 ≤ x ∧ x < 2147483648) : mCtr m_X8_told 5 0 0 [vR (some (ob bb)), vI (x)] (st nn i l) (qT nn bb i l (spAsk (anTold x W PN TN) W PN P M K T TN FK FP)) := by
  refine mCtr_of pl_X8 dc_X8_told (Nat.le_of_ble_eq_true rfl) rfl ?_
  show mX m_X8_told 5 _ 0 0 0 [some (vR (some (ob bb))), some (vI (x))] [] (st nn i l)
  have hW := hB.1
  have hO := okC_of hR.1 hW
  have hN := hW.n
  have hCn := hO.n
  obtain ⟨⟨e4, e5, e6, e7⟩, ⟨s0, s1, s2, s3⟩, hwk, hsl, -⟩ := hR.1
  obtain ⟨o1, o2, o3⟩ := hR.2.1
  have hPN := hB.2.1
  have hTN := hB.2.2.2.2.1
  obtain ⟨t1, t2⟩ := hR.2.2.2.2.1
  have hcc : ∀ k, 0 ≤ k → k < i (ob bb + 170) 1 → 0 ≤ i (ob bb + 171) k ∧ i (ob bb + 171) k ≤ 127 := by intro k h0 h1; rw [t2 k h0 (by omega)]; have := hB.2.2.2.2.2 k h0 (by omega); omega
  refine x_iload_n 0 rfl rfl ?_
  rcases (show (x < 0 ∨ 8 < x) ∨ x = 0 ∨ x = 1 ∨ x = 2 ∨ x = 3 ∨ x = 4 ∨ x = 5 ∨ x = 6 ∨ x = 7 ∨ x = 8 by omega) with h1 | h1 | h1 | h1 | h1 | h1 | h1 | h1 | h1 | h1
  · refine x_tabOut 1 (tgt := 124) rfl (by omega) h1 (by decide) ?_
    refine x_iconst 38 rfl ?_
    refine x_ret 39 (some (vI ((-1)))) rfl ⟨rfl, Or.inl rfl⟩ ⟨_, i, l, rfl, rfl, ?_⟩
    exact qs (z' := anTold x W PN TN) (by unfold anTold; rw [if_neg (by omega), if_neg (by omega), if_neg (by omega), if_neg (by omega), if_neg (by omega), if_neg (by omega), if_neg (by omega), if_neg (by omega), if_neg (by omega)]) hR rfl (fun _ _ _ => rfl) (fun _ _ _ => rfl)
  · refine x_tabIn 1 (off := 51) (tgt := 52) rfl (by omega) (by omega) (by rw [h1]; rfl) (by decide) ?_
    refine x_aload_n 2 rfl rfl ?_
    refine x_getR 3 (z := (ob bb + 1)) rfl fl_X8_10 b_lt0 k_0 rfl r_0_0 ?_
    refine x_getI 4 (z := i (ob bb + 1) 4) rfl fl_X8_59 (isC_0 isC_1) (kC isC_1) rfl rfl ?_
    refine x_ret 5 (some (vI (i (ob bb + 1) 4))) rfl ⟨rfl, Or.inl rfl⟩ ⟨_, i, l, rfl, rfl, ?_⟩
    exact qs (z' := anTold x W PN TN) (by unfold anTold; rw [if_pos (by omega)]; exact e4) hR rfl (fun _ _ _ => rfl) (fun _ _ _ => rfl)
  · refine x_tabIn 1 (off := 59) (tgt := 60) rfl (by omega) (by omega) (by rw [h1]; rfl) (by decide) ?_
    refine x_aload_n 6 rfl rfl ?_
    refine x_getR 7 (z := (ob bb + 1)) rfl fl_X8_10 b_lt0 k_0 rfl r_0_0 ?_
    refine x_callV 8 m_X0_placed (c_placed isC_1 hO) rfl ok_X0_placed (isC_0 isC_1) (kC isC_1) rfl rfl ml_X8_180 im_X0_placed se_X0_placed rfl (by decide) rfl (Nat.le_of_ble_eq_true rfl) rfl rfl (fun v g q2 => ?_)
    obtain ⟨rfl, rfl⟩ := q2
    show mX m_X8_told 5 _ 0 0 _ _ [vI (sumZ (fun p => fMem i (ob bb + 1) p) 4)] _
    refine x_ret 9 (some (vI (sumZ (fun p => fMem i (ob bb + 1) p) 4))) rfl ⟨rfl, Or.inl rfl⟩ ⟨_, i, l, rfl, rfl, ?_⟩
    exact qs (z' := anTold x W PN TN) (by unfold anTold; rw [if_neg (by omega), if_pos (by omega)]; exact sumZ_congr (fun p _ _ => fMem_rel hR.1 p)) hR rfl (fun _ _ _ => rfl) (fun _ _ _ => rfl)
  · refine x_tabIn 1 (off := 67) (tgt := 68) rfl (by omega) (by omega) (by rw [h1]; rfl) (by decide) ?_
    refine x_aload_n 10 rfl rfl ?_
    refine x_getR 11 (z := (ob bb + 1)) rfl fl_X8_10 b_lt0 k_0 rfl r_0_0 ?_
    refine x_getI 12 (z := i (ob bb + 1) 5) rfl fl_X8_152 (isC_0 isC_1) (kC isC_1) rfl rfl ?_
    refine x_ret 13 (some (vI (i (ob bb + 1) 5))) rfl ⟨rfl, Or.inl rfl⟩ ⟨_, i, l, rfl, rfl, ?_⟩
    exact qs (z' := anTold x W PN TN) (by unfold anTold; rw [if_neg (by omega), if_neg (by omega), if_pos (by omega)]; exact e5) hR rfl (fun _ _ _ => rfl) (fun _ _ _ => rfl)
  · refine x_tabIn 1 (off := 75) (tgt := 76) rfl (by omega) (by omega) (by rw [h1]; rfl) (by decide) ?_
    refine x_aload_n 14 rfl rfl ?_
    refine x_getR 15 (z := (ob bb + 1)) rfl fl_X8_10 b_lt0 k_0 rfl r_0_0 ?_
    refine x_callV 16 m_X0_absent (c_absent isC_1 hO) rfl ok_X0_absent (isC_0 isC_1) (kC isC_1) rfl rfl ml_X8_148 im_X0_absent se_X0_absent rfl (by decide) rfl (Nat.le_of_ble_eq_true rfl) rfl rfl (fun v g q3 => ?_)
    obtain ⟨rfl, rfl⟩ := q3
    show mX m_X8_told 5 _ 0 0 _ _ [vI (fAbs i (ob bb + 1))] _
    refine x_ret 17 (some (vI (fAbs i (ob bb + 1)))) rfl ⟨rfl, Or.inl rfl⟩ ⟨_, i, l, rfl, rfl, ?_⟩
    exact qs (z' := anTold x W PN TN) (by unfold anTold; rw [if_neg (by omega), if_neg (by omega), if_neg (by omega), if_pos (by omega)]; exact fAbs_rel hR.1) hR rfl (fun _ _ _ => rfl) (fun _ _ _ => rfl)
  · refine x_tabIn 1 (off := 83) (tgt := 84) rfl (by omega) (by omega) (by rw [h1]; rfl) (by decide) ?_
    refine x_aload_n 18 rfl rfl ?_
    refine x_getR 19 (z := (ob bb + 1)) rfl fl_X8_10 b_lt0 k_0 rfl r_0_0 ?_
    refine x_callV 20 m_X0_coveredParts (c_coveredParts isC_1 hO) rfl ok_X0_coveredParts (isC_0 isC_1) (kC isC_1) rfl rfl ml_X8_183 im_X0_coveredParts se_X0_coveredParts rfl (by decide) rfl (Nat.le_of_ble_eq_true rfl) rfl rfl (fun v g q4 => ?_)
    obtain ⟨rfl, rfl⟩ := q4
    show mX m_X8_told 5 _ 0 0 _ _ [vI (fCov i (ob bb + 1))] _
    refine x_ret 21 (some (vI (fCov i (ob bb + 1)))) rfl ⟨rfl, Or.inl rfl⟩ ⟨_, i, l, rfl, rfl, ?_⟩
    exact qs (z' := anTold x W PN TN) (by unfold anTold; rw [if_neg (by omega), if_neg (by omega), if_neg (by omega), if_neg (by omega), if_pos (by omega)]; exact fCov_rel hR.1) hR rfl (fun _ _ _ => rfl) (fun _ _ _ => rfl)
  · refine x_tabIn 1 (off := 91) (tgt := 92) rfl (by omega) (by omega) (by rw [h1]; rfl) (by decide) ?_
    refine x_aload_n 22 rfl rfl ?_
    refine x_getR 23 (z := (ob bb + 1)) rfl fl_X8_10 b_lt0 k_0 rfl r_0_0 ?_
    refine x_getI 24 (z := i (ob bb + 1) 6) rfl fl_X8_186 (isC_0 isC_1) (kC isC_1) rfl rfl ?_
    refine x_ret 25 (some (vI (i (ob bb + 1) 6))) rfl ⟨rfl, Or.inl rfl⟩ ⟨_, i, l, rfl, rfl, ?_⟩
    exact qs (z' := anTold x W PN TN) (by unfold anTold; rw [if_neg (by omega), if_neg (by omega), if_neg (by omega), if_neg (by omega), if_neg (by omega), if_pos (by omega)]; exact e6) hR rfl (fun _ _ _ => rfl) (fun _ _ _ => rfl)
  · refine x_tabIn 1 (off := 99) (tgt := 100) rfl (by omega) (by omega) (by rw [h1]; rfl) (by decide) ?_
    refine x_aload_n 26 rfl rfl ?_
    refine x_getR 27 (z := (ob bb + 1)) rfl fl_X8_10 b_lt0 k_0 rfl r_0_0 ?_
    refine x_getI 28 (z := i (ob bb + 1) 7) rfl fl_X8_189 (isC_0 isC_1) (kC isC_1) rfl rfl ?_
    refine x_ret 29 (some (vI (i (ob bb + 1) 7))) rfl ⟨rfl, Or.inl rfl⟩ ⟨_, i, l, rfl, rfl, ?_⟩
    exact qs (z' := anTold x W PN TN) (by unfold anTold; rw [if_neg (by omega), if_neg (by omega), if_neg (by omega), if_neg (by omega), if_neg (by omega), if_neg (by omega), if_pos (by omega)]; exact e7) hR rfl (fun _ _ _ => rfl) (fun _ _ _ => rfl)
  · refine x_tabIn 1 (off := 107) (tgt := 108) rfl (by omega) (by omega) (by rw [h1]; rfl) (by decide) ?_
    refine x_aload_n 30 rfl rfl ?_
    refine x_getR 31 (z := (ob bb + 170)) rfl fl_X8_34 b_lt0 k_0 rfl r_0_4 ?_
    refine x_getI 32 (z := i (ob bb + 170) 1) rfl fl_X8_168 (b_lt rfl) k_170 rfl rfl ?_
    refine x_ret 33 (some (vI (i (ob bb + 170) 1))) rfl ⟨rfl, Or.inl rfl⟩ ⟨_, i, l, rfl, rfl, ?_⟩
    exact qs (z' := anTold x W PN TN) (by unfold anTold; rw [if_neg (by omega), if_neg (by omega), if_neg (by omega), if_neg (by omega), if_neg (by omega), if_neg (by omega), if_neg (by omega), if_pos (by omega)]; exact t1) hR rfl (fun _ _ _ => rfl) (fun _ _ _ => rfl)
  · refine x_tabIn 1 (off := 115) (tgt := 116) rfl (by omega) (by omega) (by rw [h1]; rfl) (by decide) ?_
    refine x_aload_n 34 rfl rfl ?_
    refine x_getR 35 (z := (ob bb + 16)) rfl fl_X8_19 b_lt0 k_0 rfl r_0_1 ?_
    refine x_getI 36 (z := i (ob bb + 16) 2) rfl fl_X8_162 (b_lt rfl) k_16 rfl rfl ?_
    refine x_ret 37 (some (vI (i (ob bb + 16) 2))) rfl ⟨rfl, Or.inl rfl⟩ ⟨_, i, l, rfl, rfl, ?_⟩
    exact qs (z' := anTold x W PN TN) (by unfold anTold; rw [if_neg (by omega), if_neg (by omega), if_neg (by omega), if_neg (by omega), if_neg (by omega), if_neg (by omega), if_neg (by omega), if_neg (by omega), if_pos (by omega)]; exact o3) hR rfl (fun _ _ _ => rfl) (fun _ _ _ => rfl)
set_option maxRecDepth 20000 in
set_option maxHeartbeats 2000000 in
theorem c_b_setting {i : Nat → Int → Int} {l : Nat → Int → BitVec 64} {W : Int → Int} {PN : Int} {P M : Int → Int → Int} {K : Int → Bool} {T : Int → Int} {TN FK FP : Int} (hR : RelB bb i l W PN P M K T TN FK FP) (hB : okB W PN P M K T TN) {x : Int} (hx : -2147483648 ≤ x ∧ x < 2147483648) : mCtr m_X8_setting 5 0 0 [vR (some (ob bb)), vI (x)] (st nn i l) (qT nn bb i l (spAsk (anSetting x W) W PN P M K T TN FK FP)) := by
  refine mCtr_of pl_X8 dc_X8_setting (Nat.le_of_ble_eq_true rfl) rfl ?_
  show mX m_X8_setting 5 _ 0 0 0 [some (vR (some (ob bb))), some (vI (x))] [] (st nn i l)
  have hW := hB.1
  have hO := okC_of hR.1 hW
  have hN := hW.n
  have hCn := hO.n
  obtain ⟨⟨e4, e5, e6, e7⟩, ⟨s0, s1, s2, s3⟩, hwk, hsl, -⟩ := hR.1
  obtain ⟨o1, o2, o3⟩ := hR.2.1
  have hPN := hB.2.1
  have hTN := hB.2.2.2.2.1
  obtain ⟨t1, t2⟩ := hR.2.2.2.2.1
  have hcc : ∀ k, 0 ≤ k → k < i (ob bb + 170) 1 → 0 ≤ i (ob bb + 171) k ∧ i (ob bb + 171) k ≤ 127 := by intro k h0 h1; rw [t2 k h0 (by omega)]; have := hB.2.2.2.2.2 k h0 (by omega); omega
  refine x_iload_n 0 rfl rfl ?_
  refine x_callS 1 m_X8_isSetting (c_isSetting (by omega)) rfl ok_X8_isSetting ml_X8_79 st_X8_isSetting rfl (by decide) rfl (Nat.le_of_ble_eq_true rfl) rfl rfl (fun v g q1 => ?_)
  rcases q1 with ⟨rfl, ⟨h2, rfl⟩ | ⟨h2, rfl⟩⟩
  · show mX m_X8_setting 5 _ 0 0 _ _ [vI (1)] _
    refine x_if_eq 2 (tgt := 19) rfl (by decide) (by decide) (fun h3 => absurd h3 (by decide)) (fun h3 => ?_)
    refine x_aload_n 3 rfl rfl ?_
    refine x_getR 4 (z := (ob bb + 1)) rfl fl_X8_10 b_lt0 k_0 rfl r_0_0 ?_
    refine x_getR 5 (z := ((ob bb + 1) + 12)) rfl fl_X8_89 (isC_0 isC_1) (kC isC_1) rfl (rC1 isC_1) ?_
    refine x_iload_n 6 rfl rfl ?_
    refine x_iald 7 (z := i ((ob bb + 1) + 12) x) rfl (isC_T isC_1) (kCT isC_1) (by omega) rfl ?_
    refine x_goto 8 (tgt := 20) rfl (by decide) ?_
    refine x_ret 10 (some (vI (i ((ob bb + 1) + 12) x))) rfl ⟨rfl, Or.inl rfl⟩ ⟨_, i, l, rfl, rfl, ?_⟩
    first
      | (exact qs (z' := anSetting x W) (by unfold anSetting; rw [if_pos (by omega)]; exact hR.1.t (by omega)) hR rfl (fun _ _ _ => rfl) (fun _ _ _ => rfl))
      | (exact qs (z' := anSetting x W) (by unfold anSetting; rw [if_neg (by omega)]) hR rfl (fun _ _ _ => rfl) (fun _ _ _ => rfl))
  · show mX m_X8_setting 5 _ 0 0 _ _ [vI (0)] _
    refine x_if_eq 2 (tgt := 19) rfl (by decide) (by decide) (fun h4 => ?_) (fun h4 => absurd h4 (by decide))
    refine x_iconst 9 rfl ?_
    refine x_ret 10 (some (vI ((-1)))) rfl ⟨rfl, Or.inl rfl⟩ ⟨_, i, l, rfl, rfl, ?_⟩
    first
      | (exact qs (z' := anSetting x W) (by unfold anSetting; rw [if_pos (by omega)]; exact hR.1.t (by omega)) hR rfl (fun _ _ _ => rfl) (fun _ _ _ => rfl))
      | (exact qs (z' := anSetting x W) (by unfold anSetting; rw [if_neg (by omega)]) hR rfl (fun _ _ _ => rfl) (fun _ _ _ => rfl))
