variable {nn : Nat} {bb : Bool}
/-! the book: add, remove, set, test, place -/
set_option maxRecDepth 20000 in
set_option maxHeartbeats 2000000 in
theorem c_b_add {i : Nat → Int → Int} {l : Nat → Int → BitVec 64} {W : Int → Int} {PN : Int} {P M : Int → Int → Int} {K : Int → Bool} {T : Int → Int} {TN FK FP : Int} (hR : RelB bb i l W PN P M K T TN FK FP) (hB : okB W PN P M K T TN) {s : Int} (hs : -2147483648 ≤ s ∧ s < 2147483648) {h : Int} (hh : -2147483648 ≤ h ∧ h < 2147483648) : mCtr m_X8_add 5 0 0 [vR (some (ob bb)), vI (s), vI (h)] (st nn i l) (qT nn bb i l (spAdd s h W PN P M K T TN FK FP)) := by
  refine mCtr_of pl_X8 dc_X8_add (Nat.le_of_ble_eq_true rfl) rfl ?_
  show mX m_X8_add 5 _ 0 0 0 [some (vR (some (ob bb))), some (vI (s)), some (vI (h))] [] (st nn i l)
  have hW := hB.1
  have hO := okC_of hR.1 hW
  have hN := hW.n
  have hCn := hO.n
  obtain ⟨⟨e4, e5, e6, e7⟩, ⟨s0, s1, s2, s3⟩, hwk, hsl, -⟩ := hR.1
  obtain ⟨o1, o2, o3⟩ := hR.2.1
  have hPN := hB.2.1
  have hTN := hB.2.2.2.2.1
  obtain ⟨t1, t2⟩ := hR.2.2.2.2.1
  have hcc : ∀ k, 0 ≤ k → k < i (ob bb + 170) 1 → 0 ≤ i (ob bb + 171) k ∧ i (ob bb + 171) k ≤ 127 := by intro k h0 h1; rw [t2 k h0 (by omega)]; have := hB.2.2.2.2.2 k h0 (by omega); omega
  refine x_iload_n 0 rfl rfl ?_
  refine x_iconst 1 rfl ?_
  refine x_icmp_lt 2 (tgt := 24) rfl (by decide) (by omega) (fun h1 => ?_) (fun h1 => ?_)
  · refine x_iconst 12 rfl ?_
    refine x_ret 13 (some (vI ((-1)))) rfl ⟨rfl, Or.inl rfl⟩ ⟨_, i, l, rfl, rfl, ?_⟩
    exact qs (rfl) hR (by unfold spAdd; rw [if_pos (by omega)]) (fun _ _ _ => rfl) (fun _ _ _ => rfl)
  · refine x_iload_n 3 rfl rfl ?_
    refine x_bipush 4 rfl (by decide) ?_
    refine x_icmp_gt 5 (tgt := 24) rfl (by decide) (by omega) (fun h2 => ?_) (fun h2 => ?_)
    · refine x_iconst 12 rfl ?_
      refine x_ret 13 (some (vI ((-1)))) rfl ⟨rfl, Or.inl rfl⟩ ⟨_, i, l, rfl, rfl, ?_⟩
      exact qs (rfl) hR (by unfold spAdd; rw [if_pos (by omega)]) (fun _ _ _ => rfl) (fun _ _ _ => rfl)
    · refine x_iload_n 6 rfl rfl ?_
      refine x_bipush 7 rfl (by decide) ?_
      refine x_icmp_lt 8 (tgt := 24) rfl (by decide) (by omega) (fun h3 => ?_) (fun h3 => ?_)
      · refine x_iconst 12 rfl ?_
        refine x_ret 13 (some (vI ((-1)))) rfl ⟨rfl, Or.inl rfl⟩ ⟨_, i, l, rfl, rfl, ?_⟩
        exact qs (rfl) hR (by unfold spAdd; rw [if_pos (by omega)]) (fun _ _ _ => rfl) (fun _ _ _ => rfl)
      · refine x_iload_n 9 rfl rfl ?_
        refine x_sipush 10 rfl (by decide) ?_
        refine x_icmp_le 11 (tgt := 26) rfl (by decide) (by omega) (fun h4 => ?_) (fun h4 => ?_)
        · refine x_aload_n 14 rfl rfl ?_
          refine x_getR 15 (z := (ob bb + 1)) rfl fl_X8_10 b_lt0 k_0 rfl r_0_0 ?_
          refine x_getI 16 (z := i (ob bb + 1) 4) rfl fl_X8_59 (isC_0 isC_1) (kC isC_1) rfl rfl ?_
          refine x_bipush 17 rfl (by decide) ?_
          refine x_icmp_lt 18 (tgt := 41) rfl (by decide) (by omega) (fun h5 => ?_) (fun h5 => ?_)
          · refine x_aload_n 21 rfl rfl ?_
            refine x_getR 22 (z := (ob bb + 16)) rfl fl_X8_19 b_lt0 k_0 rfl r_0_1 ?_
            refine x_aload_n 23 rfl rfl ?_
            refine x_getR 24 (z := (ob bb + 1)) rfl fl_X8_10 b_lt0 k_0 rfl r_0_0 ?_
            refine x_callV 25 m_X1_record (c_record hO (by omega)) rfl ok_X1_record (b_lt rfl) k_16 rfl rfl ml_X8_63 im_X1_record se_X1_record rfl (by decide) rfl (Nat.le_of_ble_eq_true rfl) rfl rfl (fun v g q6 => ?_)
            obtain ⟨rfl, i7, li7, rfl, hi7⟩ := q6
            show mX m_X8_add 5 _ 0 0 _ _ [] _
            have hrec := hi7
            have hR1 := RelB_record hR hB hrec
            have hB1 := okB_rm hB hW
            obtain ⟨eI, eL⟩ := rec_else (by omega) (by omega) hrec
            have hO1 := okC_of hR1.1 hW
            have hC1 := hO1.n
            have f4 : i7 (ob bb + 1) 4 = W 11 := hR1.1.1.1
            have fr1 : ∀ a b, (a < ob bb ∨ ob bb + 189 ≤ a) → i7 a b = i a b := fun a b ha => eI a b (by omega)
            have fl1 : ∀ a b, (a < ob bb ∨ ob bb + 189 ≤ a) → li7 a b = l a b := fun a b ha => eL a b (by omega)
            refine x_aload_n 26 rfl rfl ?_
            refine x_getR 27 (z := (ob bb + 1)) rfl fl_X8_10 b_lt0 k_0 rfl r_0_0 ?_
            refine x_iload_n 28 rfl rfl ?_
            refine x_iload_n 29 rfl rfl ?_
            refine x_callV 30 m_X0_join (c_join isC_1 (by omega)) rfl ok_X0_join (isC_0 isC_1) (kC isC_1) rfl rfl ml_X8_67 im_X0_join se_X0_join rfl (by decide) rfl (Nat.le_of_ble_eq_true rfl) rfl rfl (fun v g q8 => ?_)
            obtain ⟨rfl, i9, li9, rfl, hi9⟩ := q8
            show mX m_X8_add 5 _ 0 0 _ _ [] _
            have hj := hi9
            refine x_aload_n 31 rfl rfl ?_
            refine x_getR 32 (z := (ob bb + 1)) rfl fl_X8_10 b_lt0 k_0 rfl r_0_0 ?_
            refine x_getI 33 (z := i9 (ob bb + 1) 4) rfl fl_X8_59 (isC_0 isC_1) (kC isC_1) rfl rfl ?_
            refine x_iconst 34 rfl ?_
            refine x_isub 35 (r := (i9 (ob bb + 1) 4) - 1) rfl rfl ?_
            refine x_ret 36 (some (vI ((i9 (ob bb + 1) 4) - 1))) rfl ⟨rfl, Or.inl rfl⟩ ⟨_, i9, li9, rfl, rfl, ?_⟩
            have hRj := relC_add hR1.1 hW (by omega) hj.1 hj.2
            have hR2 := RelB_ch2 hR1 hB1 (fun a b ha => by rw [hj.1, if_neg (by omega), if_neg (by omega)]) (fun a b ha => by rw [hj.2, if_neg (by omega)]) hRj
            exact qs (z' := W 11) (by have := hRj.1.1; unfold addW at this; rw [if_pos rfl] at this; omega) hR2 (by unfold spAdd; rw [if_neg (by omega), if_neg (by omega)]) (fun a b ha => by rw [hj.1, if_neg (by omega), if_neg (by omega)]; exact fr1 a b ha) (fun a b ha => by rw [hj.2, if_neg (by omega)]; exact fl1 a b ha)
          · refine x_bipush 19 rfl (by decide) ?_
            refine x_ret 20 (some (vI ((-3)))) rfl ⟨rfl, Or.inl rfl⟩ ⟨_, i, l, rfl, rfl, ?_⟩
            exact qs (rfl) hR (by unfold spAdd; rw [if_neg (by omega), if_pos (by omega)]) (fun _ _ _ => rfl) (fun _ _ _ => rfl)
        · refine x_iconst 12 rfl ?_
          refine x_ret 13 (some (vI ((-1)))) rfl ⟨rfl, Or.inl rfl⟩ ⟨_, i, l, rfl, rfl, ?_⟩
          exact qs (rfl) hR (by unfold spAdd; rw [if_pos (by omega)]) (fun _ _ _ => rfl) (fun _ _ _ => rfl)
set_option maxRecDepth 20000 in
set_option maxHeartbeats 2000000 in
theorem c_b_remove {i : Nat → Int → Int} {l : Nat → Int → BitVec 64} {W : Int → Int} {PN : Int} {P M : Int → Int → Int} {K : Int → Bool} {T : Int → Int} {TN FK FP : Int} (hR : RelB bb i l W PN P M K T TN FK FP) (hB : okB W PN P M K T TN) {y : Int} (hy : -2147483648 ≤ y ∧ y < 2147483648) : mCtr m_X8_remove 5 0 0 [vR (some (ob bb)), vI (y)] (st nn i l) (qT nn bb i l (spRemove y W PN P M K T TN FK FP)) := by
  refine mCtr_of pl_X8 dc_X8_remove (Nat.le_of_ble_eq_true rfl) rfl ?_
  show mX m_X8_remove 5 _ 0 0 0 [some (vR (some (ob bb))), some (vI (y))] [] (st nn i l)
  have hW := hB.1
  have hO := okC_of hR.1 hW
  have hN := hW.n
  have hCn := hO.n
  obtain ⟨⟨e4, e5, e6, e7⟩, ⟨s0, s1, s2, s3⟩, hwk, hsl, -⟩ := hR.1
  obtain ⟨o1, o2, o3⟩ := hR.2.1
  have hPN := hB.2.1
  have hTN := hB.2.2.2.2.1
  obtain ⟨t1, t2⟩ := hR.2.2.2.2.1
  have hcc : ∀ k, 0 ≤ k → k < i (ob bb + 170) 1 → 0 ≤ i (ob bb + 171) k ∧ i (ob bb + 171) k ≤ 127 := by intro k h0 h1; rw [t2 k h0 (by omega)]; have := hB.2.2.2.2.2 k h0 (by omega); omega
  refine x_aload_n 0 rfl rfl ?_
  refine x_getR 1 (z := (ob bb + 1)) rfl fl_X8_10 b_lt0 k_0 rfl r_0_0 ?_
  refine x_iload_n 2 rfl rfl ?_
  refine x_callV 3 m_X0_has (c_has isC_1 (by omega) (by omega)) rfl ok_X0_has (isC_0 isC_1) (kC isC_1) rfl rfl ml_X8_71 im_X0_has se_X0_has rfl (by decide) rfl (Nat.le_of_ble_eq_true rfl) rfl rfl (fun v g q1 => ?_)
  rcases q1 with ⟨rfl, ⟨h2, rfl⟩ | ⟨h2, rfl⟩⟩
  · show mX m_X8_remove 5 _ 0 0 _ _ [vI (1)] _
    refine x_if_ne 4 (tgt := 13) rfl (by decide) (by decide) (fun h3 => ?_) (fun h3 => absurd h3 (by decide))
    refine x_aload_n 7 rfl rfl ?_
    refine x_getR 8 (z := (ob bb + 16)) rfl fl_X8_19 b_lt0 k_0 rfl r_0_1 ?_
    refine x_aload_n 9 rfl rfl ?_
    refine x_getR 10 (z := (ob bb + 1)) rfl fl_X8_10 b_lt0 k_0 rfl r_0_0 ?_
    refine x_callV 11 m_X1_record (c_record hO (by omega)) rfl ok_X1_record (b_lt rfl) k_16 rfl rfl ml_X8_63 im_X1_record se_X1_record rfl (by decide) rfl (Nat.le_of_ble_eq_true rfl) rfl rfl (fun v g q4 => ?_)
    obtain ⟨rfl, i5, li5, rfl, hi5⟩ := q4
    show mX m_X8_remove 5 _ 0 0 _ _ [] _
    have hrec := hi5
    have hR1 := RelB_record hR hB hrec
    have hB1 := okB_rm hB hW
    obtain ⟨eI, eL⟩ := rec_else (by omega) (by omega) hrec
    have hO1 := okC_of hR1.1 hW
    have hC1 := hO1.n
    have f4 : i5 (ob bb + 1) 4 = W 11 := hR1.1.1.1
    have fr1 : ∀ a b, (a < ob bb ∨ ob bb + 189 ≤ a) → i5 a b = i a b := fun a b ha => eI a b (by omega)
    have fl1 : ∀ a b, (a < ob bb ∨ ob bb + 189 ≤ a) → li5 a b = l a b := fun a b ha => eL a b (by omega)
    refine x_aload_n 12 rfl rfl ?_
    refine x_getR 13 (z := (ob bb + 1)) rfl fl_X8_10 b_lt0 k_0 rfl r_0_0 ?_
    refine x_iload_n 14 rfl rfl ?_
    refine x_callV 15 m_X0_dismiss (c_dismiss isC_1 hO1 (by omega)) rfl ok_X0_dismiss (isC_0 isC_1) (kC isC_1) rfl rfl ml_X8_75 im_X0_dismiss se_X0_dismiss rfl (by decide) rfl (Nat.le_of_ble_eq_true rfl) rfl rfl (fun v g q6 => ?_)
    obtain ⟨rfl, i7, li7, rfl, hi7⟩ := q6
    show mX m_X8_remove 5 _ 0 0 _ _ [] _
    have hj := hi7
    refine x_aload_n 16 rfl rfl ?_
    refine x_getR 17 (z := (ob bb + 1)) rfl fl_X8_10 b_lt0 k_0 rfl r_0_0 ?_
    refine x_getI 18 (z := i7 (ob bb + 1) 4) rfl fl_X8_59 (isC_0 isC_1) (kC isC_1) rfl rfl ?_
    refine x_ret 19 (some (vI (i7 (ob bb + 1) 4))) rfl ⟨rfl, Or.inl rfl⟩ ⟨_, i7, li7, rfl, rfl, ?_⟩
    have hRj := relC_rem hR1.1 hW (by omega) hj.1 hj.2
    have hR2 := RelB_ch2 hR1 hB1 (fun a b ha => by rw [hj.1, if_neg (by omega), if_neg (by omega)]) (fun a b ha => by rw [hj.2, if_neg (by omega)]) hRj
    exact qs (z' := W 11 - 1) (by have := hRj.1.1; unfold remW at this; rw [if_pos rfl] at this; omega) hR2 (by unfold spRemove; rw [if_neg (by omega)]) (fun a b ha => by rw [hj.1, if_neg (by omega), if_neg (by omega)]; exact fr1 a b ha) (fun a b ha => by rw [hj.2, if_neg (by omega)]; exact fl1 a b ha)
  · show mX m_X8_remove 5 _ 0 0 _ _ [vI (0)] _
    refine x_if_ne 4 (tgt := 13) rfl (by decide) (by decide) (fun h8 => absurd h8 (by decide)) (fun h8 => ?_)
    refine x_iconst 5 rfl ?_
    refine x_ret 6 (some (vI ((-1)))) rfl ⟨rfl, Or.inl rfl⟩ ⟨_, i, l, rfl, rfl, ?_⟩
    exact qs (rfl) hR (by unfold spRemove; rw [if_pos (by omega)]) (fun _ _ _ => rfl) (fun _ _ _ => rfl)
set_option maxRecDepth 20000 in
set_option maxHeartbeats 2000000 in
theorem c_b_set {i : Nat → Int → Int} {l : Nat → Int → BitVec 64} {W : Int → Int} {PN : Int} {P M : Int → Int → Int} {K : Int → Bool} {T : Int → Int} {TN FK FP : Int} (hR : RelB bb i l W PN P M K T TN FK FP) (hB : okB W PN P M K T TN) {x : Int} (hx : -2147483648 ≤ x ∧ x < 2147483648) {v : Int} (hv : -2147483648 ≤ v ∧ v < 2147483648) : mCtr m_X8_set 5 0 0 [vR (some (ob bb)), vI (x), vI (v)] (st nn i l) (qT nn bb i l (spSet x v W PN P M K T TN FK FP)) := by
  refine mCtr_of pl_X8 dc_X8_set (Nat.le_of_ble_eq_true rfl) rfl ?_
  show mX m_X8_set 5 _ 0 0 0 [some (vR (some (ob bb))), some (vI (x)), some (vI (v)), none] [] (st nn i l)
  have hW := hB.1
  have hO := okC_of hR.1 hW
  have hN := hW.n
  have hCn := hO.n
  obtain ⟨⟨e4, e5, e6, e7⟩, ⟨s0, s1, s2, s3⟩, hwk, hsl, -⟩ := hR.1
  obtain ⟨o1, o2, o3⟩ := hR.2.1
  have hPN := hB.2.1
  have hTN := hB.2.2.2.2.1
  obtain ⟨t1, t2⟩ := hR.2.2.2.2.1
  have hcc : ∀ k, 0 ≤ k → k < i (ob bb + 170) 1 → 0 ≤ i (ob bb + 171) k ∧ i (ob bb + 171) k ≤ 127 := by intro k h0 h1; rw [t2 k h0 (by omega)]; have := hB.2.2.2.2.2 k h0 (by omega); omega
  refine x_iload_n 0 rfl rfl ?_
  refine x_callS 1 m_X8_isSetting (c_isSetting (by omega)) rfl ok_X8_isSetting ml_X8_79 st_X8_isSetting rfl (by decide) rfl (Nat.le_of_ble_eq_true rfl) rfl rfl (fun v g q1 => ?_)
  rcases q1 with ⟨rfl, ⟨h2, rfl⟩ | ⟨h2, rfl⟩⟩
  · show mX m_X8_set 5 _ 0 0 _ _ [vI (1)] _
    have hT0 := mTF0 (x := x) (by omega)
    have hT1 := mTF1 (x := x) (by omega)
    have hLH := sLH (x := x) (by omega)
    refine x_if_eq 2 (tgt := 25) rfl (by decide) (by decide) (fun h3 => absurd h3 (by decide)) (fun h3 => ?_)
    refine x_iload_n 3 rfl rfl ?_
    refine x_gets 4 (t := 0) rfl (by decide) fs_X8_82 ?_
    refine x_iload_n 5 rfl rfl ?_
    refine x_tald 6 (z := mTF 0 (x).toNat) rfl (by decide) (by omega) rfl ?_
    refine x_icmp_lt 7 (tgt := 25) rfl (by decide) (by omega) (fun h4 => ?_) (fun h4 => ?_)
    · refine x_iconst 13 rfl ?_
      refine x_ret 14 (some (vI ((-1)))) rfl ⟨rfl, Or.inl rfl⟩ ⟨_, i, l, rfl, rfl, ?_⟩
      exact qs (rfl) hR (by unfold spSet; rw [if_pos (by omega)]) (fun _ _ _ => rfl) (fun _ _ _ => rfl)
    · refine x_iload_n 8 rfl rfl ?_
      refine x_gets 9 (t := 1) rfl (by decide) fs_X8_86 ?_
      refine x_iload_n 10 rfl rfl ?_
      refine x_tald 11 (z := mTF 1 (x).toNat) rfl (by decide) (by omega) rfl ?_
      refine x_icmp_le 12 (tgt := 27) rfl (by decide) (by omega) (fun h5 => ?_) (fun h5 => ?_)
      · refine x_aload_n 15 rfl rfl ?_
        refine x_getR 16 (z := (ob bb + 16)) rfl fl_X8_19 b_lt0 k_0 rfl r_0_1 ?_
        refine x_aload_n 17 rfl rfl ?_
        refine x_getR 18 (z := (ob bb + 1)) rfl fl_X8_10 b_lt0 k_0 rfl r_0_0 ?_
        refine x_callV 19 m_X1_record (c_record hO (by omega)) rfl ok_X1_record (b_lt rfl) k_16 rfl rfl ml_X8_63 im_X1_record se_X1_record rfl (by decide) rfl (Nat.le_of_ble_eq_true rfl) rfl rfl (fun v g q6 => ?_)
        obtain ⟨rfl, i7, li7, rfl, hi7⟩ := q6
        show mX m_X8_set 5 _ 0 0 _ _ [] _
        have hrec := hi7
        have hR1 := RelB_record hR hB hrec
        have hB1 := okB_rm hB hW
        obtain ⟨eI, eL⟩ := rec_else (by omega) (by omega) hrec
        have hO1 := okC_of hR1.1 hW
        have hC1 := hO1.n
        have f4 : i7 (ob bb + 1) 4 = W 11 := hR1.1.1.1
        have fr1 : ∀ a b, (a < ob bb ∨ ob bb + 189 ≤ a) → i7 a b = i a b := fun a b ha => eI a b (by omega)
        have fl1 : ∀ a b, (a < ob bb ∨ ob bb + 189 ≤ a) → li7 a b = l a b := fun a b ha => eL a b (by omega)
        have ht := hR1.1.t (x := x) (by omega)
        refine x_aload_n 20 rfl rfl ?_
        refine x_getR 21 (z := (ob bb + 1)) rfl fl_X8_10 b_lt0 k_0 rfl r_0_0 ?_
        refine x_getR 22 (z := ((ob bb + 1) + 12)) rfl fl_X8_89 (isC_0 isC_1) (kC isC_1) rfl (rC1 isC_1) ?_
        refine x_iload_n 23 rfl rfl ?_
        refine x_iald 24 (z := i7 ((ob bb + 1) + 12) x) rfl (isC_T isC_1) (kCT isC_1) (by omega) rfl ?_
        refine x_istore_n 25 (L' := [some (vR (some (ob bb))), some (vI (x)), some (vI (v)), some (vI (i7 ((ob bb + 1) + 12) x))]) rfl (by decide) rfl rfl ?_
        refine x_aload_n 26 rfl rfl ?_
        refine x_getR 27 (z := (ob bb + 1)) rfl fl_X8_10 b_lt0 k_0 rfl r_0_0 ?_
        refine x_getR 28 (z := ((ob bb + 1) + 12)) rfl fl_X8_89 (isC_0 isC_1) (kC isC_1) rfl (rC1 isC_1) ?_
        refine x_iload_n 29 rfl rfl ?_
        refine x_iload_n 30 rfl rfl ?_
        obtain ⟨i8, hi8⟩ : ∃ f, f = mU i7 ((ob bb + 1) + 12) (x) (v) := ⟨_, rfl⟩
        refine x_iast 31 rfl (isC_T isC_1) (kCT isC_1) (by omega) (g' := st nn i8 li7) (by subst hi8; rfl) ?_
        have hi_ := hi8
        refine x_iload_n 32 rfl rfl ?_
        refine x_ret 33 (some (vI (i7 ((ob bb + 1) + 12) x))) rfl ⟨rfl, Or.inl rfl⟩ ⟨_, i8, li7, rfl, rfl, ?_⟩
        have hRj := relC_set hR1.1 hW (by omega) hi_
        have hx4 : (x = 0 ∨ x = 1 ∨ x = 2 ∨ x = 3) := by omega
        have hR2 := RelB_ch2 hR1 hB1 (fun a b ha => by rw [hi_, mUne _ _ _ _ _ (by omega)]) (fun _ _ _ => rfl) hRj
        exact qs ht hR2 (by unfold spSet; rw [if_neg (by omega)]) (fun a b ha => by rw [hi_, mUne _ _ _ _ _ (by omega)]; exact fr1 a b ha) fl1
      · refine x_iconst 13 rfl ?_
        refine x_ret 14 (some (vI ((-1)))) rfl ⟨rfl, Or.inl rfl⟩ ⟨_, i, l, rfl, rfl, ?_⟩
        exact qs (rfl) hR (by unfold spSet; rw [if_pos (by omega)]) (fun _ _ _ => rfl) (fun _ _ _ => rfl)
  · show mX m_X8_set 5 _ 0 0 _ _ [vI (0)] _
    refine x_if_eq 2 (tgt := 25) rfl (by decide) (by decide) (fun h9 => ?_) (fun h9 => absurd h9 (by decide))
    refine x_iconst 13 rfl ?_
    refine x_ret 14 (some (vI ((-1)))) rfl ⟨rfl, Or.inl rfl⟩ ⟨_, i, l, rfl, rfl, ?_⟩
    exact qs (rfl) hR (by unfold spSet; rw [if_pos (by omega)]) (fun _ _ _ => rfl) (fun _ _ _ => rfl)
set_option maxRecDepth 20000 in
set_option maxHeartbeats 2000000 in
theorem c_b_test {i : Nat → Int → Int} {l : Nat → Int → BitVec 64} {W : Int → Int} {PN : Int} {P M : Int → Int → Int} {K : Int → Bool} {T : Int → Int} {TN FK FP : Int} (hR : RelB bb i l W PN P M K T TN FK FP) (hB : okB W PN P M K T TN) {y : Int} (hy : -2147483648 ≤ y ∧ y < 2147483648) : mCtr m_X8_test 7 0 0 [vR (some (ob bb)), vI (y)] (st nn i l) (qT nn bb i l (spTest y W PN P M K T TN FK FP)) := by
  refine mCtr_of pl_X8 dc_X8_test (Nat.le_of_ble_eq_true rfl) rfl ?_
  show mX m_X8_test 7 _ 0 0 0 [some (vR (some (ob bb))), some (vI (y)), none] [] (st nn i l)
  have hW := hB.1
  have hO := okC_of hR.1 hW
  have hN := hW.n
  have hCn := hO.n
  obtain ⟨⟨e4, e5, e6, e7⟩, ⟨s0, s1, s2, s3⟩, hwk, hsl, -⟩ := hR.1
  obtain ⟨o1, o2, o3⟩ := hR.2.1
  have hPN := hB.2.1
  have hTN := hB.2.2.2.2.1
  obtain ⟨t1, t2⟩ := hR.2.2.2.2.1
  have hcc : ∀ k, 0 ≤ k → k < i (ob bb + 170) 1 → 0 ≤ i (ob bb + 171) k ∧ i (ob bb + 171) k ≤ 127 := by intro k h0 h1; rw [t2 k h0 (by omega)]; have := hB.2.2.2.2.2 k h0 (by omega); omega
  refine x_aload_n 0 rfl rfl ?_
  refine x_getR 1 (z := (ob bb + 1)) rfl fl_X8_10 b_lt0 k_0 rfl r_0_0 ?_
  refine x_iload_n 2 rfl rfl ?_
  refine x_callV 3 m_X0_has (c_has isC_1 (by omega) (by omega)) rfl ok_X0_has (isC_0 isC_1) (kC isC_1) rfl rfl ml_X8_71 im_X0_has se_X0_has rfl (by decide) rfl (Nat.le_of_ble_eq_true rfl) rfl rfl (fun v g q1 => ?_)
  rcases q1 with ⟨rfl, ⟨h2, rfl⟩ | ⟨h2, rfl⟩⟩
  · show mX m_X8_test 7 _ 0 0 _ _ [vI (1)] _
    refine x_if_ne 4 (tgt := 13) rfl (by decide) (by decide) (fun h3 => ?_) (fun h3 => absurd h3 (by decide))
    refine x_aload_n 7 rfl rfl ?_
    refine x_getR 8 (z := (ob bb + 1)) rfl fl_X8_10 b_lt0 k_0 rfl r_0_0 ?_
    refine x_getR 9 (z := ((ob bb + 1) + 1)) rfl fl_X8_92 (isC_0 isC_1) (kC isC_1) rfl (rC0 isC_1) ?_
    refine x_iload_n 10 rfl rfl ?_
    refine x_aald 11 (t := 3) (z := ((ob bb + 1) + 2 + (y).toNat)) rfl (isC_S isC_1) (kCS isC_1) (by omega) ⟨rfl, rfl⟩ (rCs isC_1 (by omega)) ?_
    refine x_astore_n 12 (L' := [some (vR (some (ob bb))), some (vI (y)), some (vR (some ((ob bb + 1) + 2 + (y).toNat)))]) rfl (by decide) rfl rfl ?_
    refine x_aload_n 13 rfl rfl ?_
    refine x_getR 14 (z := (ob bb + 172)) rfl fl_X8_41 b_lt0 k_0 rfl r_0_5 ?_
    refine x_aload_n 15 rfl rfl ?_
    refine x_getR 16 (z := (ob bb + 170)) rfl fl_X8_34 b_lt0 k_0 rfl r_0_4 ?_
    refine x_aload_n 17 rfl rfl ?_
    refine x_callV 18 m_X3_readTests (c_readTests (isS.of isC_1 (show (y).toNat < 10 by omega)) (by omega) hcc) rfl ok_X3_readTests (b_lt rfl) k_172 rfl rfl ml_X8_96 im_X3_readTests se_X3_readTests rfl (by decide) rfl (Nat.le_of_ble_eq_true rfl) rfl rfl (fun v g q4 => ?_)
    obtain ⟨z6, i5, li5, rfl, rfl, hi5⟩ := q4
    show mX m_X8_test 7 _ 0 0 _ _ [vI (z6)] _
    obtain ⟨rz, rI, rL, rM⟩ := hi5
    have hd := rd_class (fun k h0 h1 => t2 k h0 h1) t1 rM
    have hz01 := rz
    refine x_if_ne 19 (tgt := 41) rfl (by decide) (by omega) (fun h7 => ?_) (fun h7 => ?_)
    · obtain ⟨hz, g, hg, ht0, ht1, hk2, hk3⟩ := hd.resolve_right (fun q => by omega)
      have hRr := RelB_same hR hB (fun a b ha => rI a b (by omega)) (fun a b ha => rL a b (by omega)) hk2 hk3 (by have hz := hR.2.2.2.2.2.2; unfold PZ at hz ⊢; rw [rI (ob bb + 184) 0 (by omega), rL (ob bb + 179) 0 (by omega), rL (ob bb + 180) 0 (by omega), rL (ob bb + 182) 0 (by omega), rL (ob bb + 183) 0 (by omega)]; exact hz)
      have hRo := okC_of hRr.1 hW
      refine x_aload_n 22 rfl rfl ?_
      refine x_getR 23 (z := (ob bb + 16)) rfl fl_X8_19 b_lt0 k_0 rfl r_0_1 ?_
      refine x_aload_n 24 rfl rfl ?_
      refine x_getR 25 (z := (ob bb + 1)) rfl fl_X8_10 b_lt0 k_0 rfl r_0_0 ?_
      refine x_callV 26 m_X1_record (c_record hRo (by rw [rI (ob bb + 16) 1 (by omega), rI (ob bb + 16) 2 (by omega)]; omega)) rfl ok_X1_record (b_lt rfl) k_16 rfl rfl ml_X8_63 im_X1_record se_X1_record rfl (by decide) rfl (Nat.le_of_ble_eq_true rfl) rfl rfl (fun v g q8 => ?_)
      obtain ⟨rfl, i9, li9, rfl, hi9⟩ := q8
      show mX m_X8_test 7 _ 0 0 _ _ [] _
      have hrec := hi9
      have hR1 := RelB_record hRr hB hrec
      have hB1 := okB_rm hB hW
      obtain ⟨eI, eL⟩ := rec_else (by rw [rI (ob bb + 1) 4 (by omega)]; omega) (by rw [rI (ob bb + 16) 1 (by omega), rI (ob bb + 16) 2 (by omega)]; omega) hrec
      have hO1 := okC_of hR1.1 hW
      refine x_aload_n 27 rfl rfl ?_
      refine x_aload_n 28 rfl rfl ?_
      refine x_getR 29 (z := (ob bb + 172)) rfl fl_X8_41 b_lt0 k_0 rfl r_0_5 ?_
      refine x_getL 30 (z := li9 (ob bb + 172) 0) rfl fl_X8_100 (b_lt rfl) k_172 rfl rfl ?_
      refine x_aload_n 31 rfl rfl ?_
      refine x_getR 32 (z := (ob bb + 172)) rfl fl_X8_41 b_lt0 k_0 rfl r_0_5 ?_
      refine x_getL 33 (z := li9 (ob bb + 172) 1) rfl fl_X8_104 (b_lt rfl) k_172 rfl rfl ?_
      refine x_callV 34 m_X5_learn (c_learn (isS.of isC_1 (show (y).toNat < 10 by omega))) rfl ok_X5_learn (isS_lt (isS.of isC_1 (show (y).toNat < 10 by omega))) (kS (isS.of isC_1 (show (y).toNat < 10 by omega))) rfl rfl ml_X8_107 im_X5_learn se_X5_learn rfl (by decide) rfl (Nat.le_of_ble_eq_true rfl) rfl rfl (fun v g q10 => ?_)
      obtain ⟨rfl, i11, li11, rfl, hi11⟩ := q10
      show mX m_X8_test 7 _ 0 0 _ _ [] _
      have hj := hi11
      refine x_aload_n 35 rfl rfl ?_
      refine x_getI 36 (z := i11 ((ob bb + 1) + 2 + (y).toNat) 5) rfl fl_X8_113 (isS_lt (isS.of isC_1 (show (y).toNat < 10 by omega))) (kS (isS.of isC_1 (show (y).toNat < 10 by omega))) rfl rfl ?_
      refine x_ret 37 (some (vI (i11 ((ob bb + 1) + 2 + (y).toNat) 5))) rfl ⟨rfl, Or.inl rfl⟩ ⟨_, i11, li11, rfl, rfl, ?_⟩
      have ewk := okG_read hg
      have hRj := relC_test hR1.1 hW (by omega) ewk (by rw [eL (ob bb + 172) 0 (by omega), eL _ 2 (by omega), rL _ 2 (by omega)]; exact ht0) (by rw [eL (ob bb + 172) 1 (by omega), eL _ 3 (by omega), rL _ 3 (by omega)]; exact ht1) hj.1 hj.2
      have hR2 := RelB_ch2 hR1 hB1 (fun a b ha => by rw [hj.1, if_neg (by omega), if_neg (by omega)]) (fun a b ha => by rw [hj.2, if_neg (by omega), if_neg (by omega)]) hRj
      exact qs ((hRj.s (by omega) (by rw [tsW_else ewk (by omega)]; omega)).2.2.2) hR2 (by unfold spTest; rw [if_neg (by omega), hg]) (fun a b ha => by rw [hj.1, if_neg (by omega), if_neg (by omega), eI a b (by omega)]; exact rI a b (by omega)) (fun a b ha => by rw [hj.2, if_neg (by omega), if_neg (by omega), eL a b (by omega)]; exact rL a b (by omega))
    · obtain ⟨hz, e, hg, hk2, hk3⟩ := hd.resolve_left (fun q => by omega)
      refine x_bipush 20 rfl (by decide) ?_
      refine x_ret 21 (some (vI ((-2)))) rfl ⟨rfl, Or.inl rfl⟩ ⟨_, i5, li5, rfl, rfl, ?_⟩
      exact qs rfl (RelB_fault hR hB rI rL hk2 hk3) (by unfold spTest; rw [if_neg (by omega), hg]) (fun a b ha => rI a b (by omega)) (fun a b ha => rL a b (by omega))
  · show mX m_X8_test 7 _ 0 0 _ _ [vI (0)] _
    refine x_if_ne 4 (tgt := 13) rfl (by decide) (by decide) (fun h12 => absurd h12 (by decide)) (fun h12 => ?_)
    refine x_iconst 5 rfl ?_
    refine x_ret 6 (some (vI ((-1)))) rfl ⟨rfl, Or.inl rfl⟩ ⟨_, i, l, rfl, rfl, ?_⟩
    exact qs (rfl) hR (by unfold spTest; rw [if_pos (by omega)]) (fun _ _ _ => rfl) (fun _ _ _ => rfl)
set_option maxRecDepth 20000 in
set_option maxHeartbeats 2000000 in
theorem c_b_place {i : Nat → Int → Int} {l : Nat → Int → BitVec 64} {W : Int → Int} {PN : Int} {P M : Int → Int → Int} {K : Int → Bool} {T : Int → Int} {TN FK FP : Int} (hR : RelB bb i l W PN P M K T TN FK FP) (hB : okB W PN P M K T TN) {y : Int} (hy : -2147483648 ≤ y ∧ y < 2147483648) {p : Int} (hp : -2147483648 ≤ p ∧ p < 2147483648) : mCtr m_X8_place 5 0 0 [vR (some (ob bb)), vI (y), vI (p)] (st nn i l) (qT nn bb i l (spPlace y p W PN P M K T TN FK FP)) := by
  refine mCtr_of pl_X8 dc_X8_place (Nat.le_of_ble_eq_true rfl) rfl ?_
  show mX m_X8_place 5 _ 0 0 0 [some (vR (some (ob bb))), some (vI (y)), some (vI (p)), none] [] (st nn i l)
  have hW := hB.1
  have hO := okC_of hR.1 hW
  have hN := hW.n
  have hCn := hO.n
  obtain ⟨⟨e4, e5, e6, e7⟩, ⟨s0, s1, s2, s3⟩, hwk, hsl, -⟩ := hR.1
  obtain ⟨o1, o2, o3⟩ := hR.2.1
  have hPN := hB.2.1
  have hTN := hB.2.2.2.2.1
  obtain ⟨t1, t2⟩ := hR.2.2.2.2.1
  have hcc : ∀ k, 0 ≤ k → k < i (ob bb + 170) 1 → 0 ≤ i (ob bb + 171) k ∧ i (ob bb + 171) k ≤ 127 := by intro k h0 h1; rw [t2 k h0 (by omega)]; have := hB.2.2.2.2.2 k h0 (by omega); omega
  refine x_aload_n 0 rfl rfl ?_
  refine x_getR 1 (z := (ob bb + 1)) rfl fl_X8_10 b_lt0 k_0 rfl r_0_0 ?_
  refine x_iload_n 2 rfl rfl ?_
  refine x_callV 3 m_X0_has (c_has isC_1 (by omega) (by omega)) rfl ok_X0_has (isC_0 isC_1) (kC isC_1) rfl rfl ml_X8_71 im_X0_has se_X0_has rfl (by decide) rfl (Nat.le_of_ble_eq_true rfl) rfl rfl (fun v g q1 => ?_)
  rcases q1 with ⟨rfl, ⟨h2, rfl⟩ | ⟨h2, rfl⟩⟩
  · show mX m_X8_place 5 _ 0 0 _ _ [vI (1)] _
    refine x_if_eq 4 (tgt := 24) rfl (by decide) (by decide) (fun h3 => absurd h3 (by decide)) (fun h3 => ?_)
    refine x_iload_n 5 rfl rfl ?_
    refine x_callS 6 m_X8_isPart (c_isPart (by omega)) rfl ok_X8_isPart ml_X8_116 st_X8_isPart rfl (by decide) rfl (Nat.le_of_ble_eq_true rfl) rfl rfl (fun v g q4 => ?_)
    rcases q4 with ⟨rfl, ⟨h5, rfl⟩ | ⟨h5, rfl⟩⟩
    · show mX m_X8_place 5 _ 0 0 _ _ [vI (1)] _
      refine x_if_ne 7 (tgt := 26) rfl (by decide) (by decide) (fun h6 => ?_) (fun h6 => absurd h6 (by decide))
      refine x_iload_n 13 rfl rfl ?_
      refine x_bipush 14 rfl (by decide) ?_
      refine x_icmp_eq 15 (tgt := 47) rfl (by decide) (by omega) (fun h7 => ?_) (fun h7 => ?_)
      · refine x_aload_n 24 rfl rfl ?_
        refine x_getR 25 (z := (ob bb + 16)) rfl fl_X8_19 b_lt0 k_0 rfl r_0_1 ?_
        refine x_aload_n 26 rfl rfl ?_
        refine x_getR 27 (z := (ob bb + 1)) rfl fl_X8_10 b_lt0 k_0 rfl r_0_0 ?_
        refine x_callV 28 m_X1_record (c_record hO (by omega)) rfl ok_X1_record (b_lt rfl) k_16 rfl rfl ml_X8_63 im_X1_record se_X1_record rfl (by decide) rfl (Nat.le_of_ble_eq_true rfl) rfl rfl (fun v g q8 => ?_)
        obtain ⟨rfl, i9, li9, rfl, hi9⟩ := q8
        show mX m_X8_place 5 _ 0 0 _ _ [] _
        have hrec := hi9
        have hR1 := RelB_record hR hB hrec
        have hB1 := okB_rm hB hW
        obtain ⟨eI, eL⟩ := rec_else (by omega) (by omega) hrec
        have hO1 := okC_of hR1.1 hW
        have hC1 := hO1.n
        have f4 : i9 (ob bb + 1) 4 = W 11 := hR1.1.1.1
        have fr1 : ∀ a b, (a < ob bb ∨ ob bb + 189 ≤ a) → i9 a b = i a b := fun a b ha => eI a b (by omega)
        have fl1 : ∀ a b, (a < ob bb ∨ ob bb + 189 ≤ a) → li9 a b = l a b := fun a b ha => eL a b (by omega)
        refine x_aload_n 29 rfl rfl ?_
        refine x_getR 30 (z := (ob bb + 1)) rfl fl_X8_10 b_lt0 k_0 rfl r_0_0 ?_
        refine x_getR 31 (z := ((ob bb + 1) + 1)) rfl fl_X8_92 (isC_0 isC_1) (kC isC_1) rfl (rC0 isC_1) ?_
        refine x_iload_n 32 rfl rfl ?_
        refine x_aald 33 (t := 3) (z := ((ob bb + 1) + 2 + (y).toNat)) rfl (isC_S isC_1) (kCS isC_1) (by omega) ⟨rfl, rfl⟩ (rCs isC_1 (by omega)) ?_
        refine x_getI 34 (z := i9 ((ob bb + 1) + 2 + (y).toNat) 6) rfl fl_X8_123 (isS_lt (isS.of isC_1 (show (y).toNat < 10 by omega))) (kS (isS.of isC_1 (show (y).toNat < 10 by omega))) rfl rfl ?_
        refine x_istore_n 35 (L' := [some (vR (some (ob bb))), some (vI (y)), some (vI (p)), some (vI (i9 ((ob bb + 1) + 2 + (y).toNat) 6))]) rfl (by decide) rfl rfl ?_
        refine x_aload_n 36 rfl rfl ?_
        refine x_getR 37 (z := (ob bb + 1)) rfl fl_X8_10 b_lt0 k_0 rfl r_0_0 ?_
        refine x_getR 38 (z := ((ob bb + 1) + 1)) rfl fl_X8_92 (isC_0 isC_1) (kC isC_1) rfl (rC0 isC_1) ?_
        refine x_iload_n 39 rfl rfl ?_
        refine x_aald 40 (t := 3) (z := ((ob bb + 1) + 2 + (y).toNat)) rfl (isC_S isC_1) (kCS isC_1) (by omega) ⟨rfl, rfl⟩ (rCs isC_1 (by omega)) ?_
        refine x_iload_n 41 rfl rfl ?_
        obtain ⟨i10, hi10⟩ : ∃ f, f = mU i9 ((ob bb + 1) + 2 + (y).toNat) 6 (p) := ⟨_, rfl⟩
        refine x_putI 42 rfl fl_X8_123 (isS_lt (isS.of isC_1 (show (y).toNat < 10 by omega))) (kS (isS.of isC_1 (show (y).toNat < 10 by omega))) rfl rfl (g' := st nn i10 li9) (by subst hi10; rfl) ?_
        have hi_ := hi10
        refine x_iload_n 43 rfl rfl ?_
        refine x_ret 44 (some (vI (i9 ((ob bb + 1) + 2 + (y).toNat) 6))) rfl ⟨rfl, Or.inl rfl⟩ ⟨_, i10, li9, rfl, rfl, ?_⟩
        have hRj := relC_part hR1.1 hW (y := y) (by omega) hi_
        have hR2 := RelB_ch2 hR1 hB1 (fun a b ha => by rw [hi_, mUne _ _ _ _ _ (by omega)]) (fun _ _ _ => rfl) hRj
        exact qs ((hR1.1.s (s := y) (by omega) (by omega)).1.2.2.1) hR2 (by unfold spPlace; rw [if_neg (by omega), if_neg (fun q => by first | exact q.1 (by omega) | exact q.2 hfit)]) (fun a b ha => by rw [hi_, mUne _ _ _ _ _ (by omega)]; exact fr1 a b ha) fl1
      · refine x_aload_n 16 rfl rfl ?_
        refine x_getR 17 (z := (ob bb + 1)) rfl fl_X8_10 b_lt0 k_0 rfl r_0_0 ?_
        refine x_iload_n 18 rfl rfl ?_
        refine x_iload_n 19 rfl rfl ?_
        refine x_callV 20 m_X0_fits (c_fits isC_1 hO (by omega) (by omega)) rfl ok_X0_fits (isC_0 isC_1) (kC isC_1) rfl rfl ml_X8_119 im_X0_fits se_X0_fits rfl (by decide) rfl (Nat.le_of_ble_eq_true rfl) rfl rfl (fun v g q11 => ?_)
        rcases q11 with ⟨rfl, ⟨h12, rfl⟩ | ⟨h12, rfl⟩⟩
        · show mX m_X8_place 5 _ 0 0 _ _ [vI (1)] _
          have hfit := h12
          rw [s0, fIn_rel (hR.1.s (s := y) (by omega) (by omega))] at hfit
          refine x_if_ne 21 (tgt := 47) rfl (by decide) (by decide) (fun h13 => ?_) (fun h13 => absurd h13 (by decide))
          refine x_aload_n 24 rfl rfl ?_
          refine x_getR 25 (z := (ob bb + 16)) rfl fl_X8_19 b_lt0 k_0 rfl r_0_1 ?_
          refine x_aload_n 26 rfl rfl ?_
          refine x_getR 27 (z := (ob bb + 1)) rfl fl_X8_10 b_lt0 k_0 rfl r_0_0 ?_
          refine x_callV 28 m_X1_record (c_record hO (by omega)) rfl ok_X1_record (b_lt rfl) k_16 rfl rfl ml_X8_63 im_X1_record se_X1_record rfl (by decide) rfl (Nat.le_of_ble_eq_true rfl) rfl rfl (fun v g q14 => ?_)
          obtain ⟨rfl, i15, li15, rfl, hi15⟩ := q14
          show mX m_X8_place 5 _ 0 0 _ _ [] _
          have hrec := hi15
          have hR1 := RelB_record hR hB hrec
          have hB1 := okB_rm hB hW
          obtain ⟨eI, eL⟩ := rec_else (by omega) (by omega) hrec
          have hO1 := okC_of hR1.1 hW
          have hC1 := hO1.n
          have f4 : i15 (ob bb + 1) 4 = W 11 := hR1.1.1.1
          have fr1 : ∀ a b, (a < ob bb ∨ ob bb + 189 ≤ a) → i15 a b = i a b := fun a b ha => eI a b (by omega)
          have fl1 : ∀ a b, (a < ob bb ∨ ob bb + 189 ≤ a) → li15 a b = l a b := fun a b ha => eL a b (by omega)
          refine x_aload_n 29 rfl rfl ?_
          refine x_getR 30 (z := (ob bb + 1)) rfl fl_X8_10 b_lt0 k_0 rfl r_0_0 ?_
          refine x_getR 31 (z := ((ob bb + 1) + 1)) rfl fl_X8_92 (isC_0 isC_1) (kC isC_1) rfl (rC0 isC_1) ?_
          refine x_iload_n 32 rfl rfl ?_
          refine x_aald 33 (t := 3) (z := ((ob bb + 1) + 2 + (y).toNat)) rfl (isC_S isC_1) (kCS isC_1) (by omega) ⟨rfl, rfl⟩ (rCs isC_1 (by omega)) ?_
          refine x_getI 34 (z := i15 ((ob bb + 1) + 2 + (y).toNat) 6) rfl fl_X8_123 (isS_lt (isS.of isC_1 (show (y).toNat < 10 by omega))) (kS (isS.of isC_1 (show (y).toNat < 10 by omega))) rfl rfl ?_
          refine x_istore_n 35 (L' := [some (vR (some (ob bb))), some (vI (y)), some (vI (p)), some (vI (i15 ((ob bb + 1) + 2 + (y).toNat) 6))]) rfl (by decide) rfl rfl ?_
          refine x_aload_n 36 rfl rfl ?_
          refine x_getR 37 (z := (ob bb + 1)) rfl fl_X8_10 b_lt0 k_0 rfl r_0_0 ?_
          refine x_getR 38 (z := ((ob bb + 1) + 1)) rfl fl_X8_92 (isC_0 isC_1) (kC isC_1) rfl (rC0 isC_1) ?_
          refine x_iload_n 39 rfl rfl ?_
          refine x_aald 40 (t := 3) (z := ((ob bb + 1) + 2 + (y).toNat)) rfl (isC_S isC_1) (kCS isC_1) (by omega) ⟨rfl, rfl⟩ (rCs isC_1 (by omega)) ?_
          refine x_iload_n 41 rfl rfl ?_
          obtain ⟨i16, hi16⟩ : ∃ f, f = mU i15 ((ob bb + 1) + 2 + (y).toNat) 6 (p) := ⟨_, rfl⟩
          refine x_putI 42 rfl fl_X8_123 (isS_lt (isS.of isC_1 (show (y).toNat < 10 by omega))) (kS (isS.of isC_1 (show (y).toNat < 10 by omega))) rfl rfl (g' := st nn i16 li15) (by subst hi16; rfl) ?_
          have hi_ := hi16
          refine x_iload_n 43 rfl rfl ?_
          refine x_ret 44 (some (vI (i15 ((ob bb + 1) + 2 + (y).toNat) 6))) rfl ⟨rfl, Or.inl rfl⟩ ⟨_, i16, li15, rfl, rfl, ?_⟩
          have hRj := relC_part hR1.1 hW (y := y) (by omega) hi_
          have hR2 := RelB_ch2 hR1 hB1 (fun a b ha => by rw [hi_, mUne _ _ _ _ _ (by omega)]) (fun _ _ _ => rfl) hRj
          exact qs ((hR1.1.s (s := y) (by omega) (by omega)).1.2.2.1) hR2 (by unfold spPlace; rw [if_neg (by omega), if_neg (fun q => by first | exact q.1 (by omega) | exact q.2 hfit)]) (fun a b ha => by rw [hi_, mUne _ _ _ _ _ (by omega)]; exact fr1 a b ha) fl1
        · show mX m_X8_place 5 _ 0 0 _ _ [vI (0)] _
          have hnf := h12
          rw [s0, fIn_rel (hR.1.s (s := y) (by omega) (by omega))] at hnf
          refine x_if_ne 21 (tgt := 47) rfl (by decide) (by decide) (fun h17 => absurd h17 (by decide)) (fun h17 => ?_)
          refine x_bipush 22 rfl (by decide) ?_
          refine x_ret 23 (some (vI ((-2)))) rfl ⟨rfl, Or.inl rfl⟩ ⟨_, i, l, rfl, rfl, ?_⟩
          exact qs rfl hR (by unfold spPlace; rw [if_neg (by omega), if_pos ⟨by omega, hnf⟩]) (fun _ _ _ => rfl) (fun _ _ _ => rfl)
    · show mX m_X8_place 5 _ 0 0 _ _ [vI (0)] _
      refine x_if_ne 7 (tgt := 26) rfl (by decide) (by decide) (fun h18 => absurd h18 (by decide)) (fun h18 => ?_)
      refine x_iload_n 8 rfl rfl ?_
      refine x_bipush 9 rfl (by decide) ?_
      refine x_icmp_eq 10 (tgt := 26) rfl (by decide) (by omega) (fun h19 => ?_) (fun h19 => ?_)
      · refine x_iload_n 13 rfl rfl ?_
        refine x_bipush 14 rfl (by decide) ?_
        refine x_icmp_eq 15 (tgt := 47) rfl (by decide) (by omega) (fun h20 => ?_) (fun h20 => absurd h20 (by omega))
        refine x_aload_n 24 rfl rfl ?_
        refine x_getR 25 (z := (ob bb + 16)) rfl fl_X8_19 b_lt0 k_0 rfl r_0_1 ?_
        refine x_aload_n 26 rfl rfl ?_
        refine x_getR 27 (z := (ob bb + 1)) rfl fl_X8_10 b_lt0 k_0 rfl r_0_0 ?_
        refine x_callV 28 m_X1_record (c_record hO (by omega)) rfl ok_X1_record (b_lt rfl) k_16 rfl rfl ml_X8_63 im_X1_record se_X1_record rfl (by decide) rfl (Nat.le_of_ble_eq_true rfl) rfl rfl (fun v g q21 => ?_)
        obtain ⟨rfl, i22, li22, rfl, hi22⟩ := q21
        show mX m_X8_place 5 _ 0 0 _ _ [] _
        have hrec := hi22
        have hR1 := RelB_record hR hB hrec
        have hB1 := okB_rm hB hW
        obtain ⟨eI, eL⟩ := rec_else (by omega) (by omega) hrec
        have hO1 := okC_of hR1.1 hW
        have hC1 := hO1.n
        have f4 : i22 (ob bb + 1) 4 = W 11 := hR1.1.1.1
        have fr1 : ∀ a b, (a < ob bb ∨ ob bb + 189 ≤ a) → i22 a b = i a b := fun a b ha => eI a b (by omega)
        have fl1 : ∀ a b, (a < ob bb ∨ ob bb + 189 ≤ a) → li22 a b = l a b := fun a b ha => eL a b (by omega)
        refine x_aload_n 29 rfl rfl ?_
        refine x_getR 30 (z := (ob bb + 1)) rfl fl_X8_10 b_lt0 k_0 rfl r_0_0 ?_
        refine x_getR 31 (z := ((ob bb + 1) + 1)) rfl fl_X8_92 (isC_0 isC_1) (kC isC_1) rfl (rC0 isC_1) ?_
        refine x_iload_n 32 rfl rfl ?_
        refine x_aald 33 (t := 3) (z := ((ob bb + 1) + 2 + (y).toNat)) rfl (isC_S isC_1) (kCS isC_1) (by omega) ⟨rfl, rfl⟩ (rCs isC_1 (by omega)) ?_
        refine x_getI 34 (z := i22 ((ob bb + 1) + 2 + (y).toNat) 6) rfl fl_X8_123 (isS_lt (isS.of isC_1 (show (y).toNat < 10 by omega))) (kS (isS.of isC_1 (show (y).toNat < 10 by omega))) rfl rfl ?_
        refine x_istore_n 35 (L' := [some (vR (some (ob bb))), some (vI (y)), some (vI (p)), some (vI (i22 ((ob bb + 1) + 2 + (y).toNat) 6))]) rfl (by decide) rfl rfl ?_
        refine x_aload_n 36 rfl rfl ?_
        refine x_getR 37 (z := (ob bb + 1)) rfl fl_X8_10 b_lt0 k_0 rfl r_0_0 ?_
        refine x_getR 38 (z := ((ob bb + 1) + 1)) rfl fl_X8_92 (isC_0 isC_1) (kC isC_1) rfl (rC0 isC_1) ?_
        refine x_iload_n 39 rfl rfl ?_
        refine x_aald 40 (t := 3) (z := ((ob bb + 1) + 2 + (y).toNat)) rfl (isC_S isC_1) (kCS isC_1) (by omega) ⟨rfl, rfl⟩ (rCs isC_1 (by omega)) ?_
        refine x_iload_n 41 rfl rfl ?_
        obtain ⟨i23, hi23⟩ : ∃ f, f = mU i22 ((ob bb + 1) + 2 + (y).toNat) 6 (p) := ⟨_, rfl⟩
        refine x_putI 42 rfl fl_X8_123 (isS_lt (isS.of isC_1 (show (y).toNat < 10 by omega))) (kS (isS.of isC_1 (show (y).toNat < 10 by omega))) rfl rfl (g' := st nn i23 li22) (by subst hi23; rfl) ?_
        have hi_ := hi23
        refine x_iload_n 43 rfl rfl ?_
        refine x_ret 44 (some (vI (i22 ((ob bb + 1) + 2 + (y).toNat) 6))) rfl ⟨rfl, Or.inl rfl⟩ ⟨_, i23, li22, rfl, rfl, ?_⟩
        have hRj := relC_part hR1.1 hW (y := y) (by omega) hi_
        have hR2 := RelB_ch2 hR1 hB1 (fun a b ha => by rw [hi_, mUne _ _ _ _ _ (by omega)]) (fun _ _ _ => rfl) hRj
        exact qs ((hR1.1.s (s := y) (by omega) (by omega)).1.2.2.1) hR2 (by unfold spPlace; rw [if_neg (by omega), if_neg (fun q => by first | exact q.1 (by omega) | exact q.2 hfit)]) (fun a b ha => by rw [hi_, mUne _ _ _ _ _ (by omega)]; exact fr1 a b ha) fl1
      · refine x_iconst 11 rfl ?_
        refine x_ret 12 (some (vI ((-1)))) rfl ⟨rfl, Or.inl rfl⟩ ⟨_, i, l, rfl, rfl, ?_⟩
        exact qs (rfl) hR (by unfold spPlace; rw [if_pos (by omega)]) (fun _ _ _ => rfl) (fun _ _ _ => rfl)
  · show mX m_X8_place 5 _ 0 0 _ _ [vI (0)] _
    refine x_if_eq 4 (tgt := 24) rfl (by decide) (by decide) (fun h24 => ?_) (fun h24 => absurd h24 (by decide))
    refine x_iconst 11 rfl ?_
    refine x_ret 12 (some (vI ((-1)))) rfl ⟨rfl, Or.inl rfl⟩ ⟨_, i, l, rfl, rfl, ?_⟩
    exact qs (rfl) hR (by unfold spPlace; rw [if_pos (by omega)]) (fun _ _ _ => rfl) (fun _ _ _ => rfl)
