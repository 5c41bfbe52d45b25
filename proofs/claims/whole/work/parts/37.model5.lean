/-! the other book's calls: what is asked, images, the text -/
theorem gSeat_bd {W : Int → Int} (h : okW W) (y : Int) : 0 ≤ gSeat W y ∧ gSeat W y ≤ 10 := by
  have hN := h.n
  have := sumZ_bd (f := fun k => if sV W k 2 = sV W y 2 ∧ (sV W k 1 < sV W y 1 ∨ (sV W k 1 = sV W y 1 ∧ k < y)) then 1 else 0) (x := W 11) (a := 0) (b := 1) hN.1.1 (fun k _ _ => by split <;> omega)
  unfold gSeat
  omega
theorem gRows_bd {W : Int → Int} (h : okW W) (p : Int) : 0 ≤ gRows W p ∧ gRows W p ≤ 20 := by
  have hN := h.n
  have hM := gMem_bd h p
  unfold gRows
  have h3 : (0 : Int) < W 3 := by omega
  refine ⟨Int.ediv_nonneg (by omega) (by omega), ?_⟩
  have := Int.ediv_le_self (b := W 3) (show 0 ≤ gMem W p + W 3 - 1 by omega)
  omega
theorem or_bit {i : Nat → Int → Int} {m : Int} (hF : 0 ≤ i 189 4 ∧ i 189 4 ≤ 3) (hm : 0 ≤ m ∧ m < 2) : ((((i 189 4).toNat ||| (1 * 2 ^ m.toNat : Int).toNat : Nat) : Int)) = (if AK i 0 = true ∨ m = 0 then 1 else 0) + (if AK i 1 = true ∨ m = 1 then 2 else 0) := by
  unfold AK
  rcases (show i 189 4 = 0 ∨ i 189 4 = 1 ∨ i 189 4 = 2 ∨ i 189 4 = 3 by omega) with h | h | h | h <;> rcases (show m = 0 ∨ m = 1 by omega) with rfl | rfl <;> rw [h] <;> decide
theorem keep_K {i i' : Nat → Int → Int} {m q : Int} (hm : 0 ≤ m ∧ m < 2) (e4 : i' 189 4 = (if AK i 0 = true ∨ m = 0 then 1 else 0) + (if AK i 1 = true ∨ m = 1 then 2 else 0)) (hq : 0 ≤ q ∧ q < 2) : AK i' q = kU (AK i) m q := by
  have hd : AK i' q = decide (if q = 0 then i' 189 4 % 2 = 1 else i' 189 4 / 2 = 1) := rfl
  rw [hd, e4]
  unfold kU
  cases h0 : AK i 0 <;> cases h1 : AK i 1 <;> rcases (show m = 0 ∨ m = 1 by omega) with rfl | rfl <;> rcases (show q = 0 ∨ q = 1 by omega) with rfl | rfl <;> simp [h0, h1]
set_option maxRecDepth 20000 in
set_option maxHeartbeats 2000000 in
theorem r_b_told {i : Nat → Int → Int} {l : Nat → Int → BitVec 64} (hB : okB (i 190) (i 189 2) (AP i) (AM i) (AK i) (i 193) (i 189 6)) (hF : 0 ≤ i 189 4 ∧ i 189 4 ≤ 3) {x : Int} (hx : -2147483648 ≤ x ∧ x < 2147483648) : mCtr m_X9_told 4 0 0 [vR (some 189), vI (x)] (st i l) (qR i l (spAsk (anTold x (i 190) (i 189 2) (i 189 6)) (i 190) (i 189 2) (AP i) (AM i) (AK i) (i 193) (i 189 6) (i 189 7) (i 189 8))) := by
  refine mCtr_of pl_X9 dc_X9_told (Nat.le_of_ble_eq_true rfl) rfl ?_
  show mX m_X9_told 4 _ 0 0 0 [some (vR (some 189)), some (vI (x))] [] (st i l)
  have hW := hB.1
  have hN := hW.n
  have hPN := hB.2.1
  have hTN := hB.2.2.2.2.1
  refine x_iload_n 0 rfl rfl ?_
  rcases (show (x < 0 ∨ 8 < x) ∨ x = 0 ∨ x = 1 ∨ x = 2 ∨ x = 3 ∨ x = 4 ∨ x = 5 ∨ x = 6 ∨ x = 7 ∨ x = 8 by omega) with h1 | h1 | h1 | h1 | h1 | h1 | h1 | h1 | h1 | h1
  · refine x_tabOut 1 (tgt := 118) rfl (by omega) h1 (by decide) ?_
    refine x_iconst 43 rfl ?_
    refine x_ret 44 (some (vI ((-1)))) rfl ⟨rfl, Or.inl rfl⟩ ⟨_, i, l, rfl, rfl, ?_⟩
    exact rs_ask (z' := anTold x (i 190) (i 189 2) (i 189 6)) (by unfold anTold; rw [if_neg (by omega), if_neg (by omega), if_neg (by omega), if_neg (by omega), if_neg (by omega), if_neg (by omega), if_neg (by omega), if_neg (by omega), if_neg (by omega)]) (kA.rf i) (rfl) hF rfl
  · refine x_tabIn 1 (off := 51) (tgt := 52) rfl (by omega) (by omega) (by rw [h1]; rfl) (by decide) ?_
    refine x_aload_n 2 rfl rfl ?_
    refine x_getR 3 (z := 190) rfl fl_X9_7 (n_lt rfl) k_189 rfl r_189_0 ?_
    refine x_bipush 4 rfl (by decide) ?_
    refine x_iald 5 (z := i 190 11) rfl (n_lt rfl) k_190 (by omega) rfl ?_
    refine x_ret 6 (some (vI (i 190 11))) rfl ⟨rfl, Or.inl rfl⟩ ⟨_, i, l, rfl, rfl, ?_⟩
    exact rs_ask (z' := anTold x (i 190) (i 189 2) (i 189 6)) (by unfold anTold; rw [if_pos (by omega)]) (kA.rf i) (rfl) hF rfl
  · refine x_tabIn 1 (off := 59) (tgt := 60) rfl (by omega) (by omega) (by rw [h1]; rfl) (by decide) ?_
    refine x_aload_n 7 rfl rfl ?_
    refine x_getR 8 (z := 190) rfl fl_X9_7 (n_lt rfl) k_189 rfl r_189_0 ?_
    refine x_bipush 9 rfl (by decide) ?_
    refine x_iald 10 (z := i 190 11) rfl (n_lt rfl) k_190 (by omega) rfl ?_
    refine x_aload_n 11 rfl rfl ?_
    refine x_bipush 12 rfl (by decide) ?_
    refine x_callV 13 m_X9_placedIn (r_placedIn hW (by omega)) rfl ok_X9_placedIn (n_lt rfl) k_189 rfl rfl ml_X9_197 im_X9_placedIn se_X9_placedIn rfl (by decide) rfl (Nat.le_of_ble_eq_true rfl) rfl rfl (fun v g q2 => ?_)
    obtain ⟨rfl, rfl⟩ := q2
    show mX m_X9_told 4 _ 0 0 _ _ [vI (gMem (i 190) (-9)), vI (i 190 11)] _
    refine x_isub 14 (r := (i 190 11) - (gMem (i 190) (-9))) rfl rfl ?_
    refine x_ret 15 (some (vI ((i 190 11) - (gMem (i 190) (-9))))) rfl ⟨rfl, Or.inl rfl⟩ ⟨_, i, l, rfl, rfl, ?_⟩
    exact rs_ask (z' := anTold x (i 190) (i 189 2) (i 189 6)) (by unfold anTold; rw [if_neg (by omega), if_pos (by omega)]; exact part4 hW) (kA.rf i) (rfl) hF rfl
  · refine x_tabIn 1 (off := 74) (tgt := 75) rfl (by omega) (by omega) (by rw [h1]; rfl) (by decide) ?_
    refine x_aload_n 16 rfl rfl ?_
    refine x_getR 17 (z := 190) rfl fl_X9_7 (n_lt rfl) k_189 rfl r_189_0 ?_
    refine x_iconst 18 rfl ?_
    refine x_iald 19 (z := i 190 4) rfl (n_lt rfl) k_190 (by omega) rfl ?_
    refine x_ret 20 (some (vI (i 190 4))) rfl ⟨rfl, Or.inl rfl⟩ ⟨_, i, l, rfl, rfl, ?_⟩
    exact rs_ask (z' := anTold x (i 190) (i 189 2) (i 189 6)) (by unfold anTold; rw [if_neg (by omega), if_neg (by omega), if_pos (by omega)]) (kA.rf i) (rfl) hF rfl
  · refine x_tabIn 1 (off := 81) (tgt := 82) rfl (by omega) (by omega) (by rw [h1]; rfl) (by decide) ?_
    refine x_aload_n 21 rfl rfl ?_
    refine x_callV 22 m_X9_absent (r_absent hW) rfl ok_X9_absent (n_lt rfl) k_189 rfl rfl ml_X9_187 im_X9_absent se_X9_absent rfl (by decide) rfl (Nat.le_of_ble_eq_true rfl) rfl rfl (fun v g q3 => ?_)
    obtain ⟨rfl, rfl⟩ := q3
    show mX m_X9_told 4 _ 0 0 _ _ [vI (gAbs (i 190))] _
    refine x_ret 23 (some (vI (gAbs (i 190)))) rfl ⟨rfl, Or.inl rfl⟩ ⟨_, i, l, rfl, rfl, ?_⟩
    exact rs_ask (z' := anTold x (i 190) (i 189 2) (i 189 6)) (by unfold anTold; rw [if_neg (by omega), if_neg (by omega), if_neg (by omega), if_pos (by omega)]) (kA.rf i) (rfl) hF rfl
  · refine x_tabIn 1 (off := 86) (tgt := 87) rfl (by omega) (by omega) (by rw [h1]; rfl) (by decide) ?_
    refine x_aload_n 24 rfl rfl ?_
    refine x_callV 25 m_X9_covered (r_covered hW) rfl ok_X9_covered (n_lt rfl) k_189 rfl rfl ml_X9_200 im_X9_covered se_X9_covered rfl (by decide) rfl (Nat.le_of_ble_eq_true rfl) rfl rfl (fun v g q4 => ?_)
    obtain ⟨rfl, rfl⟩ := q4
    show mX m_X9_told 4 _ 0 0 _ _ [vI (gCov (i 190))] _
    refine x_ret 26 (some (vI (gCov (i 190)))) rfl ⟨rfl, Or.inl rfl⟩ ⟨_, i, l, rfl, rfl, ?_⟩
    exact rs_ask (z' := anTold x (i 190) (i 189 2) (i 189 6)) (by unfold anTold; rw [if_neg (by omega), if_neg (by omega), if_neg (by omega), if_neg (by omega), if_pos (by omega)]) (kA.rf i) (rfl) hF rfl
  · refine x_tabIn 1 (off := 91) (tgt := 92) rfl (by omega) (by omega) (by rw [h1]; rfl) (by decide) ?_
    refine x_aload_n 27 rfl rfl ?_
    refine x_getR 28 (z := 190) rfl fl_X9_7 (n_lt rfl) k_189 rfl r_189_0 ?_
    refine x_bipush 29 rfl (by decide) ?_
    refine x_iald 30 (z := i 190 9) rfl (n_lt rfl) k_190 (by omega) rfl ?_
    refine x_ret 31 (some (vI (i 190 9))) rfl ⟨rfl, Or.inl rfl⟩ ⟨_, i, l, rfl, rfl, ?_⟩
    exact rs_ask (z' := anTold x (i 190) (i 189 2) (i 189 6)) (by unfold anTold; rw [if_neg (by omega), if_neg (by omega), if_neg (by omega), if_neg (by omega), if_neg (by omega), if_pos (by omega)]) (kA.rf i) (rfl) hF rfl
  · refine x_tabIn 1 (off := 99) (tgt := 100) rfl (by omega) (by omega) (by rw [h1]; rfl) (by decide) ?_
    refine x_aload_n 32 rfl rfl ?_
    refine x_getR 33 (z := 190) rfl fl_X9_7 (n_lt rfl) k_189 rfl r_189_0 ?_
    refine x_bipush 34 rfl (by decide) ?_
    refine x_iald 35 (z := i 190 10) rfl (n_lt rfl) k_190 (by omega) rfl ?_
    refine x_ret 36 (some (vI (i 190 10))) rfl ⟨rfl, Or.inl rfl⟩ ⟨_, i, l, rfl, rfl, ?_⟩
    exact rs_ask (z' := anTold x (i 190) (i 189 2) (i 189 6)) (by unfold anTold; rw [if_neg (by omega), if_neg (by omega), if_neg (by omega), if_neg (by omega), if_neg (by omega), if_neg (by omega), if_pos (by omega)]) (kA.rf i) (rfl) hF rfl
  · refine x_tabIn 1 (off := 107) (tgt := 108) rfl (by omega) (by omega) (by rw [h1]; rfl) (by decide) ?_
    refine x_aload_n 37 rfl rfl ?_
    refine x_getI 38 (z := i 189 6) rfl fl_X9_170 (n_lt rfl) k_189 rfl rfl ?_
    refine x_ret 39 (some (vI (i 189 6))) rfl ⟨rfl, Or.inl rfl⟩ ⟨_, i, l, rfl, rfl, ?_⟩
    exact rs_ask (z' := anTold x (i 190) (i 189 2) (i 189 6)) (by unfold anTold; rw [if_neg (by omega), if_neg (by omega), if_neg (by omega), if_neg (by omega), if_neg (by omega), if_neg (by omega), if_neg (by omega), if_pos (by omega)]) (kA.rf i) (rfl) hF rfl
  · refine x_tabIn 1 (off := 112) (tgt := 113) rfl (by omega) (by omega) (by rw [h1]; rfl) (by decide) ?_
    refine x_aload_n 40 rfl rfl ?_
    refine x_getI 41 (z := i 189 2) rfl fl_X9_59 (n_lt rfl) k_189 rfl rfl ?_
    refine x_ret 42 (some (vI (i 189 2))) rfl ⟨rfl, Or.inl rfl⟩ ⟨_, i, l, rfl, rfl, ?_⟩
    exact rs_ask (z' := anTold x (i 190) (i 189 2) (i 189 6)) (by unfold anTold; rw [if_neg (by omega), if_neg (by omega), if_neg (by omega), if_neg (by omega), if_neg (by omega), if_neg (by omega), if_neg (by omega), if_neg (by omega), if_pos (by omega)]) (kA.rf i) (rfl) hF rfl
set_option maxRecDepth 20000 in
set_option maxHeartbeats 2000000 in
theorem r_b_setting {i : Nat → Int → Int} {l : Nat → Int → BitVec 64} (hB : okB (i 190) (i 189 2) (AP i) (AM i) (AK i) (i 193) (i 189 6)) (hF : 0 ≤ i 189 4 ∧ i 189 4 ≤ 3) {x : Int} (hx : -2147483648 ≤ x ∧ x < 2147483648) : mCtr m_X9_setting 4 0 0 [vR (some 189), vI (x)] (st i l) (qR i l (spAsk (anSetting x (i 190)) (i 190) (i 189 2) (AP i) (AM i) (AK i) (i 193) (i 189 6) (i 189 7) (i 189 8))) := by
  refine mCtr_of pl_X9 dc_X9_setting (Nat.le_of_ble_eq_true rfl) rfl ?_
  show mX m_X9_setting 4 _ 0 0 0 [some (vR (some 189)), some (vI (x))] [] (st i l)
  have hW := hB.1
  have hN := hW.n
  have hPN := hB.2.1
  have hTN := hB.2.2.2.2.1
  refine x_iload_n 0 rfl rfl ?_
  refine x_iconst 1 rfl ?_
  refine x_iconst 2 rfl ?_
  refine x_callS 3 m_X9_isIn (r_isIn (by omega) (by omega) (by omega)) rfl ok_X9_isIn ml_X9_62 st_X9_isIn rfl (by decide) rfl (Nat.le_of_ble_eq_true rfl) rfl rfl (fun v g q1 => ?_)
  rcases q1 with ⟨rfl, ⟨h2, rfl⟩ | ⟨h2, rfl⟩⟩
  · show mX m_X9_setting 4 _ 0 0 _ _ [vI (1)] _
    refine x_if_eq 4 (tgt := 18) rfl (by decide) (by decide) (fun h3 => absurd h3 (by decide)) (fun h3 => ?_)
    refine x_aload_n 5 rfl rfl ?_
    refine x_getR 6 (z := 190) rfl fl_X9_7 (n_lt rfl) k_189 rfl r_189_0 ?_
    refine x_iload_n 7 rfl rfl ?_
    refine x_iald 8 (z := i 190 x) rfl (n_lt rfl) k_190 (by omega) rfl ?_
    refine x_goto 9 (tgt := 19) rfl (by decide) ?_
    refine x_ret 11 (some (vI (i 190 x))) rfl ⟨rfl, Or.inl rfl⟩ ⟨_, i, l, rfl, rfl, ?_⟩
    first
      | (exact rs_ask (z' := anSetting x (i 190)) (by unfold anSetting; rw [if_pos (by omega)]) (kA.rf i) rfl hF rfl)
      | (exact rs_ask (z' := anSetting x (i 190)) (by unfold anSetting; rw [if_neg (by omega)]) (kA.rf i) rfl hF rfl)
  · show mX m_X9_setting 4 _ 0 0 _ _ [vI (0)] _
    refine x_if_eq 4 (tgt := 18) rfl (by decide) (by decide) (fun h4 => ?_) (fun h4 => absurd h4 (by decide))
    refine x_iconst 10 rfl ?_
    refine x_ret 11 (some (vI ((-1)))) rfl ⟨rfl, Or.inl rfl⟩ ⟨_, i, l, rfl, rfl, ?_⟩
    first
      | (exact rs_ask (z' := anSetting x (i 190)) (by unfold anSetting; rw [if_pos (by omega)]) (kA.rf i) rfl hF rfl)
      | (exact rs_ask (z' := anSetting x (i 190)) (by unfold anSetting; rw [if_neg (by omega)]) (kA.rf i) rfl hF rfl)
set_option maxRecDepth 20000 in
set_option maxHeartbeats 2000000 in
theorem r_b_singer {i : Nat → Int → Int} {l : Nat → Int → BitVec 64} (hB : okB (i 190) (i 189 2) (AP i) (AM i) (AK i) (i 193) (i 189 6)) (hF : 0 ≤ i 189 4 ∧ i 189 4 ≤ 3) {y : Int} (hy : -2147483648 ≤ y ∧ y < 2147483648) {x : Int} (hx : -2147483648 ≤ x ∧ x < 2147483648) : mCtr m_X9_singer 7 0 0 [vR (some 189), vI (y), vI (x)] (st i l) (qR i l (spAsk (anSinger y x (i 190)) (i 190) (i 189 2) (AP i) (AM i) (AK i) (i 193) (i 189 6) (i 189 7) (i 189 8))) := by
  refine mCtr_of pl_X9 dc_X9_singer (Nat.le_of_ble_eq_true rfl) rfl ?_
  show mX m_X9_singer 7 _ 0 0 0 [some (vR (some 189)), some (vI (y)), some (vI (x))] [] (st i l)
  have hW := hB.1
  have hN := hW.n
  have hPN := hB.2.1
  have hTN := hB.2.2.2.2.1
  refine x_aload_n 0 rfl rfl ?_
  refine x_iload_n 1 rfl rfl ?_
  refine x_callV 2 m_X9_isSinger (r_isSinger (by omega) (by omega)) rfl ok_X9_isSinger (n_lt rfl) k_189 rfl rfl ml_X9_117 im_X9_isSinger se_X9_isSinger rfl (by decide) rfl (Nat.le_of_ble_eq_true rfl) rfl rfl (fun v g q1 => ?_)
  rcases q1 with ⟨rfl, ⟨h2, rfl⟩ | ⟨h2, rfl⟩⟩
  · show mX m_X9_singer 7 _ 0 0 _ _ [vI (1)] _
    refine x_if_eq 3 (tgt := 18) rfl (by decide) (by decide) (fun h3 => absurd h3 (by decide)) (fun h3 => ?_)
    refine x_iload_n 4 rfl rfl ?_
    refine x_iconst 5 rfl ?_
    refine x_bipush 6 rfl (by decide) ?_
    refine x_callS 7 m_X9_isIn (r_isIn (by omega) (by omega) (by omega)) rfl ok_X9_isIn ml_X9_62 st_X9_isIn rfl (by decide) rfl (Nat.le_of_ble_eq_true rfl) rfl rfl (fun v g q4 => ?_)
    rcases q4 with ⟨rfl, ⟨h5, rfl⟩ | ⟨h5, rfl⟩⟩
    · show mX m_X9_singer 7 _ 0 0 _ _ [vI (1)] _
      refine x_if_ne 8 (tgt := 20) rfl (by decide) (by decide) (fun h6 => ?_) (fun h6 => absurd h6 (by decide))
      refine x_aload_n 11 rfl rfl ?_
      refine x_iload_n 12 rfl rfl ?_
      refine x_callV 13 m_X9_findRange (r_findRange hW (by omega)) rfl ok_X9_findRange (n_lt rfl) k_189 rfl rfl ml_X9_76 im_X9_findRange se_X9_findRange rfl (by decide) rfl (Nat.le_of_ble_eq_true rfl) rfl rfl (fun v g q7 => ?_)
      obtain ⟨rfl, i8, li8, rfl, hi8⟩ := q7
      obtain ⟨hEi8, hi8⟩ := hi8
      have hEi8 := hEi8.symm
      subst hEi8
      show mX m_X9_singer 7 _ 0 0 _ _ [] _
      obtain ⟨hlo_, hhi_, hfr⟩ := hi8
      have f190 := hfr.w
      have hkf := kA.of9 hfr
      have f11 : i8 190 11 = i 190 11 := by rw [f190]
      have hWf : okW (i8 190) := by rw [f190]; exact hW
      refine x_iload_n 14 rfl rfl ?_
      rcases (show (x < 0 ∨ 8 < x) ∨ x = 0 ∨ x = 1 ∨ x = 2 ∨ x = 3 ∨ x = 4 ∨ x = 5 ∨ x = 6 ∨ x = 7 ∨ x = 8 by omega) with h9 | h9 | h9 | h9 | h9 | h9 | h9 | h9 | h9 | h9
      · refine x_tabOut 15 (tgt := 134) rfl (by omega) h9 (by decide) ?_
        refine x_aload_n 56 rfl rfl ?_
        refine x_iload_n 57 rfl rfl ?_
        refine x_bipush 58 rfl (by decide) ?_
        refine x_callV 59 m_X9_of (r_of (by omega) (by omega)) rfl ok_X9_of (n_lt rfl) k_189 rfl rfl ml_X9_72 im_X9_of se_X9_of rfl (by decide) rfl (Nat.le_of_ble_eq_true rfl) rfl rfl (fun v g q10 => ?_)
        obtain ⟨rfl, rfl⟩ := q10
        show mX m_X9_singer 7 _ 0 0 _ _ [vI (sV (i8 190) y 6)] _
        refine x_ret 60 (some (vI (sV (i8 190) y 6))) rfl ⟨rfl, Or.inl rfl⟩ ⟨_, i8, l, rfl, rfl, ?_⟩
        exact rs_ask (z' := anSinger y x (i 190)) (by unfold anSinger; rw [if_neg (by omega), if_neg (by omega), if_neg (by omega), if_neg (by omega), if_neg (by omega), if_neg (by omega), if_neg (by omega), if_neg (by omega), if_neg (by omega), if_neg (by omega), if_pos (by omega)]; rw [f190]) (hkf) (f190) hF rfl
      · refine x_tabIn 15 (off := 50) (tgt := 76) rfl (by omega) (by omega) (by rw [h9]; rfl) (by decide) ?_
        refine x_aload_n 16 rfl rfl ?_
        refine x_iload_n 17 rfl rfl ?_
        refine x_iconst 18 rfl ?_
        refine x_callV 19 m_X9_of (r_of (by omega) (by omega)) rfl ok_X9_of (n_lt rfl) k_189 rfl rfl ml_X9_72 im_X9_of se_X9_of rfl (by decide) rfl (Nat.le_of_ble_eq_true rfl) rfl rfl (fun v g q11 => ?_)
        obtain ⟨rfl, rfl⟩ := q11
        show mX m_X9_singer 7 _ 0 0 _ _ [vI (sV (i8 190) y 0)] _
        refine x_ret 20 (some (vI (sV (i8 190) y 0))) rfl ⟨rfl, Or.inl rfl⟩ ⟨_, i8, l, rfl, rfl, ?_⟩
        exact rs_ask (z' := anSinger y x (i 190)) (by unfold anSinger; rw [if_neg (by omega), if_pos (by omega)]; rw [f190]) (hkf) (f190) hF rfl
      · refine x_tabIn 15 (off := 57) (tgt := 83) rfl (by omega) (by omega) (by rw [h9]; rfl) (by decide) ?_
        refine x_aload_n 21 rfl rfl ?_
        refine x_iload_n 22 rfl rfl ?_
        refine x_iconst 23 rfl ?_
        refine x_callV 24 m_X9_of (r_of (by omega) (by omega)) rfl ok_X9_of (n_lt rfl) k_189 rfl rfl ml_X9_72 im_X9_of se_X9_of rfl (by decide) rfl (Nat.le_of_ble_eq_true rfl) rfl rfl (fun v g q12 => ?_)
        obtain ⟨rfl, rfl⟩ := q12
        show mX m_X9_singer 7 _ 0 0 _ _ [vI (sV (i8 190) y 1)] _
        refine x_ret 25 (some (vI (sV (i8 190) y 1))) rfl ⟨rfl, Or.inl rfl⟩ ⟨_, i8, l, rfl, rfl, ?_⟩
        exact rs_ask (z' := anSinger y x (i 190)) (by unfold anSinger; rw [if_neg (by omega), if_neg (by omega), if_pos (by omega)]; rw [f190]) (hkf) (f190) hF rfl
      · refine x_tabIn 15 (off := 64) (tgt := 90) rfl (by omega) (by omega) (by rw [h9]; rfl) (by decide) ?_
        refine x_aload_n 26 rfl rfl ?_
        refine x_getI 27 (z := i8 189 9) rfl fl_X9_66 (n_lt rfl) k_189 rfl rfl ?_
        refine x_ret 28 (some (vI (i8 189 9))) rfl ⟨rfl, Or.inl rfl⟩ ⟨_, i8, l, rfl, rfl, ?_⟩
        exact rs_ask (z' := anSinger y x (i 190)) (by unfold anSinger; rw [if_neg (by omega), if_neg (by omega), if_neg (by omega), if_pos (by omega)]; exact hlo_) (hkf) (f190) hF rfl
      · refine x_tabIn 15 (off := 69) (tgt := 95) rfl (by omega) (by omega) (by rw [h9]; rfl) (by decide) ?_
        refine x_aload_n 29 rfl rfl ?_
        refine x_getI 30 (z := i8 189 10) rfl fl_X9_69 (n_lt rfl) k_189 rfl rfl ?_
        refine x_ret 31 (some (vI (i8 189 10))) rfl ⟨rfl, Or.inl rfl⟩ ⟨_, i8, l, rfl, rfl, ?_⟩
        exact rs_ask (z' := anSinger y x (i 190)) (by unfold anSinger; rw [if_neg (by omega), if_neg (by omega), if_neg (by omega), if_neg (by omega), if_pos (by omega)]; exact hhi_) (hkf) (f190) hF rfl
      · refine x_tabIn 15 (off := 74) (tgt := 100) rfl (by omega) (by omega) (by rw [h9]; rfl) (by decide) ?_
        refine x_aload_n 32 rfl rfl ?_
        refine x_iload_n 33 rfl rfl ?_
        refine x_callV 34 m_X9_fits (r_fits hWf (by omega)) rfl ok_X9_fits (n_lt rfl) k_189 rfl rfl ml_X9_93 im_X9_fits se_X9_fits rfl (by decide) rfl (Nat.le_of_ble_eq_true rfl) rfl rfl (fun v g q13 => ?_)
        obtain ⟨z15, i14, li14, rfl, rfl, hi14⟩ := q13
        show mX m_X9_singer 7 _ 0 0 _ _ [vI (z15)] _
        obtain ⟨hgf, rfl, hfr2⟩ := hi14
        rw [f190] at hgf
        refine x_ret 35 (some (vI (z15))) rfl ⟨rfl, Or.inl rfl⟩ ⟨_, i14, li14, rfl, rfl, ?_⟩
        exact rs_ask (z' := anSinger y x (i 190)) (by unfold anSinger; rw [if_neg (by omega), if_neg (by omega), if_neg (by omega), if_neg (by omega), if_neg (by omega), if_pos (by omega)]; exact hgf) (hkf.tr (kA.of9 hfr2)) (hfr2.w.trans f190) hF rfl
      · refine x_tabIn 15 (off := 80) (tgt := 106) rfl (by omega) (by omega) (by rw [h9]; rfl) (by decide) ?_
        refine x_aload_n 36 rfl rfl ?_
        refine x_iload_n 37 rfl rfl ?_
        refine x_iconst 38 rfl ?_
        refine x_callV 39 m_X9_of (r_of (by omega) (by omega)) rfl ok_X9_of (n_lt rfl) k_189 rfl rfl ml_X9_72 im_X9_of se_X9_of rfl (by decide) rfl (Nat.le_of_ble_eq_true rfl) rfl rfl (fun v g q16 => ?_)
        obtain ⟨rfl, rfl⟩ := q16
        show mX m_X9_singer 7 _ 0 0 _ _ [vI (sV (i8 190) y 2)] _
        refine x_ret 40 (some (vI (sV (i8 190) y 2))) rfl ⟨rfl, Or.inl rfl⟩ ⟨_, i8, l, rfl, rfl, ?_⟩
        exact rs_ask (z' := anSinger y x (i 190)) (by unfold anSinger; rw [if_neg (by omega), if_neg (by omega), if_neg (by omega), if_neg (by omega), if_neg (by omega), if_neg (by omega), if_pos (by omega)]; rw [f190]) (hkf) (f190) hF rfl
      · refine x_tabIn 15 (off := 87) (tgt := 113) rfl (by omega) (by omega) (by rw [h9]; rfl) (by decide) ?_
        refine x_aload_n 41 rfl rfl ?_
        refine x_iload_n 42 rfl rfl ?_
        refine x_iconst 43 rfl ?_
        refine x_callV 44 m_X9_of (r_of (by omega) (by omega)) rfl ok_X9_of (n_lt rfl) k_189 rfl rfl ml_X9_72 im_X9_of se_X9_of rfl (by decide) rfl (Nat.le_of_ble_eq_true rfl) rfl rfl (fun v g q17 => ?_)
        obtain ⟨rfl, rfl⟩ := q17
        show mX m_X9_singer 7 _ 0 0 _ _ [vI (sV (i8 190) y 3)] _
        refine x_ret 45 (some (vI (sV (i8 190) y 3))) rfl ⟨rfl, Or.inl rfl⟩ ⟨_, i8, l, rfl, rfl, ?_⟩
        exact rs_ask (z' := anSinger y x (i 190)) (by unfold anSinger; rw [if_neg (by omega), if_neg (by omega), if_neg (by omega), if_neg (by omega), if_neg (by omega), if_neg (by omega), if_neg (by omega), if_pos (by omega)]; rw [f190]) (hkf) (f190) hF rfl
      · refine x_tabIn 15 (off := 94) (tgt := 120) rfl (by omega) (by omega) (by rw [h9]; rfl) (by decide) ?_
        refine x_aload_n 46 rfl rfl ?_
        refine x_iload_n 47 rfl rfl ?_
        refine x_iconst 48 rfl ?_
        refine x_callV 49 m_X9_of (r_of (by omega) (by omega)) rfl ok_X9_of (n_lt rfl) k_189 rfl rfl ml_X9_72 im_X9_of se_X9_of rfl (by decide) rfl (Nat.le_of_ble_eq_true rfl) rfl rfl (fun v g q18 => ?_)
        obtain ⟨rfl, rfl⟩ := q18
        show mX m_X9_singer 7 _ 0 0 _ _ [vI (sV (i8 190) y 4)] _
        refine x_ret 50 (some (vI (sV (i8 190) y 4))) rfl ⟨rfl, Or.inl rfl⟩ ⟨_, i8, l, rfl, rfl, ?_⟩
        exact rs_ask (z' := anSinger y x (i 190)) (by unfold anSinger; rw [if_neg (by omega), if_neg (by omega), if_neg (by omega), if_neg (by omega), if_neg (by omega), if_neg (by omega), if_neg (by omega), if_neg (by omega), if_pos (by omega)]; rw [f190]) (hkf) (f190) hF rfl
      · refine x_tabIn 15 (off := 101) (tgt := 127) rfl (by omega) (by omega) (by rw [h9]; rfl) (by decide) ?_
        refine x_aload_n 51 rfl rfl ?_
        refine x_iload_n 52 rfl rfl ?_
        refine x_iconst 53 rfl ?_
        refine x_callV 54 m_X9_of (r_of (by omega) (by omega)) rfl ok_X9_of (n_lt rfl) k_189 rfl rfl ml_X9_72 im_X9_of se_X9_of rfl (by decide) rfl (Nat.le_of_ble_eq_true rfl) rfl rfl (fun v g q19 => ?_)
        obtain ⟨rfl, rfl⟩ := q19
        show mX m_X9_singer 7 _ 0 0 _ _ [vI (sV (i8 190) y 5)] _
        refine x_ret 55 (some (vI (sV (i8 190) y 5))) rfl ⟨rfl, Or.inl rfl⟩ ⟨_, i8, l, rfl, rfl, ?_⟩
        exact rs_ask (z' := anSinger y x (i 190)) (by unfold anSinger; rw [if_neg (by omega), if_neg (by omega), if_neg (by omega), if_neg (by omega), if_neg (by omega), if_neg (by omega), if_neg (by omega), if_neg (by omega), if_neg (by omega), if_pos (by omega)]; rw [f190]) (hkf) (f190) hF rfl
    · show mX m_X9_singer 7 _ 0 0 _ _ [vI (0)] _
      refine x_if_ne 8 (tgt := 20) rfl (by decide) (by decide) (fun h20 => absurd h20 (by decide)) (fun h20 => ?_)
      refine x_iconst 9 rfl ?_
      refine x_ret 10 (some (vI ((-1)))) rfl ⟨rfl, Or.inl rfl⟩ ⟨_, i, l, rfl, rfl, ?_⟩
      first
        | (exact rs_ask (z' := anSinger y x (i 190)) (by unfold anSinger; rw [if_pos (by omega)]) (kA.rf i) rfl hF rfl)
        | (exact rs_ask (z' := anSinger y x (i 190)) (by unfold anSinger; rw [if_neg (by omega), if_neg (by omega), if_neg (by omega), if_neg (by omega), if_neg (by omega), if_neg (by omega), if_neg (by omega), if_neg (by omega), if_neg (by omega), if_neg (by omega), if_neg (by omega)]) (kA.rf i) rfl hF rfl)
  · show mX m_X9_singer 7 _ 0 0 _ _ [vI (0)] _
    refine x_if_eq 3 (tgt := 18) rfl (by decide) (by decide) (fun h21 => ?_) (fun h21 => absurd h21 (by decide))
    refine x_iconst 9 rfl ?_
    refine x_ret 10 (some (vI ((-1)))) rfl ⟨rfl, Or.inl rfl⟩ ⟨_, i, l, rfl, rfl, ?_⟩
    first
      | (exact rs_ask (z' := anSinger y x (i 190)) (by unfold anSinger; rw [if_pos (by omega)]) (kA.rf i) rfl hF rfl)
      | (exact rs_ask (z' := anSinger y x (i 190)) (by unfold anSinger; rw [if_neg (by omega), if_neg (by omega), if_neg (by omega), if_neg (by omega), if_neg (by omega), if_neg (by omega), if_neg (by omega), if_neg (by omega), if_neg (by omega), if_neg (by omega), if_neg (by omega)]) (kA.rf i) rfl hF rfl)
set_option maxRecDepth 20000 in
set_option maxHeartbeats 2000000 in
theorem r_b_note {i : Nat → Int → Int} {l : Nat → Int → BitVec 64} (hB : okB (i 190) (i 189 2) (AP i) (AM i) (AK i) (i 193) (i 189 6)) (hF : 0 ≤ i 189 4 ∧ i 189 4 ≤ 3) {y : Int} (hy : -2147483648 ≤ y ∧ y < 2147483648) {n : Int} (hn : -2147483648 ≤ n ∧ n < 2147483648) : mCtr m_X9_note 4 0 0 [vR (some 189), vI (y), vI (n)] (st i l) (qR i l (spAsk (anNote y n (i 190)) (i 190) (i 189 2) (AP i) (AM i) (AK i) (i 193) (i 189 6) (i 189 7) (i 189 8))) := by
  refine mCtr_of pl_X9 dc_X9_note (Nat.le_of_ble_eq_true rfl) rfl ?_
  show mX m_X9_note 4 _ 0 0 0 [some (vR (some 189)), some (vI (y)), some (vI (n))] [] (st i l)
  have hW := hB.1
  have hN := hW.n
  have hPN := hB.2.1
  have hTN := hB.2.2.2.2.1
  refine x_aload_n 0 rfl rfl ?_
  refine x_iload_n 1 rfl rfl ?_
  refine x_callV 2 m_X9_isSinger (r_isSinger (by omega) (by omega)) rfl ok_X9_isSinger (n_lt rfl) k_189 rfl rfl ml_X9_117 im_X9_isSinger se_X9_isSinger rfl (by decide) rfl (Nat.le_of_ble_eq_true rfl) rfl rfl (fun v g q1 => ?_)
  rcases q1 with ⟨rfl, ⟨h2, rfl⟩ | ⟨h2, rfl⟩⟩
  · show mX m_X9_note 4 _ 0 0 _ _ [vI (1)] _
    refine x_if_eq 3 (tgt := 30) rfl (by decide) (by decide) (fun h3 => absurd h3 (by decide)) (fun h3 => ?_)
    refine x_iload_n 4 rfl rfl ?_
    refine x_iconst 5 rfl ?_
    refine x_bipush 6 rfl (by decide) ?_
    refine x_callS 7 m_X9_isIn (r_isIn (by omega) (by omega) (by omega)) rfl ok_X9_isIn ml_X9_62 st_X9_isIn rfl (by decide) rfl (Nat.le_of_ble_eq_true rfl) rfl rfl (fun v g q4 => ?_)
    rcases q4 with ⟨rfl, ⟨h5, rfl⟩ | ⟨h5, rfl⟩⟩
    · show mX m_X9_note 4 _ 0 0 _ _ [vI (1)] _
      refine x_if_eq 8 (tgt := 30) rfl (by decide) (by decide) (fun h6 => absurd h6 (by decide)) (fun h6 => ?_)
      refine x_aload_n 9 rfl rfl ?_
      refine x_iload_n 10 rfl rfl ?_
      refine x_bipush 11 rfl (by decide) ?_
      refine x_iload_n 12 rfl rfl ?_
      refine x_iadd 13 (r := 7 + n) rfl rfl ?_
      refine x_callV 14 m_X9_of (r_of (by omega) (by omega)) rfl ok_X9_of (n_lt rfl) k_189 rfl rfl ml_X9_72 im_X9_of se_X9_of rfl (by decide) rfl (Nat.le_of_ble_eq_true rfl) rfl rfl (fun v g q7 => ?_)
      obtain ⟨rfl, rfl⟩ := q7
      show mX m_X9_note 4 _ 0 0 _ _ [vI (sV (i 190) y (7 + n))] _
      refine x_goto 15 (tgt := 31) rfl (by decide) ?_
      refine x_ret 17 (some (vI (sV (i 190) y (7 + n)))) rfl ⟨rfl, Or.inl rfl⟩ ⟨_, i, l, rfl, rfl, ?_⟩
      first
        | (exact rs_ask (z' := anNote y n (i 190)) (by unfold anNote; rw [if_pos (by omega)]) (kA.rf i) rfl hF rfl)
        | (exact rs_ask (z' := anNote y n (i 190)) (by unfold anNote; rw [if_neg (by omega)]) (kA.rf i) rfl hF rfl)
    · show mX m_X9_note 4 _ 0 0 _ _ [vI (0)] _
      refine x_if_eq 8 (tgt := 30) rfl (by decide) (by decide) (fun h8 => ?_) (fun h8 => absurd h8 (by decide))
      refine x_iconst 16 rfl ?_
      refine x_ret 17 (some (vI ((-1)))) rfl ⟨rfl, Or.inl rfl⟩ ⟨_, i, l, rfl, rfl, ?_⟩
      first
        | (exact rs_ask (z' := anNote y n (i 190)) (by unfold anNote; rw [if_pos (by omega)]) (kA.rf i) rfl hF rfl)
        | (exact rs_ask (z' := anNote y n (i 190)) (by unfold anNote; rw [if_neg (by omega)]) (kA.rf i) rfl hF rfl)
  · show mX m_X9_note 4 _ 0 0 _ _ [vI (0)] _
    refine x_if_eq 3 (tgt := 30) rfl (by decide) (by decide) (fun h9 => ?_) (fun h9 => absurd h9 (by decide))
    refine x_iconst 16 rfl ?_
    refine x_ret 17 (some (vI ((-1)))) rfl ⟨rfl, Or.inl rfl⟩ ⟨_, i, l, rfl, rfl, ?_⟩
    first
      | (exact rs_ask (z' := anNote y n (i 190)) (by unfold anNote; rw [if_pos (by omega)]) (kA.rf i) rfl hF rfl)
      | (exact rs_ask (z' := anNote y n (i 190)) (by unfold anNote; rw [if_neg (by omega)]) (kA.rf i) rfl hF rfl)
set_option maxRecDepth 20000 in
set_option maxHeartbeats 2000000 in
theorem r_b_overlap {i : Nat → Int → Int} {l : Nat → Int → BitVec 64} (hB : okB (i 190) (i 189 2) (AP i) (AM i) (AK i) (i 193) (i 189 6)) (hF : 0 ≤ i 189 4 ∧ i 189 4 ≤ 3) {y : Int} (hy : -2147483648 ≤ y ∧ y < 2147483648) {p : Int} (hp : -2147483648 ≤ p ∧ p < 2147483648) : mCtr m_X9_overlap 5 0 0 [vR (some 189), vI (y), vI (p)] (st i l) (qR i l (spAsk (anOverlap y p (i 190)) (i 190) (i 189 2) (AP i) (AM i) (AK i) (i 193) (i 189 6) (i 189 7) (i 189 8))) := by
  refine mCtr_of pl_X9 dc_X9_overlap (Nat.le_of_ble_eq_true rfl) rfl ?_
  show mX m_X9_overlap 5 _ 0 0 0 [some (vR (some 189)), some (vI (y)), some (vI (p))] [] (st i l)
  have hW := hB.1
  have hN := hW.n
  have hPN := hB.2.1
  have hTN := hB.2.2.2.2.1
  refine x_aload_n 0 rfl rfl ?_
  refine x_iload_n 1 rfl rfl ?_
  refine x_callV 2 m_X9_isSinger (r_isSinger (by omega) (by omega)) rfl ok_X9_isSinger (n_lt rfl) k_189 rfl rfl ml_X9_117 im_X9_isSinger se_X9_isSinger rfl (by decide) rfl (Nat.le_of_ble_eq_true rfl) rfl rfl (fun v g q1 => ?_)
  rcases q1 with ⟨rfl, ⟨h2, rfl⟩ | ⟨h2, rfl⟩⟩
  · show mX m_X9_overlap 5 _ 0 0 _ _ [vI (1)] _
    refine x_if_eq 3 (tgt := 24) rfl (by decide) (by decide) (fun h3 => absurd h3 (by decide)) (fun h3 => ?_)
    refine x_iload_n 4 rfl rfl ?_
    refine x_callS 5 m_X9_isPart (r_isPart (by omega)) rfl ok_X9_isPart ml_X9_194 st_X9_isPart rfl (by decide) rfl (Nat.le_of_ble_eq_true rfl) rfl rfl (fun v g q4 => ?_)
    rcases q4 with ⟨rfl, ⟨h5, rfl⟩ | ⟨h5, rfl⟩⟩
    · show mX m_X9_overlap 5 _ 0 0 _ _ [vI (1)] _
      refine x_if_eq 6 (tgt := 24) rfl (by decide) (by decide) (fun h6 => absurd h6 (by decide)) (fun h6 => ?_)
      refine x_aload_n 7 rfl rfl ?_
      refine x_iload_n 8 rfl rfl ?_
      refine x_iload_n 9 rfl rfl ?_
      refine x_callV 10 m_X9_overlapOf (r_overlapOf hW (by omega) (by omega)) rfl ok_X9_overlapOf (n_lt rfl) k_189 rfl rfl ml_X9_80 im_X9_overlapOf se_X9_overlapOf rfl (by decide) rfl (Nat.le_of_ble_eq_true rfl) rfl rfl (fun v g q7 => ?_)
      obtain ⟨z9, i8, li8, rfl, rfl, hi8⟩ := q7
      show mX m_X9_overlap 5 _ 0 0 _ _ [vI (z9)] _
      obtain ⟨hz, rfl, hfr⟩ := hi8
      refine x_goto 11 (tgt := 25) rfl (by decide) ?_
      refine x_ret 13 (some (vI (z9))) rfl ⟨rfl, Or.inl rfl⟩ ⟨_, i8, li8, rfl, rfl, ?_⟩
      first
        | (exact rs_ask (z' := anOverlap y p (i 190)) (by unfold anOverlap; rw [if_pos (by omega)]) (kA.rf i) rfl hF rfl)
        | (exact rs_ask (z' := anOverlap y p (i 190)) (by unfold anOverlap; rw [if_neg (by omega)]; exact hz) (kA.of9 hfr) hfr.w hF rfl)
    · show mX m_X9_overlap 5 _ 0 0 _ _ [vI (0)] _
      refine x_if_eq 6 (tgt := 24) rfl (by decide) (by decide) (fun h10 => ?_) (fun h10 => absurd h10 (by decide))
      refine x_iconst 12 rfl ?_
      refine x_ret 13 (some (vI ((-1)))) rfl ⟨rfl, Or.inl rfl⟩ ⟨_, i, l, rfl, rfl, ?_⟩
      first
        | (exact rs_ask (z' := anOverlap y p (i 190)) (by unfold anOverlap; rw [if_pos (by omega)]) (kA.rf i) rfl hF rfl)
        | (exact rs_ask (z' := anOverlap y p (i 190)) (by unfold anOverlap; rw [if_neg (by omega)]; exact hz) (kA.of9 hfr) hfr.w hF rfl)
  · show mX m_X9_overlap 5 _ 0 0 _ _ [vI (0)] _
    refine x_if_eq 3 (tgt := 24) rfl (by decide) (by decide) (fun h11 => ?_) (fun h11 => absurd h11 (by decide))
    refine x_iconst 12 rfl ?_
    refine x_ret 13 (some (vI ((-1)))) rfl ⟨rfl, Or.inl rfl⟩ ⟨_, i, l, rfl, rfl, ?_⟩
    first
      | (exact rs_ask (z' := anOverlap y p (i 190)) (by unfold anOverlap; rw [if_pos (by omega)]) (kA.rf i) rfl hF rfl)
      | (exact rs_ask (z' := anOverlap y p (i 190)) (by unfold anOverlap; rw [if_neg (by omega)]; exact hz) (kA.of9 hfr) hfr.w hF rfl)
set_option maxRecDepth 20000 in
set_option maxHeartbeats 2000000 in
theorem r_b_part {i : Nat → Int → Int} {l : Nat → Int → BitVec 64} (hB : okB (i 190) (i 189 2) (AP i) (AM i) (AK i) (i 193) (i 189 6)) (hF : 0 ≤ i 189 4 ∧ i 189 4 ≤ 3) {p : Int} (hp : -2147483648 ≤ p ∧ p < 2147483648) {x : Int} (hx : -2147483648 ≤ x ∧ x < 2147483648) : mCtr m_X9_part 9 0 0 [vR (some 189), vI (p), vI (x)] (st i l) (qR i l (spAsk (anPart p x (i 190)) (i 190) (i 189 2) (AP i) (AM i) (AK i) (i 193) (i 189 6) (i 189 7) (i 189 8))) := by
  refine mCtr_of pl_X9 dc_X9_part (Nat.le_of_ble_eq_true rfl) rfl ?_
  show mX m_X9_part 9 _ 0 0 0 [some (vR (some 189)), some (vI (p)), some (vI (x))] [] (st i l)
  have hW := hB.1
  have hN := hW.n
  have hPN := hB.2.1
  have hTN := hB.2.2.2.2.1
  refine x_iload_n 0 rfl rfl ?_
  refine x_callS 1 m_X9_isPart (r_isPart (by omega)) rfl ok_X9_isPart ml_X9_194 st_X9_isPart rfl (by decide) rfl (Nat.le_of_ble_eq_true rfl) rfl rfl (fun v g q1 => ?_)
  rcases q1 with ⟨rfl, ⟨h2, rfl⟩ | ⟨h2, rfl⟩⟩
  · show mX m_X9_part 9 _ 0 0 _ _ [vI (1)] _
    refine x_if_ne 2 (tgt := 9) rfl (by decide) (by decide) (fun h3 => ?_) (fun h3 => absurd h3 (by decide))
    refine x_iload_n 5 rfl rfl ?_
    rcases (show (x < 0 ∨ 5 < x) ∨ x = 0 ∨ x = 1 ∨ x = 2 ∨ x = 3 ∨ x = 4 ∨ x = 5 by omega) with h4 | h4 | h4 | h4 | h4 | h4 | h4
    · refine x_tabOut 6 (tgt := 92) rfl (by omega) h4 (by decide) ?_
      refine x_iconst 37 rfl ?_
      refine x_ret 38 (some (vI ((-1)))) rfl ⟨rfl, Or.inl rfl⟩ ⟨_, i, l, rfl, rfl, ?_⟩
      exact rs_ask (z' := anPart p x (i 190)) (by unfold anPart; rw [if_neg (by omega), if_neg (by omega), if_neg (by omega), if_neg (by omega), if_neg (by omega), if_neg (by omega), if_neg (by omega)]) (kA.rf i) (rfl) hF rfl
    · refine x_tabIn 6 (off := 38) (tgt := 48) rfl (by omega) (by omega) (by rw [h4]; rfl) (by decide) ?_
      refine x_aload_n 7 rfl rfl ?_
      refine x_iload_n 8 rfl rfl ?_
      refine x_callV 9 m_X9_placedIn (r_placedIn hW (by omega)) rfl ok_X9_placedIn (n_lt rfl) k_189 rfl rfl ml_X9_197 im_X9_placedIn se_X9_placedIn rfl (by decide) rfl (Nat.le_of_ble_eq_true rfl) rfl rfl (fun v g q5 => ?_)
      obtain ⟨rfl, rfl⟩ := q5
      show mX m_X9_part 9 _ 0 0 _ _ [vI (gMem (i 190) p)] _
      refine x_ret 10 (some (vI (gMem (i 190) p))) rfl ⟨rfl, Or.inl rfl⟩ ⟨_, i, l, rfl, rfl, ?_⟩
      exact rs_ask (z' := anPart p x (i 190)) (by unfold anPart; rw [if_neg (by omega), if_pos (by omega)]) (kA.rf i) (rfl) hF rfl
    · refine x_tabIn 6 (off := 44) (tgt := 54) rfl (by omega) (by omega) (by rw [h4]; rfl) (by decide) ?_
      refine x_aload_n 11 rfl rfl ?_
      refine x_iload_n 12 rfl rfl ?_
      refine x_callV 13 m_X9_strengthOf (r_strengthOf hW (by omega)) rfl ok_X9_strengthOf (n_lt rfl) k_189 rfl rfl ml_X9_203 im_X9_strengthOf se_X9_strengthOf rfl (by decide) rfl (Nat.le_of_ble_eq_true rfl) rfl rfl (fun v g q6 => ?_)
      obtain ⟨rfl, rfl⟩ := q6
      show mX m_X9_part 9 _ 0 0 _ _ [vI (gStr (i 190) p)] _
      refine x_ret 14 (some (vI (gStr (i 190) p))) rfl ⟨rfl, Or.inl rfl⟩ ⟨_, i, l, rfl, rfl, ?_⟩
      exact rs_ask (z' := anPart p x (i 190)) (by unfold anPart; rw [if_neg (by omega), if_neg (by omega), if_pos (by omega)]) (kA.rf i) (rfl) hF rfl
    · refine x_tabIn 6 (off := 50) (tgt := 60) rfl (by omega) (by omega) (by rw [h4]; rfl) (by decide) ?_
      refine x_aload_n 15 rfl rfl ?_
      refine x_iload_n 16 rfl rfl ?_
      refine x_callV 17 m_X9_presentStrength (r_presentStrength hW (by omega)) rfl ok_X9_presentStrength (n_lt rfl) k_189 rfl rfl ml_X9_121 im_X9_presentStrength se_X9_presentStrength rfl (by decide) rfl (Nat.le_of_ble_eq_true rfl) rfl rfl (fun v g q7 => ?_)
      obtain ⟨rfl, rfl⟩ := q7
      show mX m_X9_part 9 _ 0 0 _ _ [vI (gPres (i 190) p)] _
      refine x_ret 18 (some (vI (gPres (i 190) p))) rfl ⟨rfl, Or.inl rfl⟩ ⟨_, i, l, rfl, rfl, ?_⟩
      exact rs_ask (z' := anPart p x (i 190)) (by unfold anPart; rw [if_neg (by omega), if_neg (by omega), if_neg (by omega), if_pos (by omega)]) (kA.rf i) (rfl) hF rfl
    · refine x_tabIn 6 (off := 56) (tgt := 66) rfl (by omega) (by omega) (by rw [h4]; rfl) (by decide) ?_
      refine x_aload_n 19 rfl rfl ?_
      refine x_getR 20 (z := 190) rfl fl_X9_7 (n_lt rfl) k_189 rfl r_189_0 ?_
      refine x_iconst 21 rfl ?_
      refine x_iload_n 22 rfl rfl ?_
      refine x_iadd 23 (r := 5 + p) rfl rfl ?_
      refine x_iald 24 (z := i 190 (5 + p)) rfl (n_lt rfl) k_190 (by omega) rfl ?_
      refine x_ret 25 (some (vI (i 190 (5 + p)))) rfl ⟨rfl, Or.inl rfl⟩ ⟨_, i, l, rfl, rfl, ?_⟩
      exact rs_ask (z' := anPart p x (i 190)) (by unfold anPart; rw [if_neg (by omega), if_neg (by omega), if_neg (by omega), if_neg (by omega), if_pos (by omega)]) (kA.rf i) (rfl) hF rfl
    · refine x_tabIn 6 (off := 65) (tgt := 75) rfl (by omega) (by omega) (by rw [h4]; rfl) (by decide) ?_
      refine x_aload_n 26 rfl rfl ?_
      refine x_iload_n 27 rfl rfl ?_
      refine x_callV 28 m_X9_rows (r_rows hW (by omega)) rfl ok_X9_rows (n_lt rfl) k_189 rfl rfl ml_X9_206 im_X9_rows se_X9_rows rfl (by decide) rfl (Nat.le_of_ble_eq_true rfl) rfl rfl (fun v g q8 => ?_)
      obtain ⟨rfl, rfl⟩ := q8
      show mX m_X9_part 9 _ 0 0 _ _ [vI (gRows (i 190) p)] _
      refine x_ret 29 (some (vI (gRows (i 190) p))) rfl ⟨rfl, Or.inl rfl⟩ ⟨_, i, l, rfl, rfl, ?_⟩
      exact rs_ask (z' := anPart p x (i 190)) (by unfold anPart; rw [if_neg (by omega), if_neg (by omega), if_neg (by omega), if_neg (by omega), if_neg (by omega), if_pos (by omega)]) (kA.rf i) (rfl) hF rfl
    · refine x_tabIn 6 (off := 71) (tgt := 81) rfl (by omega) (by omega) (by rw [h4]; rfl) (by decide) ?_
      refine x_aload_n 30 rfl rfl ?_
      refine x_callV 31 m_X9_findSolos (r_findSolos hW) rfl ok_X9_findSolos (n_lt rfl) k_189 rfl rfl ml_X9_136 im_X9_findSolos se_X9_findSolos rfl (by decide) rfl (Nat.le_of_ble_eq_true rfl) rfl rfl (fun v g q9 => ?_)
      obtain ⟨rfl, i10, li10, rfl, hi10⟩ := q9
      obtain ⟨hEi10, hi10⟩ := hi10
      have hEi10 := hEi10.symm
      subst hEi10
      show mX m_X9_part 9 _ 0 0 _ _ [] _
      obtain ⟨hf1, hs1, hso⟩ := hi10
      have hkf : kA i i10 := fun a b q => hf1 a b (by omega) (by omega) (by omega) (by omega)
      have f190 : i10 190 = i 190 := by funext b; exact hf1 190 b (by decide) (by decide) (by decide) (by omega)
      refine x_aload_n 32 rfl rfl ?_
      refine x_getR 33 (z := 200) rfl fl_X9_47 (n_lt rfl) k_189 rfl r_189_19 ?_
      refine x_iload_n 34 rfl rfl ?_
      refine x_iald 35 (z := i10 200 p) rfl (n_lt rfl) k_200 (by omega) rfl ?_
      refine x_ret 36 (some (vI (i10 200 p))) rfl ⟨rfl, Or.inl rfl⟩ ⟨_, i10, l, rfl, rfl, ?_⟩
      exact rs_ask (z' := anPart p x (i 190)) (by unfold anPart; rw [if_neg (by omega), if_neg (by omega), if_neg (by omega), if_neg (by omega), if_neg (by omega), if_neg (by omega), if_pos (by omega)]; exact hso p (by omega) (by omega)) (hkf) (f190) hF rfl
  · show mX m_X9_part 9 _ 0 0 _ _ [vI (0)] _
    refine x_if_ne 2 (tgt := 9) rfl (by decide) (by decide) (fun h11 => absurd h11 (by decide)) (fun h11 => ?_)
    refine x_iconst 3 rfl ?_
    refine x_ret 4 (some (vI ((-1)))) rfl ⟨rfl, Or.inl rfl⟩ ⟨_, i, l, rfl, rfl, ?_⟩
    exact rs_ask (z' := anPart p x (i 190)) (by unfold anPart; rw [if_pos (by omega)]) (kA.rf i) (rfl) hF rfl
set_option maxRecDepth 20000 in
set_option maxHeartbeats 2000000 in
theorem r_b_seat {i : Nat → Int → Int} {l : Nat → Int → BitVec 64} (hB : okB (i 190) (i 189 2) (AP i) (AM i) (AK i) (i 193) (i 189 6)) (hF : 0 ≤ i 189 4 ∧ i 189 4 ≤ 3) {y : Int} (hy : -2147483648 ≤ y ∧ y < 2147483648) {x : Int} (hx : -2147483648 ≤ x ∧ x < 2147483648) : mCtr m_X9_seat 6 0 0 [vR (some 189), vI (y), vI (x)] (st i l) (qR i l (spAsk (anSeat y x (i 190)) (i 190) (i 189 2) (AP i) (AM i) (AK i) (i 193) (i 189 6) (i 189 7) (i 189 8))) := by
  refine mCtr_of pl_X9 dc_X9_seat (Nat.le_of_ble_eq_true rfl) rfl ?_
  show mX m_X9_seat 6 _ 0 0 0 [some (vR (some 189)), some (vI (y)), some (vI (x)), none, none, none, none] [] (st i l)
  have hW := hB.1
  have hN := hW.n
  have hPN := hB.2.1
  have hTN := hB.2.2.2.2.1
  refine x_aload_n 0 rfl rfl ?_
  refine x_iload_n 1 rfl rfl ?_
  refine x_callV 2 m_X9_isSinger (r_isSinger (by omega) (by omega)) rfl ok_X9_isSinger (n_lt rfl) k_189 rfl rfl ml_X9_117 im_X9_isSinger se_X9_isSinger rfl (by decide) rfl (Nat.le_of_ble_eq_true rfl) rfl rfl (fun v g q1 => ?_)
  rcases q1 with ⟨rfl, ⟨h2, rfl⟩ | ⟨h2, rfl⟩⟩
  · show mX m_X9_seat 6 _ 0 0 _ _ [vI (1)] _
    refine x_if_eq 3 (tgt := 17) rfl (by decide) (by decide) (fun h3 => absurd h3 (by decide)) (fun h3 => ?_)
    refine x_iload_n 4 rfl rfl ?_
    refine x_iconst 5 rfl ?_
    refine x_iconst 6 rfl ?_
    refine x_callS 7 m_X9_isIn (r_isIn (by omega) (by omega) (by omega)) rfl ok_X9_isIn ml_X9_62 st_X9_isIn rfl (by decide) rfl (Nat.le_of_ble_eq_true rfl) rfl rfl (fun v g q4 => ?_)
    rcases q4 with ⟨rfl, ⟨h5, rfl⟩ | ⟨h5, rfl⟩⟩
    · show mX m_X9_seat 6 _ 0 0 _ _ [vI (1)] _
      refine x_if_ne 8 (tgt := 19) rfl (by decide) (by decide) (fun h6 => ?_) (fun h6 => absurd h6 (by decide))
      have hvy := hW.v (s := y) (by omega) (by omega)
      have hvy2 := hvy.2.2.1
      obtain ⟨f, hf⟩ : ∃ f : Int → Int, f = fun k => if sV (i 190) k 2 = sV (i 190) y 2 ∧ (sV (i 190) k 1 < sV (i 190) y 1 ∨ (sV (i 190) k 1 = sV (i 190) y 1 ∧ k < y)) then 1 else 0 := ⟨_, rfl⟩
      have hvy1 := hvy.2.1
      refine x_aload_n 11 rfl rfl ?_
      refine x_iload_n 12 rfl rfl ?_
      refine x_iconst 13 rfl ?_
      refine x_callV 14 m_X9_of (r_of (by omega) (by omega)) rfl ok_X9_of (n_lt rfl) k_189 rfl rfl ml_X9_72 im_X9_of se_X9_of rfl (by decide) rfl (Nat.le_of_ble_eq_true rfl) rfl rfl (fun v g q7 => ?_)
      obtain ⟨rfl, rfl⟩ := q7
      show mX m_X9_seat 6 _ 0 0 _ _ [vI (sV (i 190) y 2)] _
      refine x_istore_n 15 (L' := [some (vR (some 189)), some (vI (y)), some (vI (x)), some (vI (sV (i 190) y 2)), none, none, none]) rfl (by decide) rfl rfl ?_
      refine x_iload_n 16 rfl rfl ?_
      refine x_bipush 17 rfl (by decide) ?_
      refine x_icmp_ne 18 (tgt := 35) rfl (by decide) (by omega) (fun h8 => ?_) (fun h8 => ?_)
      · refine x_iconst 21 rfl ?_
        refine x_istore 22 (L' := [some (vR (some 189)), some (vI (y)), some (vI (x)), some (vI (sV (i 190) y 2)), some (vI (0)), none, none]) rfl (by decide) rfl rfl ?_
        refine x_iconst 23 rfl ?_
        refine x_istore 24 (L' := [some (vR (some 189)), some (vI (y)), some (vI (x)), some (vI (sV (i 190) y 2)), some (vI (0)), some (vI (0)), none]) rfl (by decide) rfl rfl ?_
        have loopL9 : ∀ (nz : Nat) (k : Int) (s : Int), (0 ≤ k ∧ k ≤ i 190 11) → (s = sumZ f k) → (i 190 11 - k) < (nz : Int) → mX m_X9_seat 6 (qR i l (spAsk (anSeat y x (i 190)) (i 190) (i 189 2) (AP i) (AM i) (AK i) (i 193) (i 189 6) (i 189 7) (i 189 8))) 0 0 41 [some (vR (some 189)), some (vI (y)), some (vI (x)), some (vI (sV (i 190) y 2)), some (vI (s)), some (vI (k)), none] [] (st i l) := by
          intro nz
          induction nz with
          | zero => intro k s hk hs hz; exact absurd hz (by omega)
          | succ nz ihL9 =>
            intro k s hk hs hzL9
            refine x_iload 25 rfl rfl ?_
            refine x_aload_n 26 rfl rfl ?_
            refine x_getR 27 (z := 190) rfl fl_X9_7 (n_lt rfl) k_189 rfl r_189_0 ?_
            refine x_bipush 28 rfl (by decide) ?_
            refine x_iald 29 (z := i 190 11) rfl (n_lt rfl) k_190 (by omega) rfl ?_
            refine x_icmp_ge 30 (tgt := 130) rfl (by decide) (by omega) (fun h10 => ?_) (fun h10 => ?_)
            · have hse : s = gSeat (i 190) y := by rw [hs, hf, show k = i 190 11 by omega]; rfl
              have hsb := gSeat_bd hW y
              refine x_iload 72 rfl rfl ?_
              refine x_aload_n 73 rfl rfl ?_
              refine x_getR 74 (z := 190) rfl fl_X9_7 (n_lt rfl) k_189 rfl r_189_0 ?_
              refine x_iconst 75 rfl ?_
              refine x_iald 76 (z := i 190 3) rfl (n_lt rfl) k_190 (by omega) rfl ?_
              refine x_idiv 77 (r := s / (i 190 3)) rfl (by omega) rfl ?_
              refine x_istore 78 (L' := [some (vR (some 189)), some (vI (y)), some (vI (x)), some (vI (sV (i 190) y 2)), some (vI (s)), some (vI (s / (i 190 3))), none]) rfl (by decide) rfl rfl ?_
              refine x_iconst 79 rfl ?_
              refine x_istore 80 (L' := [some (vR (some 189)), some (vI (y)), some (vI (x)), some (vI (sV (i 190) y 2)), some (vI (s)), some (vI (s / (i 190 3))), some (vI (0))]) rfl (by decide) rfl rfl ?_
              have loopL11 : ∀ (nz : Nat) (q : Int) (t : Int), (0 ≤ q ∧ q ≤ sV (i 190) y 2) → (t = s / i 190 3 + sumZ (fun k => gRows (i 190) k) q) → (sV (i 190) y 2 - q) < (nz : Int) → mX m_X9_seat 6 (qR i l (spAsk (anSeat y x (i 190)) (i 190) (i 189 2) (AP i) (AM i) (AK i) (i 193) (i 189 6) (i 189 7) (i 189 8))) 0 0 144 [some (vR (some 189)), some (vI (y)), some (vI (x)), some (vI (sV (i 190) y 2)), some (vI (s)), some (vI (t)), some (vI (q))] [] (st i l) := by
                intro nz
                induction nz with
                | zero => intro q t hq ht hz; exact absurd hz (by omega)
                | succ nz ihL11 =>
                  intro q t hq ht hzL11
                  refine x_iload 81 rfl rfl ?_
                  refine x_iload_n 82 rfl rfl ?_
                  refine x_icmp_ge 83 (tgt := 167) rfl (by decide) (by omega) (fun h12 => ?_) (fun h12 => ?_)
                  · have hmod := Int.emod_nonneg s (show i 190 3 ≠ 0 by omega)
                    have hmod2 := Int.emod_lt_of_pos s (show 0 < i 190 3 by omega)
                    refine x_iload 92 rfl rfl ?_
                    refine x_aload_n 93 rfl rfl ?_
                    refine x_getR 94 (z := 190) rfl fl_X9_7 (n_lt rfl) k_189 rfl r_189_0 ?_
                    refine x_iconst 95 rfl ?_
                    refine x_iald 96 (z := i 190 3) rfl (n_lt rfl) k_190 (by omega) rfl ?_
                    refine x_irem 97 (r := s % (i 190 3)) rfl (by omega) rfl ?_
                    refine x_istore 98 (L' := [some (vR (some 189)), some (vI (y)), some (vI (x)), some (vI (sV (i 190) y 2)), some (vI (s)), some (vI (t)), some (vI (s % (i 190 3)))]) rfl (by decide) rfl rfl ?_
                    refine x_iload_n 99 rfl rfl ?_
                    refine x_if_ne 100 (tgt := 187) rfl (by decide) (by omega) (fun h13 => ?_) (fun h13 => ?_)
                    · refine x_iload 103 rfl rfl ?_
                      refine x_iconst 104 rfl ?_
                      refine x_irem 105 (r := (s % (i 190 3)) % 2) rfl (by omega) rfl ?_
                      refine x_iconst 106 rfl ?_
                      refine x_icmp_ne 107 (tgt := 204) rfl (by decide) (by omega) (fun h14 => ?_) (fun h14 => ?_)
                      · refine x_iload 114 rfl rfl ?_
                        refine x_iconst 115 rfl ?_
                        refine x_idiv 116 (r := (s % (i 190 3)) / 2) rfl (by omega) rfl ?_
                        refine x_ineg 117 (r := -((s % (i 190 3)) / 2)) rfl rfl ?_
                        refine x_ret 118 (some (vI (-((s % (i 190 3)) / 2)))) rfl ⟨rfl, Or.inl rfl⟩ ⟨_, i, l, rfl, rfl, ?_⟩
                        first
                          | (exact rs_ask (z' := anSeat y x (i 190)) (by unfold anSeat; rw [if_neg (by omega), if_neg (by omega), if_pos (by omega), ht, hse, show q = sV (i 190) y 2 by omega, Int.add_comm]) (kA.rf i) rfl hF rfl)
                          | (exact rs_ask (z' := anSeat y x (i 190)) (by unfold anSeat; rw [if_neg (by omega), if_neg (by omega), if_neg (by omega), ← hse, if_pos (by omega)]; omega) (kA.rf i) rfl hF rfl)
                          | (exact rs_ask (z' := anSeat y x (i 190)) (by unfold anSeat; rw [if_neg (by omega), if_neg (by omega), if_neg (by omega), ← hse, if_neg (by omega)]) (kA.rf i) rfl hF rfl)
                      · refine x_iload 108 rfl rfl ?_
                        refine x_iconst 109 rfl ?_
                        refine x_idiv 110 (r := (s % (i 190 3)) / 2) rfl (by omega) rfl ?_
                        refine x_iconst 111 rfl ?_
                        refine x_iadd 112 (r := ((s % (i 190 3)) / 2) + 1) rfl rfl ?_
                        refine x_goto 113 (tgt := 209) rfl (by decide) ?_
                        refine x_ret 118 (some (vI (((s % (i 190 3)) / 2) + 1))) rfl ⟨rfl, Or.inl rfl⟩ ⟨_, i, l, rfl, rfl, ?_⟩
                        first
                          | (exact rs_ask (z' := anSeat y x (i 190)) (by unfold anSeat; rw [if_neg (by omega), if_neg (by omega), if_pos (by omega), ht, hse, show q = sV (i 190) y 2 by omega, Int.add_comm]) (kA.rf i) rfl hF rfl)
                          | (exact rs_ask (z' := anSeat y x (i 190)) (by unfold anSeat; rw [if_neg (by omega), if_neg (by omega), if_neg (by omega), ← hse, if_pos (by omega)]; omega) (kA.rf i) rfl hF rfl)
                          | (exact rs_ask (z' := anSeat y x (i 190)) (by unfold anSeat; rw [if_neg (by omega), if_neg (by omega), if_neg (by omega), ← hse, if_neg (by omega)]) (kA.rf i) rfl hF rfl)
                    · refine x_iload 101 rfl rfl ?_
                      refine x_goto 102 (tgt := 209) rfl (by decide) ?_
                      refine x_ret 118 (some (vI (t))) rfl ⟨rfl, Or.inl rfl⟩ ⟨_, i, l, rfl, rfl, ?_⟩
                      first
                        | (exact rs_ask (z' := anSeat y x (i 190)) (by unfold anSeat; rw [if_neg (by omega), if_neg (by omega), if_pos (by omega), ht, hse, show q = sV (i 190) y 2 by omega, Int.add_comm]) (kA.rf i) rfl hF rfl)
                        | (exact rs_ask (z' := anSeat y x (i 190)) (by unfold anSeat; rw [if_neg (by omega), if_neg (by omega), if_neg (by omega), ← hse, if_pos (by omega)]; omega) (kA.rf i) rfl hF rfl)
                        | (exact rs_ask (z' := anSeat y x (i 190)) (by unfold anSeat; rw [if_neg (by omega), if_neg (by omega), if_neg (by omega), ← hse, if_neg (by omega)]) (kA.rf i) rfl hF rfl)
                  · have hgr := gRows_bd hW q
                    refine x_iload 84 rfl rfl ?_
                    refine x_aload_n 85 rfl rfl ?_
                    refine x_iload 86 rfl rfl ?_
                    refine x_callV 87 m_X9_rows (r_rows hW (by omega)) rfl ok_X9_rows (n_lt rfl) k_189 rfl rfl ml_X9_206 im_X9_rows se_X9_rows rfl (by decide) rfl (Nat.le_of_ble_eq_true rfl) rfl rfl (fun v g q15 => ?_)
                    obtain ⟨rfl, rfl⟩ := q15
                    show mX m_X9_seat 6 _ 0 0 _ _ [vI (gRows (i 190) q), vI (t)] _
                    refine x_iadd 88 (r := t + (gRows (i 190) q)) rfl rfl ?_
                    refine x_istore 89 (L' := [some (vR (some 189)), some (vI (y)), some (vI (x)), some (vI (sV (i 190) y 2)), some (vI (s)), some (vI (t + (gRows (i 190) q))), some (vI (q))]) rfl (by decide) rfl rfl ?_
                    refine x_iinc 90 (L' := [some (vR (some 189)), some (vI (y)), some (vI (x)), some (vI (sV (i 190) y 2)), some (vI (s)), some (vI (t + (gRows (i 190) q))), some (vI (q + 1))]) rfl (by decide) rfl rfl rfl rfl ?_
                    refine x_goto 91 (tgt := 144) rfl (by decide) ?_
                    exact ihL11 (q + 1) (t + (gRows (i 190) q)) (by omega) (by rw [sumZ_s _ hq.1, ht, Int.add_assoc]) (by omega)
              exact loopL11 ((sV (i 190) y 2 - ((0))) + 1 : Int).toNat (0) (s / (i 190 3)) (by omega) ((Int.add_zero _).symm) (by omega)
            · have hfx : f k = if sV (i 190) k 2 = sV (i 190) y 2 ∧ (sV (i 190) k 1 < sV (i 190) y 1 ∨ (sV (i 190) k 1 = sV (i 190) y 1 ∧ k < y)) then 1 else 0 := by rw [hf]
              have hvk := hW.v hk.1 (show k < i 190 11 by omega)
              have hvk1 := hvk.2.1
              have hvk2 := hvk.2.2.1
              refine x_aload_n 31 rfl rfl ?_
              refine x_iload 32 rfl rfl ?_
              refine x_iconst 33 rfl ?_
              refine x_callV 34 m_X9_of (r_of (by omega) (by omega)) rfl ok_X9_of (n_lt rfl) k_189 rfl rfl ml_X9_72 im_X9_of se_X9_of rfl (by decide) rfl (Nat.le_of_ble_eq_true rfl) rfl rfl (fun v g q16 => ?_)
              obtain ⟨rfl, rfl⟩ := q16
              show mX m_X9_seat 6 _ 0 0 _ _ [vI (sV (i 190) k 1)] _
              refine x_aload_n 35 rfl rfl ?_
              refine x_iload_n 36 rfl rfl ?_
              refine x_iconst 37 rfl ?_
              refine x_callV 38 m_X9_of (r_of (by omega) (by omega)) rfl ok_X9_of (n_lt rfl) k_189 rfl rfl ml_X9_72 im_X9_of se_X9_of rfl (by decide) rfl (Nat.le_of_ble_eq_true rfl) rfl rfl (fun v g q17 => ?_)
              obtain ⟨rfl, rfl⟩ := q17
              show mX m_X9_seat 6 _ 0 0 _ _ [vI (sV (i 190) y 1), vI (sV (i 190) k 1)] _
              refine x_icmp_lt 39 (tgt := 91) rfl (by decide) (by omega) (fun h18 => ?_) (fun h18 => ?_)
              · refine x_iconst 52 rfl ?_
                refine x_goto 53 (tgt := 96) rfl (by decide) ?_
                refine x_istore 55 (L' := [some (vR (some 189)), some (vI (y)), some (vI (x)), some (vI (sV (i 190) y 2)), some (vI (s)), some (vI (k)), some (vI (1))]) rfl (by decide) rfl rfl ?_
                refine x_iload 56 rfl rfl ?_
                refine x_aload_n 57 rfl rfl ?_
                refine x_iload 58 rfl rfl ?_
                refine x_iconst 59 rfl ?_
                refine x_callV 60 m_X9_of (r_of (by omega) (by omega)) rfl ok_X9_of (n_lt rfl) k_189 rfl rfl ml_X9_72 im_X9_of se_X9_of rfl (by decide) rfl (Nat.le_of_ble_eq_true rfl) rfl rfl (fun v g q19 => ?_)
                obtain ⟨rfl, rfl⟩ := q19
                show mX m_X9_seat 6 _ 0 0 _ _ [vI (sV (i 190) k 2), vI (s)] _
                refine x_iload_n 61 rfl rfl ?_
                refine x_icmp_ne 62 (tgt := 120) rfl (by decide) (by omega) (fun h20 => ?_) (fun h20 => ?_)
                · refine x_iconst 67 rfl ?_
                  refine x_iadd 68 (r := s + 0) rfl rfl ?_
                  refine x_istore 69 (L' := [some (vR (some 189)), some (vI (y)), some (vI (x)), some (vI (sV (i 190) y 2)), some (vI (s + 0)), some (vI (k)), some (vI (1))]) rfl (by decide) rfl rfl ?_
                  refine x_iinc 70 (L' := [some (vR (some 189)), some (vI (y)), some (vI (x)), some (vI (sV (i 190) y 2)), some (vI (s + 0)), some (vI (k + 1)), some (vI (1))]) rfl (by decide) rfl rfl rfl rfl ?_
                  refine x_goto 71 (tgt := 41) rfl (by decide) ?_
                  refine x_dropL (L' := [some (vR (some 189)), some (vI (y)), some (vI (x)), some (vI (sV (i 190) y 2)), some (vI (s + 0)), some (vI (k + 1)), none]) ⟨rfl, ⟨rfl, ⟨rfl, ⟨rfl, ⟨rfl, ⟨rfl, True.intro⟩⟩⟩⟩⟩⟩ ?_
                  exact ihL9 (k + 1) (s + 0) (by omega) (by rw [sumZ_s f hk.1, hfx]; first | (rw [if_pos (by omega)]; omega) | (rw [if_neg (by omega)]; omega)) (by omega)
                · refine x_iload 63 rfl rfl ?_
                  refine x_if_eq 64 (tgt := 120) rfl (by decide) (by decide) (fun h21 => absurd h21 (by decide)) (fun h21 => ?_)
                  refine x_iconst 65 rfl ?_
                  refine x_goto 66 (tgt := 121) rfl (by decide) ?_
                  refine x_iadd 68 (r := s + 1) rfl rfl ?_
                  refine x_istore 69 (L' := [some (vR (some 189)), some (vI (y)), some (vI (x)), some (vI (sV (i 190) y 2)), some (vI (s + 1)), some (vI (k)), some (vI (1))]) rfl (by decide) rfl rfl ?_
                  refine x_iinc 70 (L' := [some (vR (some 189)), some (vI (y)), some (vI (x)), some (vI (sV (i 190) y 2)), some (vI (s + 1)), some (vI (k + 1)), some (vI (1))]) rfl (by decide) rfl rfl rfl rfl ?_
                  refine x_goto 71 (tgt := 41) rfl (by decide) ?_
                  refine x_dropL (L' := [some (vR (some 189)), some (vI (y)), some (vI (x)), some (vI (sV (i 190) y 2)), some (vI (s + 1)), some (vI (k + 1)), none]) ⟨rfl, ⟨rfl, ⟨rfl, ⟨rfl, ⟨rfl, ⟨rfl, True.intro⟩⟩⟩⟩⟩⟩ ?_
                  exact ihL9 (k + 1) (s + 1) (by omega) (by rw [sumZ_s f hk.1, hfx]; first | (rw [if_pos (by omega)]; omega) | (rw [if_neg (by omega)]; omega)) (by omega)
              · refine x_aload_n 40 rfl rfl ?_
                refine x_iload 41 rfl rfl ?_
                refine x_iconst 42 rfl ?_
                refine x_callV 43 m_X9_of (r_of (by omega) (by omega)) rfl ok_X9_of (n_lt rfl) k_189 rfl rfl ml_X9_72 im_X9_of se_X9_of rfl (by decide) rfl (Nat.le_of_ble_eq_true rfl) rfl rfl (fun v g q22 => ?_)
                obtain ⟨rfl, rfl⟩ := q22
                show mX m_X9_seat 6 _ 0 0 _ _ [vI (sV (i 190) k 1)] _
                refine x_aload_n 44 rfl rfl ?_
                refine x_iload_n 45 rfl rfl ?_
                refine x_iconst 46 rfl ?_
                refine x_callV 47 m_X9_of (r_of (by omega) (by omega)) rfl ok_X9_of (n_lt rfl) k_189 rfl rfl ml_X9_72 im_X9_of se_X9_of rfl (by decide) rfl (Nat.le_of_ble_eq_true rfl) rfl rfl (fun v g q23 => ?_)
                obtain ⟨rfl, rfl⟩ := q23
                show mX m_X9_seat 6 _ 0 0 _ _ [vI (sV (i 190) y 1), vI (sV (i 190) k 1)] _
                refine x_icmp_ne 48 (tgt := 95) rfl (by decide) (by omega) (fun h24 => ?_) (fun h24 => ?_)
                · refine x_iconst 54 rfl ?_
                  refine x_istore 55 (L' := [some (vR (some 189)), some (vI (y)), some (vI (x)), some (vI (sV (i 190) y 2)), some (vI (s)), some (vI (k)), some (vI (0))]) rfl (by decide) rfl rfl ?_
                  refine x_iload 56 rfl rfl ?_
                  refine x_aload_n 57 rfl rfl ?_
                  refine x_iload 58 rfl rfl ?_
                  refine x_iconst 59 rfl ?_
                  refine x_callV 60 m_X9_of (r_of (by omega) (by omega)) rfl ok_X9_of (n_lt rfl) k_189 rfl rfl ml_X9_72 im_X9_of se_X9_of rfl (by decide) rfl (Nat.le_of_ble_eq_true rfl) rfl rfl (fun v g q25 => ?_)
                  obtain ⟨rfl, rfl⟩ := q25
                  show mX m_X9_seat 6 _ 0 0 _ _ [vI (sV (i 190) k 2), vI (s)] _
                  refine x_iload_n 61 rfl rfl ?_
                  refine x_icmp_ne 62 (tgt := 120) rfl (by decide) (by omega) (fun h26 => ?_) (fun h26 => ?_)
                  · refine x_iconst 67 rfl ?_
                    refine x_iadd 68 (r := s + 0) rfl rfl ?_
                    refine x_istore 69 (L' := [some (vR (some 189)), some (vI (y)), some (vI (x)), some (vI (sV (i 190) y 2)), some (vI (s + 0)), some (vI (k)), some (vI (0))]) rfl (by decide) rfl rfl ?_
                    refine x_iinc 70 (L' := [some (vR (some 189)), some (vI (y)), some (vI (x)), some (vI (sV (i 190) y 2)), some (vI (s + 0)), some (vI (k + 1)), some (vI (0))]) rfl (by decide) rfl rfl rfl rfl ?_
                    refine x_goto 71 (tgt := 41) rfl (by decide) ?_
                    refine x_dropL (L' := [some (vR (some 189)), some (vI (y)), some (vI (x)), some (vI (sV (i 190) y 2)), some (vI (s + 0)), some (vI (k + 1)), none]) ⟨rfl, ⟨rfl, ⟨rfl, ⟨rfl, ⟨rfl, ⟨rfl, True.intro⟩⟩⟩⟩⟩⟩ ?_
                    exact ihL9 (k + 1) (s + 0) (by omega) (by rw [sumZ_s f hk.1, hfx]; first | (rw [if_pos (by omega)]; omega) | (rw [if_neg (by omega)]; omega)) (by omega)
                  · refine x_iload 63 rfl rfl ?_
                    refine x_if_eq 64 (tgt := 120) rfl (by decide) (by decide) (fun h27 => ?_) (fun h27 => absurd h27 (by decide))
                    refine x_iconst 67 rfl ?_
                    refine x_iadd 68 (r := s + 0) rfl rfl ?_
                    refine x_istore 69 (L' := [some (vR (some 189)), some (vI (y)), some (vI (x)), some (vI (sV (i 190) y 2)), some (vI (s + 0)), some (vI (k)), some (vI (0))]) rfl (by decide) rfl rfl ?_
                    refine x_iinc 70 (L' := [some (vR (some 189)), some (vI (y)), some (vI (x)), some (vI (sV (i 190) y 2)), some (vI (s + 0)), some (vI (k + 1)), some (vI (0))]) rfl (by decide) rfl rfl rfl rfl ?_
                    refine x_goto 71 (tgt := 41) rfl (by decide) ?_
                    refine x_dropL (L' := [some (vR (some 189)), some (vI (y)), some (vI (x)), some (vI (sV (i 190) y 2)), some (vI (s + 0)), some (vI (k + 1)), none]) ⟨rfl, ⟨rfl, ⟨rfl, ⟨rfl, ⟨rfl, ⟨rfl, True.intro⟩⟩⟩⟩⟩⟩ ?_
                    exact ihL9 (k + 1) (s + 0) (by omega) (by rw [sumZ_s f hk.1, hfx]; first | (rw [if_pos (by omega)]; omega) | (rw [if_neg (by omega)]; omega)) (by omega)
                · refine x_iload 49 rfl rfl ?_
                  refine x_iload_n 50 rfl rfl ?_
                  refine x_icmp_ge 51 (tgt := 95) rfl (by decide) (by omega) (fun h28 => ?_) (fun h28 => ?_)
                  · refine x_iconst 54 rfl ?_
                    refine x_istore 55 (L' := [some (vR (some 189)), some (vI (y)), some (vI (x)), some (vI (sV (i 190) y 2)), some (vI (s)), some (vI (k)), some (vI (0))]) rfl (by decide) rfl rfl ?_
                    refine x_iload 56 rfl rfl ?_
                    refine x_aload_n 57 rfl rfl ?_
                    refine x_iload 58 rfl rfl ?_
                    refine x_iconst 59 rfl ?_
                    refine x_callV 60 m_X9_of (r_of (by omega) (by omega)) rfl ok_X9_of (n_lt rfl) k_189 rfl rfl ml_X9_72 im_X9_of se_X9_of rfl (by decide) rfl (Nat.le_of_ble_eq_true rfl) rfl rfl (fun v g q29 => ?_)
                    obtain ⟨rfl, rfl⟩ := q29
                    show mX m_X9_seat 6 _ 0 0 _ _ [vI (sV (i 190) k 2), vI (s)] _
                    refine x_iload_n 61 rfl rfl ?_
                    refine x_icmp_ne 62 (tgt := 120) rfl (by decide) (by omega) (fun h30 => ?_) (fun h30 => ?_)
                    · refine x_iconst 67 rfl ?_
                      refine x_iadd 68 (r := s + 0) rfl rfl ?_
                      refine x_istore 69 (L' := [some (vR (some 189)), some (vI (y)), some (vI (x)), some (vI (sV (i 190) y 2)), some (vI (s + 0)), some (vI (k)), some (vI (0))]) rfl (by decide) rfl rfl ?_
                      refine x_iinc 70 (L' := [some (vR (some 189)), some (vI (y)), some (vI (x)), some (vI (sV (i 190) y 2)), some (vI (s + 0)), some (vI (k + 1)), some (vI (0))]) rfl (by decide) rfl rfl rfl rfl ?_
                      refine x_goto 71 (tgt := 41) rfl (by decide) ?_
                      refine x_dropL (L' := [some (vR (some 189)), some (vI (y)), some (vI (x)), some (vI (sV (i 190) y 2)), some (vI (s + 0)), some (vI (k + 1)), none]) ⟨rfl, ⟨rfl, ⟨rfl, ⟨rfl, ⟨rfl, ⟨rfl, True.intro⟩⟩⟩⟩⟩⟩ ?_
                      exact ihL9 (k + 1) (s + 0) (by omega) (by rw [sumZ_s f hk.1, hfx]; first | (rw [if_pos (by omega)]; omega) | (rw [if_neg (by omega)]; omega)) (by omega)
                    · refine x_iload 63 rfl rfl ?_
                      refine x_if_eq 64 (tgt := 120) rfl (by decide) (by decide) (fun h31 => ?_) (fun h31 => absurd h31 (by decide))
                      refine x_iconst 67 rfl ?_
                      refine x_iadd 68 (r := s + 0) rfl rfl ?_
                      refine x_istore 69 (L' := [some (vR (some 189)), some (vI (y)), some (vI (x)), some (vI (sV (i 190) y 2)), some (vI (s + 0)), some (vI (k)), some (vI (0))]) rfl (by decide) rfl rfl ?_
                      refine x_iinc 70 (L' := [some (vR (some 189)), some (vI (y)), some (vI (x)), some (vI (sV (i 190) y 2)), some (vI (s + 0)), some (vI (k + 1)), some (vI (0))]) rfl (by decide) rfl rfl rfl rfl ?_
                      refine x_goto 71 (tgt := 41) rfl (by decide) ?_
                      refine x_dropL (L' := [some (vR (some 189)), some (vI (y)), some (vI (x)), some (vI (sV (i 190) y 2)), some (vI (s + 0)), some (vI (k + 1)), none]) ⟨rfl, ⟨rfl, ⟨rfl, ⟨rfl, ⟨rfl, ⟨rfl, True.intro⟩⟩⟩⟩⟩⟩ ?_
                      exact ihL9 (k + 1) (s + 0) (by omega) (by rw [sumZ_s f hk.1, hfx]; first | (rw [if_pos (by omega)]; omega) | (rw [if_neg (by omega)]; omega)) (by omega)
                  · refine x_iconst 52 rfl ?_
                    refine x_goto 53 (tgt := 96) rfl (by decide) ?_
                    refine x_istore 55 (L' := [some (vR (some 189)), some (vI (y)), some (vI (x)), some (vI (sV (i 190) y 2)), some (vI (s)), some (vI (k)), some (vI (1))]) rfl (by decide) rfl rfl ?_
                    refine x_iload 56 rfl rfl ?_
                    refine x_aload_n 57 rfl rfl ?_
                    refine x_iload 58 rfl rfl ?_
                    refine x_iconst 59 rfl ?_
                    refine x_callV 60 m_X9_of (r_of (by omega) (by omega)) rfl ok_X9_of (n_lt rfl) k_189 rfl rfl ml_X9_72 im_X9_of se_X9_of rfl (by decide) rfl (Nat.le_of_ble_eq_true rfl) rfl rfl (fun v g q32 => ?_)
                    obtain ⟨rfl, rfl⟩ := q32
                    show mX m_X9_seat 6 _ 0 0 _ _ [vI (sV (i 190) k 2), vI (s)] _
                    refine x_iload_n 61 rfl rfl ?_
                    refine x_icmp_ne 62 (tgt := 120) rfl (by decide) (by omega) (fun h33 => ?_) (fun h33 => ?_)
                    · refine x_iconst 67 rfl ?_
                      refine x_iadd 68 (r := s + 0) rfl rfl ?_
                      refine x_istore 69 (L' := [some (vR (some 189)), some (vI (y)), some (vI (x)), some (vI (sV (i 190) y 2)), some (vI (s + 0)), some (vI (k)), some (vI (1))]) rfl (by decide) rfl rfl ?_
                      refine x_iinc 70 (L' := [some (vR (some 189)), some (vI (y)), some (vI (x)), some (vI (sV (i 190) y 2)), some (vI (s + 0)), some (vI (k + 1)), some (vI (1))]) rfl (by decide) rfl rfl rfl rfl ?_
                      refine x_goto 71 (tgt := 41) rfl (by decide) ?_
                      refine x_dropL (L' := [some (vR (some 189)), some (vI (y)), some (vI (x)), some (vI (sV (i 190) y 2)), some (vI (s + 0)), some (vI (k + 1)), none]) ⟨rfl, ⟨rfl, ⟨rfl, ⟨rfl, ⟨rfl, ⟨rfl, True.intro⟩⟩⟩⟩⟩⟩ ?_
                      exact ihL9 (k + 1) (s + 0) (by omega) (by rw [sumZ_s f hk.1, hfx]; first | (rw [if_pos (by omega)]; omega) | (rw [if_neg (by omega)]; omega)) (by omega)
                    · refine x_iload 63 rfl rfl ?_
                      refine x_if_eq 64 (tgt := 120) rfl (by decide) (by decide) (fun h34 => absurd h34 (by decide)) (fun h34 => ?_)
                      refine x_iconst 65 rfl ?_
                      refine x_goto 66 (tgt := 121) rfl (by decide) ?_
                      refine x_iadd 68 (r := s + 1) rfl rfl ?_
                      refine x_istore 69 (L' := [some (vR (some 189)), some (vI (y)), some (vI (x)), some (vI (sV (i 190) y 2)), some (vI (s + 1)), some (vI (k)), some (vI (1))]) rfl (by decide) rfl rfl ?_
                      refine x_iinc 70 (L' := [some (vR (some 189)), some (vI (y)), some (vI (x)), some (vI (sV (i 190) y 2)), some (vI (s + 1)), some (vI (k + 1)), some (vI (1))]) rfl (by decide) rfl rfl rfl rfl ?_
                      refine x_goto 71 (tgt := 41) rfl (by decide) ?_
                      refine x_dropL (L' := [some (vR (some 189)), some (vI (y)), some (vI (x)), some (vI (sV (i 190) y 2)), some (vI (s + 1)), some (vI (k + 1)), none]) ⟨rfl, ⟨rfl, ⟨rfl, ⟨rfl, ⟨rfl, ⟨rfl, True.intro⟩⟩⟩⟩⟩⟩ ?_
                      exact ihL9 (k + 1) (s + 1) (by omega) (by rw [sumZ_s f hk.1, hfx]; first | (rw [if_pos (by omega)]; omega) | (rw [if_neg (by omega)]; omega)) (by omega)
        exact loopL9 ((i 190 11 - ((0))) + 1 : Int).toNat (0) (0) (by omega) (rfl) (by omega)
      · refine x_bipush 19 rfl (by decide) ?_
        refine x_ret 20 (some (vI ((-9)))) rfl ⟨rfl, Or.inl rfl⟩ ⟨_, i, l, rfl, rfl, ?_⟩
        exact rs_ask (z' := anSeat y x (i 190)) (by unfold anSeat; rw [if_neg (by omega), if_pos (by omega)]) (kA.rf i) (rfl) hF rfl
    · show mX m_X9_seat 6 _ 0 0 _ _ [vI (0)] _
      refine x_if_ne 8 (tgt := 19) rfl (by decide) (by decide) (fun h35 => absurd h35 (by decide)) (fun h35 => ?_)
      refine x_iconst 9 rfl ?_
      refine x_ret 10 (some (vI ((-1)))) rfl ⟨rfl, Or.inl rfl⟩ ⟨_, i, l, rfl, rfl, ?_⟩
      exact rs_ask (z' := anSeat y x (i 190)) (by unfold anSeat; rw [if_pos (by omega)]) (kA.rf i) (rfl) hF rfl
  · show mX m_X9_seat 6 _ 0 0 _ _ [vI (0)] _
    refine x_if_eq 3 (tgt := 17) rfl (by decide) (by decide) (fun h36 => ?_) (fun h36 => absurd h36 (by decide))
    refine x_iconst 9 rfl ?_
    refine x_ret 10 (some (vI ((-1)))) rfl ⟨rfl, Or.inl rfl⟩ ⟨_, i, l, rfl, rfl, ?_⟩
    exact rs_ask (z' := anSeat y x (i 190)) (by unfold anSeat; rw [if_pos (by omega)]) (kA.rf i) (rfl) hF rfl
set_option maxRecDepth 20000 in
set_option maxHeartbeats 2000000 in
theorem r_b_solo {i : Nat → Int → Int} {l : Nat → Int → BitVec 64} (hB : okB (i 190) (i 189 2) (AP i) (AM i) (AK i) (i 193) (i 189 6)) (hF : 0 ≤ i 189 4 ∧ i 189 4 ≤ 3) {h : Int} (hh : -2147483648 ≤ h ∧ h < 2147483648) {p : Int} (hp : -2147483648 ≤ p ∧ p < 2147483648) : mCtr m_X9_solo 4 0 0 [vR (some 189), vI (h), vI (p)] (st i l) (qR i l (spAsk (anSolo h p (i 190)) (i 190) (i 189 2) (AP i) (AM i) (AK i) (i 193) (i 189 6) (i 189 7) (i 189 8))) := by
  refine mCtr_of pl_X9 dc_X9_solo (Nat.le_of_ble_eq_true rfl) rfl ?_
  show mX m_X9_solo 4 _ 0 0 0 [some (vR (some 189)), some (vI (h)), some (vI (p))] [] (st i l)
  have hW := hB.1
  have hN := hW.n
  have hPN := hB.2.1
  have hTN := hB.2.2.2.2.1
  refine x_iload_n 0 rfl rfl ?_
  refine x_iconst 1 rfl ?_
  refine x_aload_n 2 rfl rfl ?_
  refine x_getR 3 (z := 190) rfl fl_X9_7 (n_lt rfl) k_189 rfl r_189_0 ?_
  refine x_iconst 4 rfl ?_
  refine x_iald 5 (z := i 190 4) rfl (n_lt rfl) k_190 (by omega) rfl ?_
  refine x_iconst 6 rfl ?_
  refine x_isub 7 (r := (i 190 4) - 1) rfl rfl ?_
  refine x_callS 8 m_X9_isIn (r_isIn (by omega) (by omega) (by omega)) rfl ok_X9_isIn ml_X9_62 st_X9_isIn rfl (by decide) rfl (Nat.le_of_ble_eq_true rfl) rfl rfl (fun v g q1 => ?_)
  rcases q1 with ⟨rfl, ⟨h2, rfl⟩ | ⟨h2, rfl⟩⟩
  · show mX m_X9_solo 4 _ 0 0 _ _ [vI (1)] _
    refine x_if_eq 9 (tgt := 40) rfl (by decide) (by decide) (fun h3 => absurd h3 (by decide)) (fun h3 => ?_)
    refine x_iload_n 10 rfl rfl ?_
    refine x_callS 11 m_X9_isPart (r_isPart (by omega)) rfl ok_X9_isPart ml_X9_194 st_X9_isPart rfl (by decide) rfl (Nat.le_of_ble_eq_true rfl) rfl rfl (fun v g q4 => ?_)
    rcases q4 with ⟨rfl, ⟨h5, rfl⟩ | ⟨h5, rfl⟩⟩
    · show mX m_X9_solo 4 _ 0 0 _ _ [vI (1)] _
      refine x_if_eq 12 (tgt := 40) rfl (by decide) (by decide) (fun h6 => absurd h6 (by decide)) (fun h6 => ?_)
      refine x_aload_n 13 rfl rfl ?_
      refine x_getR 14 (z := 190) rfl fl_X9_7 (n_lt rfl) k_189 rfl r_189_0 ?_
      refine x_sipush 15 rfl (by decide) ?_
      refine x_iconst 16 rfl ?_
      refine x_iload_n 17 rfl rfl ?_
      refine x_imul 18 (r := 4 * h) rfl rfl ?_
      refine x_iadd 19 (r := 492 + (4 * h)) rfl rfl ?_
      refine x_iload_n 20 rfl rfl ?_
      refine x_iadd 21 (r := (492 + (4 * h)) + p) rfl rfl ?_
      refine x_iald 22 (z := i 190 ((492 + (4 * h)) + p)) rfl (n_lt rfl) k_190 (by omega) rfl ?_
      refine x_goto 23 (tgt := 41) rfl (by decide) ?_
      refine x_ret 25 (some (vI (i 190 ((492 + (4 * h)) + p)))) rfl ⟨rfl, Or.inl rfl⟩ ⟨_, i, l, rfl, rfl, ?_⟩
      first
        | (exact rs_ask (z' := anSolo h p (i 190)) (by unfold anSolo; rw [if_pos (by omega)]) (kA.rf i) rfl hF rfl)
        | (exact rs_ask (z' := anSolo h p (i 190)) (by unfold anSolo; rw [if_neg (by omega)]; exact congrS (by omega)) (kA.rf i) rfl hF rfl)
    · show mX m_X9_solo 4 _ 0 0 _ _ [vI (0)] _
      refine x_if_eq 12 (tgt := 40) rfl (by decide) (by decide) (fun h7 => ?_) (fun h7 => absurd h7 (by decide))
      refine x_iconst 24 rfl ?_
      refine x_ret 25 (some (vI ((-1)))) rfl ⟨rfl, Or.inl rfl⟩ ⟨_, i, l, rfl, rfl, ?_⟩
      first
        | (exact rs_ask (z' := anSolo h p (i 190)) (by unfold anSolo; rw [if_pos (by omega)]) (kA.rf i) rfl hF rfl)
        | (exact rs_ask (z' := anSolo h p (i 190)) (by unfold anSolo; rw [if_neg (by omega)]; exact congrS (by omega)) (kA.rf i) rfl hF rfl)
  · show mX m_X9_solo 4 _ 0 0 _ _ [vI (0)] _
    refine x_if_eq 9 (tgt := 40) rfl (by decide) (by decide) (fun h8 => ?_) (fun h8 => absurd h8 (by decide))
    refine x_iconst 24 rfl ?_
    refine x_ret 25 (some (vI ((-1)))) rfl ⟨rfl, Or.inl rfl⟩ ⟨_, i, l, rfl, rfl, ?_⟩
    first
      | (exact rs_ask (z' := anSolo h p (i 190)) (by unfold anSolo; rw [if_pos (by omega)]) (kA.rf i) rfl hF rfl)
      | (exact rs_ask (z' := anSolo h p (i 190)) (by unfold anSolo; rw [if_neg (by omega)]; exact congrS (by omega)) (kA.rf i) rfl hF rfl)
set_option maxRecDepth 20000 in
set_option maxHeartbeats 2000000 in
theorem r_b_standIn {i : Nat → Int → Int} {l : Nat → Int → BitVec 64} (hB : okB (i 190) (i 189 2) (AP i) (AM i) (AK i) (i 193) (i 189 6)) (hF : 0 ≤ i 189 4 ∧ i 189 4 ≤ 3) {y : Int} (hy : -2147483648 ≤ y ∧ y < 2147483648) : mCtr m_X9_standIn 8 0 0 [vR (some 189), vI (y)] (st i l) (qR i l (spAsk (anStand y (i 190)) (i 190) (i 189 2) (AP i) (AM i) (AK i) (i 193) (i 189 6) (i 189 7) (i 189 8))) := by
  refine mCtr_of pl_X9 dc_X9_standIn (Nat.le_of_ble_eq_true rfl) rfl ?_
  show mX m_X9_standIn 8 _ 0 0 0 [some (vR (some 189)), some (vI (y))] [] (st i l)
  have hW := hB.1
  have hN := hW.n
  have hPN := hB.2.1
  have hTN := hB.2.2.2.2.1
  refine x_aload_n 0 rfl rfl ?_
  refine x_iload_n 1 rfl rfl ?_
  refine x_callV 2 m_X9_isSinger (r_isSinger (by omega) (by omega)) rfl ok_X9_isSinger (n_lt rfl) k_189 rfl rfl ml_X9_117 im_X9_isSinger se_X9_isSinger rfl (by decide) rfl (Nat.le_of_ble_eq_true rfl) rfl rfl (fun v g q1 => ?_)
  rcases q1 with ⟨rfl, ⟨h2, rfl⟩ | ⟨h2, rfl⟩⟩
  · show mX m_X9_standIn 8 _ 0 0 _ _ [vI (1)] _
    refine x_if_ne 3 (tgt := 10) rfl (by decide) (by decide) (fun h3 => ?_) (fun h3 => absurd h3 (by decide))
    refine x_aload_n 6 rfl rfl ?_
    refine x_callV 7 m_X9_findStandIns (r_findStandIns hW) rfl ok_X9_findStandIns (n_lt rfl) k_189 rfl rfl ml_X9_127 im_X9_findStandIns se_X9_findStandIns rfl (by decide) rfl (Nat.le_of_ble_eq_true rfl) rfl rfl (fun v g q4 => ?_)
    obtain ⟨rfl, i5, li5, rfl, hi5⟩ := q4
    obtain ⟨hEi5, hi5⟩ := hi5
    have hEi5 := hEi5.symm
    subst hEi5
    show mX m_X9_standIn 8 _ 0 0 _ _ [] _
    obtain ⟨hf1, hs1⟩ := hi5
    have hkf : kA i i5 := fun a b q => hf1 a b (by omega) (by omega) (by omega)
    have f190 : i5 190 = i 190 := by funext b; exact hf1 190 b (by decide) (by decide) (by omega)
    have e198 : i5 198 y = (plT (i 190)).1 y := by rw [← hs1]; show _ = (if 0 ≤ y ∧ y < 10 then _ else _); rw [if_pos (by omega)]
    refine x_aload_n 8 rfl rfl ?_
    refine x_getR 9 (z := 198) rfl fl_X9_41 (n_lt rfl) k_189 rfl r_189_17 ?_
    refine x_iload_n 10 rfl rfl ?_
    refine x_iald 11 (z := i5 198 y) rfl (n_lt rfl) k_198 (by omega) rfl ?_
    refine x_ret 12 (some (vI (i5 198 y))) rfl ⟨rfl, Or.inl rfl⟩ ⟨_, i5, l, rfl, rfl, ?_⟩
    exact rs_ask (z' := anStand y (i 190)) (by unfold anStand; rw [if_neg (by omega)]; exact e198) (hkf) (f190) hF rfl
  · show mX m_X9_standIn 8 _ 0 0 _ _ [vI (0)] _
    refine x_if_ne 3 (tgt := 10) rfl (by decide) (by decide) (fun h6 => absurd h6 (by decide)) (fun h6 => ?_)
    refine x_iconst 4 rfl ?_
    refine x_ret 5 (some (vI ((-1)))) rfl ⟨rfl, Or.inl rfl⟩ ⟨_, i, l, rfl, rfl, ?_⟩
    exact rs_ask (z' := anStand y (i 190)) (by unfold anStand; rw [if_pos (by omega)]) (kA.rf i) (rfl) hF rfl
set_option maxRecDepth 20000 in
set_option maxHeartbeats 2000000 in
theorem r_b_passedOver {i : Nat → Int → Int} {l : Nat → Int → BitVec 64} (hB : okB (i 190) (i 189 2) (AP i) (AM i) (AK i) (i 193) (i 189 6)) (hF : 0 ≤ i 189 4 ∧ i 189 4 ≤ 3) {y : Int} (hy : -2147483648 ≤ y ∧ y < 2147483648) : mCtr m_X9_passedOver 9 0 0 [vR (some 189), vI (y)] (st i l) (qR i l (spAsk (anPassed y (i 190)) (i 190) (i 189 2) (AP i) (AM i) (AK i) (i 193) (i 189 6) (i 189 7) (i 189 8))) := by
  refine mCtr_of pl_X9 dc_X9_passedOver (Nat.le_of_ble_eq_true rfl) rfl ?_
  show mX m_X9_passedOver 9 _ 0 0 0 [some (vR (some 189)), some (vI (y)), none] [] (st i l)
  have hW := hB.1
  have hN := hW.n
  have hPN := hB.2.1
  have hTN := hB.2.2.2.2.1
  refine x_aload_n 0 rfl rfl ?_
  refine x_iload_n 1 rfl rfl ?_
  refine x_callV 2 m_X9_isSinger (r_isSinger (by omega) (by omega)) rfl ok_X9_isSinger (n_lt rfl) k_189 rfl rfl ml_X9_117 im_X9_isSinger se_X9_isSinger rfl (by decide) rfl (Nat.le_of_ble_eq_true rfl) rfl rfl (fun v g q1 => ?_)
  rcases q1 with ⟨rfl, ⟨h2, rfl⟩ | ⟨h2, rfl⟩⟩
  · show mX m_X9_passedOver 9 _ 0 0 _ _ [vI (1)] _
    refine x_if_ne 3 (tgt := 10) rfl (by decide) (by decide) (fun h3 => ?_) (fun h3 => absurd h3 (by decide))
    refine x_aload_n 6 rfl rfl ?_
    refine x_callV 7 m_X9_findSolos (r_findSolos hW) rfl ok_X9_findSolos (n_lt rfl) k_189 rfl rfl ml_X9_136 im_X9_findSolos se_X9_findSolos rfl (by decide) rfl (Nat.le_of_ble_eq_true rfl) rfl rfl (fun v g q4 => ?_)
    obtain ⟨rfl, i5, li5, rfl, hi5⟩ := q4
    obtain ⟨hEi5, hi5⟩ := hi5
    have hEi5 := hEi5.symm
    subst hEi5
    show mX m_X9_passedOver 9 _ 0 0 _ _ [] _
    obtain ⟨hf1, hs1, hso⟩ := hi5
    have hkf : kA i i5 := fun a b q => hf1 a b (by omega) (by omega) (by omega) (by omega)
    have f190 : i5 190 = i 190 := by funext b; exact hf1 190 b (by decide) (by decide) (by decide) (by omega)
    have e198 : i5 198 y = (plT (i 190)).1 y := by rw [← hs1]; show _ = (if 0 ≤ y ∧ y < 10 then _ else _); rw [if_pos (by omega)]
    have hpt := plT_sb (i 190) y
    have hvy := hW.v (s := y) (by omega) (by omega)
    have hvy2 := hvy.2.2.1
    have hvy3 := hvy.2.2.2.1
    have ev2 : sV (i5 190) y 2 = sV (i 190) y 2 := by rw [f190]
    have ev3 : sV (i5 190) y 3 = sV (i 190) y 3 := by rw [f190]
    have hWf : okW (i5 190) := by rw [f190]; exact hW
    have f11 : i5 190 11 = i 190 11 := by rw [f190]
    refine x_aload_n 8 rfl rfl ?_
    refine x_iload_n 9 rfl rfl ?_
    refine x_iconst 10 rfl ?_
    refine x_callV 11 m_X9_of (r_of (by omega) (by omega)) rfl ok_X9_of (n_lt rfl) k_189 rfl rfl ml_X9_72 im_X9_of se_X9_of rfl (by decide) rfl (Nat.le_of_ble_eq_true rfl) rfl rfl (fun v g q6 => ?_)
    obtain ⟨rfl, rfl⟩ := q6
    show mX m_X9_passedOver 9 _ 0 0 _ _ [vI (sV (i5 190) y 2)] _
    refine x_istore_n 12 (L' := [some (vR (some 189)), some (vI (y)), some (vI (sV (i5 190) y 2))]) rfl (by decide) rfl rfl ?_
    refine x_iload_n 13 rfl rfl ?_
    refine x_bipush 14 rfl (by decide) ?_
    refine x_icmp_ne 15 (tgt := 29) rfl (by decide) (by omega) (fun h7 => ?_) (fun h7 => ?_)
    · refine x_aload_n 18 rfl rfl ?_
      refine x_iload_n 19 rfl rfl ?_
      refine x_iconst 20 rfl ?_
      refine x_callV 21 m_X9_of (r_of (by omega) (by omega)) rfl ok_X9_of (n_lt rfl) k_189 rfl rfl ml_X9_72 im_X9_of se_X9_of rfl (by decide) rfl (Nat.le_of_ble_eq_true rfl) rfl rfl (fun v g q8 => ?_)
      obtain ⟨rfl, rfl⟩ := q8
      show mX m_X9_passedOver 9 _ 0 0 _ _ [vI (sV (i5 190) y 3)] _
      refine x_if_ne 22 (tgt := 40) rfl (by decide) (by omega) (fun h9 => ?_) (fun h9 => ?_)
      · refine x_aload_n 25 rfl rfl ?_
        refine x_getR 26 (z := 198) rfl fl_X9_41 (n_lt rfl) k_189 rfl r_189_17 ?_
        refine x_iload_n 27 rfl rfl ?_
        refine x_iald 28 (z := i5 198 y) rfl (n_lt rfl) k_198 (by omega) rfl ?_
        refine x_bipush 29 rfl (by decide) ?_
        refine x_icmp_eq 30 (tgt := 53) rfl (by decide) (by omega) (fun h10 => ?_) (fun h10 => ?_)
        · refine x_aload_n 33 rfl rfl ?_
          refine x_iload_n 34 rfl rfl ?_
          refine x_callV 35 m_X9_isRested (r_isRested hWf (by omega)) rfl ok_X9_isRested (n_lt rfl) k_189 rfl rfl ml_X9_130 im_X9_isRested se_X9_isRested rfl (by decide) rfl (Nat.le_of_ble_eq_true rfl) rfl rfl (fun v g q11 => ?_)
          rcases q11 with ⟨rfl, ⟨h12, rfl⟩ | ⟨h12, rfl⟩⟩
          · show mX m_X9_passedOver 9 _ 0 0 _ _ [vI (1)] _
            have hrs := h12
            rw [f190] at hrs
            refine x_if_ne 36 (tgt := 65) rfl (by decide) (by decide) (fun h13 => ?_) (fun h13 => absurd h13 (by decide))
            have e200 := hso (sV (i 190) y 2) (by omega) (by omega)
            rw [← ev2] at e200
            have hpl := plS_bd (i 190) (sV (i 190) y 2) hN.1.1
            rw [← ev2] at hpl
            refine x_aload_n 39 rfl rfl ?_
            refine x_getR 40 (z := 200) rfl fl_X9_47 (n_lt rfl) k_189 rfl r_189_19 ?_
            refine x_iload_n 41 rfl rfl ?_
            refine x_iald 42 (z := i5 200 (sV (i5 190) y 2)) rfl (n_lt rfl) k_200 (by omega) rfl ?_
            refine x_iload_n 43 rfl rfl ?_
            refine x_icmp_ne 44 (tgt := 79) rfl (by decide) (by omega) (fun h14 => ?_) (fun h14 => ?_)
            · refine x_iconst 47 rfl ?_
              refine x_ret 48 (some (vI (5))) rfl ⟨rfl, Or.inl rfl⟩ ⟨_, i5, l, rfl, rfl, ?_⟩
              first
                | (exact rs_ask (z' := anPassed y (i 190)) (by unfold anPassed; rw [if_neg (by omega), if_neg (by omega), if_neg (by omega), if_neg (by omega), if_pos hrs]) hkf f190 hF rfl)
                | (exact rs_ask (z' := anPassed y (i 190)) (by unfold anPassed; rw [if_neg (by omega), if_neg (by omega), if_neg (by omega), if_neg (by omega), if_neg (Classical.not_not.mpr hrs), ← ev2, ← e200, if_pos (by omega)]) hkf f190 hF rfl)
                | (exact rs_ask (z' := anPassed y (i 190)) (by unfold anPassed; rw [if_neg (by omega), if_neg (by omega), if_neg (by omega), if_neg (by omega), if_neg (Classical.not_not.mpr hrs), ← ev2, ← e200, if_neg (by omega)]) hkf f190 hF rfl)
            · refine x_iconst 45 rfl ?_
              refine x_goto 46 (tgt := 80) rfl (by decide) ?_
              refine x_ret 48 (some (vI (0))) rfl ⟨rfl, Or.inl rfl⟩ ⟨_, i5, l, rfl, rfl, ?_⟩
              first
                | (exact rs_ask (z' := anPassed y (i 190)) (by unfold anPassed; rw [if_neg (by omega), if_neg (by omega), if_neg (by omega), if_neg (by omega), if_pos hrs]) hkf f190 hF rfl)
                | (exact rs_ask (z' := anPassed y (i 190)) (by unfold anPassed; rw [if_neg (by omega), if_neg (by omega), if_neg (by omega), if_neg (by omega), if_neg (Classical.not_not.mpr hrs), ← ev2, ← e200, if_pos (by omega)]) hkf f190 hF rfl)
                | (exact rs_ask (z' := anPassed y (i 190)) (by unfold anPassed; rw [if_neg (by omega), if_neg (by omega), if_neg (by omega), if_neg (by omega), if_neg (Classical.not_not.mpr hrs), ← ev2, ← e200, if_neg (by omega)]) hkf f190 hF rfl)
          · show mX m_X9_passedOver 9 _ 0 0 _ _ [vI (0)] _
            have hrs := h12
            rw [f190] at hrs
            refine x_if_ne 36 (tgt := 65) rfl (by decide) (by decide) (fun h15 => absurd h15 (by decide)) (fun h15 => ?_)
            refine x_iconst 37 rfl ?_
            refine x_goto 38 (tgt := 80) rfl (by decide) ?_
            refine x_ret 48 (some (vI (4))) rfl ⟨rfl, Or.inl rfl⟩ ⟨_, i5, l, rfl, rfl, ?_⟩
            first
              | (exact rs_ask (z' := anPassed y (i 190)) (by unfold anPassed; rw [if_neg (by omega), if_neg (by omega), if_neg (by omega), if_neg (by omega), if_pos hrs]) hkf f190 hF rfl)
              | (exact rs_ask (z' := anPassed y (i 190)) (by unfold anPassed; rw [if_neg (by omega), if_neg (by omega), if_neg (by omega), if_neg (by omega), if_neg (Classical.not_not.mpr hrs), ← ev2, ← e200, if_pos (by omega)]) hkf f190 hF rfl)
              | (exact rs_ask (z' := anPassed y (i 190)) (by unfold anPassed; rw [if_neg (by omega), if_neg (by omega), if_neg (by omega), if_neg (by omega), if_neg (Classical.not_not.mpr hrs), ← ev2, ← e200, if_neg (by omega)]) hkf f190 hF rfl)
        · refine x_iconst 31 rfl ?_
          refine x_ret 32 (some (vI (3))) rfl ⟨rfl, Or.inl rfl⟩ ⟨_, i5, l, rfl, rfl, ?_⟩
          exact rs_ask (z' := anPassed y (i 190)) (by unfold anPassed; rw [if_neg (by omega), if_neg (by omega), if_neg (by omega), if_pos (by omega)]) (hkf) (f190) hF rfl
      · refine x_iconst 23 rfl ?_
        refine x_ret 24 (some (vI (2))) rfl ⟨rfl, Or.inl rfl⟩ ⟨_, i5, l, rfl, rfl, ?_⟩
        exact rs_ask (z' := anPassed y (i 190)) (by unfold anPassed; rw [if_neg (by omega), if_neg (by omega), if_pos (by omega)]) (hkf) (f190) hF rfl
    · refine x_iconst 16 rfl ?_
      refine x_ret 17 (some (vI (1))) rfl ⟨rfl, Or.inl rfl⟩ ⟨_, i5, l, rfl, rfl, ?_⟩
      exact rs_ask (z' := anPassed y (i 190)) (by unfold anPassed; rw [if_neg (by omega), if_pos (by omega)]) (hkf) (f190) hF rfl
  · show mX m_X9_passedOver 9 _ 0 0 _ _ [vI (0)] _
    refine x_if_ne 3 (tgt := 10) rfl (by decide) (by decide) (fun h16 => absurd h16 (by decide)) (fun h16 => ?_)
    refine x_iconst 4 rfl ?_
    refine x_ret 5 (some (vI ((-1)))) rfl ⟨rfl, Or.inl rfl⟩ ⟨_, i, l, rfl, rfl, ?_⟩
    exact rs_ask (z' := anPassed y (i 190)) (by unfold anPassed; rw [if_pos (by omega)]) (kA.rf i) (rfl) hF rfl
set_option maxRecDepth 20000 in
set_option maxHeartbeats 2000000 in
theorem r_b_keep {i : Nat → Int → Int} {l : Nat → Int → BitVec 64} (hB : okB (i 190) (i 189 2) (AP i) (AM i) (AK i) (i 193) (i 189 6)) (hF : 0 ≤ i 189 4 ∧ i 189 4 ≤ 3) {m : Int} (hm : -2147483648 ≤ m ∧ m < 2147483648) : mCtr m_X9_keep 4 0 0 [vR (some 189), vI (m)] (st i l) (qR i l (spKeep m (i 190) (i 189 2) (AP i) (AM i) (AK i) (i 193) (i 189 6) (i 189 7) (i 189 8))) := by
  refine mCtr_of pl_X9 dc_X9_keep (Nat.le_of_ble_eq_true rfl) rfl ?_
  show mX m_X9_keep 4 _ 0 0 0 [some (vR (some 189)), some (vI (m)), none] [] (st i l)
  have hW := hB.1
  have hN := hW.n
  have hPN := hB.2.1
  have hTN := hB.2.2.2.2.1
  refine x_iload_n 0 rfl rfl ?_
  refine x_callS 1 m_X9_isImage (r_isImage (by omega)) rfl ok_X9_isImage ml_X9_210 st_X9_isImage rfl (by decide) rfl (Nat.le_of_ble_eq_true rfl) rfl rfl (fun v g q1 => ?_)
  rcases q1 with ⟨rfl, ⟨h2, rfl⟩ | ⟨h2, rfl⟩⟩
  · show mX m_X9_keep 4 _ 0 0 _ _ [vI (1)] _
    refine x_if_ne 2 (tgt := 9) rfl (by decide) (by decide) (fun h3 => ?_) (fun h3 => absurd h3 (by decide))
    refine x_iconst 5 rfl ?_
    refine x_istore_n 6 (L' := [some (vR (some 189)), some (vI (m)), some (vI (0))]) rfl (by decide) rfl rfl ?_
    have loopL4 : ∀ (nz : Nat) (jj : Nat → Int → Int) (x : Int), (0 ≤ x ∧ x ≤ 652) → (∀ a b, jj a b = if a = 192 ∧ 652 * m ≤ b ∧ b < 652 * m + x then i 190 (0 + (b - 652 * m)) else i a b) → (652 - x) < (nz : Int) → mX m_X9_keep 4 (qR i l (spKeep m (i 190) (i 189 2) (AP i) (AM i) (AK i) (i 193) (i 189 6) (i 189 7) (i 189 8))) 0 0 11 [some (vR (some 189)), some (vI (m)), some (vI (x))] [] (st jj l) := by
      intro nz
      induction nz with
      | zero => intro jj x hx hA hz; exact absurd hz (by omega)
      | succ nz ihL4 =>
        intro jj x hx hA hzL4
        refine x_iload_n 7 rfl rfl ?_
        refine x_sipush 8 rfl (by decide) ?_
        refine x_icmp_ge 9 (tgt := 42) rfl (by decide) (by omega) (fun h5 => ?_) (fun h5 => ?_)
        · have j4 : jj 189 4 = i 189 4 := by rw [hA, if_neg (by omega)]
          have hor := or_bit (m := m) hF (by omega)
          have hpm : 1 * (2 : Int) ^ m.toNat = 1 ∨ 1 * (2 : Int) ^ m.toNat = 2 := by rcases (show m = 0 ∨ m = 1 by omega) with rfl | rfl <;> simp
          have j4o : ((((jj 189 4 : Int).toNat ||| (1 * 2 ^ m.toNat : Int).toNat : Nat) : Int)) = (if AK i 0 = true ∨ m = 0 then 1 else 0) + (if AK i 1 = true ∨ m = 1 then 2 else 0) := by rw [j4]; exact hor
          refine x_aload_n 24 rfl rfl ?_
          refine x_dup 25 rfl rfl ?_
          refine x_getI 26 (z := jj 189 4) rfl fl_X9_213 (n_lt rfl) k_189 rfl rfl ?_
          refine x_iconst 27 rfl ?_
          refine x_iload_n 28 rfl rfl ?_
          refine x_ishl 29 (r := 1 * 2 ^ (m).toNat) rfl (by omega) rfl ?_
          refine x_ior 30 (r := (jj 189 4 : Int).toNat ||| (1 * 2 ^ (m).toNat : Int).toNat) rfl (by omega) rfl ?_
          obtain ⟨i6, hi6⟩ : ∃ f, f = mU jj 189 4 ((((jj 189 4 : Int).toNat ||| (1 * 2 ^ (m).toNat : Int).toNat : Nat) : Int)) := ⟨_, rfl⟩
          refine x_putI 31 rfl fl_X9_213 (n_lt rfl) k_189 rfl rfl (g' := st i6 l) (by subst hi6; rfl) ?_
          have g1 := hi6
          rw [j4o] at g1
          refine x_aload_n 32 rfl rfl ?_
          refine x_getR 33 (z := 190) rfl fl_X9_7 (n_lt rfl) k_189 rfl r_189_0 ?_
          refine x_bipush 34 rfl (by decide) ?_
          refine x_iald 35 (z := i6 190 11) rfl (n_lt rfl) k_190 (by omega) rfl ?_
          refine x_ret 36 (some (vI (i6 190 11))) rfl ⟨rfl, Or.inl rfl⟩ ⟨_, i6, l, rfl, rfl, ?_⟩
          rw [show x = 652 by omega] at hA
          have e : ∀ a b, a ≠ 192 → ¬ (a = 189 ∧ b = 4) → i6 a b = i a b := fun a b q1 q2 => by rw [g1]; simp only [mU]; rw [if_neg q2, hA, if_neg (fun z => q1 z.1)]
          have e4 : i6 189 4 = (if AK i 0 = true ∨ m = 0 then 1 else 0) + (if AK i 1 = true ∨ m = 1 then 2 else 0) := by rw [g1, mUs]
          refine ⟨?_, rfl, ?_, ?_, fun a b ha => e a b (by omega) (by omega)⟩
          · unfold spKeep; rw [if_neg (by omega)]; exact e 190 11 (by omega) (by omega)
          · unfold spKeep
            rw [if_neg (by omega)]
            refine ⟨fun x x0 x1 => e 190 x (by omega) (by omega), e 189 2 (by omega) (by omega), fun j j0 j1 x x0 x1 => e 191 _ (by omega) (by omega), fun q q0 q1 => ⟨?_, fun hk x x0 x1 => ?_⟩, e 189 6 (by omega) (by omega), fun k k0 k1 => e 193 k (by omega) (by omega), e 189 7 (by omega) (by omega), e 189 8 (by omega) (by omega)⟩
            · exact keep_K (by omega) e4 ⟨q0, q1⟩
            · show i6 192 (652 * q + x) = imW (AM i) m (i 190) q x
              rw [g1, mUne _ _ _ _ _ (by omega), hA]
              unfold imW
              by_cases hqm : q = m
              · rw [if_pos ⟨rfl, by omega, by omega⟩, if_pos hqm]; exact congrS (by omega)
              · rw [if_neg (by omega), if_neg hqm]; rfl
          · rw [e4]; split <;> split <;> omega
        · refine x_aload_n 10 rfl rfl ?_
          refine x_getR 11 (z := 192) rfl fl_X9_16 (n_lt rfl) k_189 rfl r_189_3 ?_
          refine x_sipush 12 rfl (by decide) ?_
          refine x_iload_n 13 rfl rfl ?_
          refine x_imul 14 (r := 652 * m) rfl rfl ?_
          refine x_iload_n 15 rfl rfl ?_
          refine x_iadd 16 (r := (652 * m) + x) rfl rfl ?_
          refine x_aload_n 17 rfl rfl ?_
          refine x_getR 18 (z := 190) rfl fl_X9_7 (n_lt rfl) k_189 rfl r_189_0 ?_
          refine x_iload_n 19 rfl rfl ?_
          refine x_iald 20 (z := jj 190 x) rfl (n_lt rfl) k_190 (by omega) rfl ?_
          obtain ⟨i7, hi7⟩ : ∃ f, f = mU jj 192 ((652 * m) + x) (jj 190 x) := ⟨_, rfl⟩
          refine x_iast 21 rfl (n_lt rfl) k_192 (by omega) (g' := st i7 l) (by subst hi7; rfl) ?_
          refine x_iinc 22 (L' := [some (vR (some 189)), some (vI (m)), some (vI (x + 1))]) rfl (by decide) rfl rfl rfl rfl ?_
          refine x_goto 23 (tgt := 11) rfl (by decide) ?_
          exact ihL4 i7 (x + 1) (by omega) (cp_loop (v := jj 190 x) hx.1 hA (by rw [hA, if_neg (by omega), Int.zero_add]) (by rw [hi7])) (by omega)
    exact loopL4 ((652 - ((0))) + 1 : Int).toNat i (0) (by omega) (by intro a b; rw [if_neg (by omega)]) (by omega)
  · show mX m_X9_keep 4 _ 0 0 _ _ [vI (0)] _
    refine x_if_ne 2 (tgt := 9) rfl (by decide) (by decide) (fun h8 => absurd h8 (by decide)) (fun h8 => ?_)
    refine x_iconst 3 rfl ?_
    refine x_ret 4 (some (vI ((-1)))) rfl ⟨rfl, Or.inl rfl⟩ ⟨_, i, l, rfl, rfl, ?_⟩
    exact rs_ask (rfl) (kA.rf i) rfl hF (by unfold spKeep; rw [if_pos (by omega)])
set_option maxRecDepth 20000 in
set_option maxHeartbeats 2000000 in
theorem r_b_back {i : Nat → Int → Int} {l : Nat → Int → BitVec 64} (hB : okB (i 190) (i 189 2) (AP i) (AM i) (AK i) (i 193) (i 189 6)) (hF : 0 ≤ i 189 4 ∧ i 189 4 ≤ 3) {m : Int} (hm : -2147483648 ≤ m ∧ m < 2147483648) : mCtr m_X9_back 4 0 0 [vR (some 189), vI (m)] (st i l) (qR i l (spBack m (i 190) (i 189 2) (AP i) (AM i) (AK i) (i 193) (i 189 6) (i 189 7) (i 189 8))) := by
  refine mCtr_of pl_X9 dc_X9_back (Nat.le_of_ble_eq_true rfl) rfl ?_
  show mX m_X9_back 4 _ 0 0 0 [some (vR (some 189)), some (vI (m)), none] [] (st i l)
  have hW := hB.1
  have hN := hW.n
  have hPN := hB.2.1
  have hTN := hB.2.2.2.2.1
  refine x_iload_n 0 rfl rfl ?_
  refine x_callS 1 m_X9_isImage (r_isImage (by omega)) rfl ok_X9_isImage ml_X9_210 st_X9_isImage rfl (by decide) rfl (Nat.le_of_ble_eq_true rfl) rfl rfl (fun v g q1 => ?_)
  rcases q1 with ⟨rfl, ⟨h2, rfl⟩ | ⟨h2, rfl⟩⟩
  · show mX m_X9_back 4 _ 0 0 _ _ [vI (1)] _
    refine x_if_ne 2 (tgt := 9) rfl (by decide) (by decide) (fun h3 => ?_) (fun h3 => absurd h3 (by decide))
    have hak := AK_t (i := i) (m := m) hF (by omega)
    have hsh : 0 ≤ i 189 4 / 2 ^ m.toNat ∧ i 189 4 / 2 ^ m.toNat ≤ 3 := by rcases (show m = 0 ∨ m = 1 by omega) with rfl | rfl <;> simp <;> omega
    refine x_aload_n 5 rfl rfl ?_
    refine x_getI 6 (z := i 189 4) rfl fl_X9_213 (n_lt rfl) k_189 rfl rfl ?_
    refine x_iload_n 7 rfl rfl ?_
    refine x_ishr 8 (r := (i 189 4) / 2 ^ (m).toNat) rfl (by omega) rfl ?_
    refine x_iconst 9 rfl ?_
    refine x_iandm 10 1 (r := ((i 189 4) / 2 ^ (m).toNat) % 2) rfl (by decide) (by decide) rfl ?_
    refine x_if_ne 11 (tgt := 23) rfl (by decide) (by omega) (fun h4 => ?_) (fun h4 => ?_)
    · refine x_aload_n 14 rfl rfl ?_
      refine x_callV 15 m_X9_remember (r_remember (by omega)) rfl ok_X9_remember (n_lt rfl) k_189 rfl rfl ml_X9_107 im_X9_remember se_X9_remember rfl (by decide) rfl (Nat.le_of_ble_eq_true rfl) rfl rfl (fun v g q5 => ?_)
      obtain ⟨rfl, i6, li6, rfl, hi6⟩ := q5
      obtain ⟨hEi6, hi6⟩ := hi6
      have hEi6 := hEi6.symm
      subst hEi6
      show mX m_X9_back 4 _ 0 0 _ _ [] _
      have hm := hi6
      have w190 := rmI_w i hm
      have hW1 : okW (i6 190) := by rw [w190]; exact hW
      have n11 : i6 190 11 = i 190 11 := by rw [w190]
      obtain ⟨i1, i1d⟩ : ∃ f, f = i6 := ⟨_, rfl⟩
      rw [← i1d] at hm w190
      refine x_iconst 16 rfl ?_
      refine x_istore_n 17 (L' := [some (vR (some 189)), some (vI (m)), some (vI (0))]) rfl (by decide) rfl rfl ?_
      have loopL7 : ∀ (nz : Nat) (jj : Nat → Int → Int) (x : Int), (0 ≤ x ∧ x ≤ 652) → (∀ a b, jj a b = if a = 190 ∧ 0 ≤ b ∧ b < 0 + x then i1 192 (652 * m + (b - 0)) else i1 a b) → (652 - x) < (nz : Int) → mX m_X9_back 4 (qR i l (spBack m (i 190) (i 189 2) (AP i) (AM i) (AK i) (i 193) (i 189 6) (i 189 7) (i 189 8))) 0 0 29 [some (vR (some 189)), some (vI (m)), some (vI (x))] [] (st jj l) := by
        intro nz
        induction nz with
        | zero => intro jj x hx hA hz; exact absurd hz (by omega)
        | succ nz ihL7 =>
          intro jj x hx hA hzL7
          refine x_iload_n 18 rfl rfl ?_
          refine x_sipush 19 rfl (by decide) ?_
          refine x_icmp_ge 20 (tgt := 60) rfl (by decide) (by omega) (fun h8 => ?_) (fun h8 => ?_)
          · refine x_aload_n 35 rfl rfl ?_
            refine x_getR 36 (z := 190) rfl fl_X9_7 (n_lt rfl) k_189 rfl r_189_0 ?_
            refine x_bipush 37 rfl (by decide) ?_
            refine x_iald 38 (z := jj 190 11) rfl (n_lt rfl) k_190 (by omega) rfl ?_
            refine x_ret 39 (some (vI (jj 190 11))) rfl ⟨rfl, Or.inl rfl⟩ ⟨_, jj, l, rfl, rfl, ?_⟩
            rw [show x = 652 by omega] at hA
            have hkt : AK i m = true := hak.mpr (by omega)
            have hk_ : kA i1 jj := fun a b q => by rw [hA, if_neg (by omega)]
            have hw_ : ∀ k, 0 ≤ k → k < 652 → jj 190 k = AM i m k := by
              intro k x0 x1
              rw [hA, if_pos ⟨rfl, x0, by omega⟩, rmI_e hm (by omega)]
              exact congrS (by omega)
            exact rs_rem (z' := AM i m 11) (W' := AM i m) (hw_ 11 (by omega) (by omega)) (by omega) hm hk_ hw_ hF (by unfold spBack; rw [if_neg (by omega), if_neg (by rw [hkt]; decide)])
          · refine x_aload_n 21 rfl rfl ?_
            refine x_getR 22 (z := 190) rfl fl_X9_7 (n_lt rfl) k_189 rfl r_189_0 ?_
            refine x_iload_n 23 rfl rfl ?_
            refine x_aload_n 24 rfl rfl ?_
            refine x_getR 25 (z := 192) rfl fl_X9_16 (n_lt rfl) k_189 rfl r_189_3 ?_
            refine x_sipush 26 rfl (by decide) ?_
            refine x_iload_n 27 rfl rfl ?_
            refine x_imul 28 (r := 652 * m) rfl rfl ?_
            refine x_iload_n 29 rfl rfl ?_
            refine x_iadd 30 (r := (652 * m) + x) rfl rfl ?_
            refine x_iald 31 (z := jj 192 ((652 * m) + x)) rfl (n_lt rfl) k_192 (by omega) rfl ?_
            obtain ⟨i9, hi9⟩ : ∃ f, f = mU jj 190 (x) (jj 192 ((652 * m) + x)) := ⟨_, rfl⟩
            refine x_iast 32 rfl (n_lt rfl) k_190 (by omega) (g' := st i9 l) (by subst hi9; rfl) ?_
            refine x_iinc 33 (L' := [some (vR (some 189)), some (vI (m)), some (vI (x + 1))]) rfl (by decide) rfl rfl rfl rfl ?_
            refine x_goto 34 (tgt := 29) rfl (by decide) ?_
            exact ihL7 i9 (x + 1) (by omega) (cp_loop (v := jj 192 (652 * m + x)) hx.1 hA (by rw [hA, if_neg (by omega)]) (by rw [hi9, Int.zero_add])) (by omega)
      exact loopL7 ((652 - ((0))) + 1 : Int).toNat i6 (0) (by omega) (by intro a b; rw [if_neg (by omega), i1d]) (by omega)
    · refine x_bipush 12 rfl (by decide) ?_
      refine x_ret 13 (some (vI ((-2)))) rfl ⟨rfl, Or.inl rfl⟩ ⟨_, i, l, rfl, rfl, ?_⟩
      exact rs_ask rfl (kA.rf i) rfl hF (by unfold spBack; rw [if_neg (by omega), if_pos (by rw [Bool.eq_false_iff]; intro q; have := hak.mp q; omega)])
  · show mX m_X9_back 4 _ 0 0 _ _ [vI (0)] _
    refine x_if_ne 2 (tgt := 9) rfl (by decide) (by decide) (fun h10 => absurd h10 (by decide)) (fun h10 => ?_)
    refine x_iconst 3 rfl ?_
    refine x_ret 4 (some (vI ((-1)))) rfl ⟨rfl, Or.inl rfl⟩ ⟨_, i, l, rfl, rfl, ?_⟩
    exact rs_ask (rfl) (kA.rf i) rfl hF (by unfold spBack; rw [if_pos (by omega)])
set_option maxRecDepth 20000 in
set_option maxHeartbeats 2000000 in
theorem r_b_write {i : Nat → Int → Int} {l : Nat → Int → BitVec 64} (hB : okB (i 190) (i 189 2) (AP i) (AM i) (AK i) (i 193) (i 189 6)) (hF : 0 ≤ i 189 4 ∧ i 189 4 ≤ 3) {x : Int} (hx : -2147483648 ≤ x ∧ x < 2147483648) : mCtr m_X9_write 4 0 0 [vR (some 189), vI (x)] (st i l) (qR i l (spWrite x (i 190) (i 189 2) (AP i) (AM i) (AK i) (i 193) (i 189 6) (i 189 7) (i 189 8))) := by
  refine mCtr_of pl_X9 dc_X9_write (Nat.le_of_ble_eq_true rfl) rfl ?_
  show mX m_X9_write 4 _ 0 0 0 [some (vR (some 189)), some (vI (x))] [] (st i l)
  have hW := hB.1
  have hN := hW.n
  have hPN := hB.2.1
  have hTN := hB.2.2.2.2.1
  refine x_iload_n 0 rfl rfl ?_
  refine x_bipush 1 rfl (by decide) ?_
  refine x_bipush 2 rfl (by decide) ?_
  refine x_callS 3 m_X9_isIn (r_isIn (by omega) (by omega) (by omega)) rfl ok_X9_isIn ml_X9_62 st_X9_isIn rfl (by decide) rfl (Nat.le_of_ble_eq_true rfl) rfl rfl (fun v g q1 => ?_)
  rcases q1 with ⟨rfl, ⟨h2, rfl⟩ | ⟨h2, rfl⟩⟩
  · show mX m_X9_write 4 _ 0 0 _ _ [vI (1)] _
    refine x_if_ne 4 (tgt := 13) rfl (by decide) (by decide) (fun h3 => ?_) (fun h3 => absurd h3 (by decide))
    refine x_aload_n 7 rfl rfl ?_
    refine x_getI 8 (z := i 189 6) rfl fl_X9_170 (n_lt rfl) k_189 rfl rfl ?_
    refine x_bipush 9 rfl (by decide) ?_
    refine x_icmp_ne 10 (tgt := 25) rfl (by decide) (by omega) (fun h4 => ?_) (fun h4 => ?_)
    · refine x_aload_n 13 rfl rfl ?_
      refine x_getR 14 (z := 193) rfl fl_X9_19 (n_lt rfl) k_189 rfl r_189_5 ?_
      refine x_aload_n 15 rfl rfl ?_
      refine x_getI 16 (z := i 189 6) rfl fl_X9_170 (n_lt rfl) k_189 rfl rfl ?_
      refine x_iload_n 17 rfl rfl ?_
      obtain ⟨i5, hi5⟩ : ∃ f, f = mU i 193 (i 189 6) (x) := ⟨_, rfl⟩
      refine x_iast 18 rfl (n_lt rfl) k_193 (by omega) (g' := st i5 l) (by subst hi5; rfl) ?_
      have g1 := hi5
      have p6 : i5 189 6 = i 189 6 := by rw [g1, mUne _ _ _ _ _ (by omega)]
      refine x_aload_n 19 rfl rfl ?_
      refine x_dup 20 rfl rfl ?_
      refine x_getI 21 (z := i5 189 6) rfl fl_X9_170 (n_lt rfl) k_189 rfl rfl ?_
      refine x_iconst 22 rfl ?_
      refine x_iadd 23 (r := (i5 189 6) + 1) rfl rfl ?_
      obtain ⟨i6, hi6⟩ : ∃ f, f = mU i5 189 6 ((i5 189 6) + 1) := ⟨_, rfl⟩
      refine x_putI 24 rfl fl_X9_170 (n_lt rfl) k_189 rfl rfl (g' := st i6 l) (by subst hi6; rfl) ?_
      have g2 := hi6
      rw [p6] at g2
      refine x_aload_n 25 rfl rfl ?_
      refine x_getI 26 (z := i6 189 6) rfl fl_X9_170 (n_lt rfl) k_189 rfl rfl ?_
      refine x_ret 27 (some (vI (i6 189 6))) rfl ⟨rfl, Or.inl rfl⟩ ⟨_, i6, l, rfl, rfl, ?_⟩
      have e : ∀ a b, a ≠ 193 → ¬ (a = 189 ∧ b = 6) → i6 a b = i a b := fun a b q1 q2 => by rw [g2]; simp only [mU]; rw [if_neg q2, g1, mUne _ _ _ _ _ q1]
      have e6 : i6 189 6 = i 189 6 + 1 := by rw [g2, mUs]
      have e4 := e 189 4 (by omega) (by omega)
      refine ⟨?_, rfl, ?_, by rw [e4]; exact hF, fun a b ha => e a b (by omega) (by omega)⟩
      · unfold spWrite; rw [if_neg (by omega), if_neg (by omega)]; exact e6
      · unfold spWrite
        rw [if_neg (by omega), if_neg (by omega)]
        refine ⟨fun x x0 x1 => e 190 x (by omega) (by omega), e 189 2 (by omega) (by omega), fun j j0 j1 x x0 x1 => e 191 _ (by omega) (by omega), fun q q0 q1 => ⟨?_, fun hk x x0 x1 => e 192 _ (by omega) (by omega)⟩, e6, fun k k0 k1 => ?_, e 189 7 (by omega) (by omega), e 189 8 (by omega) (by omega)⟩
        · show AK i6 q = AK i q
          unfold AK; rw [e4]
        · show i6 193 k = fU (i 193) (i 189 6) x k
          rw [g2, mUne _ _ _ _ _ (by omega), g1]
          unfold fU
          simp only [mU, true_and]
    · refine x_bipush 11 rfl (by decide) ?_
      refine x_ret 12 (some (vI ((-3)))) rfl ⟨rfl, Or.inl rfl⟩ ⟨_, i, l, rfl, rfl, ?_⟩
      exact rs_ask (rfl) (kA.rf i) rfl hF (by unfold spWrite; rw [if_neg (by omega), if_pos (by omega)])
  · show mX m_X9_write 4 _ 0 0 _ _ [vI (0)] _
    refine x_if_ne 4 (tgt := 13) rfl (by decide) (by decide) (fun h7 => absurd h7 (by decide)) (fun h7 => ?_)
    refine x_iconst 5 rfl ?_
    refine x_ret 6 (some (vI ((-1)))) rfl ⟨rfl, Or.inl rfl⟩ ⟨_, i, l, rfl, rfl, ?_⟩
    exact rs_ask (rfl) (kA.rf i) rfl hF (by unfold spWrite; rw [if_pos (by omega)])
set_option maxRecDepth 20000 in
set_option maxHeartbeats 2000000 in
theorem r_b_wipe {i : Nat → Int → Int} {l : Nat → Int → BitVec 64} (hB : okB (i 190) (i 189 2) (AP i) (AM i) (AK i) (i 193) (i 189 6)) (hF : 0 ≤ i 189 4 ∧ i 189 4 ≤ 3)  : mCtr m_X9_wipe 4 0 0 [vR (some 189)] (st i l) (qR i l (spWipe (i 190) (i 189 2) (AP i) (AM i) (AK i) (i 193) (i 189 6) (i 189 7) (i 189 8))) := by
  refine mCtr_of pl_X9 dc_X9_wipe (Nat.le_of_ble_eq_true rfl) rfl ?_
  show mX m_X9_wipe 4 _ 0 0 0 [some (vR (some 189)), none] [] (st i l)
  have hW := hB.1
  have hN := hW.n
  have hPN := hB.2.1
  have hTN := hB.2.2.2.2.1
  refine x_aload_n 0 rfl rfl ?_
  refine x_getI 1 (z := i 189 6) rfl fl_X9_170 (n_lt rfl) k_189 rfl rfl ?_
  refine x_istore_n 2 (L' := [some (vR (some 189)), some (vI (i 189 6))]) rfl (by decide) rfl rfl ?_
  refine x_aload_n 3 rfl rfl ?_
  refine x_iconst 4 rfl ?_
  obtain ⟨i1, hi1⟩ : ∃ f, f = mU i 189 6 (0) := ⟨_, rfl⟩
  refine x_putI 5 rfl fl_X9_170 (n_lt rfl) k_189 rfl rfl (g' := st i1 l) (by subst hi1; rfl) ?_
  have g1 := hi1
  refine x_iload_n 6 rfl rfl ?_
  refine x_ret 7 (some (vI (i 189 6))) rfl ⟨rfl, Or.inl rfl⟩ ⟨_, i1, l, rfl, rfl, ?_⟩
  have e : ∀ a b, ¬ (a = 189 ∧ b = 6) → i1 a b = i a b := fun a b q2 => by rw [g1]; simp only [mU]; rw [if_neg q2]
  have e6 : i1 189 6 = 0 := by rw [g1, mUs]
  have e4 := e 189 4 (by omega)
  refine ⟨rfl, rfl, ⟨fun x x0 x1 => e 190 x (by omega), e 189 2 (by omega), fun j j0 j1 x x0 x1 => e 191 _ (by omega), fun q q0 q1 => ⟨?_, fun hk x x0 x1 => e 192 _ (by omega)⟩, e6, fun k k0 k1 => ?_, e 189 7 (by omega), e 189 8 (by omega)⟩, by rw [e4]; exact hF, fun a b ha => e a b (by omega)⟩
  · show AK i1 q = AK i q
    unfold AK; rw [e4]
  · have k1 : k < 0 := k1
    omega
set_option maxRecDepth 20000 in
set_option maxHeartbeats 2000000 in
theorem r_b_fault {i : Nat → Int → Int} {l : Nat → Int → BitVec 64} (hB : okB (i 190) (i 189 2) (AP i) (AM i) (AK i) (i 193) (i 189 6)) (hF : 0 ≤ i 189 4 ∧ i 189 4 ≤ 3) {x : Int} (hx : -2147483648 ≤ x ∧ x < 2147483648) : mCtr m_X9_fault 4 0 0 [vR (some 189), vI (x)] (st i l) (qR i l (spAsk (anFault x (i 189 7) (i 189 8)) (i 190) (i 189 2) (AP i) (AM i) (AK i) (i 193) (i 189 6) (i 189 7) (i 189 8))) := by
  refine mCtr_of pl_X9 dc_X9_fault (Nat.le_of_ble_eq_true rfl) rfl ?_
  show mX m_X9_fault 4 _ 0 0 0 [some (vR (some 189)), some (vI (x))] [] (st i l)
  have hW := hB.1
  have hN := hW.n
  have hPN := hB.2.1
  have hTN := hB.2.2.2.2.1
  refine x_iload_n 0 rfl rfl ?_
  refine x_if_ne 1 (tgt := 11) rfl (by decide) (by omega) (fun h1 => ?_) (fun h1 => ?_)
  · refine x_iload_n 5 rfl rfl ?_
    refine x_iconst 6 rfl ?_
    refine x_icmp_ne 7 (tgt := 23) rfl (by decide) (by omega) (fun h2 => ?_) (fun h2 => ?_)
    · refine x_iconst 11 rfl ?_
      refine x_ret 12 (some (vI ((-1)))) rfl ⟨rfl, Or.inl rfl⟩ ⟨_, i, l, rfl, rfl, ?_⟩
      first
        | (exact rs_ask (z' := anFault x (i 189 7) (i 189 8)) (by unfold anFault; rw [if_pos (by omega)]) (kA.rf i) rfl hF rfl)
        | (exact rs_ask (z' := anFault x (i 189 7) (i 189 8)) (by unfold anFault; rw [if_neg (by omega), if_pos (by omega)]) (kA.rf i) rfl hF rfl)
        | (exact rs_ask (z' := anFault x (i 189 7) (i 189 8)) (by unfold anFault; rw [if_neg (by omega), if_neg (by omega)]) (kA.rf i) rfl hF rfl)
    · refine x_aload_n 8 rfl rfl ?_
      refine x_getI 9 (z := i 189 8) rfl fl_X9_26 (n_lt rfl) k_189 rfl rfl ?_
      refine x_goto 10 (tgt := 24) rfl (by decide) ?_
      refine x_ret 12 (some (vI (i 189 8))) rfl ⟨rfl, Or.inl rfl⟩ ⟨_, i, l, rfl, rfl, ?_⟩
      first
        | (exact rs_ask (z' := anFault x (i 189 7) (i 189 8)) (by unfold anFault; rw [if_pos (by omega)]) (kA.rf i) rfl hF rfl)
        | (exact rs_ask (z' := anFault x (i 189 7) (i 189 8)) (by unfold anFault; rw [if_neg (by omega), if_pos (by omega)]) (kA.rf i) rfl hF rfl)
        | (exact rs_ask (z' := anFault x (i 189 7) (i 189 8)) (by unfold anFault; rw [if_neg (by omega), if_neg (by omega)]) (kA.rf i) rfl hF rfl)
  · refine x_aload_n 2 rfl rfl ?_
    refine x_getI 3 (z := i 189 7) rfl fl_X9_22 (n_lt rfl) k_189 rfl rfl ?_
    refine x_goto 4 (tgt := 24) rfl (by decide) ?_
    refine x_ret 12 (some (vI (i 189 7))) rfl ⟨rfl, Or.inl rfl⟩ ⟨_, i, l, rfl, rfl, ?_⟩
    first
      | (exact rs_ask (z' := anFault x (i 189 7) (i 189 8)) (by unfold anFault; rw [if_pos (by omega)]) (kA.rf i) rfl hF rfl)
      | (exact rs_ask (z' := anFault x (i 189 7) (i 189 8)) (by unfold anFault; rw [if_neg (by omega), if_pos (by omega)]) (kA.rf i) rfl hF rfl)
      | (exact rs_ask (z' := anFault x (i 189 7) (i 189 8)) (by unfold anFault; rw [if_neg (by omega), if_neg (by omega)]) (kA.rf i) rfl hF rfl)
