/-! the other book: tests, attendance -/
theorem rm_k {i j i1 : Nat → Int → Int} (hk : kA i j) (hw : j 190 = i 190) (hm : ∀ a b, i1 a b = rmI j a b) : ∃ i2 : Nat → Int → Int, (∀ a b, i2 a b = rmI i a b) ∧ kA i2 i1 := by
  refine ⟨fun a b => rmI i a b, fun _ _ => rfl, fun a b q => ?_⟩
  have e2 : j 189 2 = i 189 2 := hk 189 2 (by omega)
  have e191 : ∀ b, j 191 b = i 191 b := fun b => hk 191 b (by omega)
  rw [hm]
  show rmI j a b = rmI i a b
  unfold rmI
  rw [e2, hw]
  simp only [e191]
  rw [hk a b (by omega)]
theorem kA_fH {i j : Nat → Int → Int} (h : fH i j) (h7 : j 189 7 = i 189 7) (h8 : j 189 8 = i 189 8) : kA i j := by
  intro a b q
  by_cases q7 : a = 189 ∧ b = 7
  · rw [q7.1, q7.2]; exact h7
  · by_cases q8 : a = 189 ∧ b = 8
    · rw [q8.1, q8.2]; exact h8
    · exact h a b (by omega) (by omega) (by omega) (by omega)
theorem fH.w {i j : Nat → Int → Int} (h : fH i j) : j 190 = i 190 := by funext b; exact h 190 b (by omega) (by omega) (by omega) (by omega)
theorem hfR_ok {i i' : Nat → Int → Int} {z : Int} {r : gT ⊕ (Int × Int)} (h : hfR i i' z r) (hz : z = 0) : ∃ g, r = .inl g ∧ i' 189 20 = g.2.2.2.2.2.length ∧ entM i' g.2.2.2.2.2 ∧ g.2.2.2.2.2.length ≤ 30 ∧ i' 189 7 = i 189 7 ∧ i' 189 8 = i 189 8 := by
  cases r with
  | inl g => exact ⟨g, rfl, h.2⟩
  | inr e => have := h.1; omega
theorem hfR_no {i i' : Nat → Int → Int} {z : Int} {r : gT ⊕ (Int × Int)} (h : hfR i i' z r) (hz : z ≠ 0) : ∃ e, r = .inr e ∧ i' 189 7 = e.1 ∧ i' 189 8 = e.2 := by
  cases r with
  | inl g => have := h.1; omega
  | inr e => exact ⟨e, rfl, h.2⟩
theorem rs_fault {i i' : Nat → Int → Int} {l : Nat → Int → BitVec 64} {z z' : Int} {r : Int × bT} {e : Int × Int} (hz : z = z') (hk : fH i i') (h7 : i' 189 7 = e.1) (h8 : i' 189 8 = e.2) (hF : 0 ≤ i 189 4 ∧ i 189 4 ≤ 3) (h : r = (z', i 190, i 189 2, AP i, AM i, AK i, i 193, i 189 6, e.1, e.2)) : z = r.1 ∧ l = l ∧ eqB (abB i') r.2 ∧ (0 ≤ i' 189 4 ∧ i' 189 4 ≤ 3) ∧ ∀ a b, a < 189 → i' a b = i a b := by
  subst h
  have k : ∀ a b, a ≠ 201 → a ≠ 202 → a ≠ 203 → ¬ (a = 189 ∧ (b = 7 ∨ b = 8 ∨ b = 20 ∨ (24 ≤ b ∧ b ≤ 30))) → i' a b = i a b := hk
  have e4 := k 189 4 (by omega) (by omega) (by omega) (by omega)
  refine ⟨hz, rfl, ⟨fun x _ _ => congrFun hk.w x, k 189 2 (by omega) (by omega) (by omega) (by omega), fun j _ _ x _ _ => k 191 _ (by omega) (by omega) (by omega) (by omega), fun m _ _ => ⟨by show AK i' m = AK i m; unfold AK; rw [e4], fun _ x _ _ => k 192 _ (by omega) (by omega) (by omega) (by omega)⟩, k 189 6 (by omega) (by omega) (by omega) (by omega), fun q _ _ => k 193 q (by omega) (by omega) (by omega) (by omega), h7, h8⟩, by rw [e4]; exact hF, fun a b ha => k a b (by omega) (by omega) (by omega) (by omega)⟩
theorem drop_w {ws : List wT} {m : Int} (h0 : 0 ≤ m) (h1 : m < ws.length) : ws.drop (ws.length - (m + 1).toNat) = wAt ws m :: ws.drop (ws.length - m.toNat) := by
  have e : ws.length - (m + 1).toNat < ws.length := by omega
  rw [List.drop_eq_getElem_cons e, show ws.length - (m + 1).toNat + 1 = ws.length - m.toNat by omega]
  congr 1
  unfold wAt
  rw [List.getD_eq_getElem?_getD, show ws.length - 1 - m.toNat = ws.length - (m + 1).toNat by omega, List.getElem?_eq_getElem e, Option.getD_some]
theorem wAt_mem {ws : List wT} {m : Int} (h0 : 0 ≤ m) (h1 : m < ws.length) : wAt ws m ∈ ws := by
  unfold wAt
  rw [List.getD_eq_getElem?_getD, List.getElem?_eq_getElem (by omega), Option.getD_some]
  exact List.getElem_mem _
theorem okWs_d {hi : Int} {ws : List wT} (h : okWs hi ws) (n : Nat) : okWs hi (ws.drop n) := fun v hv => h v (List.mem_of_mem_drop hv)
theorem ts_in {T : Int → Int} {nn i' i1 : Nat → Int → Int} {o a1 n v : Int} (h0 : a1 ≤ n) (hB : ∀ a b, nn a b = if a = 190 then (if o + a1 ≤ b ∧ b < o + n then v else T b) else i1 a b) (hi : i' = mU nn 190 (o + n) v) : ∀ a b, i' a b = if a = 190 then (if o + a1 ≤ b ∧ b < o + (n + 1) then v else T b) else i1 a b := by
  intro a b
  rw [hi]
  simp only [mU]
  by_cases q : a = 190 ∧ b = o + n
  · rw [if_pos q, if_pos q.1, if_pos (by omega)]
  · rw [if_neg q, hB]
    by_cases ha : a = 190
    · rw [if_pos ha, if_pos ha]
      by_cases q2 : o + a1 ≤ b ∧ b < o + n
      · rw [if_pos q2, if_pos (by omega)]
      · rw [if_neg q2, if_neg (by omega)]
    · rw [if_neg ha, if_neg ha]
/-- where no dash may stand, words are single numbers -/
theorem g0_step {hi code pos : Int} {s s' : gT} (h : (s.1 ≠ 2 ∧ s.1 ≠ 3) ∧ ∀ w ∈ s.2.2.2.2.2, w.1 = w.2.1) (hs : gStep 0 hi code pos s = .inl s') : (s'.1 ≠ 2 ∧ s'.1 ≠ 3) ∧ ∀ w ∈ s'.2.2.2.2.2, w.1 = w.2.1 := by
  obtain ⟨w, v, d, st, f, ws⟩ := s
  simp only at h
  obtain ⟨h1, h2⟩ := h
  have hc : ∀ can : Int, ∀ u ∈ ((if w = 3 then f else v, v, can) :: ws : List wT), u.1 = u.2.1 := by
    intro can u hu
    rcases List.mem_cons.mp hu with rfl | hu
    · simp only; rw [if_neg h1.2]
    · exact h2 u hu
  unfold gStep gWhere gClose at hs
  simp only at hs
  split at hs
  · split at hs
    · split at hs
      · cases hs
      · cases hs; exact ⟨h1, h2⟩
    · split at hs
      · cases hs
      · split at hs
        · cases hs; exact ⟨by simp, hc 1⟩
        · split at hs
          · cases hs; exact ⟨by simp, hc 0⟩
          · split at hs
            · rename_i q; exact absurd rfl q.2.1
            · cases hs
  · split at hs
    · cases hs
      refine ⟨?_, h2⟩
      simp only
      rw [if_neg h1.1]
      simp
    · split at hs
      · cases hs; exact ⟨by simp, h2⟩
      · cases hs
theorem g0_run {hi : Int} {f : Int → Int} {n : Nat} {s : gT} (h : gRun 0 hi f n = .inl s) : (s.1 ≠ 2 ∧ s.1 ≠ 3) ∧ ∀ w ∈ s.2.2.2.2.2, w.1 = w.2.1 := by
  induction n generalizing s with
  | zero => cases h; exact ⟨by simp, fun w hw => absurd hw List.not_mem_nil⟩
  | succ n ih =>
    cases hr : gRun 0 hi f n with
    | inl s0 =>
      have : gRun 0 hi f (n + 1) = gStep 0 hi (f n) n s0 := by unfold gRun; rw [hr]
      rw [this] at h
      exact g0_step (ih hr) h
    | inr e =>
      have : gRun 0 hi f (n + 1) = .inr e := by unfold gRun; rw [hr]
      rw [this] at h
      cases h
theorem g0_read {hi : Int} {f : Int → Int} {len : Int} {s : gT} (h : gRead 0 hi f len = .inl s) : ∀ w ∈ s.2.2.2.2.2, w.1 = w.2.1 := by
  unfold gRead at h
  cases hr : gRun 0 hi f len.toNat with
  | inr e => rw [hr] at h; cases h
  | inl s0 =>
    rw [hr] at h
    have hs := g0_run hr
    obtain ⟨w, v, d, st, f, ws⟩ := s0
    simp only at hs h
    obtain ⟨h1, h2⟩ := hs
    unfold gEnd gClose at h
    simp only at h
    split at h
    · cases h
    · split at h
      · cases h; exact h2
      · split at h
        · cases h
        · cases h
          intro u hu
          rcases List.mem_cons.mp hu with rfl | hu
          · simp only; rw [if_neg h1.2]
          · exact h2 u hu
theorem at1_step {jj i' i1 : Nat → Int → Int} {W : Int → Int} {x : Int} (h0 : 0 ≤ x) (hA : ∀ a b, jj a b = if a = 190 then (if (12 ≤ b ∧ b < 12 + 48 * x) ∧ (b - 12) % 48 = 3 then 1 else W b) else i1 a b) (hi : i' = mU jj 190 (12 + 48 * x + 3) 1) : ∀ a b, i' a b = if a = 190 then (if (12 ≤ b ∧ b < 12 + 48 * (x + 1)) ∧ (b - 12) % 48 = 3 then 1 else W b) else i1 a b := by
  intro a b
  rw [hi]
  simp only [mU]
  by_cases q : a = 190 ∧ b = 12 + 48 * x + 3
  · rw [if_pos q, if_pos q.1, if_pos (by omega)]
  · rw [if_neg q, hA]
    by_cases ha : a = 190
    · rw [if_pos ha, if_pos ha]
      by_cases q2 : (12 ≤ b ∧ b < 12 + 48 * x) ∧ (b - 12) % 48 = 3
      · rw [if_pos q2, if_pos (by omega)]
      · rw [if_neg q2, if_neg (by omega)]
    · rw [if_neg ha, if_neg ha]
theorem at2_step {kk i' i1 : Nat → Int → Int} {W : Int → Int} {w : wT} {r : List wT} (hw : w.1 = w.2.1) (hw0 : 0 ≤ w.1 ∧ w.1 < W 11) (hA : ∀ a b, kk a b = if a = 190 then atW W r b else i1 a b) (hi : i' = mU kk 190 (12 + 48 * w.1 + 3) 0) : ∀ a b, i' a b = if a = 190 then atW W (w :: r) b else i1 a b := by
  intro a b
  rw [hi]
  simp only [mU]
  by_cases ha : a = 190
  · rw [if_pos ha]
    by_cases q : b = 12 + 48 * w.1 + 3
    · rw [if_pos ⟨ha, q⟩]
      unfold atW hasW
      rw [if_pos (by omega), show (b - 12) / 48 = w.1 by omega, decide_eq_true (show w.1 ≤ w.1 by omega), decide_eq_true (show w.1 ≤ w.2.1 by omega)]
      rfl
    · rw [if_neg (fun z => q z.2), hA, if_pos ha]
      unfold atW
      by_cases q2 : (12 ≤ b ∧ b < 12 + 48 * W 11) ∧ (b - 12) % 48 = 3
      · rw [if_pos q2, if_pos q2]
        have e : hasW (w :: r) ((b - 12) / 48) = hasW r ((b - 12) / 48) := by
          show ((decide (w.1 ≤ (b - 12) / 48) && decide ((b - 12) / 48 ≤ w.2.1)) || hasW r ((b - 12) / 48)) = _
          have h3 : (decide (w.1 ≤ (b - 12) / 48) && decide ((b - 12) / 48 ≤ w.2.1)) = false := by
            rw [Bool.and_eq_false_iff, decide_eq_false_iff_not, decide_eq_false_iff_not]
            omega
          rw [h3, Bool.false_or]
        rw [e]
      · rw [if_neg q2, if_neg q2]
  · rw [if_neg (fun z => ha z.1), if_neg ha, hA, if_neg ha]
theorem ts_out {W : Int → Int} {y n : Int} {nn i1 : Nat → Int → Int} {w : wT} {r : List wT} (hn : n = w.2.1 + 1) (hB : ∀ a b, nn a b = if a = 190 then (if 19 + 48 * y + w.1 ≤ b ∧ b < 19 + 48 * y + n then w.2.2 else tsW W y r b) else i1 a b) : ∀ a b, nn a b = if a = 190 then tsW W y (w :: r) b else i1 a b := by
  intro a b
  rw [hB]
  by_cases q : a = 190
  · rw [if_pos q, if_pos q]
    show _ = if 19 + 48 * y + w.1 ≤ b ∧ b ≤ 19 + 48 * y + w.2.1 then w.2.2 else tsW W y r b
    have ec : (19 + 48 * y + w.1 ≤ b ∧ b < 19 + 48 * y + n) ↔ (19 + 48 * y + w.1 ≤ b ∧ b ≤ 19 + 48 * y + w.2.1) := by omega
    simp only [ec]
  · rw [if_neg q, if_neg q]
set_option maxRecDepth 20000 in
set_option maxHeartbeats 2000000 in
theorem r_b_test {i : Nat → Int → Int} {l : Nat → Int → BitVec 64} (hB : okB (i 190) (i 189 2) (AP i) (AM i) (AK i) (i 193) (i 189 6)) (hF : 0 ≤ i 189 4 ∧ i 189 4 ≤ 3) {y : Int} (hy : -2147483648 ≤ y ∧ y < 2147483648) : mCtr m_X9_test 7 0 0 [vR (some 189), vI (y)] (st i l) (qR i l (spTest y (i 190) (i 189 2) (AP i) (AM i) (AK i) (i 193) (i 189 6) (i 189 7) (i 189 8))) := by
  refine mCtr_of pl_X9 dc_X9_test (Nat.le_of_ble_eq_true rfl) rfl ?_
  show mX m_X9_test 7 _ 0 0 0 [some (vR (some 189)), some (vI (y)), none, none] [] (st i l)
  have hW := hB.1
  have hN := hW.n
  have hPN := hB.2.1
  have hTN := hB.2.2.2.2.1
  have htc : ∀ k, 0 ≤ k → k < i 189 6 → 32 ≤ i 193 k ∧ i 193 k ≤ 126 := hB.2.2.2.2.2
  refine x_aload_n 0 rfl rfl ?_
  refine x_iload_n 1 rfl rfl ?_
  refine x_callV 2 m_X9_isSinger (r_isSinger (by omega) (by omega)) rfl ok_X9_isSinger (n_lt rfl) k_189 rfl rfl ml_X9_117 im_X9_isSinger se_X9_isSinger rfl (by decide) rfl (Nat.le_of_ble_eq_true rfl) rfl rfl (fun v g q1 => ?_)
  rcases q1 with ⟨rfl, ⟨h2, rfl⟩ | ⟨h2, rfl⟩⟩
  · show mX m_X9_test 7 _ 0 0 _ _ [vI (1)] _
    refine x_if_ne 3 (tgt := 10) rfl (by decide) (by decide) (fun h3 => ?_) (fun h3 => absurd h3 (by decide))
    refine x_aload_n 6 rfl rfl ?_
    refine x_iconst 7 rfl ?_
    refine x_callV 8 m_X9_hasFault (r_hasFault (by omega) (by omega) (H := 40) (by rw [if_neg (by omega)]) (by omega) htc) rfl ok_X9_hasFault (n_lt rfl) k_189 rfl rfl ml_X9_180 im_X9_hasFault se_X9_hasFault rfl (by decide) rfl (Nat.le_of_ble_eq_true rfl) rfl rfl (fun v g q4 => ?_)
    obtain ⟨z6, i5, li5, rfl, rfl, hi5⟩ := q4
    show mX m_X9_test 7 _ 0 0 _ _ [vI (z6)] _
    obtain ⟨hz01, hEl, hfh, hhr⟩ := hi5
    have hEl2 := hEl.symm
    subst hEl2
    refine x_if_eq 9 (tgt := 21) rfl (by decide) (by omega) (fun h7 => ?_) (fun h7 => ?_)
    · obtain ⟨g, hg, e20, hent, hlen, e7, e8⟩ := hfR_ok hhr (by omega)
      have hwk := okG_read hg
      refine x_aload_n 12 rfl rfl ?_
      refine x_callV 13 m_X9_remember (r_remember (by rw [hfh 189 2 (by omega) (by omega) (by omega) (by omega)]; omega)) rfl ok_X9_remember (n_lt rfl) k_189 rfl rfl ml_X9_107 im_X9_remember se_X9_remember rfl (by decide) rfl (Nat.le_of_ble_eq_true rfl) rfl rfl (fun v g q8 => ?_)
      obtain ⟨rfl, i9, li9, rfl, hi9⟩ := q8
      obtain ⟨hEi9, hi9⟩ := hi9
      have hEi9 := hEi9.symm
      subst hEi9
      show mX m_X9_test 7 _ 0 0 _ _ [] _
      have hm0 := hi9
      obtain ⟨i2, hm, hk2⟩ := rm_k (kA_fH hfh e7 e8) hfh.w hm0
      have w190 : i9 190 = i 190 := (rmI_w _ hm0).trans hfh.w
      obtain ⟨i1, i1d⟩ : ∃ f, f = i9 := ⟨_, rfl⟩
      rw [← i1d] at hm0 w190 hk2
      have f20 : i1 189 20 = (g.2.2.2.2.2.length : Int) := by rw [rmI_e hm0 (by omega)]; exact e20
      have hen1 : entM i1 g.2.2.2.2.2 := hent.c (fun a b ha _ _ => rmI_e hm0 (by omega))
      refine x_iconst 14 rfl ?_
      refine x_istore_n 15 (L' := [some (vR (some 189)), some (vI (y)), some (vI (0)), none]) rfl (by decide) rfl rfl ?_
      have loopL10 : ∀ (nz : Nat) (kk : Nat → Int → Int) (m : Int), (0 ≤ m ∧ m ≤ g.2.2.2.2.2.length) → (∀ a b, kk a b = if a = 190 then tsW (i 190) y (g.2.2.2.2.2.drop (g.2.2.2.2.2.length - m.toNat)) b else i1 a b) → (g.2.2.2.2.2.length - m) < (nz : Int) → mX m_X9_test 7 (qR i l (spTest y (i 190) (i 189 2) (AP i) (AM i) (AK i) (i 193) (i 189 6) (i 189 7) (i 189 8))) 0 0 27 [some (vR (some 189)), some (vI (y)), some (vI (m)), none] [] (st kk l) := by
        intro nz
        induction nz with
        | zero => intro kk m hm_ hA hz; exact absurd hz (by omega)
        | succ nz ihL10 =>
          intro kk m hm_ hA hzL10
          have k20 : kk 189 20 = (g.2.2.2.2.2.length : Int) := by rw [hA, if_neg (by omega)]; exact f20
          refine x_iload_n 16 rfl rfl ?_
          refine x_aload_n 17 rfl rfl ?_
          refine x_getI 18 (z := kk 189 20) rfl fl_X9_154 (n_lt rfl) k_189 rfl rfl ?_
          refine x_icmp_ge 19 (tgt := 79) rfl (by decide) (by omega) (fun h11 => ?_) (fun h11 => ?_)
          · have hme : m = g.2.2.2.2.2.length := by omega
            have k190 : kk 190 = tsW (i 190) y g.2.2.2.2.2 := by funext b; rw [hA, if_pos rfl, hme, show (g.2.2.2.2.2.length - (g.2.2.2.2.2.length : Int).toNat) = 0 by omega, List.drop_zero]
            have hWk : okW (kk 190) := by rw [k190]; exact okW_test hW (by omega) hwk
            have k11 : kk 190 11 = i 190 11 := by rw [k190, tsW_else hwk (by omega)]
            refine x_aload_n 45 rfl rfl ?_
            refine x_iload_n 46 rfl rfl ?_
            refine x_callV 47 m_X9_rangeSize (r_rangeSize hWk (by omega)) rfl ok_X9_rangeSize (n_lt rfl) k_189 rfl rfl ml_X9_184 im_X9_rangeSize se_X9_rangeSize rfl (by decide) rfl (Nat.le_of_ble_eq_true rfl) rfl rfl (fun v g q12 => ?_)
            obtain ⟨z14, i13, li13, rfl, rfl, hi13⟩ := q12
            show mX m_X9_test 7 _ 0 0 _ _ [vI (z14)] _
            obtain ⟨hrz, rfl, hfr⟩ := hi13
            rw [k190] at hrz
            refine x_ret 48 (some (vI (z14))) rfl ⟨rfl, Or.inl rfl⟩ ⟨_, i13, li13, rfl, rfl, ?_⟩
            have hkk : kA i1 kk := fun a b q => by rw [hA, if_neg (by omega)]
            exact rs_rem (z' := (rgZ (sV (tsW (i 190) y g.2.2.2.2.2) y)).2.1) (W' := tsW (i 190) y g.2.2.2.2.2) hrz (by omega) hm ((hk2.tr hkk).tr (kA.of9 hfr)) (fun k _ _ => by rw [hfr.w, k190]) hF (by unfold spTest; rw [if_neg (by omega), hg])
          · obtain ⟨x1, x2, x3⟩ := hen1 m hm_.1 (by omega)
            obtain ⟨b1, b2, b3, b4⟩ := hwk _ (wAt_mem hm_.1 (show m < g.2.2.2.2.2.length by omega))
            have hf1 : kk 201 m = (wAt g.2.2.2.2.2 m).1 := by rw [hA, if_neg (by omega)]; exact x1
            refine x_aload_n 20 rfl rfl ?_
            refine x_getR 21 (z := 201) rfl fl_X9_50 (n_lt rfl) k_189 rfl r_189_21 ?_
            refine x_iload_n 22 rfl rfl ?_
            refine x_iald 23 (z := kk 201 m) rfl (n_lt rfl) k_201 (by omega) rfl ?_
            refine x_istore_n 24 (L' := [some (vR (some 189)), some (vI (y)), some (vI (m)), some (vI (kk 201 m))]) rfl (by decide) rfl rfl ?_
            have loopL15 : ∀ (nz : Nat) (nn : Nat → Int → Int) (n : Int), ((wAt g.2.2.2.2.2 m).1 ≤ n ∧ n ≤ (wAt g.2.2.2.2.2 m).2.1 + 1) → (∀ a b, nn a b = if a = 190 then (if 19 + 48 * y + (wAt g.2.2.2.2.2 m).1 ≤ b ∧ b < 19 + 48 * y + n then (wAt g.2.2.2.2.2 m).2.2 else tsW (i 190) y (g.2.2.2.2.2.drop (g.2.2.2.2.2.length - m.toNat)) b) else i1 a b) → ((wAt g.2.2.2.2.2 m).2.1 + 1 - n) < (nz : Int) → mX m_X9_test 7 (qR i l (spTest y (i 190) (i 189 2) (AP i) (AM i) (AK i) (i 193) (i 189 6) (i 189 7) (i 189 8))) 0 0 42 [some (vR (some 189)), some (vI (y)), some (vI (m)), some (vI (n))] [] (st nn l) := by
              intro nz
              induction nz with
              | zero => intro nn n hn hB2 hz; exact absurd hz (by omega)
              | succ nz ihL15 =>
                intro nn n hn hB2 hzL15
                have hl_ : nn 202 m = (wAt g.2.2.2.2.2 m).2.1 := by rw [hB2, if_neg (by omega)]; exact x2
                refine x_iload_n 25 rfl rfl ?_
                refine x_aload_n 26 rfl rfl ?_
                refine x_getR 27 (z := 202) rfl fl_X9_53 (n_lt rfl) k_189 rfl r_189_22 ?_
                refine x_iload_n 28 rfl rfl ?_
                refine x_iald 29 (z := nn 202 m) rfl (n_lt rfl) k_202 (by omega) rfl ?_
                refine x_icmp_gt 30 (tgt := 73) rfl (by decide) (by omega) (fun h16 => ?_) (fun h16 => ?_)
                · have hnE : n = (wAt g.2.2.2.2.2 m).2.1 + 1 := by omega
                  refine x_iinc 43 (L' := [some (vR (some 189)), some (vI (y)), some (vI (m + 1)), some (vI (n))]) rfl (by decide) rfl rfl rfl rfl ?_
                  refine x_goto 44 (tgt := 27) rfl (by decide) ?_
                  refine x_dropL (L' := [some (vR (some 189)), some (vI (y)), some (vI (m + 1)), none]) ⟨rfl, ⟨rfl, ⟨rfl, True.intro⟩⟩⟩ ?_
                  exact ihL10 nn (m + 1) (by omega) (by rw [drop_w hm_.1 (by omega)]; exact ts_out hnE hB2) (by omega)
                · have hc_ : nn 203 m = (wAt g.2.2.2.2.2 m).2.2 := by rw [hB2, if_neg (by omega)]; exact x3
                  refine x_aload_n 31 rfl rfl ?_
                  refine x_iload_n 32 rfl rfl ?_
                  refine x_bipush 33 rfl (by decide) ?_
                  refine x_iload_n 34 rfl rfl ?_
                  refine x_iadd 35 (r := 7 + n) rfl rfl ?_
                  refine x_aload_n 36 rfl rfl ?_
                  refine x_getR 37 (z := 203) rfl fl_X9_56 (n_lt rfl) k_189 rfl r_189_23 ?_
                  refine x_iload_n 38 rfl rfl ?_
                  refine x_iald 39 (z := nn 203 m) rfl (n_lt rfl) k_203 (by omega) rfl ?_
                  refine x_callV 40 m_X9_put (r_put (by omega) (by omega)) rfl ok_X9_put (n_lt rfl) k_189 rfl rfl ml_X9_113 im_X9_put se_X9_put rfl (by decide) rfl (Nat.le_of_ble_eq_true rfl) rfl rfl (fun v g q17 => ?_)
                  obtain ⟨rfl, i18, li18, rfl, hi18⟩ := q17
                  obtain ⟨hEi18, hi18⟩ := hi18
                  have hEi18 := hEi18.symm
                  subst hEi18
                  show mX m_X9_test 7 _ 0 0 _ _ [] _
                  have hput := hi18
                  refine x_iinc 41 (L' := [some (vR (some 189)), some (vI (y)), some (vI (m)), some (vI (n + 1))]) rfl (by decide) rfl rfl rfl rfl ?_
                  refine x_goto 42 (tgt := 42) rfl (by decide) ?_
                  exact ihL15 i18 (n + 1) (by omega) (ts_in (o := 19 + 48 * y) hn.1 hB2 (by rw [hput, hc_]; congr 1; omega)) (by omega)
            exact loopL15 (((wAt g.2.2.2.2.2 m).2.1 + 1 - ((kk 201 m))) + 1 : Int).toNat kk (kk 201 m) (by omega) (by intro a b; rw [hA]; by_cases q : a = 190; (rw [if_pos q, if_pos q, if_neg (by rw [hf1]; omega)]); (rw [if_neg q, if_neg q])) (by omega)
      exact loopL10 ((g.2.2.2.2.2.length - ((0))) + 1 : Int).toNat i9 (0) (by omega) (by intro a b; by_cases q : a = 190; (rw [if_pos q, q, ← i1d, w190, show (g.2.2.2.2.2.length - (0 : Int).toNat) = g.2.2.2.2.2.length by omega, List.drop_length]; rfl); (rw [if_neg q, i1d])) (by omega)
    · obtain ⟨e, hg, e7, e8⟩ := hfR_no hhr (by omega)
      refine x_bipush 10 rfl (by decide) ?_
      refine x_ret 11 (some (vI ((-2)))) rfl ⟨rfl, Or.inl rfl⟩ ⟨_, i5, l, rfl, rfl, ?_⟩
      exact rs_fault rfl hfh e7 e8 hF (by unfold spTest; rw [if_neg (by omega), hg])
  · show mX m_X9_test 7 _ 0 0 _ _ [vI (0)] _
    refine x_if_ne 3 (tgt := 10) rfl (by decide) (by decide) (fun h19 => absurd h19 (by decide)) (fun h19 => ?_)
    refine x_iconst 4 rfl ?_
    refine x_ret 5 (some (vI ((-1)))) rfl ⟨rfl, Or.inl rfl⟩ ⟨_, i, l, rfl, rfl, ?_⟩
    exact rs_ask (rfl) (kA.rf i) rfl hF (by unfold spTest; rw [if_pos (by omega)])
set_option maxRecDepth 20000 in
set_option maxHeartbeats 2000000 in
theorem r_b_attendance {i : Nat → Int → Int} {l : Nat → Int → BitVec 64} (hB : okB (i 190) (i 189 2) (AP i) (AM i) (AK i) (i 193) (i 189 6)) (hF : 0 ≤ i 189 4 ∧ i 189 4 ≤ 3)  : mCtr m_X9_attendance 7 0 0 [vR (some 189)] (st i l) (qR i l (spAtt (i 190) (i 189 2) (AP i) (AM i) (AK i) (i 193) (i 189 6) (i 189 7) (i 189 8))) := by
  refine mCtr_of pl_X9 dc_X9_attendance (Nat.le_of_ble_eq_true rfl) rfl ?_
  show mX m_X9_attendance 7 _ 0 0 0 [some (vR (some 189)), none] [] (st i l)
  have hW := hB.1
  have hN := hW.n
  have hPN := hB.2.1
  have hTN := hB.2.2.2.2.1
  have htc : ∀ k, 0 ≤ k → k < i 189 6 → 32 ≤ i 193 k ∧ i 193 k ≤ 126 := hB.2.2.2.2.2
  refine x_aload_n 0 rfl rfl ?_
  refine x_iconst 1 rfl ?_
  refine x_callV 2 m_X9_hasFault (r_hasFault (by omega) (by omega) (H := i 190 11 - 1) (by rw [if_pos rfl]) (by omega) htc) rfl ok_X9_hasFault (n_lt rfl) k_189 rfl rfl ml_X9_180 im_X9_hasFault se_X9_hasFault rfl (by decide) rfl (Nat.le_of_ble_eq_true rfl) rfl rfl (fun v g q1 => ?_)
  obtain ⟨z3, i2, li2, rfl, rfl, hi2⟩ := q1
  show mX m_X9_attendance 7 _ 0 0 _ _ [vI (z3)] _
  obtain ⟨hz01, hEl, hfh, hhr⟩ := hi2
  have hEl2 := hEl.symm
  subst hEl2
  refine x_if_eq 3 (tgt := 11) rfl (by decide) (by omega) (fun h4 => ?_) (fun h4 => ?_)
  · obtain ⟨g, hg, e20, hent, hlen, e7, e8⟩ := hfR_ok hhr (by omega)
    have hwk0 := okG_read hg
    have hwk : okWs 40 g.2.2.2.2.2 := fun v hv => by have := hwk0 v hv; omega
    have hone := g0_read hg
    refine x_aload_n 6 rfl rfl ?_
    refine x_callV 7 m_X9_remember (r_remember (by rw [hfh 189 2 (by omega) (by omega) (by omega) (by omega)]; omega)) rfl ok_X9_remember (n_lt rfl) k_189 rfl rfl ml_X9_107 im_X9_remember se_X9_remember rfl (by decide) rfl (Nat.le_of_ble_eq_true rfl) rfl rfl (fun v g q5 => ?_)
    obtain ⟨rfl, i6, li6, rfl, hi6⟩ := q5
    obtain ⟨hEi6, hi6⟩ := hi6
    have hEi6 := hEi6.symm
    subst hEi6
    show mX m_X9_attendance 7 _ 0 0 _ _ [] _
    have hm0 := hi6
    obtain ⟨i2, hm, hk2⟩ := rm_k (kA_fH hfh e7 e8) hfh.w hm0
    have w190 : i6 190 = i 190 := (rmI_w _ hm0).trans hfh.w
    obtain ⟨i1, i1d⟩ : ∃ f, f = i6 := ⟨_, rfl⟩
    rw [← i1d] at hm0 w190 hk2
    have f20 : i1 189 20 = (g.2.2.2.2.2.length : Int) := by rw [rmI_e hm0 (by omega)]; exact e20
    have hen1 : entM i1 g.2.2.2.2.2 := hent.c (fun a b ha _ _ => rmI_e hm0 (by omega))
    have w190x : i6 190 = i 190 := by rw [← i1d]; exact w190
    refine x_iconst 8 rfl ?_
    refine x_istore_n 9 (L' := [some (vR (some 189)), some (vI (0))]) rfl (by decide) rfl rfl ?_
    have loopL7 : ∀ (nz : Nat) (jj : Nat → Int → Int) (x : Int), (0 ≤ x ∧ x ≤ i 190 11) → (∀ a b, jj a b = if a = 190 then (if (12 ≤ b ∧ b < 12 + 48 * x) ∧ (b - 12) % 48 = 3 then 1 else i 190 b) else i1 a b) → (i 190 11 - x) < (nz : Int) → mX m_X9_attendance 7 (qR i l (spAtt (i 190) (i 189 2) (AP i) (AM i) (AK i) (i 193) (i 189 6) (i 189 7) (i 189 8))) 0 0 17 [some (vR (some 189)), some (vI (x))] [] (st jj l) := by
      intro nz
      induction nz with
      | zero => intro jj x hx hA hz; exact absurd hz (by omega)
      | succ nz ihL7 =>
        intro jj x hx hA hzL7
        have j11 : jj 190 11 = i 190 11 := by rw [hA, if_pos rfl, if_neg (by omega)]
        refine x_iload_n 10 rfl rfl ?_
        refine x_aload_n 11 rfl rfl ?_
        refine x_getR 12 (z := 190) rfl fl_X9_7 (n_lt rfl) k_189 rfl r_189_0 ?_
        refine x_bipush 13 rfl (by decide) ?_
        refine x_iald 14 (z := jj 190 11) rfl (n_lt rfl) k_190 (by omega) rfl ?_
        refine x_icmp_ge 15 (tgt := 41) rfl (by decide) (by omega) (fun h8 => ?_) (fun h8 => ?_)
        · refine x_iconst 23 rfl ?_
          refine x_istore_n 24 (L' := [some (vR (some 189)), some (vI (0))]) rfl (by decide) rfl rfl ?_
          have loopL9 : ∀ (nz : Nat) (kk : Nat → Int → Int) (m : Int), (0 ≤ m ∧ m ≤ g.2.2.2.2.2.length) → (∀ a b, kk a b = if a = 190 then atW (i 190) (g.2.2.2.2.2.drop (g.2.2.2.2.2.length - m.toNat)) b else i1 a b) → (g.2.2.2.2.2.length - m) < (nz : Int) → mX m_X9_attendance 7 (qR i l (spAtt (i 190) (i 189 2) (AP i) (AM i) (AK i) (i 193) (i 189 6) (i 189 7) (i 189 8))) 0 0 43 [some (vR (some 189)), some (vI (m))] [] (st kk l) := by
            intro nz
            induction nz with
            | zero => intro kk m hm_ hA2 hz; exact absurd hz (by omega)
            | succ nz ihL9 =>
              intro kk m hm_ hA2 hzL9
              have k20 : kk 189 20 = (g.2.2.2.2.2.length : Int) := by rw [hA2, if_neg (by omega)]; exact f20
              refine x_iload_n 25 rfl rfl ?_
              refine x_aload_n 26 rfl rfl ?_
              refine x_getI 27 (z := kk 189 20) rfl fl_X9_154 (n_lt rfl) k_189 rfl rfl ?_
              refine x_icmp_ge 28 (tgt := 69) rfl (by decide) (by omega) (fun h10 => ?_) (fun h10 => ?_)
              · have hme : m = g.2.2.2.2.2.length := by omega
                have k190 : kk 190 = atW (i 190) g.2.2.2.2.2 := by funext b; rw [hA2, if_pos rfl, hme, show (g.2.2.2.2.2.length - (g.2.2.2.2.2.length : Int).toNat) = 0 by omega, List.drop_zero]
                have hWk : okW (kk 190) := by rw [k190]; exact okW_att hW
                refine x_aload_n 39 rfl rfl ?_
                refine x_callV 40 m_X9_absent (r_absent hWk) rfl ok_X9_absent (n_lt rfl) k_189 rfl rfl ml_X9_187 im_X9_absent se_X9_absent rfl (by decide) rfl (Nat.le_of_ble_eq_true rfl) rfl rfl (fun v g q11 => ?_)
                obtain ⟨rfl, rfl⟩ := q11
                show mX m_X9_attendance 7 _ 0 0 _ _ [vI (gAbs (kk 190))] _
                refine x_ret 41 (some (vI (gAbs (kk 190)))) rfl ⟨rfl, Or.inl rfl⟩ ⟨_, kk, l, rfl, rfl, ?_⟩
                have hkk : kA i1 kk := fun a b q => by rw [hA2, if_neg (by omega)]
                exact rs_rem (z' := gAbs (atW (i 190) g.2.2.2.2.2)) (W' := atW (i 190) g.2.2.2.2.2) (by rw [k190]) (by omega) hm (hk2.tr hkk) (fun k _ _ => by rw [k190]) hF (by unfold spAtt; rw [hg])
              · obtain ⟨x1, x2, x3⟩ := hen1 m hm_.1 (by omega)
                obtain ⟨b1, b2, b3, b4⟩ := hwk0 _ (wAt_mem hm_.1 (show m < g.2.2.2.2.2.length by omega))
                have hf1 : kk 201 m = (wAt g.2.2.2.2.2 m).1 := by rw [hA2, if_neg (by omega)]; exact x1
                have hww := hone _ (wAt_mem hm_.1 (show m < g.2.2.2.2.2.length by omega))
                refine x_aload_n 29 rfl rfl ?_
                refine x_aload_n 30 rfl rfl ?_
                refine x_getR 31 (z := 201) rfl fl_X9_50 (n_lt rfl) k_189 rfl r_189_21 ?_
                refine x_iload_n 32 rfl rfl ?_
                refine x_iald 33 (z := kk 201 m) rfl (n_lt rfl) k_201 (by omega) rfl ?_
                refine x_iconst 34 rfl ?_
                refine x_iconst 35 rfl ?_
                refine x_callV 36 m_X9_put (r_put (by omega) (by omega)) rfl ok_X9_put (n_lt rfl) k_189 rfl rfl ml_X9_113 im_X9_put se_X9_put rfl (by decide) rfl (Nat.le_of_ble_eq_true rfl) rfl rfl (fun v g q12 => ?_)
                obtain ⟨rfl, i13, li13, rfl, hi13⟩ := q12
                obtain ⟨hEi13, hi13⟩ := hi13
                have hEi13 := hEi13.symm
                subst hEi13
                show mX m_X9_attendance 7 _ 0 0 _ _ [] _
                have hput2 := hi13
                refine x_iinc 37 (L' := [some (vR (some 189)), some (vI (m + 1))]) rfl (by decide) rfl rfl rfl rfl ?_
                refine x_goto 38 (tgt := 43) rfl (by decide) ?_
                exact ihL9 i13 (m + 1) (by omega) (by rw [drop_w hm_.1 (by omega)]; exact at2_step hww (by omega) hA2 (by rw [hput2, hf1])) (by omega)
          exact loopL9 ((g.2.2.2.2.2.length - ((0))) + 1 : Int).toNat jj (0) (by omega) (by intro a b; rw [hA, show x = i 190 11 by omega]; by_cases q : a = 190; (rw [if_pos q, if_pos q, show (g.2.2.2.2.2.length - (0 : Int).toNat) = g.2.2.2.2.2.length by omega, List.drop_length]; rfl); (rw [if_neg q, if_neg q])) (by omega)
        · refine x_aload_n 16 rfl rfl ?_
          refine x_iload_n 17 rfl rfl ?_
          refine x_iconst 18 rfl ?_
          refine x_iconst 19 rfl ?_
          refine x_callV 20 m_X9_put (r_put (by omega) (by omega)) rfl ok_X9_put (n_lt rfl) k_189 rfl rfl ml_X9_113 im_X9_put se_X9_put rfl (by decide) rfl (Nat.le_of_ble_eq_true rfl) rfl rfl (fun v g q14 => ?_)
          obtain ⟨rfl, i15, li15, rfl, hi15⟩ := q14
          obtain ⟨hEi15, hi15⟩ := hi15
          have hEi15 := hEi15.symm
          subst hEi15
          show mX m_X9_attendance 7 _ 0 0 _ _ [] _
          have hput := hi15
          refine x_iinc 21 (L' := [some (vR (some 189)), some (vI (x + 1))]) rfl (by decide) rfl rfl rfl rfl ?_
          refine x_goto 22 (tgt := 17) rfl (by decide) ?_
          exact ihL7 i15 (x + 1) (by omega) (at1_step hx.1 hA (by rw [hput])) (by omega)
    exact loopL7 ((i 190 11 - ((0))) + 1 : Int).toNat i6 (0) (by omega) (by intro a b; by_cases q : a = 190; (rw [if_pos q, if_neg (by omega), q, w190x]); (rw [if_neg q, i1d])) (by omega)
  · obtain ⟨e, hg, e7, e8⟩ := hfR_no hhr (by omega)
    refine x_bipush 4 rfl (by decide) ?_
    refine x_ret 5 (some (vI ((-2)))) rfl ⟨rfl, Or.inl rfl⟩ ⟨_, i2, l, rfl, rfl, ?_⟩
    exact rs_fault rfl hfh e7 e8 hF (by unfold spAtt; rw [hg])
