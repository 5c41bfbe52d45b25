/-! the other book reads a whole text -/
def gfin (i : Nat → Int → Int) : gT ⊕ (Int × Int) → Prop
  | .inl g => i 189 24 = -9 ∧ i 189 20 = g.2.2.2.2.2.length ∧ entM i g.2.2.2.2.2 ∧ g.2.2.2.2.2.length ≤ 30
  | .inr e => i 189 24 = e.1 ∧ i 189 25 = e.2 ∧ 1 ≤ e.1 ∧ e.1 ≤ 3
theorem gfin_bad {i : Nat → Int → Int} {sg hi x n : Int} {f : Int → Int} (h : simMR i x (gRun sg hi f x.toNat)) (hz : i 189 24 ≠ -9) (hn : x ≤ n) : gfin i (gRead sg hi f n) := by
  cases hr : gRun sg hi f x.toNat with
  | inl s => rw [hr] at h; exact absurd h.1 hz
  | inr e => rw [hr] at h; rw [gRead_bad hr hn]; exact h
theorem gfin_end {i i1 i' : Nat → Int → Int} {s : gT} {sg hi n z : Int} {f : Int → Int} (hgs : gRun sg hi f n.toNat = .inl s) (h : simM i s) (hl : lenM s n) (hn : n ≤ 60) (hw : i 189 24 = -9) (he : ewR i i1 hi z s)
    (hc : (z = 0 ∧ i' = i1) ∨ (z = 1 ∧ ((i 189 26 = 2 ∧ i' = mU (mU i1 189 24 3) 189 25 n) ∨ (i 189 26 ≠ 2 ∧ i' = mU i1 189 20 (i1 189 20 + (if i 189 26 = 0 then 0 else 1)))))) : gfin i' (gRead sg hi f n) := by
  have := he_res h (okG_run hgs) hl hn hw he hc
  rw [gRead_end hgs]
  cases hE : gEnd hi n s with
  | inl g => rw [hE] at this; exact this
  | inr e => rw [hE] at this; exact this
theorem gfin_24 {i : Nat → Int → Int} {r : gT ⊕ (Int × Int)} (h : gfin i r) : -9 ≤ i 189 24 ∧ i 189 24 ≤ 3 := by
  cases r with
  | inl s => have := h.1; omega
  | inr e => obtain ⟨h1, h2, h3, h4⟩ := h; omega
theorem hf_ok {i0 i : Nat → Int → Int} {r : gT ⊕ (Int × Int)} (h : gfin i r) (hz : i 189 24 = -9) (h7 : i 189 7 = i0 189 7) (h8 : i 189 8 = i0 189 8) : hfR i0 i 0 r := by
  cases r with
  | inl s => exact ⟨rfl, h.2.1, h.2.2.1, h.2.2.2, h7, h8⟩
  | inr e => obtain ⟨h1, h2, h3, h4⟩ := h; omega
theorem hf_no {i0 i i' : Nat → Int → Int} {r : gT ⊕ (Int × Int)} (h : gfin i r) (hz : i 189 24 ≠ -9) (h7 : i' 189 7 = i 189 24) (h8 : i' 189 8 = i 189 25) : hfR i0 i' 1 r := by
  cases r with
  | inl s => exact absurd h.1 hz
  | inr e => exact ⟨rfl, h7.trans h.1, h8.trans h.2.1⟩
theorem ew_o {i i' : Nat → Int → Int} {hi z : Int} {s : gT} (h : ewR i i' hi z s) : i' 189 7 = i 189 7 ∧ i' 189 8 = i 189 8 ∧ i' 189 6 = i 189 6 := by
  have hf := ew_fM h
  exact ⟨hf 189 7 (by omega) (by omega) (by omega) (by omega), hf 189 8 (by omega) (by omega) (by omega) (by omega), hf 189 6 (by omega) (by omega) (by omega) (by omega)⟩
set_option maxRecDepth 20000 in
set_option maxHeartbeats 2000000 in
theorem r_hasFault {i : Nat → Int → Int} {l : Nat → Int → BitVec 64} (hn : 0 ≤ i 190 11 ∧ i 190 11 ≤ 10) {b : Int} (hb : b = 0 ∨ b = 1) {H : Int} (hH : H = if b = 0 then i 190 11 - 1 else 40) (ht : 0 ≤ i 189 6 ∧ i 189 6 ≤ 60) (hc : ∀ k, 0 ≤ k → k < i 189 6 → 32 ≤ i 193 k ∧ i 193 k ≤ 126) : mCtr m_X9_hasFault 4 0 0 [vR (some 189), vI (b)] (st i l) (qW (fun z i' l' => (z = 0 ∨ z = 1) ∧ l' = l ∧ fH i i' ∧ hfR i i' z (gRead b H (i 193) (i 189 6)))) := by
  refine mCtr_of pl_X9 dc_X9_hasFault (Nat.le_of_ble_eq_true rfl) rfl ?_
  show mX m_X9_hasFault 4 _ 0 0 0 [some (vR (some 189)), some (vI (b)), none] [] (st i l)
  refine x_aload_n 0 rfl rfl ?_
  refine x_bipush 1 rfl (by decide) ?_
  refine x_bipush 2 rfl (by decide) ?_
  refine x_callV 3 m_X9_fails r_fails rfl ok_X9_fails (n_lt rfl) k_189 rfl rfl ml_X9_160 im_X9_fails se_X9_fails rfl (by decide) rfl (Nat.le_of_ble_eq_true rfl) rfl rfl (fun v g q1 => ?_)
  obtain ⟨rfl, i2, li2, rfl, hi2⟩ := q1
  obtain ⟨hEi2, hi2⟩ := hi2
  have hEi2 := hEi2.symm
  subst hEi2
  show mX m_X9_hasFault 4 _ 0 0 _ _ [] _
  have g1 := hi2
  refine x_aload_n 4 rfl rfl ?_
  refine x_iconst 5 rfl ?_
  obtain ⟨i3, hi3⟩ : ∃ f, f = mU i2 189 20 (0) := ⟨_, rfl⟩
  refine x_putI 6 rfl fl_X9_154 (n_lt rfl) k_189 rfl rfl (g' := st i3 l) (by subst hi3; rfl) ?_
  have g2 := hi3
  rw [g1] at g2
  refine x_aload_n 7 rfl rfl ?_
  refine x_iconst 8 rfl ?_
  obtain ⟨i4, hi4⟩ : ∃ f, f = mU i3 189 26 (0) := ⟨_, rfl⟩
  refine x_putI 9 rfl fl_X9_145 (n_lt rfl) k_189 rfl rfl (g' := st i4 l) (by subst hi4; rfl) ?_
  have g3 := hi4
  rw [g2] at g3
  have w11_ : i4 190 11 = i 190 11 := by rw [g3]; simp [mU]
  refine x_aload_n 10 rfl rfl ?_
  refine x_iload_n 11 rfl rfl ?_
  refine x_if_eq 12 (tgt := 28) rfl (by decide) (by omega) (fun h5 => ?_) (fun h5 => ?_)
  · refine x_aload_n 15 rfl rfl ?_
    refine x_getR 16 (z := 190) rfl fl_X9_7 (n_lt rfl) k_189 rfl r_189_0 ?_
    refine x_bipush 17 rfl (by decide) ?_
    refine x_iald 18 (z := i4 190 11) rfl (n_lt rfl) k_190 (by omega) rfl ?_
    refine x_iconst 19 rfl ?_
    refine x_isub 20 (r := (i4 190 11) - 1) rfl rfl ?_
    obtain ⟨i6, hi6⟩ : ∃ f, f = mU i4 189 30 ((i4 190 11) - 1) := ⟨_, rfl⟩
    refine x_putI 21 rfl fl_X9_151 (n_lt rfl) k_189 rfl rfl (g' := st i6 l) (by subst hi6; rfl) ?_
    have gz := hi6
    rw [g3] at gz
    refine x_iconst 22 rfl ?_
    refine x_istore_n 23 (L' := [some (vR (some 189)), some (vI (b)), some (vI (0))]) rfl (by decide) rfl rfl ?_
    have p1 : i6 = mU (mU (mU (mU (mU i 189 24 (-9)) 189 25 (-9)) 189 20 0) 189 26 0) 189 30 H := by rw [gz]; congr 1; rw [hH]; first | (rw [if_pos (by omega)]; simp [mU]; done) | (rw [if_neg (by omega)])
    have hHb : -1 ≤ H ∧ H ≤ 40 := by rw [hH]; split <;> omega
    have loopL7 : ∀ (nz : Nat) (ii : Nat → Int → Int) (x : Int), (0 ≤ x ∧ x ≤ i 189 6) → (fH i ii) → (ii 189 30 = H) → (ii 189 7 = i 189 7) → (ii 189 8 = i 189 8) → (simMR ii x (gRun b H (i 193) x.toNat)) → (i 189 6 - x) < (nz : Int) → mX m_X9_hasFault 4 (qW (fun z i' l' => (z = 0 ∨ z = 1) ∧ l' = l ∧ fH i i' ∧ hfR i i' z (gRead b H (i 193) (i 189 6)))) 0 0 42 [some (vR (some 189)), some (vI (b)), some (vI (x))] [] (st ii l) := by
      intro nz
      induction nz with
      | zero => intro ii x hx hf k30 k_7 k_8 hr hz; exact absurd hz (by omega)
      | succ nz ihL7 =>
        intro ii x hx hf k30 k_7 k_8 hr hzL7
        have e6 : ii 189 6 = i 189 6 := hf 189 6 (by omega) (by omega) (by omega) (by omega)
        have h24_ := simMR_24 hr
        refine x_iload_n 24 rfl rfl ?_
        refine x_aload_n 25 rfl rfl ?_
        refine x_getI 26 (z := ii 189 6) rfl fl_X9_170 (n_lt rfl) k_189 rfl rfl ?_
        refine x_icmp_ge 27 (tgt := 95) rfl (by decide) (by omega) (fun h8 => ?_) (fun h8 => ?_)
        · refine x_aload_n 50 rfl rfl ?_
          refine x_getI 51 (z := ii 189 24) rfl fl_X9_139 (n_lt rfl) k_189 rfl rfl ?_
          refine x_bipush 52 rfl (by decide) ?_
          refine x_icmp_ne 53 (tgt := 152) rfl (by decide) (by omega) (fun h9 => ?_) (fun h9 => ?_)
          · have hF : fH i ii := by first | exact hf | exact hf.tr (fH.of hfe) | (exact (hf.tr (fH.of hfe)).tr (fun a c q1 q2 q3 q4 => by rw [gA]; simp only [mU]; rw [if_neg (by omega), if_neg (by omega)])) | (exact (hf.tr (fH.of hfe)).tr (fun a c q1 q2 q3 q4 => by rw [gB]; simp only [mU]; rw [if_neg (by omega)]))
            have hk7 : ii 189 7 = i 189 7 := by first | exact k_7 | exact eo.1.trans k_7 | (rw [gA, mUek _ _ _ _ (by omega), mUek _ _ _ _ (by omega)]; exact eo.1.trans k_7) | (rw [gB, mUek _ _ _ _ (by omega)]; exact eo.1.trans k_7)
            have hk8 : ii 189 8 = i 189 8 := by first | exact k_8 | exact eo.2.1.trans k_8 | (rw [gA, mUek _ _ _ _ (by omega), mUek _ _ _ _ (by omega)]; exact eo.2.1.trans k_8) | (rw [gB, mUek _ _ _ _ (by omega)]; exact eo.2.1.trans k_8)
            have hR : gfin ii (gRead b H (i 193) (i 189 6)) := by first | (exact gfin_bad hr (by omega) hx.2) | (exact gfin_end hgs hs hl (by omega) (by omega) hew (Or.inl ⟨by omega, rfl⟩)) | (exact gfin_end hgs hs hl (by omega) (by omega) hew (Or.inr ⟨by omega, Or.inl ⟨by omega, gA⟩⟩)) | (exact gfin_end hgs hs hl (by omega) (by omega) hew (Or.inr ⟨by omega, Or.inr ⟨by omega, by rw [gB]; first | (rw [if_pos (by omega)]) | (rw [if_neg (by omega)])⟩⟩))
            have hR24 := gfin_24 hR
            obtain ⟨iR, hiR⟩ : ∃ f, f = ii := ⟨_, rfl⟩
            refine x_aload_n 78 rfl rfl ?_
            refine x_getI 79 (z := ii 189 24) rfl fl_X9_139 (n_lt rfl) k_189 rfl rfl ?_
            refine x_bipush 80 rfl (by decide) ?_
            refine x_icmp_eq 81 (tgt := 177) rfl (by decide) (by omega) (fun h10 => absurd h10 (by omega)) (fun h10 => ?_)
            refine x_aload_n 82 rfl rfl ?_
            refine x_aload_n 83 rfl rfl ?_
            refine x_getI 84 (z := ii 189 24) rfl fl_X9_139 (n_lt rfl) k_189 rfl rfl ?_
            obtain ⟨i11, hi11⟩ : ∃ f, f = mU ii 189 7 (ii 189 24) := ⟨_, rfl⟩
            refine x_putI 85 rfl fl_X9_22 (n_lt rfl) k_189 rfl rfl (g' := st i11 l) (by subst hi11; rfl) ?_
            have gC := hi11
            have c24 : i11 189 24 = ii 189 24 := by rw [gC, mUek _ _ _ _ (by omega)]
            have c25 : i11 189 25 = ii 189 25 := by rw [gC, mUek _ _ _ _ (by omega)]
            refine x_aload_n 86 rfl rfl ?_
            refine x_aload_n 87 rfl rfl ?_
            refine x_getI 88 (z := i11 189 25) rfl fl_X9_142 (n_lt rfl) k_189 rfl rfl ?_
            obtain ⟨i12, hi12⟩ : ∃ f, f = mU i11 189 8 (i11 189 25) := ⟨_, rfl⟩
            refine x_putI 89 rfl fl_X9_26 (n_lt rfl) k_189 rfl rfl (g' := st i12 l) (by subst hi12; rfl) ?_
            have gD := hi12
            have d24 : i12 189 24 = i11 189 24 := by rw [gD, mUek _ _ _ _ (by omega)]
            refine x_aload_n 90 rfl rfl ?_
            refine x_getI 91 (z := i12 189 24) rfl fl_X9_139 (n_lt rfl) k_189 rfl rfl ?_
            refine x_bipush 92 rfl (by decide) ?_
            refine x_icmp_eq 93 (tgt := 190) rfl (by decide) (by omega) (fun h13 => ?_) (fun h13 => ?_)
            · refine x_iconst 96 rfl ?_
              refine x_ret 97 (some (vI (0))) rfl ⟨rfl, Or.inr ⟨rfl, by omega⟩⟩ ⟨_, i12, l, rfl, rfl, ?_⟩
              first
                | (exfalso; omega)
                | (exact ⟨Or.inl rfl, rfl, hF, hf_ok hR (by omega) hk7 hk8⟩)
                | (refine ⟨Or.inr rfl, rfl, hF.tr (fun a c q1 q2 q3 q4 => by rw [gD]; simp only [mU]; rw [if_neg (by omega), gC]; simp only [mU]; rw [if_neg (by omega)]), hf_no hR (by omega) ?_ ?_⟩
                   · rw [gD, mUek _ _ _ _ (by omega), gC, mUs]
                   · rw [gD, mUs]; exact c25)
            · refine x_iconst 94 rfl ?_
              refine x_goto 95 (tgt := 191) rfl (by decide) ?_
              refine x_ret 97 (some (vI (1))) rfl ⟨rfl, Or.inr ⟨rfl, by omega⟩⟩ ⟨_, i12, l, rfl, rfl, ?_⟩
              first
                | (exfalso; omega)
                | (exact ⟨Or.inl rfl, rfl, hF, hf_ok hR (by omega) hk7 hk8⟩)
                | (refine ⟨Or.inr rfl, rfl, hF.tr (fun a c q1 q2 q3 q4 => by rw [gD]; simp only [mU]; rw [if_neg (by omega), gC]; simp only [mU]; rw [if_neg (by omega)]), hf_no hR (by omega) ?_ ?_⟩
                   · rw [gD, mUek _ _ _ _ (by omega), gC, mUs]
                   · rw [gD, mUs]; exact c25)
          · have hxe : x = i 189 6 := by omega
            obtain ⟨s, hgs, hs, hl⟩ := simMR_ok hr (by omega)
            have hg := okG_run hgs
            have h29 := lenM_29 hl (by omega)
            have hs1 := hs.1
            have hg1 := hg.1
            refine x_aload_n 54 rfl rfl ?_
            refine x_callV 55 m_X9_endsWell (r_endsWell hs (by rw [k30]; exact hg) (by omega) h29) rfl ok_X9_endsWell (n_lt rfl) k_189 rfl rfl ml_X9_166 im_X9_endsWell se_X9_endsWell rfl (by decide) rfl (Nat.le_of_ble_eq_true rfl) rfl rfl (fun v g q14 => ?_)
            obtain ⟨z16, i15, li15, rfl, rfl, hi15⟩ := q14
            show mX m_X9_hasFault 4 _ 0 0 _ _ [vI (z16)] _
            obtain ⟨hz, hew, rfl⟩ := hi15
            rw [k30] at hew
            have hfe := ew_fM hew
            have eo := ew_o hew
            have w26 := ew_26 hew
            rw [hxe] at hgs hl
            refine x_if_eq 56 (tgt := 152) rfl (by decide) (by omega) (fun h17 => ?_) (fun h17 => ?_)
            · have hF : fH i i15 := by first | exact hf | exact hf.tr (fH.of hfe) | (exact (hf.tr (fH.of hfe)).tr (fun a c q1 q2 q3 q4 => by rw [gA]; simp only [mU]; rw [if_neg (by omega), if_neg (by omega)])) | (exact (hf.tr (fH.of hfe)).tr (fun a c q1 q2 q3 q4 => by rw [gB]; simp only [mU]; rw [if_neg (by omega)]))
              have hk7 : i15 189 7 = i 189 7 := by first | exact k_7 | exact eo.1.trans k_7 | (rw [gA, mUek _ _ _ _ (by omega), mUek _ _ _ _ (by omega)]; exact eo.1.trans k_7) | (rw [gB, mUek _ _ _ _ (by omega)]; exact eo.1.trans k_7)
              have hk8 : i15 189 8 = i 189 8 := by first | exact k_8 | exact eo.2.1.trans k_8 | (rw [gA, mUek _ _ _ _ (by omega), mUek _ _ _ _ (by omega)]; exact eo.2.1.trans k_8) | (rw [gB, mUek _ _ _ _ (by omega)]; exact eo.2.1.trans k_8)
              have hR : gfin i15 (gRead b H (i 193) (i 189 6)) := by first | (exact gfin_bad hr (by omega) hx.2) | (exact gfin_end hgs hs hl (by omega) (by omega) hew (Or.inl ⟨by omega, rfl⟩)) | (exact gfin_end hgs hs hl (by omega) (by omega) hew (Or.inr ⟨by omega, Or.inl ⟨by omega, gA⟩⟩)) | (exact gfin_end hgs hs hl (by omega) (by omega) hew (Or.inr ⟨by omega, Or.inr ⟨by omega, by rw [gB]; first | (rw [if_pos (by omega)]) | (rw [if_neg (by omega)])⟩⟩))
              have hR24 := gfin_24 hR
              obtain ⟨iR, hiR⟩ : ∃ f, f = i15 := ⟨_, rfl⟩
              refine x_aload_n 78 rfl rfl ?_
              refine x_getI 79 (z := i15 189 24) rfl fl_X9_139 (n_lt rfl) k_189 rfl rfl ?_
              refine x_bipush 80 rfl (by decide) ?_
              refine x_icmp_eq 81 (tgt := 177) rfl (by decide) (by omega) (fun h18 => ?_) (fun h18 => ?_)
              · refine x_aload_n 90 rfl rfl ?_
                refine x_getI 91 (z := i15 189 24) rfl fl_X9_139 (n_lt rfl) k_189 rfl rfl ?_
                refine x_bipush 92 rfl (by decide) ?_
                refine x_icmp_eq 93 (tgt := 190) rfl (by decide) (by omega) (fun h19 => ?_) (fun h19 => absurd h19 (by omega))
                refine x_iconst 96 rfl ?_
                refine x_ret 97 (some (vI (0))) rfl ⟨rfl, Or.inr ⟨rfl, by omega⟩⟩ ⟨_, i15, li15, rfl, rfl, ?_⟩
                first
                  | (exfalso; omega)
                  | (exact ⟨Or.inl rfl, rfl, hF, hf_ok hR (by omega) hk7 hk8⟩)
                  | (refine ⟨Or.inr rfl, rfl, hF.tr (fun a c q1 q2 q3 q4 => by rw [gD]; simp only [mU]; rw [if_neg (by omega), gC]; simp only [mU]; rw [if_neg (by omega)]), hf_no hR (by omega) ?_ ?_⟩
                     · rw [gD, mUek _ _ _ _ (by omega), gC, mUs]
                     · rw [gD, mUs]; exact c25)
              · refine x_aload_n 82 rfl rfl ?_
                refine x_aload_n 83 rfl rfl ?_
                refine x_getI 84 (z := i15 189 24) rfl fl_X9_139 (n_lt rfl) k_189 rfl rfl ?_
                obtain ⟨i20, hi20⟩ : ∃ f, f = mU i15 189 7 (i15 189 24) := ⟨_, rfl⟩
                refine x_putI 85 rfl fl_X9_22 (n_lt rfl) k_189 rfl rfl (g' := st i20 li15) (by subst hi20; rfl) ?_
                have gC := hi20
                have c24 : i20 189 24 = i15 189 24 := by rw [gC, mUek _ _ _ _ (by omega)]
                have c25 : i20 189 25 = i15 189 25 := by rw [gC, mUek _ _ _ _ (by omega)]
                refine x_aload_n 86 rfl rfl ?_
                refine x_aload_n 87 rfl rfl ?_
                refine x_getI 88 (z := i20 189 25) rfl fl_X9_142 (n_lt rfl) k_189 rfl rfl ?_
                obtain ⟨i21, hi21⟩ : ∃ f, f = mU i20 189 8 (i20 189 25) := ⟨_, rfl⟩
                refine x_putI 89 rfl fl_X9_26 (n_lt rfl) k_189 rfl rfl (g' := st i21 li15) (by subst hi21; rfl) ?_
                have gD := hi21
                have d24 : i21 189 24 = i20 189 24 := by rw [gD, mUek _ _ _ _ (by omega)]
                refine x_aload_n 90 rfl rfl ?_
                refine x_getI 91 (z := i21 189 24) rfl fl_X9_139 (n_lt rfl) k_189 rfl rfl ?_
                refine x_bipush 92 rfl (by decide) ?_
                refine x_icmp_eq 93 (tgt := 190) rfl (by decide) (by omega) (fun h22 => ?_) (fun h22 => ?_)
                · refine x_iconst 96 rfl ?_
                  refine x_ret 97 (some (vI (0))) rfl ⟨rfl, Or.inr ⟨rfl, by omega⟩⟩ ⟨_, i21, li15, rfl, rfl, ?_⟩
                  first
                    | (exfalso; omega)
                    | (exact ⟨Or.inl rfl, rfl, hF, hf_ok hR (by omega) hk7 hk8⟩)
                    | (refine ⟨Or.inr rfl, rfl, hF.tr (fun a c q1 q2 q3 q4 => by rw [gD]; simp only [mU]; rw [if_neg (by omega), gC]; simp only [mU]; rw [if_neg (by omega)]), hf_no hR (by omega) ?_ ?_⟩
                       · rw [gD, mUek _ _ _ _ (by omega), gC, mUs]
                       · rw [gD, mUs]; exact c25)
                · refine x_iconst 94 rfl ?_
                  refine x_goto 95 (tgt := 191) rfl (by decide) ?_
                  refine x_ret 97 (some (vI (1))) rfl ⟨rfl, Or.inr ⟨rfl, by omega⟩⟩ ⟨_, i21, li15, rfl, rfl, ?_⟩
                  first
                    | (exfalso; omega)
                    | (exact ⟨Or.inl rfl, rfl, hF, hf_ok hR (by omega) hk7 hk8⟩)
                    | (refine ⟨Or.inr rfl, rfl, hF.tr (fun a c q1 q2 q3 q4 => by rw [gD]; simp only [mU]; rw [if_neg (by omega), gC]; simp only [mU]; rw [if_neg (by omega)]), hf_no hR (by omega) ?_ ?_⟩
                       · rw [gD, mUek _ _ _ _ (by omega), gC, mUs]
                       · rw [gD, mUs]; exact c25)
            · refine x_aload_n 57 rfl rfl ?_
              refine x_getI 58 (z := i15 189 26) rfl fl_X9_145 (n_lt rfl) k_189 rfl rfl ?_
              refine x_iconst 59 rfl ?_
              refine x_icmp_ne 60 (tgt := 131) rfl (by decide) (by omega) (fun h23 => ?_) (fun h23 => ?_)
              · refine x_aload_n 67 rfl rfl ?_
                refine x_dup 68 rfl rfl ?_
                refine x_getI 69 (z := i15 189 20) rfl fl_X9_154 (n_lt rfl) k_189 rfl rfl ?_
                refine x_aload_n 70 rfl rfl ?_
                refine x_getI 71 (z := i15 189 26) rfl fl_X9_145 (n_lt rfl) k_189 rfl rfl ?_
                refine x_if_ne 72 (tgt := 147) rfl (by decide) (by omega) (fun h24 => ?_) (fun h24 => ?_)
                · refine x_iconst 75 rfl ?_
                  refine x_iadd 76 (r := (i15 189 20) + 1) rfl rfl ?_
                  obtain ⟨i25, hi25⟩ : ∃ f, f = mU i15 189 20 ((i15 189 20) + 1) := ⟨_, rfl⟩
                  refine x_putI 77 rfl fl_X9_154 (n_lt rfl) k_189 rfl rfl (g' := st i25 li15) (by subst hi25; rfl) ?_
                  have gB := hi25
                  have hF : fH i i25 := by first | exact hf | exact hf.tr (fH.of hfe) | (exact (hf.tr (fH.of hfe)).tr (fun a c q1 q2 q3 q4 => by rw [gA]; simp only [mU]; rw [if_neg (by omega), if_neg (by omega)])) | (exact (hf.tr (fH.of hfe)).tr (fun a c q1 q2 q3 q4 => by rw [gB]; simp only [mU]; rw [if_neg (by omega)]))
                  have hk7 : i25 189 7 = i 189 7 := by first | exact k_7 | exact eo.1.trans k_7 | (rw [gA, mUek _ _ _ _ (by omega), mUek _ _ _ _ (by omega)]; exact eo.1.trans k_7) | (rw [gB, mUek _ _ _ _ (by omega)]; exact eo.1.trans k_7)
                  have hk8 : i25 189 8 = i 189 8 := by first | exact k_8 | exact eo.2.1.trans k_8 | (rw [gA, mUek _ _ _ _ (by omega), mUek _ _ _ _ (by omega)]; exact eo.2.1.trans k_8) | (rw [gB, mUek _ _ _ _ (by omega)]; exact eo.2.1.trans k_8)
                  have hR : gfin i25 (gRead b H (i 193) (i 189 6)) := by first | (exact gfin_bad hr (by omega) hx.2) | (exact gfin_end hgs hs hl (by omega) (by omega) hew (Or.inl ⟨by omega, rfl⟩)) | (exact gfin_end hgs hs hl (by omega) (by omega) hew (Or.inr ⟨by omega, Or.inl ⟨by omega, gA⟩⟩)) | (exact gfin_end hgs hs hl (by omega) (by omega) hew (Or.inr ⟨by omega, Or.inr ⟨by omega, by rw [gB]; first | (rw [if_pos (by omega)]) | (rw [if_neg (by omega)])⟩⟩))
                  have hR24 := gfin_24 hR
                  obtain ⟨iR, hiR⟩ : ∃ f, f = i25 := ⟨_, rfl⟩
                  refine x_aload_n 78 rfl rfl ?_
                  refine x_getI 79 (z := i25 189 24) rfl fl_X9_139 (n_lt rfl) k_189 rfl rfl ?_
                  refine x_bipush 80 rfl (by decide) ?_
                  refine x_icmp_eq 81 (tgt := 177) rfl (by decide) (by omega) (fun h26 => ?_) (fun h26 => ?_)
                  · refine x_aload_n 90 rfl rfl ?_
                    refine x_getI 91 (z := i25 189 24) rfl fl_X9_139 (n_lt rfl) k_189 rfl rfl ?_
                    refine x_bipush 92 rfl (by decide) ?_
                    refine x_icmp_eq 93 (tgt := 190) rfl (by decide) (by omega) (fun h27 => ?_) (fun h27 => absurd h27 (by omega))
                    refine x_iconst 96 rfl ?_
                    refine x_ret 97 (some (vI (0))) rfl ⟨rfl, Or.inr ⟨rfl, by omega⟩⟩ ⟨_, i25, li15, rfl, rfl, ?_⟩
                    first
                      | (exfalso; omega)
                      | (exact ⟨Or.inl rfl, rfl, hF, hf_ok hR (by omega) hk7 hk8⟩)
                      | (refine ⟨Or.inr rfl, rfl, hF.tr (fun a c q1 q2 q3 q4 => by rw [gD]; simp only [mU]; rw [if_neg (by omega), gC]; simp only [mU]; rw [if_neg (by omega)]), hf_no hR (by omega) ?_ ?_⟩
                         · rw [gD, mUek _ _ _ _ (by omega), gC, mUs]
                         · rw [gD, mUs]; exact c25)
                  · refine x_aload_n 82 rfl rfl ?_
                    refine x_aload_n 83 rfl rfl ?_
                    refine x_getI 84 (z := i25 189 24) rfl fl_X9_139 (n_lt rfl) k_189 rfl rfl ?_
                    obtain ⟨i28, hi28⟩ : ∃ f, f = mU i25 189 7 (i25 189 24) := ⟨_, rfl⟩
                    refine x_putI 85 rfl fl_X9_22 (n_lt rfl) k_189 rfl rfl (g' := st i28 li15) (by subst hi28; rfl) ?_
                    have gC := hi28
                    have c24 : i28 189 24 = i25 189 24 := by rw [gC, mUek _ _ _ _ (by omega)]
                    have c25 : i28 189 25 = i25 189 25 := by rw [gC, mUek _ _ _ _ (by omega)]
                    refine x_aload_n 86 rfl rfl ?_
                    refine x_aload_n 87 rfl rfl ?_
                    refine x_getI 88 (z := i28 189 25) rfl fl_X9_142 (n_lt rfl) k_189 rfl rfl ?_
                    obtain ⟨i29, hi29⟩ : ∃ f, f = mU i28 189 8 (i28 189 25) := ⟨_, rfl⟩
                    refine x_putI 89 rfl fl_X9_26 (n_lt rfl) k_189 rfl rfl (g' := st i29 li15) (by subst hi29; rfl) ?_
                    have gD := hi29
                    have d24 : i29 189 24 = i28 189 24 := by rw [gD, mUek _ _ _ _ (by omega)]
                    refine x_aload_n 90 rfl rfl ?_
                    refine x_getI 91 (z := i29 189 24) rfl fl_X9_139 (n_lt rfl) k_189 rfl rfl ?_
                    refine x_bipush 92 rfl (by decide) ?_
                    refine x_icmp_eq 93 (tgt := 190) rfl (by decide) (by omega) (fun h30 => ?_) (fun h30 => ?_)
                    · refine x_iconst 96 rfl ?_
                      refine x_ret 97 (some (vI (0))) rfl ⟨rfl, Or.inr ⟨rfl, by omega⟩⟩ ⟨_, i29, li15, rfl, rfl, ?_⟩
                      first
                        | (exfalso; omega)
                        | (exact ⟨Or.inl rfl, rfl, hF, hf_ok hR (by omega) hk7 hk8⟩)
                        | (refine ⟨Or.inr rfl, rfl, hF.tr (fun a c q1 q2 q3 q4 => by rw [gD]; simp only [mU]; rw [if_neg (by omega), gC]; simp only [mU]; rw [if_neg (by omega)]), hf_no hR (by omega) ?_ ?_⟩
                           · rw [gD, mUek _ _ _ _ (by omega), gC, mUs]
                           · rw [gD, mUs]; exact c25)
                    · refine x_iconst 94 rfl ?_
                      refine x_goto 95 (tgt := 191) rfl (by decide) ?_
                      refine x_ret 97 (some (vI (1))) rfl ⟨rfl, Or.inr ⟨rfl, by omega⟩⟩ ⟨_, i29, li15, rfl, rfl, ?_⟩
                      first
                        | (exfalso; omega)
                        | (exact ⟨Or.inl rfl, rfl, hF, hf_ok hR (by omega) hk7 hk8⟩)
                        | (refine ⟨Or.inr rfl, rfl, hF.tr (fun a c q1 q2 q3 q4 => by rw [gD]; simp only [mU]; rw [if_neg (by omega), gC]; simp only [mU]; rw [if_neg (by omega)]), hf_no hR (by omega) ?_ ?_⟩
                           · rw [gD, mUek _ _ _ _ (by omega), gC, mUs]
                           · rw [gD, mUs]; exact c25)
                · refine x_iconst 73 rfl ?_
                  refine x_goto 74 (tgt := 148) rfl (by decide) ?_
                  refine x_iadd 76 (r := (i15 189 20) + 0) rfl rfl ?_
                  obtain ⟨i31, hi31⟩ : ∃ f, f = mU i15 189 20 ((i15 189 20) + 0) := ⟨_, rfl⟩
                  refine x_putI 77 rfl fl_X9_154 (n_lt rfl) k_189 rfl rfl (g' := st i31 li15) (by subst hi31; rfl) ?_
                  have gB := hi31
                  have hF : fH i i31 := by first | exact hf | exact hf.tr (fH.of hfe) | (exact (hf.tr (fH.of hfe)).tr (fun a c q1 q2 q3 q4 => by rw [gA]; simp only [mU]; rw [if_neg (by omega), if_neg (by omega)])) | (exact (hf.tr (fH.of hfe)).tr (fun a c q1 q2 q3 q4 => by rw [gB]; simp only [mU]; rw [if_neg (by omega)]))
                  have hk7 : i31 189 7 = i 189 7 := by first | exact k_7 | exact eo.1.trans k_7 | (rw [gA, mUek _ _ _ _ (by omega), mUek _ _ _ _ (by omega)]; exact eo.1.trans k_7) | (rw [gB, mUek _ _ _ _ (by omega)]; exact eo.1.trans k_7)
                  have hk8 : i31 189 8 = i 189 8 := by first | exact k_8 | exact eo.2.1.trans k_8 | (rw [gA, mUek _ _ _ _ (by omega), mUek _ _ _ _ (by omega)]; exact eo.2.1.trans k_8) | (rw [gB, mUek _ _ _ _ (by omega)]; exact eo.2.1.trans k_8)
                  have hR : gfin i31 (gRead b H (i 193) (i 189 6)) := by first | (exact gfin_bad hr (by omega) hx.2) | (exact gfin_end hgs hs hl (by omega) (by omega) hew (Or.inl ⟨by omega, rfl⟩)) | (exact gfin_end hgs hs hl (by omega) (by omega) hew (Or.inr ⟨by omega, Or.inl ⟨by omega, gA⟩⟩)) | (exact gfin_end hgs hs hl (by omega) (by omega) hew (Or.inr ⟨by omega, Or.inr ⟨by omega, by rw [gB]; first | (rw [if_pos (by omega)]) | (rw [if_neg (by omega)])⟩⟩))
                  have hR24 := gfin_24 hR
                  obtain ⟨iR, hiR⟩ : ∃ f, f = i31 := ⟨_, rfl⟩
                  refine x_aload_n 78 rfl rfl ?_
                  refine x_getI 79 (z := i31 189 24) rfl fl_X9_139 (n_lt rfl) k_189 rfl rfl ?_
                  refine x_bipush 80 rfl (by decide) ?_
                  refine x_icmp_eq 81 (tgt := 177) rfl (by decide) (by omega) (fun h32 => ?_) (fun h32 => ?_)
                  · refine x_aload_n 90 rfl rfl ?_
                    refine x_getI 91 (z := i31 189 24) rfl fl_X9_139 (n_lt rfl) k_189 rfl rfl ?_
                    refine x_bipush 92 rfl (by decide) ?_
                    refine x_icmp_eq 93 (tgt := 190) rfl (by decide) (by omega) (fun h33 => ?_) (fun h33 => absurd h33 (by omega))
                    refine x_iconst 96 rfl ?_
                    refine x_ret 97 (some (vI (0))) rfl ⟨rfl, Or.inr ⟨rfl, by omega⟩⟩ ⟨_, i31, li15, rfl, rfl, ?_⟩
                    first
                      | (exfalso; omega)
                      | (exact ⟨Or.inl rfl, rfl, hF, hf_ok hR (by omega) hk7 hk8⟩)
                      | (refine ⟨Or.inr rfl, rfl, hF.tr (fun a c q1 q2 q3 q4 => by rw [gD]; simp only [mU]; rw [if_neg (by omega), gC]; simp only [mU]; rw [if_neg (by omega)]), hf_no hR (by omega) ?_ ?_⟩
                         · rw [gD, mUek _ _ _ _ (by omega), gC, mUs]
                         · rw [gD, mUs]; exact c25)
                  · refine x_aload_n 82 rfl rfl ?_
                    refine x_aload_n 83 rfl rfl ?_
                    refine x_getI 84 (z := i31 189 24) rfl fl_X9_139 (n_lt rfl) k_189 rfl rfl ?_
                    obtain ⟨i34, hi34⟩ : ∃ f, f = mU i31 189 7 (i31 189 24) := ⟨_, rfl⟩
                    refine x_putI 85 rfl fl_X9_22 (n_lt rfl) k_189 rfl rfl (g' := st i34 li15) (by subst hi34; rfl) ?_
                    have gC := hi34
                    have c24 : i34 189 24 = i31 189 24 := by rw [gC, mUek _ _ _ _ (by omega)]
                    have c25 : i34 189 25 = i31 189 25 := by rw [gC, mUek _ _ _ _ (by omega)]
                    refine x_aload_n 86 rfl rfl ?_
                    refine x_aload_n 87 rfl rfl ?_
                    refine x_getI 88 (z := i34 189 25) rfl fl_X9_142 (n_lt rfl) k_189 rfl rfl ?_
                    obtain ⟨i35, hi35⟩ : ∃ f, f = mU i34 189 8 (i34 189 25) := ⟨_, rfl⟩
                    refine x_putI 89 rfl fl_X9_26 (n_lt rfl) k_189 rfl rfl (g' := st i35 li15) (by subst hi35; rfl) ?_
                    have gD := hi35
                    have d24 : i35 189 24 = i34 189 24 := by rw [gD, mUek _ _ _ _ (by omega)]
                    refine x_aload_n 90 rfl rfl ?_
                    refine x_getI 91 (z := i35 189 24) rfl fl_X9_139 (n_lt rfl) k_189 rfl rfl ?_
                    refine x_bipush 92 rfl (by decide) ?_
                    refine x_icmp_eq 93 (tgt := 190) rfl (by decide) (by omega) (fun h36 => ?_) (fun h36 => ?_)
                    · refine x_iconst 96 rfl ?_
                      refine x_ret 97 (some (vI (0))) rfl ⟨rfl, Or.inr ⟨rfl, by omega⟩⟩ ⟨_, i35, li15, rfl, rfl, ?_⟩
                      first
                        | (exfalso; omega)
                        | (exact ⟨Or.inl rfl, rfl, hF, hf_ok hR (by omega) hk7 hk8⟩)
                        | (refine ⟨Or.inr rfl, rfl, hF.tr (fun a c q1 q2 q3 q4 => by rw [gD]; simp only [mU]; rw [if_neg (by omega), gC]; simp only [mU]; rw [if_neg (by omega)]), hf_no hR (by omega) ?_ ?_⟩
                           · rw [gD, mUek _ _ _ _ (by omega), gC, mUs]
                           · rw [gD, mUs]; exact c25)
                    · refine x_iconst 94 rfl ?_
                      refine x_goto 95 (tgt := 191) rfl (by decide) ?_
                      refine x_ret 97 (some (vI (1))) rfl ⟨rfl, Or.inr ⟨rfl, by omega⟩⟩ ⟨_, i35, li15, rfl, rfl, ?_⟩
                      first
                        | (exfalso; omega)
                        | (exact ⟨Or.inl rfl, rfl, hF, hf_ok hR (by omega) hk7 hk8⟩)
                        | (refine ⟨Or.inr rfl, rfl, hF.tr (fun a c q1 q2 q3 q4 => by rw [gD]; simp only [mU]; rw [if_neg (by omega), gC]; simp only [mU]; rw [if_neg (by omega)]), hf_no hR (by omega) ?_ ?_⟩
                           · rw [gD, mUek _ _ _ _ (by omega), gC, mUs]
                           · rw [gD, mUs]; exact c25)
              · refine x_aload_n 61 rfl rfl ?_
                refine x_iconst 62 rfl ?_
                refine x_aload_n 63 rfl rfl ?_
                refine x_getI 64 (z := i15 189 6) rfl fl_X9_170 (n_lt rfl) k_189 rfl rfl ?_
                refine x_callV 65 m_X9_fails r_fails rfl ok_X9_fails (n_lt rfl) k_189 rfl rfl ml_X9_160 im_X9_fails se_X9_fails rfl (by decide) rfl (Nat.le_of_ble_eq_true rfl) rfl rfl (fun v g q37 => ?_)
                obtain ⟨rfl, i38, li38, rfl, hi38⟩ := q37
                obtain ⟨hEi38, hi38⟩ := hi38
                have hEi38 := hEi38.symm
                subst hEi38
                show mX m_X9_hasFault 4 _ 0 0 _ _ [] _
                have gA := hi38
                rw [show i15 189 6 = i 189 6 from eo.2.2.trans e6] at gA
                refine x_goto 66 (tgt := 152) rfl (by decide) ?_
                have hF : fH i i38 := by first | exact hf | exact hf.tr (fH.of hfe) | (exact (hf.tr (fH.of hfe)).tr (fun a c q1 q2 q3 q4 => by rw [gA]; simp only [mU]; rw [if_neg (by omega), if_neg (by omega)])) | (exact (hf.tr (fH.of hfe)).tr (fun a c q1 q2 q3 q4 => by rw [gB]; simp only [mU]; rw [if_neg (by omega)]))
                have hk7 : i38 189 7 = i 189 7 := by first | exact k_7 | exact eo.1.trans k_7 | (rw [gA, mUek _ _ _ _ (by omega), mUek _ _ _ _ (by omega)]; exact eo.1.trans k_7) | (rw [gB, mUek _ _ _ _ (by omega)]; exact eo.1.trans k_7)
                have hk8 : i38 189 8 = i 189 8 := by first | exact k_8 | exact eo.2.1.trans k_8 | (rw [gA, mUek _ _ _ _ (by omega), mUek _ _ _ _ (by omega)]; exact eo.2.1.trans k_8) | (rw [gB, mUek _ _ _ _ (by omega)]; exact eo.2.1.trans k_8)
                have hR : gfin i38 (gRead b H (i 193) (i 189 6)) := by first | (exact gfin_bad hr (by omega) hx.2) | (exact gfin_end hgs hs hl (by omega) (by omega) hew (Or.inl ⟨by omega, rfl⟩)) | (exact gfin_end hgs hs hl (by omega) (by omega) hew (Or.inr ⟨by omega, Or.inl ⟨by omega, gA⟩⟩)) | (exact gfin_end hgs hs hl (by omega) (by omega) hew (Or.inr ⟨by omega, Or.inr ⟨by omega, by rw [gB]; first | (rw [if_pos (by omega)]) | (rw [if_neg (by omega)])⟩⟩))
                have hR24 := gfin_24 hR
                obtain ⟨iR, hiR⟩ : ∃ f, f = i38 := ⟨_, rfl⟩
                refine x_aload_n 78 rfl rfl ?_
                refine x_getI 79 (z := i38 189 24) rfl fl_X9_139 (n_lt rfl) k_189 rfl rfl ?_
                refine x_bipush 80 rfl (by decide) ?_
                refine x_icmp_eq 81 (tgt := 177) rfl (by decide) (by omega) (fun h39 => ?_) (fun h39 => ?_)
                · refine x_aload_n 90 rfl rfl ?_
                  refine x_getI 91 (z := i38 189 24) rfl fl_X9_139 (n_lt rfl) k_189 rfl rfl ?_
                  refine x_bipush 92 rfl (by decide) ?_
                  refine x_icmp_eq 93 (tgt := 190) rfl (by decide) (by omega) (fun h40 => ?_) (fun h40 => absurd h40 (by omega))
                  refine x_iconst 96 rfl ?_
                  refine x_ret 97 (some (vI (0))) rfl ⟨rfl, Or.inr ⟨rfl, by omega⟩⟩ ⟨_, i38, li15, rfl, rfl, ?_⟩
                  first
                    | (exfalso; omega)
                    | (exact ⟨Or.inl rfl, rfl, hF, hf_ok hR (by omega) hk7 hk8⟩)
                    | (refine ⟨Or.inr rfl, rfl, hF.tr (fun a c q1 q2 q3 q4 => by rw [gD]; simp only [mU]; rw [if_neg (by omega), gC]; simp only [mU]; rw [if_neg (by omega)]), hf_no hR (by omega) ?_ ?_⟩
                       · rw [gD, mUek _ _ _ _ (by omega), gC, mUs]
                       · rw [gD, mUs]; exact c25)
                · refine x_aload_n 82 rfl rfl ?_
                  refine x_aload_n 83 rfl rfl ?_
                  refine x_getI 84 (z := i38 189 24) rfl fl_X9_139 (n_lt rfl) k_189 rfl rfl ?_
                  obtain ⟨i41, hi41⟩ : ∃ f, f = mU i38 189 7 (i38 189 24) := ⟨_, rfl⟩
                  refine x_putI 85 rfl fl_X9_22 (n_lt rfl) k_189 rfl rfl (g' := st i41 li15) (by subst hi41; rfl) ?_
                  have gC := hi41
                  have c24 : i41 189 24 = i38 189 24 := by rw [gC, mUek _ _ _ _ (by omega)]
                  have c25 : i41 189 25 = i38 189 25 := by rw [gC, mUek _ _ _ _ (by omega)]
                  refine x_aload_n 86 rfl rfl ?_
                  refine x_aload_n 87 rfl rfl ?_
                  refine x_getI 88 (z := i41 189 25) rfl fl_X9_142 (n_lt rfl) k_189 rfl rfl ?_
                  obtain ⟨i42, hi42⟩ : ∃ f, f = mU i41 189 8 (i41 189 25) := ⟨_, rfl⟩
                  refine x_putI 89 rfl fl_X9_26 (n_lt rfl) k_189 rfl rfl (g' := st i42 li15) (by subst hi42; rfl) ?_
                  have gD := hi42
                  have d24 : i42 189 24 = i41 189 24 := by rw [gD, mUek _ _ _ _ (by omega)]
                  refine x_aload_n 90 rfl rfl ?_
                  refine x_getI 91 (z := i42 189 24) rfl fl_X9_139 (n_lt rfl) k_189 rfl rfl ?_
                  refine x_bipush 92 rfl (by decide) ?_
                  refine x_icmp_eq 93 (tgt := 190) rfl (by decide) (by omega) (fun h43 => ?_) (fun h43 => ?_)
                  · refine x_iconst 96 rfl ?_
                    refine x_ret 97 (some (vI (0))) rfl ⟨rfl, Or.inr ⟨rfl, by omega⟩⟩ ⟨_, i42, li15, rfl, rfl, ?_⟩
                    first
                      | (exfalso; omega)
                      | (exact ⟨Or.inl rfl, rfl, hF, hf_ok hR (by omega) hk7 hk8⟩)
                      | (refine ⟨Or.inr rfl, rfl, hF.tr (fun a c q1 q2 q3 q4 => by rw [gD]; simp only [mU]; rw [if_neg (by omega), gC]; simp only [mU]; rw [if_neg (by omega)]), hf_no hR (by omega) ?_ ?_⟩
                         · rw [gD, mUek _ _ _ _ (by omega), gC, mUs]
                         · rw [gD, mUs]; exact c25)
                  · refine x_iconst 94 rfl ?_
                    refine x_goto 95 (tgt := 191) rfl (by decide) ?_
                    refine x_ret 97 (some (vI (1))) rfl ⟨rfl, Or.inr ⟨rfl, by omega⟩⟩ ⟨_, i42, li15, rfl, rfl, ?_⟩
                    first
                      | (exfalso; omega)
                      | (exact ⟨Or.inl rfl, rfl, hF, hf_ok hR (by omega) hk7 hk8⟩)
                      | (refine ⟨Or.inr rfl, rfl, hF.tr (fun a c q1 q2 q3 q4 => by rw [gD]; simp only [mU]; rw [if_neg (by omega), gC]; simp only [mU]; rw [if_neg (by omega)]), hf_no hR (by omega) ?_ ?_⟩
                         · rw [gD, mUek _ _ _ _ (by omega), gC, mUs]
                         · rw [gD, mUs]; exact c25)
        · refine x_aload_n 28 rfl rfl ?_
          refine x_getI 29 (z := ii 189 24) rfl fl_X9_139 (n_lt rfl) k_189 rfl rfl ?_
          refine x_bipush 30 rfl (by decide) ?_
          refine x_icmp_ne 31 (tgt := 95) rfl (by decide) (by omega) (fun h44 => ?_) (fun h44 => ?_)
          · refine x_aload_n 50 rfl rfl ?_
            refine x_getI 51 (z := ii 189 24) rfl fl_X9_139 (n_lt rfl) k_189 rfl rfl ?_
            refine x_bipush 52 rfl (by decide) ?_
            refine x_icmp_ne 53 (tgt := 152) rfl (by decide) (by omega) (fun h45 => ?_) (fun h45 => absurd h45 (by omega))
            have hF : fH i ii := by first | exact hf | exact hf.tr (fH.of hfe) | (exact (hf.tr (fH.of hfe)).tr (fun a c q1 q2 q3 q4 => by rw [gA]; simp only [mU]; rw [if_neg (by omega), if_neg (by omega)])) | (exact (hf.tr (fH.of hfe)).tr (fun a c q1 q2 q3 q4 => by rw [gB]; simp only [mU]; rw [if_neg (by omega)]))
            have hk7 : ii 189 7 = i 189 7 := by first | exact k_7 | exact eo.1.trans k_7 | (rw [gA, mUek _ _ _ _ (by omega), mUek _ _ _ _ (by omega)]; exact eo.1.trans k_7) | (rw [gB, mUek _ _ _ _ (by omega)]; exact eo.1.trans k_7)
            have hk8 : ii 189 8 = i 189 8 := by first | exact k_8 | exact eo.2.1.trans k_8 | (rw [gA, mUek _ _ _ _ (by omega), mUek _ _ _ _ (by omega)]; exact eo.2.1.trans k_8) | (rw [gB, mUek _ _ _ _ (by omega)]; exact eo.2.1.trans k_8)
            have hR : gfin ii (gRead b H (i 193) (i 189 6)) := by first | (exact gfin_bad hr (by omega) hx.2) | (exact gfin_end hgs hs hl (by omega) (by omega) hew (Or.inl ⟨by omega, rfl⟩)) | (exact gfin_end hgs hs hl (by omega) (by omega) hew (Or.inr ⟨by omega, Or.inl ⟨by omega, gA⟩⟩)) | (exact gfin_end hgs hs hl (by omega) (by omega) hew (Or.inr ⟨by omega, Or.inr ⟨by omega, by rw [gB]; first | (rw [if_pos (by omega)]) | (rw [if_neg (by omega)])⟩⟩))
            have hR24 := gfin_24 hR
            obtain ⟨iR, hiR⟩ : ∃ f, f = ii := ⟨_, rfl⟩
            refine x_aload_n 78 rfl rfl ?_
            refine x_getI 79 (z := ii 189 24) rfl fl_X9_139 (n_lt rfl) k_189 rfl rfl ?_
            refine x_bipush 80 rfl (by decide) ?_
            refine x_icmp_eq 81 (tgt := 177) rfl (by decide) (by omega) (fun h46 => absurd h46 (by omega)) (fun h46 => ?_)
            refine x_aload_n 82 rfl rfl ?_
            refine x_aload_n 83 rfl rfl ?_
            refine x_getI 84 (z := ii 189 24) rfl fl_X9_139 (n_lt rfl) k_189 rfl rfl ?_
            obtain ⟨i47, hi47⟩ : ∃ f, f = mU ii 189 7 (ii 189 24) := ⟨_, rfl⟩
            refine x_putI 85 rfl fl_X9_22 (n_lt rfl) k_189 rfl rfl (g' := st i47 l) (by subst hi47; rfl) ?_
            have gC := hi47
            have c24 : i47 189 24 = ii 189 24 := by rw [gC, mUek _ _ _ _ (by omega)]
            have c25 : i47 189 25 = ii 189 25 := by rw [gC, mUek _ _ _ _ (by omega)]
            refine x_aload_n 86 rfl rfl ?_
            refine x_aload_n 87 rfl rfl ?_
            refine x_getI 88 (z := i47 189 25) rfl fl_X9_142 (n_lt rfl) k_189 rfl rfl ?_
            obtain ⟨i48, hi48⟩ : ∃ f, f = mU i47 189 8 (i47 189 25) := ⟨_, rfl⟩
            refine x_putI 89 rfl fl_X9_26 (n_lt rfl) k_189 rfl rfl (g' := st i48 l) (by subst hi48; rfl) ?_
            have gD := hi48
            have d24 : i48 189 24 = i47 189 24 := by rw [gD, mUek _ _ _ _ (by omega)]
            refine x_aload_n 90 rfl rfl ?_
            refine x_getI 91 (z := i48 189 24) rfl fl_X9_139 (n_lt rfl) k_189 rfl rfl ?_
            refine x_bipush 92 rfl (by decide) ?_
            refine x_icmp_eq 93 (tgt := 190) rfl (by decide) (by omega) (fun h49 => ?_) (fun h49 => ?_)
            · refine x_iconst 96 rfl ?_
              refine x_ret 97 (some (vI (0))) rfl ⟨rfl, Or.inr ⟨rfl, by omega⟩⟩ ⟨_, i48, l, rfl, rfl, ?_⟩
              first
                | (exfalso; omega)
                | (exact ⟨Or.inl rfl, rfl, hF, hf_ok hR (by omega) hk7 hk8⟩)
                | (refine ⟨Or.inr rfl, rfl, hF.tr (fun a c q1 q2 q3 q4 => by rw [gD]; simp only [mU]; rw [if_neg (by omega), gC]; simp only [mU]; rw [if_neg (by omega)]), hf_no hR (by omega) ?_ ?_⟩
                   · rw [gD, mUek _ _ _ _ (by omega), gC, mUs]
                   · rw [gD, mUs]; exact c25)
            · refine x_iconst 94 rfl ?_
              refine x_goto 95 (tgt := 191) rfl (by decide) ?_
              refine x_ret 97 (some (vI (1))) rfl ⟨rfl, Or.inr ⟨rfl, by omega⟩⟩ ⟨_, i48, l, rfl, rfl, ?_⟩
              first
                | (exfalso; omega)
                | (exact ⟨Or.inl rfl, rfl, hF, hf_ok hR (by omega) hk7 hk8⟩)
                | (refine ⟨Or.inr rfl, rfl, hF.tr (fun a c q1 q2 q3 q4 => by rw [gD]; simp only [mU]; rw [if_neg (by omega), gC]; simp only [mU]; rw [if_neg (by omega)]), hf_no hR (by omega) ?_ ?_⟩
                   · rw [gD, mUek _ _ _ _ (by omega), gC, mUs]
                   · rw [gD, mUs]; exact c25)
          · obtain ⟨s, hgs, hs, hl⟩ := simMR_ok hr (by omega)
            have hg := okG_run hgs
            have e193 : ii 193 x = i 193 x := hf 193 x (by omega) (by omega) (by omega) (by omega)
            have hcx := hc x hx.1 (by omega)
            refine x_aload_n 32 rfl rfl ?_
            refine x_getR 33 (z := 193) rfl fl_X9_19 (n_lt rfl) k_189 rfl r_189_5 ?_
            refine x_iload_n 34 rfl rfl ?_
            refine x_iald 35 (z := ii 193 x) rfl (n_lt rfl) k_193 (by omega) rfl ?_
            refine x_bipush 36 rfl (by decide) ?_
            refine x_bipush 37 rfl (by decide) ?_
            refine x_callS 38 m_X9_isIn (r_isIn (by omega) (by omega) (by omega)) rfl ok_X9_isIn ml_X9_62 st_X9_isIn rfl (by decide) rfl (Nat.le_of_ble_eq_true rfl) rfl rfl (fun v g q50 => ?_)
            rcases q50 with ⟨rfl, ⟨h51, rfl⟩ | ⟨h51, rfl⟩⟩
            · show mX m_X9_hasFault 4 _ 0 0 _ _ [vI (1)] _
              refine x_if_eq 39 (tgt := 83) rfl (by decide) (by decide) (fun h52 => absurd h52 (by decide)) (fun h52 => ?_)
              refine x_aload_n 40 rfl rfl ?_
              refine x_iload_n 41 rfl rfl ?_
              refine x_callV 42 m_X9_readDigit (r_readDigit (sg := b) hs (by rw [k30]; exact hg) (by omega) (by omega) hl (by omega) (by omega)) rfl ok_X9_readDigit (n_lt rfl) k_189 rfl rfl ml_X9_173 im_X9_readDigit se_X9_readDigit rfl (by decide) rfl (Nat.le_of_ble_eq_true rfl) rfl rfl (fun v g q53 => ?_)
              obtain ⟨rfl, i54, li54, rfl, hi54⟩ := q53
              obtain ⟨hEi54, hi54⟩ := hi54
              have hEi54 := hEi54.symm
              subst hEi54
              show mX m_X9_hasFault 4 _ 0 0 _ _ [] _
              obtain ⟨hfm, hsr⟩ := hi54
              rw [k30, e193, ← gRun_s hx.1 hgs] at hsr
              refine x_goto 43 (tgt := 89) rfl (by decide) ?_
              refine x_iinc 48 (L' := [some (vR (some 189)), some (vI (b)), some (vI (x + 1))]) rfl (by decide) rfl rfl rfl rfl ?_
              refine x_goto 49 (tgt := 42) rfl (by decide) ?_
              exact ihL7 i54 (x + 1) (by omega) (hf.tr (fH.of hfm)) (by rw [hfm 189 30 (by omega) (by omega) (by omega) (by omega)]; exact k30) (by rw [hfm 189 7 (by omega) (by omega) (by omega) (by omega)]; exact k_7) (by rw [hfm 189 8 (by omega) (by omega) (by omega) (by omega)]; exact k_8) (hsr) (by omega)
            · show mX m_X9_hasFault 4 _ 0 0 _ _ [vI (0)] _
              refine x_if_eq 39 (tgt := 83) rfl (by decide) (by decide) (fun h55 => ?_) (fun h55 => absurd h55 (by decide))
              refine x_aload_n 44 rfl rfl ?_
              refine x_iload_n 45 rfl rfl ?_
              refine x_iload_n 46 rfl rfl ?_
              refine x_callV 47 m_X9_readOther (r_readOther hs (by rw [k30]; exact hg) (by omega) (by omega) hl (by omega) hb (by omega) (by omega)) rfl ok_X9_readOther (n_lt rfl) k_189 rfl rfl ml_X9_176 im_X9_readOther se_X9_readOther rfl (by decide) rfl (Nat.le_of_ble_eq_true rfl) rfl rfl (fun v g q56 => ?_)
              obtain ⟨rfl, i57, li57, rfl, hi57⟩ := q56
              obtain ⟨hEi57, hi57⟩ := hi57
              have hEi57 := hEi57.symm
              subst hEi57
              show mX m_X9_hasFault 4 _ 0 0 _ _ [] _
              obtain ⟨hfm, hsr⟩ := hi57
              rw [k30, e193, ← gRun_s hx.1 hgs] at hsr
              refine x_iinc 48 (L' := [some (vR (some 189)), some (vI (b)), some (vI (x + 1))]) rfl (by decide) rfl rfl rfl rfl ?_
              refine x_goto 49 (tgt := 42) rfl (by decide) ?_
              exact ihL7 i57 (x + 1) (by omega) (hf.tr (fH.of hfm)) (by rw [hfm 189 30 (by omega) (by omega) (by omega) (by omega)]; exact k30) (by rw [hfm 189 7 (by omega) (by omega) (by omega) (by omega)]; exact k_7) (by rw [hfm 189 8 (by omega) (by omega) (by omega) (by omega)]; exact k_8) (hsr) (by omega)
    exact loopL7 ((i 189 6 - ((0))) + 1 : Int).toNat i6 (0) (by omega) (by intro a c q1 q2 q3 q4; rw [p1]; simp only [mU]; rw [if_neg (by omega), if_neg (by omega), if_neg (by omega), if_neg (by omega), if_neg (by omega)]) (by rw [p1, mUs]) (by rw [p1]; simp [mU]) (by rw [p1]; simp [mU]) (by show simMR _ 0 (.inl (0, 0, 0, 0, 0, [])); refine ⟨by rw [p1]; simp [mU], ⟨by rw [p1]; simp [mU], fun q => by simp only at q; omega, fun q => by simp only at q; omega, by rw [p1]; simp [mU], fun q => by simp only at q; omega, fun k k0 k1 => absurd k1 (by simp; omega)⟩, by unfold lenM; simp⟩) (by omega)
  · refine x_bipush 13 rfl (by decide) ?_
    refine x_goto 14 (tgt := 37) rfl (by decide) ?_
    obtain ⟨i58, hi58⟩ : ∃ f, f = mU i4 189 30 (40) := ⟨_, rfl⟩
    refine x_putI 21 rfl fl_X9_151 (n_lt rfl) k_189 rfl rfl (g' := st i58 l) (by subst hi58; rfl) ?_
    have gz := hi58
    rw [g3] at gz
    refine x_iconst 22 rfl ?_
    refine x_istore_n 23 (L' := [some (vR (some 189)), some (vI (b)), some (vI (0))]) rfl (by decide) rfl rfl ?_
    have p1 : i58 = mU (mU (mU (mU (mU i 189 24 (-9)) 189 25 (-9)) 189 20 0) 189 26 0) 189 30 H := by rw [gz]; congr 1; rw [hH]; first | (rw [if_pos (by omega)]; simp [mU]; done) | (rw [if_neg (by omega)])
    have hHb : -1 ≤ H ∧ H ≤ 40 := by rw [hH]; split <;> omega
    have loopL59 : ∀ (nz : Nat) (ii : Nat → Int → Int) (x : Int), (0 ≤ x ∧ x ≤ i 189 6) → (fH i ii) → (ii 189 30 = H) → (ii 189 7 = i 189 7) → (ii 189 8 = i 189 8) → (simMR ii x (gRun b H (i 193) x.toNat)) → (i 189 6 - x) < (nz : Int) → mX m_X9_hasFault 4 (qW (fun z i' l' => (z = 0 ∨ z = 1) ∧ l' = l ∧ fH i i' ∧ hfR i i' z (gRead b H (i 193) (i 189 6)))) 0 0 42 [some (vR (some 189)), some (vI (b)), some (vI (x))] [] (st ii l) := by
      intro nz
      induction nz with
      | zero => intro ii x hx hf k30 k_7 k_8 hr hz; exact absurd hz (by omega)
      | succ nz ihL59 =>
        intro ii x hx hf k30 k_7 k_8 hr hzL59
        have e6 : ii 189 6 = i 189 6 := hf 189 6 (by omega) (by omega) (by omega) (by omega)
        have h24_ := simMR_24 hr
        refine x_iload_n 24 rfl rfl ?_
        refine x_aload_n 25 rfl rfl ?_
        refine x_getI 26 (z := ii 189 6) rfl fl_X9_170 (n_lt rfl) k_189 rfl rfl ?_
        refine x_icmp_ge 27 (tgt := 95) rfl (by decide) (by omega) (fun h60 => ?_) (fun h60 => ?_)
        · refine x_aload_n 50 rfl rfl ?_
          refine x_getI 51 (z := ii 189 24) rfl fl_X9_139 (n_lt rfl) k_189 rfl rfl ?_
          refine x_bipush 52 rfl (by decide) ?_
          refine x_icmp_ne 53 (tgt := 152) rfl (by decide) (by omega) (fun h61 => ?_) (fun h61 => ?_)
          · have hF : fH i ii := by first | exact hf | exact hf.tr (fH.of hfe) | (exact (hf.tr (fH.of hfe)).tr (fun a c q1 q2 q3 q4 => by rw [gA]; simp only [mU]; rw [if_neg (by omega), if_neg (by omega)])) | (exact (hf.tr (fH.of hfe)).tr (fun a c q1 q2 q3 q4 => by rw [gB]; simp only [mU]; rw [if_neg (by omega)]))
            have hk7 : ii 189 7 = i 189 7 := by first | exact k_7 | exact eo.1.trans k_7 | (rw [gA, mUek _ _ _ _ (by omega), mUek _ _ _ _ (by omega)]; exact eo.1.trans k_7) | (rw [gB, mUek _ _ _ _ (by omega)]; exact eo.1.trans k_7)
            have hk8 : ii 189 8 = i 189 8 := by first | exact k_8 | exact eo.2.1.trans k_8 | (rw [gA, mUek _ _ _ _ (by omega), mUek _ _ _ _ (by omega)]; exact eo.2.1.trans k_8) | (rw [gB, mUek _ _ _ _ (by omega)]; exact eo.2.1.trans k_8)
            have hR : gfin ii (gRead b H (i 193) (i 189 6)) := by first | (exact gfin_bad hr (by omega) hx.2) | (exact gfin_end hgs hs hl (by omega) (by omega) hew (Or.inl ⟨by omega, rfl⟩)) | (exact gfin_end hgs hs hl (by omega) (by omega) hew (Or.inr ⟨by omega, Or.inl ⟨by omega, gA⟩⟩)) | (exact gfin_end hgs hs hl (by omega) (by omega) hew (Or.inr ⟨by omega, Or.inr ⟨by omega, by rw [gB]; first | (rw [if_pos (by omega)]) | (rw [if_neg (by omega)])⟩⟩))
            have hR24 := gfin_24 hR
            obtain ⟨iR, hiR⟩ : ∃ f, f = ii := ⟨_, rfl⟩
            refine x_aload_n 78 rfl rfl ?_
            refine x_getI 79 (z := ii 189 24) rfl fl_X9_139 (n_lt rfl) k_189 rfl rfl ?_
            refine x_bipush 80 rfl (by decide) ?_
            refine x_icmp_eq 81 (tgt := 177) rfl (by decide) (by omega) (fun h62 => absurd h62 (by omega)) (fun h62 => ?_)
            refine x_aload_n 82 rfl rfl ?_
            refine x_aload_n 83 rfl rfl ?_
            refine x_getI 84 (z := ii 189 24) rfl fl_X9_139 (n_lt rfl) k_189 rfl rfl ?_
            obtain ⟨i63, hi63⟩ : ∃ f, f = mU ii 189 7 (ii 189 24) := ⟨_, rfl⟩
            refine x_putI 85 rfl fl_X9_22 (n_lt rfl) k_189 rfl rfl (g' := st i63 l) (by subst hi63; rfl) ?_
            have gC := hi63
            have c24 : i63 189 24 = ii 189 24 := by rw [gC, mUek _ _ _ _ (by omega)]
            have c25 : i63 189 25 = ii 189 25 := by rw [gC, mUek _ _ _ _ (by omega)]
            refine x_aload_n 86 rfl rfl ?_
            refine x_aload_n 87 rfl rfl ?_
            refine x_getI 88 (z := i63 189 25) rfl fl_X9_142 (n_lt rfl) k_189 rfl rfl ?_
            obtain ⟨i64, hi64⟩ : ∃ f, f = mU i63 189 8 (i63 189 25) := ⟨_, rfl⟩
            refine x_putI 89 rfl fl_X9_26 (n_lt rfl) k_189 rfl rfl (g' := st i64 l) (by subst hi64; rfl) ?_
            have gD := hi64
            have d24 : i64 189 24 = i63 189 24 := by rw [gD, mUek _ _ _ _ (by omega)]
            refine x_aload_n 90 rfl rfl ?_
            refine x_getI 91 (z := i64 189 24) rfl fl_X9_139 (n_lt rfl) k_189 rfl rfl ?_
            refine x_bipush 92 rfl (by decide) ?_
            refine x_icmp_eq 93 (tgt := 190) rfl (by decide) (by omega) (fun h65 => ?_) (fun h65 => ?_)
            · refine x_iconst 96 rfl ?_
              refine x_ret 97 (some (vI (0))) rfl ⟨rfl, Or.inr ⟨rfl, by omega⟩⟩ ⟨_, i64, l, rfl, rfl, ?_⟩
              first
                | (exfalso; omega)
                | (exact ⟨Or.inl rfl, rfl, hF, hf_ok hR (by omega) hk7 hk8⟩)
                | (refine ⟨Or.inr rfl, rfl, hF.tr (fun a c q1 q2 q3 q4 => by rw [gD]; simp only [mU]; rw [if_neg (by omega), gC]; simp only [mU]; rw [if_neg (by omega)]), hf_no hR (by omega) ?_ ?_⟩
                   · rw [gD, mUek _ _ _ _ (by omega), gC, mUs]
                   · rw [gD, mUs]; exact c25)
            · refine x_iconst 94 rfl ?_
              refine x_goto 95 (tgt := 191) rfl (by decide) ?_
              refine x_ret 97 (some (vI (1))) rfl ⟨rfl, Or.inr ⟨rfl, by omega⟩⟩ ⟨_, i64, l, rfl, rfl, ?_⟩
              first
                | (exfalso; omega)
                | (exact ⟨Or.inl rfl, rfl, hF, hf_ok hR (by omega) hk7 hk8⟩)
                | (refine ⟨Or.inr rfl, rfl, hF.tr (fun a c q1 q2 q3 q4 => by rw [gD]; simp only [mU]; rw [if_neg (by omega), gC]; simp only [mU]; rw [if_neg (by omega)]), hf_no hR (by omega) ?_ ?_⟩
                   · rw [gD, mUek _ _ _ _ (by omega), gC, mUs]
                   · rw [gD, mUs]; exact c25)
          · have hxe : x = i 189 6 := by omega
            obtain ⟨s, hgs, hs, hl⟩ := simMR_ok hr (by omega)
            have hg := okG_run hgs
            have h29 := lenM_29 hl (by omega)
            have hs1 := hs.1
            have hg1 := hg.1
            refine x_aload_n 54 rfl rfl ?_
            refine x_callV 55 m_X9_endsWell (r_endsWell hs (by rw [k30]; exact hg) (by omega) h29) rfl ok_X9_endsWell (n_lt rfl) k_189 rfl rfl ml_X9_166 im_X9_endsWell se_X9_endsWell rfl (by decide) rfl (Nat.le_of_ble_eq_true rfl) rfl rfl (fun v g q66 => ?_)
            obtain ⟨z68, i67, li67, rfl, rfl, hi67⟩ := q66
            show mX m_X9_hasFault 4 _ 0 0 _ _ [vI (z68)] _
            obtain ⟨hz, hew, rfl⟩ := hi67
            rw [k30] at hew
            have hfe := ew_fM hew
            have eo := ew_o hew
            have w26 := ew_26 hew
            rw [hxe] at hgs hl
            refine x_if_eq 56 (tgt := 152) rfl (by decide) (by omega) (fun h69 => ?_) (fun h69 => ?_)
            · have hF : fH i i67 := by first | exact hf | exact hf.tr (fH.of hfe) | (exact (hf.tr (fH.of hfe)).tr (fun a c q1 q2 q3 q4 => by rw [gA]; simp only [mU]; rw [if_neg (by omega), if_neg (by omega)])) | (exact (hf.tr (fH.of hfe)).tr (fun a c q1 q2 q3 q4 => by rw [gB]; simp only [mU]; rw [if_neg (by omega)]))
              have hk7 : i67 189 7 = i 189 7 := by first | exact k_7 | exact eo.1.trans k_7 | (rw [gA, mUek _ _ _ _ (by omega), mUek _ _ _ _ (by omega)]; exact eo.1.trans k_7) | (rw [gB, mUek _ _ _ _ (by omega)]; exact eo.1.trans k_7)
              have hk8 : i67 189 8 = i 189 8 := by first | exact k_8 | exact eo.2.1.trans k_8 | (rw [gA, mUek _ _ _ _ (by omega), mUek _ _ _ _ (by omega)]; exact eo.2.1.trans k_8) | (rw [gB, mUek _ _ _ _ (by omega)]; exact eo.2.1.trans k_8)
              have hR : gfin i67 (gRead b H (i 193) (i 189 6)) := by first | (exact gfin_bad hr (by omega) hx.2) | (exact gfin_end hgs hs hl (by omega) (by omega) hew (Or.inl ⟨by omega, rfl⟩)) | (exact gfin_end hgs hs hl (by omega) (by omega) hew (Or.inr ⟨by omega, Or.inl ⟨by omega, gA⟩⟩)) | (exact gfin_end hgs hs hl (by omega) (by omega) hew (Or.inr ⟨by omega, Or.inr ⟨by omega, by rw [gB]; first | (rw [if_pos (by omega)]) | (rw [if_neg (by omega)])⟩⟩))
              have hR24 := gfin_24 hR
              obtain ⟨iR, hiR⟩ : ∃ f, f = i67 := ⟨_, rfl⟩
              refine x_aload_n 78 rfl rfl ?_
              refine x_getI 79 (z := i67 189 24) rfl fl_X9_139 (n_lt rfl) k_189 rfl rfl ?_
              refine x_bipush 80 rfl (by decide) ?_
              refine x_icmp_eq 81 (tgt := 177) rfl (by decide) (by omega) (fun h70 => ?_) (fun h70 => ?_)
              · refine x_aload_n 90 rfl rfl ?_
                refine x_getI 91 (z := i67 189 24) rfl fl_X9_139 (n_lt rfl) k_189 rfl rfl ?_
                refine x_bipush 92 rfl (by decide) ?_
                refine x_icmp_eq 93 (tgt := 190) rfl (by decide) (by omega) (fun h71 => ?_) (fun h71 => absurd h71 (by omega))
                refine x_iconst 96 rfl ?_
                refine x_ret 97 (some (vI (0))) rfl ⟨rfl, Or.inr ⟨rfl, by omega⟩⟩ ⟨_, i67, li67, rfl, rfl, ?_⟩
                first
                  | (exfalso; omega)
                  | (exact ⟨Or.inl rfl, rfl, hF, hf_ok hR (by omega) hk7 hk8⟩)
                  | (refine ⟨Or.inr rfl, rfl, hF.tr (fun a c q1 q2 q3 q4 => by rw [gD]; simp only [mU]; rw [if_neg (by omega), gC]; simp only [mU]; rw [if_neg (by omega)]), hf_no hR (by omega) ?_ ?_⟩
                     · rw [gD, mUek _ _ _ _ (by omega), gC, mUs]
                     · rw [gD, mUs]; exact c25)
              · refine x_aload_n 82 rfl rfl ?_
                refine x_aload_n 83 rfl rfl ?_
                refine x_getI 84 (z := i67 189 24) rfl fl_X9_139 (n_lt rfl) k_189 rfl rfl ?_
                obtain ⟨i72, hi72⟩ : ∃ f, f = mU i67 189 7 (i67 189 24) := ⟨_, rfl⟩
                refine x_putI 85 rfl fl_X9_22 (n_lt rfl) k_189 rfl rfl (g' := st i72 li67) (by subst hi72; rfl) ?_
                have gC := hi72
                have c24 : i72 189 24 = i67 189 24 := by rw [gC, mUek _ _ _ _ (by omega)]
                have c25 : i72 189 25 = i67 189 25 := by rw [gC, mUek _ _ _ _ (by omega)]
                refine x_aload_n 86 rfl rfl ?_
                refine x_aload_n 87 rfl rfl ?_
                refine x_getI 88 (z := i72 189 25) rfl fl_X9_142 (n_lt rfl) k_189 rfl rfl ?_
                obtain ⟨i73, hi73⟩ : ∃ f, f = mU i72 189 8 (i72 189 25) := ⟨_, rfl⟩
                refine x_putI 89 rfl fl_X9_26 (n_lt rfl) k_189 rfl rfl (g' := st i73 li67) (by subst hi73; rfl) ?_
                have gD := hi73
                have d24 : i73 189 24 = i72 189 24 := by rw [gD, mUek _ _ _ _ (by omega)]
                refine x_aload_n 90 rfl rfl ?_
                refine x_getI 91 (z := i73 189 24) rfl fl_X9_139 (n_lt rfl) k_189 rfl rfl ?_
                refine x_bipush 92 rfl (by decide) ?_
                refine x_icmp_eq 93 (tgt := 190) rfl (by decide) (by omega) (fun h74 => ?_) (fun h74 => ?_)
                · refine x_iconst 96 rfl ?_
                  refine x_ret 97 (some (vI (0))) rfl ⟨rfl, Or.inr ⟨rfl, by omega⟩⟩ ⟨_, i73, li67, rfl, rfl, ?_⟩
                  first
                    | (exfalso; omega)
                    | (exact ⟨Or.inl rfl, rfl, hF, hf_ok hR (by omega) hk7 hk8⟩)
                    | (refine ⟨Or.inr rfl, rfl, hF.tr (fun a c q1 q2 q3 q4 => by rw [gD]; simp only [mU]; rw [if_neg (by omega), gC]; simp only [mU]; rw [if_neg (by omega)]), hf_no hR (by omega) ?_ ?_⟩
                       · rw [gD, mUek _ _ _ _ (by omega), gC, mUs]
                       · rw [gD, mUs]; exact c25)
                · refine x_iconst 94 rfl ?_
                  refine x_goto 95 (tgt := 191) rfl (by decide) ?_
                  refine x_ret 97 (some (vI (1))) rfl ⟨rfl, Or.inr ⟨rfl, by omega⟩⟩ ⟨_, i73, li67, rfl, rfl, ?_⟩
                  first
                    | (exfalso; omega)
                    | (exact ⟨Or.inl rfl, rfl, hF, hf_ok hR (by omega) hk7 hk8⟩)
                    | (refine ⟨Or.inr rfl, rfl, hF.tr (fun a c q1 q2 q3 q4 => by rw [gD]; simp only [mU]; rw [if_neg (by omega), gC]; simp only [mU]; rw [if_neg (by omega)]), hf_no hR (by omega) ?_ ?_⟩
                       · rw [gD, mUek _ _ _ _ (by omega), gC, mUs]
                       · rw [gD, mUs]; exact c25)
            · refine x_aload_n 57 rfl rfl ?_
              refine x_getI 58 (z := i67 189 26) rfl fl_X9_145 (n_lt rfl) k_189 rfl rfl ?_
              refine x_iconst 59 rfl ?_
              refine x_icmp_ne 60 (tgt := 131) rfl (by decide) (by omega) (fun h75 => ?_) (fun h75 => ?_)
              · refine x_aload_n 67 rfl rfl ?_
                refine x_dup 68 rfl rfl ?_
                refine x_getI 69 (z := i67 189 20) rfl fl_X9_154 (n_lt rfl) k_189 rfl rfl ?_
                refine x_aload_n 70 rfl rfl ?_
                refine x_getI 71 (z := i67 189 26) rfl fl_X9_145 (n_lt rfl) k_189 rfl rfl ?_
                refine x_if_ne 72 (tgt := 147) rfl (by decide) (by omega) (fun h76 => ?_) (fun h76 => ?_)
                · refine x_iconst 75 rfl ?_
                  refine x_iadd 76 (r := (i67 189 20) + 1) rfl rfl ?_
                  obtain ⟨i77, hi77⟩ : ∃ f, f = mU i67 189 20 ((i67 189 20) + 1) := ⟨_, rfl⟩
                  refine x_putI 77 rfl fl_X9_154 (n_lt rfl) k_189 rfl rfl (g' := st i77 li67) (by subst hi77; rfl) ?_
                  have gB := hi77
                  have hF : fH i i77 := by first | exact hf | exact hf.tr (fH.of hfe) | (exact (hf.tr (fH.of hfe)).tr (fun a c q1 q2 q3 q4 => by rw [gA]; simp only [mU]; rw [if_neg (by omega), if_neg (by omega)])) | (exact (hf.tr (fH.of hfe)).tr (fun a c q1 q2 q3 q4 => by rw [gB]; simp only [mU]; rw [if_neg (by omega)]))
                  have hk7 : i77 189 7 = i 189 7 := by first | exact k_7 | exact eo.1.trans k_7 | (rw [gA, mUek _ _ _ _ (by omega), mUek _ _ _ _ (by omega)]; exact eo.1.trans k_7) | (rw [gB, mUek _ _ _ _ (by omega)]; exact eo.1.trans k_7)
                  have hk8 : i77 189 8 = i 189 8 := by first | exact k_8 | exact eo.2.1.trans k_8 | (rw [gA, mUek _ _ _ _ (by omega), mUek _ _ _ _ (by omega)]; exact eo.2.1.trans k_8) | (rw [gB, mUek _ _ _ _ (by omega)]; exact eo.2.1.trans k_8)
                  have hR : gfin i77 (gRead b H (i 193) (i 189 6)) := by first | (exact gfin_bad hr (by omega) hx.2) | (exact gfin_end hgs hs hl (by omega) (by omega) hew (Or.inl ⟨by omega, rfl⟩)) | (exact gfin_end hgs hs hl (by omega) (by omega) hew (Or.inr ⟨by omega, Or.inl ⟨by omega, gA⟩⟩)) | (exact gfin_end hgs hs hl (by omega) (by omega) hew (Or.inr ⟨by omega, Or.inr ⟨by omega, by rw [gB]; first | (rw [if_pos (by omega)]) | (rw [if_neg (by omega)])⟩⟩))
                  have hR24 := gfin_24 hR
                  obtain ⟨iR, hiR⟩ : ∃ f, f = i77 := ⟨_, rfl⟩
                  refine x_aload_n 78 rfl rfl ?_
                  refine x_getI 79 (z := i77 189 24) rfl fl_X9_139 (n_lt rfl) k_189 rfl rfl ?_
                  refine x_bipush 80 rfl (by decide) ?_
                  refine x_icmp_eq 81 (tgt := 177) rfl (by decide) (by omega) (fun h78 => ?_) (fun h78 => ?_)
                  · refine x_aload_n 90 rfl rfl ?_
                    refine x_getI 91 (z := i77 189 24) rfl fl_X9_139 (n_lt rfl) k_189 rfl rfl ?_
                    refine x_bipush 92 rfl (by decide) ?_
                    refine x_icmp_eq 93 (tgt := 190) rfl (by decide) (by omega) (fun h79 => ?_) (fun h79 => absurd h79 (by omega))
                    refine x_iconst 96 rfl ?_
                    refine x_ret 97 (some (vI (0))) rfl ⟨rfl, Or.inr ⟨rfl, by omega⟩⟩ ⟨_, i77, li67, rfl, rfl, ?_⟩
                    first
                      | (exfalso; omega)
                      | (exact ⟨Or.inl rfl, rfl, hF, hf_ok hR (by omega) hk7 hk8⟩)
                      | (refine ⟨Or.inr rfl, rfl, hF.tr (fun a c q1 q2 q3 q4 => by rw [gD]; simp only [mU]; rw [if_neg (by omega), gC]; simp only [mU]; rw [if_neg (by omega)]), hf_no hR (by omega) ?_ ?_⟩
                         · rw [gD, mUek _ _ _ _ (by omega), gC, mUs]
                         · rw [gD, mUs]; exact c25)
                  · refine x_aload_n 82 rfl rfl ?_
                    refine x_aload_n 83 rfl rfl ?_
                    refine x_getI 84 (z := i77 189 24) rfl fl_X9_139 (n_lt rfl) k_189 rfl rfl ?_
                    obtain ⟨i80, hi80⟩ : ∃ f, f = mU i77 189 7 (i77 189 24) := ⟨_, rfl⟩
                    refine x_putI 85 rfl fl_X9_22 (n_lt rfl) k_189 rfl rfl (g' := st i80 li67) (by subst hi80; rfl) ?_
                    have gC := hi80
                    have c24 : i80 189 24 = i77 189 24 := by rw [gC, mUek _ _ _ _ (by omega)]
                    have c25 : i80 189 25 = i77 189 25 := by rw [gC, mUek _ _ _ _ (by omega)]
                    refine x_aload_n 86 rfl rfl ?_
                    refine x_aload_n 87 rfl rfl ?_
                    refine x_getI 88 (z := i80 189 25) rfl fl_X9_142 (n_lt rfl) k_189 rfl rfl ?_
                    obtain ⟨i81, hi81⟩ : ∃ f, f = mU i80 189 8 (i80 189 25) := ⟨_, rfl⟩
                    refine x_putI 89 rfl fl_X9_26 (n_lt rfl) k_189 rfl rfl (g' := st i81 li67) (by subst hi81; rfl) ?_
                    have gD := hi81
                    have d24 : i81 189 24 = i80 189 24 := by rw [gD, mUek _ _ _ _ (by omega)]
                    refine x_aload_n 90 rfl rfl ?_
                    refine x_getI 91 (z := i81 189 24) rfl fl_X9_139 (n_lt rfl) k_189 rfl rfl ?_
                    refine x_bipush 92 rfl (by decide) ?_
                    refine x_icmp_eq 93 (tgt := 190) rfl (by decide) (by omega) (fun h82 => ?_) (fun h82 => ?_)
                    · refine x_iconst 96 rfl ?_
                      refine x_ret 97 (some (vI (0))) rfl ⟨rfl, Or.inr ⟨rfl, by omega⟩⟩ ⟨_, i81, li67, rfl, rfl, ?_⟩
                      first
                        | (exfalso; omega)
                        | (exact ⟨Or.inl rfl, rfl, hF, hf_ok hR (by omega) hk7 hk8⟩)
                        | (refine ⟨Or.inr rfl, rfl, hF.tr (fun a c q1 q2 q3 q4 => by rw [gD]; simp only [mU]; rw [if_neg (by omega), gC]; simp only [mU]; rw [if_neg (by omega)]), hf_no hR (by omega) ?_ ?_⟩
                           · rw [gD, mUek _ _ _ _ (by omega), gC, mUs]
                           · rw [gD, mUs]; exact c25)
                    · refine x_iconst 94 rfl ?_
                      refine x_goto 95 (tgt := 191) rfl (by decide) ?_
                      refine x_ret 97 (some (vI (1))) rfl ⟨rfl, Or.inr ⟨rfl, by omega⟩⟩ ⟨_, i81, li67, rfl, rfl, ?_⟩
                      first
                        | (exfalso; omega)
                        | (exact ⟨Or.inl rfl, rfl, hF, hf_ok hR (by omega) hk7 hk8⟩)
                        | (refine ⟨Or.inr rfl, rfl, hF.tr (fun a c q1 q2 q3 q4 => by rw [gD]; simp only [mU]; rw [if_neg (by omega), gC]; simp only [mU]; rw [if_neg (by omega)]), hf_no hR (by omega) ?_ ?_⟩
                           · rw [gD, mUek _ _ _ _ (by omega), gC, mUs]
                           · rw [gD, mUs]; exact c25)
                · refine x_iconst 73 rfl ?_
                  refine x_goto 74 (tgt := 148) rfl (by decide) ?_
                  refine x_iadd 76 (r := (i67 189 20) + 0) rfl rfl ?_
                  obtain ⟨i83, hi83⟩ : ∃ f, f = mU i67 189 20 ((i67 189 20) + 0) := ⟨_, rfl⟩
                  refine x_putI 77 rfl fl_X9_154 (n_lt rfl) k_189 rfl rfl (g' := st i83 li67) (by subst hi83; rfl) ?_
                  have gB := hi83
                  have hF : fH i i83 := by first | exact hf | exact hf.tr (fH.of hfe) | (exact (hf.tr (fH.of hfe)).tr (fun a c q1 q2 q3 q4 => by rw [gA]; simp only [mU]; rw [if_neg (by omega), if_neg (by omega)])) | (exact (hf.tr (fH.of hfe)).tr (fun a c q1 q2 q3 q4 => by rw [gB]; simp only [mU]; rw [if_neg (by omega)]))
                  have hk7 : i83 189 7 = i 189 7 := by first | exact k_7 | exact eo.1.trans k_7 | (rw [gA, mUek _ _ _ _ (by omega), mUek _ _ _ _ (by omega)]; exact eo.1.trans k_7) | (rw [gB, mUek _ _ _ _ (by omega)]; exact eo.1.trans k_7)
                  have hk8 : i83 189 8 = i 189 8 := by first | exact k_8 | exact eo.2.1.trans k_8 | (rw [gA, mUek _ _ _ _ (by omega), mUek _ _ _ _ (by omega)]; exact eo.2.1.trans k_8) | (rw [gB, mUek _ _ _ _ (by omega)]; exact eo.2.1.trans k_8)
                  have hR : gfin i83 (gRead b H (i 193) (i 189 6)) := by first | (exact gfin_bad hr (by omega) hx.2) | (exact gfin_end hgs hs hl (by omega) (by omega) hew (Or.inl ⟨by omega, rfl⟩)) | (exact gfin_end hgs hs hl (by omega) (by omega) hew (Or.inr ⟨by omega, Or.inl ⟨by omega, gA⟩⟩)) | (exact gfin_end hgs hs hl (by omega) (by omega) hew (Or.inr ⟨by omega, Or.inr ⟨by omega, by rw [gB]; first | (rw [if_pos (by omega)]) | (rw [if_neg (by omega)])⟩⟩))
                  have hR24 := gfin_24 hR
                  obtain ⟨iR, hiR⟩ : ∃ f, f = i83 := ⟨_, rfl⟩
                  refine x_aload_n 78 rfl rfl ?_
                  refine x_getI 79 (z := i83 189 24) rfl fl_X9_139 (n_lt rfl) k_189 rfl rfl ?_
                  refine x_bipush 80 rfl (by decide) ?_
                  refine x_icmp_eq 81 (tgt := 177) rfl (by decide) (by omega) (fun h84 => ?_) (fun h84 => ?_)
                  · refine x_aload_n 90 rfl rfl ?_
                    refine x_getI 91 (z := i83 189 24) rfl fl_X9_139 (n_lt rfl) k_189 rfl rfl ?_
                    refine x_bipush 92 rfl (by decide) ?_
                    refine x_icmp_eq 93 (tgt := 190) rfl (by decide) (by omega) (fun h85 => ?_) (fun h85 => absurd h85 (by omega))
                    refine x_iconst 96 rfl ?_
                    refine x_ret 97 (some (vI (0))) rfl ⟨rfl, Or.inr ⟨rfl, by omega⟩⟩ ⟨_, i83, li67, rfl, rfl, ?_⟩
                    first
                      | (exfalso; omega)
                      | (exact ⟨Or.inl rfl, rfl, hF, hf_ok hR (by omega) hk7 hk8⟩)
                      | (refine ⟨Or.inr rfl, rfl, hF.tr (fun a c q1 q2 q3 q4 => by rw [gD]; simp only [mU]; rw [if_neg (by omega), gC]; simp only [mU]; rw [if_neg (by omega)]), hf_no hR (by omega) ?_ ?_⟩
                         · rw [gD, mUek _ _ _ _ (by omega), gC, mUs]
                         · rw [gD, mUs]; exact c25)
                  · refine x_aload_n 82 rfl rfl ?_
                    refine x_aload_n 83 rfl rfl ?_
                    refine x_getI 84 (z := i83 189 24) rfl fl_X9_139 (n_lt rfl) k_189 rfl rfl ?_
                    obtain ⟨i86, hi86⟩ : ∃ f, f = mU i83 189 7 (i83 189 24) := ⟨_, rfl⟩
                    refine x_putI 85 rfl fl_X9_22 (n_lt rfl) k_189 rfl rfl (g' := st i86 li67) (by subst hi86; rfl) ?_
                    have gC := hi86
                    have c24 : i86 189 24 = i83 189 24 := by rw [gC, mUek _ _ _ _ (by omega)]
                    have c25 : i86 189 25 = i83 189 25 := by rw [gC, mUek _ _ _ _ (by omega)]
                    refine x_aload_n 86 rfl rfl ?_
                    refine x_aload_n 87 rfl rfl ?_
                    refine x_getI 88 (z := i86 189 25) rfl fl_X9_142 (n_lt rfl) k_189 rfl rfl ?_
                    obtain ⟨i87, hi87⟩ : ∃ f, f = mU i86 189 8 (i86 189 25) := ⟨_, rfl⟩
                    refine x_putI 89 rfl fl_X9_26 (n_lt rfl) k_189 rfl rfl (g' := st i87 li67) (by subst hi87; rfl) ?_
                    have gD := hi87
                    have d24 : i87 189 24 = i86 189 24 := by rw [gD, mUek _ _ _ _ (by omega)]
                    refine x_aload_n 90 rfl rfl ?_
                    refine x_getI 91 (z := i87 189 24) rfl fl_X9_139 (n_lt rfl) k_189 rfl rfl ?_
                    refine x_bipush 92 rfl (by decide) ?_
                    refine x_icmp_eq 93 (tgt := 190) rfl (by decide) (by omega) (fun h88 => ?_) (fun h88 => ?_)
                    · refine x_iconst 96 rfl ?_
                      refine x_ret 97 (some (vI (0))) rfl ⟨rfl, Or.inr ⟨rfl, by omega⟩⟩ ⟨_, i87, li67, rfl, rfl, ?_⟩
                      first
                        | (exfalso; omega)
                        | (exact ⟨Or.inl rfl, rfl, hF, hf_ok hR (by omega) hk7 hk8⟩)
                        | (refine ⟨Or.inr rfl, rfl, hF.tr (fun a c q1 q2 q3 q4 => by rw [gD]; simp only [mU]; rw [if_neg (by omega), gC]; simp only [mU]; rw [if_neg (by omega)]), hf_no hR (by omega) ?_ ?_⟩
                           · rw [gD, mUek _ _ _ _ (by omega), gC, mUs]
                           · rw [gD, mUs]; exact c25)
                    · refine x_iconst 94 rfl ?_
                      refine x_goto 95 (tgt := 191) rfl (by decide) ?_
                      refine x_ret 97 (some (vI (1))) rfl ⟨rfl, Or.inr ⟨rfl, by omega⟩⟩ ⟨_, i87, li67, rfl, rfl, ?_⟩
                      first
                        | (exfalso; omega)
                        | (exact ⟨Or.inl rfl, rfl, hF, hf_ok hR (by omega) hk7 hk8⟩)
                        | (refine ⟨Or.inr rfl, rfl, hF.tr (fun a c q1 q2 q3 q4 => by rw [gD]; simp only [mU]; rw [if_neg (by omega), gC]; simp only [mU]; rw [if_neg (by omega)]), hf_no hR (by omega) ?_ ?_⟩
                           · rw [gD, mUek _ _ _ _ (by omega), gC, mUs]
                           · rw [gD, mUs]; exact c25)
              · refine x_aload_n 61 rfl rfl ?_
                refine x_iconst 62 rfl ?_
                refine x_aload_n 63 rfl rfl ?_
                refine x_getI 64 (z := i67 189 6) rfl fl_X9_170 (n_lt rfl) k_189 rfl rfl ?_
                refine x_callV 65 m_X9_fails r_fails rfl ok_X9_fails (n_lt rfl) k_189 rfl rfl ml_X9_160 im_X9_fails se_X9_fails rfl (by decide) rfl (Nat.le_of_ble_eq_true rfl) rfl rfl (fun v g q89 => ?_)
                obtain ⟨rfl, i90, li90, rfl, hi90⟩ := q89
                obtain ⟨hEi90, hi90⟩ := hi90
                have hEi90 := hEi90.symm
                subst hEi90
                show mX m_X9_hasFault 4 _ 0 0 _ _ [] _
                have gA := hi90
                rw [show i67 189 6 = i 189 6 from eo.2.2.trans e6] at gA
                refine x_goto 66 (tgt := 152) rfl (by decide) ?_
                have hF : fH i i90 := by first | exact hf | exact hf.tr (fH.of hfe) | (exact (hf.tr (fH.of hfe)).tr (fun a c q1 q2 q3 q4 => by rw [gA]; simp only [mU]; rw [if_neg (by omega), if_neg (by omega)])) | (exact (hf.tr (fH.of hfe)).tr (fun a c q1 q2 q3 q4 => by rw [gB]; simp only [mU]; rw [if_neg (by omega)]))
                have hk7 : i90 189 7 = i 189 7 := by first | exact k_7 | exact eo.1.trans k_7 | (rw [gA, mUek _ _ _ _ (by omega), mUek _ _ _ _ (by omega)]; exact eo.1.trans k_7) | (rw [gB, mUek _ _ _ _ (by omega)]; exact eo.1.trans k_7)
                have hk8 : i90 189 8 = i 189 8 := by first | exact k_8 | exact eo.2.1.trans k_8 | (rw [gA, mUek _ _ _ _ (by omega), mUek _ _ _ _ (by omega)]; exact eo.2.1.trans k_8) | (rw [gB, mUek _ _ _ _ (by omega)]; exact eo.2.1.trans k_8)
                have hR : gfin i90 (gRead b H (i 193) (i 189 6)) := by first | (exact gfin_bad hr (by omega) hx.2) | (exact gfin_end hgs hs hl (by omega) (by omega) hew (Or.inl ⟨by omega, rfl⟩)) | (exact gfin_end hgs hs hl (by omega) (by omega) hew (Or.inr ⟨by omega, Or.inl ⟨by omega, gA⟩⟩)) | (exact gfin_end hgs hs hl (by omega) (by omega) hew (Or.inr ⟨by omega, Or.inr ⟨by omega, by rw [gB]; first | (rw [if_pos (by omega)]) | (rw [if_neg (by omega)])⟩⟩))
                have hR24 := gfin_24 hR
                obtain ⟨iR, hiR⟩ : ∃ f, f = i90 := ⟨_, rfl⟩
                refine x_aload_n 78 rfl rfl ?_
                refine x_getI 79 (z := i90 189 24) rfl fl_X9_139 (n_lt rfl) k_189 rfl rfl ?_
                refine x_bipush 80 rfl (by decide) ?_
                refine x_icmp_eq 81 (tgt := 177) rfl (by decide) (by omega) (fun h91 => ?_) (fun h91 => ?_)
                · refine x_aload_n 90 rfl rfl ?_
                  refine x_getI 91 (z := i90 189 24) rfl fl_X9_139 (n_lt rfl) k_189 rfl rfl ?_
                  refine x_bipush 92 rfl (by decide) ?_
                  refine x_icmp_eq 93 (tgt := 190) rfl (by decide) (by omega) (fun h92 => ?_) (fun h92 => absurd h92 (by omega))
                  refine x_iconst 96 rfl ?_
                  refine x_ret 97 (some (vI (0))) rfl ⟨rfl, Or.inr ⟨rfl, by omega⟩⟩ ⟨_, i90, li67, rfl, rfl, ?_⟩
                  first
                    | (exfalso; omega)
                    | (exact ⟨Or.inl rfl, rfl, hF, hf_ok hR (by omega) hk7 hk8⟩)
                    | (refine ⟨Or.inr rfl, rfl, hF.tr (fun a c q1 q2 q3 q4 => by rw [gD]; simp only [mU]; rw [if_neg (by omega), gC]; simp only [mU]; rw [if_neg (by omega)]), hf_no hR (by omega) ?_ ?_⟩
                       · rw [gD, mUek _ _ _ _ (by omega), gC, mUs]
                       · rw [gD, mUs]; exact c25)
                · refine x_aload_n 82 rfl rfl ?_
                  refine x_aload_n 83 rfl rfl ?_
                  refine x_getI 84 (z := i90 189 24) rfl fl_X9_139 (n_lt rfl) k_189 rfl rfl ?_
                  obtain ⟨i93, hi93⟩ : ∃ f, f = mU i90 189 7 (i90 189 24) := ⟨_, rfl⟩
                  refine x_putI 85 rfl fl_X9_22 (n_lt rfl) k_189 rfl rfl (g' := st i93 li67) (by subst hi93; rfl) ?_
                  have gC := hi93
                  have c24 : i93 189 24 = i90 189 24 := by rw [gC, mUek _ _ _ _ (by omega)]
                  have c25 : i93 189 25 = i90 189 25 := by rw [gC, mUek _ _ _ _ (by omega)]
                  refine x_aload_n 86 rfl rfl ?_
                  refine x_aload_n 87 rfl rfl ?_
                  refine x_getI 88 (z := i93 189 25) rfl fl_X9_142 (n_lt rfl) k_189 rfl rfl ?_
                  obtain ⟨i94, hi94⟩ : ∃ f, f = mU i93 189 8 (i93 189 25) := ⟨_, rfl⟩
                  refine x_putI 89 rfl fl_X9_26 (n_lt rfl) k_189 rfl rfl (g' := st i94 li67) (by subst hi94; rfl) ?_
                  have gD := hi94
                  have d24 : i94 189 24 = i93 189 24 := by rw [gD, mUek _ _ _ _ (by omega)]
                  refine x_aload_n 90 rfl rfl ?_
                  refine x_getI 91 (z := i94 189 24) rfl fl_X9_139 (n_lt rfl) k_189 rfl rfl ?_
                  refine x_bipush 92 rfl (by decide) ?_
                  refine x_icmp_eq 93 (tgt := 190) rfl (by decide) (by omega) (fun h95 => ?_) (fun h95 => ?_)
                  · refine x_iconst 96 rfl ?_
                    refine x_ret 97 (some (vI (0))) rfl ⟨rfl, Or.inr ⟨rfl, by omega⟩⟩ ⟨_, i94, li67, rfl, rfl, ?_⟩
                    first
                      | (exfalso; omega)
                      | (exact ⟨Or.inl rfl, rfl, hF, hf_ok hR (by omega) hk7 hk8⟩)
                      | (refine ⟨Or.inr rfl, rfl, hF.tr (fun a c q1 q2 q3 q4 => by rw [gD]; simp only [mU]; rw [if_neg (by omega), gC]; simp only [mU]; rw [if_neg (by omega)]), hf_no hR (by omega) ?_ ?_⟩
                         · rw [gD, mUek _ _ _ _ (by omega), gC, mUs]
                         · rw [gD, mUs]; exact c25)
                  · refine x_iconst 94 rfl ?_
                    refine x_goto 95 (tgt := 191) rfl (by decide) ?_
                    refine x_ret 97 (some (vI (1))) rfl ⟨rfl, Or.inr ⟨rfl, by omega⟩⟩ ⟨_, i94, li67, rfl, rfl, ?_⟩
                    first
                      | (exfalso; omega)
                      | (exact ⟨Or.inl rfl, rfl, hF, hf_ok hR (by omega) hk7 hk8⟩)
                      | (refine ⟨Or.inr rfl, rfl, hF.tr (fun a c q1 q2 q3 q4 => by rw [gD]; simp only [mU]; rw [if_neg (by omega), gC]; simp only [mU]; rw [if_neg (by omega)]), hf_no hR (by omega) ?_ ?_⟩
                         · rw [gD, mUek _ _ _ _ (by omega), gC, mUs]
                         · rw [gD, mUs]; exact c25)
        · refine x_aload_n 28 rfl rfl ?_
          refine x_getI 29 (z := ii 189 24) rfl fl_X9_139 (n_lt rfl) k_189 rfl rfl ?_
          refine x_bipush 30 rfl (by decide) ?_
          refine x_icmp_ne 31 (tgt := 95) rfl (by decide) (by omega) (fun h96 => ?_) (fun h96 => ?_)
          · refine x_aload_n 50 rfl rfl ?_
            refine x_getI 51 (z := ii 189 24) rfl fl_X9_139 (n_lt rfl) k_189 rfl rfl ?_
            refine x_bipush 52 rfl (by decide) ?_
            refine x_icmp_ne 53 (tgt := 152) rfl (by decide) (by omega) (fun h97 => ?_) (fun h97 => absurd h97 (by omega))
            have hF : fH i ii := by first | exact hf | exact hf.tr (fH.of hfe) | (exact (hf.tr (fH.of hfe)).tr (fun a c q1 q2 q3 q4 => by rw [gA]; simp only [mU]; rw [if_neg (by omega), if_neg (by omega)])) | (exact (hf.tr (fH.of hfe)).tr (fun a c q1 q2 q3 q4 => by rw [gB]; simp only [mU]; rw [if_neg (by omega)]))
            have hk7 : ii 189 7 = i 189 7 := by first | exact k_7 | exact eo.1.trans k_7 | (rw [gA, mUek _ _ _ _ (by omega), mUek _ _ _ _ (by omega)]; exact eo.1.trans k_7) | (rw [gB, mUek _ _ _ _ (by omega)]; exact eo.1.trans k_7)
            have hk8 : ii 189 8 = i 189 8 := by first | exact k_8 | exact eo.2.1.trans k_8 | (rw [gA, mUek _ _ _ _ (by omega), mUek _ _ _ _ (by omega)]; exact eo.2.1.trans k_8) | (rw [gB, mUek _ _ _ _ (by omega)]; exact eo.2.1.trans k_8)
            have hR : gfin ii (gRead b H (i 193) (i 189 6)) := by first | (exact gfin_bad hr (by omega) hx.2) | (exact gfin_end hgs hs hl (by omega) (by omega) hew (Or.inl ⟨by omega, rfl⟩)) | (exact gfin_end hgs hs hl (by omega) (by omega) hew (Or.inr ⟨by omega, Or.inl ⟨by omega, gA⟩⟩)) | (exact gfin_end hgs hs hl (by omega) (by omega) hew (Or.inr ⟨by omega, Or.inr ⟨by omega, by rw [gB]; first | (rw [if_pos (by omega)]) | (rw [if_neg (by omega)])⟩⟩))
            have hR24 := gfin_24 hR
            obtain ⟨iR, hiR⟩ : ∃ f, f = ii := ⟨_, rfl⟩
            refine x_aload_n 78 rfl rfl ?_
            refine x_getI 79 (z := ii 189 24) rfl fl_X9_139 (n_lt rfl) k_189 rfl rfl ?_
            refine x_bipush 80 rfl (by decide) ?_
            refine x_icmp_eq 81 (tgt := 177) rfl (by decide) (by omega) (fun h98 => absurd h98 (by omega)) (fun h98 => ?_)
            refine x_aload_n 82 rfl rfl ?_
            refine x_aload_n 83 rfl rfl ?_
            refine x_getI 84 (z := ii 189 24) rfl fl_X9_139 (n_lt rfl) k_189 rfl rfl ?_
            obtain ⟨i99, hi99⟩ : ∃ f, f = mU ii 189 7 (ii 189 24) := ⟨_, rfl⟩
            refine x_putI 85 rfl fl_X9_22 (n_lt rfl) k_189 rfl rfl (g' := st i99 l) (by subst hi99; rfl) ?_
            have gC := hi99
            have c24 : i99 189 24 = ii 189 24 := by rw [gC, mUek _ _ _ _ (by omega)]
            have c25 : i99 189 25 = ii 189 25 := by rw [gC, mUek _ _ _ _ (by omega)]
            refine x_aload_n 86 rfl rfl ?_
            refine x_aload_n 87 rfl rfl ?_
            refine x_getI 88 (z := i99 189 25) rfl fl_X9_142 (n_lt rfl) k_189 rfl rfl ?_
            obtain ⟨i100, hi100⟩ : ∃ f, f = mU i99 189 8 (i99 189 25) := ⟨_, rfl⟩
            refine x_putI 89 rfl fl_X9_26 (n_lt rfl) k_189 rfl rfl (g' := st i100 l) (by subst hi100; rfl) ?_
            have gD := hi100
            have d24 : i100 189 24 = i99 189 24 := by rw [gD, mUek _ _ _ _ (by omega)]
            refine x_aload_n 90 rfl rfl ?_
            refine x_getI 91 (z := i100 189 24) rfl fl_X9_139 (n_lt rfl) k_189 rfl rfl ?_
            refine x_bipush 92 rfl (by decide) ?_
            refine x_icmp_eq 93 (tgt := 190) rfl (by decide) (by omega) (fun h101 => ?_) (fun h101 => ?_)
            · refine x_iconst 96 rfl ?_
              refine x_ret 97 (some (vI (0))) rfl ⟨rfl, Or.inr ⟨rfl, by omega⟩⟩ ⟨_, i100, l, rfl, rfl, ?_⟩
              first
                | (exfalso; omega)
                | (exact ⟨Or.inl rfl, rfl, hF, hf_ok hR (by omega) hk7 hk8⟩)
                | (refine ⟨Or.inr rfl, rfl, hF.tr (fun a c q1 q2 q3 q4 => by rw [gD]; simp only [mU]; rw [if_neg (by omega), gC]; simp only [mU]; rw [if_neg (by omega)]), hf_no hR (by omega) ?_ ?_⟩
                   · rw [gD, mUek _ _ _ _ (by omega), gC, mUs]
                   · rw [gD, mUs]; exact c25)
            · refine x_iconst 94 rfl ?_
              refine x_goto 95 (tgt := 191) rfl (by decide) ?_
              refine x_ret 97 (some (vI (1))) rfl ⟨rfl, Or.inr ⟨rfl, by omega⟩⟩ ⟨_, i100, l, rfl, rfl, ?_⟩
              first
                | (exfalso; omega)
                | (exact ⟨Or.inl rfl, rfl, hF, hf_ok hR (by omega) hk7 hk8⟩)
                | (refine ⟨Or.inr rfl, rfl, hF.tr (fun a c q1 q2 q3 q4 => by rw [gD]; simp only [mU]; rw [if_neg (by omega), gC]; simp only [mU]; rw [if_neg (by omega)]), hf_no hR (by omega) ?_ ?_⟩
                   · rw [gD, mUek _ _ _ _ (by omega), gC, mUs]
                   · rw [gD, mUs]; exact c25)
          · obtain ⟨s, hgs, hs, hl⟩ := simMR_ok hr (by omega)
            have hg := okG_run hgs
            have e193 : ii 193 x = i 193 x := hf 193 x (by omega) (by omega) (by omega) (by omega)
            have hcx := hc x hx.1 (by omega)
            refine x_aload_n 32 rfl rfl ?_
            refine x_getR 33 (z := 193) rfl fl_X9_19 (n_lt rfl) k_189 rfl r_189_5 ?_
            refine x_iload_n 34 rfl rfl ?_
            refine x_iald 35 (z := ii 193 x) rfl (n_lt rfl) k_193 (by omega) rfl ?_
            refine x_bipush 36 rfl (by decide) ?_
            refine x_bipush 37 rfl (by decide) ?_
            refine x_callS 38 m_X9_isIn (r_isIn (by omega) (by omega) (by omega)) rfl ok_X9_isIn ml_X9_62 st_X9_isIn rfl (by decide) rfl (Nat.le_of_ble_eq_true rfl) rfl rfl (fun v g q102 => ?_)
            rcases q102 with ⟨rfl, ⟨h103, rfl⟩ | ⟨h103, rfl⟩⟩
            · show mX m_X9_hasFault 4 _ 0 0 _ _ [vI (1)] _
              refine x_if_eq 39 (tgt := 83) rfl (by decide) (by decide) (fun h104 => absurd h104 (by decide)) (fun h104 => ?_)
              refine x_aload_n 40 rfl rfl ?_
              refine x_iload_n 41 rfl rfl ?_
              refine x_callV 42 m_X9_readDigit (r_readDigit (sg := b) hs (by rw [k30]; exact hg) (by omega) (by omega) hl (by omega) (by omega)) rfl ok_X9_readDigit (n_lt rfl) k_189 rfl rfl ml_X9_173 im_X9_readDigit se_X9_readDigit rfl (by decide) rfl (Nat.le_of_ble_eq_true rfl) rfl rfl (fun v g q105 => ?_)
              obtain ⟨rfl, i106, li106, rfl, hi106⟩ := q105
              obtain ⟨hEi106, hi106⟩ := hi106
              have hEi106 := hEi106.symm
              subst hEi106
              show mX m_X9_hasFault 4 _ 0 0 _ _ [] _
              obtain ⟨hfm, hsr⟩ := hi106
              rw [k30, e193, ← gRun_s hx.1 hgs] at hsr
              refine x_goto 43 (tgt := 89) rfl (by decide) ?_
              refine x_iinc 48 (L' := [some (vR (some 189)), some (vI (b)), some (vI (x + 1))]) rfl (by decide) rfl rfl rfl rfl ?_
              refine x_goto 49 (tgt := 42) rfl (by decide) ?_
              exact ihL59 i106 (x + 1) (by omega) (hf.tr (fH.of hfm)) (by rw [hfm 189 30 (by omega) (by omega) (by omega) (by omega)]; exact k30) (by rw [hfm 189 7 (by omega) (by omega) (by omega) (by omega)]; exact k_7) (by rw [hfm 189 8 (by omega) (by omega) (by omega) (by omega)]; exact k_8) (hsr) (by omega)
            · show mX m_X9_hasFault 4 _ 0 0 _ _ [vI (0)] _
              refine x_if_eq 39 (tgt := 83) rfl (by decide) (by decide) (fun h107 => ?_) (fun h107 => absurd h107 (by decide))
              refine x_aload_n 44 rfl rfl ?_
              refine x_iload_n 45 rfl rfl ?_
              refine x_iload_n 46 rfl rfl ?_
              refine x_callV 47 m_X9_readOther (r_readOther hs (by rw [k30]; exact hg) (by omega) (by omega) hl (by omega) hb (by omega) (by omega)) rfl ok_X9_readOther (n_lt rfl) k_189 rfl rfl ml_X9_176 im_X9_readOther se_X9_readOther rfl (by decide) rfl (Nat.le_of_ble_eq_true rfl) rfl rfl (fun v g q108 => ?_)
              obtain ⟨rfl, i109, li109, rfl, hi109⟩ := q108
              obtain ⟨hEi109, hi109⟩ := hi109
              have hEi109 := hEi109.symm
              subst hEi109
              show mX m_X9_hasFault 4 _ 0 0 _ _ [] _
              obtain ⟨hfm, hsr⟩ := hi109
              rw [k30, e193, ← gRun_s hx.1 hgs] at hsr
              refine x_iinc 48 (L' := [some (vR (some 189)), some (vI (b)), some (vI (x + 1))]) rfl (by decide) rfl rfl rfl rfl ?_
              refine x_goto 49 (tgt := 42) rfl (by decide) ?_
              exact ihL59 i109 (x + 1) (by omega) (hf.tr (fH.of hfm)) (by rw [hfm 189 30 (by omega) (by omega) (by omega) (by omega)]; exact k30) (by rw [hfm 189 7 (by omega) (by omega) (by omega) (by omega)]; exact k_7) (by rw [hfm 189 8 (by omega) (by omega) (by omega) (by omega)]; exact k_8) (hsr) (by omega)
    exact loopL59 ((i 189 6 - ((0))) + 1 : Int).toNat i58 (0) (by omega) (by intro a c q1 q2 q3 q4; rw [p1]; simp only [mU]; rw [if_neg (by omega), if_neg (by omega), if_neg (by omega), if_neg (by omega), if_neg (by omega)]) (by rw [p1, mUs]) (by rw [p1]; simp [mU]) (by rw [p1]; simp [mU]) (by show simMR _ 0 (.inl (0, 0, 0, 0, 0, [])); refine ⟨by rw [p1]; simp [mU], ⟨by rw [p1]; simp [mU], fun q => by simp only at q; omega, fun q => by simp only at q; omega, by rw [p1]; simp [mU], fun q => by simp only at q; omega, fun k k0 k1 => absurd k1 (by simp; omega)⟩, by unfold lenM; simp⟩) (by omega)
