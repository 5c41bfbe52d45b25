variable {nn : Nat} {bb : Bool}
/-! a range is a longest row .. -/
set_option maxRecDepth 20000 in
set_option maxHeartbeats 2000000 in
theorem c_l_isRange {i : Nat → Int → Int} {l : Nat → Int → BitVec 64} {B : bT} (hR : RelT bb i l B) (hB : okT B) {y : Int} (hy : 0 ≤ y ∧ y < B.1 11) : mCtr m_L_isRange 9 0 0 [vR (some (ob bb)), vI (y)] (st nn i l) (qT nn bb i l (1, B)) := by
  refine mCtr_of pl_L dc_L_isRange (Nat.le_of_ble_eq_true rfl) rfl ?_
  show mX m_L_isRange 9 _ 0 0 0 [some (vR (some (ob bb))), some (vI (y)), none, none, none, none, none, none, none, none, none, none, none, none] [] (st nn i l)
  have hk := kp_0 hR
  have hW := hB.1
  have hN := hW.n
  have hv := hW.v hy.1 hy.2
  obtain ⟨f, hf⟩ : ∃ f : Int → Bool, f = fun p => decide (B.1 0 ≤ gIn (sV B.1 y) p) := ⟨_, rfl⟩
  refine x_aload_n 0 rfl rfl ?_
  refine x_iload_n 1 rfl rfl ?_
  refine x_iconst 2 rfl ?_
  refine x_callV 3 m_X8_singer (c_b_singer hk.1 hB (by omega) (by omega)) rfl ok_X8_singer b_lt0 k_0 rfl rfl ml_L_70 im_X8_singer se_X8_singer rfl (by decide) rfl (Nat.le_of_ble_eq_true rfl) rfl rfl (fun v g q1 => ?_)
  obtain ⟨rfl, i2, li2, rfl, hk⟩ := kQ_of hk q1
  have hk : kp bb i i l (B) i2 li2 := hk
  show mX m_L_isRange 9 _ 0 0 _ _ [vI (anSinger y 2 B.1)] _
  refine x_eqS (S' := [vI (rgLo (sV B.1 y))]) (by rw [anS2 (by omega) (by omega)]) ?_
  refine x_istore_n 4 (L' := [some (vR (some (ob bb))), some (vI (y)), some (vI (rgLo (sV B.1 y))), none, none, none, none, none, none, none, none, none, none, none]) rfl (by decide) rfl rfl ?_
  refine x_aload_n 5 rfl rfl ?_
  refine x_iload_n 6 rfl rfl ?_
  refine x_iconst 7 rfl ?_
  refine x_callV 8 m_X8_singer (c_b_singer hk.1 hB (by omega) (by omega)) rfl ok_X8_singer b_lt0 k_0 rfl rfl ml_L_70 im_X8_singer se_X8_singer rfl (by decide) rfl (Nat.le_of_ble_eq_true rfl) rfl rfl (fun v g q3 => ?_)
  obtain ⟨rfl, i4, li4, rfl, hk⟩ := kQ_of hk q3
  have hk : kp bb i i l (B) i4 li4 := hk
  show mX m_L_isRange 9 _ 0 0 _ _ [vI (anSinger y 3 B.1)] _
  refine x_eqS (S' := [vI (rgHi (sV B.1 y))]) (by rw [anS3 (by omega) (by omega)]) ?_
  refine x_istore_n 9 (L' := [some (vR (some (ob bb))), some (vI (y)), some (vI (rgLo (sV B.1 y))), some (vI (rgHi (sV B.1 y))), none, none, none, none, none, none, none, none, none, none]) rfl (by decide) rfl rfl ?_
  refine x_iconst 10 rfl ?_
  refine x_istore 11 (L' := [some (vR (some (ob bb))), some (vI (y)), some (vI (rgLo (sV B.1 y))), some (vI (rgHi (sV B.1 y))), some (vI (0)), none, none, none, none, none, none, none, none, none]) rfl (by decide) rfl rfl ?_
  refine x_iconst 12 rfl ?_
  refine x_istore 13 (L' := [some (vR (some (ob bb))), some (vI (y)), some (vI (rgLo (sV B.1 y))), some (vI (rgHi (sV B.1 y))), some (vI (0)), some (vI (0)), none, none, none, none, none, none, none, none]) rfl (by decide) rfl rfl ?_
  refine x_bipush 14 rfl (by decide) ?_
  refine x_istore 15 (L' := [some (vR (some (ob bb))), some (vI (y)), some (vI (rgLo (sV B.1 y))), some (vI (rgHi (sV B.1 y))), some (vI (0)), some (vI (0)), some (vI ((-9))), none, none, none, none, none, none, none]) rfl (by decide) rfl rfl ?_
  refine x_iconst 16 rfl ?_
  refine x_istore 17 (L' := [some (vR (some (ob bb))), some (vI (y)), some (vI (rgLo (sV B.1 y))), some (vI (rgHi (sV B.1 y))), some (vI (0)), some (vI (0)), some (vI ((-9))), some (vI (0)), none, none, none, none, none, none]) rfl (by decide) rfl rfl ?_
  have loopL5 : ∀ (nz : Nat) (ii : Nat → Int → Int) (ll : Nat → Int → BitVec 64) (x : Int) (row : Int) (most : Int) (en : Int), (0 ≤ x ∧ x ≤ 41) → (rgI (fun k => decide (sV B.1 y (7 + k) = 1)) x row most en) → (kp bb i i l B ii ll) → (41 - x) < (nz : Int) → mX m_L_isRange 9 (qT nn bb i l (1, B)) 0 0 27 [some (vR (some (ob bb))), some (vI (y)), some (vI (rgLo (sV B.1 y))), some (vI (rgHi (sV B.1 y))), some (vI (row)), some (vI (most)), some (vI (en)), some (vI (x)), none, none, none, none, none, none] [] (st nn ii ll) := by
    intro nz
    induction nz with
    | zero => intro ii ll x row most en hx hI hk hz; exact absurd hz (by omega)
    | succ nz ihL5 =>
      intro ii ll x row most en hx hI hk hzL5
      have hbd := rgI_bd hI hx.1
      refine x_iload 18 rfl rfl ?_
      refine x_bipush 19 rfl (by decide) ?_
      refine x_icmp_ge 20 (tgt := 93) rfl (by decide) (by omega) (fun h6 => ?_) (fun h6 => ?_)
      · have hx41 : x = 41 := by omega
        rw [hx41] at hI
        obtain ⟨lw, hlw, hF, hG⟩ := rg_fin hI
        refine x_iload 49 rfl rfl ?_
        have joinJ7 :  mX m_L_isRange 9 (qT nn bb i l (1, B)) 0 0 140 [some (vR (some (ob bb))), some (vI (y)), some (vI (rgLo (sV B.1 y))), some (vI (rgHi (sV B.1 y))), some (vI (row)), some (vI (most)), some (vI (en)), some (vI (x)), none, none, none, none, none, none] [vI (1)] (st nn ii ll) := by
          refine x_istore 74 (L' := [some (vR (some (ob bb))), some (vI (y)), some (vI (rgLo (sV B.1 y))), some (vI (rgHi (sV B.1 y))), some (vI (row)), some (vI (most)), some (vI (en)), some (vI (1)), none, none, none, none, none, none]) rfl (by decide) rfl rfl ?_
          refine x_iconst 75 rfl ?_
          refine x_istore 76 (L' := [some (vR (some (ob bb))), some (vI (y)), some (vI (rgLo (sV B.1 y))), some (vI (rgHi (sV B.1 y))), some (vI (row)), some (vI (most)), some (vI (en)), some (vI (1)), some (vI (0)), none, none, none, none, none]) rfl (by decide) rfl rfl ?_
          refine x_iconst 77 rfl ?_
          refine x_istore 78 (L' := [some (vR (some (ob bb))), some (vI (y)), some (vI (rgLo (sV B.1 y))), some (vI (rgHi (sV B.1 y))), some (vI (row)), some (vI (most)), some (vI (en)), some (vI (1)), some (vI (0)), some (vI (0)), none, none, none, none]) rfl (by decide) rfl rfl ?_
          have loopL8 : ∀ (nz : Nat) (ii2 : Nat → Int → Int) (ll2 : Nat → Int → BitVec 64) (p : Int) (se : Int), (0 ≤ p ∧ p ≤ 4) → (se = orZ f p) → (kp bb i i l B ii2 ll2) → (4 - p) < (nz : Int) → mX m_L_isRange 9 (qT nn bb i l (1, B)) 0 0 148 [some (vR (some (ob bb))), some (vI (y)), some (vI (rgLo (sV B.1 y))), some (vI (rgHi (sV B.1 y))), some (vI (row)), some (vI (most)), some (vI (en)), some (vI (1)), some (vI (se)), some (vI (p)), none, none, none, none] [] (st nn ii2 ll2) := by
            intro nz
            induction nz with
            | zero => intro ii2 ll2 p se hp hs hk hz; exact absurd hz (by omega)
            | succ nz ihL8 =>
              intro ii2 ll2 p se hp hs hk hzL8
              refine x_iload 79 rfl rfl ?_
              refine x_iconst 80 rfl ?_
              refine x_icmp_ge 81 (tgt := 277) rfl (by decide) (by omega) (fun h9 => ?_) (fun h9 => ?_)
              · have hse : se = gFits B.1 y := by rw [hs, hf, show p = 4 by omega]; rfl
                have hgb := gFits_bd B.1 y
                refine x_iload 146 rfl rfl ?_
                refine x_if_eq 147 (tgt := 308) rfl (by decide) (by decide) (fun h10 => absurd h10 (by decide)) (fun h10 => ?_)
                refine x_aload_n 148 rfl rfl ?_
                refine x_iload_n 149 rfl rfl ?_
                refine x_iconst 150 rfl ?_
                refine x_callV 151 m_X8_singer (c_b_singer hk.1 hB (by omega) (by omega)) rfl ok_X8_singer b_lt0 k_0 rfl rfl ml_L_70 im_X8_singer se_X8_singer rfl (by decide) rfl (Nat.le_of_ble_eq_true rfl) rfl rfl (fun v g q11 => ?_)
                obtain ⟨rfl, i12, li12, rfl, hk⟩ := kQ_of hk q11
                have hk : kp bb i i l (B) i12 li12 := hk
                show mX m_L_isRange 9 _ 0 0 _ _ [vI (anSinger y 4 B.1)] _
                refine x_eqS (S' := [vI (gFits B.1 y)]) (by rw [anS4 (by omega) (by omega)]) ?_
                refine x_iload 152 rfl rfl ?_
                refine x_icmp_ne 153 (tgt := 308) rfl (by decide) (by omega) (fun h13 => by exfalso; omega) (fun h13 => ?_)
                refine x_aload_n 154 rfl rfl ?_
                refine x_iload_n 155 rfl rfl ?_
                refine x_bipush 156 rfl (by decide) ?_
                refine x_callV 157 m_X8_note (c_b_note hk.1 hB (by omega) (by omega)) rfl ok_X8_note b_lt0 k_0 rfl rfl ml_L_73 im_X8_note se_X8_note rfl (by decide) rfl (Nat.le_of_ble_eq_true rfl) rfl rfl (fun v g q14 => ?_)
                obtain ⟨rfl, i15, li15, rfl, hk⟩ := kQ_of hk q14
                have hk : kp bb i i l (B) i15 li15 := hk
                show mX m_L_isRange 9 _ 0 0 _ _ [vI (anNote y 41 B.1)] _
                refine x_eqS (S' := [vI ((-1))]) (by rw [anN41]) ?_
                refine x_iconst 158 rfl ?_
                refine x_icmp_ne 159 (tgt := 308) rfl (by decide) (by decide) (fun h16 => absurd h16 (by decide)) (fun h16 => ?_)
                refine x_iconst 160 rfl ?_
                refine x_goto 161 (tgt := 309) rfl (by decide) ?_
                refine x_ret 163 (some (vI (1))) rfl ⟨rfl, Or.inr ⟨rfl, by omega⟩⟩ ⟨_, i15, li15, rfl, rfl, ?_⟩
                exact kp_fin hk rfl
              · have hgp := hG p
                have hsb := orZ_bd f (x := p) (by omega)
                refine x_bipush 82 rfl (by decide) ?_
                refine x_bipush 83 rfl (by decide) ?_
                refine x_iload 84 rfl rfl ?_
                refine x_imul 85 (r := 6 * p) rfl rfl ?_
                refine x_isub 86 (r := 22 - (6 * p)) rfl rfl ?_
                refine x_istore 87 (L' := [some (vR (some (ob bb))), some (vI (y)), some (vI (rgLo (sV B.1 y))), some (vI (rgHi (sV B.1 y))), some (vI (row)), some (vI (most)), some (vI (en)), some (vI (1)), some (vI (se)), some (vI (p)), some (vI (22 - (6 * p))), none, none, none]) rfl (by decide) rfl rfl ?_
                refine x_iload_n 88 rfl rfl ?_
                refine x_iload 89 rfl rfl ?_
                refine x_icmp_le 90 (tgt := 174) rfl (by decide) (by omega) (fun h17 => ?_) (fun h17 => ?_)
                · refine x_iload 93 rfl rfl ?_
                  refine x_istore 94 (L' := [some (vR (some (ob bb))), some (vI (y)), some (vI (rgLo (sV B.1 y))), some (vI (rgHi (sV B.1 y))), some (vI (row)), some (vI (most)), some (vI (en)), some (vI (1)), some (vI (se)), some (vI (p)), some (vI (22 - (6 * p))), some (vI (22 - (6 * p))), none, none]) rfl (by decide) rfl rfl ?_
                  refine x_iload_n 95 rfl rfl ?_
                  refine x_iload 96 rfl rfl ?_
                  refine x_bipush 97 rfl (by decide) ?_
                  refine x_iadd 98 (r := (22 - (6 * p)) + 14) rfl rfl ?_
                  refine x_icmp_ge 99 (tgt := 191) rfl (by decide) (by omega) (fun h18 => ?_) (fun h18 => ?_)
                  · refine x_iload 102 rfl rfl ?_
                    refine x_bipush 103 rfl (by decide) ?_
                    refine x_iadd 104 (r := (22 - (6 * p)) + 14) rfl rfl ?_
                    refine x_istore 105 (L' := [some (vR (some (ob bb))), some (vI (y)), some (vI (rgLo (sV B.1 y))), some (vI (rgHi (sV B.1 y))), some (vI (row)), some (vI (most)), some (vI (en)), some (vI (1)), some (vI (se)), some (vI (p)), some (vI (22 - (6 * p))), some (vI (22 - (6 * p))), some (vI ((22 - (6 * p)) + 14)), none]) rfl (by decide) rfl rfl ?_
                    refine x_iload 106 rfl rfl ?_
                    refine x_if_eq 107 (tgt := 210) rfl (by decide) (by omega) (fun h19 => ?_) (fun h19 => ?_)
                    · refine x_iconst 111 rfl ?_
                      refine x_eqS (S' := [vI (gIn (sV B.1 y) p)]) (by rw [show gIn (sV B.1 y) p = 0 by omega]) ?_
                      refine x_goto 112 (tgt := 221) rfl (by decide) ?_
                      refine x_istore 118 (L' := [some (vR (some (ob bb))), some (vI (y)), some (vI (rgLo (sV B.1 y))), some (vI (rgHi (sV B.1 y))), some (vI (row)), some (vI (most)), some (vI (en)), some (vI (1)), some (vI (se)), some (vI (p)), some (vI (22 - (6 * p))), some (vI (22 - (6 * p))), some (vI ((22 - (6 * p)) + 14)), some (vI (gIn (sV B.1 y) p))]) rfl (by decide) rfl rfl ?_
                      refine x_iload 119 rfl rfl ?_
                      refine x_if_eq 120 (tgt := 244) rfl (by decide) (by decide) (fun h20 => absurd h20 (by decide)) (fun h20 => ?_)
                      refine x_aload_n 121 rfl rfl ?_
                      refine x_iload_n 122 rfl rfl ?_
                      refine x_iload 123 rfl rfl ?_
                      refine x_callV 124 m_X8_overlap (c_b_overlap hk.1 hB (by omega) (by omega)) rfl ok_X8_overlap b_lt0 k_0 rfl rfl ml_L_76 im_X8_overlap se_X8_overlap rfl (by decide) rfl (Nat.le_of_ble_eq_true rfl) rfl rfl (fun v g q21 => ?_)
                      obtain ⟨rfl, i22, li22, rfl, hk⟩ := kQ_of hk q21
                      have hk : kp bb i i l (B) i22 li22 := hk
                      show mX m_L_isRange 9 _ 0 0 _ _ [vI (anOverlap y p B.1)] _
                      refine x_eqS (S' := [vI (gIn (sV B.1 y) p)]) (by rw [anO (by omega) (by omega) (by omega)]) ?_
                      refine x_iload 125 rfl rfl ?_
                      refine x_icmp_ne 126 (tgt := 244) rfl (by decide) (by omega) (fun h23 => by exfalso; omega) (fun h23 => ?_)
                      refine x_iconst 127 rfl ?_
                      refine x_goto 128 (tgt := 245) rfl (by decide) ?_
                      refine x_istore 130 (L' := [some (vR (some (ob bb))), some (vI (y)), some (vI (rgLo (sV B.1 y))), some (vI (rgHi (sV B.1 y))), some (vI (row)), some (vI (most)), some (vI (en)), some (vI (1)), some (vI (se)), some (vI (p)), some (vI (22 - (6 * p))), some (vI (22 - (6 * p))), some (vI ((22 - (6 * p)) + 14)), some (vI (gIn (sV B.1 y) p))]) rfl (by decide) rfl rfl ?_
                      refine x_iload 131 rfl rfl ?_
                      refine x_aload_n 132 rfl rfl ?_
                      refine x_iconst 133 rfl ?_
                      refine x_callV 134 m_X8_setting (c_b_setting hk.1 hB (by omega)) rfl ok_X8_setting b_lt0 k_0 rfl rfl ml_L_79 im_X8_setting se_X8_setting rfl (by decide) rfl (Nat.le_of_ble_eq_true rfl) rfl rfl (fun v g q24 => ?_)
                      obtain ⟨rfl, i25, li25, rfl, hk⟩ := kQ_of hk q24
                      have hk : kp bb i i l (B) i25 li25 := hk
                      show mX m_L_isRange 9 _ 0 0 _ _ [vI (B.1 0), vI (gIn (sV B.1 y) p)] _
                      refine x_icmp_lt 135 (tgt := 267) rfl (by decide) (by omega) (fun h26 => ?_) (fun h26 => ?_)
                      · have hfp : f p = false := by rw [hf]; exact decide_eq_false (by omega)
                        refine x_iload 142 rfl rfl ?_
                        refine x_istore 143 (L' := [some (vR (some (ob bb))), some (vI (y)), some (vI (rgLo (sV B.1 y))), some (vI (rgHi (sV B.1 y))), some (vI (row)), some (vI (most)), some (vI (en)), some (vI (1)), some (vI (se)), some (vI (p)), some (vI (22 - (6 * p))), some (vI (22 - (6 * p))), some (vI ((22 - (6 * p)) + 14)), some (vI (gIn (sV B.1 y) p))]) rfl (by decide) rfl rfl ?_
                        refine x_iinc 144 (L' := [some (vR (some (ob bb))), some (vI (y)), some (vI (rgLo (sV B.1 y))), some (vI (rgHi (sV B.1 y))), some (vI (row)), some (vI (most)), some (vI (en)), some (vI (1)), some (vI (se)), some (vI (p + 1)), some (vI (22 - (6 * p))), some (vI (22 - (6 * p))), some (vI ((22 - (6 * p)) + 14)), some (vI (gIn (sV B.1 y) p))]) rfl (by decide) rfl rfl rfl rfl ?_
                        refine x_goto 145 (tgt := 148) rfl (by decide) ?_
                        refine x_dropL (L' := [some (vR (some (ob bb))), some (vI (y)), some (vI (rgLo (sV B.1 y))), some (vI (rgHi (sV B.1 y))), some (vI (row)), some (vI (most)), some (vI (en)), some (vI (1)), some (vI (se)), some (vI (p + 1)), none, none, none, none]) ⟨rfl, ⟨rfl, ⟨rfl, ⟨rfl, ⟨rfl, ⟨rfl, ⟨rfl, ⟨rfl, ⟨rfl, ⟨rfl, True.intro⟩⟩⟩⟩⟩⟩⟩⟩⟩⟩ ?_
                        exact ihL8 i25 li25 (p + 1) (se) (by omega) (by rw [orZ_s f hp.1, hs, hfp]; first | (rw [if_neg (by decide)]) | (rw [if_pos rfl, mOne])) (hk) (by omega)
                      · have hfp : f p = true := by rw [hf]; exact decide_eq_true (by omega)
                        have hp2 := mPow4 (show 0 ≤ p ∧ p < 4 by omega)
                        refine x_iload 136 rfl rfl ?_
                        refine x_iconst 137 rfl ?_
                        refine x_iload 138 rfl rfl ?_
                        refine x_ishl 139 (r := 1 * 2 ^ (p).toNat) rfl (by have := Nat.pow_le_pow_right (n := 2) (by decide) (show p.toNat ≤ 4 by omega); omega) rfl ?_
                        refine x_ior 140 (r := (se : Int).toNat ||| (1 * 2 ^ (p).toNat : Int).toNat) rfl (by omega) rfl ?_
                        refine x_goto 141 (tgt := 269) rfl (by decide) ?_
                        refine x_istore 143 (L' := [some (vR (some (ob bb))), some (vI (y)), some (vI (rgLo (sV B.1 y))), some (vI (rgHi (sV B.1 y))), some (vI (row)), some (vI (most)), some (vI (en)), some (vI (1)), some (vI ((((se : Int).toNat ||| (1 * 2 ^ (p).toNat : Int).toNat : Nat) : Int))), some (vI (p)), some (vI (22 - (6 * p))), some (vI (22 - (6 * p))), some (vI ((22 - (6 * p)) + 14)), some (vI (gIn (sV B.1 y) p))]) rfl (by decide) rfl rfl ?_
                        refine x_iinc 144 (L' := [some (vR (some (ob bb))), some (vI (y)), some (vI (rgLo (sV B.1 y))), some (vI (rgHi (sV B.1 y))), some (vI (row)), some (vI (most)), some (vI (en)), some (vI (1)), some (vI ((((se : Int).toNat ||| (1 * 2 ^ (p).toNat : Int).toNat : Nat) : Int))), some (vI (p + 1)), some (vI (22 - (6 * p))), some (vI (22 - (6 * p))), some (vI ((22 - (6 * p)) + 14)), some (vI (gIn (sV B.1 y) p))]) rfl (by decide) rfl rfl rfl rfl ?_
                        refine x_goto 145 (tgt := 148) rfl (by decide) ?_
                        refine x_dropL (L' := [some (vR (some (ob bb))), some (vI (y)), some (vI (rgLo (sV B.1 y))), some (vI (rgHi (sV B.1 y))), some (vI (row)), some (vI (most)), some (vI (en)), some (vI (1)), some (vI ((((se : Int).toNat ||| (1 * 2 ^ (p).toNat : Int).toNat : Nat) : Int))), some (vI (p + 1)), none, none, none, none]) ⟨rfl, ⟨rfl, ⟨rfl, ⟨rfl, ⟨rfl, ⟨rfl, ⟨rfl, ⟨rfl, ⟨rfl, ⟨rfl, True.intro⟩⟩⟩⟩⟩⟩⟩⟩⟩⟩ ?_
                        exact ihL8 i25 li25 (p + 1) ((((se : Int).toNat ||| (1 * 2 ^ (p).toNat : Int).toNat : Nat) : Int)) (by omega) (by rw [orZ_s f hp.1, hs, hfp]; first | (rw [if_neg (by decide)]) | (rw [if_pos rfl, mOne])) (hk) (by omega)
                    · refine x_iload 108 rfl rfl ?_
                      refine x_iload 109 rfl rfl ?_
                      refine x_icmp_ge 110 (tgt := 214) rfl (by decide) (by omega) (fun h27 => ?_) (fun h27 => ?_)
                      · refine x_iload 113 rfl rfl ?_
                        refine x_iload 114 rfl rfl ?_
                        refine x_isub 115 (r := ((22 - (6 * p)) + 14) - (22 - (6 * p))) rfl rfl ?_
                        refine x_iconst 116 rfl ?_
                        refine x_iadd 117 (r := (((22 - (6 * p)) + 14) - (22 - (6 * p))) + 1) rfl rfl ?_
                        refine x_eqS (S' := [vI (gIn (sV B.1 y) p)]) (by refine congrArg (fun z => vI z :: _) ?_; omega) ?_
                        refine x_istore 118 (L' := [some (vR (some (ob bb))), some (vI (y)), some (vI (rgLo (sV B.1 y))), some (vI (rgHi (sV B.1 y))), some (vI (row)), some (vI (most)), some (vI (en)), some (vI (1)), some (vI (se)), some (vI (p)), some (vI (22 - (6 * p))), some (vI (22 - (6 * p))), some (vI ((22 - (6 * p)) + 14)), some (vI (gIn (sV B.1 y) p))]) rfl (by decide) rfl rfl ?_
                        refine x_iload 119 rfl rfl ?_
                        refine x_if_eq 120 (tgt := 244) rfl (by decide) (by decide) (fun h28 => absurd h28 (by decide)) (fun h28 => ?_)
                        refine x_aload_n 121 rfl rfl ?_
                        refine x_iload_n 122 rfl rfl ?_
                        refine x_iload 123 rfl rfl ?_
                        refine x_callV 124 m_X8_overlap (c_b_overlap hk.1 hB (by omega) (by omega)) rfl ok_X8_overlap b_lt0 k_0 rfl rfl ml_L_76 im_X8_overlap se_X8_overlap rfl (by decide) rfl (Nat.le_of_ble_eq_true rfl) rfl rfl (fun v g q29 => ?_)
                        obtain ⟨rfl, i30, li30, rfl, hk⟩ := kQ_of hk q29
                        have hk : kp bb i i l (B) i30 li30 := hk
                        show mX m_L_isRange 9 _ 0 0 _ _ [vI (anOverlap y p B.1)] _
                        refine x_eqS (S' := [vI (gIn (sV B.1 y) p)]) (by rw [anO (by omega) (by omega) (by omega)]) ?_
                        refine x_iload 125 rfl rfl ?_
                        refine x_icmp_ne 126 (tgt := 244) rfl (by decide) (by omega) (fun h31 => by exfalso; omega) (fun h31 => ?_)
                        refine x_iconst 127 rfl ?_
                        refine x_goto 128 (tgt := 245) rfl (by decide) ?_
                        refine x_istore 130 (L' := [some (vR (some (ob bb))), some (vI (y)), some (vI (rgLo (sV B.1 y))), some (vI (rgHi (sV B.1 y))), some (vI (row)), some (vI (most)), some (vI (en)), some (vI (1)), some (vI (se)), some (vI (p)), some (vI (22 - (6 * p))), some (vI (22 - (6 * p))), some (vI ((22 - (6 * p)) + 14)), some (vI (gIn (sV B.1 y) p))]) rfl (by decide) rfl rfl ?_
                        refine x_iload 131 rfl rfl ?_
                        refine x_aload_n 132 rfl rfl ?_
                        refine x_iconst 133 rfl ?_
                        refine x_callV 134 m_X8_setting (c_b_setting hk.1 hB (by omega)) rfl ok_X8_setting b_lt0 k_0 rfl rfl ml_L_79 im_X8_setting se_X8_setting rfl (by decide) rfl (Nat.le_of_ble_eq_true rfl) rfl rfl (fun v g q32 => ?_)
                        obtain ⟨rfl, i33, li33, rfl, hk⟩ := kQ_of hk q32
                        have hk : kp bb i i l (B) i33 li33 := hk
                        show mX m_L_isRange 9 _ 0 0 _ _ [vI (B.1 0), vI (gIn (sV B.1 y) p)] _
                        refine x_icmp_lt 135 (tgt := 267) rfl (by decide) (by omega) (fun h34 => ?_) (fun h34 => ?_)
                        · have hfp : f p = false := by rw [hf]; exact decide_eq_false (by omega)
                          refine x_iload 142 rfl rfl ?_
                          refine x_istore 143 (L' := [some (vR (some (ob bb))), some (vI (y)), some (vI (rgLo (sV B.1 y))), some (vI (rgHi (sV B.1 y))), some (vI (row)), some (vI (most)), some (vI (en)), some (vI (1)), some (vI (se)), some (vI (p)), some (vI (22 - (6 * p))), some (vI (22 - (6 * p))), some (vI ((22 - (6 * p)) + 14)), some (vI (gIn (sV B.1 y) p))]) rfl (by decide) rfl rfl ?_
                          refine x_iinc 144 (L' := [some (vR (some (ob bb))), some (vI (y)), some (vI (rgLo (sV B.1 y))), some (vI (rgHi (sV B.1 y))), some (vI (row)), some (vI (most)), some (vI (en)), some (vI (1)), some (vI (se)), some (vI (p + 1)), some (vI (22 - (6 * p))), some (vI (22 - (6 * p))), some (vI ((22 - (6 * p)) + 14)), some (vI (gIn (sV B.1 y) p))]) rfl (by decide) rfl rfl rfl rfl ?_
                          refine x_goto 145 (tgt := 148) rfl (by decide) ?_
                          refine x_dropL (L' := [some (vR (some (ob bb))), some (vI (y)), some (vI (rgLo (sV B.1 y))), some (vI (rgHi (sV B.1 y))), some (vI (row)), some (vI (most)), some (vI (en)), some (vI (1)), some (vI (se)), some (vI (p + 1)), none, none, none, none]) ⟨rfl, ⟨rfl, ⟨rfl, ⟨rfl, ⟨rfl, ⟨rfl, ⟨rfl, ⟨rfl, ⟨rfl, ⟨rfl, True.intro⟩⟩⟩⟩⟩⟩⟩⟩⟩⟩ ?_
                          exact ihL8 i33 li33 (p + 1) (se) (by omega) (by rw [orZ_s f hp.1, hs, hfp]; first | (rw [if_neg (by decide)]) | (rw [if_pos rfl, mOne])) (hk) (by omega)
                        · have hfp : f p = true := by rw [hf]; exact decide_eq_true (by omega)
                          have hp2 := mPow4 (show 0 ≤ p ∧ p < 4 by omega)
                          refine x_iload 136 rfl rfl ?_
                          refine x_iconst 137 rfl ?_
                          refine x_iload 138 rfl rfl ?_
                          refine x_ishl 139 (r := 1 * 2 ^ (p).toNat) rfl (by have := Nat.pow_le_pow_right (n := 2) (by decide) (show p.toNat ≤ 4 by omega); omega) rfl ?_
                          refine x_ior 140 (r := (se : Int).toNat ||| (1 * 2 ^ (p).toNat : Int).toNat) rfl (by omega) rfl ?_
                          refine x_goto 141 (tgt := 269) rfl (by decide) ?_
                          refine x_istore 143 (L' := [some (vR (some (ob bb))), some (vI (y)), some (vI (rgLo (sV B.1 y))), some (vI (rgHi (sV B.1 y))), some (vI (row)), some (vI (most)), some (vI (en)), some (vI (1)), some (vI ((((se : Int).toNat ||| (1 * 2 ^ (p).toNat : Int).toNat : Nat) : Int))), some (vI (p)), some (vI (22 - (6 * p))), some (vI (22 - (6 * p))), some (vI ((22 - (6 * p)) + 14)), some (vI (gIn (sV B.1 y) p))]) rfl (by decide) rfl rfl ?_
                          refine x_iinc 144 (L' := [some (vR (some (ob bb))), some (vI (y)), some (vI (rgLo (sV B.1 y))), some (vI (rgHi (sV B.1 y))), some (vI (row)), some (vI (most)), some (vI (en)), some (vI (1)), some (vI ((((se : Int).toNat ||| (1 * 2 ^ (p).toNat : Int).toNat : Nat) : Int))), some (vI (p + 1)), some (vI (22 - (6 * p))), some (vI (22 - (6 * p))), some (vI ((22 - (6 * p)) + 14)), some (vI (gIn (sV B.1 y) p))]) rfl (by decide) rfl rfl rfl rfl ?_
                          refine x_goto 145 (tgt := 148) rfl (by decide) ?_
                          refine x_dropL (L' := [some (vR (some (ob bb))), some (vI (y)), some (vI (rgLo (sV B.1 y))), some (vI (rgHi (sV B.1 y))), some (vI (row)), some (vI (most)), some (vI (en)), some (vI (1)), some (vI ((((se : Int).toNat ||| (1 * 2 ^ (p).toNat : Int).toNat : Nat) : Int))), some (vI (p + 1)), none, none, none, none]) ⟨rfl, ⟨rfl, ⟨rfl, ⟨rfl, ⟨rfl, ⟨rfl, ⟨rfl, ⟨rfl, ⟨rfl, ⟨rfl, True.intro⟩⟩⟩⟩⟩⟩⟩⟩⟩⟩ ?_
                          exact ihL8 i33 li33 (p + 1) ((((se : Int).toNat ||| (1 * 2 ^ (p).toNat : Int).toNat : Nat) : Int)) (by omega) (by rw [orZ_s f hp.1, hs, hfp]; first | (rw [if_neg (by decide)]) | (rw [if_pos rfl, mOne])) (hk) (by omega)
                      · refine x_iconst 111 rfl ?_
                        refine x_eqS (S' := [vI (gIn (sV B.1 y) p)]) (by rw [show gIn (sV B.1 y) p = 0 by omega]) ?_
                        refine x_goto 112 (tgt := 221) rfl (by decide) ?_
                        refine x_istore 118 (L' := [some (vR (some (ob bb))), some (vI (y)), some (vI (rgLo (sV B.1 y))), some (vI (rgHi (sV B.1 y))), some (vI (row)), some (vI (most)), some (vI (en)), some (vI (1)), some (vI (se)), some (vI (p)), some (vI (22 - (6 * p))), some (vI (22 - (6 * p))), some (vI ((22 - (6 * p)) + 14)), some (vI (gIn (sV B.1 y) p))]) rfl (by decide) rfl rfl ?_
                        refine x_iload 119 rfl rfl ?_
                        refine x_if_eq 120 (tgt := 244) rfl (by decide) (by decide) (fun h35 => absurd h35 (by decide)) (fun h35 => ?_)
                        refine x_aload_n 121 rfl rfl ?_
                        refine x_iload_n 122 rfl rfl ?_
                        refine x_iload 123 rfl rfl ?_
                        refine x_callV 124 m_X8_overlap (c_b_overlap hk.1 hB (by omega) (by omega)) rfl ok_X8_overlap b_lt0 k_0 rfl rfl ml_L_76 im_X8_overlap se_X8_overlap rfl (by decide) rfl (Nat.le_of_ble_eq_true rfl) rfl rfl (fun v g q36 => ?_)
                        obtain ⟨rfl, i37, li37, rfl, hk⟩ := kQ_of hk q36
                        have hk : kp bb i i l (B) i37 li37 := hk
                        show mX m_L_isRange 9 _ 0 0 _ _ [vI (anOverlap y p B.1)] _
                        refine x_eqS (S' := [vI (gIn (sV B.1 y) p)]) (by rw [anO (by omega) (by omega) (by omega)]) ?_
                        refine x_iload 125 rfl rfl ?_
                        refine x_icmp_ne 126 (tgt := 244) rfl (by decide) (by omega) (fun h38 => by exfalso; omega) (fun h38 => ?_)
                        refine x_iconst 127 rfl ?_
                        refine x_goto 128 (tgt := 245) rfl (by decide) ?_
                        refine x_istore 130 (L' := [some (vR (some (ob bb))), some (vI (y)), some (vI (rgLo (sV B.1 y))), some (vI (rgHi (sV B.1 y))), some (vI (row)), some (vI (most)), some (vI (en)), some (vI (1)), some (vI (se)), some (vI (p)), some (vI (22 - (6 * p))), some (vI (22 - (6 * p))), some (vI ((22 - (6 * p)) + 14)), some (vI (gIn (sV B.1 y) p))]) rfl (by decide) rfl rfl ?_
                        refine x_iload 131 rfl rfl ?_
                        refine x_aload_n 132 rfl rfl ?_
                        refine x_iconst 133 rfl ?_
                        refine x_callV 134 m_X8_setting (c_b_setting hk.1 hB (by omega)) rfl ok_X8_setting b_lt0 k_0 rfl rfl ml_L_79 im_X8_setting se_X8_setting rfl (by decide) rfl (Nat.le_of_ble_eq_true rfl) rfl rfl (fun v g q39 => ?_)
                        obtain ⟨rfl, i40, li40, rfl, hk⟩ := kQ_of hk q39
                        have hk : kp bb i i l (B) i40 li40 := hk
                        show mX m_L_isRange 9 _ 0 0 _ _ [vI (B.1 0), vI (gIn (sV B.1 y) p)] _
                        refine x_icmp_lt 135 (tgt := 267) rfl (by decide) (by omega) (fun h41 => ?_) (fun h41 => ?_)
                        · have hfp : f p = false := by rw [hf]; exact decide_eq_false (by omega)
                          refine x_iload 142 rfl rfl ?_
                          refine x_istore 143 (L' := [some (vR (some (ob bb))), some (vI (y)), some (vI (rgLo (sV B.1 y))), some (vI (rgHi (sV B.1 y))), some (vI (row)), some (vI (most)), some (vI (en)), some (vI (1)), some (vI (se)), some (vI (p)), some (vI (22 - (6 * p))), some (vI (22 - (6 * p))), some (vI ((22 - (6 * p)) + 14)), some (vI (gIn (sV B.1 y) p))]) rfl (by decide) rfl rfl ?_
                          refine x_iinc 144 (L' := [some (vR (some (ob bb))), some (vI (y)), some (vI (rgLo (sV B.1 y))), some (vI (rgHi (sV B.1 y))), some (vI (row)), some (vI (most)), some (vI (en)), some (vI (1)), some (vI (se)), some (vI (p + 1)), some (vI (22 - (6 * p))), some (vI (22 - (6 * p))), some (vI ((22 - (6 * p)) + 14)), some (vI (gIn (sV B.1 y) p))]) rfl (by decide) rfl rfl rfl rfl ?_
                          refine x_goto 145 (tgt := 148) rfl (by decide) ?_
                          refine x_dropL (L' := [some (vR (some (ob bb))), some (vI (y)), some (vI (rgLo (sV B.1 y))), some (vI (rgHi (sV B.1 y))), some (vI (row)), some (vI (most)), some (vI (en)), some (vI (1)), some (vI (se)), some (vI (p + 1)), none, none, none, none]) ⟨rfl, ⟨rfl, ⟨rfl, ⟨rfl, ⟨rfl, ⟨rfl, ⟨rfl, ⟨rfl, ⟨rfl, ⟨rfl, True.intro⟩⟩⟩⟩⟩⟩⟩⟩⟩⟩ ?_
                          exact ihL8 i40 li40 (p + 1) (se) (by omega) (by rw [orZ_s f hp.1, hs, hfp]; first | (rw [if_neg (by decide)]) | (rw [if_pos rfl, mOne])) (hk) (by omega)
                        · have hfp : f p = true := by rw [hf]; exact decide_eq_true (by omega)
                          have hp2 := mPow4 (show 0 ≤ p ∧ p < 4 by omega)
                          refine x_iload 136 rfl rfl ?_
                          refine x_iconst 137 rfl ?_
                          refine x_iload 138 rfl rfl ?_
                          refine x_ishl 139 (r := 1 * 2 ^ (p).toNat) rfl (by have := Nat.pow_le_pow_right (n := 2) (by decide) (show p.toNat ≤ 4 by omega); omega) rfl ?_
                          refine x_ior 140 (r := (se : Int).toNat ||| (1 * 2 ^ (p).toNat : Int).toNat) rfl (by omega) rfl ?_
                          refine x_goto 141 (tgt := 269) rfl (by decide) ?_
                          refine x_istore 143 (L' := [some (vR (some (ob bb))), some (vI (y)), some (vI (rgLo (sV B.1 y))), some (vI (rgHi (sV B.1 y))), some (vI (row)), some (vI (most)), some (vI (en)), some (vI (1)), some (vI ((((se : Int).toNat ||| (1 * 2 ^ (p).toNat : Int).toNat : Nat) : Int))), some (vI (p)), some (vI (22 - (6 * p))), some (vI (22 - (6 * p))), some (vI ((22 - (6 * p)) + 14)), some (vI (gIn (sV B.1 y) p))]) rfl (by decide) rfl rfl ?_
                          refine x_iinc 144 (L' := [some (vR (some (ob bb))), some (vI (y)), some (vI (rgLo (sV B.1 y))), some (vI (rgHi (sV B.1 y))), some (vI (row)), some (vI (most)), some (vI (en)), some (vI (1)), some (vI ((((se : Int).toNat ||| (1 * 2 ^ (p).toNat : Int).toNat : Nat) : Int))), some (vI (p + 1)), some (vI (22 - (6 * p))), some (vI (22 - (6 * p))), some (vI ((22 - (6 * p)) + 14)), some (vI (gIn (sV B.1 y) p))]) rfl (by decide) rfl rfl rfl rfl ?_
                          refine x_goto 145 (tgt := 148) rfl (by decide) ?_
                          refine x_dropL (L' := [some (vR (some (ob bb))), some (vI (y)), some (vI (rgLo (sV B.1 y))), some (vI (rgHi (sV B.1 y))), some (vI (row)), some (vI (most)), some (vI (en)), some (vI (1)), some (vI ((((se : Int).toNat ||| (1 * 2 ^ (p).toNat : Int).toNat : Nat) : Int))), some (vI (p + 1)), none, none, none, none]) ⟨rfl, ⟨rfl, ⟨rfl, ⟨rfl, ⟨rfl, ⟨rfl, ⟨rfl, ⟨rfl, ⟨rfl, ⟨rfl, True.intro⟩⟩⟩⟩⟩⟩⟩⟩⟩⟩ ?_
                          exact ihL8 i40 li40 (p + 1) ((((se : Int).toNat ||| (1 * 2 ^ (p).toNat : Int).toNat : Nat) : Int)) (by omega) (by rw [orZ_s f hp.1, hs, hfp]; first | (rw [if_neg (by decide)]) | (rw [if_pos rfl, mOne])) (hk) (by omega)
                  · refine x_iload_n 100 rfl rfl ?_
                    refine x_goto 101 (tgt := 196) rfl (by decide) ?_
                    refine x_istore 105 (L' := [some (vR (some (ob bb))), some (vI (y)), some (vI (rgLo (sV B.1 y))), some (vI (rgHi (sV B.1 y))), some (vI (row)), some (vI (most)), some (vI (en)), some (vI (1)), some (vI (se)), some (vI (p)), some (vI (22 - (6 * p))), some (vI (22 - (6 * p))), some (vI (rgHi (sV B.1 y))), none]) rfl (by decide) rfl rfl ?_
                    refine x_iload 106 rfl rfl ?_
                    refine x_if_eq 107 (tgt := 210) rfl (by decide) (by omega) (fun h42 => ?_) (fun h42 => ?_)
                    · refine x_iconst 111 rfl ?_
                      refine x_eqS (S' := [vI (gIn (sV B.1 y) p)]) (by rw [show gIn (sV B.1 y) p = 0 by omega]) ?_
                      refine x_goto 112 (tgt := 221) rfl (by decide) ?_
                      refine x_istore 118 (L' := [some (vR (some (ob bb))), some (vI (y)), some (vI (rgLo (sV B.1 y))), some (vI (rgHi (sV B.1 y))), some (vI (row)), some (vI (most)), some (vI (en)), some (vI (1)), some (vI (se)), some (vI (p)), some (vI (22 - (6 * p))), some (vI (22 - (6 * p))), some (vI (rgHi (sV B.1 y))), some (vI (gIn (sV B.1 y) p))]) rfl (by decide) rfl rfl ?_
                      refine x_iload 119 rfl rfl ?_
                      refine x_if_eq 120 (tgt := 244) rfl (by decide) (by decide) (fun h43 => absurd h43 (by decide)) (fun h43 => ?_)
                      refine x_aload_n 121 rfl rfl ?_
                      refine x_iload_n 122 rfl rfl ?_
                      refine x_iload 123 rfl rfl ?_
                      refine x_callV 124 m_X8_overlap (c_b_overlap hk.1 hB (by omega) (by omega)) rfl ok_X8_overlap b_lt0 k_0 rfl rfl ml_L_76 im_X8_overlap se_X8_overlap rfl (by decide) rfl (Nat.le_of_ble_eq_true rfl) rfl rfl (fun v g q44 => ?_)
                      obtain ⟨rfl, i45, li45, rfl, hk⟩ := kQ_of hk q44
                      have hk : kp bb i i l (B) i45 li45 := hk
                      show mX m_L_isRange 9 _ 0 0 _ _ [vI (anOverlap y p B.1)] _
                      refine x_eqS (S' := [vI (gIn (sV B.1 y) p)]) (by rw [anO (by omega) (by omega) (by omega)]) ?_
                      refine x_iload 125 rfl rfl ?_
                      refine x_icmp_ne 126 (tgt := 244) rfl (by decide) (by omega) (fun h46 => by exfalso; omega) (fun h46 => ?_)
                      refine x_iconst 127 rfl ?_
                      refine x_goto 128 (tgt := 245) rfl (by decide) ?_
                      refine x_istore 130 (L' := [some (vR (some (ob bb))), some (vI (y)), some (vI (rgLo (sV B.1 y))), some (vI (rgHi (sV B.1 y))), some (vI (row)), some (vI (most)), some (vI (en)), some (vI (1)), some (vI (se)), some (vI (p)), some (vI (22 - (6 * p))), some (vI (22 - (6 * p))), some (vI (rgHi (sV B.1 y))), some (vI (gIn (sV B.1 y) p))]) rfl (by decide) rfl rfl ?_
                      refine x_iload 131 rfl rfl ?_
                      refine x_aload_n 132 rfl rfl ?_
                      refine x_iconst 133 rfl ?_
                      refine x_callV 134 m_X8_setting (c_b_setting hk.1 hB (by omega)) rfl ok_X8_setting b_lt0 k_0 rfl rfl ml_L_79 im_X8_setting se_X8_setting rfl (by decide) rfl (Nat.le_of_ble_eq_true rfl) rfl rfl (fun v g q47 => ?_)
                      obtain ⟨rfl, i48, li48, rfl, hk⟩ := kQ_of hk q47
                      have hk : kp bb i i l (B) i48 li48 := hk
                      show mX m_L_isRange 9 _ 0 0 _ _ [vI (B.1 0), vI (gIn (sV B.1 y) p)] _
                      refine x_icmp_lt 135 (tgt := 267) rfl (by decide) (by omega) (fun h49 => ?_) (fun h49 => ?_)
                      · have hfp : f p = false := by rw [hf]; exact decide_eq_false (by omega)
                        refine x_iload 142 rfl rfl ?_
                        refine x_istore 143 (L' := [some (vR (some (ob bb))), some (vI (y)), some (vI (rgLo (sV B.1 y))), some (vI (rgHi (sV B.1 y))), some (vI (row)), some (vI (most)), some (vI (en)), some (vI (1)), some (vI (se)), some (vI (p)), some (vI (22 - (6 * p))), some (vI (22 - (6 * p))), some (vI (rgHi (sV B.1 y))), some (vI (gIn (sV B.1 y) p))]) rfl (by decide) rfl rfl ?_
                        refine x_iinc 144 (L' := [some (vR (some (ob bb))), some (vI (y)), some (vI (rgLo (sV B.1 y))), some (vI (rgHi (sV B.1 y))), some (vI (row)), some (vI (most)), some (vI (en)), some (vI (1)), some (vI (se)), some (vI (p + 1)), some (vI (22 - (6 * p))), some (vI (22 - (6 * p))), some (vI (rgHi (sV B.1 y))), some (vI (gIn (sV B.1 y) p))]) rfl (by decide) rfl rfl rfl rfl ?_
                        refine x_goto 145 (tgt := 148) rfl (by decide) ?_
                        refine x_dropL (L' := [some (vR (some (ob bb))), some (vI (y)), some (vI (rgLo (sV B.1 y))), some (vI (rgHi (sV B.1 y))), some (vI (row)), some (vI (most)), some (vI (en)), some (vI (1)), some (vI (se)), some (vI (p + 1)), none, none, none, none]) ⟨rfl, ⟨rfl, ⟨rfl, ⟨rfl, ⟨rfl, ⟨rfl, ⟨rfl, ⟨rfl, ⟨rfl, ⟨rfl, True.intro⟩⟩⟩⟩⟩⟩⟩⟩⟩⟩ ?_
                        exact ihL8 i48 li48 (p + 1) (se) (by omega) (by rw [orZ_s f hp.1, hs, hfp]; first | (rw [if_neg (by decide)]) | (rw [if_pos rfl, mOne])) (hk) (by omega)
                      · have hfp : f p = true := by rw [hf]; exact decide_eq_true (by omega)
                        have hp2 := mPow4 (show 0 ≤ p ∧ p < 4 by omega)
                        refine x_iload 136 rfl rfl ?_
                        refine x_iconst 137 rfl ?_
                        refine x_iload 138 rfl rfl ?_
                        refine x_ishl 139 (r := 1 * 2 ^ (p).toNat) rfl (by have := Nat.pow_le_pow_right (n := 2) (by decide) (show p.toNat ≤ 4 by omega); omega) rfl ?_
                        refine x_ior 140 (r := (se : Int).toNat ||| (1 * 2 ^ (p).toNat : Int).toNat) rfl (by omega) rfl ?_
                        refine x_goto 141 (tgt := 269) rfl (by decide) ?_
                        refine x_istore 143 (L' := [some (vR (some (ob bb))), some (vI (y)), some (vI (rgLo (sV B.1 y))), some (vI (rgHi (sV B.1 y))), some (vI (row)), some (vI (most)), some (vI (en)), some (vI (1)), some (vI ((((se : Int).toNat ||| (1 * 2 ^ (p).toNat : Int).toNat : Nat) : Int))), some (vI (p)), some (vI (22 - (6 * p))), some (vI (22 - (6 * p))), some (vI (rgHi (sV B.1 y))), some (vI (gIn (sV B.1 y) p))]) rfl (by decide) rfl rfl ?_
                        refine x_iinc 144 (L' := [some (vR (some (ob bb))), some (vI (y)), some (vI (rgLo (sV B.1 y))), some (vI (rgHi (sV B.1 y))), some (vI (row)), some (vI (most)), some (vI (en)), some (vI (1)), some (vI ((((se : Int).toNat ||| (1 * 2 ^ (p).toNat : Int).toNat : Nat) : Int))), some (vI (p + 1)), some (vI (22 - (6 * p))), some (vI (22 - (6 * p))), some (vI (rgHi (sV B.1 y))), some (vI (gIn (sV B.1 y) p))]) rfl (by decide) rfl rfl rfl rfl ?_
                        refine x_goto 145 (tgt := 148) rfl (by decide) ?_
                        refine x_dropL (L' := [some (vR (some (ob bb))), some (vI (y)), some (vI (rgLo (sV B.1 y))), some (vI (rgHi (sV B.1 y))), some (vI (row)), some (vI (most)), some (vI (en)), some (vI (1)), some (vI ((((se : Int).toNat ||| (1 * 2 ^ (p).toNat : Int).toNat : Nat) : Int))), some (vI (p + 1)), none, none, none, none]) ⟨rfl, ⟨rfl, ⟨rfl, ⟨rfl, ⟨rfl, ⟨rfl, ⟨rfl, ⟨rfl, ⟨rfl, ⟨rfl, True.intro⟩⟩⟩⟩⟩⟩⟩⟩⟩⟩ ?_
                        exact ihL8 i48 li48 (p + 1) ((((se : Int).toNat ||| (1 * 2 ^ (p).toNat : Int).toNat : Nat) : Int)) (by omega) (by rw [orZ_s f hp.1, hs, hfp]; first | (rw [if_neg (by decide)]) | (rw [if_pos rfl, mOne])) (hk) (by omega)
                    · refine x_iload 108 rfl rfl ?_
                      refine x_iload 109 rfl rfl ?_
                      refine x_icmp_ge 110 (tgt := 214) rfl (by decide) (by omega) (fun h50 => ?_) (fun h50 => ?_)
                      · refine x_iload 113 rfl rfl ?_
                        refine x_iload 114 rfl rfl ?_
                        refine x_isub 115 (r := (rgHi (sV B.1 y)) - (22 - (6 * p))) rfl rfl ?_
                        refine x_iconst 116 rfl ?_
                        refine x_iadd 117 (r := ((rgHi (sV B.1 y)) - (22 - (6 * p))) + 1) rfl rfl ?_
                        refine x_eqS (S' := [vI (gIn (sV B.1 y) p)]) (by refine congrArg (fun z => vI z :: _) ?_; omega) ?_
                        refine x_istore 118 (L' := [some (vR (some (ob bb))), some (vI (y)), some (vI (rgLo (sV B.1 y))), some (vI (rgHi (sV B.1 y))), some (vI (row)), some (vI (most)), some (vI (en)), some (vI (1)), some (vI (se)), some (vI (p)), some (vI (22 - (6 * p))), some (vI (22 - (6 * p))), some (vI (rgHi (sV B.1 y))), some (vI (gIn (sV B.1 y) p))]) rfl (by decide) rfl rfl ?_
                        refine x_iload 119 rfl rfl ?_
                        refine x_if_eq 120 (tgt := 244) rfl (by decide) (by decide) (fun h51 => absurd h51 (by decide)) (fun h51 => ?_)
                        refine x_aload_n 121 rfl rfl ?_
                        refine x_iload_n 122 rfl rfl ?_
                        refine x_iload 123 rfl rfl ?_
                        refine x_callV 124 m_X8_overlap (c_b_overlap hk.1 hB (by omega) (by omega)) rfl ok_X8_overlap b_lt0 k_0 rfl rfl ml_L_76 im_X8_overlap se_X8_overlap rfl (by decide) rfl (Nat.le_of_ble_eq_true rfl) rfl rfl (fun v g q52 => ?_)
                        obtain ⟨rfl, i53, li53, rfl, hk⟩ := kQ_of hk q52
                        have hk : kp bb i i l (B) i53 li53 := hk
                        show mX m_L_isRange 9 _ 0 0 _ _ [vI (anOverlap y p B.1)] _
                        refine x_eqS (S' := [vI (gIn (sV B.1 y) p)]) (by rw [anO (by omega) (by omega) (by omega)]) ?_
                        refine x_iload 125 rfl rfl ?_
                        refine x_icmp_ne 126 (tgt := 244) rfl (by decide) (by omega) (fun h54 => by exfalso; omega) (fun h54 => ?_)
                        refine x_iconst 127 rfl ?_
                        refine x_goto 128 (tgt := 245) rfl (by decide) ?_
                        refine x_istore 130 (L' := [some (vR (some (ob bb))), some (vI (y)), some (vI (rgLo (sV B.1 y))), some (vI (rgHi (sV B.1 y))), some (vI (row)), some (vI (most)), some (vI (en)), some (vI (1)), some (vI (se)), some (vI (p)), some (vI (22 - (6 * p))), some (vI (22 - (6 * p))), some (vI (rgHi (sV B.1 y))), some (vI (gIn (sV B.1 y) p))]) rfl (by decide) rfl rfl ?_
                        refine x_iload 131 rfl rfl ?_
                        refine x_aload_n 132 rfl rfl ?_
                        refine x_iconst 133 rfl ?_
                        refine x_callV 134 m_X8_setting (c_b_setting hk.1 hB (by omega)) rfl ok_X8_setting b_lt0 k_0 rfl rfl ml_L_79 im_X8_setting se_X8_setting rfl (by decide) rfl (Nat.le_of_ble_eq_true rfl) rfl rfl (fun v g q55 => ?_)
                        obtain ⟨rfl, i56, li56, rfl, hk⟩ := kQ_of hk q55
                        have hk : kp bb i i l (B) i56 li56 := hk
                        show mX m_L_isRange 9 _ 0 0 _ _ [vI (B.1 0), vI (gIn (sV B.1 y) p)] _
                        refine x_icmp_lt 135 (tgt := 267) rfl (by decide) (by omega) (fun h57 => ?_) (fun h57 => ?_)
                        · have hfp : f p = false := by rw [hf]; exact decide_eq_false (by omega)
                          refine x_iload 142 rfl rfl ?_
                          refine x_istore 143 (L' := [some (vR (some (ob bb))), some (vI (y)), some (vI (rgLo (sV B.1 y))), some (vI (rgHi (sV B.1 y))), some (vI (row)), some (vI (most)), some (vI (en)), some (vI (1)), some (vI (se)), some (vI (p)), some (vI (22 - (6 * p))), some (vI (22 - (6 * p))), some (vI (rgHi (sV B.1 y))), some (vI (gIn (sV B.1 y) p))]) rfl (by decide) rfl rfl ?_
                          refine x_iinc 144 (L' := [some (vR (some (ob bb))), some (vI (y)), some (vI (rgLo (sV B.1 y))), some (vI (rgHi (sV B.1 y))), some (vI (row)), some (vI (most)), some (vI (en)), some (vI (1)), some (vI (se)), some (vI (p + 1)), some (vI (22 - (6 * p))), some (vI (22 - (6 * p))), some (vI (rgHi (sV B.1 y))), some (vI (gIn (sV B.1 y) p))]) rfl (by decide) rfl rfl rfl rfl ?_
                          refine x_goto 145 (tgt := 148) rfl (by decide) ?_
                          refine x_dropL (L' := [some (vR (some (ob bb))), some (vI (y)), some (vI (rgLo (sV B.1 y))), some (vI (rgHi (sV B.1 y))), some (vI (row)), some (vI (most)), some (vI (en)), some (vI (1)), some (vI (se)), some (vI (p + 1)), none, none, none, none]) ⟨rfl, ⟨rfl, ⟨rfl, ⟨rfl, ⟨rfl, ⟨rfl, ⟨rfl, ⟨rfl, ⟨rfl, ⟨rfl, True.intro⟩⟩⟩⟩⟩⟩⟩⟩⟩⟩ ?_
                          exact ihL8 i56 li56 (p + 1) (se) (by omega) (by rw [orZ_s f hp.1, hs, hfp]; first | (rw [if_neg (by decide)]) | (rw [if_pos rfl, mOne])) (hk) (by omega)
                        · have hfp : f p = true := by rw [hf]; exact decide_eq_true (by omega)
                          have hp2 := mPow4 (show 0 ≤ p ∧ p < 4 by omega)
                          refine x_iload 136 rfl rfl ?_
                          refine x_iconst 137 rfl ?_
                          refine x_iload 138 rfl rfl ?_
                          refine x_ishl 139 (r := 1 * 2 ^ (p).toNat) rfl (by have := Nat.pow_le_pow_right (n := 2) (by decide) (show p.toNat ≤ 4 by omega); omega) rfl ?_
                          refine x_ior 140 (r := (se : Int).toNat ||| (1 * 2 ^ (p).toNat : Int).toNat) rfl (by omega) rfl ?_
                          refine x_goto 141 (tgt := 269) rfl (by decide) ?_
                          refine x_istore 143 (L' := [some (vR (some (ob bb))), some (vI (y)), some (vI (rgLo (sV B.1 y))), some (vI (rgHi (sV B.1 y))), some (vI (row)), some (vI (most)), some (vI (en)), some (vI (1)), some (vI ((((se : Int).toNat ||| (1 * 2 ^ (p).toNat : Int).toNat : Nat) : Int))), some (vI (p)), some (vI (22 - (6 * p))), some (vI (22 - (6 * p))), some (vI (rgHi (sV B.1 y))), some (vI (gIn (sV B.1 y) p))]) rfl (by decide) rfl rfl ?_
                          refine x_iinc 144 (L' := [some (vR (some (ob bb))), some (vI (y)), some (vI (rgLo (sV B.1 y))), some (vI (rgHi (sV B.1 y))), some (vI (row)), some (vI (most)), some (vI (en)), some (vI (1)), some (vI ((((se : Int).toNat ||| (1 * 2 ^ (p).toNat : Int).toNat : Nat) : Int))), some (vI (p + 1)), some (vI (22 - (6 * p))), some (vI (22 - (6 * p))), some (vI (rgHi (sV B.1 y))), some (vI (gIn (sV B.1 y) p))]) rfl (by decide) rfl rfl rfl rfl ?_
                          refine x_goto 145 (tgt := 148) rfl (by decide) ?_
                          refine x_dropL (L' := [some (vR (some (ob bb))), some (vI (y)), some (vI (rgLo (sV B.1 y))), some (vI (rgHi (sV B.1 y))), some (vI (row)), some (vI (most)), some (vI (en)), some (vI (1)), some (vI ((((se : Int).toNat ||| (1 * 2 ^ (p).toNat : Int).toNat : Nat) : Int))), some (vI (p + 1)), none, none, none, none]) ⟨rfl, ⟨rfl, ⟨rfl, ⟨rfl, ⟨rfl, ⟨rfl, ⟨rfl, ⟨rfl, ⟨rfl, ⟨rfl, True.intro⟩⟩⟩⟩⟩⟩⟩⟩⟩⟩ ?_
                          exact ihL8 i56 li56 (p + 1) ((((se : Int).toNat ||| (1 * 2 ^ (p).toNat : Int).toNat : Nat) : Int)) (by omega) (by rw [orZ_s f hp.1, hs, hfp]; first | (rw [if_neg (by decide)]) | (rw [if_pos rfl, mOne])) (hk) (by omega)
                      · refine x_iconst 111 rfl ?_
                        refine x_eqS (S' := [vI (gIn (sV B.1 y) p)]) (by rw [show gIn (sV B.1 y) p = 0 by omega]) ?_
                        refine x_goto 112 (tgt := 221) rfl (by decide) ?_
                        refine x_istore 118 (L' := [some (vR (some (ob bb))), some (vI (y)), some (vI (rgLo (sV B.1 y))), some (vI (rgHi (sV B.1 y))), some (vI (row)), some (vI (most)), some (vI (en)), some (vI (1)), some (vI (se)), some (vI (p)), some (vI (22 - (6 * p))), some (vI (22 - (6 * p))), some (vI (rgHi (sV B.1 y))), some (vI (gIn (sV B.1 y) p))]) rfl (by decide) rfl rfl ?_
                        refine x_iload 119 rfl rfl ?_
                        refine x_if_eq 120 (tgt := 244) rfl (by decide) (by decide) (fun h58 => absurd h58 (by decide)) (fun h58 => ?_)
                        refine x_aload_n 121 rfl rfl ?_
                        refine x_iload_n 122 rfl rfl ?_
                        refine x_iload 123 rfl rfl ?_
                        refine x_callV 124 m_X8_overlap (c_b_overlap hk.1 hB (by omega) (by omega)) rfl ok_X8_overlap b_lt0 k_0 rfl rfl ml_L_76 im_X8_overlap se_X8_overlap rfl (by decide) rfl (Nat.le_of_ble_eq_true rfl) rfl rfl (fun v g q59 => ?_)
                        obtain ⟨rfl, i60, li60, rfl, hk⟩ := kQ_of hk q59
                        have hk : kp bb i i l (B) i60 li60 := hk
                        show mX m_L_isRange 9 _ 0 0 _ _ [vI (anOverlap y p B.1)] _
                        refine x_eqS (S' := [vI (gIn (sV B.1 y) p)]) (by rw [anO (by omega) (by omega) (by omega)]) ?_
                        refine x_iload 125 rfl rfl ?_
                        refine x_icmp_ne 126 (tgt := 244) rfl (by decide) (by omega) (fun h61 => by exfalso; omega) (fun h61 => ?_)
                        refine x_iconst 127 rfl ?_
                        refine x_goto 128 (tgt := 245) rfl (by decide) ?_
                        refine x_istore 130 (L' := [some (vR (some (ob bb))), some (vI (y)), some (vI (rgLo (sV B.1 y))), some (vI (rgHi (sV B.1 y))), some (vI (row)), some (vI (most)), some (vI (en)), some (vI (1)), some (vI (se)), some (vI (p)), some (vI (22 - (6 * p))), some (vI (22 - (6 * p))), some (vI (rgHi (sV B.1 y))), some (vI (gIn (sV B.1 y) p))]) rfl (by decide) rfl rfl ?_
                        refine x_iload 131 rfl rfl ?_
                        refine x_aload_n 132 rfl rfl ?_
                        refine x_iconst 133 rfl ?_
                        refine x_callV 134 m_X8_setting (c_b_setting hk.1 hB (by omega)) rfl ok_X8_setting b_lt0 k_0 rfl rfl ml_L_79 im_X8_setting se_X8_setting rfl (by decide) rfl (Nat.le_of_ble_eq_true rfl) rfl rfl (fun v g q62 => ?_)
                        obtain ⟨rfl, i63, li63, rfl, hk⟩ := kQ_of hk q62
                        have hk : kp bb i i l (B) i63 li63 := hk
                        show mX m_L_isRange 9 _ 0 0 _ _ [vI (B.1 0), vI (gIn (sV B.1 y) p)] _
                        refine x_icmp_lt 135 (tgt := 267) rfl (by decide) (by omega) (fun h64 => ?_) (fun h64 => ?_)
                        · have hfp : f p = false := by rw [hf]; exact decide_eq_false (by omega)
                          refine x_iload 142 rfl rfl ?_
                          refine x_istore 143 (L' := [some (vR (some (ob bb))), some (vI (y)), some (vI (rgLo (sV B.1 y))), some (vI (rgHi (sV B.1 y))), some (vI (row)), some (vI (most)), some (vI (en)), some (vI (1)), some (vI (se)), some (vI (p)), some (vI (22 - (6 * p))), some (vI (22 - (6 * p))), some (vI (rgHi (sV B.1 y))), some (vI (gIn (sV B.1 y) p))]) rfl (by decide) rfl rfl ?_
                          refine x_iinc 144 (L' := [some (vR (some (ob bb))), some (vI (y)), some (vI (rgLo (sV B.1 y))), some (vI (rgHi (sV B.1 y))), some (vI (row)), some (vI (most)), some (vI (en)), some (vI (1)), some (vI (se)), some (vI (p + 1)), some (vI (22 - (6 * p))), some (vI (22 - (6 * p))), some (vI (rgHi (sV B.1 y))), some (vI (gIn (sV B.1 y) p))]) rfl (by decide) rfl rfl rfl rfl ?_
                          refine x_goto 145 (tgt := 148) rfl (by decide) ?_
                          refine x_dropL (L' := [some (vR (some (ob bb))), some (vI (y)), some (vI (rgLo (sV B.1 y))), some (vI (rgHi (sV B.1 y))), some (vI (row)), some (vI (most)), some (vI (en)), some (vI (1)), some (vI (se)), some (vI (p + 1)), none, none, none, none]) ⟨rfl, ⟨rfl, ⟨rfl, ⟨rfl, ⟨rfl, ⟨rfl, ⟨rfl, ⟨rfl, ⟨rfl, ⟨rfl, True.intro⟩⟩⟩⟩⟩⟩⟩⟩⟩⟩ ?_
                          exact ihL8 i63 li63 (p + 1) (se) (by omega) (by rw [orZ_s f hp.1, hs, hfp]; first | (rw [if_neg (by decide)]) | (rw [if_pos rfl, mOne])) (hk) (by omega)
                        · have hfp : f p = true := by rw [hf]; exact decide_eq_true (by omega)
                          have hp2 := mPow4 (show 0 ≤ p ∧ p < 4 by omega)
                          refine x_iload 136 rfl rfl ?_
                          refine x_iconst 137 rfl ?_
                          refine x_iload 138 rfl rfl ?_
                          refine x_ishl 139 (r := 1 * 2 ^ (p).toNat) rfl (by have := Nat.pow_le_pow_right (n := 2) (by decide) (show p.toNat ≤ 4 by omega); omega) rfl ?_
                          refine x_ior 140 (r := (se : Int).toNat ||| (1 * 2 ^ (p).toNat : Int).toNat) rfl (by omega) rfl ?_
                          refine x_goto 141 (tgt := 269) rfl (by decide) ?_
                          refine x_istore 143 (L' := [some (vR (some (ob bb))), some (vI (y)), some (vI (rgLo (sV B.1 y))), some (vI (rgHi (sV B.1 y))), some (vI (row)), some (vI (most)), some (vI (en)), some (vI (1)), some (vI ((((se : Int).toNat ||| (1 * 2 ^ (p).toNat : Int).toNat : Nat) : Int))), some (vI (p)), some (vI (22 - (6 * p))), some (vI (22 - (6 * p))), some (vI (rgHi (sV B.1 y))), some (vI (gIn (sV B.1 y) p))]) rfl (by decide) rfl rfl ?_
                          refine x_iinc 144 (L' := [some (vR (some (ob bb))), some (vI (y)), some (vI (rgLo (sV B.1 y))), some (vI (rgHi (sV B.1 y))), some (vI (row)), some (vI (most)), some (vI (en)), some (vI (1)), some (vI ((((se : Int).toNat ||| (1 * 2 ^ (p).toNat : Int).toNat : Nat) : Int))), some (vI (p + 1)), some (vI (22 - (6 * p))), some (vI (22 - (6 * p))), some (vI (rgHi (sV B.1 y))), some (vI (gIn (sV B.1 y) p))]) rfl (by decide) rfl rfl rfl rfl ?_
                          refine x_goto 145 (tgt := 148) rfl (by decide) ?_
                          refine x_dropL (L' := [some (vR (some (ob bb))), some (vI (y)), some (vI (rgLo (sV B.1 y))), some (vI (rgHi (sV B.1 y))), some (vI (row)), some (vI (most)), some (vI (en)), some (vI (1)), some (vI ((((se : Int).toNat ||| (1 * 2 ^ (p).toNat : Int).toNat : Nat) : Int))), some (vI (p + 1)), none, none, none, none]) ⟨rfl, ⟨rfl, ⟨rfl, ⟨rfl, ⟨rfl, ⟨rfl, ⟨rfl, ⟨rfl, ⟨rfl, ⟨rfl, True.intro⟩⟩⟩⟩⟩⟩⟩⟩⟩⟩ ?_
                          exact ihL8 i63 li63 (p + 1) ((((se : Int).toNat ||| (1 * 2 ^ (p).toNat : Int).toNat : Nat) : Int)) (by omega) (by rw [orZ_s f hp.1, hs, hfp]; first | (rw [if_neg (by decide)]) | (rw [if_pos rfl, mOne])) (hk) (by omega)
                · refine x_iload_n 91 rfl rfl ?_
                  refine x_goto 92 (tgt := 176) rfl (by decide) ?_
                  refine x_istore 94 (L' := [some (vR (some (ob bb))), some (vI (y)), some (vI (rgLo (sV B.1 y))), some (vI (rgHi (sV B.1 y))), some (vI (row)), some (vI (most)), some (vI (en)), some (vI (1)), some (vI (se)), some (vI (p)), some (vI (22 - (6 * p))), some (vI (rgLo (sV B.1 y))), none, none]) rfl (by decide) rfl rfl ?_
                  refine x_iload_n 95 rfl rfl ?_
                  refine x_iload 96 rfl rfl ?_
                  refine x_bipush 97 rfl (by decide) ?_
                  refine x_iadd 98 (r := (22 - (6 * p)) + 14) rfl rfl ?_
                  refine x_icmp_ge 99 (tgt := 191) rfl (by decide) (by omega) (fun h65 => ?_) (fun h65 => ?_)
                  · refine x_iload 102 rfl rfl ?_
                    refine x_bipush 103 rfl (by decide) ?_
                    refine x_iadd 104 (r := (22 - (6 * p)) + 14) rfl rfl ?_
                    refine x_istore 105 (L' := [some (vR (some (ob bb))), some (vI (y)), some (vI (rgLo (sV B.1 y))), some (vI (rgHi (sV B.1 y))), some (vI (row)), some (vI (most)), some (vI (en)), some (vI (1)), some (vI (se)), some (vI (p)), some (vI (22 - (6 * p))), some (vI (rgLo (sV B.1 y))), some (vI ((22 - (6 * p)) + 14)), none]) rfl (by decide) rfl rfl ?_
                    refine x_iload 106 rfl rfl ?_
                    refine x_if_eq 107 (tgt := 210) rfl (by decide) (by omega) (fun h66 => ?_) (fun h66 => ?_)
                    · refine x_iconst 111 rfl ?_
                      refine x_eqS (S' := [vI (gIn (sV B.1 y) p)]) (by rw [show gIn (sV B.1 y) p = 0 by omega]) ?_
                      refine x_goto 112 (tgt := 221) rfl (by decide) ?_
                      refine x_istore 118 (L' := [some (vR (some (ob bb))), some (vI (y)), some (vI (rgLo (sV B.1 y))), some (vI (rgHi (sV B.1 y))), some (vI (row)), some (vI (most)), some (vI (en)), some (vI (1)), some (vI (se)), some (vI (p)), some (vI (22 - (6 * p))), some (vI (rgLo (sV B.1 y))), some (vI ((22 - (6 * p)) + 14)), some (vI (gIn (sV B.1 y) p))]) rfl (by decide) rfl rfl ?_
                      refine x_iload 119 rfl rfl ?_
                      refine x_if_eq 120 (tgt := 244) rfl (by decide) (by decide) (fun h67 => absurd h67 (by decide)) (fun h67 => ?_)
                      refine x_aload_n 121 rfl rfl ?_
                      refine x_iload_n 122 rfl rfl ?_
                      refine x_iload 123 rfl rfl ?_
                      refine x_callV 124 m_X8_overlap (c_b_overlap hk.1 hB (by omega) (by omega)) rfl ok_X8_overlap b_lt0 k_0 rfl rfl ml_L_76 im_X8_overlap se_X8_overlap rfl (by decide) rfl (Nat.le_of_ble_eq_true rfl) rfl rfl (fun v g q68 => ?_)
                      obtain ⟨rfl, i69, li69, rfl, hk⟩ := kQ_of hk q68
                      have hk : kp bb i i l (B) i69 li69 := hk
                      show mX m_L_isRange 9 _ 0 0 _ _ [vI (anOverlap y p B.1)] _
                      refine x_eqS (S' := [vI (gIn (sV B.1 y) p)]) (by rw [anO (by omega) (by omega) (by omega)]) ?_
                      refine x_iload 125 rfl rfl ?_
                      refine x_icmp_ne 126 (tgt := 244) rfl (by decide) (by omega) (fun h70 => by exfalso; omega) (fun h70 => ?_)
                      refine x_iconst 127 rfl ?_
                      refine x_goto 128 (tgt := 245) rfl (by decide) ?_
                      refine x_istore 130 (L' := [some (vR (some (ob bb))), some (vI (y)), some (vI (rgLo (sV B.1 y))), some (vI (rgHi (sV B.1 y))), some (vI (row)), some (vI (most)), some (vI (en)), some (vI (1)), some (vI (se)), some (vI (p)), some (vI (22 - (6 * p))), some (vI (rgLo (sV B.1 y))), some (vI ((22 - (6 * p)) + 14)), some (vI (gIn (sV B.1 y) p))]) rfl (by decide) rfl rfl ?_
                      refine x_iload 131 rfl rfl ?_
                      refine x_aload_n 132 rfl rfl ?_
                      refine x_iconst 133 rfl ?_
                      refine x_callV 134 m_X8_setting (c_b_setting hk.1 hB (by omega)) rfl ok_X8_setting b_lt0 k_0 rfl rfl ml_L_79 im_X8_setting se_X8_setting rfl (by decide) rfl (Nat.le_of_ble_eq_true rfl) rfl rfl (fun v g q71 => ?_)
                      obtain ⟨rfl, i72, li72, rfl, hk⟩ := kQ_of hk q71
                      have hk : kp bb i i l (B) i72 li72 := hk
                      show mX m_L_isRange 9 _ 0 0 _ _ [vI (B.1 0), vI (gIn (sV B.1 y) p)] _
                      refine x_icmp_lt 135 (tgt := 267) rfl (by decide) (by omega) (fun h73 => ?_) (fun h73 => ?_)
                      · have hfp : f p = false := by rw [hf]; exact decide_eq_false (by omega)
                        refine x_iload 142 rfl rfl ?_
                        refine x_istore 143 (L' := [some (vR (some (ob bb))), some (vI (y)), some (vI (rgLo (sV B.1 y))), some (vI (rgHi (sV B.1 y))), some (vI (row)), some (vI (most)), some (vI (en)), some (vI (1)), some (vI (se)), some (vI (p)), some (vI (22 - (6 * p))), some (vI (rgLo (sV B.1 y))), some (vI ((22 - (6 * p)) + 14)), some (vI (gIn (sV B.1 y) p))]) rfl (by decide) rfl rfl ?_
                        refine x_iinc 144 (L' := [some (vR (some (ob bb))), some (vI (y)), some (vI (rgLo (sV B.1 y))), some (vI (rgHi (sV B.1 y))), some (vI (row)), some (vI (most)), some (vI (en)), some (vI (1)), some (vI (se)), some (vI (p + 1)), some (vI (22 - (6 * p))), some (vI (rgLo (sV B.1 y))), some (vI ((22 - (6 * p)) + 14)), some (vI (gIn (sV B.1 y) p))]) rfl (by decide) rfl rfl rfl rfl ?_
                        refine x_goto 145 (tgt := 148) rfl (by decide) ?_
                        refine x_dropL (L' := [some (vR (some (ob bb))), some (vI (y)), some (vI (rgLo (sV B.1 y))), some (vI (rgHi (sV B.1 y))), some (vI (row)), some (vI (most)), some (vI (en)), some (vI (1)), some (vI (se)), some (vI (p + 1)), none, none, none, none]) ⟨rfl, ⟨rfl, ⟨rfl, ⟨rfl, ⟨rfl, ⟨rfl, ⟨rfl, ⟨rfl, ⟨rfl, ⟨rfl, True.intro⟩⟩⟩⟩⟩⟩⟩⟩⟩⟩ ?_
                        exact ihL8 i72 li72 (p + 1) (se) (by omega) (by rw [orZ_s f hp.1, hs, hfp]; first | (rw [if_neg (by decide)]) | (rw [if_pos rfl, mOne])) (hk) (by omega)
                      · have hfp : f p = true := by rw [hf]; exact decide_eq_true (by omega)
                        have hp2 := mPow4 (show 0 ≤ p ∧ p < 4 by omega)
                        refine x_iload 136 rfl rfl ?_
                        refine x_iconst 137 rfl ?_
                        refine x_iload 138 rfl rfl ?_
                        refine x_ishl 139 (r := 1 * 2 ^ (p).toNat) rfl (by have := Nat.pow_le_pow_right (n := 2) (by decide) (show p.toNat ≤ 4 by omega); omega) rfl ?_
                        refine x_ior 140 (r := (se : Int).toNat ||| (1 * 2 ^ (p).toNat : Int).toNat) rfl (by omega) rfl ?_
                        refine x_goto 141 (tgt := 269) rfl (by decide) ?_
                        refine x_istore 143 (L' := [some (vR (some (ob bb))), some (vI (y)), some (vI (rgLo (sV B.1 y))), some (vI (rgHi (sV B.1 y))), some (vI (row)), some (vI (most)), some (vI (en)), some (vI (1)), some (vI ((((se : Int).toNat ||| (1 * 2 ^ (p).toNat : Int).toNat : Nat) : Int))), some (vI (p)), some (vI (22 - (6 * p))), some (vI (rgLo (sV B.1 y))), some (vI ((22 - (6 * p)) + 14)), some (vI (gIn (sV B.1 y) p))]) rfl (by decide) rfl rfl ?_
                        refine x_iinc 144 (L' := [some (vR (some (ob bb))), some (vI (y)), some (vI (rgLo (sV B.1 y))), some (vI (rgHi (sV B.1 y))), some (vI (row)), some (vI (most)), some (vI (en)), some (vI (1)), some (vI ((((se : Int).toNat ||| (1 * 2 ^ (p).toNat : Int).toNat : Nat) : Int))), some (vI (p + 1)), some (vI (22 - (6 * p))), some (vI (rgLo (sV B.1 y))), some (vI ((22 - (6 * p)) + 14)), some (vI (gIn (sV B.1 y) p))]) rfl (by decide) rfl rfl rfl rfl ?_
                        refine x_goto 145 (tgt := 148) rfl (by decide) ?_
                        refine x_dropL (L' := [some (vR (some (ob bb))), some (vI (y)), some (vI (rgLo (sV B.1 y))), some (vI (rgHi (sV B.1 y))), some (vI (row)), some (vI (most)), some (vI (en)), some (vI (1)), some (vI ((((se : Int).toNat ||| (1 * 2 ^ (p).toNat : Int).toNat : Nat) : Int))), some (vI (p + 1)), none, none, none, none]) ⟨rfl, ⟨rfl, ⟨rfl, ⟨rfl, ⟨rfl, ⟨rfl, ⟨rfl, ⟨rfl, ⟨rfl, ⟨rfl, True.intro⟩⟩⟩⟩⟩⟩⟩⟩⟩⟩ ?_
                        exact ihL8 i72 li72 (p + 1) ((((se : Int).toNat ||| (1 * 2 ^ (p).toNat : Int).toNat : Nat) : Int)) (by omega) (by rw [orZ_s f hp.1, hs, hfp]; first | (rw [if_neg (by decide)]) | (rw [if_pos rfl, mOne])) (hk) (by omega)
                    · refine x_iload 108 rfl rfl ?_
                      refine x_iload 109 rfl rfl ?_
                      refine x_icmp_ge 110 (tgt := 214) rfl (by decide) (by omega) (fun h74 => ?_) (fun h74 => ?_)
                      · refine x_iload 113 rfl rfl ?_
                        refine x_iload 114 rfl rfl ?_
                        refine x_isub 115 (r := ((22 - (6 * p)) + 14) - (rgLo (sV B.1 y))) rfl rfl ?_
                        refine x_iconst 116 rfl ?_
                        refine x_iadd 117 (r := (((22 - (6 * p)) + 14) - (rgLo (sV B.1 y))) + 1) rfl rfl ?_
                        refine x_eqS (S' := [vI (gIn (sV B.1 y) p)]) (by refine congrArg (fun z => vI z :: _) ?_; omega) ?_
                        refine x_istore 118 (L' := [some (vR (some (ob bb))), some (vI (y)), some (vI (rgLo (sV B.1 y))), some (vI (rgHi (sV B.1 y))), some (vI (row)), some (vI (most)), some (vI (en)), some (vI (1)), some (vI (se)), some (vI (p)), some (vI (22 - (6 * p))), some (vI (rgLo (sV B.1 y))), some (vI ((22 - (6 * p)) + 14)), some (vI (gIn (sV B.1 y) p))]) rfl (by decide) rfl rfl ?_
                        refine x_iload 119 rfl rfl ?_
                        refine x_if_eq 120 (tgt := 244) rfl (by decide) (by decide) (fun h75 => absurd h75 (by decide)) (fun h75 => ?_)
                        refine x_aload_n 121 rfl rfl ?_
                        refine x_iload_n 122 rfl rfl ?_
                        refine x_iload 123 rfl rfl ?_
                        refine x_callV 124 m_X8_overlap (c_b_overlap hk.1 hB (by omega) (by omega)) rfl ok_X8_overlap b_lt0 k_0 rfl rfl ml_L_76 im_X8_overlap se_X8_overlap rfl (by decide) rfl (Nat.le_of_ble_eq_true rfl) rfl rfl (fun v g q76 => ?_)
                        obtain ⟨rfl, i77, li77, rfl, hk⟩ := kQ_of hk q76
                        have hk : kp bb i i l (B) i77 li77 := hk
                        show mX m_L_isRange 9 _ 0 0 _ _ [vI (anOverlap y p B.1)] _
                        refine x_eqS (S' := [vI (gIn (sV B.1 y) p)]) (by rw [anO (by omega) (by omega) (by omega)]) ?_
                        refine x_iload 125 rfl rfl ?_
                        refine x_icmp_ne 126 (tgt := 244) rfl (by decide) (by omega) (fun h78 => by exfalso; omega) (fun h78 => ?_)
                        refine x_iconst 127 rfl ?_
                        refine x_goto 128 (tgt := 245) rfl (by decide) ?_
                        refine x_istore 130 (L' := [some (vR (some (ob bb))), some (vI (y)), some (vI (rgLo (sV B.1 y))), some (vI (rgHi (sV B.1 y))), some (vI (row)), some (vI (most)), some (vI (en)), some (vI (1)), some (vI (se)), some (vI (p)), some (vI (22 - (6 * p))), some (vI (rgLo (sV B.1 y))), some (vI ((22 - (6 * p)) + 14)), some (vI (gIn (sV B.1 y) p))]) rfl (by decide) rfl rfl ?_
                        refine x_iload 131 rfl rfl ?_
                        refine x_aload_n 132 rfl rfl ?_
                        refine x_iconst 133 rfl ?_
                        refine x_callV 134 m_X8_setting (c_b_setting hk.1 hB (by omega)) rfl ok_X8_setting b_lt0 k_0 rfl rfl ml_L_79 im_X8_setting se_X8_setting rfl (by decide) rfl (Nat.le_of_ble_eq_true rfl) rfl rfl (fun v g q79 => ?_)
                        obtain ⟨rfl, i80, li80, rfl, hk⟩ := kQ_of hk q79
                        have hk : kp bb i i l (B) i80 li80 := hk
                        show mX m_L_isRange 9 _ 0 0 _ _ [vI (B.1 0), vI (gIn (sV B.1 y) p)] _
                        refine x_icmp_lt 135 (tgt := 267) rfl (by decide) (by omega) (fun h81 => ?_) (fun h81 => ?_)
                        · have hfp : f p = false := by rw [hf]; exact decide_eq_false (by omega)
                          refine x_iload 142 rfl rfl ?_
                          refine x_istore 143 (L' := [some (vR (some (ob bb))), some (vI (y)), some (vI (rgLo (sV B.1 y))), some (vI (rgHi (sV B.1 y))), some (vI (row)), some (vI (most)), some (vI (en)), some (vI (1)), some (vI (se)), some (vI (p)), some (vI (22 - (6 * p))), some (vI (rgLo (sV B.1 y))), some (vI ((22 - (6 * p)) + 14)), some (vI (gIn (sV B.1 y) p))]) rfl (by decide) rfl rfl ?_
                          refine x_iinc 144 (L' := [some (vR (some (ob bb))), some (vI (y)), some (vI (rgLo (sV B.1 y))), some (vI (rgHi (sV B.1 y))), some (vI (row)), some (vI (most)), some (vI (en)), some (vI (1)), some (vI (se)), some (vI (p + 1)), some (vI (22 - (6 * p))), some (vI (rgLo (sV B.1 y))), some (vI ((22 - (6 * p)) + 14)), some (vI (gIn (sV B.1 y) p))]) rfl (by decide) rfl rfl rfl rfl ?_
                          refine x_goto 145 (tgt := 148) rfl (by decide) ?_
                          refine x_dropL (L' := [some (vR (some (ob bb))), some (vI (y)), some (vI (rgLo (sV B.1 y))), some (vI (rgHi (sV B.1 y))), some (vI (row)), some (vI (most)), some (vI (en)), some (vI (1)), some (vI (se)), some (vI (p + 1)), none, none, none, none]) ⟨rfl, ⟨rfl, ⟨rfl, ⟨rfl, ⟨rfl, ⟨rfl, ⟨rfl, ⟨rfl, ⟨rfl, ⟨rfl, True.intro⟩⟩⟩⟩⟩⟩⟩⟩⟩⟩ ?_
                          exact ihL8 i80 li80 (p + 1) (se) (by omega) (by rw [orZ_s f hp.1, hs, hfp]; first | (rw [if_neg (by decide)]) | (rw [if_pos rfl, mOne])) (hk) (by omega)
                        · have hfp : f p = true := by rw [hf]; exact decide_eq_true (by omega)
                          have hp2 := mPow4 (show 0 ≤ p ∧ p < 4 by omega)
                          refine x_iload 136 rfl rfl ?_
                          refine x_iconst 137 rfl ?_
                          refine x_iload 138 rfl rfl ?_
                          refine x_ishl 139 (r := 1 * 2 ^ (p).toNat) rfl (by have := Nat.pow_le_pow_right (n := 2) (by decide) (show p.toNat ≤ 4 by omega); omega) rfl ?_
                          refine x_ior 140 (r := (se : Int).toNat ||| (1 * 2 ^ (p).toNat : Int).toNat) rfl (by omega) rfl ?_
                          refine x_goto 141 (tgt := 269) rfl (by decide) ?_
                          refine x_istore 143 (L' := [some (vR (some (ob bb))), some (vI (y)), some (vI (rgLo (sV B.1 y))), some (vI (rgHi (sV B.1 y))), some (vI (row)), some (vI (most)), some (vI (en)), some (vI (1)), some (vI ((((se : Int).toNat ||| (1 * 2 ^ (p).toNat : Int).toNat : Nat) : Int))), some (vI (p)), some (vI (22 - (6 * p))), some (vI (rgLo (sV B.1 y))), some (vI ((22 - (6 * p)) + 14)), some (vI (gIn (sV B.1 y) p))]) rfl (by decide) rfl rfl ?_
                          refine x_iinc 144 (L' := [some (vR (some (ob bb))), some (vI (y)), some (vI (rgLo (sV B.1 y))), some (vI (rgHi (sV B.1 y))), some (vI (row)), some (vI (most)), some (vI (en)), some (vI (1)), some (vI ((((se : Int).toNat ||| (1 * 2 ^ (p).toNat : Int).toNat : Nat) : Int))), some (vI (p + 1)), some (vI (22 - (6 * p))), some (vI (rgLo (sV B.1 y))), some (vI ((22 - (6 * p)) + 14)), some (vI (gIn (sV B.1 y) p))]) rfl (by decide) rfl rfl rfl rfl ?_
                          refine x_goto 145 (tgt := 148) rfl (by decide) ?_
                          refine x_dropL (L' := [some (vR (some (ob bb))), some (vI (y)), some (vI (rgLo (sV B.1 y))), some (vI (rgHi (sV B.1 y))), some (vI (row)), some (vI (most)), some (vI (en)), some (vI (1)), some (vI ((((se : Int).toNat ||| (1 * 2 ^ (p).toNat : Int).toNat : Nat) : Int))), some (vI (p + 1)), none, none, none, none]) ⟨rfl, ⟨rfl, ⟨rfl, ⟨rfl, ⟨rfl, ⟨rfl, ⟨rfl, ⟨rfl, ⟨rfl, ⟨rfl, True.intro⟩⟩⟩⟩⟩⟩⟩⟩⟩⟩ ?_
                          exact ihL8 i80 li80 (p + 1) ((((se : Int).toNat ||| (1 * 2 ^ (p).toNat : Int).toNat : Nat) : Int)) (by omega) (by rw [orZ_s f hp.1, hs, hfp]; first | (rw [if_neg (by decide)]) | (rw [if_pos rfl, mOne])) (hk) (by omega)
                      · refine x_iconst 111 rfl ?_
                        refine x_eqS (S' := [vI (gIn (sV B.1 y) p)]) (by rw [show gIn (sV B.1 y) p = 0 by omega]) ?_
                        refine x_goto 112 (tgt := 221) rfl (by decide) ?_
                        refine x_istore 118 (L' := [some (vR (some (ob bb))), some (vI (y)), some (vI (rgLo (sV B.1 y))), some (vI (rgHi (sV B.1 y))), some (vI (row)), some (vI (most)), some (vI (en)), some (vI (1)), some (vI (se)), some (vI (p)), some (vI (22 - (6 * p))), some (vI (rgLo (sV B.1 y))), some (vI ((22 - (6 * p)) + 14)), some (vI (gIn (sV B.1 y) p))]) rfl (by decide) rfl rfl ?_
                        refine x_iload 119 rfl rfl ?_
                        refine x_if_eq 120 (tgt := 244) rfl (by decide) (by decide) (fun h82 => absurd h82 (by decide)) (fun h82 => ?_)
                        refine x_aload_n 121 rfl rfl ?_
                        refine x_iload_n 122 rfl rfl ?_
                        refine x_iload 123 rfl rfl ?_
                        refine x_callV 124 m_X8_overlap (c_b_overlap hk.1 hB (by omega) (by omega)) rfl ok_X8_overlap b_lt0 k_0 rfl rfl ml_L_76 im_X8_overlap se_X8_overlap rfl (by decide) rfl (Nat.le_of_ble_eq_true rfl) rfl rfl (fun v g q83 => ?_)
                        obtain ⟨rfl, i84, li84, rfl, hk⟩ := kQ_of hk q83
                        have hk : kp bb i i l (B) i84 li84 := hk
                        show mX m_L_isRange 9 _ 0 0 _ _ [vI (anOverlap y p B.1)] _
                        refine x_eqS (S' := [vI (gIn (sV B.1 y) p)]) (by rw [anO (by omega) (by omega) (by omega)]) ?_
                        refine x_iload 125 rfl rfl ?_
                        refine x_icmp_ne 126 (tgt := 244) rfl (by decide) (by omega) (fun h85 => by exfalso; omega) (fun h85 => ?_)
                        refine x_iconst 127 rfl ?_
                        refine x_goto 128 (tgt := 245) rfl (by decide) ?_
                        refine x_istore 130 (L' := [some (vR (some (ob bb))), some (vI (y)), some (vI (rgLo (sV B.1 y))), some (vI (rgHi (sV B.1 y))), some (vI (row)), some (vI (most)), some (vI (en)), some (vI (1)), some (vI (se)), some (vI (p)), some (vI (22 - (6 * p))), some (vI (rgLo (sV B.1 y))), some (vI ((22 - (6 * p)) + 14)), some (vI (gIn (sV B.1 y) p))]) rfl (by decide) rfl rfl ?_
                        refine x_iload 131 rfl rfl ?_
                        refine x_aload_n 132 rfl rfl ?_
                        refine x_iconst 133 rfl ?_
                        refine x_callV 134 m_X8_setting (c_b_setting hk.1 hB (by omega)) rfl ok_X8_setting b_lt0 k_0 rfl rfl ml_L_79 im_X8_setting se_X8_setting rfl (by decide) rfl (Nat.le_of_ble_eq_true rfl) rfl rfl (fun v g q86 => ?_)
                        obtain ⟨rfl, i87, li87, rfl, hk⟩ := kQ_of hk q86
                        have hk : kp bb i i l (B) i87 li87 := hk
                        show mX m_L_isRange 9 _ 0 0 _ _ [vI (B.1 0), vI (gIn (sV B.1 y) p)] _
                        refine x_icmp_lt 135 (tgt := 267) rfl (by decide) (by omega) (fun h88 => ?_) (fun h88 => ?_)
                        · have hfp : f p = false := by rw [hf]; exact decide_eq_false (by omega)
                          refine x_iload 142 rfl rfl ?_
                          refine x_istore 143 (L' := [some (vR (some (ob bb))), some (vI (y)), some (vI (rgLo (sV B.1 y))), some (vI (rgHi (sV B.1 y))), some (vI (row)), some (vI (most)), some (vI (en)), some (vI (1)), some (vI (se)), some (vI (p)), some (vI (22 - (6 * p))), some (vI (rgLo (sV B.1 y))), some (vI ((22 - (6 * p)) + 14)), some (vI (gIn (sV B.1 y) p))]) rfl (by decide) rfl rfl ?_
                          refine x_iinc 144 (L' := [some (vR (some (ob bb))), some (vI (y)), some (vI (rgLo (sV B.1 y))), some (vI (rgHi (sV B.1 y))), some (vI (row)), some (vI (most)), some (vI (en)), some (vI (1)), some (vI (se)), some (vI (p + 1)), some (vI (22 - (6 * p))), some (vI (rgLo (sV B.1 y))), some (vI ((22 - (6 * p)) + 14)), some (vI (gIn (sV B.1 y) p))]) rfl (by decide) rfl rfl rfl rfl ?_
                          refine x_goto 145 (tgt := 148) rfl (by decide) ?_
                          refine x_dropL (L' := [some (vR (some (ob bb))), some (vI (y)), some (vI (rgLo (sV B.1 y))), some (vI (rgHi (sV B.1 y))), some (vI (row)), some (vI (most)), some (vI (en)), some (vI (1)), some (vI (se)), some (vI (p + 1)), none, none, none, none]) ⟨rfl, ⟨rfl, ⟨rfl, ⟨rfl, ⟨rfl, ⟨rfl, ⟨rfl, ⟨rfl, ⟨rfl, ⟨rfl, True.intro⟩⟩⟩⟩⟩⟩⟩⟩⟩⟩ ?_
                          exact ihL8 i87 li87 (p + 1) (se) (by omega) (by rw [orZ_s f hp.1, hs, hfp]; first | (rw [if_neg (by decide)]) | (rw [if_pos rfl, mOne])) (hk) (by omega)
                        · have hfp : f p = true := by rw [hf]; exact decide_eq_true (by omega)
                          have hp2 := mPow4 (show 0 ≤ p ∧ p < 4 by omega)
                          refine x_iload 136 rfl rfl ?_
                          refine x_iconst 137 rfl ?_
                          refine x_iload 138 rfl rfl ?_
                          refine x_ishl 139 (r := 1 * 2 ^ (p).toNat) rfl (by have := Nat.pow_le_pow_right (n := 2) (by decide) (show p.toNat ≤ 4 by omega); omega) rfl ?_
                          refine x_ior 140 (r := (se : Int).toNat ||| (1 * 2 ^ (p).toNat : Int).toNat) rfl (by omega) rfl ?_
                          refine x_goto 141 (tgt := 269) rfl (by decide) ?_
                          refine x_istore 143 (L' := [some (vR (some (ob bb))), some (vI (y)), some (vI (rgLo (sV B.1 y))), some (vI (rgHi (sV B.1 y))), some (vI (row)), some (vI (most)), some (vI (en)), some (vI (1)), some (vI ((((se : Int).toNat ||| (1 * 2 ^ (p).toNat : Int).toNat : Nat) : Int))), some (vI (p)), some (vI (22 - (6 * p))), some (vI (rgLo (sV B.1 y))), some (vI ((22 - (6 * p)) + 14)), some (vI (gIn (sV B.1 y) p))]) rfl (by decide) rfl rfl ?_
                          refine x_iinc 144 (L' := [some (vR (some (ob bb))), some (vI (y)), some (vI (rgLo (sV B.1 y))), some (vI (rgHi (sV B.1 y))), some (vI (row)), some (vI (most)), some (vI (en)), some (vI (1)), some (vI ((((se : Int).toNat ||| (1 * 2 ^ (p).toNat : Int).toNat : Nat) : Int))), some (vI (p + 1)), some (vI (22 - (6 * p))), some (vI (rgLo (sV B.1 y))), some (vI ((22 - (6 * p)) + 14)), some (vI (gIn (sV B.1 y) p))]) rfl (by decide) rfl rfl rfl rfl ?_
                          refine x_goto 145 (tgt := 148) rfl (by decide) ?_
                          refine x_dropL (L' := [some (vR (some (ob bb))), some (vI (y)), some (vI (rgLo (sV B.1 y))), some (vI (rgHi (sV B.1 y))), some (vI (row)), some (vI (most)), some (vI (en)), some (vI (1)), some (vI ((((se : Int).toNat ||| (1 * 2 ^ (p).toNat : Int).toNat : Nat) : Int))), some (vI (p + 1)), none, none, none, none]) ⟨rfl, ⟨rfl, ⟨rfl, ⟨rfl, ⟨rfl, ⟨rfl, ⟨rfl, ⟨rfl, ⟨rfl, ⟨rfl, True.intro⟩⟩⟩⟩⟩⟩⟩⟩⟩⟩ ?_
                          exact ihL8 i87 li87 (p + 1) ((((se : Int).toNat ||| (1 * 2 ^ (p).toNat : Int).toNat : Nat) : Int)) (by omega) (by rw [orZ_s f hp.1, hs, hfp]; first | (rw [if_neg (by decide)]) | (rw [if_pos rfl, mOne])) (hk) (by omega)
                  · refine x_iload_n 100 rfl rfl ?_
                    refine x_goto 101 (tgt := 196) rfl (by decide) ?_
                    refine x_istore 105 (L' := [some (vR (some (ob bb))), some (vI (y)), some (vI (rgLo (sV B.1 y))), some (vI (rgHi (sV B.1 y))), some (vI (row)), some (vI (most)), some (vI (en)), some (vI (1)), some (vI (se)), some (vI (p)), some (vI (22 - (6 * p))), some (vI (rgLo (sV B.1 y))), some (vI (rgHi (sV B.1 y))), none]) rfl (by decide) rfl rfl ?_
                    refine x_iload 106 rfl rfl ?_
                    refine x_if_eq 107 (tgt := 210) rfl (by decide) (by omega) (fun h89 => ?_) (fun h89 => ?_)
                    · refine x_iconst 111 rfl ?_
                      refine x_eqS (S' := [vI (gIn (sV B.1 y) p)]) (by rw [show gIn (sV B.1 y) p = 0 by omega]) ?_
                      refine x_goto 112 (tgt := 221) rfl (by decide) ?_
                      refine x_istore 118 (L' := [some (vR (some (ob bb))), some (vI (y)), some (vI (rgLo (sV B.1 y))), some (vI (rgHi (sV B.1 y))), some (vI (row)), some (vI (most)), some (vI (en)), some (vI (1)), some (vI (se)), some (vI (p)), some (vI (22 - (6 * p))), some (vI (rgLo (sV B.1 y))), some (vI (rgHi (sV B.1 y))), some (vI (gIn (sV B.1 y) p))]) rfl (by decide) rfl rfl ?_
                      refine x_iload 119 rfl rfl ?_
                      refine x_if_eq 120 (tgt := 244) rfl (by decide) (by decide) (fun h90 => absurd h90 (by decide)) (fun h90 => ?_)
                      refine x_aload_n 121 rfl rfl ?_
                      refine x_iload_n 122 rfl rfl ?_
                      refine x_iload 123 rfl rfl ?_
                      refine x_callV 124 m_X8_overlap (c_b_overlap hk.1 hB (by omega) (by omega)) rfl ok_X8_overlap b_lt0 k_0 rfl rfl ml_L_76 im_X8_overlap se_X8_overlap rfl (by decide) rfl (Nat.le_of_ble_eq_true rfl) rfl rfl (fun v g q91 => ?_)
                      obtain ⟨rfl, i92, li92, rfl, hk⟩ := kQ_of hk q91
                      have hk : kp bb i i l (B) i92 li92 := hk
                      show mX m_L_isRange 9 _ 0 0 _ _ [vI (anOverlap y p B.1)] _
                      refine x_eqS (S' := [vI (gIn (sV B.1 y) p)]) (by rw [anO (by omega) (by omega) (by omega)]) ?_
                      refine x_iload 125 rfl rfl ?_
                      refine x_icmp_ne 126 (tgt := 244) rfl (by decide) (by omega) (fun h93 => by exfalso; omega) (fun h93 => ?_)
                      refine x_iconst 127 rfl ?_
                      refine x_goto 128 (tgt := 245) rfl (by decide) ?_
                      refine x_istore 130 (L' := [some (vR (some (ob bb))), some (vI (y)), some (vI (rgLo (sV B.1 y))), some (vI (rgHi (sV B.1 y))), some (vI (row)), some (vI (most)), some (vI (en)), some (vI (1)), some (vI (se)), some (vI (p)), some (vI (22 - (6 * p))), some (vI (rgLo (sV B.1 y))), some (vI (rgHi (sV B.1 y))), some (vI (gIn (sV B.1 y) p))]) rfl (by decide) rfl rfl ?_
                      refine x_iload 131 rfl rfl ?_
                      refine x_aload_n 132 rfl rfl ?_
                      refine x_iconst 133 rfl ?_
                      refine x_callV 134 m_X8_setting (c_b_setting hk.1 hB (by omega)) rfl ok_X8_setting b_lt0 k_0 rfl rfl ml_L_79 im_X8_setting se_X8_setting rfl (by decide) rfl (Nat.le_of_ble_eq_true rfl) rfl rfl (fun v g q94 => ?_)
                      obtain ⟨rfl, i95, li95, rfl, hk⟩ := kQ_of hk q94
                      have hk : kp bb i i l (B) i95 li95 := hk
                      show mX m_L_isRange 9 _ 0 0 _ _ [vI (B.1 0), vI (gIn (sV B.1 y) p)] _
                      refine x_icmp_lt 135 (tgt := 267) rfl (by decide) (by omega) (fun h96 => ?_) (fun h96 => ?_)
                      · have hfp : f p = false := by rw [hf]; exact decide_eq_false (by omega)
                        refine x_iload 142 rfl rfl ?_
                        refine x_istore 143 (L' := [some (vR (some (ob bb))), some (vI (y)), some (vI (rgLo (sV B.1 y))), some (vI (rgHi (sV B.1 y))), some (vI (row)), some (vI (most)), some (vI (en)), some (vI (1)), some (vI (se)), some (vI (p)), some (vI (22 - (6 * p))), some (vI (rgLo (sV B.1 y))), some (vI (rgHi (sV B.1 y))), some (vI (gIn (sV B.1 y) p))]) rfl (by decide) rfl rfl ?_
                        refine x_iinc 144 (L' := [some (vR (some (ob bb))), some (vI (y)), some (vI (rgLo (sV B.1 y))), some (vI (rgHi (sV B.1 y))), some (vI (row)), some (vI (most)), some (vI (en)), some (vI (1)), some (vI (se)), some (vI (p + 1)), some (vI (22 - (6 * p))), some (vI (rgLo (sV B.1 y))), some (vI (rgHi (sV B.1 y))), some (vI (gIn (sV B.1 y) p))]) rfl (by decide) rfl rfl rfl rfl ?_
                        refine x_goto 145 (tgt := 148) rfl (by decide) ?_
                        refine x_dropL (L' := [some (vR (some (ob bb))), some (vI (y)), some (vI (rgLo (sV B.1 y))), some (vI (rgHi (sV B.1 y))), some (vI (row)), some (vI (most)), some (vI (en)), some (vI (1)), some (vI (se)), some (vI (p + 1)), none, none, none, none]) ⟨rfl, ⟨rfl, ⟨rfl, ⟨rfl, ⟨rfl, ⟨rfl, ⟨rfl, ⟨rfl, ⟨rfl, ⟨rfl, True.intro⟩⟩⟩⟩⟩⟩⟩⟩⟩⟩ ?_
                        exact ihL8 i95 li95 (p + 1) (se) (by omega) (by rw [orZ_s f hp.1, hs, hfp]; first | (rw [if_neg (by decide)]) | (rw [if_pos rfl, mOne])) (hk) (by omega)
                      · have hfp : f p = true := by rw [hf]; exact decide_eq_true (by omega)
                        have hp2 := mPow4 (show 0 ≤ p ∧ p < 4 by omega)
                        refine x_iload 136 rfl rfl ?_
                        refine x_iconst 137 rfl ?_
                        refine x_iload 138 rfl rfl ?_
                        refine x_ishl 139 (r := 1 * 2 ^ (p).toNat) rfl (by have := Nat.pow_le_pow_right (n := 2) (by decide) (show p.toNat ≤ 4 by omega); omega) rfl ?_
                        refine x_ior 140 (r := (se : Int).toNat ||| (1 * 2 ^ (p).toNat : Int).toNat) rfl (by omega) rfl ?_
                        refine x_goto 141 (tgt := 269) rfl (by decide) ?_
                        refine x_istore 143 (L' := [some (vR (some (ob bb))), some (vI (y)), some (vI (rgLo (sV B.1 y))), some (vI (rgHi (sV B.1 y))), some (vI (row)), some (vI (most)), some (vI (en)), some (vI (1)), some (vI ((((se : Int).toNat ||| (1 * 2 ^ (p).toNat : Int).toNat : Nat) : Int))), some (vI (p)), some (vI (22 - (6 * p))), some (vI (rgLo (sV B.1 y))), some (vI (rgHi (sV B.1 y))), some (vI (gIn (sV B.1 y) p))]) rfl (by decide) rfl rfl ?_
                        refine x_iinc 144 (L' := [some (vR (some (ob bb))), some (vI (y)), some (vI (rgLo (sV B.1 y))), some (vI (rgHi (sV B.1 y))), some (vI (row)), some (vI (most)), some (vI (en)), some (vI (1)), some (vI ((((se : Int).toNat ||| (1 * 2 ^ (p).toNat : Int).toNat : Nat) : Int))), some (vI (p + 1)), some (vI (22 - (6 * p))), some (vI (rgLo (sV B.1 y))), some (vI (rgHi (sV B.1 y))), some (vI (gIn (sV B.1 y) p))]) rfl (by decide) rfl rfl rfl rfl ?_
                        refine x_goto 145 (tgt := 148) rfl (by decide) ?_
                        refine x_dropL (L' := [some (vR (some (ob bb))), some (vI (y)), some (vI (rgLo (sV B.1 y))), some (vI (rgHi (sV B.1 y))), some (vI (row)), some (vI (most)), some (vI (en)), some (vI (1)), some (vI ((((se : Int).toNat ||| (1 * 2 ^ (p).toNat : Int).toNat : Nat) : Int))), some (vI (p + 1)), none, none, none, none]) ⟨rfl, ⟨rfl, ⟨rfl, ⟨rfl, ⟨rfl, ⟨rfl, ⟨rfl, ⟨rfl, ⟨rfl, ⟨rfl, True.intro⟩⟩⟩⟩⟩⟩⟩⟩⟩⟩ ?_
                        exact ihL8 i95 li95 (p + 1) ((((se : Int).toNat ||| (1 * 2 ^ (p).toNat : Int).toNat : Nat) : Int)) (by omega) (by rw [orZ_s f hp.1, hs, hfp]; first | (rw [if_neg (by decide)]) | (rw [if_pos rfl, mOne])) (hk) (by omega)
                    · refine x_iload 108 rfl rfl ?_
                      refine x_iload 109 rfl rfl ?_
                      refine x_icmp_ge 110 (tgt := 214) rfl (by decide) (by omega) (fun h97 => ?_) (fun h97 => ?_)
                      · refine x_iload 113 rfl rfl ?_
                        refine x_iload 114 rfl rfl ?_
                        refine x_isub 115 (r := (rgHi (sV B.1 y)) - (rgLo (sV B.1 y))) rfl rfl ?_
                        refine x_iconst 116 rfl ?_
                        refine x_iadd 117 (r := ((rgHi (sV B.1 y)) - (rgLo (sV B.1 y))) + 1) rfl rfl ?_
                        refine x_eqS (S' := [vI (gIn (sV B.1 y) p)]) (by refine congrArg (fun z => vI z :: _) ?_; omega) ?_
                        refine x_istore 118 (L' := [some (vR (some (ob bb))), some (vI (y)), some (vI (rgLo (sV B.1 y))), some (vI (rgHi (sV B.1 y))), some (vI (row)), some (vI (most)), some (vI (en)), some (vI (1)), some (vI (se)), some (vI (p)), some (vI (22 - (6 * p))), some (vI (rgLo (sV B.1 y))), some (vI (rgHi (sV B.1 y))), some (vI (gIn (sV B.1 y) p))]) rfl (by decide) rfl rfl ?_
                        refine x_iload 119 rfl rfl ?_
                        refine x_if_eq 120 (tgt := 244) rfl (by decide) (by decide) (fun h98 => absurd h98 (by decide)) (fun h98 => ?_)
                        refine x_aload_n 121 rfl rfl ?_
                        refine x_iload_n 122 rfl rfl ?_
                        refine x_iload 123 rfl rfl ?_
                        refine x_callV 124 m_X8_overlap (c_b_overlap hk.1 hB (by omega) (by omega)) rfl ok_X8_overlap b_lt0 k_0 rfl rfl ml_L_76 im_X8_overlap se_X8_overlap rfl (by decide) rfl (Nat.le_of_ble_eq_true rfl) rfl rfl (fun v g q99 => ?_)
                        obtain ⟨rfl, i100, li100, rfl, hk⟩ := kQ_of hk q99
                        have hk : kp bb i i l (B) i100 li100 := hk
                        show mX m_L_isRange 9 _ 0 0 _ _ [vI (anOverlap y p B.1)] _
                        refine x_eqS (S' := [vI (gIn (sV B.1 y) p)]) (by rw [anO (by omega) (by omega) (by omega)]) ?_
                        refine x_iload 125 rfl rfl ?_
                        refine x_icmp_ne 126 (tgt := 244) rfl (by decide) (by omega) (fun h101 => by exfalso; omega) (fun h101 => ?_)
                        refine x_iconst 127 rfl ?_
                        refine x_goto 128 (tgt := 245) rfl (by decide) ?_
                        refine x_istore 130 (L' := [some (vR (some (ob bb))), some (vI (y)), some (vI (rgLo (sV B.1 y))), some (vI (rgHi (sV B.1 y))), some (vI (row)), some (vI (most)), some (vI (en)), some (vI (1)), some (vI (se)), some (vI (p)), some (vI (22 - (6 * p))), some (vI (rgLo (sV B.1 y))), some (vI (rgHi (sV B.1 y))), some (vI (gIn (sV B.1 y) p))]) rfl (by decide) rfl rfl ?_
                        refine x_iload 131 rfl rfl ?_
                        refine x_aload_n 132 rfl rfl ?_
                        refine x_iconst 133 rfl ?_
                        refine x_callV 134 m_X8_setting (c_b_setting hk.1 hB (by omega)) rfl ok_X8_setting b_lt0 k_0 rfl rfl ml_L_79 im_X8_setting se_X8_setting rfl (by decide) rfl (Nat.le_of_ble_eq_true rfl) rfl rfl (fun v g q102 => ?_)
                        obtain ⟨rfl, i103, li103, rfl, hk⟩ := kQ_of hk q102
                        have hk : kp bb i i l (B) i103 li103 := hk
                        show mX m_L_isRange 9 _ 0 0 _ _ [vI (B.1 0), vI (gIn (sV B.1 y) p)] _
                        refine x_icmp_lt 135 (tgt := 267) rfl (by decide) (by omega) (fun h104 => ?_) (fun h104 => ?_)
                        · have hfp : f p = false := by rw [hf]; exact decide_eq_false (by omega)
                          refine x_iload 142 rfl rfl ?_
                          refine x_istore 143 (L' := [some (vR (some (ob bb))), some (vI (y)), some (vI (rgLo (sV B.1 y))), some (vI (rgHi (sV B.1 y))), some (vI (row)), some (vI (most)), some (vI (en)), some (vI (1)), some (vI (se)), some (vI (p)), some (vI (22 - (6 * p))), some (vI (rgLo (sV B.1 y))), some (vI (rgHi (sV B.1 y))), some (vI (gIn (sV B.1 y) p))]) rfl (by decide) rfl rfl ?_
                          refine x_iinc 144 (L' := [some (vR (some (ob bb))), some (vI (y)), some (vI (rgLo (sV B.1 y))), some (vI (rgHi (sV B.1 y))), some (vI (row)), some (vI (most)), some (vI (en)), some (vI (1)), some (vI (se)), some (vI (p + 1)), some (vI (22 - (6 * p))), some (vI (rgLo (sV B.1 y))), some (vI (rgHi (sV B.1 y))), some (vI (gIn (sV B.1 y) p))]) rfl (by decide) rfl rfl rfl rfl ?_
                          refine x_goto 145 (tgt := 148) rfl (by decide) ?_
                          refine x_dropL (L' := [some (vR (some (ob bb))), some (vI (y)), some (vI (rgLo (sV B.1 y))), some (vI (rgHi (sV B.1 y))), some (vI (row)), some (vI (most)), some (vI (en)), some (vI (1)), some (vI (se)), some (vI (p + 1)), none, none, none, none]) ⟨rfl, ⟨rfl, ⟨rfl, ⟨rfl, ⟨rfl, ⟨rfl, ⟨rfl, ⟨rfl, ⟨rfl, ⟨rfl, True.intro⟩⟩⟩⟩⟩⟩⟩⟩⟩⟩ ?_
                          exact ihL8 i103 li103 (p + 1) (se) (by omega) (by rw [orZ_s f hp.1, hs, hfp]; first | (rw [if_neg (by decide)]) | (rw [if_pos rfl, mOne])) (hk) (by omega)
                        · have hfp : f p = true := by rw [hf]; exact decide_eq_true (by omega)
                          have hp2 := mPow4 (show 0 ≤ p ∧ p < 4 by omega)
                          refine x_iload 136 rfl rfl ?_
                          refine x_iconst 137 rfl ?_
                          refine x_iload 138 rfl rfl ?_
                          refine x_ishl 139 (r := 1 * 2 ^ (p).toNat) rfl (by have := Nat.pow_le_pow_right (n := 2) (by decide) (show p.toNat ≤ 4 by omega); omega) rfl ?_
                          refine x_ior 140 (r := (se : Int).toNat ||| (1 * 2 ^ (p).toNat : Int).toNat) rfl (by omega) rfl ?_
                          refine x_goto 141 (tgt := 269) rfl (by decide) ?_
                          refine x_istore 143 (L' := [some (vR (some (ob bb))), some (vI (y)), some (vI (rgLo (sV B.1 y))), some (vI (rgHi (sV B.1 y))), some (vI (row)), some (vI (most)), some (vI (en)), some (vI (1)), some (vI ((((se : Int).toNat ||| (1 * 2 ^ (p).toNat : Int).toNat : Nat) : Int))), some (vI (p)), some (vI (22 - (6 * p))), some (vI (rgLo (sV B.1 y))), some (vI (rgHi (sV B.1 y))), some (vI (gIn (sV B.1 y) p))]) rfl (by decide) rfl rfl ?_
                          refine x_iinc 144 (L' := [some (vR (some (ob bb))), some (vI (y)), some (vI (rgLo (sV B.1 y))), some (vI (rgHi (sV B.1 y))), some (vI (row)), some (vI (most)), some (vI (en)), some (vI (1)), some (vI ((((se : Int).toNat ||| (1 * 2 ^ (p).toNat : Int).toNat : Nat) : Int))), some (vI (p + 1)), some (vI (22 - (6 * p))), some (vI (rgLo (sV B.1 y))), some (vI (rgHi (sV B.1 y))), some (vI (gIn (sV B.1 y) p))]) rfl (by decide) rfl rfl rfl rfl ?_
                          refine x_goto 145 (tgt := 148) rfl (by decide) ?_
                          refine x_dropL (L' := [some (vR (some (ob bb))), some (vI (y)), some (vI (rgLo (sV B.1 y))), some (vI (rgHi (sV B.1 y))), some (vI (row)), some (vI (most)), some (vI (en)), some (vI (1)), some (vI ((((se : Int).toNat ||| (1 * 2 ^ (p).toNat : Int).toNat : Nat) : Int))), some (vI (p + 1)), none, none, none, none]) ⟨rfl, ⟨rfl, ⟨rfl, ⟨rfl, ⟨rfl, ⟨rfl, ⟨rfl, ⟨rfl, ⟨rfl, ⟨rfl, True.intro⟩⟩⟩⟩⟩⟩⟩⟩⟩⟩ ?_
                          exact ihL8 i103 li103 (p + 1) ((((se : Int).toNat ||| (1 * 2 ^ (p).toNat : Int).toNat : Nat) : Int)) (by omega) (by rw [orZ_s f hp.1, hs, hfp]; first | (rw [if_neg (by decide)]) | (rw [if_pos rfl, mOne])) (hk) (by omega)
                      · refine x_iconst 111 rfl ?_
                        refine x_eqS (S' := [vI (gIn (sV B.1 y) p)]) (by rw [show gIn (sV B.1 y) p = 0 by omega]) ?_
                        refine x_goto 112 (tgt := 221) rfl (by decide) ?_
                        refine x_istore 118 (L' := [some (vR (some (ob bb))), some (vI (y)), some (vI (rgLo (sV B.1 y))), some (vI (rgHi (sV B.1 y))), some (vI (row)), some (vI (most)), some (vI (en)), some (vI (1)), some (vI (se)), some (vI (p)), some (vI (22 - (6 * p))), some (vI (rgLo (sV B.1 y))), some (vI (rgHi (sV B.1 y))), some (vI (gIn (sV B.1 y) p))]) rfl (by decide) rfl rfl ?_
                        refine x_iload 119 rfl rfl ?_
                        refine x_if_eq 120 (tgt := 244) rfl (by decide) (by decide) (fun h105 => absurd h105 (by decide)) (fun h105 => ?_)
                        refine x_aload_n 121 rfl rfl ?_
                        refine x_iload_n 122 rfl rfl ?_
                        refine x_iload 123 rfl rfl ?_
                        refine x_callV 124 m_X8_overlap (c_b_overlap hk.1 hB (by omega) (by omega)) rfl ok_X8_overlap b_lt0 k_0 rfl rfl ml_L_76 im_X8_overlap se_X8_overlap rfl (by decide) rfl (Nat.le_of_ble_eq_true rfl) rfl rfl (fun v g q106 => ?_)
                        obtain ⟨rfl, i107, li107, rfl, hk⟩ := kQ_of hk q106
                        have hk : kp bb i i l (B) i107 li107 := hk
                        show mX m_L_isRange 9 _ 0 0 _ _ [vI (anOverlap y p B.1)] _
                        refine x_eqS (S' := [vI (gIn (sV B.1 y) p)]) (by rw [anO (by omega) (by omega) (by omega)]) ?_
                        refine x_iload 125 rfl rfl ?_
                        refine x_icmp_ne 126 (tgt := 244) rfl (by decide) (by omega) (fun h108 => by exfalso; omega) (fun h108 => ?_)
                        refine x_iconst 127 rfl ?_
                        refine x_goto 128 (tgt := 245) rfl (by decide) ?_
                        refine x_istore 130 (L' := [some (vR (some (ob bb))), some (vI (y)), some (vI (rgLo (sV B.1 y))), some (vI (rgHi (sV B.1 y))), some (vI (row)), some (vI (most)), some (vI (en)), some (vI (1)), some (vI (se)), some (vI (p)), some (vI (22 - (6 * p))), some (vI (rgLo (sV B.1 y))), some (vI (rgHi (sV B.1 y))), some (vI (gIn (sV B.1 y) p))]) rfl (by decide) rfl rfl ?_
                        refine x_iload 131 rfl rfl ?_
                        refine x_aload_n 132 rfl rfl ?_
                        refine x_iconst 133 rfl ?_
                        refine x_callV 134 m_X8_setting (c_b_setting hk.1 hB (by omega)) rfl ok_X8_setting b_lt0 k_0 rfl rfl ml_L_79 im_X8_setting se_X8_setting rfl (by decide) rfl (Nat.le_of_ble_eq_true rfl) rfl rfl (fun v g q109 => ?_)
                        obtain ⟨rfl, i110, li110, rfl, hk⟩ := kQ_of hk q109
                        have hk : kp bb i i l (B) i110 li110 := hk
                        show mX m_L_isRange 9 _ 0 0 _ _ [vI (B.1 0), vI (gIn (sV B.1 y) p)] _
                        refine x_icmp_lt 135 (tgt := 267) rfl (by decide) (by omega) (fun h111 => ?_) (fun h111 => ?_)
                        · have hfp : f p = false := by rw [hf]; exact decide_eq_false (by omega)
                          refine x_iload 142 rfl rfl ?_
                          refine x_istore 143 (L' := [some (vR (some (ob bb))), some (vI (y)), some (vI (rgLo (sV B.1 y))), some (vI (rgHi (sV B.1 y))), some (vI (row)), some (vI (most)), some (vI (en)), some (vI (1)), some (vI (se)), some (vI (p)), some (vI (22 - (6 * p))), some (vI (rgLo (sV B.1 y))), some (vI (rgHi (sV B.1 y))), some (vI (gIn (sV B.1 y) p))]) rfl (by decide) rfl rfl ?_
                          refine x_iinc 144 (L' := [some (vR (some (ob bb))), some (vI (y)), some (vI (rgLo (sV B.1 y))), some (vI (rgHi (sV B.1 y))), some (vI (row)), some (vI (most)), some (vI (en)), some (vI (1)), some (vI (se)), some (vI (p + 1)), some (vI (22 - (6 * p))), some (vI (rgLo (sV B.1 y))), some (vI (rgHi (sV B.1 y))), some (vI (gIn (sV B.1 y) p))]) rfl (by decide) rfl rfl rfl rfl ?_
                          refine x_goto 145 (tgt := 148) rfl (by decide) ?_
                          refine x_dropL (L' := [some (vR (some (ob bb))), some (vI (y)), some (vI (rgLo (sV B.1 y))), some (vI (rgHi (sV B.1 y))), some (vI (row)), some (vI (most)), some (vI (en)), some (vI (1)), some (vI (se)), some (vI (p + 1)), none, none, none, none]) ⟨rfl, ⟨rfl, ⟨rfl, ⟨rfl, ⟨rfl, ⟨rfl, ⟨rfl, ⟨rfl, ⟨rfl, ⟨rfl, True.intro⟩⟩⟩⟩⟩⟩⟩⟩⟩⟩ ?_
                          exact ihL8 i110 li110 (p + 1) (se) (by omega) (by rw [orZ_s f hp.1, hs, hfp]; first | (rw [if_neg (by decide)]) | (rw [if_pos rfl, mOne])) (hk) (by omega)
                        · have hfp : f p = true := by rw [hf]; exact decide_eq_true (by omega)
                          have hp2 := mPow4 (show 0 ≤ p ∧ p < 4 by omega)
                          refine x_iload 136 rfl rfl ?_
                          refine x_iconst 137 rfl ?_
                          refine x_iload 138 rfl rfl ?_
                          refine x_ishl 139 (r := 1 * 2 ^ (p).toNat) rfl (by have := Nat.pow_le_pow_right (n := 2) (by decide) (show p.toNat ≤ 4 by omega); omega) rfl ?_
                          refine x_ior 140 (r := (se : Int).toNat ||| (1 * 2 ^ (p).toNat : Int).toNat) rfl (by omega) rfl ?_
                          refine x_goto 141 (tgt := 269) rfl (by decide) ?_
                          refine x_istore 143 (L' := [some (vR (some (ob bb))), some (vI (y)), some (vI (rgLo (sV B.1 y))), some (vI (rgHi (sV B.1 y))), some (vI (row)), some (vI (most)), some (vI (en)), some (vI (1)), some (vI ((((se : Int).toNat ||| (1 * 2 ^ (p).toNat : Int).toNat : Nat) : Int))), some (vI (p)), some (vI (22 - (6 * p))), some (vI (rgLo (sV B.1 y))), some (vI (rgHi (sV B.1 y))), some (vI (gIn (sV B.1 y) p))]) rfl (by decide) rfl rfl ?_
                          refine x_iinc 144 (L' := [some (vR (some (ob bb))), some (vI (y)), some (vI (rgLo (sV B.1 y))), some (vI (rgHi (sV B.1 y))), some (vI (row)), some (vI (most)), some (vI (en)), some (vI (1)), some (vI ((((se : Int).toNat ||| (1 * 2 ^ (p).toNat : Int).toNat : Nat) : Int))), some (vI (p + 1)), some (vI (22 - (6 * p))), some (vI (rgLo (sV B.1 y))), some (vI (rgHi (sV B.1 y))), some (vI (gIn (sV B.1 y) p))]) rfl (by decide) rfl rfl rfl rfl ?_
                          refine x_goto 145 (tgt := 148) rfl (by decide) ?_
                          refine x_dropL (L' := [some (vR (some (ob bb))), some (vI (y)), some (vI (rgLo (sV B.1 y))), some (vI (rgHi (sV B.1 y))), some (vI (row)), some (vI (most)), some (vI (en)), some (vI (1)), some (vI ((((se : Int).toNat ||| (1 * 2 ^ (p).toNat : Int).toNat : Nat) : Int))), some (vI (p + 1)), none, none, none, none]) ⟨rfl, ⟨rfl, ⟨rfl, ⟨rfl, ⟨rfl, ⟨rfl, ⟨rfl, ⟨rfl, ⟨rfl, ⟨rfl, True.intro⟩⟩⟩⟩⟩⟩⟩⟩⟩⟩ ?_
                          exact ihL8 i110 li110 (p + 1) ((((se : Int).toNat ||| (1 * 2 ^ (p).toNat : Int).toNat : Nat) : Int)) (by omega) (by rw [orZ_s f hp.1, hs, hfp]; first | (rw [if_neg (by decide)]) | (rw [if_pos rfl, mOne])) (hk) (by omega)
          exact loopL8 ((4 - ((0))) + 1 : Int).toNat ii ll (0) (0) (by omega) (rfl) (hk) (by omega)
        refine x_if_ne 50 (tgt := 118) rfl (by decide) (by omega) (fun h112 => ?_) (fun h112 => ?_)
        · refine x_iload_n 61 rfl rfl ?_
          refine x_iload 62 rfl rfl ?_
          refine x_icmp_ne 63 (tgt := 139) rfl (by decide) (by omega) (fun h113 => by exfalso; omega) (fun h113 => ?_)
          refine x_iload_n 64 rfl rfl ?_
          refine x_iload 65 rfl rfl ?_
          refine x_iload 66 rfl rfl ?_
          refine x_isub 67 (r := en - most) rfl rfl ?_
          refine x_iconst 68 rfl ?_
          refine x_iadd 69 (r := (en - most) + 1) rfl rfl ?_
          refine x_icmp_ne 70 (tgt := 139) rfl (by decide) (by omega) (fun h114 => by exfalso; omega) (fun h114 => ?_)
          refine x_iconst 71 rfl ?_
          refine x_goto 72 (tgt := 140) rfl (by decide) ?_
          exact joinJ7  
        · refine x_iload_n 51 rfl rfl ?_
          refine x_bipush 52 rfl (by decide) ?_
          refine x_icmp_ne 53 (tgt := 114) rfl (by decide) (by omega) (fun h115 => by exfalso; omega) (fun h115 => ?_)
          refine x_iload_n 54 rfl rfl ?_
          refine x_bipush 55 rfl (by decide) ?_
          refine x_icmp_ne 56 (tgt := 114) rfl (by decide) (by omega) (fun h116 => by exfalso; omega) (fun h116 => ?_)
          refine x_iconst 57 rfl ?_
          refine x_goto 58 (tgt := 140) rfl (by decide) ?_
          exact joinJ7  
      · refine x_aload_n 21 rfl rfl ?_
        refine x_iload_n 22 rfl rfl ?_
        refine x_iload 23 rfl rfl ?_
        have hvx := hv.2.2.2.2.2.2.2 x (by omega) (by omega)
        refine x_callV 24 m_X8_note (c_b_note hk.1 hB (by omega) (by omega)) rfl ok_X8_note b_lt0 k_0 rfl rfl ml_L_73 im_X8_note se_X8_note rfl (by decide) rfl (Nat.le_of_ble_eq_true rfl) rfl rfl (fun v g q117 => ?_)
        obtain ⟨rfl, i118, li118, rfl, hk⟩ := kQ_of hk q117
        have hk : kp bb i i l (B) i118 li118 := hk
        show mX m_L_isRange 9 _ 0 0 _ _ [vI (anNote y x B.1)] _
        refine x_eqS (S' := [vI (sV B.1 y (7 + x))]) (by rw [anN (by omega) (by omega) (by omega)]) ?_
        refine x_iconst 25 rfl ?_
        refine x_icmp_ne 26 (tgt := 52) rfl (by decide) (by omega) (fun h119 => ?_) (fun h119 => ?_)
        · have hfx : (fun k => decide (sV B.1 y (7 + k) = 1)) x = false := decide_eq_false (by omega)
          refine x_iconst 31 rfl ?_
          refine x_istore 32 (L' := [some (vR (some (ob bb))), some (vI (y)), some (vI (rgLo (sV B.1 y))), some (vI (rgHi (sV B.1 y))), some (vI (0)), some (vI (most)), some (vI (en)), some (vI (x)), none, none, none, none, none, none]) rfl (by decide) rfl rfl ?_
          refine x_iload 33 rfl rfl ?_
          refine x_iload 34 rfl rfl ?_
          refine x_icmp_le 35 (tgt := 67) rfl (by decide) (by omega) (fun h120 => ?_) (fun h120 => ?_)
          · refine x_iload 38 rfl rfl ?_
            refine x_istore 39 (L' := [some (vR (some (ob bb))), some (vI (y)), some (vI (rgLo (sV B.1 y))), some (vI (rgHi (sV B.1 y))), some (vI (0)), some (vI (most)), some (vI (en)), some (vI (x)), none, none, none, none, none, none]) rfl (by decide) rfl rfl ?_
            refine x_iload 40 rfl rfl ?_
            refine x_iload 41 rfl rfl ?_
            refine x_icmp_le 42 (tgt := 83) rfl (by decide) (by omega) (fun h121 => ?_) (fun h121 => absurd h121 (by omega))
            refine x_iload 45 rfl rfl ?_
            refine x_istore 46 (L' := [some (vR (some (ob bb))), some (vI (y)), some (vI (rgLo (sV B.1 y))), some (vI (rgHi (sV B.1 y))), some (vI (0)), some (vI (most)), some (vI (en)), some (vI (x)), none, none, none, none, none, none]) rfl (by decide) rfl rfl ?_
            refine x_iinc 47 (L' := [some (vR (some (ob bb))), some (vI (y)), some (vI (rgLo (sV B.1 y))), some (vI (rgHi (sV B.1 y))), some (vI (0)), some (vI (most)), some (vI (en)), some (vI (x + 1)), none, none, none, none, none, none]) rfl (by decide) rfl rfl rfl rfl ?_
            refine x_goto 48 (tgt := 27) rfl (by decide) ?_
            exact ihL5 i118 li118 (x + 1) (0) (most) (en) (by omega) (by first | exact rgI_n hI hx.1 hfx | exact rgI_y1 hI hx.1 hfx (by omega) | exact rgI_y2 hI hx.1 hfx (by omega) | (exfalso; have := rgI_bd hI hx.1; omega)) (hk) (by omega)
          · refine x_iload 36 rfl rfl ?_
            refine x_goto 37 (tgt := 69) rfl (by decide) ?_
            refine x_istore 39 (L' := [some (vR (some (ob bb))), some (vI (y)), some (vI (rgLo (sV B.1 y))), some (vI (rgHi (sV B.1 y))), some (vI (0)), some (vI (most)), some (vI (x)), some (vI (x)), none, none, none, none, none, none]) rfl (by decide) rfl rfl ?_
            refine x_iload 40 rfl rfl ?_
            refine x_iload 41 rfl rfl ?_
            refine x_icmp_le 42 (tgt := 83) rfl (by decide) (by omega) (fun h122 => absurd h122 (by omega)) (fun h122 => ?_)
            refine x_iload 43 rfl rfl ?_
            refine x_goto 44 (tgt := 85) rfl (by decide) ?_
            refine x_istore 46 (L' := [some (vR (some (ob bb))), some (vI (y)), some (vI (rgLo (sV B.1 y))), some (vI (rgHi (sV B.1 y))), some (vI (0)), some (vI (0)), some (vI (x)), some (vI (x)), none, none, none, none, none, none]) rfl (by decide) rfl rfl ?_
            refine x_iinc 47 (L' := [some (vR (some (ob bb))), some (vI (y)), some (vI (rgLo (sV B.1 y))), some (vI (rgHi (sV B.1 y))), some (vI (0)), some (vI (0)), some (vI (x)), some (vI (x + 1)), none, none, none, none, none, none]) rfl (by decide) rfl rfl rfl rfl ?_
            refine x_goto 48 (tgt := 27) rfl (by decide) ?_
            exact ihL5 i118 li118 (x + 1) (0) (0) (x) (by omega) (by first | exact rgI_n hI hx.1 hfx | exact rgI_y1 hI hx.1 hfx (by omega) | exact rgI_y2 hI hx.1 hfx (by omega) | (exfalso; have := rgI_bd hI hx.1; omega)) (hk) (by omega)
        · have hfx : (fun k => decide (sV B.1 y (7 + k) = 1)) x = true := decide_eq_true (by omega)
          refine x_iload 27 rfl rfl ?_
          refine x_iconst 28 rfl ?_
          refine x_iadd 29 (r := row + 1) rfl rfl ?_
          refine x_goto 30 (tgt := 53) rfl (by decide) ?_
          refine x_istore 32 (L' := [some (vR (some (ob bb))), some (vI (y)), some (vI (rgLo (sV B.1 y))), some (vI (rgHi (sV B.1 y))), some (vI (row + 1)), some (vI (most)), some (vI (en)), some (vI (x)), none, none, none, none, none, none]) rfl (by decide) rfl rfl ?_
          refine x_iload 33 rfl rfl ?_
          refine x_iload 34 rfl rfl ?_
          refine x_icmp_le 35 (tgt := 67) rfl (by decide) (by omega) (fun h123 => ?_) (fun h123 => ?_)
          · refine x_iload 38 rfl rfl ?_
            refine x_istore 39 (L' := [some (vR (some (ob bb))), some (vI (y)), some (vI (rgLo (sV B.1 y))), some (vI (rgHi (sV B.1 y))), some (vI (row + 1)), some (vI (most)), some (vI (en)), some (vI (x)), none, none, none, none, none, none]) rfl (by decide) rfl rfl ?_
            refine x_iload 40 rfl rfl ?_
            refine x_iload 41 rfl rfl ?_
            refine x_icmp_le 42 (tgt := 83) rfl (by decide) (by omega) (fun h124 => ?_) (fun h124 => absurd h124 (by omega))
            refine x_iload 45 rfl rfl ?_
            refine x_istore 46 (L' := [some (vR (some (ob bb))), some (vI (y)), some (vI (rgLo (sV B.1 y))), some (vI (rgHi (sV B.1 y))), some (vI (row + 1)), some (vI (most)), some (vI (en)), some (vI (x)), none, none, none, none, none, none]) rfl (by decide) rfl rfl ?_
            refine x_iinc 47 (L' := [some (vR (some (ob bb))), some (vI (y)), some (vI (rgLo (sV B.1 y))), some (vI (rgHi (sV B.1 y))), some (vI (row + 1)), some (vI (most)), some (vI (en)), some (vI (x + 1)), none, none, none, none, none, none]) rfl (by decide) rfl rfl rfl rfl ?_
            refine x_goto 48 (tgt := 27) rfl (by decide) ?_
            exact ihL5 i118 li118 (x + 1) (row + 1) (most) (en) (by omega) (by first | exact rgI_n hI hx.1 hfx | exact rgI_y1 hI hx.1 hfx (by omega) | exact rgI_y2 hI hx.1 hfx (by omega) | (exfalso; have := rgI_bd hI hx.1; omega)) (hk) (by omega)
          · refine x_iload 36 rfl rfl ?_
            refine x_goto 37 (tgt := 69) rfl (by decide) ?_
            refine x_istore 39 (L' := [some (vR (some (ob bb))), some (vI (y)), some (vI (rgLo (sV B.1 y))), some (vI (rgHi (sV B.1 y))), some (vI (row + 1)), some (vI (most)), some (vI (x)), some (vI (x)), none, none, none, none, none, none]) rfl (by decide) rfl rfl ?_
            refine x_iload 40 rfl rfl ?_
            refine x_iload 41 rfl rfl ?_
            refine x_icmp_le 42 (tgt := 83) rfl (by decide) (by omega) (fun h125 => absurd h125 (by omega)) (fun h125 => ?_)
            refine x_iload 43 rfl rfl ?_
            refine x_goto 44 (tgt := 85) rfl (by decide) ?_
            refine x_istore 46 (L' := [some (vR (some (ob bb))), some (vI (y)), some (vI (rgLo (sV B.1 y))), some (vI (rgHi (sV B.1 y))), some (vI (row + 1)), some (vI (row + 1)), some (vI (x)), some (vI (x)), none, none, none, none, none, none]) rfl (by decide) rfl rfl ?_
            refine x_iinc 47 (L' := [some (vR (some (ob bb))), some (vI (y)), some (vI (rgLo (sV B.1 y))), some (vI (rgHi (sV B.1 y))), some (vI (row + 1)), some (vI (row + 1)), some (vI (x)), some (vI (x + 1)), none, none, none, none, none, none]) rfl (by decide) rfl rfl rfl rfl ?_
            refine x_goto 48 (tgt := 27) rfl (by decide) ?_
            exact ihL5 i118 li118 (x + 1) (row + 1) (row + 1) (x) (by omega) (by first | exact rgI_n hI hx.1 hfx | exact rgI_y1 hI hx.1 hfx (by omega) | exact rgI_y2 hI hx.1 hfx (by omega) | (exfalso; have := rgI_bd hI hx.1; omega)) (hk) (by omega)
  exact loopL5 ((41 - ((0))) + 1 : Int).toNat i4 li4 (0) (0) (0) ((-9)) (by omega) (rgI_0 _) (hk) (by omega)
