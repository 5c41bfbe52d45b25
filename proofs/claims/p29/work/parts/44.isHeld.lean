variable {nn : Nat} {bb : Bool}
/-! a rehearsal does what is foretold of it -/
set_option maxRecDepth 20000 in
set_option maxHeartbeats 2000000 in
theorem c_l_isHeld {i : Nat → Int → Int} {l : Nat → Int → BitVec 64} {B : bT} (hR : RelT bb i l B) (hB : okT B) (he : nn % 2 = 0) : mCtr m_L_isHeld 9 2 44 [vR (some (ob bb))] (st nn i l) (qH bb i l B) := by
  refine mCtr_of pl_L dc_L_isHeld (Nat.le_of_ble_eq_true rfl) rfl ?_
  show mX m_L_isHeld 9 _ 2 44 0 [some (vR (some (ob bb))), none, none, none, none, none, none, none, none, none, none, none] [] (st nn i l)
  have hk := kp_0 hR
  have hW := hB.1
  have hN := hW.n
  have hkD := kA1 he
  have hkE := kA2 he
  have hsgb := sgW_bd B.1
  have hsib := siW_bd B.1 hN.1.1
  have hB0 := hB
  refine x_aload_n 0 rfl rfl ?_
  refine x_iconst 1 rfl ?_
  refine x_callV 2 m_X8_told (c_b_told hk.1 hB (by omega)) rfl ok_X8_told b_lt0 k_0 rfl rfl ml_L_32 im_X8_told se_X8_told rfl (by decide) rfl (Nat.le_of_ble_eq_true rfl) rfl rfl (fun v g q1 => ?_)
  obtain ⟨rfl, i2, li2, rfl, hk⟩ := kQ_of hk q1
  have hk : kp bb i i l (B) i2 li2 := hk
  show mX m_L_isHeld 9 _ 2 44 _ _ [vI (B.1 11)] _
  refine x_istore_n 3 (L' := [some (vR (some (ob bb))), some (vI (B.1 11)), none, none, none, none, none, none, none, none, none, none]) rfl (by decide) rfl rfl ?_
  refine x_aload_n 4 rfl rfl ?_
  refine x_iconst 5 rfl ?_
  refine x_callV 6 m_X8_told (c_b_told hk.1 hB (by omega)) rfl ok_X8_told b_lt0 k_0 rfl rfl ml_L_32 im_X8_told se_X8_told rfl (by decide) rfl (Nat.le_of_ble_eq_true rfl) rfl rfl (fun v g q3 => ?_)
  obtain ⟨rfl, i4, li4, rfl, hk⟩ := kQ_of hk q3
  have hk : kp bb i i l (B) i4 li4 := hk
  show mX m_L_isHeld 9 _ 2 44 _ _ [vI (B.1 4)] _
  refine x_istore_n 7 (L' := [some (vR (some (ob bb))), some (vI (B.1 11)), some (vI (B.1 4)), none, none, none, none, none, none, none, none, none]) rfl (by decide) rfl rfl ?_
  refine x_iload_n 8 rfl rfl ?_
  refine x_if_eq 9 (tgt := 22) rfl (by decide) (by omega) (fun h5 => ?_) (fun h5 => ?_)
  · refine x_aload_n 13 rfl rfl ?_
    refine x_callV 14 m_X8_hold (c_b_hold hk.1 hB) rfl ok_X8_hold b_lt0 k_0 rfl rfl ml_L_41 im_X8_hold se_X8_hold rfl (by decide) rfl (Nat.le_of_ble_eq_true rfl) rfl rfl (fun v g q6 => ?_)
    obtain ⟨rfl, i7, li7, rfl, hk⟩ := kQ_of hk q6
    have hk : kp bb i i l ((on spHold B).2) i7 li7 := hk
    have hB : okT ((on spHold B).2) := ok_hold hB
    obtain ⟨B_23, hB_23⟩ : ∃ b, b = (on spHold B).2 := ⟨_, rfl⟩
    rw [← hB_23] at hk hB
    show mX m_L_isHeld 9 _ 2 44 _ _ [vI ((on spHold B).1)] _
    refine x_eqS (S' := [vI ((if B.1 11 = 0 then (-2) else (-3)))]) (by rw [(hold_no (B := B) (by omega)).2]) ?_
    refine x_iload_n 15 rfl rfl ?_
    refine x_if_ne 16 (tgt := 35) rfl (by decide) (by omega) (fun h8 => absurd h8 (by omega)) (fun h8 => ?_)
    refine x_bipush 17 rfl (by decide) ?_
    refine x_goto 18 (tgt := 37) rfl (by decide) ?_
    refine x_icmp_ne 20 (tgt := 44) rfl (by decide) (by omega) (fun h9 => by exfalso; omega) (fun h9 => ?_)
    refine x_iconst 21 rfl ?_
    refine x_goto 22 (tgt := 45) rfl (by decide) ?_
    refine x_ret 24 (some (vI (1))) rfl ⟨rfl, Or.inr ⟨rfl, by omega⟩⟩ ?_
    have hno := hold_no (B := B) (by omega)
    exact kp_h hk he (by rw [hB_23, hno.1]; exact hB0) (by rw [hB_23, hno.1]; exact alk_rf B) (fun _ _ _ => rfl)
  · refine x_iload_n 10 rfl rfl ?_
    refine x_bipush 11 rfl (by decide) ?_
    refine x_icmp_ne 12 (tgt := 46) rfl (by decide) (by omega) (fun h10 => ?_) (fun h10 => ?_)
    · have h0_ : B.1 11 ≠ 0 := by omega
      have h1_ : B.1 4 < 40 := by omega
      refine x_bipush 25 rfl (by decide) ?_
      obtain ⟨iD, hiD⟩ : ∃ f, f = (fun (a : Nat) (b : Int) => if a = 378 + nn then (0 : Int) else i4 a b) := ⟨_, rfl⟩
      obtain ⟨lD, hlD⟩ : ∃ f, f = (fun (a : Nat) (b : Int) => if a = 378 + nn then 0#64 else li4 a b) := ⟨_, rfl⟩
      obtain ⟨AD, hAD⟩ : ∃ f, f = (fun (a : Nat) (b : Int) => if a = 378 + nn then (0 : Int) else i a b) := ⟨_, rfl⟩
      obtain ⟨bD, hbD⟩ : ∃ f, f = (fun (a : Nat) (b : Int) => if a = 378 + nn then 0#64 else l a b) := ⟨_, rfl⟩
      refine x_newa 26 (t := 0) (n := 40) (cb' := 1) (sb' := 4) rfl rfl (by decide) ac_int rfl (by decide) rfl rfl (g' := st (nn + 1) iD lD) (sNew_st hkD hiD hlD) ?_
      show mX m_L_isHeld 9 _ 1 4 _ _ [vR (some (378 + nn))] _
      have hk : kp bb AD i bD B iD lD := by rw [hiD, hlD, hAD, hbD]; exact kp_new hk hB (by omega)
      refine x_astore_n 27 (L' := [some (vR (some (ob bb))), some (vI (B.1 11)), some (vI (B.1 4)), some (vR (some (378 + nn))), none, none, none, none, none, none, none, none]) rfl (by decide) rfl rfl ?_
      refine x_iconst 28 rfl ?_
      obtain ⟨iE, hiE⟩ : ∃ f, f = (fun (a : Nat) (b : Int) => if a = 378 + (nn + 1) then (0 : Int) else iD a b) := ⟨_, rfl⟩
      obtain ⟨lE, hlE⟩ : ∃ f, f = (fun (a : Nat) (b : Int) => if a = 378 + (nn + 1) then 0#64 else lD a b) := ⟨_, rfl⟩
      obtain ⟨AE, hAE⟩ : ∃ f, f = (fun (a : Nat) (b : Int) => if a = 378 + (nn + 1) then (0 : Int) else AD a b) := ⟨_, rfl⟩
      obtain ⟨bE, hbE⟩ : ∃ f, f = (fun (a : Nat) (b : Int) => if a = 378 + (nn + 1) then 0#64 else bD a b) := ⟨_, rfl⟩
      refine x_newa 29 (t := 0) (n := 4) (cb' := 0) (sb' := 0) rfl rfl (by decide) ac_int rfl (by decide) rfl rfl (g' := st (nn + 2) iE lE) (sNew_st hkE hiE hlE) ?_
      show mX m_L_isHeld 9 _ 0 0 _ _ [vR (some (378 + (nn + 1)))] _
      have hk : kp bb AE i bE B iE lE := by rw [hiE, hlE, hAE, hbE]; exact kp_new hk hB (by omega)
      refine x_astore 30 (L' := [some (vR (some (ob bb))), some (vI (B.1 11)), some (vI (B.1 4)), some (vR (some (378 + nn))), some (vR (some (378 + (nn + 1)))), none, none, none, none, none, none, none]) rfl (by decide) rfl rfl ?_
      refine x_iconst 31 rfl ?_
      refine x_istore 32 (L' := [some (vR (some (ob bb))), some (vI (B.1 11)), some (vI (B.1 4)), some (vR (some (378 + nn))), some (vR (some (378 + (nn + 1)))), some (vI (0)), none, none, none, none, none, none]) rfl (by decide) rfl rfl ?_
      refine x_iconst 33 rfl ?_
      refine x_istore 34 (L' := [some (vR (some (ob bb))), some (vI (B.1 11)), some (vI (B.1 4)), some (vR (some (378 + nn))), some (vR (some (378 + (nn + 1)))), some (vI (0)), some (vI (0)), none, none, none, none, none]) rfl (by decide) rfl rfl ?_
      refine x_iconst 35 rfl ?_
      refine x_istore 36 (L' := [some (vR (some (ob bb))), some (vI (B.1 11)), some (vI (B.1 4)), some (vR (some (378 + nn))), some (vR (some (378 + (nn + 1)))), some (vI (0)), some (vI (0)), some (vI (0)), none, none, none, none]) rfl (by decide) rfl rfl ?_
      obtain ⟨fg, hfg⟩ : ∃ f : Int → Int, f = fun p => if plS B.1 p = -9 then 0 else 1 := ⟨_, rfl⟩
      have loopL11 : ∀ (nz : Nat) (ii : Nat → Int → Int) (AA : Nat → Int → Int) (ll : Nat → Int → BitVec 64) (p : Int) (so : Int), (0 ≤ p ∧ p ≤ 4) → (∀ q, 0 ≤ q → q < p → AA (378 + (nn + 1)) q = plS B.1 q) → (so = sumZ fg p ∧ 0 ≤ so ∧ so ≤ p) → (kp bb AA i bE B ii ll) → (4 - p) < (nz : Int) → mX m_L_isHeld 9 (qH bb i l B) 0 0 65 [some (vR (some (ob bb))), some (vI (B.1 11)), some (vI (B.1 4)), some (vR (some (378 + nn))), some (vR (some (378 + (nn + 1)))), some (vI (so)), some (vI (0)), some (vI (p)), none, none, none, none] [] (st (nn + 2) ii ll) := by
        intro nz
        induction nz with
        | zero => intro ii AA ll p so hp hE hso hk hz; exact absurd hz (by omega)
        | succ nz ihL11 =>
          intro ii AA ll p so hp hE hso hk hzL11
          refine x_iload 37 rfl rfl ?_
          refine x_iconst 38 rfl ?_
          refine x_icmp_ge 39 (tgt := 108) rfl (by decide) (by omega) (fun h12 => ?_) (fun h12 => ?_)
          · refine x_iconst 59 rfl ?_
            refine x_istore 60 (L' := [some (vR (some (ob bb))), some (vI (B.1 11)), some (vI (B.1 4)), some (vR (some (378 + nn))), some (vR (some (378 + (nn + 1)))), some (vI (so)), some (vI (0)), some (vI (0)), none, none, none, none]) rfl (by decide) rfl rfl ?_
            obtain ⟨fs, hfs⟩ : ∃ f : Int → Int, f = fun k => if (plT B.1).1 k = -9 then 0 else 1 := ⟨_, rfl⟩
            obtain rfl : p = 4 := by omega
            have hsg : so = sgW B.1 := by rw [hso.1, hfg]; rfl
            have loopL13 : ∀ (nz : Nat) (ii2 : Nat → Int → Int) (A2 : Nat → Int → Int) (ll2 : Nat → Int → BitVec 64) (k : Int) (sn : Int), (0 ≤ k ∧ k ≤ B.1 11) → (∀ q, 0 ≤ q → q < 4 → A2 (378 + (nn + 1)) q = plS B.1 q) → (∀ j, 0 ≤ j → j < k → A2 (378 + nn) (3 * j) = (plT B.1).1 j ∧ A2 (378 + nn) (3 * j + 1) = sV B.1 j 6 ∧ A2 (378 + nn) (3 * j + 2) = sV B.1 j 4) → (sn = sumZ fs k ∧ 0 ≤ sn ∧ sn ≤ k) → (kp bb A2 i bE B ii2 ll2) → (B.1 11 - k) < (nz : Int) → mX m_L_isHeld 9 (qH bb i l B) 0 0 111 [some (vR (some (ob bb))), some (vI (B.1 11)), some (vI (B.1 4)), some (vR (some (378 + nn))), some (vR (some (378 + (nn + 1)))), some (vI (so)), some (vI (sn)), some (vI (k)), none, none, none, none] [] (st (nn + 2) ii2 ll2) := by
              intro nz
              induction nz with
              | zero => intro ii2 A2 ll2 k sn hx hE2 hD hsn hk hz; exact absurd hz (by omega)
              | succ nz ihL13 =>
                intro ii2 A2 ll2 k sn hx hE2 hD hsn hk hzL13
                refine x_iload 61 rfl rfl ?_
                refine x_iload_n 62 rfl rfl ?_
                refine x_icmp_ge 63 (tgt := 361) rfl (by decide) (by omega) (fun h14 => ?_) (fun h14 => ?_)
                · have hke : k = B.1 11 := by omega
                  have hsi : sn = siW B.1 := by rw [hsn.1, hfs, hke]; rfl
                  refine x_aload_n 202 rfl rfl ?_
                  refine x_iconst 203 rfl ?_
                  refine x_callV 204 m_X8_told (c_b_told hk.1 hB (by omega)) rfl ok_X8_told b_lt0 k_0 rfl rfl ml_L_32 im_X8_told se_X8_told rfl (by decide) rfl (Nat.le_of_ble_eq_true rfl) rfl rfl (fun v g q15 => ?_)
                  obtain ⟨rfl, i16, li16, rfl, hk⟩ := kQ_of hk q15
                  have hk : kp bb A2 i bE (B) i16 li16 := hk
                  show mX m_L_isHeld 9 _ 0 0 _ _ [vI (B.1 9)] _
                  refine x_istore 205 (L' := [some (vR (some (ob bb))), some (vI (B.1 11)), some (vI (B.1 4)), some (vR (some (378 + nn))), some (vR (some (378 + (nn + 1)))), some (vI (so)), some (vI (sn)), some (vI (B.1 9)), none, none, none, none]) rfl (by decide) rfl rfl ?_
                  refine x_aload_n 206 rfl rfl ?_
                  refine x_bipush 207 rfl (by decide) ?_
                  refine x_callV 208 m_X8_told (c_b_told hk.1 hB (by omega)) rfl ok_X8_told b_lt0 k_0 rfl rfl ml_L_32 im_X8_told se_X8_told rfl (by decide) rfl (Nat.le_of_ble_eq_true rfl) rfl rfl (fun v g q17 => ?_)
                  obtain ⟨rfl, i18, li18, rfl, hk⟩ := kQ_of hk q17
                  have hk : kp bb A2 i bE (B) i18 li18 := hk
                  show mX m_L_isHeld 9 _ 0 0 _ _ [vI (B.1 10)] _
                  refine x_istore 209 (L' := [some (vR (some (ob bb))), some (vI (B.1 11)), some (vI (B.1 4)), some (vR (some (378 + nn))), some (vR (some (378 + (nn + 1)))), some (vI (so)), some (vI (sn)), some (vI (B.1 9)), some (vI (B.1 10)), none, none, none]) rfl (by decide) rfl rfl ?_
                  refine x_aload_n 210 rfl rfl ?_
                  refine x_callV 211 m_X8_hold (c_b_hold hk.1 hB) rfl ok_X8_hold b_lt0 k_0 rfl rfl ml_L_41 im_X8_hold se_X8_hold rfl (by decide) rfl (Nat.le_of_ble_eq_true rfl) rfl rfl (fun v g q19 => ?_)
                  obtain ⟨rfl, i20, li20, rfl, hk⟩ := kQ_of hk q19
                  have hk : kp bb A2 i bE ((on spHold B).2) i20 li20 := hk
                  have hB : okT ((on spHold B).2) := ok_hold hB
                  obtain ⟨B_377, hB_377⟩ : ∃ b, b = (on spHold B).2 := ⟨_, rfl⟩
                  rw [← hB_377] at hk hB
                  show mX m_L_isHeld 9 _ 0 0 _ _ [vI ((on spHold B).1)] _
                  refine x_eqS (S' := [vI (sgW B.1)]) (by rw [(hold_v h0_ h1_).1]) ?_
                  have hW1 : B_377.1 = hoW B.1 := by rw [hB_377]; exact (hold_v h0_ h1_).2
                  have hN1 := ho_n hW
                  rw [← hW1] at hN1
                  have hab1 : gAbs B_377.1 = 0 := by rw [hW1]; exact ho_abs hW
                  refine x_iload 212 rfl rfl ?_
                  refine x_icmp_ne 213 (tgt := 435) rfl (by decide) (by omega) (fun h21 => by exfalso; omega) (fun h21 => ?_)
                  refine x_aload_n 214 rfl rfl ?_
                  refine x_iconst 215 rfl ?_
                  refine x_callV 216 m_X8_told (c_b_told hk.1 hB (by omega)) rfl ok_X8_told b_lt0 k_0 rfl rfl ml_L_32 im_X8_told se_X8_told rfl (by decide) rfl (Nat.le_of_ble_eq_true rfl) rfl rfl (fun v g q22 => ?_)
                  obtain ⟨rfl, i23, li23, rfl, hk⟩ := kQ_of hk q22
                  have hk : kp bb A2 i bE (B_377) i23 li23 := hk
                  show mX m_L_isHeld 9 _ 0 0 _ _ [vI (B_377.1 4)] _
                  refine x_iload_n 217 rfl rfl ?_
                  refine x_iconst 218 rfl ?_
                  refine x_iadd 219 (r := (B.1 4) + 1) rfl rfl ?_
                  refine x_icmp_ne 220 (tgt := 435) rfl (by decide) (by omega) (fun h24 => by exfalso; omega) (fun h24 => ?_)
                  refine x_aload_n 221 rfl rfl ?_
                  refine x_iconst 222 rfl ?_
                  refine x_callV 223 m_X8_told (c_b_told hk.1 hB (by omega)) rfl ok_X8_told b_lt0 k_0 rfl rfl ml_L_32 im_X8_told se_X8_told rfl (by decide) rfl (Nat.le_of_ble_eq_true rfl) rfl rfl (fun v g q25 => ?_)
                  obtain ⟨rfl, i26, li26, rfl, hk⟩ := kQ_of hk q25
                  have hk : kp bb A2 i bE (B_377) i26 li26 := hk
                  show mX m_L_isHeld 9 _ 0 0 _ _ [vI (gAbs B_377.1)] _
                  refine x_if_ne 224 (tgt := 435) rfl (by decide) (by omega) (fun h27 => by exfalso; omega) (fun h27 => ?_)
                  refine x_aload_n 225 rfl rfl ?_
                  refine x_iconst 226 rfl ?_
                  refine x_callV 227 m_X8_told (c_b_told hk.1 hB (by omega)) rfl ok_X8_told b_lt0 k_0 rfl rfl ml_L_32 im_X8_told se_X8_told rfl (by decide) rfl (Nat.le_of_ble_eq_true rfl) rfl rfl (fun v g q28 => ?_)
                  obtain ⟨rfl, i29, li29, rfl, hk⟩ := kQ_of hk q28
                  have hk : kp bb A2 i bE (B_377) i29 li29 := hk
                  show mX m_L_isHeld 9 _ 0 0 _ _ [vI (B_377.1 9)] _
                  refine x_iload 228 rfl rfl ?_
                  refine x_iload 229 rfl rfl ?_
                  refine x_iadd 230 (r := (B.1 9) + so) rfl rfl ?_
                  refine x_icmp_ne 231 (tgt := 435) rfl (by decide) (by omega) (fun h30 => by exfalso; omega) (fun h30 => ?_)
                  refine x_aload_n 232 rfl rfl ?_
                  refine x_bipush 233 rfl (by decide) ?_
                  refine x_callV 234 m_X8_told (c_b_told hk.1 hB (by omega)) rfl ok_X8_told b_lt0 k_0 rfl rfl ml_L_32 im_X8_told se_X8_told rfl (by decide) rfl (Nat.le_of_ble_eq_true rfl) rfl rfl (fun v g q31 => ?_)
                  obtain ⟨rfl, i32, li32, rfl, hk⟩ := kQ_of hk q31
                  have hk : kp bb A2 i bE (B_377) i32 li32 := hk
                  show mX m_L_isHeld 9 _ 0 0 _ _ [vI (B_377.1 10)] _
                  refine x_iload 235 rfl rfl ?_
                  refine x_iload 236 rfl rfl ?_
                  refine x_iadd 237 (r := (B.1 10) + sn) rfl rfl ?_
                  refine x_icmp_ne 238 (tgt := 435) rfl (by decide) (by omega) (fun h33 => by exfalso; omega) (fun h33 => ?_)
                  refine x_iconst 239 rfl ?_
                  refine x_goto 240 (tgt := 436) rfl (by decide) ?_
                  refine x_istore 242 (L' := [some (vR (some (ob bb))), some (vI (B.1 11)), some (vI (B.1 4)), some (vR (some (378 + nn))), some (vR (some (378 + (nn + 1)))), some (vI (so)), some (vI (sn)), some (vI (B.1 9)), some (vI (B.1 10)), some (vI (1)), none, none]) rfl (by decide) rfl rfl ?_
                  refine x_iconst 243 rfl ?_
                  refine x_istore 244 (L' := [some (vR (some (ob bb))), some (vI (B.1 11)), some (vI (B.1 4)), some (vR (some (378 + nn))), some (vR (some (378 + (nn + 1)))), some (vI (so)), some (vI (sn)), some (vI (B.1 9)), some (vI (B.1 10)), some (vI (1)), some (vI (0)), none]) rfl (by decide) rfl rfl ?_
                  have loopL34 : ∀ (nz : Nat) (ii3 : Nat → Int → Int) (ll3 : Nat → Int → BitVec 64) (u : Int), (0 ≤ u ∧ u ≤ 4) → (kp bb A2 i bE B_377 ii3 ll3) → (4 - u) < (nz : Int) → mX m_L_isHeld 9 (qH bb i l B) 0 0 441 [some (vR (some (ob bb))), some (vI (B.1 11)), some (vI (B.1 4)), some (vR (some (378 + nn))), some (vR (some (378 + (nn + 1)))), some (vI (so)), some (vI (sn)), some (vI (B.1 9)), some (vI (B.1 10)), some (vI (1)), some (vI (u)), none] [] (st (nn + 2) ii3 ll3) := by
                    intro nz
                    induction nz with
                    | zero => intro ii3 ll3 u hu hk hz; exact absurd hz (by omega)
                    | succ nz ihL34 =>
                      intro ii3 ll3 u hu hk hzL34
                      refine x_iload 245 rfl rfl ?_
                      refine x_iconst 246 rfl ?_
                      refine x_icmp_ge 247 (tgt := 503) rfl (by decide) (by omega) (fun h35 => ?_) (fun h35 => ?_)
                      · refine x_iconst 276 rfl ?_
                        refine x_istore 277 (L' := [some (vR (some (ob bb))), some (vI (B.1 11)), some (vI (B.1 4)), some (vR (some (378 + nn))), some (vR (some (378 + (nn + 1)))), some (vI (so)), some (vI (sn)), some (vI (B.1 9)), some (vI (B.1 10)), some (vI (1)), some (vI (0)), none]) rfl (by decide) rfl rfl ?_
                        have loopL36 : ∀ (nz : Nat) (ii4 : Nat → Int → Int) (ll4 : Nat → Int → BitVec 64) (x : Int), (0 ≤ x ∧ x ≤ B.1 11) → (kp bb A2 i bE B_377 ii4 ll4) → (B.1 11 - x) < (nz : Int) → mX m_L_isHeld 9 (qH bb i l B) 0 0 506 [some (vR (some (ob bb))), some (vI (B.1 11)), some (vI (B.1 4)), some (vR (some (378 + nn))), some (vR (some (378 + (nn + 1)))), some (vI (so)), some (vI (sn)), some (vI (B.1 9)), some (vI (B.1 10)), some (vI (1)), some (vI (x)), none] [] (st (nn + 2) ii4 ll4) := by
                          intro nz
                          induction nz with
                          | zero => intro ii4 ll4 x hx hk hz; exact absurd hz (by omega)
                          | succ nz ihL36 =>
                            intro ii4 ll4 x hx hk hzL36
                            refine x_iload 278 rfl rfl ?_
                            refine x_iload_n 279 rfl rfl ?_
                            refine x_icmp_ge 280 (tgt := 640) rfl (by decide) (by omega) (fun h37 => ?_) (fun h37 => ?_)
                            · have hun := undo_hold hB0 h0_ h1_
                              rw [← hB_377] at hun
                              refine x_aload_n 358 rfl rfl ?_
                              refine x_callV 359 m_X8_undo (c_b_undo hk.1 hB) rfl ok_X8_undo b_lt0 k_0 rfl rfl ml_L_61 im_X8_undo se_X8_undo rfl (by decide) rfl (Nat.le_of_ble_eq_true rfl) rfl rfl (fun v g q38 => ?_)
                              obtain ⟨rfl, i39, li39, rfl, hk⟩ := kQ_of hk q38
                              have hk : kp bb A2 i bE ((on spUndo B_377).2) i39 li39 := hk
                              have hB : okT ((on spUndo B_377).2) := ok_undo hB
                              obtain ⟨B_641, hB_641⟩ : ∃ b, b = (on spUndo B_377).2 := ⟨_, rfl⟩
                              rw [← hB_641] at hk hB
                              show mX m_L_isHeld 9 _ 0 0 _ _ [vI ((on spUndo B_377).1)] _
                              refine x_eqS (S' := [vI ((on spUndo B_377).1)]) (by rfl) ?_
                              refine x_if_lt 360 (tgt := 675) rfl (by decide) (by omega) (fun h40 => by exfalso; omega) (fun h40 => ?_)
                              have hal : alk B_641 B := by rw [hB_641]; exact hun.2.2
                              have hW3 : B_641.1 = B.1 := hal.1
                              have hN4 := congrFun hW3 4
                              refine x_iload 361 rfl rfl ?_
                              refine x_if_eq 362 (tgt := 675) rfl (by decide) (by decide) (fun h41 => absurd h41 (by decide)) (fun h41 => ?_)
                              refine x_aload_n 363 rfl rfl ?_
                              refine x_iconst 364 rfl ?_
                              refine x_callV 365 m_X8_told (c_b_told hk.1 hB (by omega)) rfl ok_X8_told b_lt0 k_0 rfl rfl ml_L_32 im_X8_told se_X8_told rfl (by decide) rfl (Nat.le_of_ble_eq_true rfl) rfl rfl (fun v g q42 => ?_)
                              obtain ⟨rfl, i43, li43, rfl, hk⟩ := kQ_of hk q42
                              have hk : kp bb A2 i bE (B_641) i43 li43 := hk
                              show mX m_L_isHeld 9 _ 0 0 _ _ [vI (B_641.1 4)] _
                              refine x_iload_n 366 rfl rfl ?_
                              refine x_icmp_ne 367 (tgt := 675) rfl (by decide) (by omega) (fun h44 => by exfalso; omega) (fun h44 => ?_)
                              refine x_aload_n 368 rfl rfl ?_
                              refine x_iload_n 369 rfl rfl ?_
                              refine x_iconst 370 rfl ?_
                              refine x_callV 371 m_X8_solo (c_b_solo hk.1 hB (by omega) (by omega)) rfl ok_X8_solo b_lt0 k_0 rfl rfl ml_L_99 im_X8_solo se_X8_solo rfl (by decide) rfl (Nat.le_of_ble_eq_true rfl) rfl rfl (fun v g q45 => ?_)
                              obtain ⟨rfl, i46, li46, rfl, hk⟩ := kQ_of hk q45
                              have hk : kp bb A2 i bE (B_641) i46 li46 := hk
                              show mX m_L_isHeld 9 _ 0 0 _ _ [vI (anSolo (B.1 4) 0 B_641.1)] _
                              refine x_eqS (S' := [vI ((-1))]) (by rw [anSo_no (by omega)]) ?_
                              refine x_iconst 372 rfl ?_
                              refine x_icmp_ne 373 (tgt := 675) rfl (by decide) (by decide) (fun h47 => absurd h47 (by decide)) (fun h47 => ?_)
                              refine x_iconst 374 rfl ?_
                              refine x_goto 375 (tgt := 676) rfl (by decide) ?_
                              refine x_ret 377 (some (vI (1))) rfl ⟨rfl, Or.inr ⟨rfl, by omega⟩⟩ ?_
                              exact kp_h hk (by omega) hB hal (fun a b h => by rw [hbE, hbD]; simp only; rw [if_neg (by omega), if_neg (by omega)])
                            · have hs1 := ho_singer hW (k := x) ⟨hx.1, by omega⟩
                              have hhs := hs_of hW (k := x) ⟨hx.1, by omega⟩
                              have hv := hW.v hx.1 (show x < B.1 11 by omega)
                              have hv2 := hv.2.2.1
                              have hv4 := hv.2.2.2.2.1
                              have hv6 := hv.2.2.2.2.2.2.1
                              have hDx := hD x hx.1 (by omega)
                              have hts := plT_sb B.1 x
                              have hto := plT_ok (W := B.1) (k := x)
                              have hhb := hsW_bd B.1 hx.1
                              refine x_aload_n 281 rfl rfl ?_
                              refine x_iload 282 rfl rfl ?_
                              refine x_iconst 283 rfl ?_
                              refine x_callV 284 m_X8_singer (c_b_singer hk.1 hB (by omega) (by omega)) rfl ok_X8_singer b_lt0 k_0 rfl rfl ml_L_70 im_X8_singer se_X8_singer rfl (by decide) rfl (Nat.le_of_ble_eq_true rfl) rfl rfl (fun v g q48 => ?_)
                              obtain ⟨rfl, i49, li49, rfl, hk⟩ := kQ_of hk q48
                              have hk : kp bb A2 i bE (B_377) i49 li49 := hk
                              show mX m_L_isHeld 9 _ 0 0 _ _ [vI (anSinger x 5 B_377.1)] _
                              refine x_eqS (S' := [vI (sV B.1 x 2)]) (by rw [anS5 (by omega) (by omega), hW1, hs1.1]) ?_
                              refine x_if_lt 285 (tgt := 541) rfl (by decide) (by omega) (fun h50 => ?_) (fun h50 => ?_)
                              · refine x_iconst 296 rfl ?_
                                refine x_istore 297 (L' := [some (vR (some (ob bb))), some (vI (B.1 11)), some (vI (B.1 4)), some (vR (some (378 + nn))), some (vR (some (378 + (nn + 1)))), some (vI (so)), some (vI (sn)), some (vI (B.1 9)), some (vI (B.1 10)), some (vI (1)), some (vI (x)), some (vI (0))]) rfl (by decide) rfl rfl ?_
                                refine x_iload 298 rfl rfl ?_
                                refine x_if_eq 299 (tgt := 631) rfl (by decide) (by decide) (fun h51 => absurd h51 (by decide)) (fun h51 => ?_)
                                refine x_aload_n 300 rfl rfl ?_
                                refine x_iload 301 rfl rfl ?_
                                refine x_bipush 302 rfl (by decide) ?_
                                refine x_callV 303 m_X8_singer (c_b_singer hk.1 hB (by omega) (by omega)) rfl ok_X8_singer b_lt0 k_0 rfl rfl ml_L_70 im_X8_singer se_X8_singer rfl (by decide) rfl (Nat.le_of_ble_eq_true rfl) rfl rfl (fun v g q52 => ?_)
                                obtain ⟨rfl, i53, li53, rfl, hk⟩ := kQ_of hk q52
                                have hk : kp bb A2 i bE (B_377) i53 li53 := hk
                                show mX m_L_isHeld 9 _ 0 0 _ _ [vI (anSinger x 9 B_377.1)] _
                                refine x_eqS (S' := [vI (sV B.1 x 6 + (if (plT B.1).1 x = -9 then 0 else 1))]) (by rw [anS9 (by omega) (by omega), hW1, hs1.2.2.1]) ?_
                                refine x_aload_n 304 rfl rfl ?_
                                refine x_iconst 305 rfl ?_
                                refine x_iload 306 rfl rfl ?_
                                refine x_imul 307 (r := 3 * x) rfl rfl ?_
                                refine x_iald 308 (z := A2 (378 + nn) (3 * x)) rfl (by show 378 + nn < 378 + (nn + 2); omega) hkD (by omega) (hk.2.1 _ _ (by omega)) ?_
                                refine x_if_ge 309 (tgt := 577) rfl (by decide) (by omega) (fun h54 => ?_) (fun h54 => ?_)
                                · refine x_aload_n 318 rfl rfl ?_
                                  refine x_iconst 319 rfl ?_
                                  refine x_iload 320 rfl rfl ?_
                                  refine x_imul 321 (r := 3 * x) rfl rfl ?_
                                  refine x_iconst 322 rfl ?_
                                  refine x_iadd 323 (r := (3 * x) + 1) rfl rfl ?_
                                  refine x_iald 324 (z := A2 (378 + nn) ((3 * x) + 1)) rfl (by show 378 + nn < 378 + (nn + 2); omega) hkD (by omega) (hk.2.1 _ _ (by omega)) ?_
                                  refine x_iconst 325 rfl ?_
                                  refine x_iadd 326 (r := (A2 (378 + nn) ((3 * x) + 1)) + 1) rfl rfl ?_
                                  refine x_icmp_ne 327 (tgt := 631) rfl (by decide) (by omega) (fun h55 => by exfalso; omega) (fun h55 => ?_)
                                  refine x_aload_n 328 rfl rfl ?_
                                  refine x_iload 329 rfl rfl ?_
                                  refine x_bipush 330 rfl (by decide) ?_
                                  refine x_callV 331 m_X8_singer (c_b_singer hk.1 hB (by omega) (by omega)) rfl ok_X8_singer b_lt0 k_0 rfl rfl ml_L_70 im_X8_singer se_X8_singer rfl (by decide) rfl (Nat.le_of_ble_eq_true rfl) rfl rfl (fun v g q56 => ?_)
                                  obtain ⟨rfl, i57, li57, rfl, hk⟩ := kQ_of hk q56
                                  have hk : kp bb A2 i bE (B_377) i57 li57 := hk
                                  show mX m_L_isHeld 9 _ 0 0 _ _ [vI (anSinger x 7 B_377.1)] _
                                  refine x_eqS (S' := [vI (sV B.1 x 4 + hsW B.1 x)]) (by rw [anS7 (by omega) (by omega), hW1, hs1.2.1]) ?_
                                  refine x_iload 332 rfl rfl ?_
                                  refine x_if_eq 333 (tgt := 616) rfl (by decide) (by decide) (fun h58 => ?_) (fun h58 => absurd h58 (by decide))
                                  refine x_aload_n 344 rfl rfl ?_
                                  refine x_iconst 345 rfl ?_
                                  refine x_iload 346 rfl rfl ?_
                                  refine x_imul 347 (r := 3 * x) rfl rfl ?_
                                  refine x_iconst 348 rfl ?_
                                  refine x_iadd 349 (r := (3 * x) + 2) rfl rfl ?_
                                  refine x_iald 350 (z := A2 (378 + nn) ((3 * x) + 2)) rfl (by show 378 + nn < 378 + (nn + 2); omega) hkD (by omega) (hk.2.1 _ _ (by omega)) ?_
                                  refine x_icmp_ne 351 (tgt := 631) rfl (by decide) (by omega) (fun h59 => by exfalso; omega) (fun h59 => ?_)
                                  refine x_iconst 352 rfl ?_
                                  refine x_goto 353 (tgt := 632) rfl (by decide) ?_
                                  refine x_istore 355 (L' := [some (vR (some (ob bb))), some (vI (B.1 11)), some (vI (B.1 4)), some (vR (some (378 + nn))), some (vR (some (378 + (nn + 1)))), some (vI (so)), some (vI (sn)), some (vI (B.1 9)), some (vI (B.1 10)), some (vI (1)), some (vI (x)), some (vI (0))]) rfl (by decide) rfl rfl ?_
                                  refine x_iinc 356 (L' := [some (vR (some (ob bb))), some (vI (B.1 11)), some (vI (B.1 4)), some (vR (some (378 + nn))), some (vR (some (378 + (nn + 1)))), some (vI (so)), some (vI (sn)), some (vI (B.1 9)), some (vI (B.1 10)), some (vI (1)), some (vI (x + 1)), some (vI (0))]) rfl (by decide) rfl rfl rfl rfl ?_
                                  refine x_goto 357 (tgt := 506) rfl (by decide) ?_
                                  refine x_dropL (L' := [some (vR (some (ob bb))), some (vI (B.1 11)), some (vI (B.1 4)), some (vR (some (378 + nn))), some (vR (some (378 + (nn + 1)))), some (vI (so)), some (vI (sn)), some (vI (B.1 9)), some (vI (B.1 10)), some (vI (1)), some (vI (x + 1)), none]) ⟨rfl, ⟨rfl, ⟨rfl, ⟨rfl, ⟨rfl, ⟨rfl, ⟨rfl, ⟨rfl, ⟨rfl, ⟨rfl, ⟨rfl, True.intro⟩⟩⟩⟩⟩⟩⟩⟩⟩⟩⟩ ?_
                                  exact ihL36 i57 li57 (x + 1) (by omega) (hk) (by omega)
                                · refine x_aload_n 310 rfl rfl ?_
                                  refine x_iconst 311 rfl ?_
                                  refine x_iload 312 rfl rfl ?_
                                  refine x_imul 313 (r := 3 * x) rfl rfl ?_
                                  refine x_iconst 314 rfl ?_
                                  refine x_iadd 315 (r := (3 * x) + 1) rfl rfl ?_
                                  refine x_iald 316 (z := A2 (378 + nn) ((3 * x) + 1)) rfl (by show 378 + nn < 378 + (nn + 2); omega) hkD (by omega) (hk.2.1 _ _ (by omega)) ?_
                                  refine x_goto 317 (tgt := 587) rfl (by decide) ?_
                                  refine x_icmp_ne 327 (tgt := 631) rfl (by decide) (by omega) (fun h60 => by exfalso; omega) (fun h60 => ?_)
                                  refine x_aload_n 328 rfl rfl ?_
                                  refine x_iload 329 rfl rfl ?_
                                  refine x_bipush 330 rfl (by decide) ?_
                                  refine x_callV 331 m_X8_singer (c_b_singer hk.1 hB (by omega) (by omega)) rfl ok_X8_singer b_lt0 k_0 rfl rfl ml_L_70 im_X8_singer se_X8_singer rfl (by decide) rfl (Nat.le_of_ble_eq_true rfl) rfl rfl (fun v g q61 => ?_)
                                  obtain ⟨rfl, i62, li62, rfl, hk⟩ := kQ_of hk q61
                                  have hk : kp bb A2 i bE (B_377) i62 li62 := hk
                                  show mX m_L_isHeld 9 _ 0 0 _ _ [vI (anSinger x 7 B_377.1)] _
                                  refine x_eqS (S' := [vI (sV B.1 x 4 + hsW B.1 x)]) (by rw [anS7 (by omega) (by omega), hW1, hs1.2.1]) ?_
                                  refine x_iload 332 rfl rfl ?_
                                  refine x_if_eq 333 (tgt := 616) rfl (by decide) (by decide) (fun h63 => ?_) (fun h63 => absurd h63 (by decide))
                                  refine x_aload_n 344 rfl rfl ?_
                                  refine x_iconst 345 rfl ?_
                                  refine x_iload 346 rfl rfl ?_
                                  refine x_imul 347 (r := 3 * x) rfl rfl ?_
                                  refine x_iconst 348 rfl ?_
                                  refine x_iadd 349 (r := (3 * x) + 2) rfl rfl ?_
                                  refine x_iald 350 (z := A2 (378 + nn) ((3 * x) + 2)) rfl (by show 378 + nn < 378 + (nn + 2); omega) hkD (by omega) (hk.2.1 _ _ (by omega)) ?_
                                  refine x_icmp_ne 351 (tgt := 631) rfl (by decide) (by omega) (fun h64 => by exfalso; omega) (fun h64 => ?_)
                                  refine x_iconst 352 rfl ?_
                                  refine x_goto 353 (tgt := 632) rfl (by decide) ?_
                                  refine x_istore 355 (L' := [some (vR (some (ob bb))), some (vI (B.1 11)), some (vI (B.1 4)), some (vR (some (378 + nn))), some (vR (some (378 + (nn + 1)))), some (vI (so)), some (vI (sn)), some (vI (B.1 9)), some (vI (B.1 10)), some (vI (1)), some (vI (x)), some (vI (0))]) rfl (by decide) rfl rfl ?_
                                  refine x_iinc 356 (L' := [some (vR (some (ob bb))), some (vI (B.1 11)), some (vI (B.1 4)), some (vR (some (378 + nn))), some (vR (some (378 + (nn + 1)))), some (vI (so)), some (vI (sn)), some (vI (B.1 9)), some (vI (B.1 10)), some (vI (1)), some (vI (x + 1)), some (vI (0))]) rfl (by decide) rfl rfl rfl rfl ?_
                                  refine x_goto 357 (tgt := 506) rfl (by decide) ?_
                                  refine x_dropL (L' := [some (vR (some (ob bb))), some (vI (B.1 11)), some (vI (B.1 4)), some (vR (some (378 + nn))), some (vR (some (378 + (nn + 1)))), some (vI (so)), some (vI (sn)), some (vI (B.1 9)), some (vI (B.1 10)), some (vI (1)), some (vI (x + 1)), none]) ⟨rfl, ⟨rfl, ⟨rfl, ⟨rfl, ⟨rfl, ⟨rfl, ⟨rfl, ⟨rfl, ⟨rfl, ⟨rfl, ⟨rfl, True.intro⟩⟩⟩⟩⟩⟩⟩⟩⟩⟩⟩ ?_
                                  exact ihL36 i62 li62 (x + 1) (by omega) (hk) (by omega)
                              · have hEp := hE2 (sV B.1 x 2) (by omega) (by omega)
                                have hplb := plS_bd B.1 (sV B.1 x 2) hN.1.1
                                refine x_aload 286 rfl rfl ?_
                                refine x_aload_n 287 rfl rfl ?_
                                refine x_iload 288 rfl rfl ?_
                                refine x_iconst 289 rfl ?_
                                refine x_callV 290 m_X8_singer (c_b_singer hk.1 hB (by omega) (by omega)) rfl ok_X8_singer b_lt0 k_0 rfl rfl ml_L_70 im_X8_singer se_X8_singer rfl (by decide) rfl (Nat.le_of_ble_eq_true rfl) rfl rfl (fun v g q65 => ?_)
                                obtain ⟨rfl, i66, li66, rfl, hk⟩ := kQ_of hk q65
                                have hk : kp bb A2 i bE (B_377) i66 li66 := hk
                                show mX m_L_isHeld 9 _ 0 0 _ _ [vI (anSinger x 5 B_377.1), vR (some (378 + (nn + 1)))] _
                                refine x_eqS (S' := [vI (sV B.1 x 2), vR (some (378 + (nn + 1)))]) (by rw [anS5 (by omega) (by omega), hW1, hs1.1]) ?_
                                refine x_iald 291 (z := A2 (378 + (nn + 1)) (sV B.1 x 2)) rfl (by show 378 + (nn + 1) < 378 + (nn + 2); omega) hkE (by omega) (hk.2.1 _ _ (by omega)) ?_
                                refine x_iload 292 rfl rfl ?_
                                refine x_icmp_ne 293 (tgt := 541) rfl (by decide) (by omega) (fun h67 => ?_) (fun h67 => ?_)
                                · refine x_iconst 296 rfl ?_
                                  refine x_istore 297 (L' := [some (vR (some (ob bb))), some (vI (B.1 11)), some (vI (B.1 4)), some (vR (some (378 + nn))), some (vR (some (378 + (nn + 1)))), some (vI (so)), some (vI (sn)), some (vI (B.1 9)), some (vI (B.1 10)), some (vI (1)), some (vI (x)), some (vI (0))]) rfl (by decide) rfl rfl ?_
                                  refine x_iload 298 rfl rfl ?_
                                  refine x_if_eq 299 (tgt := 631) rfl (by decide) (by decide) (fun h68 => absurd h68 (by decide)) (fun h68 => ?_)
                                  refine x_aload_n 300 rfl rfl ?_
                                  refine x_iload 301 rfl rfl ?_
                                  refine x_bipush 302 rfl (by decide) ?_
                                  refine x_callV 303 m_X8_singer (c_b_singer hk.1 hB (by omega) (by omega)) rfl ok_X8_singer b_lt0 k_0 rfl rfl ml_L_70 im_X8_singer se_X8_singer rfl (by decide) rfl (Nat.le_of_ble_eq_true rfl) rfl rfl (fun v g q69 => ?_)
                                  obtain ⟨rfl, i70, li70, rfl, hk⟩ := kQ_of hk q69
                                  have hk : kp bb A2 i bE (B_377) i70 li70 := hk
                                  show mX m_L_isHeld 9 _ 0 0 _ _ [vI (anSinger x 9 B_377.1)] _
                                  refine x_eqS (S' := [vI (sV B.1 x 6 + (if (plT B.1).1 x = -9 then 0 else 1))]) (by rw [anS9 (by omega) (by omega), hW1, hs1.2.2.1]) ?_
                                  refine x_aload_n 304 rfl rfl ?_
                                  refine x_iconst 305 rfl ?_
                                  refine x_iload 306 rfl rfl ?_
                                  refine x_imul 307 (r := 3 * x) rfl rfl ?_
                                  refine x_iald 308 (z := A2 (378 + nn) (3 * x)) rfl (by show 378 + nn < 378 + (nn + 2); omega) hkD (by omega) (hk.2.1 _ _ (by omega)) ?_
                                  refine x_if_ge 309 (tgt := 577) rfl (by decide) (by omega) (fun h71 => ?_) (fun h71 => ?_)
                                  · refine x_aload_n 318 rfl rfl ?_
                                    refine x_iconst 319 rfl ?_
                                    refine x_iload 320 rfl rfl ?_
                                    refine x_imul 321 (r := 3 * x) rfl rfl ?_
                                    refine x_iconst 322 rfl ?_
                                    refine x_iadd 323 (r := (3 * x) + 1) rfl rfl ?_
                                    refine x_iald 324 (z := A2 (378 + nn) ((3 * x) + 1)) rfl (by show 378 + nn < 378 + (nn + 2); omega) hkD (by omega) (hk.2.1 _ _ (by omega)) ?_
                                    refine x_iconst 325 rfl ?_
                                    refine x_iadd 326 (r := (A2 (378 + nn) ((3 * x) + 1)) + 1) rfl rfl ?_
                                    refine x_icmp_ne 327 (tgt := 631) rfl (by decide) (by omega) (fun h72 => by exfalso; omega) (fun h72 => ?_)
                                    refine x_aload_n 328 rfl rfl ?_
                                    refine x_iload 329 rfl rfl ?_
                                    refine x_bipush 330 rfl (by decide) ?_
                                    refine x_callV 331 m_X8_singer (c_b_singer hk.1 hB (by omega) (by omega)) rfl ok_X8_singer b_lt0 k_0 rfl rfl ml_L_70 im_X8_singer se_X8_singer rfl (by decide) rfl (Nat.le_of_ble_eq_true rfl) rfl rfl (fun v g q73 => ?_)
                                    obtain ⟨rfl, i74, li74, rfl, hk⟩ := kQ_of hk q73
                                    have hk : kp bb A2 i bE (B_377) i74 li74 := hk
                                    show mX m_L_isHeld 9 _ 0 0 _ _ [vI (anSinger x 7 B_377.1)] _
                                    refine x_eqS (S' := [vI (sV B.1 x 4 + hsW B.1 x)]) (by rw [anS7 (by omega) (by omega), hW1, hs1.2.1]) ?_
                                    refine x_iload 332 rfl rfl ?_
                                    refine x_if_eq 333 (tgt := 616) rfl (by decide) (by decide) (fun h75 => ?_) (fun h75 => absurd h75 (by decide))
                                    refine x_aload_n 344 rfl rfl ?_
                                    refine x_iconst 345 rfl ?_
                                    refine x_iload 346 rfl rfl ?_
                                    refine x_imul 347 (r := 3 * x) rfl rfl ?_
                                    refine x_iconst 348 rfl ?_
                                    refine x_iadd 349 (r := (3 * x) + 2) rfl rfl ?_
                                    refine x_iald 350 (z := A2 (378 + nn) ((3 * x) + 2)) rfl (by show 378 + nn < 378 + (nn + 2); omega) hkD (by omega) (hk.2.1 _ _ (by omega)) ?_
                                    refine x_icmp_ne 351 (tgt := 631) rfl (by decide) (by omega) (fun h76 => by exfalso; omega) (fun h76 => ?_)
                                    refine x_iconst 352 rfl ?_
                                    refine x_goto 353 (tgt := 632) rfl (by decide) ?_
                                    refine x_istore 355 (L' := [some (vR (some (ob bb))), some (vI (B.1 11)), some (vI (B.1 4)), some (vR (some (378 + nn))), some (vR (some (378 + (nn + 1)))), some (vI (so)), some (vI (sn)), some (vI (B.1 9)), some (vI (B.1 10)), some (vI (1)), some (vI (x)), some (vI (0))]) rfl (by decide) rfl rfl ?_
                                    refine x_iinc 356 (L' := [some (vR (some (ob bb))), some (vI (B.1 11)), some (vI (B.1 4)), some (vR (some (378 + nn))), some (vR (some (378 + (nn + 1)))), some (vI (so)), some (vI (sn)), some (vI (B.1 9)), some (vI (B.1 10)), some (vI (1)), some (vI (x + 1)), some (vI (0))]) rfl (by decide) rfl rfl rfl rfl ?_
                                    refine x_goto 357 (tgt := 506) rfl (by decide) ?_
                                    refine x_dropL (L' := [some (vR (some (ob bb))), some (vI (B.1 11)), some (vI (B.1 4)), some (vR (some (378 + nn))), some (vR (some (378 + (nn + 1)))), some (vI (so)), some (vI (sn)), some (vI (B.1 9)), some (vI (B.1 10)), some (vI (1)), some (vI (x + 1)), none]) ⟨rfl, ⟨rfl, ⟨rfl, ⟨rfl, ⟨rfl, ⟨rfl, ⟨rfl, ⟨rfl, ⟨rfl, ⟨rfl, ⟨rfl, True.intro⟩⟩⟩⟩⟩⟩⟩⟩⟩⟩⟩ ?_
                                    exact ihL36 i74 li74 (x + 1) (by omega) (hk) (by omega)
                                  · refine x_aload_n 310 rfl rfl ?_
                                    refine x_iconst 311 rfl ?_
                                    refine x_iload 312 rfl rfl ?_
                                    refine x_imul 313 (r := 3 * x) rfl rfl ?_
                                    refine x_iconst 314 rfl ?_
                                    refine x_iadd 315 (r := (3 * x) + 1) rfl rfl ?_
                                    refine x_iald 316 (z := A2 (378 + nn) ((3 * x) + 1)) rfl (by show 378 + nn < 378 + (nn + 2); omega) hkD (by omega) (hk.2.1 _ _ (by omega)) ?_
                                    refine x_goto 317 (tgt := 587) rfl (by decide) ?_
                                    refine x_icmp_ne 327 (tgt := 631) rfl (by decide) (by omega) (fun h77 => by exfalso; omega) (fun h77 => ?_)
                                    refine x_aload_n 328 rfl rfl ?_
                                    refine x_iload 329 rfl rfl ?_
                                    refine x_bipush 330 rfl (by decide) ?_
                                    refine x_callV 331 m_X8_singer (c_b_singer hk.1 hB (by omega) (by omega)) rfl ok_X8_singer b_lt0 k_0 rfl rfl ml_L_70 im_X8_singer se_X8_singer rfl (by decide) rfl (Nat.le_of_ble_eq_true rfl) rfl rfl (fun v g q78 => ?_)
                                    obtain ⟨rfl, i79, li79, rfl, hk⟩ := kQ_of hk q78
                                    have hk : kp bb A2 i bE (B_377) i79 li79 := hk
                                    show mX m_L_isHeld 9 _ 0 0 _ _ [vI (anSinger x 7 B_377.1)] _
                                    refine x_eqS (S' := [vI (sV B.1 x 4 + hsW B.1 x)]) (by rw [anS7 (by omega) (by omega), hW1, hs1.2.1]) ?_
                                    refine x_iload 332 rfl rfl ?_
                                    refine x_if_eq 333 (tgt := 616) rfl (by decide) (by decide) (fun h80 => ?_) (fun h80 => absurd h80 (by decide))
                                    refine x_aload_n 344 rfl rfl ?_
                                    refine x_iconst 345 rfl ?_
                                    refine x_iload 346 rfl rfl ?_
                                    refine x_imul 347 (r := 3 * x) rfl rfl ?_
                                    refine x_iconst 348 rfl ?_
                                    refine x_iadd 349 (r := (3 * x) + 2) rfl rfl ?_
                                    refine x_iald 350 (z := A2 (378 + nn) ((3 * x) + 2)) rfl (by show 378 + nn < 378 + (nn + 2); omega) hkD (by omega) (hk.2.1 _ _ (by omega)) ?_
                                    refine x_icmp_ne 351 (tgt := 631) rfl (by decide) (by omega) (fun h81 => by exfalso; omega) (fun h81 => ?_)
                                    refine x_iconst 352 rfl ?_
                                    refine x_goto 353 (tgt := 632) rfl (by decide) ?_
                                    refine x_istore 355 (L' := [some (vR (some (ob bb))), some (vI (B.1 11)), some (vI (B.1 4)), some (vR (some (378 + nn))), some (vR (some (378 + (nn + 1)))), some (vI (so)), some (vI (sn)), some (vI (B.1 9)), some (vI (B.1 10)), some (vI (1)), some (vI (x)), some (vI (0))]) rfl (by decide) rfl rfl ?_
                                    refine x_iinc 356 (L' := [some (vR (some (ob bb))), some (vI (B.1 11)), some (vI (B.1 4)), some (vR (some (378 + nn))), some (vR (some (378 + (nn + 1)))), some (vI (so)), some (vI (sn)), some (vI (B.1 9)), some (vI (B.1 10)), some (vI (1)), some (vI (x + 1)), some (vI (0))]) rfl (by decide) rfl rfl rfl rfl ?_
                                    refine x_goto 357 (tgt := 506) rfl (by decide) ?_
                                    refine x_dropL (L' := [some (vR (some (ob bb))), some (vI (B.1 11)), some (vI (B.1 4)), some (vR (some (378 + nn))), some (vR (some (378 + (nn + 1)))), some (vI (so)), some (vI (sn)), some (vI (B.1 9)), some (vI (B.1 10)), some (vI (1)), some (vI (x + 1)), none]) ⟨rfl, ⟨rfl, ⟨rfl, ⟨rfl, ⟨rfl, ⟨rfl, ⟨rfl, ⟨rfl, ⟨rfl, ⟨rfl, ⟨rfl, True.intro⟩⟩⟩⟩⟩⟩⟩⟩⟩⟩⟩ ?_
                                    exact ihL36 i79 li79 (x + 1) (by omega) (hk) (by omega)
                                · refine x_iconst 294 rfl ?_
                                  refine x_goto 295 (tgt := 542) rfl (by decide) ?_
                                  refine x_istore 297 (L' := [some (vR (some (ob bb))), some (vI (B.1 11)), some (vI (B.1 4)), some (vR (some (378 + nn))), some (vR (some (378 + (nn + 1)))), some (vI (so)), some (vI (sn)), some (vI (B.1 9)), some (vI (B.1 10)), some (vI (1)), some (vI (x)), some (vI (1))]) rfl (by decide) rfl rfl ?_
                                  refine x_iload 298 rfl rfl ?_
                                  refine x_if_eq 299 (tgt := 631) rfl (by decide) (by decide) (fun h82 => absurd h82 (by decide)) (fun h82 => ?_)
                                  refine x_aload_n 300 rfl rfl ?_
                                  refine x_iload 301 rfl rfl ?_
                                  refine x_bipush 302 rfl (by decide) ?_
                                  refine x_callV 303 m_X8_singer (c_b_singer hk.1 hB (by omega) (by omega)) rfl ok_X8_singer b_lt0 k_0 rfl rfl ml_L_70 im_X8_singer se_X8_singer rfl (by decide) rfl (Nat.le_of_ble_eq_true rfl) rfl rfl (fun v g q83 => ?_)
                                  obtain ⟨rfl, i84, li84, rfl, hk⟩ := kQ_of hk q83
                                  have hk : kp bb A2 i bE (B_377) i84 li84 := hk
                                  show mX m_L_isHeld 9 _ 0 0 _ _ [vI (anSinger x 9 B_377.1)] _
                                  refine x_eqS (S' := [vI (sV B.1 x 6 + (if (plT B.1).1 x = -9 then 0 else 1))]) (by rw [anS9 (by omega) (by omega), hW1, hs1.2.2.1]) ?_
                                  refine x_aload_n 304 rfl rfl ?_
                                  refine x_iconst 305 rfl ?_
                                  refine x_iload 306 rfl rfl ?_
                                  refine x_imul 307 (r := 3 * x) rfl rfl ?_
                                  refine x_iald 308 (z := A2 (378 + nn) (3 * x)) rfl (by show 378 + nn < 378 + (nn + 2); omega) hkD (by omega) (hk.2.1 _ _ (by omega)) ?_
                                  refine x_if_ge 309 (tgt := 577) rfl (by decide) (by omega) (fun h85 => ?_) (fun h85 => ?_)
                                  · refine x_aload_n 318 rfl rfl ?_
                                    refine x_iconst 319 rfl ?_
                                    refine x_iload 320 rfl rfl ?_
                                    refine x_imul 321 (r := 3 * x) rfl rfl ?_
                                    refine x_iconst 322 rfl ?_
                                    refine x_iadd 323 (r := (3 * x) + 1) rfl rfl ?_
                                    refine x_iald 324 (z := A2 (378 + nn) ((3 * x) + 1)) rfl (by show 378 + nn < 378 + (nn + 2); omega) hkD (by omega) (hk.2.1 _ _ (by omega)) ?_
                                    refine x_iconst 325 rfl ?_
                                    refine x_iadd 326 (r := (A2 (378 + nn) ((3 * x) + 1)) + 1) rfl rfl ?_
                                    refine x_icmp_ne 327 (tgt := 631) rfl (by decide) (by omega) (fun h86 => by exfalso; omega) (fun h86 => ?_)
                                    refine x_aload_n 328 rfl rfl ?_
                                    refine x_iload 329 rfl rfl ?_
                                    refine x_bipush 330 rfl (by decide) ?_
                                    refine x_callV 331 m_X8_singer (c_b_singer hk.1 hB (by omega) (by omega)) rfl ok_X8_singer b_lt0 k_0 rfl rfl ml_L_70 im_X8_singer se_X8_singer rfl (by decide) rfl (Nat.le_of_ble_eq_true rfl) rfl rfl (fun v g q87 => ?_)
                                    obtain ⟨rfl, i88, li88, rfl, hk⟩ := kQ_of hk q87
                                    have hk : kp bb A2 i bE (B_377) i88 li88 := hk
                                    show mX m_L_isHeld 9 _ 0 0 _ _ [vI (anSinger x 7 B_377.1)] _
                                    refine x_eqS (S' := [vI (sV B.1 x 4 + hsW B.1 x)]) (by rw [anS7 (by omega) (by omega), hW1, hs1.2.1]) ?_
                                    refine x_iload 332 rfl rfl ?_
                                    refine x_if_eq 333 (tgt := 616) rfl (by decide) (by decide) (fun h89 => absurd h89 (by decide)) (fun h89 => ?_)
                                    refine x_aload_n 334 rfl rfl ?_
                                    refine x_iconst 335 rfl ?_
                                    refine x_iload 336 rfl rfl ?_
                                    refine x_imul 337 (r := 3 * x) rfl rfl ?_
                                    refine x_iconst 338 rfl ?_
                                    refine x_iadd 339 (r := (3 * x) + 2) rfl rfl ?_
                                    refine x_iald 340 (z := A2 (378 + nn) ((3 * x) + 2)) rfl (by show 378 + nn < 378 + (nn + 2); omega) hkD (by omega) (hk.2.1 _ _ (by omega)) ?_
                                    refine x_iconst 341 rfl ?_
                                    refine x_iadd 342 (r := (A2 (378 + nn) ((3 * x) + 2)) + 1) rfl rfl ?_
                                    refine x_goto 343 (tgt := 624) rfl (by decide) ?_
                                    refine x_icmp_ne 351 (tgt := 631) rfl (by decide) (by omega) (fun h90 => by exfalso; omega) (fun h90 => ?_)
                                    refine x_iconst 352 rfl ?_
                                    refine x_goto 353 (tgt := 632) rfl (by decide) ?_
                                    refine x_istore 355 (L' := [some (vR (some (ob bb))), some (vI (B.1 11)), some (vI (B.1 4)), some (vR (some (378 + nn))), some (vR (some (378 + (nn + 1)))), some (vI (so)), some (vI (sn)), some (vI (B.1 9)), some (vI (B.1 10)), some (vI (1)), some (vI (x)), some (vI (1))]) rfl (by decide) rfl rfl ?_
                                    refine x_iinc 356 (L' := [some (vR (some (ob bb))), some (vI (B.1 11)), some (vI (B.1 4)), some (vR (some (378 + nn))), some (vR (some (378 + (nn + 1)))), some (vI (so)), some (vI (sn)), some (vI (B.1 9)), some (vI (B.1 10)), some (vI (1)), some (vI (x + 1)), some (vI (1))]) rfl (by decide) rfl rfl rfl rfl ?_
                                    refine x_goto 357 (tgt := 506) rfl (by decide) ?_
                                    refine x_dropL (L' := [some (vR (some (ob bb))), some (vI (B.1 11)), some (vI (B.1 4)), some (vR (some (378 + nn))), some (vR (some (378 + (nn + 1)))), some (vI (so)), some (vI (sn)), some (vI (B.1 9)), some (vI (B.1 10)), some (vI (1)), some (vI (x + 1)), none]) ⟨rfl, ⟨rfl, ⟨rfl, ⟨rfl, ⟨rfl, ⟨rfl, ⟨rfl, ⟨rfl, ⟨rfl, ⟨rfl, ⟨rfl, True.intro⟩⟩⟩⟩⟩⟩⟩⟩⟩⟩⟩ ?_
                                    exact ihL36 i88 li88 (x + 1) (by omega) (hk) (by omega)
                                  · refine x_aload_n 310 rfl rfl ?_
                                    refine x_iconst 311 rfl ?_
                                    refine x_iload 312 rfl rfl ?_
                                    refine x_imul 313 (r := 3 * x) rfl rfl ?_
                                    refine x_iconst 314 rfl ?_
                                    refine x_iadd 315 (r := (3 * x) + 1) rfl rfl ?_
                                    refine x_iald 316 (z := A2 (378 + nn) ((3 * x) + 1)) rfl (by show 378 + nn < 378 + (nn + 2); omega) hkD (by omega) (hk.2.1 _ _ (by omega)) ?_
                                    refine x_goto 317 (tgt := 587) rfl (by decide) ?_
                                    refine x_icmp_ne 327 (tgt := 631) rfl (by decide) (by omega) (fun h91 => by exfalso; omega) (fun h91 => ?_)
                                    refine x_aload_n 328 rfl rfl ?_
                                    refine x_iload 329 rfl rfl ?_
                                    refine x_bipush 330 rfl (by decide) ?_
                                    refine x_callV 331 m_X8_singer (c_b_singer hk.1 hB (by omega) (by omega)) rfl ok_X8_singer b_lt0 k_0 rfl rfl ml_L_70 im_X8_singer se_X8_singer rfl (by decide) rfl (Nat.le_of_ble_eq_true rfl) rfl rfl (fun v g q92 => ?_)
                                    obtain ⟨rfl, i93, li93, rfl, hk⟩ := kQ_of hk q92
                                    have hk : kp bb A2 i bE (B_377) i93 li93 := hk
                                    show mX m_L_isHeld 9 _ 0 0 _ _ [vI (anSinger x 7 B_377.1)] _
                                    refine x_eqS (S' := [vI (sV B.1 x 4 + hsW B.1 x)]) (by rw [anS7 (by omega) (by omega), hW1, hs1.2.1]) ?_
                                    refine x_iload 332 rfl rfl ?_
                                    refine x_if_eq 333 (tgt := 616) rfl (by decide) (by decide) (fun h94 => absurd h94 (by decide)) (fun h94 => ?_)
                                    refine x_aload_n 334 rfl rfl ?_
                                    refine x_iconst 335 rfl ?_
                                    refine x_iload 336 rfl rfl ?_
                                    refine x_imul 337 (r := 3 * x) rfl rfl ?_
                                    refine x_iconst 338 rfl ?_
                                    refine x_iadd 339 (r := (3 * x) + 2) rfl rfl ?_
                                    refine x_iald 340 (z := A2 (378 + nn) ((3 * x) + 2)) rfl (by show 378 + nn < 378 + (nn + 2); omega) hkD (by omega) (hk.2.1 _ _ (by omega)) ?_
                                    refine x_iconst 341 rfl ?_
                                    refine x_iadd 342 (r := (A2 (378 + nn) ((3 * x) + 2)) + 1) rfl rfl ?_
                                    refine x_goto 343 (tgt := 624) rfl (by decide) ?_
                                    refine x_icmp_ne 351 (tgt := 631) rfl (by decide) (by omega) (fun h95 => by exfalso; omega) (fun h95 => ?_)
                                    refine x_iconst 352 rfl ?_
                                    refine x_goto 353 (tgt := 632) rfl (by decide) ?_
                                    refine x_istore 355 (L' := [some (vR (some (ob bb))), some (vI (B.1 11)), some (vI (B.1 4)), some (vR (some (378 + nn))), some (vR (some (378 + (nn + 1)))), some (vI (so)), some (vI (sn)), some (vI (B.1 9)), some (vI (B.1 10)), some (vI (1)), some (vI (x)), some (vI (1))]) rfl (by decide) rfl rfl ?_
                                    refine x_iinc 356 (L' := [some (vR (some (ob bb))), some (vI (B.1 11)), some (vI (B.1 4)), some (vR (some (378 + nn))), some (vR (some (378 + (nn + 1)))), some (vI (so)), some (vI (sn)), some (vI (B.1 9)), some (vI (B.1 10)), some (vI (1)), some (vI (x + 1)), some (vI (1))]) rfl (by decide) rfl rfl rfl rfl ?_
                                    refine x_goto 357 (tgt := 506) rfl (by decide) ?_
                                    refine x_dropL (L' := [some (vR (some (ob bb))), some (vI (B.1 11)), some (vI (B.1 4)), some (vR (some (378 + nn))), some (vR (some (378 + (nn + 1)))), some (vI (so)), some (vI (sn)), some (vI (B.1 9)), some (vI (B.1 10)), some (vI (1)), some (vI (x + 1)), none]) ⟨rfl, ⟨rfl, ⟨rfl, ⟨rfl, ⟨rfl, ⟨rfl, ⟨rfl, ⟨rfl, ⟨rfl, ⟨rfl, ⟨rfl, True.intro⟩⟩⟩⟩⟩⟩⟩⟩⟩⟩⟩ ?_
                                    exact ihL36 i93 li93 (x + 1) (by omega) (hk) (by omega)
                        exact loopL36 ((B.1 11 - ((0))) + 1 : Int).toNat ii3 ll3 (0) (by omega) (hk) (by omega)
                      · have hpb := plS_bd B.1 u hN.1.1
                        have hEp := hE2 u (by omega) (by omega)
                        have hN3 := hB.1.n
                        refine x_iload 248 rfl rfl ?_
                        refine x_if_eq 249 (tgt := 494) rfl (by decide) (by decide) (fun h96 => absurd h96 (by decide)) (fun h96 => ?_)
                        refine x_aload_n 250 rfl rfl ?_
                        refine x_iload_n 251 rfl rfl ?_
                        refine x_iload 252 rfl rfl ?_
                        refine x_callV 253 m_X8_solo (c_b_solo hk.1 hB (by omega) (by omega)) rfl ok_X8_solo b_lt0 k_0 rfl rfl ml_L_99 im_X8_solo se_X8_solo rfl (by decide) rfl (Nat.le_of_ble_eq_true rfl) rfl rfl (fun v g q97 => ?_)
                        obtain ⟨rfl, i98, li98, rfl, hk⟩ := kQ_of hk q97
                        have hk : kp bb A2 i bE (B_377) i98 li98 := hk
                        show mX m_L_isHeld 9 _ 0 0 _ _ [vI (anSolo (B.1 4) u B_377.1)] _
                        refine x_eqS (S' := [vI (plS B.1 u)]) (by rw [hW1, ho_solo hW (by omega)]) ?_
                        refine x_aload 254 rfl rfl ?_
                        refine x_iload 255 rfl rfl ?_
                        refine x_iald 256 (z := A2 (378 + (nn + 1)) u) rfl (by show 378 + (nn + 1) < 378 + (nn + 2); omega) hkE (by omega) (hk.2.1 _ _ (by omega)) ?_
                        refine x_icmp_ne 257 (tgt := 494) rfl (by decide) (by omega) (fun h99 => by exfalso; omega) (fun h99 => ?_)
                        refine x_aload 258 rfl rfl ?_
                        refine x_iload 259 rfl rfl ?_
                        refine x_iald 260 (z := A2 (378 + (nn + 1)) u) rfl (by show 378 + (nn + 1) < 378 + (nn + 2); omega) hkE (by omega) (hk.2.1 _ _ (by omega)) ?_
                        refine x_if_lt 261 (tgt := 490) rfl (by decide) (by omega) (fun h100 => ?_) (fun h100 => ?_)
                        · refine x_iconst 270 rfl ?_
                          refine x_goto 271 (tgt := 495) rfl (by decide) ?_
                          refine x_istore 273 (L' := [some (vR (some (ob bb))), some (vI (B.1 11)), some (vI (B.1 4)), some (vR (some (378 + nn))), some (vR (some (378 + (nn + 1)))), some (vI (so)), some (vI (sn)), some (vI (B.1 9)), some (vI (B.1 10)), some (vI (1)), some (vI (u)), none]) rfl (by decide) rfl rfl ?_
                          refine x_iinc 274 (L' := [some (vR (some (ob bb))), some (vI (B.1 11)), some (vI (B.1 4)), some (vR (some (378 + nn))), some (vR (some (378 + (nn + 1)))), some (vI (so)), some (vI (sn)), some (vI (B.1 9)), some (vI (B.1 10)), some (vI (1)), some (vI (u + 1)), none]) rfl (by decide) rfl rfl rfl rfl ?_
                          refine x_goto 275 (tgt := 441) rfl (by decide) ?_
                          exact ihL34 i98 li98 (u + 1) (by omega) (hk) (by omega)
                        · refine x_aload_n 262 rfl rfl ?_
                          refine x_aload 263 rfl rfl ?_
                          refine x_iload 264 rfl rfl ?_
                          refine x_iald 265 (z := A2 (378 + (nn + 1)) u) rfl (by show 378 + (nn + 1) < 378 + (nn + 2); omega) hkE (by omega) (hk.2.1 _ _ (by omega)) ?_
                          refine x_bipush 266 rfl (by decide) ?_
                          refine x_callV 267 m_X8_singer (c_b_singer hk.1 hB (by omega) (by omega)) rfl ok_X8_singer b_lt0 k_0 rfl rfl ml_L_70 im_X8_singer se_X8_singer rfl (by decide) rfl (Nat.le_of_ble_eq_true rfl) rfl rfl (fun v g q101 => ?_)
                          obtain ⟨rfl, i102, li102, rfl, hk⟩ := kQ_of hk q101
                          have hk : kp bb A2 i bE (B_377) i102 li102 := hk
                          show mX m_L_isHeld 9 _ 0 0 _ _ [vI (anSinger (A2 (378 + (nn + 1)) u) 8 B_377.1)] _
                          refine x_eqS (S' := [vI (B.1 4)]) (by rw [hE2 u (by omega) (by omega), anS8 (by omega) (by omega), hW1, ho_latest hW (by omega) (by omega)]) ?_
                          refine x_iload_n 268 rfl rfl ?_
                          refine x_icmp_ne 269 (tgt := 494) rfl (by decide) (by omega) (fun h103 => by exfalso; omega) (fun h103 => ?_)
                          refine x_iconst 270 rfl ?_
                          refine x_goto 271 (tgt := 495) rfl (by decide) ?_
                          refine x_istore 273 (L' := [some (vR (some (ob bb))), some (vI (B.1 11)), some (vI (B.1 4)), some (vR (some (378 + nn))), some (vR (some (378 + (nn + 1)))), some (vI (so)), some (vI (sn)), some (vI (B.1 9)), some (vI (B.1 10)), some (vI (1)), some (vI (u)), none]) rfl (by decide) rfl rfl ?_
                          refine x_iinc 274 (L' := [some (vR (some (ob bb))), some (vI (B.1 11)), some (vI (B.1 4)), some (vR (some (378 + nn))), some (vR (some (378 + (nn + 1)))), some (vI (so)), some (vI (sn)), some (vI (B.1 9)), some (vI (B.1 10)), some (vI (1)), some (vI (u + 1)), none]) rfl (by decide) rfl rfl rfl rfl ?_
                          refine x_goto 275 (tgt := 441) rfl (by decide) ?_
                          exact ihL34 i102 li102 (u + 1) (by omega) (hk) (by omega)
                  exact loopL34 ((4 - ((0))) + 1 : Int).toNat i32 li32 (0) (by omega) (hk) (by omega)
                · have hv := hW.v hx.1 (show k < B.1 11 by omega)
                  have hv2 := hv.2.2.1
                  have hv3 := hv.2.2.2.1
                  have hv4 := hv.2.2.2.2.1
                  have hv6 := hv.2.2.2.2.2.2.1
                  obtain ⟨hw05, hw1, hw0, hw2, hw3⟩ := an_passed hW (y := k) (by omega)
                  have hts := plT_sb B.1 k
                  have hto := plT_ok (W := B.1) (k := k)
                  have hwm := hW.2.2.2.2 k hx.1 (by omega)
                  refine x_aload_n 64 rfl rfl ?_
                  refine x_iload 65 rfl rfl ?_
                  refine x_callV 66 m_X8_passedOver (c_b_passedOver hk.1 hB (by omega)) rfl ok_X8_passedOver b_lt0 k_0 rfl rfl ml_L_93 im_X8_passedOver se_X8_passedOver rfl (by decide) rfl (Nat.le_of_ble_eq_true rfl) rfl rfl (fun v g q104 => ?_)
                  obtain ⟨rfl, i105, li105, rfl, hk⟩ := kQ_of hk q104
                  have hk : kp bb A2 i bE (B) i105 li105 := hk
                  show mX m_L_isHeld 9 _ 0 0 _ _ [vI (anPassed k B.1)] _
                  refine x_istore 67 (L' := [some (vR (some (ob bb))), some (vI (B.1 11)), some (vI (B.1 4)), some (vR (some (378 + nn))), some (vR (some (378 + (nn + 1)))), some (vI (so)), some (vI (sn)), some (vI (k)), some (vI (anPassed k B.1)), none, none, none]) rfl (by decide) rfl rfl ?_
                  refine x_aload_n 68 rfl rfl ?_
                  refine x_iload 69 rfl rfl ?_
                  refine x_iconst 70 rfl ?_
                  refine x_callV 71 m_X8_singer (c_b_singer hk.1 hB (by omega) (by omega)) rfl ok_X8_singer b_lt0 k_0 rfl rfl ml_L_70 im_X8_singer se_X8_singer rfl (by decide) rfl (Nat.le_of_ble_eq_true rfl) rfl rfl (fun v g q106 => ?_)
                  obtain ⟨rfl, i107, li107, rfl, hk⟩ := kQ_of hk q106
                  have hk : kp bb A2 i bE (B) i107 li107 := hk
                  show mX m_L_isHeld 9 _ 0 0 _ _ [vI (anSinger k 5 B.1)] _
                  refine x_eqS (S' := [vI (sV B.1 k 2)]) (by rw [anS5 (by omega) (by omega)]) ?_
                  refine x_istore 72 (L' := [some (vR (some (ob bb))), some (vI (B.1 11)), some (vI (B.1 4)), some (vR (some (378 + nn))), some (vR (some (378 + (nn + 1)))), some (vI (so)), some (vI (sn)), some (vI (k)), some (vI (anPassed k B.1)), some (vI (sV B.1 k 2)), none, none]) rfl (by decide) rfl rfl ?_
                  refine x_aload_n 73 rfl rfl ?_
                  refine x_iconst 74 rfl ?_
                  refine x_iload 75 rfl rfl ?_
                  refine x_imul 76 (r := 3 * k) rfl rfl ?_
                  refine x_aload_n 77 rfl rfl ?_
                  refine x_iload 78 rfl rfl ?_
                  refine x_callV 79 m_X8_standIn (c_b_standIn hk.1 hB (by omega)) rfl ok_X8_standIn b_lt0 k_0 rfl rfl ml_L_96 im_X8_standIn se_X8_standIn rfl (by decide) rfl (Nat.le_of_ble_eq_true rfl) rfl rfl (fun v g q108 => ?_)
                  obtain ⟨rfl, i109, li109, rfl, hk⟩ := kQ_of hk q108
                  have hk : kp bb A2 i bE (B) i109 li109 := hk
                  show mX m_L_isHeld 9 _ 0 0 _ _ [vI (anStand k B.1), vI (3 * k), vR (some (378 + nn))] _
                  refine x_eqS (S' := [vI ((plT B.1).1 k), vI (3 * k), vR (some (378 + nn))]) (by rw [anSt (by omega) (by omega)]) ?_
                  obtain ⟨i110, hi110⟩ : ∃ f, f = mU i109 (378 + nn) (3 * k) ((plT B.1).1 k) := ⟨_, rfl⟩
                  refine x_iast 80 rfl (by show 378 + nn < 378 + (nn + 2); omega) hkD (by omega) (g' := st (nn + 2) i110 li109) (by subst hi110; rfl) ?_
                  have hk := kp_st hk hB (by omega) hi110
                  obtain ⟨A_145, hA_145⟩ : ∃ f, f = mU A2 (378 + nn) (3 * k) ((plT B.1).1 k) := ⟨_, rfl⟩
                  rw [← hA_145] at hk
                  refine x_aload_n 81 rfl rfl ?_
                  refine x_iconst 82 rfl ?_
                  refine x_iload 83 rfl rfl ?_
                  refine x_imul 84 (r := 3 * k) rfl rfl ?_
                  refine x_iconst 85 rfl ?_
                  refine x_iadd 86 (r := (3 * k) + 1) rfl rfl ?_
                  refine x_aload_n 87 rfl rfl ?_
                  refine x_iload 88 rfl rfl ?_
                  refine x_bipush 89 rfl (by decide) ?_
                  refine x_callV 90 m_X8_singer (c_b_singer hk.1 hB (by omega) (by omega)) rfl ok_X8_singer b_lt0 k_0 rfl rfl ml_L_70 im_X8_singer se_X8_singer rfl (by decide) rfl (Nat.le_of_ble_eq_true rfl) rfl rfl (fun v g q111 => ?_)
                  obtain ⟨rfl, i112, li112, rfl, hk⟩ := kQ_of hk q111
                  have hk : kp bb A_145 i bE (B) i112 li112 := hk
                  show mX m_L_isHeld 9 _ 0 0 _ _ [vI (anSinger k 9 B.1), vI ((3 * k) + 1), vR (some (378 + nn))] _
                  refine x_eqS (S' := [vI (sV B.1 k 6), vI ((3 * k) + 1), vR (some (378 + nn))]) (by rw [anS9 (by omega) (by omega)]) ?_
                  obtain ⟨i113, hi113⟩ : ∃ f, f = mU i112 (378 + nn) ((3 * k) + 1) (sV B.1 k 6) := ⟨_, rfl⟩
                  refine x_iast 91 rfl (by show 378 + nn < 378 + (nn + 2); omega) hkD (by omega) (g' := st (nn + 2) i113 li112) (by subst hi113; rfl) ?_
                  have hk := kp_st hk hB (by omega) hi113
                  obtain ⟨A_161, hA_161⟩ : ∃ f, f = mU A_145 (378 + nn) ((3 * k) + 1) (sV B.1 k 6) := ⟨_, rfl⟩
                  rw [← hA_161] at hk
                  refine x_aload_n 92 rfl rfl ?_
                  refine x_iconst 93 rfl ?_
                  refine x_iload 94 rfl rfl ?_
                  refine x_imul 95 (r := 3 * k) rfl rfl ?_
                  refine x_iconst 96 rfl ?_
                  refine x_iadd 97 (r := (3 * k) + 2) rfl rfl ?_
                  refine x_aload_n 98 rfl rfl ?_
                  refine x_iload 99 rfl rfl ?_
                  refine x_bipush 100 rfl (by decide) ?_
                  refine x_callV 101 m_X8_singer (c_b_singer hk.1 hB (by omega) (by omega)) rfl ok_X8_singer b_lt0 k_0 rfl rfl ml_L_70 im_X8_singer se_X8_singer rfl (by decide) rfl (Nat.le_of_ble_eq_true rfl) rfl rfl (fun v g q114 => ?_)
                  obtain ⟨rfl, i115, li115, rfl, hk⟩ := kQ_of hk q114
                  have hk : kp bb A_161 i bE (B) i115 li115 := hk
                  show mX m_L_isHeld 9 _ 0 0 _ _ [vI (anSinger k 7 B.1), vI ((3 * k) + 2), vR (some (378 + nn))] _
                  refine x_eqS (S' := [vI (sV B.1 k 4), vI ((3 * k) + 2), vR (some (378 + nn))]) (by rw [anS7 (by omega) (by omega)]) ?_
                  obtain ⟨i116, hi116⟩ : ∃ f, f = mU i115 (378 + nn) ((3 * k) + 2) (sV B.1 k 4) := ⟨_, rfl⟩
                  refine x_iast 102 rfl (by show 378 + nn < 378 + (nn + 2); omega) hkD (by omega) (g' := st (nn + 2) i116 li115) (by subst hi116; rfl) ?_
                  have hk := kp_st hk hB (by omega) hi116
                  obtain ⟨A_177, hA_177⟩ : ∃ f, f = mU A_161 (378 + nn) ((3 * k) + 2) (sV B.1 k 4) := ⟨_, rfl⟩
                  rw [← hA_177] at hk
                  have hE177 : ∀ q, 0 ≤ q → q < 4 → A_177 (378 + (nn + 1)) q = plS B.1 q := by intro q h0 h1; rw [hA_177, hA_161, hA_145]; simp only [mU]; rw [if_neg (by omega), if_neg (by omega), if_neg (by omega)]; exact hE2 q h0 h1
                  have hD177 : A_177 (378 + nn) (3 * k) = (plT B.1).1 k ∧ A_177 (378 + nn) (3 * k + 1) = sV B.1 k 6 ∧ A_177 (378 + nn) (3 * k + 2) = sV B.1 k 4 := by rw [hA_177, hA_161, hA_145]; simp only [mU]; refine ⟨?_, ?_, ?_⟩; (rw [if_neg (by omega), if_neg (by omega), if_pos (by simp)]); (rw [if_neg (by omega), if_pos (by simp)]); (rw [if_pos (by simp)])
                  have hd0 := hD177.1
                  refine x_aload_n 103 rfl rfl ?_
                  refine x_iconst 104 rfl ?_
                  refine x_iload 105 rfl rfl ?_
                  refine x_imul 106 (r := 3 * k) rfl rfl ?_
                  refine x_iald 107 (z := A_177 (378 + nn) (3 * k)) rfl (by show 378 + nn < 378 + (nn + 2); omega) hkD (by omega) (hk.2.1 _ _ (by omega)) ?_
                  refine x_if_lt 108 (tgt := 194) rfl (by decide) (by omega) (fun h117 => ?_) (fun h117 => ?_)
                  · have fsx : fs k = 0 := by rw [hfs]; exact if_pos (by omega)
                    refine x_iload 113 rfl rfl ?_
                    refine x_istore 114 (L' := [some (vR (some (ob bb))), some (vI (B.1 11)), some (vI (B.1 4)), some (vR (some (378 + nn))), some (vR (some (378 + (nn + 1)))), some (vI (so)), some (vI (sn)), some (vI (k)), some (vI (anPassed k B.1)), some (vI (sV B.1 k 2)), none, none]) rfl (by decide) rfl rfl ?_
                    refine x_iload 115 rfl rfl ?_
                    refine x_iconst 116 rfl ?_
                    refine x_icmp_ne 117 (tgt := 208) rfl (by decide) (by omega) (fun h118 => ?_) (fun h118 => ?_)
                    · refine x_iconst 120 rfl ?_
                      refine x_iload 121 rfl rfl ?_
                      refine x_if_ge 122 (tgt := 218) rfl (by decide) (by omega) (fun h119 => ?_) (fun h119 => ?_)
                      · refine x_iconst 125 rfl ?_
                        refine x_icmp_ne 126 (tgt := 334) rfl (by decide) (by decide) (fun h120 => absurd h120 (by decide)) (fun h120 => ?_)
                        refine x_iload 127 rfl rfl ?_
                        refine x_if_ne 128 (tgt := 231) rfl (by decide) (by omega) (fun h121 => ?_) (fun h121 => ?_)
                        · refine x_iconst 131 rfl ?_
                          refine x_iload 132 rfl rfl ?_
                          refine x_if_lt 133 (tgt := 251) rfl (by decide) (by omega) (fun h122 => absurd h122 (by omega)) (fun h122 => ?_)
                          have hEp := hE177 (sV B.1 k 2) (by omega) (by omega)
                          have hplb := plS_bd B.1 (sV B.1 k 2) hN.1.1
                          refine x_aload 134 rfl rfl ?_
                          refine x_iload 135 rfl rfl ?_
                          refine x_iald 136 (z := A_177 (378 + (nn + 1)) (sV B.1 k 2)) rfl (by show 378 + (nn + 1) < 378 + (nn + 2); omega) hkE (by omega) (hk.2.1 _ _ (by omega)) ?_
                          refine x_iload 137 rfl rfl ?_
                          refine x_icmp_ne 138 (tgt := 251) rfl (by decide) (by omega) (fun h123 => ?_) (fun h123 => ?_)
                          · refine x_iconst 141 rfl ?_
                            refine x_icmp_ne 142 (tgt := 334) rfl (by decide) (by decide) (fun h124 => absurd h124 (by decide)) (fun h124 => ?_)
                            refine x_iload 143 rfl rfl ?_
                            refine x_iconst 144 rfl ?_
                            refine x_icmp_ne 145 (tgt := 272) rfl (by decide) (by omega) (fun h125 => ?_) (fun h125 => ?_)
                            · refine x_aload_n 151 rfl rfl ?_
                              refine x_iconst 152 rfl ?_
                              refine x_iload 153 rfl rfl ?_
                              refine x_imul 154 (r := 3 * k) rfl rfl ?_
                              refine x_iald 155 (z := A_177 (378 + nn) (3 * k)) rfl (by show 378 + nn < 378 + (nn + 2); omega) hkD (by omega) (hk.2.1 _ _ (by omega)) ?_
                              refine x_if_lt 156 (tgt := 330) rfl (by decide) (by omega) (fun h126 => ?_) (fun h126 => absurd h126 (by omega))
                              refine x_iconst 187 rfl ?_
                              refine x_goto 188 (tgt := 335) rfl (by decide) ?_
                              refine x_istore 190 (L' := [some (vR (some (ob bb))), some (vI (B.1 11)), some (vI (B.1 4)), some (vR (some (378 + nn))), some (vR (some (378 + (nn + 1)))), some (vI (so)), some (vI (sn)), some (vI (k)), some (vI (anPassed k B.1)), some (vI (sV B.1 k 2)), some (vI (1)), none]) rfl (by decide) rfl rfl ?_
                              refine x_iload 191 rfl rfl ?_
                              refine x_if_eq 192 (tgt := 353) rfl (by decide) (by decide) (fun h127 => absurd h127 (by decide)) (fun h127 => ?_)
                              refine x_iload 193 rfl rfl ?_
                              refine x_if_lt 194 (tgt := 353) rfl (by decide) (by omega) (fun h128 => by exfalso; omega) (fun h128 => ?_)
                              refine x_iload 195 rfl rfl ?_
                              refine x_iconst 196 rfl ?_
                              refine x_icmp_le 197 (tgt := 355) rfl (by decide) (by omega) (fun h129 => ?_) (fun h129 => by exfalso; omega)
                              refine x_iinc 200 (L' := [some (vR (some (ob bb))), some (vI (B.1 11)), some (vI (B.1 4)), some (vR (some (378 + nn))), some (vR (some (378 + (nn + 1)))), some (vI (so)), some (vI (sn)), some (vI (k + 1)), some (vI (anPassed k B.1)), some (vI (sV B.1 k 2)), some (vI (1)), none]) rfl (by decide) rfl rfl rfl rfl ?_
                              refine x_goto 201 (tgt := 111) rfl (by decide) ?_
                              refine x_dropL (L' := [some (vR (some (ob bb))), some (vI (B.1 11)), some (vI (B.1 4)), some (vR (some (378 + nn))), some (vR (some (378 + (nn + 1)))), some (vI (so)), some (vI (sn)), some (vI (k + 1)), none, none, none, none]) ⟨rfl, ⟨rfl, ⟨rfl, ⟨rfl, ⟨rfl, ⟨rfl, ⟨rfl, ⟨rfl, True.intro⟩⟩⟩⟩⟩⟩⟩⟩ ?_
                              exact ihL13 i116 A_177 li115 (k + 1) (sn) (by omega) (hE177) (by intro j h0 h1; by_cases e : j = k; (rw [e]; exact hD177); (have h3 := hD j h0 (by omega); rw [hA_177, hA_161, hA_145]; simp only [mU]; rw [if_neg (by omega), if_neg (by omega), if_neg (by omega), if_neg (by omega), if_neg (by omega), if_neg (by omega), if_neg (by omega), if_neg (by omega), if_neg (by omega)]; exact h3)) (⟨by rw [sumZ_s fs hx.1, ← hsn.1]; omega, by omega, by omega⟩) (hk) (by omega)
                            · refine x_aload_n 146 rfl rfl ?_
                              refine x_iload 147 rfl rfl ?_
                              refine x_bipush 148 rfl (by decide) ?_
                              refine x_callV 149 m_X8_singer (c_b_singer hk.1 hB (by omega) (by omega)) rfl ok_X8_singer b_lt0 k_0 rfl rfl ml_L_70 im_X8_singer se_X8_singer rfl (by decide) rfl (Nat.le_of_ble_eq_true rfl) rfl rfl (fun v g q130 => ?_)
                              obtain ⟨rfl, i131, li131, rfl, hk⟩ := kQ_of hk q130
                              have hk : kp bb A_177 i bE (B) i131 li131 := hk
                              show mX m_L_isHeld 9 _ 0 0 _ _ [vI (anSinger k 6 B.1)] _
                              refine x_eqS (S' := [vI (sV B.1 k 3)]) (by rw [anS6 (by omega) (by omega)]) ?_
                              refine x_if_ne 150 (tgt := 334) rfl (by decide) (by omega) (fun h132 => by exfalso; omega) (fun h132 => ?_)
                              refine x_aload_n 151 rfl rfl ?_
                              refine x_iconst 152 rfl ?_
                              refine x_iload 153 rfl rfl ?_
                              refine x_imul 154 (r := 3 * k) rfl rfl ?_
                              refine x_iald 155 (z := A_177 (378 + nn) (3 * k)) rfl (by show 378 + nn < 378 + (nn + 2); omega) hkD (by omega) (hk.2.1 _ _ (by omega)) ?_
                              refine x_if_lt 156 (tgt := 330) rfl (by decide) (by omega) (fun h133 => ?_) (fun h133 => absurd h133 (by omega))
                              refine x_iconst 187 rfl ?_
                              refine x_goto 188 (tgt := 335) rfl (by decide) ?_
                              refine x_istore 190 (L' := [some (vR (some (ob bb))), some (vI (B.1 11)), some (vI (B.1 4)), some (vR (some (378 + nn))), some (vR (some (378 + (nn + 1)))), some (vI (so)), some (vI (sn)), some (vI (k)), some (vI (anPassed k B.1)), some (vI (sV B.1 k 2)), some (vI (1)), none]) rfl (by decide) rfl rfl ?_
                              refine x_iload 191 rfl rfl ?_
                              refine x_if_eq 192 (tgt := 353) rfl (by decide) (by decide) (fun h134 => absurd h134 (by decide)) (fun h134 => ?_)
                              refine x_iload 193 rfl rfl ?_
                              refine x_if_lt 194 (tgt := 353) rfl (by decide) (by omega) (fun h135 => by exfalso; omega) (fun h135 => ?_)
                              refine x_iload 195 rfl rfl ?_
                              refine x_iconst 196 rfl ?_
                              refine x_icmp_le 197 (tgt := 355) rfl (by decide) (by omega) (fun h136 => ?_) (fun h136 => by exfalso; omega)
                              refine x_iinc 200 (L' := [some (vR (some (ob bb))), some (vI (B.1 11)), some (vI (B.1 4)), some (vR (some (378 + nn))), some (vR (some (378 + (nn + 1)))), some (vI (so)), some (vI (sn)), some (vI (k + 1)), some (vI (anPassed k B.1)), some (vI (sV B.1 k 2)), some (vI (1)), none]) rfl (by decide) rfl rfl rfl rfl ?_
                              refine x_goto 201 (tgt := 111) rfl (by decide) ?_
                              refine x_dropL (L' := [some (vR (some (ob bb))), some (vI (B.1 11)), some (vI (B.1 4)), some (vR (some (378 + nn))), some (vR (some (378 + (nn + 1)))), some (vI (so)), some (vI (sn)), some (vI (k + 1)), none, none, none, none]) ⟨rfl, ⟨rfl, ⟨rfl, ⟨rfl, ⟨rfl, ⟨rfl, ⟨rfl, ⟨rfl, True.intro⟩⟩⟩⟩⟩⟩⟩⟩ ?_
                              exact ihL13 i131 A_177 li131 (k + 1) (sn) (by omega) (hE177) (by intro j h0 h1; by_cases e : j = k; (rw [e]; exact hD177); (have h3 := hD j h0 (by omega); rw [hA_177, hA_161, hA_145]; simp only [mU]; rw [if_neg (by omega), if_neg (by omega), if_neg (by omega), if_neg (by omega), if_neg (by omega), if_neg (by omega), if_neg (by omega), if_neg (by omega), if_neg (by omega)]; exact h3)) (⟨by rw [sumZ_s fs hx.1, ← hsn.1]; omega, by omega, by omega⟩) (hk) (by omega)
                          · refine x_iconst 139 rfl ?_
                            refine x_goto 140 (tgt := 252) rfl (by decide) ?_
                            refine x_icmp_ne 142 (tgt := 334) rfl (by decide) (by decide) (fun h137 => by exfalso; omega) (fun h137 => absurd h137 (by decide))
                        · refine x_iconst 129 rfl ?_
                          refine x_goto 130 (tgt := 232) rfl (by decide) ?_
                          refine x_iload 132 rfl rfl ?_
                          refine x_if_lt 133 (tgt := 251) rfl (by decide) (by omega) (fun h138 => absurd h138 (by omega)) (fun h138 => ?_)
                          have hEp := hE177 (sV B.1 k 2) (by omega) (by omega)
                          have hplb := plS_bd B.1 (sV B.1 k 2) hN.1.1
                          refine x_aload 134 rfl rfl ?_
                          refine x_iload 135 rfl rfl ?_
                          refine x_iald 136 (z := A_177 (378 + (nn + 1)) (sV B.1 k 2)) rfl (by show 378 + (nn + 1) < 378 + (nn + 2); omega) hkE (by omega) (hk.2.1 _ _ (by omega)) ?_
                          refine x_iload 137 rfl rfl ?_
                          refine x_icmp_ne 138 (tgt := 251) rfl (by decide) (by omega) (fun h139 => ?_) (fun h139 => ?_)
                          · refine x_iconst 141 rfl ?_
                            refine x_icmp_ne 142 (tgt := 334) rfl (by decide) (by decide) (fun h140 => by exfalso; omega) (fun h140 => absurd h140 (by decide))
                          · refine x_iconst 139 rfl ?_
                            refine x_goto 140 (tgt := 252) rfl (by decide) ?_
                            refine x_icmp_ne 142 (tgt := 334) rfl (by decide) (by decide) (fun h141 => absurd h141 (by decide)) (fun h141 => ?_)
                            refine x_iload 143 rfl rfl ?_
                            refine x_iconst 144 rfl ?_
                            refine x_icmp_ne 145 (tgt := 272) rfl (by decide) (by omega) (fun h142 => ?_) (fun h142 => ?_)
                            · refine x_aload_n 151 rfl rfl ?_
                              refine x_iconst 152 rfl ?_
                              refine x_iload 153 rfl rfl ?_
                              refine x_imul 154 (r := 3 * k) rfl rfl ?_
                              refine x_iald 155 (z := A_177 (378 + nn) (3 * k)) rfl (by show 378 + nn < 378 + (nn + 2); omega) hkD (by omega) (hk.2.1 _ _ (by omega)) ?_
                              refine x_if_lt 156 (tgt := 330) rfl (by decide) (by omega) (fun h143 => ?_) (fun h143 => absurd h143 (by omega))
                              refine x_iconst 187 rfl ?_
                              refine x_goto 188 (tgt := 335) rfl (by decide) ?_
                              refine x_istore 190 (L' := [some (vR (some (ob bb))), some (vI (B.1 11)), some (vI (B.1 4)), some (vR (some (378 + nn))), some (vR (some (378 + (nn + 1)))), some (vI (so)), some (vI (sn)), some (vI (k)), some (vI (anPassed k B.1)), some (vI (sV B.1 k 2)), some (vI (1)), none]) rfl (by decide) rfl rfl ?_
                              refine x_iload 191 rfl rfl ?_
                              refine x_if_eq 192 (tgt := 353) rfl (by decide) (by decide) (fun h144 => absurd h144 (by decide)) (fun h144 => ?_)
                              refine x_iload 193 rfl rfl ?_
                              refine x_if_lt 194 (tgt := 353) rfl (by decide) (by omega) (fun h145 => by exfalso; omega) (fun h145 => ?_)
                              refine x_iload 195 rfl rfl ?_
                              refine x_iconst 196 rfl ?_
                              refine x_icmp_le 197 (tgt := 355) rfl (by decide) (by omega) (fun h146 => ?_) (fun h146 => by exfalso; omega)
                              refine x_iinc 200 (L' := [some (vR (some (ob bb))), some (vI (B.1 11)), some (vI (B.1 4)), some (vR (some (378 + nn))), some (vR (some (378 + (nn + 1)))), some (vI (so)), some (vI (sn)), some (vI (k + 1)), some (vI (anPassed k B.1)), some (vI (sV B.1 k 2)), some (vI (1)), none]) rfl (by decide) rfl rfl rfl rfl ?_
                              refine x_goto 201 (tgt := 111) rfl (by decide) ?_
                              refine x_dropL (L' := [some (vR (some (ob bb))), some (vI (B.1 11)), some (vI (B.1 4)), some (vR (some (378 + nn))), some (vR (some (378 + (nn + 1)))), some (vI (so)), some (vI (sn)), some (vI (k + 1)), none, none, none, none]) ⟨rfl, ⟨rfl, ⟨rfl, ⟨rfl, ⟨rfl, ⟨rfl, ⟨rfl, ⟨rfl, True.intro⟩⟩⟩⟩⟩⟩⟩⟩ ?_
                              exact ihL13 i116 A_177 li115 (k + 1) (sn) (by omega) (hE177) (by intro j h0 h1; by_cases e : j = k; (rw [e]; exact hD177); (have h3 := hD j h0 (by omega); rw [hA_177, hA_161, hA_145]; simp only [mU]; rw [if_neg (by omega), if_neg (by omega), if_neg (by omega), if_neg (by omega), if_neg (by omega), if_neg (by omega), if_neg (by omega), if_neg (by omega), if_neg (by omega)]; exact h3)) (⟨by rw [sumZ_s fs hx.1, ← hsn.1]; omega, by omega, by omega⟩) (hk) (by omega)
                            · refine x_aload_n 146 rfl rfl ?_
                              refine x_iload 147 rfl rfl ?_
                              refine x_bipush 148 rfl (by decide) ?_
                              refine x_callV 149 m_X8_singer (c_b_singer hk.1 hB (by omega) (by omega)) rfl ok_X8_singer b_lt0 k_0 rfl rfl ml_L_70 im_X8_singer se_X8_singer rfl (by decide) rfl (Nat.le_of_ble_eq_true rfl) rfl rfl (fun v g q147 => ?_)
                              obtain ⟨rfl, i148, li148, rfl, hk⟩ := kQ_of hk q147
                              have hk : kp bb A_177 i bE (B) i148 li148 := hk
                              show mX m_L_isHeld 9 _ 0 0 _ _ [vI (anSinger k 6 B.1)] _
                              refine x_eqS (S' := [vI (sV B.1 k 3)]) (by rw [anS6 (by omega) (by omega)]) ?_
                              refine x_if_ne 150 (tgt := 334) rfl (by decide) (by omega) (fun h149 => by exfalso; omega) (fun h149 => ?_)
                              refine x_aload_n 151 rfl rfl ?_
                              refine x_iconst 152 rfl ?_
                              refine x_iload 153 rfl rfl ?_
                              refine x_imul 154 (r := 3 * k) rfl rfl ?_
                              refine x_iald 155 (z := A_177 (378 + nn) (3 * k)) rfl (by show 378 + nn < 378 + (nn + 2); omega) hkD (by omega) (hk.2.1 _ _ (by omega)) ?_
                              refine x_if_lt 156 (tgt := 330) rfl (by decide) (by omega) (fun h150 => ?_) (fun h150 => absurd h150 (by omega))
                              refine x_iconst 187 rfl ?_
                              refine x_goto 188 (tgt := 335) rfl (by decide) ?_
                              refine x_istore 190 (L' := [some (vR (some (ob bb))), some (vI (B.1 11)), some (vI (B.1 4)), some (vR (some (378 + nn))), some (vR (some (378 + (nn + 1)))), some (vI (so)), some (vI (sn)), some (vI (k)), some (vI (anPassed k B.1)), some (vI (sV B.1 k 2)), some (vI (1)), none]) rfl (by decide) rfl rfl ?_
                              refine x_iload 191 rfl rfl ?_
                              refine x_if_eq 192 (tgt := 353) rfl (by decide) (by decide) (fun h151 => absurd h151 (by decide)) (fun h151 => ?_)
                              refine x_iload 193 rfl rfl ?_
                              refine x_if_lt 194 (tgt := 353) rfl (by decide) (by omega) (fun h152 => by exfalso; omega) (fun h152 => ?_)
                              refine x_iload 195 rfl rfl ?_
                              refine x_iconst 196 rfl ?_
                              refine x_icmp_le 197 (tgt := 355) rfl (by decide) (by omega) (fun h153 => ?_) (fun h153 => by exfalso; omega)
                              refine x_iinc 200 (L' := [some (vR (some (ob bb))), some (vI (B.1 11)), some (vI (B.1 4)), some (vR (some (378 + nn))), some (vR (some (378 + (nn + 1)))), some (vI (so)), some (vI (sn)), some (vI (k + 1)), some (vI (anPassed k B.1)), some (vI (sV B.1 k 2)), some (vI (1)), none]) rfl (by decide) rfl rfl rfl rfl ?_
                              refine x_goto 201 (tgt := 111) rfl (by decide) ?_
                              refine x_dropL (L' := [some (vR (some (ob bb))), some (vI (B.1 11)), some (vI (B.1 4)), some (vR (some (378 + nn))), some (vR (some (378 + (nn + 1)))), some (vI (so)), some (vI (sn)), some (vI (k + 1)), none, none, none, none]) ⟨rfl, ⟨rfl, ⟨rfl, ⟨rfl, ⟨rfl, ⟨rfl, ⟨rfl, ⟨rfl, True.intro⟩⟩⟩⟩⟩⟩⟩⟩ ?_
                              exact ihL13 i148 A_177 li148 (k + 1) (sn) (by omega) (hE177) (by intro j h0 h1; by_cases e : j = k; (rw [e]; exact hD177); (have h3 := hD j h0 (by omega); rw [hA_177, hA_161, hA_145]; simp only [mU]; rw [if_neg (by omega), if_neg (by omega), if_neg (by omega), if_neg (by omega), if_neg (by omega), if_neg (by omega), if_neg (by omega), if_neg (by omega), if_neg (by omega)]; exact h3)) (⟨by rw [sumZ_s fs hx.1, ← hsn.1]; omega, by omega, by omega⟩) (hk) (by omega)
                      · refine x_iconst 123 rfl ?_
                        refine x_goto 124 (tgt := 219) rfl (by decide) ?_
                        refine x_icmp_ne 126 (tgt := 334) rfl (by decide) (by decide) (fun h154 => by exfalso; omega) (fun h154 => absurd h154 (by decide))
                    · refine x_iconst 118 rfl ?_
                      refine x_goto 119 (tgt := 209) rfl (by decide) ?_
                      refine x_iload 121 rfl rfl ?_
                      refine x_if_ge 122 (tgt := 218) rfl (by decide) (by omega) (fun h155 => ?_) (fun h155 => ?_)
                      · refine x_iconst 125 rfl ?_
                        refine x_icmp_ne 126 (tgt := 334) rfl (by decide) (by decide) (fun h156 => by exfalso; omega) (fun h156 => absurd h156 (by decide))
                      · refine x_iconst 123 rfl ?_
                        refine x_goto 124 (tgt := 219) rfl (by decide) ?_
                        refine x_icmp_ne 126 (tgt := 334) rfl (by decide) (by decide) (fun h157 => absurd h157 (by decide)) (fun h157 => ?_)
                        refine x_iload 127 rfl rfl ?_
                        refine x_if_ne 128 (tgt := 231) rfl (by decide) (by omega) (fun h158 => ?_) (fun h158 => ?_)
                        · refine x_iconst 131 rfl ?_
                          refine x_iload 132 rfl rfl ?_
                          refine x_if_lt 133 (tgt := 251) rfl (by decide) (by omega) (fun h159 => ?_) (fun h159 => absurd h159 (by omega))
                          refine x_iconst 141 rfl ?_
                          refine x_icmp_ne 142 (tgt := 334) rfl (by decide) (by decide) (fun h160 => absurd h160 (by decide)) (fun h160 => ?_)
                          refine x_iload 143 rfl rfl ?_
                          refine x_iconst 144 rfl ?_
                          refine x_icmp_ne 145 (tgt := 272) rfl (by decide) (by omega) (fun h161 => ?_) (fun h161 => ?_)
                          · refine x_aload_n 151 rfl rfl ?_
                            refine x_iconst 152 rfl ?_
                            refine x_iload 153 rfl rfl ?_
                            refine x_imul 154 (r := 3 * k) rfl rfl ?_
                            refine x_iald 155 (z := A_177 (378 + nn) (3 * k)) rfl (by show 378 + nn < 378 + (nn + 2); omega) hkD (by omega) (hk.2.1 _ _ (by omega)) ?_
                            refine x_if_lt 156 (tgt := 330) rfl (by decide) (by omega) (fun h162 => ?_) (fun h162 => absurd h162 (by omega))
                            refine x_iconst 187 rfl ?_
                            refine x_goto 188 (tgt := 335) rfl (by decide) ?_
                            refine x_istore 190 (L' := [some (vR (some (ob bb))), some (vI (B.1 11)), some (vI (B.1 4)), some (vR (some (378 + nn))), some (vR (some (378 + (nn + 1)))), some (vI (so)), some (vI (sn)), some (vI (k)), some (vI (anPassed k B.1)), some (vI (sV B.1 k 2)), some (vI (1)), none]) rfl (by decide) rfl rfl ?_
                            refine x_iload 191 rfl rfl ?_
                            refine x_if_eq 192 (tgt := 353) rfl (by decide) (by decide) (fun h163 => absurd h163 (by decide)) (fun h163 => ?_)
                            refine x_iload 193 rfl rfl ?_
                            refine x_if_lt 194 (tgt := 353) rfl (by decide) (by omega) (fun h164 => by exfalso; omega) (fun h164 => ?_)
                            refine x_iload 195 rfl rfl ?_
                            refine x_iconst 196 rfl ?_
                            refine x_icmp_le 197 (tgt := 355) rfl (by decide) (by omega) (fun h165 => ?_) (fun h165 => by exfalso; omega)
                            refine x_iinc 200 (L' := [some (vR (some (ob bb))), some (vI (B.1 11)), some (vI (B.1 4)), some (vR (some (378 + nn))), some (vR (some (378 + (nn + 1)))), some (vI (so)), some (vI (sn)), some (vI (k + 1)), some (vI (anPassed k B.1)), some (vI (sV B.1 k 2)), some (vI (1)), none]) rfl (by decide) rfl rfl rfl rfl ?_
                            refine x_goto 201 (tgt := 111) rfl (by decide) ?_
                            refine x_dropL (L' := [some (vR (some (ob bb))), some (vI (B.1 11)), some (vI (B.1 4)), some (vR (some (378 + nn))), some (vR (some (378 + (nn + 1)))), some (vI (so)), some (vI (sn)), some (vI (k + 1)), none, none, none, none]) ⟨rfl, ⟨rfl, ⟨rfl, ⟨rfl, ⟨rfl, ⟨rfl, ⟨rfl, ⟨rfl, True.intro⟩⟩⟩⟩⟩⟩⟩⟩ ?_
                            exact ihL13 i116 A_177 li115 (k + 1) (sn) (by omega) (hE177) (by intro j h0 h1; by_cases e : j = k; (rw [e]; exact hD177); (have h3 := hD j h0 (by omega); rw [hA_177, hA_161, hA_145]; simp only [mU]; rw [if_neg (by omega), if_neg (by omega), if_neg (by omega), if_neg (by omega), if_neg (by omega), if_neg (by omega), if_neg (by omega), if_neg (by omega), if_neg (by omega)]; exact h3)) (⟨by rw [sumZ_s fs hx.1, ← hsn.1]; omega, by omega, by omega⟩) (hk) (by omega)
                          · refine x_aload_n 146 rfl rfl ?_
                            refine x_iload 147 rfl rfl ?_
                            refine x_bipush 148 rfl (by decide) ?_
                            refine x_callV 149 m_X8_singer (c_b_singer hk.1 hB (by omega) (by omega)) rfl ok_X8_singer b_lt0 k_0 rfl rfl ml_L_70 im_X8_singer se_X8_singer rfl (by decide) rfl (Nat.le_of_ble_eq_true rfl) rfl rfl (fun v g q166 => ?_)
                            obtain ⟨rfl, i167, li167, rfl, hk⟩ := kQ_of hk q166
                            have hk : kp bb A_177 i bE (B) i167 li167 := hk
                            show mX m_L_isHeld 9 _ 0 0 _ _ [vI (anSinger k 6 B.1)] _
                            refine x_eqS (S' := [vI (sV B.1 k 3)]) (by rw [anS6 (by omega) (by omega)]) ?_
                            refine x_if_ne 150 (tgt := 334) rfl (by decide) (by omega) (fun h168 => by exfalso; omega) (fun h168 => ?_)
                            refine x_aload_n 151 rfl rfl ?_
                            refine x_iconst 152 rfl ?_
                            refine x_iload 153 rfl rfl ?_
                            refine x_imul 154 (r := 3 * k) rfl rfl ?_
                            refine x_iald 155 (z := A_177 (378 + nn) (3 * k)) rfl (by show 378 + nn < 378 + (nn + 2); omega) hkD (by omega) (hk.2.1 _ _ (by omega)) ?_
                            refine x_if_lt 156 (tgt := 330) rfl (by decide) (by omega) (fun h169 => ?_) (fun h169 => absurd h169 (by omega))
                            refine x_iconst 187 rfl ?_
                            refine x_goto 188 (tgt := 335) rfl (by decide) ?_
                            refine x_istore 190 (L' := [some (vR (some (ob bb))), some (vI (B.1 11)), some (vI (B.1 4)), some (vR (some (378 + nn))), some (vR (some (378 + (nn + 1)))), some (vI (so)), some (vI (sn)), some (vI (k)), some (vI (anPassed k B.1)), some (vI (sV B.1 k 2)), some (vI (1)), none]) rfl (by decide) rfl rfl ?_
                            refine x_iload 191 rfl rfl ?_
                            refine x_if_eq 192 (tgt := 353) rfl (by decide) (by decide) (fun h170 => absurd h170 (by decide)) (fun h170 => ?_)
                            refine x_iload 193 rfl rfl ?_
                            refine x_if_lt 194 (tgt := 353) rfl (by decide) (by omega) (fun h171 => by exfalso; omega) (fun h171 => ?_)
                            refine x_iload 195 rfl rfl ?_
                            refine x_iconst 196 rfl ?_
                            refine x_icmp_le 197 (tgt := 355) rfl (by decide) (by omega) (fun h172 => ?_) (fun h172 => by exfalso; omega)
                            refine x_iinc 200 (L' := [some (vR (some (ob bb))), some (vI (B.1 11)), some (vI (B.1 4)), some (vR (some (378 + nn))), some (vR (some (378 + (nn + 1)))), some (vI (so)), some (vI (sn)), some (vI (k + 1)), some (vI (anPassed k B.1)), some (vI (sV B.1 k 2)), some (vI (1)), none]) rfl (by decide) rfl rfl rfl rfl ?_
                            refine x_goto 201 (tgt := 111) rfl (by decide) ?_
                            refine x_dropL (L' := [some (vR (some (ob bb))), some (vI (B.1 11)), some (vI (B.1 4)), some (vR (some (378 + nn))), some (vR (some (378 + (nn + 1)))), some (vI (so)), some (vI (sn)), some (vI (k + 1)), none, none, none, none]) ⟨rfl, ⟨rfl, ⟨rfl, ⟨rfl, ⟨rfl, ⟨rfl, ⟨rfl, ⟨rfl, True.intro⟩⟩⟩⟩⟩⟩⟩⟩ ?_
                            exact ihL13 i167 A_177 li167 (k + 1) (sn) (by omega) (hE177) (by intro j h0 h1; by_cases e : j = k; (rw [e]; exact hD177); (have h3 := hD j h0 (by omega); rw [hA_177, hA_161, hA_145]; simp only [mU]; rw [if_neg (by omega), if_neg (by omega), if_neg (by omega), if_neg (by omega), if_neg (by omega), if_neg (by omega), if_neg (by omega), if_neg (by omega), if_neg (by omega)]; exact h3)) (⟨by rw [sumZ_s fs hx.1, ← hsn.1]; omega, by omega, by omega⟩) (hk) (by omega)
                        · refine x_iconst 129 rfl ?_
                          refine x_goto 130 (tgt := 232) rfl (by decide) ?_
                          refine x_iload 132 rfl rfl ?_
                          refine x_if_lt 133 (tgt := 251) rfl (by decide) (by omega) (fun h173 => ?_) (fun h173 => absurd h173 (by omega))
                          refine x_iconst 141 rfl ?_
                          refine x_icmp_ne 142 (tgt := 334) rfl (by decide) (by decide) (fun h174 => by exfalso; omega) (fun h174 => absurd h174 (by decide))
                  · have fsx : fs k = 1 := by rw [hfs]; exact if_neg (by omega)
                    have hto2 := hto (by omega)
                    have hw3b := hw3 (by omega)
                    refine x_iload 109 rfl rfl ?_
                    refine x_iconst 110 rfl ?_
                    refine x_iadd 111 (r := sn + 1) rfl rfl ?_
                    refine x_goto 112 (tgt := 196) rfl (by decide) ?_
                    refine x_istore 114 (L' := [some (vR (some (ob bb))), some (vI (B.1 11)), some (vI (B.1 4)), some (vR (some (378 + nn))), some (vR (some (378 + (nn + 1)))), some (vI (so)), some (vI (sn + 1)), some (vI (k)), some (vI (anPassed k B.1)), some (vI (sV B.1 k 2)), none, none]) rfl (by decide) rfl rfl ?_
                    refine x_iload 115 rfl rfl ?_
                    refine x_iconst 116 rfl ?_
                    refine x_icmp_ne 117 (tgt := 208) rfl (by decide) (by omega) (fun h175 => ?_) (fun h175 => ?_)
                    · refine x_iconst 120 rfl ?_
                      refine x_iload 121 rfl rfl ?_
                      refine x_if_ge 122 (tgt := 218) rfl (by decide) (by omega) (fun h176 => ?_) (fun h176 => ?_)
                      · refine x_iconst 125 rfl ?_
                        refine x_icmp_ne 126 (tgt := 334) rfl (by decide) (by decide) (fun h177 => absurd h177 (by decide)) (fun h177 => ?_)
                        refine x_iload 127 rfl rfl ?_
                        refine x_if_ne 128 (tgt := 231) rfl (by decide) (by omega) (fun h178 => ?_) (fun h178 => ?_)
                        · refine x_iconst 131 rfl ?_
                          refine x_iload 132 rfl rfl ?_
                          refine x_if_lt 133 (tgt := 251) rfl (by decide) (by omega) (fun h179 => absurd h179 (by omega)) (fun h179 => ?_)
                          have hEp := hE177 (sV B.1 k 2) (by omega) (by omega)
                          have hplb := plS_bd B.1 (sV B.1 k 2) hN.1.1
                          refine x_aload 134 rfl rfl ?_
                          refine x_iload 135 rfl rfl ?_
                          refine x_iald 136 (z := A_177 (378 + (nn + 1)) (sV B.1 k 2)) rfl (by show 378 + (nn + 1) < 378 + (nn + 2); omega) hkE (by omega) (hk.2.1 _ _ (by omega)) ?_
                          refine x_iload 137 rfl rfl ?_
                          refine x_icmp_ne 138 (tgt := 251) rfl (by decide) (by omega) (fun h180 => ?_) (fun h180 => ?_)
                          · refine x_iconst 141 rfl ?_
                            refine x_icmp_ne 142 (tgt := 334) rfl (by decide) (by decide) (fun h181 => absurd h181 (by decide)) (fun h181 => ?_)
                            refine x_iload 143 rfl rfl ?_
                            refine x_iconst 144 rfl ?_
                            refine x_icmp_ne 145 (tgt := 272) rfl (by decide) (by omega) (fun h182 => ?_) (fun h182 => ?_)
                            · refine x_aload_n 151 rfl rfl ?_
                              refine x_iconst 152 rfl ?_
                              refine x_iload 153 rfl rfl ?_
                              refine x_imul 154 (r := 3 * k) rfl rfl ?_
                              refine x_iald 155 (z := A_177 (378 + nn) (3 * k)) rfl (by show 378 + nn < 378 + (nn + 2); omega) hkD (by omega) (hk.2.1 _ _ (by omega)) ?_
                              refine x_if_lt 156 (tgt := 330) rfl (by decide) (by omega) (fun h183 => absurd h183 (by omega)) (fun h183 => ?_)
                              refine x_iload 157 rfl rfl ?_
                              refine x_iconst 158 rfl ?_
                              refine x_icmp_ne 159 (tgt := 334) rfl (by decide) (by omega) (fun h184 => by exfalso; omega) (fun h184 => ?_)
                              refine x_aload_n 160 rfl rfl ?_
                              refine x_iload 161 rfl rfl ?_
                              refine x_bipush 162 rfl (by decide) ?_
                              refine x_callV 163 m_X8_singer (c_b_singer hk.1 hB (by omega) (by omega)) rfl ok_X8_singer b_lt0 k_0 rfl rfl ml_L_70 im_X8_singer se_X8_singer rfl (by decide) rfl (Nat.le_of_ble_eq_true rfl) rfl rfl (fun v g q185 => ?_)
                              obtain ⟨rfl, i186, li186, rfl, hk⟩ := kQ_of hk q185
                              have hk : kp bb A_177 i bE (B) i186 li186 := hk
                              show mX m_L_isHeld 9 _ 0 0 _ _ [vI (anSinger k 6 B.1)] _
                              refine x_eqS (S' := [vI (sV B.1 k 3)]) (by rw [anS6 (by omega) (by omega)]) ?_
                              refine x_iconst 164 rfl ?_
                              refine x_icmp_ne 165 (tgt := 334) rfl (by decide) (by omega) (fun h187 => by exfalso; omega) (fun h187 => ?_)
                              refine x_iload 166 rfl rfl ?_
                              refine x_aload_n 167 rfl rfl ?_
                              refine x_iconst 168 rfl ?_
                              refine x_iload 169 rfl rfl ?_
                              refine x_imul 170 (r := 3 * k) rfl rfl ?_
                              refine x_iald 171 (z := A_177 (378 + nn) (3 * k)) rfl (by show 378 + nn < 378 + (nn + 2); omega) hkD (by omega) (hk.2.1 _ _ (by omega)) ?_
                              refine x_icmp_eq 172 (tgt := 334) rfl (by decide) (by omega) (fun h188 => by exfalso; omega) (fun h188 => ?_)
                              have hbit := gF_bit (W := B.1) (y := k) (d := (plT B.1).1 k) (by omega) hto2.2.2.2.2
                              rw [← hd0] at hbit
                              have hgfb := gFits_bd B.1 k
                              refine x_aload_n 173 rfl rfl ?_
                              refine x_iload 174 rfl rfl ?_
                              refine x_iconst 175 rfl ?_
                              refine x_callV 176 m_X8_singer (c_b_singer hk.1 hB (by omega) (by omega)) rfl ok_X8_singer b_lt0 k_0 rfl rfl ml_L_70 im_X8_singer se_X8_singer rfl (by decide) rfl (Nat.le_of_ble_eq_true rfl) rfl rfl (fun v g q189 => ?_)
                              obtain ⟨rfl, i190, li190, rfl, hk⟩ := kQ_of hk q189
                              have hk : kp bb A_177 i bE (B) i190 li190 := hk
                              show mX m_L_isHeld 9 _ 0 0 _ _ [vI (anSinger k 4 B.1)] _
                              refine x_eqS (S' := [vI (gFits B.1 k)]) (by rw [anS4 (by omega) (by omega)]) ?_
                              refine x_aload_n 177 rfl rfl ?_
                              refine x_iconst 178 rfl ?_
                              refine x_iload 179 rfl rfl ?_
                              refine x_imul 180 (r := 3 * k) rfl rfl ?_
                              refine x_iald 181 (z := A_177 (378 + nn) (3 * k)) rfl (by show 378 + nn < 378 + (nn + 2); omega) hkD (by omega) (hk.2.1 _ _ (by omega)) ?_
                              refine x_ishr 182 (r := (gFits B.1 k) / 2 ^ (A_177 (378 + nn) (3 * k)).toNat) rfl (by omega) rfl ?_
                              refine x_iconst 183 rfl ?_
                              refine x_iandm 184 1 (r := ((gFits B.1 k) / 2 ^ (A_177 (378 + nn) (3 * k)).toNat) % 2) rfl (by decide) (by decide) rfl ?_
                              refine x_iconst 185 rfl ?_
                              refine x_icmp_ne 186 (tgt := 334) rfl (by decide) (by omega) (fun h191 => by exfalso; omega) (fun h191 => ?_)
                              refine x_iconst 187 rfl ?_
                              refine x_goto 188 (tgt := 335) rfl (by decide) ?_
                              refine x_istore 190 (L' := [some (vR (some (ob bb))), some (vI (B.1 11)), some (vI (B.1 4)), some (vR (some (378 + nn))), some (vR (some (378 + (nn + 1)))), some (vI (so)), some (vI (sn + 1)), some (vI (k)), some (vI (anPassed k B.1)), some (vI (sV B.1 k 2)), some (vI (1)), none]) rfl (by decide) rfl rfl ?_
                              refine x_iload 191 rfl rfl ?_
                              refine x_if_eq 192 (tgt := 353) rfl (by decide) (by decide) (fun h192 => absurd h192 (by decide)) (fun h192 => ?_)
                              refine x_iload 193 rfl rfl ?_
                              refine x_if_lt 194 (tgt := 353) rfl (by decide) (by omega) (fun h193 => by exfalso; omega) (fun h193 => ?_)
                              refine x_iload 195 rfl rfl ?_
                              refine x_iconst 196 rfl ?_
                              refine x_icmp_le 197 (tgt := 355) rfl (by decide) (by omega) (fun h194 => ?_) (fun h194 => by exfalso; omega)
                              refine x_iinc 200 (L' := [some (vR (some (ob bb))), some (vI (B.1 11)), some (vI (B.1 4)), some (vR (some (378 + nn))), some (vR (some (378 + (nn + 1)))), some (vI (so)), some (vI (sn + 1)), some (vI (k + 1)), some (vI (anPassed k B.1)), some (vI (sV B.1 k 2)), some (vI (1)), none]) rfl (by decide) rfl rfl rfl rfl ?_
                              refine x_goto 201 (tgt := 111) rfl (by decide) ?_
                              refine x_dropL (L' := [some (vR (some (ob bb))), some (vI (B.1 11)), some (vI (B.1 4)), some (vR (some (378 + nn))), some (vR (some (378 + (nn + 1)))), some (vI (so)), some (vI (sn + 1)), some (vI (k + 1)), none, none, none, none]) ⟨rfl, ⟨rfl, ⟨rfl, ⟨rfl, ⟨rfl, ⟨rfl, ⟨rfl, ⟨rfl, True.intro⟩⟩⟩⟩⟩⟩⟩⟩ ?_
                              exact ihL13 i190 A_177 li190 (k + 1) (sn + 1) (by omega) (hE177) (by intro j h0 h1; by_cases e : j = k; (rw [e]; exact hD177); (have h3 := hD j h0 (by omega); rw [hA_177, hA_161, hA_145]; simp only [mU]; rw [if_neg (by omega), if_neg (by omega), if_neg (by omega), if_neg (by omega), if_neg (by omega), if_neg (by omega), if_neg (by omega), if_neg (by omega), if_neg (by omega)]; exact h3)) (⟨by rw [sumZ_s fs hx.1, ← hsn.1]; omega, by omega, by omega⟩) (hk) (by omega)
                            · refine x_aload_n 146 rfl rfl ?_
                              refine x_iload 147 rfl rfl ?_
                              refine x_bipush 148 rfl (by decide) ?_
                              refine x_callV 149 m_X8_singer (c_b_singer hk.1 hB (by omega) (by omega)) rfl ok_X8_singer b_lt0 k_0 rfl rfl ml_L_70 im_X8_singer se_X8_singer rfl (by decide) rfl (Nat.le_of_ble_eq_true rfl) rfl rfl (fun v g q195 => ?_)
                              obtain ⟨rfl, i196, li196, rfl, hk⟩ := kQ_of hk q195
                              have hk : kp bb A_177 i bE (B) i196 li196 := hk
                              show mX m_L_isHeld 9 _ 0 0 _ _ [vI (anSinger k 6 B.1)] _
                              refine x_eqS (S' := [vI (sV B.1 k 3)]) (by rw [anS6 (by omega) (by omega)]) ?_
                              refine x_if_ne 150 (tgt := 334) rfl (by decide) (by omega) (fun h197 => by exfalso; omega) (fun h197 => ?_)
                              refine x_aload_n 151 rfl rfl ?_
                              refine x_iconst 152 rfl ?_
                              refine x_iload 153 rfl rfl ?_
                              refine x_imul 154 (r := 3 * k) rfl rfl ?_
                              refine x_iald 155 (z := A_177 (378 + nn) (3 * k)) rfl (by show 378 + nn < 378 + (nn + 2); omega) hkD (by omega) (hk.2.1 _ _ (by omega)) ?_
                              refine x_if_lt 156 (tgt := 330) rfl (by decide) (by omega) (fun h198 => absurd h198 (by omega)) (fun h198 => ?_)
                              refine x_iload 157 rfl rfl ?_
                              refine x_iconst 158 rfl ?_
                              refine x_icmp_ne 159 (tgt := 334) rfl (by decide) (by omega) (fun h199 => by exfalso; omega) (fun h199 => ?_)
                              refine x_aload_n 160 rfl rfl ?_
                              refine x_iload 161 rfl rfl ?_
                              refine x_bipush 162 rfl (by decide) ?_
                              refine x_callV 163 m_X8_singer (c_b_singer hk.1 hB (by omega) (by omega)) rfl ok_X8_singer b_lt0 k_0 rfl rfl ml_L_70 im_X8_singer se_X8_singer rfl (by decide) rfl (Nat.le_of_ble_eq_true rfl) rfl rfl (fun v g q200 => ?_)
                              obtain ⟨rfl, i201, li201, rfl, hk⟩ := kQ_of hk q200
                              have hk : kp bb A_177 i bE (B) i201 li201 := hk
                              show mX m_L_isHeld 9 _ 0 0 _ _ [vI (anSinger k 6 B.1)] _
                              refine x_eqS (S' := [vI (sV B.1 k 3)]) (by rw [anS6 (by omega) (by omega)]) ?_
                              refine x_iconst 164 rfl ?_
                              refine x_icmp_ne 165 (tgt := 334) rfl (by decide) (by omega) (fun h202 => by exfalso; omega) (fun h202 => ?_)
                              refine x_iload 166 rfl rfl ?_
                              refine x_aload_n 167 rfl rfl ?_
                              refine x_iconst 168 rfl ?_
                              refine x_iload 169 rfl rfl ?_
                              refine x_imul 170 (r := 3 * k) rfl rfl ?_
                              refine x_iald 171 (z := A_177 (378 + nn) (3 * k)) rfl (by show 378 + nn < 378 + (nn + 2); omega) hkD (by omega) (hk.2.1 _ _ (by omega)) ?_
                              refine x_icmp_eq 172 (tgt := 334) rfl (by decide) (by omega) (fun h203 => by exfalso; omega) (fun h203 => ?_)
                              have hbit := gF_bit (W := B.1) (y := k) (d := (plT B.1).1 k) (by omega) hto2.2.2.2.2
                              rw [← hd0] at hbit
                              have hgfb := gFits_bd B.1 k
                              refine x_aload_n 173 rfl rfl ?_
                              refine x_iload 174 rfl rfl ?_
                              refine x_iconst 175 rfl ?_
                              refine x_callV 176 m_X8_singer (c_b_singer hk.1 hB (by omega) (by omega)) rfl ok_X8_singer b_lt0 k_0 rfl rfl ml_L_70 im_X8_singer se_X8_singer rfl (by decide) rfl (Nat.le_of_ble_eq_true rfl) rfl rfl (fun v g q204 => ?_)
                              obtain ⟨rfl, i205, li205, rfl, hk⟩ := kQ_of hk q204
                              have hk : kp bb A_177 i bE (B) i205 li205 := hk
                              show mX m_L_isHeld 9 _ 0 0 _ _ [vI (anSinger k 4 B.1)] _
                              refine x_eqS (S' := [vI (gFits B.1 k)]) (by rw [anS4 (by omega) (by omega)]) ?_
                              refine x_aload_n 177 rfl rfl ?_
                              refine x_iconst 178 rfl ?_
                              refine x_iload 179 rfl rfl ?_
                              refine x_imul 180 (r := 3 * k) rfl rfl ?_
                              refine x_iald 181 (z := A_177 (378 + nn) (3 * k)) rfl (by show 378 + nn < 378 + (nn + 2); omega) hkD (by omega) (hk.2.1 _ _ (by omega)) ?_
                              refine x_ishr 182 (r := (gFits B.1 k) / 2 ^ (A_177 (378 + nn) (3 * k)).toNat) rfl (by omega) rfl ?_
                              refine x_iconst 183 rfl ?_
                              refine x_iandm 184 1 (r := ((gFits B.1 k) / 2 ^ (A_177 (378 + nn) (3 * k)).toNat) % 2) rfl (by decide) (by decide) rfl ?_
                              refine x_iconst 185 rfl ?_
                              refine x_icmp_ne 186 (tgt := 334) rfl (by decide) (by omega) (fun h206 => by exfalso; omega) (fun h206 => ?_)
                              refine x_iconst 187 rfl ?_
                              refine x_goto 188 (tgt := 335) rfl (by decide) ?_
                              refine x_istore 190 (L' := [some (vR (some (ob bb))), some (vI (B.1 11)), some (vI (B.1 4)), some (vR (some (378 + nn))), some (vR (some (378 + (nn + 1)))), some (vI (so)), some (vI (sn + 1)), some (vI (k)), some (vI (anPassed k B.1)), some (vI (sV B.1 k 2)), some (vI (1)), none]) rfl (by decide) rfl rfl ?_
                              refine x_iload 191 rfl rfl ?_
                              refine x_if_eq 192 (tgt := 353) rfl (by decide) (by decide) (fun h207 => absurd h207 (by decide)) (fun h207 => ?_)
                              refine x_iload 193 rfl rfl ?_
                              refine x_if_lt 194 (tgt := 353) rfl (by decide) (by omega) (fun h208 => by exfalso; omega) (fun h208 => ?_)
                              refine x_iload 195 rfl rfl ?_
                              refine x_iconst 196 rfl ?_
                              refine x_icmp_le 197 (tgt := 355) rfl (by decide) (by omega) (fun h209 => ?_) (fun h209 => by exfalso; omega)
                              refine x_iinc 200 (L' := [some (vR (some (ob bb))), some (vI (B.1 11)), some (vI (B.1 4)), some (vR (some (378 + nn))), some (vR (some (378 + (nn + 1)))), some (vI (so)), some (vI (sn + 1)), some (vI (k + 1)), some (vI (anPassed k B.1)), some (vI (sV B.1 k 2)), some (vI (1)), none]) rfl (by decide) rfl rfl rfl rfl ?_
                              refine x_goto 201 (tgt := 111) rfl (by decide) ?_
                              refine x_dropL (L' := [some (vR (some (ob bb))), some (vI (B.1 11)), some (vI (B.1 4)), some (vR (some (378 + nn))), some (vR (some (378 + (nn + 1)))), some (vI (so)), some (vI (sn + 1)), some (vI (k + 1)), none, none, none, none]) ⟨rfl, ⟨rfl, ⟨rfl, ⟨rfl, ⟨rfl, ⟨rfl, ⟨rfl, ⟨rfl, True.intro⟩⟩⟩⟩⟩⟩⟩⟩ ?_
                              exact ihL13 i205 A_177 li205 (k + 1) (sn + 1) (by omega) (hE177) (by intro j h0 h1; by_cases e : j = k; (rw [e]; exact hD177); (have h3 := hD j h0 (by omega); rw [hA_177, hA_161, hA_145]; simp only [mU]; rw [if_neg (by omega), if_neg (by omega), if_neg (by omega), if_neg (by omega), if_neg (by omega), if_neg (by omega), if_neg (by omega), if_neg (by omega), if_neg (by omega)]; exact h3)) (⟨by rw [sumZ_s fs hx.1, ← hsn.1]; omega, by omega, by omega⟩) (hk) (by omega)
                          · refine x_iconst 139 rfl ?_
                            refine x_goto 140 (tgt := 252) rfl (by decide) ?_
                            refine x_icmp_ne 142 (tgt := 334) rfl (by decide) (by decide) (fun h210 => by exfalso; omega) (fun h210 => absurd h210 (by decide))
                        · refine x_iconst 129 rfl ?_
                          refine x_goto 130 (tgt := 232) rfl (by decide) ?_
                          refine x_iload 132 rfl rfl ?_
                          refine x_if_lt 133 (tgt := 251) rfl (by decide) (by omega) (fun h211 => absurd h211 (by omega)) (fun h211 => ?_)
                          have hEp := hE177 (sV B.1 k 2) (by omega) (by omega)
                          have hplb := plS_bd B.1 (sV B.1 k 2) hN.1.1
                          refine x_aload 134 rfl rfl ?_
                          refine x_iload 135 rfl rfl ?_
                          refine x_iald 136 (z := A_177 (378 + (nn + 1)) (sV B.1 k 2)) rfl (by show 378 + (nn + 1) < 378 + (nn + 2); omega) hkE (by omega) (hk.2.1 _ _ (by omega)) ?_
                          refine x_iload 137 rfl rfl ?_
                          refine x_icmp_ne 138 (tgt := 251) rfl (by decide) (by omega) (fun h212 => ?_) (fun h212 => ?_)
                          · refine x_iconst 141 rfl ?_
                            refine x_icmp_ne 142 (tgt := 334) rfl (by decide) (by decide) (fun h213 => by exfalso; omega) (fun h213 => absurd h213 (by decide))
                          · refine x_iconst 139 rfl ?_
                            refine x_goto 140 (tgt := 252) rfl (by decide) ?_
                            refine x_icmp_ne 142 (tgt := 334) rfl (by decide) (by decide) (fun h214 => absurd h214 (by decide)) (fun h214 => ?_)
                            refine x_iload 143 rfl rfl ?_
                            refine x_iconst 144 rfl ?_
                            refine x_icmp_ne 145 (tgt := 272) rfl (by decide) (by omega) (fun h215 => ?_) (fun h215 => ?_)
                            · refine x_aload_n 151 rfl rfl ?_
                              refine x_iconst 152 rfl ?_
                              refine x_iload 153 rfl rfl ?_
                              refine x_imul 154 (r := 3 * k) rfl rfl ?_
                              refine x_iald 155 (z := A_177 (378 + nn) (3 * k)) rfl (by show 378 + nn < 378 + (nn + 2); omega) hkD (by omega) (hk.2.1 _ _ (by omega)) ?_
                              refine x_if_lt 156 (tgt := 330) rfl (by decide) (by omega) (fun h216 => absurd h216 (by omega)) (fun h216 => ?_)
                              refine x_iload 157 rfl rfl ?_
                              refine x_iconst 158 rfl ?_
                              refine x_icmp_ne 159 (tgt := 334) rfl (by decide) (by omega) (fun h217 => by exfalso; omega) (fun h217 => ?_)
                              refine x_aload_n 160 rfl rfl ?_
                              refine x_iload 161 rfl rfl ?_
                              refine x_bipush 162 rfl (by decide) ?_
                              refine x_callV 163 m_X8_singer (c_b_singer hk.1 hB (by omega) (by omega)) rfl ok_X8_singer b_lt0 k_0 rfl rfl ml_L_70 im_X8_singer se_X8_singer rfl (by decide) rfl (Nat.le_of_ble_eq_true rfl) rfl rfl (fun v g q218 => ?_)
                              obtain ⟨rfl, i219, li219, rfl, hk⟩ := kQ_of hk q218
                              have hk : kp bb A_177 i bE (B) i219 li219 := hk
                              show mX m_L_isHeld 9 _ 0 0 _ _ [vI (anSinger k 6 B.1)] _
                              refine x_eqS (S' := [vI (sV B.1 k 3)]) (by rw [anS6 (by omega) (by omega)]) ?_
                              refine x_iconst 164 rfl ?_
                              refine x_icmp_ne 165 (tgt := 334) rfl (by decide) (by omega) (fun h220 => by exfalso; omega) (fun h220 => ?_)
                              refine x_iload 166 rfl rfl ?_
                              refine x_aload_n 167 rfl rfl ?_
                              refine x_iconst 168 rfl ?_
                              refine x_iload 169 rfl rfl ?_
                              refine x_imul 170 (r := 3 * k) rfl rfl ?_
                              refine x_iald 171 (z := A_177 (378 + nn) (3 * k)) rfl (by show 378 + nn < 378 + (nn + 2); omega) hkD (by omega) (hk.2.1 _ _ (by omega)) ?_
                              refine x_icmp_eq 172 (tgt := 334) rfl (by decide) (by omega) (fun h221 => by exfalso; omega) (fun h221 => ?_)
                              have hbit := gF_bit (W := B.1) (y := k) (d := (plT B.1).1 k) (by omega) hto2.2.2.2.2
                              rw [← hd0] at hbit
                              have hgfb := gFits_bd B.1 k
                              refine x_aload_n 173 rfl rfl ?_
                              refine x_iload 174 rfl rfl ?_
                              refine x_iconst 175 rfl ?_
                              refine x_callV 176 m_X8_singer (c_b_singer hk.1 hB (by omega) (by omega)) rfl ok_X8_singer b_lt0 k_0 rfl rfl ml_L_70 im_X8_singer se_X8_singer rfl (by decide) rfl (Nat.le_of_ble_eq_true rfl) rfl rfl (fun v g q222 => ?_)
                              obtain ⟨rfl, i223, li223, rfl, hk⟩ := kQ_of hk q222
                              have hk : kp bb A_177 i bE (B) i223 li223 := hk
                              show mX m_L_isHeld 9 _ 0 0 _ _ [vI (anSinger k 4 B.1)] _
                              refine x_eqS (S' := [vI (gFits B.1 k)]) (by rw [anS4 (by omega) (by omega)]) ?_
                              refine x_aload_n 177 rfl rfl ?_
                              refine x_iconst 178 rfl ?_
                              refine x_iload 179 rfl rfl ?_
                              refine x_imul 180 (r := 3 * k) rfl rfl ?_
                              refine x_iald 181 (z := A_177 (378 + nn) (3 * k)) rfl (by show 378 + nn < 378 + (nn + 2); omega) hkD (by omega) (hk.2.1 _ _ (by omega)) ?_
                              refine x_ishr 182 (r := (gFits B.1 k) / 2 ^ (A_177 (378 + nn) (3 * k)).toNat) rfl (by omega) rfl ?_
                              refine x_iconst 183 rfl ?_
                              refine x_iandm 184 1 (r := ((gFits B.1 k) / 2 ^ (A_177 (378 + nn) (3 * k)).toNat) % 2) rfl (by decide) (by decide) rfl ?_
                              refine x_iconst 185 rfl ?_
                              refine x_icmp_ne 186 (tgt := 334) rfl (by decide) (by omega) (fun h224 => by exfalso; omega) (fun h224 => ?_)
                              refine x_iconst 187 rfl ?_
                              refine x_goto 188 (tgt := 335) rfl (by decide) ?_
                              refine x_istore 190 (L' := [some (vR (some (ob bb))), some (vI (B.1 11)), some (vI (B.1 4)), some (vR (some (378 + nn))), some (vR (some (378 + (nn + 1)))), some (vI (so)), some (vI (sn + 1)), some (vI (k)), some (vI (anPassed k B.1)), some (vI (sV B.1 k 2)), some (vI (1)), none]) rfl (by decide) rfl rfl ?_
                              refine x_iload 191 rfl rfl ?_
                              refine x_if_eq 192 (tgt := 353) rfl (by decide) (by decide) (fun h225 => absurd h225 (by decide)) (fun h225 => ?_)
                              refine x_iload 193 rfl rfl ?_
                              refine x_if_lt 194 (tgt := 353) rfl (by decide) (by omega) (fun h226 => by exfalso; omega) (fun h226 => ?_)
                              refine x_iload 195 rfl rfl ?_
                              refine x_iconst 196 rfl ?_
                              refine x_icmp_le 197 (tgt := 355) rfl (by decide) (by omega) (fun h227 => ?_) (fun h227 => by exfalso; omega)
                              refine x_iinc 200 (L' := [some (vR (some (ob bb))), some (vI (B.1 11)), some (vI (B.1 4)), some (vR (some (378 + nn))), some (vR (some (378 + (nn + 1)))), some (vI (so)), some (vI (sn + 1)), some (vI (k + 1)), some (vI (anPassed k B.1)), some (vI (sV B.1 k 2)), some (vI (1)), none]) rfl (by decide) rfl rfl rfl rfl ?_
                              refine x_goto 201 (tgt := 111) rfl (by decide) ?_
                              refine x_dropL (L' := [some (vR (some (ob bb))), some (vI (B.1 11)), some (vI (B.1 4)), some (vR (some (378 + nn))), some (vR (some (378 + (nn + 1)))), some (vI (so)), some (vI (sn + 1)), some (vI (k + 1)), none, none, none, none]) ⟨rfl, ⟨rfl, ⟨rfl, ⟨rfl, ⟨rfl, ⟨rfl, ⟨rfl, ⟨rfl, True.intro⟩⟩⟩⟩⟩⟩⟩⟩ ?_
                              exact ihL13 i223 A_177 li223 (k + 1) (sn + 1) (by omega) (hE177) (by intro j h0 h1; by_cases e : j = k; (rw [e]; exact hD177); (have h3 := hD j h0 (by omega); rw [hA_177, hA_161, hA_145]; simp only [mU]; rw [if_neg (by omega), if_neg (by omega), if_neg (by omega), if_neg (by omega), if_neg (by omega), if_neg (by omega), if_neg (by omega), if_neg (by omega), if_neg (by omega)]; exact h3)) (⟨by rw [sumZ_s fs hx.1, ← hsn.1]; omega, by omega, by omega⟩) (hk) (by omega)
                            · refine x_aload_n 146 rfl rfl ?_
                              refine x_iload 147 rfl rfl ?_
                              refine x_bipush 148 rfl (by decide) ?_
                              refine x_callV 149 m_X8_singer (c_b_singer hk.1 hB (by omega) (by omega)) rfl ok_X8_singer b_lt0 k_0 rfl rfl ml_L_70 im_X8_singer se_X8_singer rfl (by decide) rfl (Nat.le_of_ble_eq_true rfl) rfl rfl (fun v g q228 => ?_)
                              obtain ⟨rfl, i229, li229, rfl, hk⟩ := kQ_of hk q228
                              have hk : kp bb A_177 i bE (B) i229 li229 := hk
                              show mX m_L_isHeld 9 _ 0 0 _ _ [vI (anSinger k 6 B.1)] _
                              refine x_eqS (S' := [vI (sV B.1 k 3)]) (by rw [anS6 (by omega) (by omega)]) ?_
                              refine x_if_ne 150 (tgt := 334) rfl (by decide) (by omega) (fun h230 => by exfalso; omega) (fun h230 => ?_)
                              refine x_aload_n 151 rfl rfl ?_
                              refine x_iconst 152 rfl ?_
                              refine x_iload 153 rfl rfl ?_
                              refine x_imul 154 (r := 3 * k) rfl rfl ?_
                              refine x_iald 155 (z := A_177 (378 + nn) (3 * k)) rfl (by show 378 + nn < 378 + (nn + 2); omega) hkD (by omega) (hk.2.1 _ _ (by omega)) ?_
                              refine x_if_lt 156 (tgt := 330) rfl (by decide) (by omega) (fun h231 => absurd h231 (by omega)) (fun h231 => ?_)
                              refine x_iload 157 rfl rfl ?_
                              refine x_iconst 158 rfl ?_
                              refine x_icmp_ne 159 (tgt := 334) rfl (by decide) (by omega) (fun h232 => by exfalso; omega) (fun h232 => ?_)
                              refine x_aload_n 160 rfl rfl ?_
                              refine x_iload 161 rfl rfl ?_
                              refine x_bipush 162 rfl (by decide) ?_
                              refine x_callV 163 m_X8_singer (c_b_singer hk.1 hB (by omega) (by omega)) rfl ok_X8_singer b_lt0 k_0 rfl rfl ml_L_70 im_X8_singer se_X8_singer rfl (by decide) rfl (Nat.le_of_ble_eq_true rfl) rfl rfl (fun v g q233 => ?_)
                              obtain ⟨rfl, i234, li234, rfl, hk⟩ := kQ_of hk q233
                              have hk : kp bb A_177 i bE (B) i234 li234 := hk
                              show mX m_L_isHeld 9 _ 0 0 _ _ [vI (anSinger k 6 B.1)] _
                              refine x_eqS (S' := [vI (sV B.1 k 3)]) (by rw [anS6 (by omega) (by omega)]) ?_
                              refine x_iconst 164 rfl ?_
                              refine x_icmp_ne 165 (tgt := 334) rfl (by decide) (by omega) (fun h235 => by exfalso; omega) (fun h235 => ?_)
                              refine x_iload 166 rfl rfl ?_
                              refine x_aload_n 167 rfl rfl ?_
                              refine x_iconst 168 rfl ?_
                              refine x_iload 169 rfl rfl ?_
                              refine x_imul 170 (r := 3 * k) rfl rfl ?_
                              refine x_iald 171 (z := A_177 (378 + nn) (3 * k)) rfl (by show 378 + nn < 378 + (nn + 2); omega) hkD (by omega) (hk.2.1 _ _ (by omega)) ?_
                              refine x_icmp_eq 172 (tgt := 334) rfl (by decide) (by omega) (fun h236 => by exfalso; omega) (fun h236 => ?_)
                              have hbit := gF_bit (W := B.1) (y := k) (d := (plT B.1).1 k) (by omega) hto2.2.2.2.2
                              rw [← hd0] at hbit
                              have hgfb := gFits_bd B.1 k
                              refine x_aload_n 173 rfl rfl ?_
                              refine x_iload 174 rfl rfl ?_
                              refine x_iconst 175 rfl ?_
                              refine x_callV 176 m_X8_singer (c_b_singer hk.1 hB (by omega) (by omega)) rfl ok_X8_singer b_lt0 k_0 rfl rfl ml_L_70 im_X8_singer se_X8_singer rfl (by decide) rfl (Nat.le_of_ble_eq_true rfl) rfl rfl (fun v g q237 => ?_)
                              obtain ⟨rfl, i238, li238, rfl, hk⟩ := kQ_of hk q237
                              have hk : kp bb A_177 i bE (B) i238 li238 := hk
                              show mX m_L_isHeld 9 _ 0 0 _ _ [vI (anSinger k 4 B.1)] _
                              refine x_eqS (S' := [vI (gFits B.1 k)]) (by rw [anS4 (by omega) (by omega)]) ?_
                              refine x_aload_n 177 rfl rfl ?_
                              refine x_iconst 178 rfl ?_
                              refine x_iload 179 rfl rfl ?_
                              refine x_imul 180 (r := 3 * k) rfl rfl ?_
                              refine x_iald 181 (z := A_177 (378 + nn) (3 * k)) rfl (by show 378 + nn < 378 + (nn + 2); omega) hkD (by omega) (hk.2.1 _ _ (by omega)) ?_
                              refine x_ishr 182 (r := (gFits B.1 k) / 2 ^ (A_177 (378 + nn) (3 * k)).toNat) rfl (by omega) rfl ?_
                              refine x_iconst 183 rfl ?_
                              refine x_iandm 184 1 (r := ((gFits B.1 k) / 2 ^ (A_177 (378 + nn) (3 * k)).toNat) % 2) rfl (by decide) (by decide) rfl ?_
                              refine x_iconst 185 rfl ?_
                              refine x_icmp_ne 186 (tgt := 334) rfl (by decide) (by omega) (fun h239 => by exfalso; omega) (fun h239 => ?_)
                              refine x_iconst 187 rfl ?_
                              refine x_goto 188 (tgt := 335) rfl (by decide) ?_
                              refine x_istore 190 (L' := [some (vR (some (ob bb))), some (vI (B.1 11)), some (vI (B.1 4)), some (vR (some (378 + nn))), some (vR (some (378 + (nn + 1)))), some (vI (so)), some (vI (sn + 1)), some (vI (k)), some (vI (anPassed k B.1)), some (vI (sV B.1 k 2)), some (vI (1)), none]) rfl (by decide) rfl rfl ?_
                              refine x_iload 191 rfl rfl ?_
                              refine x_if_eq 192 (tgt := 353) rfl (by decide) (by decide) (fun h240 => absurd h240 (by decide)) (fun h240 => ?_)
                              refine x_iload 193 rfl rfl ?_
                              refine x_if_lt 194 (tgt := 353) rfl (by decide) (by omega) (fun h241 => by exfalso; omega) (fun h241 => ?_)
                              refine x_iload 195 rfl rfl ?_
                              refine x_iconst 196 rfl ?_
                              refine x_icmp_le 197 (tgt := 355) rfl (by decide) (by omega) (fun h242 => ?_) (fun h242 => by exfalso; omega)
                              refine x_iinc 200 (L' := [some (vR (some (ob bb))), some (vI (B.1 11)), some (vI (B.1 4)), some (vR (some (378 + nn))), some (vR (some (378 + (nn + 1)))), some (vI (so)), some (vI (sn + 1)), some (vI (k + 1)), some (vI (anPassed k B.1)), some (vI (sV B.1 k 2)), some (vI (1)), none]) rfl (by decide) rfl rfl rfl rfl ?_
                              refine x_goto 201 (tgt := 111) rfl (by decide) ?_
                              refine x_dropL (L' := [some (vR (some (ob bb))), some (vI (B.1 11)), some (vI (B.1 4)), some (vR (some (378 + nn))), some (vR (some (378 + (nn + 1)))), some (vI (so)), some (vI (sn + 1)), some (vI (k + 1)), none, none, none, none]) ⟨rfl, ⟨rfl, ⟨rfl, ⟨rfl, ⟨rfl, ⟨rfl, ⟨rfl, ⟨rfl, True.intro⟩⟩⟩⟩⟩⟩⟩⟩ ?_
                              exact ihL13 i238 A_177 li238 (k + 1) (sn + 1) (by omega) (hE177) (by intro j h0 h1; by_cases e : j = k; (rw [e]; exact hD177); (have h3 := hD j h0 (by omega); rw [hA_177, hA_161, hA_145]; simp only [mU]; rw [if_neg (by omega), if_neg (by omega), if_neg (by omega), if_neg (by omega), if_neg (by omega), if_neg (by omega), if_neg (by omega), if_neg (by omega), if_neg (by omega)]; exact h3)) (⟨by rw [sumZ_s fs hx.1, ← hsn.1]; omega, by omega, by omega⟩) (hk) (by omega)
                      · refine x_iconst 123 rfl ?_
                        refine x_goto 124 (tgt := 219) rfl (by decide) ?_
                        refine x_icmp_ne 126 (tgt := 334) rfl (by decide) (by decide) (fun h243 => by exfalso; omega) (fun h243 => absurd h243 (by decide))
                    · refine x_iconst 118 rfl ?_
                      refine x_goto 119 (tgt := 209) rfl (by decide) ?_
                      refine x_iload 121 rfl rfl ?_
                      refine x_if_ge 122 (tgt := 218) rfl (by decide) (by omega) (fun h244 => ?_) (fun h244 => ?_)
                      · refine x_iconst 125 rfl ?_
                        refine x_icmp_ne 126 (tgt := 334) rfl (by decide) (by decide) (fun h245 => by exfalso; omega) (fun h245 => absurd h245 (by decide))
                      · refine x_iconst 123 rfl ?_
                        refine x_goto 124 (tgt := 219) rfl (by decide) ?_
                        refine x_icmp_ne 126 (tgt := 334) rfl (by decide) (by decide) (fun h246 => absurd h246 (by decide)) (fun h246 => ?_)
                        refine x_iload 127 rfl rfl ?_
                        refine x_if_ne 128 (tgt := 231) rfl (by decide) (by omega) (fun h247 => ?_) (fun h247 => ?_)
                        · refine x_iconst 131 rfl ?_
                          refine x_iload 132 rfl rfl ?_
                          refine x_if_lt 133 (tgt := 251) rfl (by decide) (by omega) (fun h248 => ?_) (fun h248 => absurd h248 (by omega))
                          refine x_iconst 141 rfl ?_
                          refine x_icmp_ne 142 (tgt := 334) rfl (by decide) (by decide) (fun h249 => absurd h249 (by decide)) (fun h249 => ?_)
                          refine x_iload 143 rfl rfl ?_
                          refine x_iconst 144 rfl ?_
                          refine x_icmp_ne 145 (tgt := 272) rfl (by decide) (by omega) (fun h250 => ?_) (fun h250 => ?_)
                          · refine x_aload_n 151 rfl rfl ?_
                            refine x_iconst 152 rfl ?_
                            refine x_iload 153 rfl rfl ?_
                            refine x_imul 154 (r := 3 * k) rfl rfl ?_
                            refine x_iald 155 (z := A_177 (378 + nn) (3 * k)) rfl (by show 378 + nn < 378 + (nn + 2); omega) hkD (by omega) (hk.2.1 _ _ (by omega)) ?_
                            refine x_if_lt 156 (tgt := 330) rfl (by decide) (by omega) (fun h251 => absurd h251 (by omega)) (fun h251 => ?_)
                            refine x_iload 157 rfl rfl ?_
                            refine x_iconst 158 rfl ?_
                            refine x_icmp_ne 159 (tgt := 334) rfl (by decide) (by omega) (fun h252 => by exfalso; omega) (fun h252 => ?_)
                            refine x_aload_n 160 rfl rfl ?_
                            refine x_iload 161 rfl rfl ?_
                            refine x_bipush 162 rfl (by decide) ?_
                            refine x_callV 163 m_X8_singer (c_b_singer hk.1 hB (by omega) (by omega)) rfl ok_X8_singer b_lt0 k_0 rfl rfl ml_L_70 im_X8_singer se_X8_singer rfl (by decide) rfl (Nat.le_of_ble_eq_true rfl) rfl rfl (fun v g q253 => ?_)
                            obtain ⟨rfl, i254, li254, rfl, hk⟩ := kQ_of hk q253
                            have hk : kp bb A_177 i bE (B) i254 li254 := hk
                            show mX m_L_isHeld 9 _ 0 0 _ _ [vI (anSinger k 6 B.1)] _
                            refine x_eqS (S' := [vI (sV B.1 k 3)]) (by rw [anS6 (by omega) (by omega)]) ?_
                            refine x_iconst 164 rfl ?_
                            refine x_icmp_ne 165 (tgt := 334) rfl (by decide) (by omega) (fun h255 => by exfalso; omega) (fun h255 => ?_)
                            refine x_iload 166 rfl rfl ?_
                            refine x_aload_n 167 rfl rfl ?_
                            refine x_iconst 168 rfl ?_
                            refine x_iload 169 rfl rfl ?_
                            refine x_imul 170 (r := 3 * k) rfl rfl ?_
                            refine x_iald 171 (z := A_177 (378 + nn) (3 * k)) rfl (by show 378 + nn < 378 + (nn + 2); omega) hkD (by omega) (hk.2.1 _ _ (by omega)) ?_
                            refine x_icmp_eq 172 (tgt := 334) rfl (by decide) (by omega) (fun h256 => by exfalso; omega) (fun h256 => ?_)
                            have hbit := gF_bit (W := B.1) (y := k) (d := (plT B.1).1 k) (by omega) hto2.2.2.2.2
                            rw [← hd0] at hbit
                            have hgfb := gFits_bd B.1 k
                            refine x_aload_n 173 rfl rfl ?_
                            refine x_iload 174 rfl rfl ?_
                            refine x_iconst 175 rfl ?_
                            refine x_callV 176 m_X8_singer (c_b_singer hk.1 hB (by omega) (by omega)) rfl ok_X8_singer b_lt0 k_0 rfl rfl ml_L_70 im_X8_singer se_X8_singer rfl (by decide) rfl (Nat.le_of_ble_eq_true rfl) rfl rfl (fun v g q257 => ?_)
                            obtain ⟨rfl, i258, li258, rfl, hk⟩ := kQ_of hk q257
                            have hk : kp bb A_177 i bE (B) i258 li258 := hk
                            show mX m_L_isHeld 9 _ 0 0 _ _ [vI (anSinger k 4 B.1)] _
                            refine x_eqS (S' := [vI (gFits B.1 k)]) (by rw [anS4 (by omega) (by omega)]) ?_
                            refine x_aload_n 177 rfl rfl ?_
                            refine x_iconst 178 rfl ?_
                            refine x_iload 179 rfl rfl ?_
                            refine x_imul 180 (r := 3 * k) rfl rfl ?_
                            refine x_iald 181 (z := A_177 (378 + nn) (3 * k)) rfl (by show 378 + nn < 378 + (nn + 2); omega) hkD (by omega) (hk.2.1 _ _ (by omega)) ?_
                            refine x_ishr 182 (r := (gFits B.1 k) / 2 ^ (A_177 (378 + nn) (3 * k)).toNat) rfl (by omega) rfl ?_
                            refine x_iconst 183 rfl ?_
                            refine x_iandm 184 1 (r := ((gFits B.1 k) / 2 ^ (A_177 (378 + nn) (3 * k)).toNat) % 2) rfl (by decide) (by decide) rfl ?_
                            refine x_iconst 185 rfl ?_
                            refine x_icmp_ne 186 (tgt := 334) rfl (by decide) (by omega) (fun h259 => by exfalso; omega) (fun h259 => ?_)
                            refine x_iconst 187 rfl ?_
                            refine x_goto 188 (tgt := 335) rfl (by decide) ?_
                            refine x_istore 190 (L' := [some (vR (some (ob bb))), some (vI (B.1 11)), some (vI (B.1 4)), some (vR (some (378 + nn))), some (vR (some (378 + (nn + 1)))), some (vI (so)), some (vI (sn + 1)), some (vI (k)), some (vI (anPassed k B.1)), some (vI (sV B.1 k 2)), some (vI (1)), none]) rfl (by decide) rfl rfl ?_
                            refine x_iload 191 rfl rfl ?_
                            refine x_if_eq 192 (tgt := 353) rfl (by decide) (by decide) (fun h260 => absurd h260 (by decide)) (fun h260 => ?_)
                            refine x_iload 193 rfl rfl ?_
                            refine x_if_lt 194 (tgt := 353) rfl (by decide) (by omega) (fun h261 => by exfalso; omega) (fun h261 => ?_)
                            refine x_iload 195 rfl rfl ?_
                            refine x_iconst 196 rfl ?_
                            refine x_icmp_le 197 (tgt := 355) rfl (by decide) (by omega) (fun h262 => ?_) (fun h262 => by exfalso; omega)
                            refine x_iinc 200 (L' := [some (vR (some (ob bb))), some (vI (B.1 11)), some (vI (B.1 4)), some (vR (some (378 + nn))), some (vR (some (378 + (nn + 1)))), some (vI (so)), some (vI (sn + 1)), some (vI (k + 1)), some (vI (anPassed k B.1)), some (vI (sV B.1 k 2)), some (vI (1)), none]) rfl (by decide) rfl rfl rfl rfl ?_
                            refine x_goto 201 (tgt := 111) rfl (by decide) ?_
                            refine x_dropL (L' := [some (vR (some (ob bb))), some (vI (B.1 11)), some (vI (B.1 4)), some (vR (some (378 + nn))), some (vR (some (378 + (nn + 1)))), some (vI (so)), some (vI (sn + 1)), some (vI (k + 1)), none, none, none, none]) ⟨rfl, ⟨rfl, ⟨rfl, ⟨rfl, ⟨rfl, ⟨rfl, ⟨rfl, ⟨rfl, True.intro⟩⟩⟩⟩⟩⟩⟩⟩ ?_
                            exact ihL13 i258 A_177 li258 (k + 1) (sn + 1) (by omega) (hE177) (by intro j h0 h1; by_cases e : j = k; (rw [e]; exact hD177); (have h3 := hD j h0 (by omega); rw [hA_177, hA_161, hA_145]; simp only [mU]; rw [if_neg (by omega), if_neg (by omega), if_neg (by omega), if_neg (by omega), if_neg (by omega), if_neg (by omega), if_neg (by omega), if_neg (by omega), if_neg (by omega)]; exact h3)) (⟨by rw [sumZ_s fs hx.1, ← hsn.1]; omega, by omega, by omega⟩) (hk) (by omega)
                          · refine x_aload_n 146 rfl rfl ?_
                            refine x_iload 147 rfl rfl ?_
                            refine x_bipush 148 rfl (by decide) ?_
                            refine x_callV 149 m_X8_singer (c_b_singer hk.1 hB (by omega) (by omega)) rfl ok_X8_singer b_lt0 k_0 rfl rfl ml_L_70 im_X8_singer se_X8_singer rfl (by decide) rfl (Nat.le_of_ble_eq_true rfl) rfl rfl (fun v g q263 => ?_)
                            obtain ⟨rfl, i264, li264, rfl, hk⟩ := kQ_of hk q263
                            have hk : kp bb A_177 i bE (B) i264 li264 := hk
                            show mX m_L_isHeld 9 _ 0 0 _ _ [vI (anSinger k 6 B.1)] _
                            refine x_eqS (S' := [vI (sV B.1 k 3)]) (by rw [anS6 (by omega) (by omega)]) ?_
                            refine x_if_ne 150 (tgt := 334) rfl (by decide) (by omega) (fun h265 => by exfalso; omega) (fun h265 => ?_)
                            refine x_aload_n 151 rfl rfl ?_
                            refine x_iconst 152 rfl ?_
                            refine x_iload 153 rfl rfl ?_
                            refine x_imul 154 (r := 3 * k) rfl rfl ?_
                            refine x_iald 155 (z := A_177 (378 + nn) (3 * k)) rfl (by show 378 + nn < 378 + (nn + 2); omega) hkD (by omega) (hk.2.1 _ _ (by omega)) ?_
                            refine x_if_lt 156 (tgt := 330) rfl (by decide) (by omega) (fun h266 => absurd h266 (by omega)) (fun h266 => ?_)
                            refine x_iload 157 rfl rfl ?_
                            refine x_iconst 158 rfl ?_
                            refine x_icmp_ne 159 (tgt := 334) rfl (by decide) (by omega) (fun h267 => by exfalso; omega) (fun h267 => ?_)
                            refine x_aload_n 160 rfl rfl ?_
                            refine x_iload 161 rfl rfl ?_
                            refine x_bipush 162 rfl (by decide) ?_
                            refine x_callV 163 m_X8_singer (c_b_singer hk.1 hB (by omega) (by omega)) rfl ok_X8_singer b_lt0 k_0 rfl rfl ml_L_70 im_X8_singer se_X8_singer rfl (by decide) rfl (Nat.le_of_ble_eq_true rfl) rfl rfl (fun v g q268 => ?_)
                            obtain ⟨rfl, i269, li269, rfl, hk⟩ := kQ_of hk q268
                            have hk : kp bb A_177 i bE (B) i269 li269 := hk
                            show mX m_L_isHeld 9 _ 0 0 _ _ [vI (anSinger k 6 B.1)] _
                            refine x_eqS (S' := [vI (sV B.1 k 3)]) (by rw [anS6 (by omega) (by omega)]) ?_
                            refine x_iconst 164 rfl ?_
                            refine x_icmp_ne 165 (tgt := 334) rfl (by decide) (by omega) (fun h270 => by exfalso; omega) (fun h270 => ?_)
                            refine x_iload 166 rfl rfl ?_
                            refine x_aload_n 167 rfl rfl ?_
                            refine x_iconst 168 rfl ?_
                            refine x_iload 169 rfl rfl ?_
                            refine x_imul 170 (r := 3 * k) rfl rfl ?_
                            refine x_iald 171 (z := A_177 (378 + nn) (3 * k)) rfl (by show 378 + nn < 378 + (nn + 2); omega) hkD (by omega) (hk.2.1 _ _ (by omega)) ?_
                            refine x_icmp_eq 172 (tgt := 334) rfl (by decide) (by omega) (fun h271 => by exfalso; omega) (fun h271 => ?_)
                            have hbit := gF_bit (W := B.1) (y := k) (d := (plT B.1).1 k) (by omega) hto2.2.2.2.2
                            rw [← hd0] at hbit
                            have hgfb := gFits_bd B.1 k
                            refine x_aload_n 173 rfl rfl ?_
                            refine x_iload 174 rfl rfl ?_
                            refine x_iconst 175 rfl ?_
                            refine x_callV 176 m_X8_singer (c_b_singer hk.1 hB (by omega) (by omega)) rfl ok_X8_singer b_lt0 k_0 rfl rfl ml_L_70 im_X8_singer se_X8_singer rfl (by decide) rfl (Nat.le_of_ble_eq_true rfl) rfl rfl (fun v g q272 => ?_)
                            obtain ⟨rfl, i273, li273, rfl, hk⟩ := kQ_of hk q272
                            have hk : kp bb A_177 i bE (B) i273 li273 := hk
                            show mX m_L_isHeld 9 _ 0 0 _ _ [vI (anSinger k 4 B.1)] _
                            refine x_eqS (S' := [vI (gFits B.1 k)]) (by rw [anS4 (by omega) (by omega)]) ?_
                            refine x_aload_n 177 rfl rfl ?_
                            refine x_iconst 178 rfl ?_
                            refine x_iload 179 rfl rfl ?_
                            refine x_imul 180 (r := 3 * k) rfl rfl ?_
                            refine x_iald 181 (z := A_177 (378 + nn) (3 * k)) rfl (by show 378 + nn < 378 + (nn + 2); omega) hkD (by omega) (hk.2.1 _ _ (by omega)) ?_
                            refine x_ishr 182 (r := (gFits B.1 k) / 2 ^ (A_177 (378 + nn) (3 * k)).toNat) rfl (by omega) rfl ?_
                            refine x_iconst 183 rfl ?_
                            refine x_iandm 184 1 (r := ((gFits B.1 k) / 2 ^ (A_177 (378 + nn) (3 * k)).toNat) % 2) rfl (by decide) (by decide) rfl ?_
                            refine x_iconst 185 rfl ?_
                            refine x_icmp_ne 186 (tgt := 334) rfl (by decide) (by omega) (fun h274 => by exfalso; omega) (fun h274 => ?_)
                            refine x_iconst 187 rfl ?_
                            refine x_goto 188 (tgt := 335) rfl (by decide) ?_
                            refine x_istore 190 (L' := [some (vR (some (ob bb))), some (vI (B.1 11)), some (vI (B.1 4)), some (vR (some (378 + nn))), some (vR (some (378 + (nn + 1)))), some (vI (so)), some (vI (sn + 1)), some (vI (k)), some (vI (anPassed k B.1)), some (vI (sV B.1 k 2)), some (vI (1)), none]) rfl (by decide) rfl rfl ?_
                            refine x_iload 191 rfl rfl ?_
                            refine x_if_eq 192 (tgt := 353) rfl (by decide) (by decide) (fun h275 => absurd h275 (by decide)) (fun h275 => ?_)
                            refine x_iload 193 rfl rfl ?_
                            refine x_if_lt 194 (tgt := 353) rfl (by decide) (by omega) (fun h276 => by exfalso; omega) (fun h276 => ?_)
                            refine x_iload 195 rfl rfl ?_
                            refine x_iconst 196 rfl ?_
                            refine x_icmp_le 197 (tgt := 355) rfl (by decide) (by omega) (fun h277 => ?_) (fun h277 => by exfalso; omega)
                            refine x_iinc 200 (L' := [some (vR (some (ob bb))), some (vI (B.1 11)), some (vI (B.1 4)), some (vR (some (378 + nn))), some (vR (some (378 + (nn + 1)))), some (vI (so)), some (vI (sn + 1)), some (vI (k + 1)), some (vI (anPassed k B.1)), some (vI (sV B.1 k 2)), some (vI (1)), none]) rfl (by decide) rfl rfl rfl rfl ?_
                            refine x_goto 201 (tgt := 111) rfl (by decide) ?_
                            refine x_dropL (L' := [some (vR (some (ob bb))), some (vI (B.1 11)), some (vI (B.1 4)), some (vR (some (378 + nn))), some (vR (some (378 + (nn + 1)))), some (vI (so)), some (vI (sn + 1)), some (vI (k + 1)), none, none, none, none]) ⟨rfl, ⟨rfl, ⟨rfl, ⟨rfl, ⟨rfl, ⟨rfl, ⟨rfl, ⟨rfl, True.intro⟩⟩⟩⟩⟩⟩⟩⟩ ?_
                            exact ihL13 i273 A_177 li273 (k + 1) (sn + 1) (by omega) (hE177) (by intro j h0 h1; by_cases e : j = k; (rw [e]; exact hD177); (have h3 := hD j h0 (by omega); rw [hA_177, hA_161, hA_145]; simp only [mU]; rw [if_neg (by omega), if_neg (by omega), if_neg (by omega), if_neg (by omega), if_neg (by omega), if_neg (by omega), if_neg (by omega), if_neg (by omega), if_neg (by omega)]; exact h3)) (⟨by rw [sumZ_s fs hx.1, ← hsn.1]; omega, by omega, by omega⟩) (hk) (by omega)
                        · refine x_iconst 129 rfl ?_
                          refine x_goto 130 (tgt := 232) rfl (by decide) ?_
                          refine x_iload 132 rfl rfl ?_
                          refine x_if_lt 133 (tgt := 251) rfl (by decide) (by omega) (fun h278 => ?_) (fun h278 => absurd h278 (by omega))
                          refine x_iconst 141 rfl ?_
                          refine x_icmp_ne 142 (tgt := 334) rfl (by decide) (by decide) (fun h279 => by exfalso; omega) (fun h279 => absurd h279 (by decide))
            exact loopL13 ((B.1 11 - ((0))) + 1 : Int).toNat ii AA ll (0) (0) (by omega) (fun q h0 h1 => hE q h0 (by omega)) (fun j h0 h1 => by omega) (⟨rfl, by omega, by omega⟩) (hk) (by omega)
          · have hpb := plS_bd B.1 p hN.1.1
            refine x_aload 40 rfl rfl ?_
            refine x_iload 41 rfl rfl ?_
            refine x_aload_n 42 rfl rfl ?_
            refine x_iload 43 rfl rfl ?_
            refine x_iconst 44 rfl ?_
            refine x_callV 45 m_X8_part (c_b_part hk.1 hB (by omega) (by omega)) rfl ok_X8_part b_lt0 k_0 rfl rfl ml_L_85 im_X8_part se_X8_part rfl (by decide) rfl (Nat.le_of_ble_eq_true rfl) rfl rfl (fun v g q280 => ?_)
            obtain ⟨rfl, i281, li281, rfl, hk⟩ := kQ_of hk q280
            have hk : kp bb AA i bE (B) i281 li281 := hk
            show mX m_L_isHeld 9 _ 0 0 _ _ [vI (anPart p 5 B.1), vI (p), vR (some (378 + (nn + 1)))] _
            refine x_eqS (S' := [vI (plS B.1 p), vI (p), vR (some (378 + (nn + 1)))]) (by rw [anP5 (by omega)]) ?_
            obtain ⟨i282, hi282⟩ : ∃ f, f = mU i281 (378 + (nn + 1)) (p) (plS B.1 p) := ⟨_, rfl⟩
            refine x_iast 46 rfl (by show 378 + (nn + 1) < 378 + (nn + 2); omega) hkE (by omega) (g' := st (nn + 2) i282 li281) (by subst hi282; rfl) ?_
            have hk := kp_st hk hB (by omega) hi282
            obtain ⟨A_82, hA_82⟩ : ∃ f, f = mU AA (378 + (nn + 1)) (p) (plS B.1 p) := ⟨_, rfl⟩
            rw [← hA_82] at hk
            have hA82 : A_82 (378 + (nn + 1)) p = plS B.1 p := by rw [hA_82]; simp only [mU]; rw [if_pos (by simp)]
            refine x_aload 47 rfl rfl ?_
            refine x_iload 48 rfl rfl ?_
            refine x_iald 49 (z := A_82 (378 + (nn + 1)) p) rfl (by show 378 + (nn + 1) < 378 + (nn + 2); omega) hkE (by omega) (hk.2.1 _ _ (by omega)) ?_
            refine x_if_lt 50 (tgt := 98) rfl (by decide) (by omega) (fun h283 => ?_) (fun h283 => ?_)
            · have fgx : fg p = 0 := by rw [hfg]; exact if_pos (by omega)
              refine x_iload 55 rfl rfl ?_
              refine x_istore 56 (L' := [some (vR (some (ob bb))), some (vI (B.1 11)), some (vI (B.1 4)), some (vR (some (378 + nn))), some (vR (some (378 + (nn + 1)))), some (vI (so)), some (vI (0)), some (vI (p)), none, none, none, none]) rfl (by decide) rfl rfl ?_
              refine x_iinc 57 (L' := [some (vR (some (ob bb))), some (vI (B.1 11)), some (vI (B.1 4)), some (vR (some (378 + nn))), some (vR (some (378 + (nn + 1)))), some (vI (so)), some (vI (0)), some (vI (p + 1)), none, none, none, none]) rfl (by decide) rfl rfl rfl rfl ?_
              refine x_goto 58 (tgt := 65) rfl (by decide) ?_
              exact ihL11 i282 A_82 li281 (p + 1) (so) (by omega) (by intro q h0 h1; by_cases e : q = p; (rw [e]; exact hA82); (rw [hA_82]; simp only [mU]; rw [if_neg (fun z => e z.2)]; exact hE q h0 (by omega))) (⟨by rw [sumZ_s fg hp.1, ← hso.1]; omega, by omega, by omega⟩) (hk) (by omega)
            · have fgx : fg p = 1 := by rw [hfg]; exact if_neg (by omega)
              refine x_iload 51 rfl rfl ?_
              refine x_iconst 52 rfl ?_
              refine x_iadd 53 (r := so + 1) rfl rfl ?_
              refine x_goto 54 (tgt := 100) rfl (by decide) ?_
              refine x_istore 56 (L' := [some (vR (some (ob bb))), some (vI (B.1 11)), some (vI (B.1 4)), some (vR (some (378 + nn))), some (vR (some (378 + (nn + 1)))), some (vI (so + 1)), some (vI (0)), some (vI (p)), none, none, none, none]) rfl (by decide) rfl rfl ?_
              refine x_iinc 57 (L' := [some (vR (some (ob bb))), some (vI (B.1 11)), some (vI (B.1 4)), some (vR (some (378 + nn))), some (vR (some (378 + (nn + 1)))), some (vI (so + 1)), some (vI (0)), some (vI (p + 1)), none, none, none, none]) rfl (by decide) rfl rfl rfl rfl ?_
              refine x_goto 58 (tgt := 65) rfl (by decide) ?_
              exact ihL11 i282 A_82 li281 (p + 1) (so + 1) (by omega) (by intro q h0 h1; by_cases e : q = p; (rw [e]; exact hA82); (rw [hA_82]; simp only [mU]; rw [if_neg (fun z => e z.2)]; exact hE q h0 (by omega))) (⟨by rw [sumZ_s fg hp.1, ← hso.1]; omega, by omega, by omega⟩) (hk) (by omega)
      exact loopL11 ((4 - ((0))) + 1 : Int).toNat iE AE lE (0) (0) (by omega) (fun q h0 h1 => by omega) (⟨rfl, by omega, by omega⟩) (hk) (by omega)
    · refine x_aload_n 13 rfl rfl ?_
      refine x_callV 14 m_X8_hold (c_b_hold hk.1 hB) rfl ok_X8_hold b_lt0 k_0 rfl rfl ml_L_41 im_X8_hold se_X8_hold rfl (by decide) rfl (Nat.le_of_ble_eq_true rfl) rfl rfl (fun v g q284 => ?_)
      obtain ⟨rfl, i285, li285, rfl, hk⟩ := kQ_of hk q284
      have hk : kp bb i i l ((on spHold B).2) i285 li285 := hk
      have hB : okT ((on spHold B).2) := ok_hold hB
      obtain ⟨B_23, hB_23⟩ : ∃ b, b = (on spHold B).2 := ⟨_, rfl⟩
      rw [← hB_23] at hk hB
      show mX m_L_isHeld 9 _ 2 44 _ _ [vI ((on spHold B).1)] _
      refine x_eqS (S' := [vI ((if B.1 11 = 0 then (-2) else (-3)))]) (by rw [(hold_no (B := B) (by omega)).2]) ?_
      refine x_iload_n 15 rfl rfl ?_
      refine x_if_ne 16 (tgt := 35) rfl (by decide) (by omega) (fun h286 => ?_) (fun h286 => absurd h286 (by omega))
      refine x_bipush 19 rfl (by decide) ?_
      refine x_icmp_ne 20 (tgt := 44) rfl (by decide) (by omega) (fun h287 => by exfalso; omega) (fun h287 => ?_)
      refine x_iconst 21 rfl ?_
      refine x_goto 22 (tgt := 45) rfl (by decide) ?_
      refine x_ret 24 (some (vI (1))) rfl ⟨rfl, Or.inr ⟨rfl, by omega⟩⟩ ?_
      have hno := hold_no (B := B) (by omega)
      exact kp_h hk he (by rw [hB_23, hno.1]; exact hB0) (by rw [hB_23, hno.1]; exact alk_rf B) (fun _ _ _ => rfl)
