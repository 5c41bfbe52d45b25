variable {nn : Nat} {bb : Bool}
/-! two books that were handled alike answer alike -/
theorem k2_o {i : Nat → Int → Int} {l : Nat → Int → BitVec 64} {B C : bT} (hk : RelT false i l B ∧ RelT true i l C) (hB : okT B) (hC : okT C) {r : Int × bT} {v : Option mV} {g : mS} (hq : qT nn false i l r v g) : v = some (vI r.1) ∧ ∃ i' l', g = st nn i' l' ∧ (RelT false i' l' r.2 ∧ RelT true i' l' C) := by
  obtain ⟨z, i', l', rfl, rfl, rfl, hR, hf⟩ := hq
  have e0 : ob false = 0 := rfl
  have e1 : ob true = 189 := rfl
  exact ⟨rfl, i', l', rfl, hR, RelT_fr hk.2 hC (fun a b h1 h2 => (hf a b (by omega)).1) (fun a b h1 h2 => (hf a b (by omega)).2)⟩
theorem k2_q {i : Nat → Int → Int} {l : Nat → Int → BitVec 64} {B C : bT} (hk : RelT false i l B ∧ RelT true i l C) (hB : okT B) (hC : okT C) {r : Int × bT} {v : Option mV} {g : mS} (hq : qT nn true i l r v g) : v = some (vI r.1) ∧ ∃ i' l', g = st nn i' l' ∧ (RelT false i' l' B ∧ RelT true i' l' r.2) := by
  obtain ⟨z, i', l', rfl, rfl, rfl, hR, hf⟩ := hq
  have e0 : ob false = 0 := rfl
  have e1 : ob true = 189 := rfl
  exact ⟨rfl, i', l', rfl, RelT_fr hk.1 hB (fun a b h1 h2 => (hf a b (by omega)).1) (fun a b h1 h2 => (hf a b (by omega)).2), hR⟩
theorem an_wo (W : Int → Int) : anWithout (-1) W = (bsW W (-1)).1 := by unfold anWithout; rw [if_neg (by omega)]
theorem an_told {x : Int} {W : Int → Int} {PN TN : Int} (h : x < 7) : anTold x W PN TN = anTold x W 0 0 := by
  unfold anTold
  repeat' split
  all_goals first | rfl | omega
theorem bsW_bd {W : Int → Int} (hW : okW W) (y : Int) : -1 ≤ (bsW W y).1 ∧ (bsW W y).1 ≤ 100 := by
  have h2 : ∀ n : Nat, ((vwN W y n).length : Int) ≤ n := by
    intro n
    induction n with
    | zero => exact Int.le_refl _
    | succ n ih =>
      by_cases q : vmk W y n = 0
      · rw [vwN_n q]; omega
      · rw [vwN_y q, List.length_cons]; omega
  have hN := hW.n
  have h3 := h2 (W 11).toNat
  have hb := wpZ_bd (vw_g hW y) (show (vwZ W y).length ≤ 10 by show (vwN W y (W 11).toNat).length ≤ 10; omega) (2 ^ (vwZ W y).length)
  exact ⟨hb.1, hb.2.1⟩
theorem an_told_bd {W : Int → Int} (hW : okW W) {x : Int} (h0 : 0 ≤ x) (h1 : x < 7) : -1000 ≤ anTold x W 0 0 ∧ anTold x W 0 0 ≤ 1073741824 := by
  have hN := hW.n
  have hp : 0 ≤ sumZ (fun p => gMem W p) 4 ∧ sumZ (fun p => gMem W p) 4 ≤ 40 := by
    have := sumZ_bd (f := fun p => gMem W p) (x := 4) (a := 0) (b := 10) (by omega) (fun k _ _ => gMem_bd hW k)
    omega
  have ha := gAbs_bd hW
  have hc : 0 ≤ gCov W ∧ gCov W < 1073741824 := orZ_bd _ (by omega)
  unfold anTold
  repeat' split
  all_goals omega
theorem an_singer_bd {W : Int → Int} (hW : okW W) (y x : Int) : -1000 ≤ anSinger y x W ∧ anSinger y x W ≤ 1073741824 := by
  unfold anSinger
  by_cases h : 0 ≤ y ∧ y < W 11
  · rw [if_neg (fun q => q h)]
    obtain ⟨v0, v1, v2, v3, v4, v5, v6, v7⟩ := hW.v h.1 h.2
    have hr := rgZ_bd (sV W y)
    have hg := gFits_bd W y
    repeat' split
    all_goals omega
  · rw [if_pos h]; omega
set_option maxRecDepth 20000 in
set_option maxHeartbeats 2000000 in
theorem c_l_areAlike {i : Nat → Int → Int} {l : Nat → Int → BitVec 64} {B C : bT} (hk : RelT false i l B ∧ RelT true i l C) (hB : okT B) (hC : okT C) (hBC : B.1 = C.1) : mCtr m_L_areAlike 9 0 0 [vR (some (ob false)), vR (some (ob true))] (st nn i l) (fun v g => v = some (vI 1)) := by
  refine mCtr_of pl_L dc_L_areAlike (Nat.le_of_ble_eq_true rfl) rfl ?_
  show mX m_L_areAlike 9 _ 0 0 0 [some (vR (some (ob false))), some (vR (some (ob true))), none, none, none] [] (st nn i l)
  have hW := hB.1
  have hN := hW.n
  have htb := gTot_bd hW
  refine x_aload_n 0 rfl rfl ?_
  refine x_callV 1 m_X8_mean (c_b_mean hk.1 hB) rfl ok_X8_mean (b_lt0 (bb := false)) (k_0 (bb := false)) rfl rfl ml_L_88 im_X8_mean se_X8_mean rfl (by decide) rfl (Nat.le_of_ble_eq_true rfl) rfl rfl (fun v g q1 => ?_)
  obtain ⟨rfl, rfl⟩ := q1
  show mX m_L_areAlike 9 _ 0 0 _ _ [vF (mnF (gTot B.1))] _
  refine x_aload_n 2 rfl rfl ?_
  refine x_callV 3 m_X8_mean (c_b_mean hk.2 hC) rfl ok_X8_mean (b_lt0 (bb := true)) (k_0 (bb := true)) rfl rfl ml_L_88 im_X8_mean se_X8_mean rfl (by decide) rfl (Nat.le_of_ble_eq_true rfl) rfl rfl (fun v g q2 => ?_)
  obtain ⟨rfl, rfl⟩ := q2
  show mX m_L_areAlike 9 _ 0 0 _ _ [vF (mnF (gTot C.1)), vF (mnF (gTot B.1))] _
  refine x_fcmp 4 (r := 0) rfl (by rw [← hBC]; exact mn_fcmp htb) ?_
  refine x_if_ne 5 (tgt := 29) rfl (by decide) (by decide) (fun h3 => absurd h3 (by decide)) (fun h3 => ?_)
  refine x_aload_n 6 rfl rfl ?_
  refine x_iconst 7 rfl ?_
  refine x_callV 8 m_X8_without (c_b_without hk.1 hB (by omega)) rfl ok_X8_without (b_lt0 (bb := false)) (k_0 (bb := false)) rfl rfl ml_L_102 im_X8_without se_X8_without rfl (by decide) rfl (Nat.le_of_ble_eq_true rfl) rfl rfl (fun v g q4 => ?_)
  obtain ⟨rfl, i5, li5, rfl, hk⟩ := k2_o hk hB hC q4
  have hk : RelT false i5 li5 B ∧ RelT true i5 li5 C := hk
  show mX m_L_areAlike 9 _ 0 0 _ _ [vI (anWithout (-1) B.1)] _
  refine x_eqS (S' := [vI ((bsW B.1 (-1)).1)]) (by rw [an_wo]) ?_
  show mX m_L_areAlike 9 _ 0 0 _ _ [vI ((bsW B.1 (-1)).1)] _
  refine x_aload_n 9 rfl rfl ?_
  refine x_iconst 10 rfl ?_
  refine x_callV 11 m_X8_without (c_b_without hk.2 hC (by omega)) rfl ok_X8_without (b_lt0 (bb := true)) (k_0 (bb := true)) rfl rfl ml_L_102 im_X8_without se_X8_without rfl (by decide) rfl (Nat.le_of_ble_eq_true rfl) rfl rfl (fun v g q6 => ?_)
  obtain ⟨rfl, i7, li7, rfl, hk⟩ := k2_q hk hB hC q6
  have hk : RelT false i7 li7 B ∧ RelT true i7 li7 C := hk
  show mX m_L_areAlike 9 _ 0 0 _ _ [vI (anWithout (-1) C.1), vI ((bsW B.1 (-1)).1)] _
  refine x_eqS (S' := [vI ((bsW B.1 (-1)).1), vI ((bsW B.1 (-1)).1)]) (by rw [an_wo, ← hBC]) ?_
  show mX m_L_areAlike 9 _ 0 0 _ _ [vI ((bsW B.1 (-1)).1), vI ((bsW B.1 (-1)).1)] _
  refine x_icmp_ne 12 (tgt := 29) rfl (by decide) (by have := bsW_bd hW (-1); omega) (fun h8 => by exfalso; omega) (fun h8 => ?_)
  refine x_iconst 13 rfl ?_
  refine x_goto 14 (tgt := 30) rfl (by decide) ?_
  refine x_istore_n 16 (L' := [some (vR (some (ob false))), some (vR (some (ob true))), some (vI (1)), none, none]) rfl (by decide) rfl rfl ?_
  refine x_iconst 17 rfl ?_
  refine x_istore_n 18 (L' := [some (vR (some (ob false))), some (vR (some (ob true))), some (vI (1)), some (vI (0)), none]) rfl (by decide) rfl rfl ?_
  have loopL9 : ∀ (nz : Nat) (ii1 : Nat → Int → Int) (ll1 : Nat → Int → BitVec 64) (x : Int), (0 ≤ x ∧ x ≤ 7) → (RelT false ii1 ll1 B ∧ RelT true ii1 ll1 C) → (7 - x) < (nz : Int) → mX m_L_areAlike 9 (fun v g => v = some (vI 1)) 0 0 33 [some (vR (some (ob false))), some (vR (some (ob true))), some (vI (1)), some (vI (x)), none] [] (st nn ii1 ll1) := by
    intro nz
    induction nz with
    | zero => intro ii1 ll1 x hx hk hz; exact absurd hz (by omega)
    | succ nz ihL9 =>
      intro ii1 ll1 x hx hk hzL9
      refine x_iload_n 19 rfl rfl ?_
      refine x_bipush 20 rfl (by decide) ?_
      refine x_icmp_ge 21 (tgt := 68) rfl (by decide) (by omega) (fun h10 => ?_) (fun h10 => ?_)
      · refine x_iconst 37 rfl ?_
        refine x_istore_n 38 (L' := [some (vR (some (ob false))), some (vR (some (ob true))), some (vI (1)), some (vI (0)), none]) rfl (by decide) rfl rfl ?_
        have loopL11 : ∀ (nz : Nat) (ii2 : Nat → Int → Int) (ll2 : Nat → Int → BitVec 64) (k : Int), (0 ≤ k ∧ k ≤ B.1 11) → (RelT false ii2 ll2 B ∧ RelT true ii2 ll2 C) → (B.1 11 - k) < (nz : Int) → mX m_L_areAlike 9 (fun v g => v = some (vI 1)) 0 0 70 [some (vR (some (ob false))), some (vR (some (ob true))), some (vI (1)), some (vI (k)), none] [] (st nn ii2 ll2) := by
          intro nz
          induction nz with
          | zero => intro ii2 ll2 k hx hk hz; exact absurd hz (by omega)
          | succ nz ihL11 =>
            intro ii2 ll2 k hx hk hzL11
            refine x_iload_n 39 rfl rfl ?_
            refine x_aload_n 40 rfl rfl ?_
            refine x_iconst 41 rfl ?_
            refine x_callV 42 m_X8_told (c_b_told hk.1 hB (by omega)) rfl ok_X8_told (b_lt0 (bb := false)) (k_0 (bb := false)) rfl rfl ml_L_32 im_X8_told se_X8_told rfl (by decide) rfl (Nat.le_of_ble_eq_true rfl) rfl rfl (fun v g q12 => ?_)
            obtain ⟨rfl, i13, li13, rfl, hk⟩ := k2_o hk hB hC q12
            have hk : RelT false i13 li13 B ∧ RelT true i13 li13 C := hk
            show mX m_L_areAlike 9 _ 0 0 _ _ [vI (anTold 0 B.1 B.2.1 B.2.2.2.2.2.2.1), vI (k)] _
            refine x_eqS (S' := [vI (B.1 11), vI (k)]) (by rfl) ?_
            show mX m_L_areAlike 9 _ 0 0 _ _ [vI (B.1 11), vI (k)] _
            refine x_icmp_ge 43 (tgt := 128) rfl (by decide) (by omega) (fun h14 => ?_) (fun h14 => ?_)
            · refine x_iload_n 68 rfl rfl ?_
              refine x_ret 69 (some (vI (1))) rfl ⟨rfl, Or.inr ⟨rfl, by omega⟩⟩ ?_
              rfl
            · refine x_iconst 44 rfl ?_
              refine x_istore 45 (L' := [some (vR (some (ob false))), some (vR (some (ob true))), some (vI (1)), some (vI (k)), some (vI (0))]) rfl (by decide) rfl rfl ?_
              have loopL15 : ∀ (nz : Nat) (ii3 : Nat → Int → Int) (ll3 : Nat → Int → BitVec 64) (j : Int), (0 ≤ j ∧ j ≤ 10) → (RelT false ii3 ll3 B ∧ RelT true ii3 ll3 C) → (10 - j) < (nz : Int) → mX m_L_areAlike 9 (fun v g => v = some (vI 1)) 0 0 82 [some (vR (some (ob false))), some (vR (some (ob true))), some (vI (1)), some (vI (k)), some (vI (j))] [] (st nn ii3 ll3) := by
                intro nz
                induction nz with
                | zero => intro ii3 ll3 j hj hk hz; exact absurd hz (by omega)
                | succ nz ihL15 =>
                  intro ii3 ll3 j hj hk hzL15
                  refine x_iload 46 rfl rfl ?_
                  refine x_bipush 47 rfl (by decide) ?_
                  refine x_icmp_ge 48 (tgt := 122) rfl (by decide) (by omega) (fun h16 => ?_) (fun h16 => ?_)
                  · refine x_iinc 66 (L' := [some (vR (some (ob false))), some (vR (some (ob true))), some (vI (1)), some (vI (k + 1)), some (vI (j))]) rfl (by decide) rfl rfl rfl rfl ?_
                    refine x_goto 67 (tgt := 70) rfl (by decide) ?_
                    refine x_dropL (L' := [some (vR (some (ob false))), some (vR (some (ob true))), some (vI (1)), some (vI (k + 1)), none]) ⟨rfl, ⟨rfl, ⟨rfl, ⟨rfl, True.intro⟩⟩⟩⟩ ?_
                    exact ihL11 ii3 ll3 (k + 1) (by omega) (hk) (by omega)
                  · refine x_iload_n 49 rfl rfl ?_
                    refine x_if_eq 50 (tgt := 114) rfl (by decide) (by decide) (fun h17 => absurd h17 (by decide)) (fun h17 => ?_)
                    refine x_aload_n 51 rfl rfl ?_
                    refine x_iload_n 52 rfl rfl ?_
                    refine x_iload 53 rfl rfl ?_
                    refine x_callV 54 m_X8_singer (c_b_singer hk.1 hB (by omega) (by omega)) rfl ok_X8_singer (b_lt0 (bb := false)) (k_0 (bb := false)) rfl rfl ml_L_70 im_X8_singer se_X8_singer rfl (by decide) rfl (Nat.le_of_ble_eq_true rfl) rfl rfl (fun v g q18 => ?_)
                    obtain ⟨rfl, i19, li19, rfl, hk⟩ := k2_o hk hB hC q18
                    have hk : RelT false i19 li19 B ∧ RelT true i19 li19 C := hk
                    show mX m_L_areAlike 9 _ 0 0 _ _ [vI (anSinger k j B.1)] _
                    refine x_eqS (S' := [vI (anSinger k j B.1)]) (by rfl) ?_
                    show mX m_L_areAlike 9 _ 0 0 _ _ [vI (anSinger k j B.1)] _
                    refine x_aload_n 55 rfl rfl ?_
                    refine x_iload_n 56 rfl rfl ?_
                    refine x_iload 57 rfl rfl ?_
                    refine x_callV 58 m_X8_singer (c_b_singer hk.2 hC (by omega) (by omega)) rfl ok_X8_singer (b_lt0 (bb := true)) (k_0 (bb := true)) rfl rfl ml_L_70 im_X8_singer se_X8_singer rfl (by decide) rfl (Nat.le_of_ble_eq_true rfl) rfl rfl (fun v g q20 => ?_)
                    obtain ⟨rfl, i21, li21, rfl, hk⟩ := k2_q hk hB hC q20
                    have hk : RelT false i21 li21 B ∧ RelT true i21 li21 C := hk
                    show mX m_L_areAlike 9 _ 0 0 _ _ [vI (anSinger k j C.1), vI (anSinger k j B.1)] _
                    refine x_eqS (S' := [vI (anSinger k j B.1), vI (anSinger k j B.1)]) (by rw [← hBC]) ?_
                    show mX m_L_areAlike 9 _ 0 0 _ _ [vI (anSinger k j B.1), vI (anSinger k j B.1)] _
                    refine x_icmp_ne 59 (tgt := 114) rfl (by decide) (by have := an_singer_bd hW k j; omega) (fun h22 => by exfalso; omega) (fun h22 => ?_)
                    refine x_iconst 60 rfl ?_
                    refine x_goto 61 (tgt := 115) rfl (by decide) ?_
                    refine x_istore_n 63 (L' := [some (vR (some (ob false))), some (vR (some (ob true))), some (vI (1)), some (vI (k)), some (vI (j))]) rfl (by decide) rfl rfl ?_
                    refine x_iinc 64 (L' := [some (vR (some (ob false))), some (vR (some (ob true))), some (vI (1)), some (vI (k)), some (vI (j + 1))]) rfl (by decide) rfl rfl rfl rfl ?_
                    refine x_goto 65 (tgt := 82) rfl (by decide) ?_
                    exact ihL15 i21 li21 (j + 1) (by omega) (hk) (by omega)
              exact loopL15 ((10 - ((0))) + 1 : Int).toNat i13 li13 (0) (by omega) (hk) (by omega)
        exact loopL11 ((B.1 11 - ((0))) + 1 : Int).toNat ii1 ll1 (0) (by omega) (hk) (by omega)
      · refine x_iload_n 22 rfl rfl ?_
        refine x_if_eq 23 (tgt := 60) rfl (by decide) (by decide) (fun h23 => absurd h23 (by decide)) (fun h23 => ?_)
        refine x_aload_n 24 rfl rfl ?_
        refine x_iload_n 25 rfl rfl ?_
        refine x_callV 26 m_X8_told (c_b_told hk.1 hB (by omega)) rfl ok_X8_told (b_lt0 (bb := false)) (k_0 (bb := false)) rfl rfl ml_L_32 im_X8_told se_X8_told rfl (by decide) rfl (Nat.le_of_ble_eq_true rfl) rfl rfl (fun v g q24 => ?_)
        obtain ⟨rfl, i25, li25, rfl, hk⟩ := k2_o hk hB hC q24
        have hk : RelT false i25 li25 B ∧ RelT true i25 li25 C := hk
        show mX m_L_areAlike 9 _ 0 0 _ _ [vI (anTold x B.1 B.2.1 B.2.2.2.2.2.2.1)] _
        refine x_eqS (S' := [vI (anTold x B.1 0 0)]) (by rw [an_told (by omega)]) ?_
        show mX m_L_areAlike 9 _ 0 0 _ _ [vI (anTold x B.1 0 0)] _
        refine x_aload_n 27 rfl rfl ?_
        refine x_iload_n 28 rfl rfl ?_
        refine x_callV 29 m_X8_told (c_b_told hk.2 hC (by omega)) rfl ok_X8_told (b_lt0 (bb := true)) (k_0 (bb := true)) rfl rfl ml_L_32 im_X8_told se_X8_told rfl (by decide) rfl (Nat.le_of_ble_eq_true rfl) rfl rfl (fun v g q26 => ?_)
        obtain ⟨rfl, i27, li27, rfl, hk⟩ := k2_q hk hB hC q26
        have hk : RelT false i27 li27 B ∧ RelT true i27 li27 C := hk
        show mX m_L_areAlike 9 _ 0 0 _ _ [vI (anTold x C.1 C.2.1 C.2.2.2.2.2.2.1), vI (anTold x B.1 0 0)] _
        refine x_eqS (S' := [vI (anTold x B.1 0 0), vI (anTold x B.1 0 0)]) (by rw [an_told (by omega), ← hBC]) ?_
        show mX m_L_areAlike 9 _ 0 0 _ _ [vI (anTold x B.1 0 0), vI (anTold x B.1 0 0)] _
        refine x_icmp_ne 30 (tgt := 60) rfl (by decide) (by have := an_told_bd hW hx.1 (by omega); omega) (fun h28 => by exfalso; omega) (fun h28 => ?_)
        refine x_iconst 31 rfl ?_
        refine x_goto 32 (tgt := 61) rfl (by decide) ?_
        refine x_istore_n 34 (L' := [some (vR (some (ob false))), some (vR (some (ob true))), some (vI (1)), some (vI (x)), none]) rfl (by decide) rfl rfl ?_
        refine x_iinc 35 (L' := [some (vR (some (ob false))), some (vR (some (ob true))), some (vI (1)), some (vI (x + 1)), none]) rfl (by decide) rfl rfl rfl rfl ?_
        refine x_goto 36 (tgt := 33) rfl (by decide) ?_
        exact ihL9 i27 li27 (x + 1) (by omega) (hk) (by omega)
  exact loopL9 ((7 - ((0))) + 1 : Int).toNat i7 li7 (0) (by omega) (hk) (by omega)
