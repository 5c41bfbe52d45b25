variable {nn : Nat} {bb : Bool}
/-! the law's own methods: numbers, tests, attendance, changes -/
set_option maxRecDepth 20000 in
set_option maxHeartbeats 2000000 in
theorem c_low {i : Nat → Int → Int} {l : Nat → Int → BitVec 64} {v n : Int} (hn : 0 < n ∧ n < 2147483648) : mCtr m_L_low 1 0 0 [vI (v), vI (n)] (st nn i l) (qI (lo v n) (st nn i l)) := by
  refine mCtr_of pl_L dc_L_low (Nat.le_of_ble_eq_true rfl) rfl ?_
  show mX m_L_low 1 _ 0 0 0 [some (vI (v)), some (vI (n))] [] (st nn i l)
  have h31 := adI31_rg v
  refine x_iload_n 0 rfl rfl ?_
  refine x_ldci 1 (z := 2147483647) rfl cc_L_8 rfl ?_
  refine x_iand31 2 (r := adI31 v) rfl rfl ?_
  refine x_iload_n 3 rfl rfl ?_
  refine x_irem 4 (r := (adI31 v) % n) rfl (by omega) rfl ?_
  refine x_ret 5 (some (vI ((adI31 v) % n))) rfl ⟨rfl, Or.inl rfl⟩ ⟨congrArg (fun z => some (vI z)) ?_, rfl⟩
  rfl
set_option maxRecDepth 20000 in
set_option maxHeartbeats 2000000 in
theorem c_l_number {i : Nat → Int → Int} {l : Nat → Int → BitVec 64} {B : bT} (hR : RelT bb i l B) (hB : okT B) {x : Int} (hx : 0 ≤ x ∧ x ≤ 99) : mCtr m_L_number 6 0 0 [vR (some (ob bb)), vI (x)] (st nn i l) (qT nn bb i l (nmB x B)) := by
  refine mCtr_of pl_L dc_L_number (Nat.le_of_ble_eq_true rfl) rfl ?_
  show mX m_L_number 6 _ 0 0 0 [some (vR (some (ob bb))), some (vI (x)), none] [] (st nn i l)
  have hk := kp_0 hR
  refine x_iload_n 0 rfl rfl ?_
  refine x_bipush 1 rfl (by decide) ?_
  refine x_icmp_le 2 (tgt := 20) rfl (by decide) (by omega) (fun h1 => ?_) (fun h1 => ?_)
  · refine x_iconst 11 rfl ?_
    refine x_istore_n 12 (L' := [some (vR (some (ob bb))), some (vI (x)), some (vI (0))]) rfl (by decide) rfl rfl ?_
    refine x_aload_n 13 rfl rfl ?_
    refine x_bipush 14 rfl (by decide) ?_
    refine x_iload_n 15 rfl rfl ?_
    refine x_bipush 16 rfl (by decide) ?_
    refine x_irem 17 (r := x % 10) rfl (by omega) rfl ?_
    refine x_iadd 18 (r := 48 + (x % 10)) rfl rfl ?_
    refine x_callV 19 m_X8_write (c_b_write hk.1 hB (by omega)) rfl ok_X8_write b_lt0 k_0 rfl rfl ml_L_9 im_X8_write se_X8_write rfl (by decide) rfl (Nat.le_of_ble_eq_true rfl) rfl rfl (fun v g q2 => ?_)
    obtain ⟨rfl, i3, li3, rfl, hk⟩ := kQ_of hk q2
    have hk : kp bb i i l ((wrB (48 + (x % 10)) B).2) i3 li3 := hk
    have hB : okT ((wrB (48 + (x % 10)) B).2) := ok_on_wr hB _
    obtain ⟨B_30, hB_30⟩ : ∃ b, b = (wrB (48 + (x % 10)) B).2 := ⟨_, rfl⟩
    rw [← hB_30] at hk hB
    show mX m_L_number 6 _ 0 0 _ _ [vI ((wrB (48 + (x % 10)) B).1)] _
    refine x_ret 20 (some (vI ((wrB (48 + (x % 10)) B).1))) rfl ⟨rfl, Or.inl rfl⟩ ⟨_, i3, li3, rfl, rfl, ?_⟩
    subst_vars
    exact kp_fin hk (by unfold nmB; first | rw [if_pos (by omega)] | rw [if_neg (by omega)])
  · refine x_aload_n 3 rfl rfl ?_
    refine x_bipush 4 rfl (by decide) ?_
    refine x_iload_n 5 rfl rfl ?_
    refine x_bipush 6 rfl (by decide) ?_
    refine x_idiv 7 (r := x / 10) rfl (by omega) rfl ?_
    refine x_iadd 8 (r := 48 + (x / 10)) rfl rfl ?_
    refine x_callV 9 m_X8_write (c_b_write hk.1 hB (by omega)) rfl ok_X8_write b_lt0 k_0 rfl rfl ml_L_9 im_X8_write se_X8_write rfl (by decide) rfl (Nat.le_of_ble_eq_true rfl) rfl rfl (fun v g q4 => ?_)
    obtain ⟨rfl, i5, li5, rfl, hk⟩ := kQ_of hk q4
    have hk : kp bb i i l ((wrB (48 + (x / 10)) B).2) i5 li5 := hk
    have hB : okT ((wrB (48 + (x / 10)) B).2) := ok_on_wr hB _
    obtain ⟨B_14, hB_14⟩ : ∃ b, b = (wrB (48 + (x / 10)) B).2 := ⟨_, rfl⟩
    rw [← hB_14] at hk hB
    show mX m_L_number 6 _ 0 0 _ _ [vI ((wrB (48 + (x / 10)) B).1)] _
    refine x_goto 10 (tgt := 21) rfl (by decide) ?_
    refine x_istore_n 12 (L' := [some (vR (some (ob bb))), some (vI (x)), some (vI ((wrB (48 + (x / 10)) B).1))]) rfl (by decide) rfl rfl ?_
    refine x_aload_n 13 rfl rfl ?_
    refine x_bipush 14 rfl (by decide) ?_
    refine x_iload_n 15 rfl rfl ?_
    refine x_bipush 16 rfl (by decide) ?_
    refine x_irem 17 (r := x % 10) rfl (by omega) rfl ?_
    refine x_iadd 18 (r := 48 + (x % 10)) rfl rfl ?_
    refine x_callV 19 m_X8_write (c_b_write hk.1 hB (by omega)) rfl ok_X8_write b_lt0 k_0 rfl rfl ml_L_9 im_X8_write se_X8_write rfl (by decide) rfl (Nat.le_of_ble_eq_true rfl) rfl rfl (fun v g q6 => ?_)
    obtain ⟨rfl, i7, li7, rfl, hk⟩ := kQ_of hk q6
    have hk : kp bb i i l ((wrB (48 + (x % 10)) B_14).2) i7 li7 := hk
    have hB : okT ((wrB (48 + (x % 10)) B_14).2) := ok_on_wr hB _
    obtain ⟨B_30, hB_30⟩ : ∃ b, b = (wrB (48 + (x % 10)) B_14).2 := ⟨_, rfl⟩
    rw [← hB_30] at hk hB
    show mX m_L_number 6 _ 0 0 _ _ [vI ((wrB (48 + (x % 10)) B_14).1)] _
    refine x_ret 20 (some (vI ((wrB (48 + (x % 10)) B_14).1))) rfl ⟨rfl, Or.inl rfl⟩ ⟨_, i7, li7, rfl, rfl, ?_⟩
    subst_vars
    exact kp_fin hk (by unfold nmB; first | rw [if_pos (by omega)] | rw [if_neg (by omega)])
set_option maxRecDepth 20000 in
set_option maxHeartbeats 2000000 in
theorem c_l_test {i : Nat → Int → Int} {l : Nat → Int → BitVec 64} {B : bT} (hR : RelT bb i l B) (hB : okT B) {y : Int} (hy : -2147483648 ≤ y ∧ y < 2147483648) {v m : Int} : mCtr m_L_test 8 0 0 [vR (some (ob bb)), vI (y), vI (v), vI (m)] (st nn i l) (qT nn bb i l (tstB y v m B)) := by
  refine mCtr_of pl_L dc_L_test (Nat.le_of_ble_eq_true rfl) rfl ?_
  show mX m_L_test 8 _ 0 0 0 [some (vR (some (ob bb))), some (vI (y)), some (vI (v)), some (vI (m)), none, none, none, none, none] [] (st nn i l)
  have hk := kp_0 hR
  have hv3 := lo_rg v (n := 3) (by omega)
  refine x_aload_n 0 rfl rfl ?_
  refine x_callV 1 m_X8_wipe (c_b_wipe hk.1 hB) rfl ok_X8_wipe b_lt0 k_0 rfl rfl ml_L_15 im_X8_wipe se_X8_wipe rfl (by decide) rfl (Nat.le_of_ble_eq_true rfl) rfl rfl (fun v g q1 => ?_)
  obtain ⟨rfl, i2, li2, rfl, hk⟩ := kQ_of hk q1
  have hk : kp bb i i l ((on spWipe B).2) i2 li2 := hk
  have hB : okT ((on spWipe B).2) := ok_wipe hB
  obtain ⟨B_1, hB_1⟩ : ∃ b, b = (on spWipe B).2 := ⟨_, rfl⟩
  rw [← hB_1] at hk hB
  show mX m_L_test 8 _ 0 0 _ _ [vI ((on spWipe B).1)] _
  refine x_istore 2 (L' := [some (vR (some (ob bb))), some (vI (y)), some (vI (v)), some (vI (m)), some (vI ((on spWipe B).1)), none, none, none, none]) rfl (by decide) rfl rfl ?_
  refine x_iconst 3 rfl ?_
  refine x_iload_n 4 rfl rfl ?_
  refine x_iconst 5 rfl ?_
  refine x_callS 6 m_L_low (c_low (by omega)) rfl ok_L_low ml_L_19 st_L_low rfl (by decide) rfl (Nat.le_of_ble_eq_true rfl) rfl rfl (fun v g q3 => ?_)
  obtain ⟨rfl, rfl⟩ := q3
  show mX m_L_test 8 _ 0 0 _ _ [vI (lo v 3), vI (1)] _
  refine x_iadd 7 (r := 1 + (lo v 3)) rfl rfl ?_
  refine x_istore 8 (L' := [some (vR (some (ob bb))), some (vI (y)), some (vI (v)), some (vI (m)), some (vI ((on spWipe B).1)), some (vI (1 + (lo v 3))), none, none, none]) rfl (by decide) rfl rfl ?_
  refine x_iconst 9 rfl ?_
  refine x_istore 10 (L' := [some (vR (some (ob bb))), some (vI (y)), some (vI (v)), some (vI (m)), some (vI ((on spWipe B).1)), some (vI (1 + (lo v 3))), some (vI (0)), none, none]) rfl (by decide) rfl rfl ?_
  have loopL4 : ∀ (nz : Nat) (ii : Nat → Int → Int) (ll : Nat → Int → BitVec 64) (x : Int), (0 ≤ x ∧ x ≤ 1 + lo v 3) → (kp bb i i l (tsZ v m x B_1) ii ll) → (1 + lo v 3 - x) < (nz : Int) → mX m_L_test 8 (qT nn bb i l (tstB y v m B)) 0 0 18 [some (vR (some (ob bb))), some (vI (y)), some (vI (v)), some (vI (m)), none, some (vI (1 + (lo v 3))), some (vI (x)), none, none] [] (st nn ii ll) := by
    intro nz
    induction nz with
    | zero => intro ii ll x hx hk hz; exact absurd hz (by omega)
    | succ nz ihL4 =>
      intro ii ll x hx hk hzL4
      have hB := ok_tsZ hB v m x
      refine x_iload 11 rfl rfl ?_
      refine x_iload 12 rfl rfl ?_
      refine x_icmp_ge 13 (tgt := 126) rfl (by decide) (by omega) (fun h5 => ?_) (fun h5 => ?_)
      · refine x_aload_n 70 rfl rfl ?_
        refine x_iload_n 71 rfl rfl ?_
        refine x_callV 72 m_X8_test (c_b_test hk.1 hB (by omega)) rfl ok_X8_test b_lt0 k_0 rfl rfl ml_L_29 im_X8_test se_X8_test rfl (by decide) rfl (Nat.le_of_ble_eq_true rfl) rfl rfl (fun v g q6 => ?_)
        obtain ⟨rfl, i7, li7, rfl, hk⟩ := kQ_of hk q6
        have hk : kp bb i i l ((on (spTest y) (tsZ v m x B_1)).2) i7 li7 := hk
        have hB : okT ((on (spTest y) (tsZ v m x B_1)).2) := ok_test hB _
        obtain ⟨B_128, hB_128⟩ : ∃ b, b = (on (spTest y) (tsZ v m x B_1)).2 := ⟨_, rfl⟩
        rw [← hB_128] at hk hB
        show mX m_L_test 8 _ 0 0 _ _ [vI ((on (spTest y) (tsZ v m x B_1)).1)] _
        refine x_ret 73 (some (vI ((on (spTest y) (tsZ v m x B_1)).1))) rfl ⟨rfl, Or.inl rfl⟩ ⟨_, i7, li7, rfl, rfl, ?_⟩
        obtain rfl : x = 1 + lo v 3 := by omega
        subst_vars
        exact kp_fin hk rfl
      · refine x_iload_n 14 rfl rfl ?_
        refine x_iconst 15 rfl ?_
        refine x_iload 16 rfl rfl ?_
        refine x_imul 17 (r := 5 * x) rfl rfl ?_
        refine x_ishrI 18 (r := shI m (5 * x)) rfl rfl ?_
        refine x_bipush 19 rfl (by decide) ?_
        refine x_callS 20 m_L_low (c_low (by omega)) rfl ok_L_low ml_L_19 st_L_low rfl (by decide) rfl (Nat.le_of_ble_eq_true rfl) rfl rfl (fun v g q8 => ?_)
        obtain ⟨rfl, rfl⟩ := q8
        show mX m_L_test 8 _ 0 0 _ _ [vI (lo (shI m (5 * x)) 30)] _
        have h30 := lo_rg (shI m (5 * x)) (n := 30) (by omega)
        refine x_istore 21 (L' := [some (vR (some (ob bb))), some (vI (y)), some (vI (v)), some (vI (m)), none, some (vI (1 + (lo v 3))), some (vI (x)), some (vI (lo (shI m (5 * x)) 30)), none]) rfl (by decide) rfl rfl ?_
        refine x_iload 22 rfl rfl ?_
        refine x_iload_n 23 rfl rfl ?_
        refine x_iconst 24 rfl ?_
        refine x_iconst 25 rfl ?_
        refine x_iload 26 rfl rfl ?_
        refine x_imul 27 (r := 4 * x) rfl rfl ?_
        refine x_iadd 28 (r := 3 + (4 * x)) rfl rfl ?_
        refine x_ishrI 29 (r := shI v (3 + (4 * x))) rfl rfl ?_
        refine x_bipush 30 rfl (by decide) ?_
        refine x_iload 31 rfl rfl ?_
        refine x_isub 32 (r := 41 - (lo (shI m (5 * x)) 30)) rfl rfl ?_
        refine x_callS 33 m_L_low (c_low (by omega)) rfl ok_L_low ml_L_19 st_L_low rfl (by decide) rfl (Nat.le_of_ble_eq_true rfl) rfl rfl (fun v g q9 => ?_)
        obtain ⟨rfl, rfl⟩ := q9
        show mX m_L_test 8 _ 0 0 _ _ [vI (lo (shI v (3 + (4 * x))) (41 - (lo (shI m (5 * x)) 30))), vI (lo (shI m (5 * x)) 30)] _
        have h41 := lo_rg (shI v (3 + 4 * x)) (n := 41 - lo (shI m (5 * x)) 30) (by omega)
        refine x_iadd 34 (r := (lo (shI m (5 * x)) 30) + (lo (shI v (3 + (4 * x))) (41 - (lo (shI m (5 * x)) 30)))) rfl rfl ?_
        refine x_istore 35 (L' := [some (vR (some (ob bb))), some (vI (y)), some (vI (v)), some (vI (m)), none, some (vI (1 + (lo v 3))), some (vI (x)), some (vI (lo (shI m (5 * x)) 30)), some (vI ((lo (shI m (5 * x)) 30) + (lo (shI v (3 + (4 * x))) (41 - (lo (shI m (5 * x)) 30)))))]) rfl (by decide) rfl rfl ?_
        refine x_aload_n 36 rfl rfl ?_
        refine x_iload 37 rfl rfl ?_
        refine x_callS 38 m_L_number (c_l_number hk.1 hB (by omega)) rfl ok_L_number ml_L_25 st_L_number rfl (by decide) rfl (Nat.le_of_ble_eq_true rfl) rfl rfl (fun v g q10 => ?_)
        obtain ⟨rfl, i11, li11, rfl, hk⟩ := kQ_of hk q10
        have hk : kp bb i i l ((nmB (lo (shI m (5 * x)) 30) (tsZ v m x B_1)).2) i11 li11 := hk
        have hB : okT ((nmB (lo (shI m (5 * x)) 30) (tsZ v m x B_1)).2) := ok_nm hB _
        obtain ⟨B_62, hB_62⟩ : ∃ b, b = (nmB (lo (shI m (5 * x)) 30) (tsZ v m x B_1)).2 := ⟨_, rfl⟩
        rw [← hB_62] at hk hB
        show mX m_L_test 8 _ 0 0 _ _ [vI ((nmB (lo (shI m (5 * x)) 30) (tsZ v m x B_1)).1)] _
        refine x_istore 39 (L' := [some (vR (some (ob bb))), some (vI (y)), some (vI (v)), some (vI (m)), some (vI ((nmB (lo (shI m (5 * x)) 30) (tsZ v m x B_1)).1)), some (vI (1 + (lo v 3))), some (vI (x)), some (vI (lo (shI m (5 * x)) 30)), some (vI ((lo (shI m (5 * x)) 30) + (lo (shI v (3 + (4 * x))) (41 - (lo (shI m (5 * x)) 30)))))]) rfl (by decide) rfl rfl ?_
        refine x_aload_n 40 rfl rfl ?_
        refine x_bipush 41 rfl (by decide) ?_
        refine x_callV 42 m_X8_write (c_b_write hk.1 hB (by omega)) rfl ok_X8_write b_lt0 k_0 rfl rfl ml_L_9 im_X8_write se_X8_write rfl (by decide) rfl (Nat.le_of_ble_eq_true rfl) rfl rfl (fun v g q12 => ?_)
        obtain ⟨rfl, i13, li13, rfl, hk⟩ := kQ_of hk q12
        have hk : kp bb i i l ((wrB 45 B_62).2) i13 li13 := hk
        have hB : okT ((wrB 45 B_62).2) := ok_on_wr hB _
        obtain ⟨B_70, hB_70⟩ : ∃ b, b = (wrB 45 B_62).2 := ⟨_, rfl⟩
        rw [← hB_70] at hk hB
        show mX m_L_test 8 _ 0 0 _ _ [vI ((wrB 45 B_62).1)] _
        refine x_istore 43 (L' := [some (vR (some (ob bb))), some (vI (y)), some (vI (v)), some (vI (m)), some (vI ((wrB 45 B_62).1)), some (vI (1 + (lo v 3))), some (vI (x)), some (vI (lo (shI m (5 * x)) 30)), some (vI ((lo (shI m (5 * x)) 30) + (lo (shI v (3 + (4 * x))) (41 - (lo (shI m (5 * x)) 30)))))]) rfl (by decide) rfl rfl ?_
        refine x_aload_n 44 rfl rfl ?_
        refine x_iload 45 rfl rfl ?_
        refine x_callS 46 m_L_number (c_l_number hk.1 hB (by omega)) rfl ok_L_number ml_L_25 st_L_number rfl (by decide) rfl (Nat.le_of_ble_eq_true rfl) rfl rfl (fun v g q14 => ?_)
        obtain ⟨rfl, i15, li15, rfl, hk⟩ := kQ_of hk q14
        have hk : kp bb i i l ((nmB ((lo (shI m (5 * x)) 30) + (lo (shI v (3 + (4 * x))) (41 - (lo (shI m (5 * x)) 30)))) B_70).2) i15 li15 := hk
        have hB : okT ((nmB ((lo (shI m (5 * x)) 30) + (lo (shI v (3 + (4 * x))) (41 - (lo (shI m (5 * x)) 30)))) B_70).2) := ok_nm hB _
        obtain ⟨B_78, hB_78⟩ : ∃ b, b = (nmB ((lo (shI m (5 * x)) 30) + (lo (shI v (3 + (4 * x))) (41 - (lo (shI m (5 * x)) 30)))) B_70).2 := ⟨_, rfl⟩
        rw [← hB_78] at hk hB
        show mX m_L_test 8 _ 0 0 _ _ [vI ((nmB ((lo (shI m (5 * x)) 30) + (lo (shI v (3 + (4 * x))) (41 - (lo (shI m (5 * x)) 30)))) B_70).1)] _
        refine x_istore 47 (L' := [some (vR (some (ob bb))), some (vI (y)), some (vI (v)), some (vI (m)), some (vI ((nmB ((lo (shI m (5 * x)) 30) + (lo (shI v (3 + (4 * x))) (41 - (lo (shI m (5 * x)) 30)))) B_70).1)), some (vI (1 + (lo v 3))), some (vI (x)), some (vI (lo (shI m (5 * x)) 30)), some (vI ((lo (shI m (5 * x)) 30) + (lo (shI v (3 + (4 * x))) (41 - (lo (shI m (5 * x)) 30)))))]) rfl (by decide) rfl rfl ?_
        refine x_iload_n 48 rfl rfl ?_
        refine x_bipush 49 rfl (by decide) ?_
        refine x_iconst 50 rfl ?_
        refine x_iload 51 rfl rfl ?_
        refine x_imul 52 (r := 3 * x) rfl rfl ?_
        refine x_iadd 53 (r := 9 + (3 * x)) rfl rfl ?_
        refine x_ishrI 54 (r := shI v (9 + (3 * x))) rfl rfl ?_
        refine x_iconst 55 rfl ?_
        have h5 := lo_rg (shI v (9 + 3 * x)) (n := 5) (by omega)
        refine x_callS 56 m_L_low (c_low (by omega)) rfl ok_L_low ml_L_19 st_L_low rfl (by decide) rfl (Nat.le_of_ble_eq_true rfl) rfl rfl (fun v g q16 => ?_)
        obtain ⟨rfl, rfl⟩ := q16
        show mX m_L_test 8 _ 0 0 _ _ [vI (lo (shI v (9 + (3 * x))) 5)] _
        refine x_if_ne 57 (tgt := 108) rfl (by decide) (by omega) (fun h17 => ?_) (fun h17 => ?_)
        · refine x_iload 62 rfl rfl ?_
          refine x_istore 63 (L' := [some (vR (some (ob bb))), some (vI (y)), some (vI (v)), some (vI (m)), some (vI ((nmB ((lo (shI m (5 * x)) 30) + (lo (shI v (3 + (4 * x))) (41 - (lo (shI m (5 * x)) 30)))) B_70).1)), some (vI (1 + (lo v 3))), some (vI (x)), some (vI (lo (shI m (5 * x)) 30)), some (vI ((lo (shI m (5 * x)) 30) + (lo (shI v (3 + (4 * x))) (41 - (lo (shI m (5 * x)) 30)))))]) rfl (by decide) rfl rfl ?_
          refine x_aload_n 64 rfl rfl ?_
          refine x_bipush 65 rfl (by decide) ?_
          refine x_callV 66 m_X8_write (c_b_write hk.1 hB (by omega)) rfl ok_X8_write b_lt0 k_0 rfl rfl ml_L_9 im_X8_write se_X8_write rfl (by decide) rfl (Nat.le_of_ble_eq_true rfl) rfl rfl (fun v g q18 => ?_)
          obtain ⟨rfl, i19, li19, rfl, hk⟩ := kQ_of hk q18
          have hk : kp bb i i l ((wrB 32 B_78).2) i19 li19 := hk
          have hB : okT ((wrB 32 B_78).2) := ok_on_wr hB _
          obtain ⟨B_115, hB_115⟩ : ∃ b, b = (wrB 32 B_78).2 := ⟨_, rfl⟩
          rw [← hB_115] at hk hB
          show mX m_L_test 8 _ 0 0 _ _ [vI ((wrB 32 B_78).1)] _
          refine x_istore 67 (L' := [some (vR (some (ob bb))), some (vI (y)), some (vI (v)), some (vI (m)), some (vI ((wrB 32 B_78).1)), some (vI (1 + (lo v 3))), some (vI (x)), some (vI (lo (shI m (5 * x)) 30)), some (vI ((lo (shI m (5 * x)) 30) + (lo (shI v (3 + (4 * x))) (41 - (lo (shI m (5 * x)) 30)))))]) rfl (by decide) rfl rfl ?_
          refine x_iinc 68 (L' := [some (vR (some (ob bb))), some (vI (y)), some (vI (v)), some (vI (m)), some (vI ((wrB 32 B_78).1)), some (vI (1 + (lo v 3))), some (vI (x + 1)), some (vI (lo (shI m (5 * x)) 30)), some (vI ((lo (shI m (5 * x)) 30) + (lo (shI v (3 + (4 * x))) (41 - (lo (shI m (5 * x)) 30)))))]) rfl (by decide) rfl rfl rfl rfl ?_
          refine x_goto 69 (tgt := 18) rfl (by decide) ?_
          refine x_dropL (L' := [some (vR (some (ob bb))), some (vI (y)), some (vI (v)), some (vI (m)), none, some (vI (1 + (lo v 3))), some (vI (x + 1)), none, none]) ⟨rfl, ⟨rfl, ⟨rfl, ⟨rfl, ⟨rfl, ⟨rfl, True.intro⟩⟩⟩⟩⟩⟩ ?_
          exact ihL4 i19 li19 (x + 1) (by omega) (by rw [tsZ_s _ _ _ hx.1]; unfold tsS; subst_vars; first | (rw [if_pos (by omega)]; exact hk) | (rw [if_neg (by omega)]; exact hk)) (by omega)
        · refine x_aload_n 58 rfl rfl ?_
          refine x_bipush 59 rfl (by decide) ?_
          refine x_callV 60 m_X8_write (c_b_write hk.1 hB (by omega)) rfl ok_X8_write b_lt0 k_0 rfl rfl ml_L_9 im_X8_write se_X8_write rfl (by decide) rfl (Nat.le_of_ble_eq_true rfl) rfl rfl (fun v g q20 => ?_)
          obtain ⟨rfl, i21, li21, rfl, hk⟩ := kQ_of hk q20
          have hk : kp bb i i l ((wrB 33 B_78).2) i21 li21 := hk
          have hB : okT ((wrB 33 B_78).2) := ok_on_wr hB _
          obtain ⟨B_102, hB_102⟩ : ∃ b, b = (wrB 33 B_78).2 := ⟨_, rfl⟩
          rw [← hB_102] at hk hB
          show mX m_L_test 8 _ 0 0 _ _ [vI ((wrB 33 B_78).1)] _
          refine x_goto 61 (tgt := 110) rfl (by decide) ?_
          refine x_istore 63 (L' := [some (vR (some (ob bb))), some (vI (y)), some (vI (v)), some (vI (m)), some (vI ((wrB 33 B_78).1)), some (vI (1 + (lo v 3))), some (vI (x)), some (vI (lo (shI m (5 * x)) 30)), some (vI ((lo (shI m (5 * x)) 30) + (lo (shI v (3 + (4 * x))) (41 - (lo (shI m (5 * x)) 30)))))]) rfl (by decide) rfl rfl ?_
          refine x_aload_n 64 rfl rfl ?_
          refine x_bipush 65 rfl (by decide) ?_
          refine x_callV 66 m_X8_write (c_b_write hk.1 hB (by omega)) rfl ok_X8_write b_lt0 k_0 rfl rfl ml_L_9 im_X8_write se_X8_write rfl (by decide) rfl (Nat.le_of_ble_eq_true rfl) rfl rfl (fun v g q22 => ?_)
          obtain ⟨rfl, i23, li23, rfl, hk⟩ := kQ_of hk q22
          have hk : kp bb i i l ((wrB 32 B_102).2) i23 li23 := hk
          have hB : okT ((wrB 32 B_102).2) := ok_on_wr hB _
          obtain ⟨B_115, hB_115⟩ : ∃ b, b = (wrB 32 B_102).2 := ⟨_, rfl⟩
          rw [← hB_115] at hk hB
          show mX m_L_test 8 _ 0 0 _ _ [vI ((wrB 32 B_102).1)] _
          refine x_istore 67 (L' := [some (vR (some (ob bb))), some (vI (y)), some (vI (v)), some (vI (m)), some (vI ((wrB 32 B_102).1)), some (vI (1 + (lo v 3))), some (vI (x)), some (vI (lo (shI m (5 * x)) 30)), some (vI ((lo (shI m (5 * x)) 30) + (lo (shI v (3 + (4 * x))) (41 - (lo (shI m (5 * x)) 30)))))]) rfl (by decide) rfl rfl ?_
          refine x_iinc 68 (L' := [some (vR (some (ob bb))), some (vI (y)), some (vI (v)), some (vI (m)), some (vI ((wrB 32 B_102).1)), some (vI (1 + (lo v 3))), some (vI (x + 1)), some (vI (lo (shI m (5 * x)) 30)), some (vI ((lo (shI m (5 * x)) 30) + (lo (shI v (3 + (4 * x))) (41 - (lo (shI m (5 * x)) 30)))))]) rfl (by decide) rfl rfl rfl rfl ?_
          refine x_goto 69 (tgt := 18) rfl (by decide) ?_
          refine x_dropL (L' := [some (vR (some (ob bb))), some (vI (y)), some (vI (v)), some (vI (m)), none, some (vI (1 + (lo v 3))), some (vI (x + 1)), none, none]) ⟨rfl, ⟨rfl, ⟨rfl, ⟨rfl, ⟨rfl, ⟨rfl, True.intro⟩⟩⟩⟩⟩⟩ ?_
          exact ihL4 i23 li23 (x + 1) (by omega) (by rw [tsZ_s _ _ _ hx.1]; unfold tsS; subst_vars; first | (rw [if_pos (by omega)]; exact hk) | (rw [if_neg (by omega)]; exact hk)) (by omega)
  refine x_dropL (L' := [some (vR (some (ob bb))), some (vI (y)), some (vI (v)), some (vI (m)), none, some (vI (1 + (lo v 3))), some (vI (0)), none, none]) ⟨rfl, ⟨rfl, ⟨rfl, ⟨rfl, ⟨rfl, ⟨rfl, True.intro⟩⟩⟩⟩⟩⟩ ?_
  exact loopL4 ((1 + lo v 3 - ((0))) + 1 : Int).toNat i2 li2 (0) (by omega) (hk) (by omega)
set_option maxRecDepth 20000 in
set_option maxHeartbeats 2000000 in
theorem c_l_att {i : Nat → Int → Int} {l : Nat → Int → BitVec 64} {B : bT} (hR : RelT bb i l B) (hB : okT B) {v : Int} : mCtr m_L_attendance 8 0 0 [vR (some (ob bb)), vI (v)] (st nn i l) (qT nn bb i l (attB v B)) := by
  refine mCtr_of pl_L dc_L_attendance (Nat.le_of_ble_eq_true rfl) rfl ?_
  show mX m_L_attendance 8 _ 0 0 0 [some (vR (some (ob bb))), some (vI (v)), none, none, none] [] (st nn i l)
  have hk := kp_0 hR
  have hN := hB.1.n
  refine x_aload_n 0 rfl rfl ?_
  refine x_callV 1 m_X8_wipe (c_b_wipe hk.1 hB) rfl ok_X8_wipe b_lt0 k_0 rfl rfl ml_L_15 im_X8_wipe se_X8_wipe rfl (by decide) rfl (Nat.le_of_ble_eq_true rfl) rfl rfl (fun v g q1 => ?_)
  obtain ⟨rfl, i2, li2, rfl, hk⟩ := kQ_of hk q1
  have hk : kp bb i i l ((on spWipe B).2) i2 li2 := hk
  have hB : okT ((on spWipe B).2) := ok_wipe hB
  obtain ⟨B_1, hB_1⟩ : ∃ b, b = (on spWipe B).2 := ⟨_, rfl⟩
  rw [← hB_1] at hk hB
  show mX m_L_attendance 8 _ 0 0 _ _ [vI ((on spWipe B).1)] _
  have hN1 := hB.1.n
  refine x_istore_n 2 (L' := [some (vR (some (ob bb))), some (vI (v)), some (vI ((on spWipe B).1)), none, none]) rfl (by decide) rfl rfl ?_
  refine x_aload_n 3 rfl rfl ?_
  refine x_iconst 4 rfl ?_
  refine x_callV 5 m_X8_told (c_b_told hk.1 hB (by omega)) rfl ok_X8_told b_lt0 k_0 rfl rfl ml_L_32 im_X8_told se_X8_told rfl (by decide) rfl (Nat.le_of_ble_eq_true rfl) rfl rfl (fun v g q3 => ?_)
  obtain ⟨rfl, i4, li4, rfl, hk⟩ := kQ_of hk q3
  have hk : kp bb i i l (B_1) i4 li4 := hk
  show mX m_L_attendance 8 _ 0 0 _ _ [vI (B_1.1 11)] _
  refine x_istore_n 6 (L' := [some (vR (some (ob bb))), some (vI (v)), some (vI ((on spWipe B).1)), some (vI (B_1.1 11)), none]) rfl (by decide) rfl rfl ?_
  refine x_iconst 7 rfl ?_
  refine x_istore 8 (L' := [some (vR (some (ob bb))), some (vI (v)), some (vI ((on spWipe B).1)), some (vI (B_1.1 11)), some (vI (0))]) rfl (by decide) rfl rfl ?_
  have loopL5 : ∀ (nz : Nat) (ii : Nat → Int → Int) (ll : Nat → Int → BitVec 64) (x : Int), (0 ≤ x ∧ x ≤ B_1.1 11) → (kp bb i i l (atZ v x B_1) ii ll) → (B_1.1 11 - x) < (nz : Int) → mX m_L_attendance 8 (qT nn bb i l (attB v B)) 0 0 14 [some (vR (some (ob bb))), some (vI (v)), none, some (vI (B_1.1 11)), some (vI (x))] [] (st nn ii ll) := by
    intro nz
    induction nz with
    | zero => intro ii ll x hx hk hz; exact absurd hz (by omega)
    | succ nz ihL5 =>
      intro ii ll x hx hk hzL5
      have hB := ok_atZ hB v x
      refine x_iload 9 rfl rfl ?_
      refine x_iload_n 10 rfl rfl ?_
      refine x_icmp_ge 11 (tgt := 53) rfl (by decide) (by omega) (fun h6 => ?_) (fun h6 => ?_)
      · refine x_aload_n 30 rfl rfl ?_
        refine x_callV 31 m_X8_attendance (c_b_attendance hk.1 hB) rfl ok_X8_attendance b_lt0 k_0 rfl rfl ml_L_35 im_X8_attendance se_X8_attendance rfl (by decide) rfl (Nat.le_of_ble_eq_true rfl) rfl rfl (fun v g q7 => ?_)
        obtain ⟨rfl, i8, li8, rfl, hk⟩ := kQ_of hk q7
        have hk : kp bb i i l ((on spAtt (atZ v x B_1)).2) i8 li8 := hk
        have hB : okT ((on spAtt (atZ v x B_1)).2) := ok_attendance hB
        obtain ⟨B_54, hB_54⟩ : ∃ b, b = (on spAtt (atZ v x B_1)).2 := ⟨_, rfl⟩
        rw [← hB_54] at hk hB
        show mX m_L_attendance 8 _ 0 0 _ _ [vI ((on spAtt (atZ v x B_1)).1)] _
        refine x_ret 32 (some (vI ((on spAtt (atZ v x B_1)).1))) rfl ⟨rfl, Or.inl rfl⟩ ⟨_, i8, li8, rfl, rfl, ?_⟩
        obtain rfl : x = B_1.1 11 := by omega
        subst_vars
        exact kp_fin hk rfl
      · refine x_iload_n 12 rfl rfl ?_
        refine x_iconst 13 rfl ?_
        refine x_iload 14 rfl rfl ?_
        refine x_imul 15 (r := 2 * x) rfl rfl ?_
        refine x_ishrI 16 (r := shI v (2 * x)) rfl rfl ?_
        refine x_iconst 17 rfl ?_
        have h4 := lo_rg (shI v (2 * x)) (n := 4) (by omega)
        refine x_callS 18 m_L_low (c_low (by omega)) rfl ok_L_low ml_L_19 st_L_low rfl (by decide) rfl (Nat.le_of_ble_eq_true rfl) rfl rfl (fun v g q9 => ?_)
        obtain ⟨rfl, rfl⟩ := q9
        show mX m_L_attendance 8 _ 0 0 _ _ [vI (lo (shI v (2 * x)) 4)] _
        refine x_if_ne 19 (tgt := 47) rfl (by decide) (by omega) (fun h10 => ?_) (fun h10 => ?_)
        · refine x_iinc 28 (L' := [some (vR (some (ob bb))), some (vI (v)), none, some (vI (B_1.1 11)), some (vI (x + 1))]) rfl (by decide) rfl rfl rfl rfl ?_
          refine x_goto 29 (tgt := 14) rfl (by decide) ?_
          exact ihL5 ii ll (x + 1) (by omega) (by rw [atZ_s _ _ hx.1]; unfold atS; subst_vars; first | (rw [if_pos (by omega)]; exact hk) | (rw [if_neg (by omega)]; exact hk)) (by omega)
        · refine x_aload_n 20 rfl rfl ?_
          refine x_iload 21 rfl rfl ?_
          refine x_callS 22 m_L_number (c_l_number hk.1 hB (by omega)) rfl ok_L_number ml_L_25 st_L_number rfl (by decide) rfl (Nat.le_of_ble_eq_true rfl) rfl rfl (fun v g q11 => ?_)
          obtain ⟨rfl, i12, li12, rfl, hk⟩ := kQ_of hk q11
          have hk : kp bb i i l ((nmB x (atZ v x B_1)).2) i12 li12 := hk
          have hB : okT ((nmB x (atZ v x B_1)).2) := ok_nm hB _
          obtain ⟨B_36, hB_36⟩ : ∃ b, b = (nmB x (atZ v x B_1)).2 := ⟨_, rfl⟩
          rw [← hB_36] at hk hB
          show mX m_L_attendance 8 _ 0 0 _ _ [vI ((nmB x (atZ v x B_1)).1)] _
          refine x_istore_n 23 (L' := [some (vR (some (ob bb))), some (vI (v)), some (vI ((nmB x (atZ v x B_1)).1)), some (vI (B_1.1 11)), some (vI (x))]) rfl (by decide) rfl rfl ?_
          refine x_aload_n 24 rfl rfl ?_
          refine x_bipush 25 rfl (by decide) ?_
          refine x_callV 26 m_X8_write (c_b_write hk.1 hB (by omega)) rfl ok_X8_write b_lt0 k_0 rfl rfl ml_L_9 im_X8_write se_X8_write rfl (by decide) rfl (Nat.le_of_ble_eq_true rfl) rfl rfl (fun v g q13 => ?_)
          obtain ⟨rfl, i14, li14, rfl, hk⟩ := kQ_of hk q13
          have hk : kp bb i i l ((wrB 32 B_36).2) i14 li14 := hk
          have hB : okT ((wrB 32 B_36).2) := ok_on_wr hB _
          obtain ⟨B_43, hB_43⟩ : ∃ b, b = (wrB 32 B_36).2 := ⟨_, rfl⟩
          rw [← hB_43] at hk hB
          show mX m_L_attendance 8 _ 0 0 _ _ [vI ((wrB 32 B_36).1)] _
          refine x_istore_n 27 (L' := [some (vR (some (ob bb))), some (vI (v)), some (vI ((wrB 32 B_36).1)), some (vI (B_1.1 11)), some (vI (x))]) rfl (by decide) rfl rfl ?_
          refine x_iinc 28 (L' := [some (vR (some (ob bb))), some (vI (v)), some (vI ((wrB 32 B_36).1)), some (vI (B_1.1 11)), some (vI (x + 1))]) rfl (by decide) rfl rfl rfl rfl ?_
          refine x_goto 29 (tgt := 14) rfl (by decide) ?_
          refine x_dropL (L' := [some (vR (some (ob bb))), some (vI (v)), none, some (vI (B_1.1 11)), some (vI (x + 1))]) ⟨rfl, ⟨rfl, ⟨rfl, ⟨rfl, True.intro⟩⟩⟩⟩ ?_
          exact ihL5 i14 li14 (x + 1) (by omega) (by rw [atZ_s _ _ hx.1]; unfold atS; subst_vars; first | (rw [if_pos (by omega)]; exact hk) | (rw [if_neg (by omega)]; exact hk)) (by omega)
  refine x_dropL (L' := [some (vR (some (ob bb))), some (vI (v)), none, some (vI (B_1.1 11)), some (vI (0))]) ⟨rfl, ⟨rfl, ⟨rfl, ⟨rfl, True.intro⟩⟩⟩⟩ ?_
  exact loopL5 ((B_1.1 11 - ((0))) + 1 : Int).toNat i4 li4 (0) (by omega) (hk) (by omega)
set_option maxRecDepth 20000 in
set_option maxHeartbeats 2000000 in
theorem c_l_change {i : Nat → Int → Int} {l : Nat → Int → BitVec 64} {B : bT} (hR : RelT bb i l B) (hB : okT B) {v m : Int} : mCtr m_L_change 9 0 0 [vR (some (ob bb)), vI (v), vI (m)] (st nn i l) (qT nn bb i l (chB v m B)) := by
  refine mCtr_of pl_L dc_L_change (Nat.le_of_ble_eq_true rfl) rfl ?_
  show mX m_L_change 9 _ 0 0 0 [some (vR (some (ob bb))), some (vI (v)), some (vI (m)), none, none] [] (st nn i l)
  have hk := kp_0 hR
  have h22 := lo_rg v (n := 22) (by omega)
  have m2 := lo_rg m (n := 2) (by omega)
  have m4 := lo_rg m (n := 4) (by omega)
  have m5 := lo_rg m (n := 5) (by omega)
  have m9 := lo_rg m (n := 9) (by omega)
  have s121 := lo_rg (shI m 4) (n := 121) (by omega)
  have s11 := lo_rg (shI m 1) (n := 11) (by omega)
  have s15 := lo_rg (shI m 1) (n := 15) (by omega)
  have s6 := lo_rg (shI m 1) (n := 6) (by omega)
  have s2 := lo_rg (shI m 1) (n := 2) (by omega)
  have hN := hB.1.n
  refine x_aload_n 0 rfl rfl ?_
  refine x_iconst 1 rfl ?_
  refine x_callV 2 m_X8_told (c_b_told hk.1 hB (by omega)) rfl ok_X8_told b_lt0 k_0 rfl rfl ml_L_32 im_X8_told se_X8_told rfl (by decide) rfl (Nat.le_of_ble_eq_true rfl) rfl rfl (fun v g q1 => ?_)
  obtain ⟨rfl, i2, li2, rfl, hk⟩ := kQ_of hk q1
  have hk : kp bb i i l (B) i2 li2 := hk
  show mX m_L_change 9 _ 0 0 _ _ [vI (B.1 11)] _
  refine x_istore_n 3 (L' := [some (vR (some (ob bb))), some (vI (v)), some (vI (m)), some (vI (B.1 11)), none]) rfl (by decide) rfl rfl ?_
  refine x_iload_n 4 rfl rfl ?_
  have joinJ3 : ∀ (y : Int), ((B.1 11 = 0 ∧ y = 0) ∨ (B.1 11 ≠ 0 ∧ y = lo (shI v 5) (B.1 11) ∧ 0 ≤ y ∧ y < B.1 11)) → mX m_L_change 9 (qT nn bb i l (chB v m B)) 0 0 21 [some (vR (some (ob bb))), some (vI (v)), some (vI (m)), some (vI (B.1 11)), none] [vI (y)] (st nn i2 li2) := by
    intro y hy
    refine x_istore 13 (L' := [some (vR (some (ob bb))), some (vI (v)), some (vI (m)), some (vI (B.1 11)), some (vI (y))]) rfl (by decide) rfl rfl ?_
    refine x_iload_n 14 rfl rfl ?_
    refine x_bipush 15 rfl (by decide) ?_
    refine x_callS 16 m_L_low (c_low (by omega)) rfl ok_L_low ml_L_19 st_L_low rfl (by decide) rfl (Nat.le_of_ble_eq_true rfl) rfl rfl (fun v g q4 => ?_)
    obtain ⟨rfl, rfl⟩ := q4
    show mX m_L_change 9 _ 0 0 _ _ [vI (lo v 22)] _
    rcases (show (lo v 22 < 0 ∨ 20 < lo v 22) ∨ lo v 22 = 0 ∨ lo v 22 = 1 ∨ lo v 22 = 2 ∨ lo v 22 = 3 ∨ lo v 22 = 4 ∨ lo v 22 = 5 ∨ lo v 22 = 6 ∨ lo v 22 = 7 ∨ lo v 22 = 8 ∨ lo v 22 = 9 ∨ lo v 22 = 10 ∨ lo v 22 = 11 ∨ lo v 22 = 12 ∨ lo v 22 = 13 ∨ lo v 22 = 14 ∨ lo v 22 = 15 ∨ lo v 22 = 16 ∨ lo v 22 = 17 ∨ lo v 22 = 18 ∨ lo v 22 = 19 ∨ lo v 22 = 20 by omega) with h5 | h5 | h5 | h5 | h5 | h5 | h5 | h5 | h5 | h5 | h5 | h5 | h5 | h5 | h5 | h5 | h5 | h5 | h5 | h5 | h5 | h5
    · refine x_tabOut 17 (tgt := 352) rfl (by omega) h5 (by decide) ?_
      refine x_aload_n 150 rfl rfl ?_
      refine x_iload 151 rfl rfl ?_
      refine x_iload_n 152 rfl rfl ?_
      refine x_iconst 153 rfl ?_
      refine x_callS 154 m_L_low (c_low (by omega)) rfl ok_L_low ml_L_19 st_L_low rfl (by decide) rfl (Nat.le_of_ble_eq_true rfl) rfl rfl (fun v g q6 => ?_)
      obtain ⟨rfl, rfl⟩ := q6
      show mX m_L_change 9 _ 0 0 _ _ [vI (lo m 4), vI (y), vR (some (ob bb))] _
      refine x_callV 155 m_X8_place (c_b_place hk.1 hB (by omega) (by omega)) rfl ok_X8_place b_lt0 k_0 rfl rfl ml_L_53 im_X8_place se_X8_place rfl (by decide) rfl (Nat.le_of_ble_eq_true rfl) rfl rfl (fun v g q7 => ?_)
      obtain ⟨rfl, i8, li8, rfl, hk⟩ := kQ_of hk q7
      have hk : kp bb i i l ((on (spPlace y (lo m 4)) B).2) i8 li8 := hk
      have hB : okT ((on (spPlace y (lo m 4)) B).2) := ok_place hB _ _
      obtain ⟨B_360, hB_360⟩ : ∃ b, b = (on (spPlace y (lo m 4)) B).2 := ⟨_, rfl⟩
      rw [← hB_360] at hk hB
      show mX m_L_change 9 _ 0 0 _ _ [vI ((on (spPlace y (lo m 4)) B).1)] _
      refine x_ret 156 (some (vI ((on (spPlace y (lo m 4)) B).1))) rfl ⟨rfl, Or.inl rfl⟩ ⟨_, i8, li8, rfl, rfl, ?_⟩
      have hys : y = sgB v B := by unfold sgB; rcases hy with ⟨q1, q2⟩ | ⟨q1, q2, q3⟩; (rw [if_pos q1]; exact q2); (rw [if_neg q1]; exact q2)
      subst_vars
      exact kp_fin hk (by unfold chB; repeat (first | rw [if_pos (by omega)] | rw [if_neg (by omega)]))
    · refine x_tabIn 17 (off := 99) (tgt := 128) rfl (by omega) (by omega) (by rw [h5]; rfl) (by decide) ?_
      refine x_iload_n 18 rfl rfl ?_
      refine x_bipush 19 rfl (by decide) ?_
      refine x_icmp_lt 20 (tgt := 142) rfl (by decide) (by omega) (fun h9 => ?_) (fun h9 => ?_)
      · refine x_aload_n 25 rfl rfl ?_
        refine x_iconst 26 rfl ?_
        refine x_iload_n 27 rfl rfl ?_
        refine x_bipush 28 rfl (by decide) ?_
        refine x_callS 29 m_L_low (c_low (by omega)) rfl ok_L_low ml_L_19 st_L_low rfl (by decide) rfl (Nat.le_of_ble_eq_true rfl) rfl rfl (fun v g q10 => ?_)
        obtain ⟨rfl, rfl⟩ := q10
        show mX m_L_change 9 _ 0 0 _ _ [vI (lo m 9), vI (1), vR (some (ob bb))] _
        refine x_iadd 30 (r := 1 + (lo m 9)) rfl rfl ?_
        refine x_bipush 31 rfl (by decide) ?_
        refine x_iload_n 32 rfl rfl ?_
        refine x_iconst 33 rfl ?_
        refine x_ishrI 34 (r := shI m 4) rfl rfl ?_
        refine x_bipush 35 rfl (by decide) ?_
        refine x_callS 36 m_L_low (c_low (by omega)) rfl ok_L_low ml_L_19 st_L_low rfl (by decide) rfl (Nat.le_of_ble_eq_true rfl) rfl rfl (fun v g q11 => ?_)
        obtain ⟨rfl, rfl⟩ := q11
        show mX m_L_change 9 _ 0 0 _ _ [vI (lo (shI m 4) 121), vI (100), vI (1 + (lo m 9)), vR (some (ob bb))] _
        refine x_iadd 37 (r := 100 + (lo (shI m 4) 121)) rfl rfl ?_
        refine x_callV 38 m_X8_add (c_b_add hk.1 hB (by omega) (by omega)) rfl ok_X8_add b_lt0 k_0 rfl rfl ml_L_38 im_X8_add se_X8_add rfl (by decide) rfl (Nat.le_of_ble_eq_true rfl) rfl rfl (fun v g q12 => ?_)
        obtain ⟨rfl, i13, li13, rfl, hk⟩ := kQ_of hk q12
        have hk : kp bb i i l ((on (spAdd (1 + (lo m 9)) (100 + (lo (shI m 4) 121))) B).2) i13 li13 := hk
        have hB : okT ((on (spAdd (1 + (lo m 9)) (100 + (lo (shI m 4) 121))) B).2) := ok_add hB _ _
        obtain ⟨B_162, hB_162⟩ : ∃ b, b = (on (spAdd (1 + (lo m 9)) (100 + (lo (shI m 4) 121))) B).2 := ⟨_, rfl⟩
        rw [← hB_162] at hk hB
        show mX m_L_change 9 _ 0 0 _ _ [vI ((on (spAdd (1 + (lo m 9)) (100 + (lo (shI m 4) 121))) B).1)] _
        refine x_goto 39 (tgt := 172) rfl (by decide) ?_
        refine x_ret 42 (some (vI ((on (spAdd (1 + (lo m 9)) (100 + (lo (shI m 4) 121))) B).1))) rfl ⟨rfl, Or.inl rfl⟩ ⟨_, i13, li13, rfl, rfl, ?_⟩
        have hys : y = sgB v B := by unfold sgB; rcases hy with ⟨q1, q2⟩ | ⟨q1, q2, q3⟩; (rw [if_pos q1]; exact q2); (rw [if_neg q1]; exact q2)
        subst_vars
        exact kp_fin hk (by unfold chB; repeat (first | rw [if_pos (by omega)] | rw [if_neg (by omega)]))
      · refine x_iload_n 21 rfl rfl ?_
        refine x_iconst 22 rfl ?_
        refine x_callS 23 m_L_low (c_low (by omega)) rfl ok_L_low ml_L_19 st_L_low rfl (by decide) rfl (Nat.le_of_ble_eq_true rfl) rfl rfl (fun v g q14 => ?_)
        obtain ⟨rfl, rfl⟩ := q14
        show mX m_L_change 9 _ 0 0 _ _ [vI (lo m 4)] _
        refine x_if_ne 24 (tgt := 168) rfl (by decide) (by omega) (fun h15 => ?_) (fun h15 => ?_)
        · refine x_aload_n 40 rfl rfl ?_
          refine x_callV 41 m_X8_hold (c_b_hold hk.1 hB) rfl ok_X8_hold b_lt0 k_0 rfl rfl ml_L_41 im_X8_hold se_X8_hold rfl (by decide) rfl (Nat.le_of_ble_eq_true rfl) rfl rfl (fun v g q16 => ?_)
          obtain ⟨rfl, i17, li17, rfl, hk⟩ := kQ_of hk q16
          have hk : kp bb i i l ((on spHold B).2) i17 li17 := hk
          have hB : okT ((on spHold B).2) := ok_hold hB
          obtain ⟨B_169, hB_169⟩ : ∃ b, b = (on spHold B).2 := ⟨_, rfl⟩
          rw [← hB_169] at hk hB
          show mX m_L_change 9 _ 0 0 _ _ [vI ((on spHold B).1)] _
          refine x_ret 42 (some (vI ((on spHold B).1))) rfl ⟨rfl, Or.inl rfl⟩ ⟨_, i17, li17, rfl, rfl, ?_⟩
          have hys : y = sgB v B := by unfold sgB; rcases hy with ⟨q1, q2⟩ | ⟨q1, q2, q3⟩; (rw [if_pos q1]; exact q2); (rw [if_neg q1]; exact q2)
          subst_vars
          exact kp_fin hk (by unfold chB; repeat (first | rw [if_pos (by omega)] | rw [if_neg (by omega)]))
        · refine x_aload_n 25 rfl rfl ?_
          refine x_iconst 26 rfl ?_
          refine x_iload_n 27 rfl rfl ?_
          refine x_bipush 28 rfl (by decide) ?_
          refine x_callS 29 m_L_low (c_low (by omega)) rfl ok_L_low ml_L_19 st_L_low rfl (by decide) rfl (Nat.le_of_ble_eq_true rfl) rfl rfl (fun v g q18 => ?_)
          obtain ⟨rfl, rfl⟩ := q18
          show mX m_L_change 9 _ 0 0 _ _ [vI (lo m 9), vI (1), vR (some (ob bb))] _
          refine x_iadd 30 (r := 1 + (lo m 9)) rfl rfl ?_
          refine x_bipush 31 rfl (by decide) ?_
          refine x_iload_n 32 rfl rfl ?_
          refine x_iconst 33 rfl ?_
          refine x_ishrI 34 (r := shI m 4) rfl rfl ?_
          refine x_bipush 35 rfl (by decide) ?_
          refine x_callS 36 m_L_low (c_low (by omega)) rfl ok_L_low ml_L_19 st_L_low rfl (by decide) rfl (Nat.le_of_ble_eq_true rfl) rfl rfl (fun v g q19 => ?_)
          obtain ⟨rfl, rfl⟩ := q19
          show mX m_L_change 9 _ 0 0 _ _ [vI (lo (shI m 4) 121), vI (100), vI (1 + (lo m 9)), vR (some (ob bb))] _
          refine x_iadd 37 (r := 100 + (lo (shI m 4) 121)) rfl rfl ?_
          refine x_callV 38 m_X8_add (c_b_add hk.1 hB (by omega) (by omega)) rfl ok_X8_add b_lt0 k_0 rfl rfl ml_L_38 im_X8_add se_X8_add rfl (by decide) rfl (Nat.le_of_ble_eq_true rfl) rfl rfl (fun v g q20 => ?_)
          obtain ⟨rfl, i21, li21, rfl, hk⟩ := kQ_of hk q20
          have hk : kp bb i i l ((on (spAdd (1 + (lo m 9)) (100 + (lo (shI m 4) 121))) B).2) i21 li21 := hk
          have hB : okT ((on (spAdd (1 + (lo m 9)) (100 + (lo (shI m 4) 121))) B).2) := ok_add hB _ _
          obtain ⟨B_162, hB_162⟩ : ∃ b, b = (on (spAdd (1 + (lo m 9)) (100 + (lo (shI m 4) 121))) B).2 := ⟨_, rfl⟩
          rw [← hB_162] at hk hB
          show mX m_L_change 9 _ 0 0 _ _ [vI ((on (spAdd (1 + (lo m 9)) (100 + (lo (shI m 4) 121))) B).1)] _
          refine x_goto 39 (tgt := 172) rfl (by decide) ?_
          refine x_ret 42 (some (vI ((on (spAdd (1 + (lo m 9)) (100 + (lo (shI m 4) 121))) B).1))) rfl ⟨rfl, Or.inl rfl⟩ ⟨_, i21, li21, rfl, rfl, ?_⟩
          have hys : y = sgB v B := by unfold sgB; rcases hy with ⟨q1, q2⟩ | ⟨q1, q2, q3⟩; (rw [if_pos q1]; exact q2); (rw [if_neg q1]; exact q2)
          subst_vars
          exact kp_fin hk (by unfold chB; repeat (first | rw [if_pos (by omega)] | rw [if_neg (by omega)]))
    · refine x_tabIn 17 (off := 99) (tgt := 128) rfl (by omega) (by omega) (by rw [h5]; rfl) (by decide) ?_
      refine x_iload_n 18 rfl rfl ?_
      refine x_bipush 19 rfl (by decide) ?_
      refine x_icmp_lt 20 (tgt := 142) rfl (by decide) (by omega) (fun h22 => ?_) (fun h22 => ?_)
      · refine x_aload_n 25 rfl rfl ?_
        refine x_iconst 26 rfl ?_
        refine x_iload_n 27 rfl rfl ?_
        refine x_bipush 28 rfl (by decide) ?_
        refine x_callS 29 m_L_low (c_low (by omega)) rfl ok_L_low ml_L_19 st_L_low rfl (by decide) rfl (Nat.le_of_ble_eq_true rfl) rfl rfl (fun v g q23 => ?_)
        obtain ⟨rfl, rfl⟩ := q23
        show mX m_L_change 9 _ 0 0 _ _ [vI (lo m 9), vI (1), vR (some (ob bb))] _
        refine x_iadd 30 (r := 1 + (lo m 9)) rfl rfl ?_
        refine x_bipush 31 rfl (by decide) ?_
        refine x_iload_n 32 rfl rfl ?_
        refine x_iconst 33 rfl ?_
        refine x_ishrI 34 (r := shI m 4) rfl rfl ?_
        refine x_bipush 35 rfl (by decide) ?_
        refine x_callS 36 m_L_low (c_low (by omega)) rfl ok_L_low ml_L_19 st_L_low rfl (by decide) rfl (Nat.le_of_ble_eq_true rfl) rfl rfl (fun v g q24 => ?_)
        obtain ⟨rfl, rfl⟩ := q24
        show mX m_L_change 9 _ 0 0 _ _ [vI (lo (shI m 4) 121), vI (100), vI (1 + (lo m 9)), vR (some (ob bb))] _
        refine x_iadd 37 (r := 100 + (lo (shI m 4) 121)) rfl rfl ?_
        refine x_callV 38 m_X8_add (c_b_add hk.1 hB (by omega) (by omega)) rfl ok_X8_add b_lt0 k_0 rfl rfl ml_L_38 im_X8_add se_X8_add rfl (by decide) rfl (Nat.le_of_ble_eq_true rfl) rfl rfl (fun v g q25 => ?_)
        obtain ⟨rfl, i26, li26, rfl, hk⟩ := kQ_of hk q25
        have hk : kp bb i i l ((on (spAdd (1 + (lo m 9)) (100 + (lo (shI m 4) 121))) B).2) i26 li26 := hk
        have hB : okT ((on (spAdd (1 + (lo m 9)) (100 + (lo (shI m 4) 121))) B).2) := ok_add hB _ _
        obtain ⟨B_162, hB_162⟩ : ∃ b, b = (on (spAdd (1 + (lo m 9)) (100 + (lo (shI m 4) 121))) B).2 := ⟨_, rfl⟩
        rw [← hB_162] at hk hB
        show mX m_L_change 9 _ 0 0 _ _ [vI ((on (spAdd (1 + (lo m 9)) (100 + (lo (shI m 4) 121))) B).1)] _
        refine x_goto 39 (tgt := 172) rfl (by decide) ?_
        refine x_ret 42 (some (vI ((on (spAdd (1 + (lo m 9)) (100 + (lo (shI m 4) 121))) B).1))) rfl ⟨rfl, Or.inl rfl⟩ ⟨_, i26, li26, rfl, rfl, ?_⟩
        have hys : y = sgB v B := by unfold sgB; rcases hy with ⟨q1, q2⟩ | ⟨q1, q2, q3⟩; (rw [if_pos q1]; exact q2); (rw [if_neg q1]; exact q2)
        subst_vars
        exact kp_fin hk (by unfold chB; repeat (first | rw [if_pos (by omega)] | rw [if_neg (by omega)]))
      · refine x_iload_n 21 rfl rfl ?_
        refine x_iconst 22 rfl ?_
        refine x_callS 23 m_L_low (c_low (by omega)) rfl ok_L_low ml_L_19 st_L_low rfl (by decide) rfl (Nat.le_of_ble_eq_true rfl) rfl rfl (fun v g q27 => ?_)
        obtain ⟨rfl, rfl⟩ := q27
        show mX m_L_change 9 _ 0 0 _ _ [vI (lo m 4)] _
        refine x_if_ne 24 (tgt := 168) rfl (by decide) (by omega) (fun h28 => ?_) (fun h28 => ?_)
        · refine x_aload_n 40 rfl rfl ?_
          refine x_callV 41 m_X8_hold (c_b_hold hk.1 hB) rfl ok_X8_hold b_lt0 k_0 rfl rfl ml_L_41 im_X8_hold se_X8_hold rfl (by decide) rfl (Nat.le_of_ble_eq_true rfl) rfl rfl (fun v g q29 => ?_)
          obtain ⟨rfl, i30, li30, rfl, hk⟩ := kQ_of hk q29
          have hk : kp bb i i l ((on spHold B).2) i30 li30 := hk
          have hB : okT ((on spHold B).2) := ok_hold hB
          obtain ⟨B_169, hB_169⟩ : ∃ b, b = (on spHold B).2 := ⟨_, rfl⟩
          rw [← hB_169] at hk hB
          show mX m_L_change 9 _ 0 0 _ _ [vI ((on spHold B).1)] _
          refine x_ret 42 (some (vI ((on spHold B).1))) rfl ⟨rfl, Or.inl rfl⟩ ⟨_, i30, li30, rfl, rfl, ?_⟩
          have hys : y = sgB v B := by unfold sgB; rcases hy with ⟨q1, q2⟩ | ⟨q1, q2, q3⟩; (rw [if_pos q1]; exact q2); (rw [if_neg q1]; exact q2)
          subst_vars
          exact kp_fin hk (by unfold chB; repeat (first | rw [if_pos (by omega)] | rw [if_neg (by omega)]))
        · refine x_aload_n 25 rfl rfl ?_
          refine x_iconst 26 rfl ?_
          refine x_iload_n 27 rfl rfl ?_
          refine x_bipush 28 rfl (by decide) ?_
          refine x_callS 29 m_L_low (c_low (by omega)) rfl ok_L_low ml_L_19 st_L_low rfl (by decide) rfl (Nat.le_of_ble_eq_true rfl) rfl rfl (fun v g q31 => ?_)
          obtain ⟨rfl, rfl⟩ := q31
          show mX m_L_change 9 _ 0 0 _ _ [vI (lo m 9), vI (1), vR (some (ob bb))] _
          refine x_iadd 30 (r := 1 + (lo m 9)) rfl rfl ?_
          refine x_bipush 31 rfl (by decide) ?_
          refine x_iload_n 32 rfl rfl ?_
          refine x_iconst 33 rfl ?_
          refine x_ishrI 34 (r := shI m 4) rfl rfl ?_
          refine x_bipush 35 rfl (by decide) ?_
          refine x_callS 36 m_L_low (c_low (by omega)) rfl ok_L_low ml_L_19 st_L_low rfl (by decide) rfl (Nat.le_of_ble_eq_true rfl) rfl rfl (fun v g q32 => ?_)
          obtain ⟨rfl, rfl⟩ := q32
          show mX m_L_change 9 _ 0 0 _ _ [vI (lo (shI m 4) 121), vI (100), vI (1 + (lo m 9)), vR (some (ob bb))] _
          refine x_iadd 37 (r := 100 + (lo (shI m 4) 121)) rfl rfl ?_
          refine x_callV 38 m_X8_add (c_b_add hk.1 hB (by omega) (by omega)) rfl ok_X8_add b_lt0 k_0 rfl rfl ml_L_38 im_X8_add se_X8_add rfl (by decide) rfl (Nat.le_of_ble_eq_true rfl) rfl rfl (fun v g q33 => ?_)
          obtain ⟨rfl, i34, li34, rfl, hk⟩ := kQ_of hk q33
          have hk : kp bb i i l ((on (spAdd (1 + (lo m 9)) (100 + (lo (shI m 4) 121))) B).2) i34 li34 := hk
          have hB : okT ((on (spAdd (1 + (lo m 9)) (100 + (lo (shI m 4) 121))) B).2) := ok_add hB _ _
          obtain ⟨B_162, hB_162⟩ : ∃ b, b = (on (spAdd (1 + (lo m 9)) (100 + (lo (shI m 4) 121))) B).2 := ⟨_, rfl⟩
          rw [← hB_162] at hk hB
          show mX m_L_change 9 _ 0 0 _ _ [vI ((on (spAdd (1 + (lo m 9)) (100 + (lo (shI m 4) 121))) B).1)] _
          refine x_goto 39 (tgt := 172) rfl (by decide) ?_
          refine x_ret 42 (some (vI ((on (spAdd (1 + (lo m 9)) (100 + (lo (shI m 4) 121))) B).1))) rfl ⟨rfl, Or.inl rfl⟩ ⟨_, i34, li34, rfl, rfl, ?_⟩
          have hys : y = sgB v B := by unfold sgB; rcases hy with ⟨q1, q2⟩ | ⟨q1, q2, q3⟩; (rw [if_pos q1]; exact q2); (rw [if_neg q1]; exact q2)
          subst_vars
          exact kp_fin hk (by unfold chB; repeat (first | rw [if_pos (by omega)] | rw [if_neg (by omega)]))
    · refine x_tabIn 17 (off := 99) (tgt := 128) rfl (by omega) (by omega) (by rw [h5]; rfl) (by decide) ?_
      refine x_iload_n 18 rfl rfl ?_
      refine x_bipush 19 rfl (by decide) ?_
      refine x_icmp_lt 20 (tgt := 142) rfl (by decide) (by omega) (fun h35 => ?_) (fun h35 => ?_)
      · refine x_aload_n 25 rfl rfl ?_
        refine x_iconst 26 rfl ?_
        refine x_iload_n 27 rfl rfl ?_
        refine x_bipush 28 rfl (by decide) ?_
        refine x_callS 29 m_L_low (c_low (by omega)) rfl ok_L_low ml_L_19 st_L_low rfl (by decide) rfl (Nat.le_of_ble_eq_true rfl) rfl rfl (fun v g q36 => ?_)
        obtain ⟨rfl, rfl⟩ := q36
        show mX m_L_change 9 _ 0 0 _ _ [vI (lo m 9), vI (1), vR (some (ob bb))] _
        refine x_iadd 30 (r := 1 + (lo m 9)) rfl rfl ?_
        refine x_bipush 31 rfl (by decide) ?_
        refine x_iload_n 32 rfl rfl ?_
        refine x_iconst 33 rfl ?_
        refine x_ishrI 34 (r := shI m 4) rfl rfl ?_
        refine x_bipush 35 rfl (by decide) ?_
        refine x_callS 36 m_L_low (c_low (by omega)) rfl ok_L_low ml_L_19 st_L_low rfl (by decide) rfl (Nat.le_of_ble_eq_true rfl) rfl rfl (fun v g q37 => ?_)
        obtain ⟨rfl, rfl⟩ := q37
        show mX m_L_change 9 _ 0 0 _ _ [vI (lo (shI m 4) 121), vI (100), vI (1 + (lo m 9)), vR (some (ob bb))] _
        refine x_iadd 37 (r := 100 + (lo (shI m 4) 121)) rfl rfl ?_
        refine x_callV 38 m_X8_add (c_b_add hk.1 hB (by omega) (by omega)) rfl ok_X8_add b_lt0 k_0 rfl rfl ml_L_38 im_X8_add se_X8_add rfl (by decide) rfl (Nat.le_of_ble_eq_true rfl) rfl rfl (fun v g q38 => ?_)
        obtain ⟨rfl, i39, li39, rfl, hk⟩ := kQ_of hk q38
        have hk : kp bb i i l ((on (spAdd (1 + (lo m 9)) (100 + (lo (shI m 4) 121))) B).2) i39 li39 := hk
        have hB : okT ((on (spAdd (1 + (lo m 9)) (100 + (lo (shI m 4) 121))) B).2) := ok_add hB _ _
        obtain ⟨B_162, hB_162⟩ : ∃ b, b = (on (spAdd (1 + (lo m 9)) (100 + (lo (shI m 4) 121))) B).2 := ⟨_, rfl⟩
        rw [← hB_162] at hk hB
        show mX m_L_change 9 _ 0 0 _ _ [vI ((on (spAdd (1 + (lo m 9)) (100 + (lo (shI m 4) 121))) B).1)] _
        refine x_goto 39 (tgt := 172) rfl (by decide) ?_
        refine x_ret 42 (some (vI ((on (spAdd (1 + (lo m 9)) (100 + (lo (shI m 4) 121))) B).1))) rfl ⟨rfl, Or.inl rfl⟩ ⟨_, i39, li39, rfl, rfl, ?_⟩
        have hys : y = sgB v B := by unfold sgB; rcases hy with ⟨q1, q2⟩ | ⟨q1, q2, q3⟩; (rw [if_pos q1]; exact q2); (rw [if_neg q1]; exact q2)
        subst_vars
        exact kp_fin hk (by unfold chB; repeat (first | rw [if_pos (by omega)] | rw [if_neg (by omega)]))
      · refine x_iload_n 21 rfl rfl ?_
        refine x_iconst 22 rfl ?_
        refine x_callS 23 m_L_low (c_low (by omega)) rfl ok_L_low ml_L_19 st_L_low rfl (by decide) rfl (Nat.le_of_ble_eq_true rfl) rfl rfl (fun v g q40 => ?_)
        obtain ⟨rfl, rfl⟩ := q40
        show mX m_L_change 9 _ 0 0 _ _ [vI (lo m 4)] _
        refine x_if_ne 24 (tgt := 168) rfl (by decide) (by omega) (fun h41 => ?_) (fun h41 => ?_)
        · refine x_aload_n 40 rfl rfl ?_
          refine x_callV 41 m_X8_hold (c_b_hold hk.1 hB) rfl ok_X8_hold b_lt0 k_0 rfl rfl ml_L_41 im_X8_hold se_X8_hold rfl (by decide) rfl (Nat.le_of_ble_eq_true rfl) rfl rfl (fun v g q42 => ?_)
          obtain ⟨rfl, i43, li43, rfl, hk⟩ := kQ_of hk q42
          have hk : kp bb i i l ((on spHold B).2) i43 li43 := hk
          have hB : okT ((on spHold B).2) := ok_hold hB
          obtain ⟨B_169, hB_169⟩ : ∃ b, b = (on spHold B).2 := ⟨_, rfl⟩
          rw [← hB_169] at hk hB
          show mX m_L_change 9 _ 0 0 _ _ [vI ((on spHold B).1)] _
          refine x_ret 42 (some (vI ((on spHold B).1))) rfl ⟨rfl, Or.inl rfl⟩ ⟨_, i43, li43, rfl, rfl, ?_⟩
          have hys : y = sgB v B := by unfold sgB; rcases hy with ⟨q1, q2⟩ | ⟨q1, q2, q3⟩; (rw [if_pos q1]; exact q2); (rw [if_neg q1]; exact q2)
          subst_vars
          exact kp_fin hk (by unfold chB; repeat (first | rw [if_pos (by omega)] | rw [if_neg (by omega)]))
        · refine x_aload_n 25 rfl rfl ?_
          refine x_iconst 26 rfl ?_
          refine x_iload_n 27 rfl rfl ?_
          refine x_bipush 28 rfl (by decide) ?_
          refine x_callS 29 m_L_low (c_low (by omega)) rfl ok_L_low ml_L_19 st_L_low rfl (by decide) rfl (Nat.le_of_ble_eq_true rfl) rfl rfl (fun v g q44 => ?_)
          obtain ⟨rfl, rfl⟩ := q44
          show mX m_L_change 9 _ 0 0 _ _ [vI (lo m 9), vI (1), vR (some (ob bb))] _
          refine x_iadd 30 (r := 1 + (lo m 9)) rfl rfl ?_
          refine x_bipush 31 rfl (by decide) ?_
          refine x_iload_n 32 rfl rfl ?_
          refine x_iconst 33 rfl ?_
          refine x_ishrI 34 (r := shI m 4) rfl rfl ?_
          refine x_bipush 35 rfl (by decide) ?_
          refine x_callS 36 m_L_low (c_low (by omega)) rfl ok_L_low ml_L_19 st_L_low rfl (by decide) rfl (Nat.le_of_ble_eq_true rfl) rfl rfl (fun v g q45 => ?_)
          obtain ⟨rfl, rfl⟩ := q45
          show mX m_L_change 9 _ 0 0 _ _ [vI (lo (shI m 4) 121), vI (100), vI (1 + (lo m 9)), vR (some (ob bb))] _
          refine x_iadd 37 (r := 100 + (lo (shI m 4) 121)) rfl rfl ?_
          refine x_callV 38 m_X8_add (c_b_add hk.1 hB (by omega) (by omega)) rfl ok_X8_add b_lt0 k_0 rfl rfl ml_L_38 im_X8_add se_X8_add rfl (by decide) rfl (Nat.le_of_ble_eq_true rfl) rfl rfl (fun v g q46 => ?_)
          obtain ⟨rfl, i47, li47, rfl, hk⟩ := kQ_of hk q46
          have hk : kp bb i i l ((on (spAdd (1 + (lo m 9)) (100 + (lo (shI m 4) 121))) B).2) i47 li47 := hk
          have hB : okT ((on (spAdd (1 + (lo m 9)) (100 + (lo (shI m 4) 121))) B).2) := ok_add hB _ _
          obtain ⟨B_162, hB_162⟩ : ∃ b, b = (on (spAdd (1 + (lo m 9)) (100 + (lo (shI m 4) 121))) B).2 := ⟨_, rfl⟩
          rw [← hB_162] at hk hB
          show mX m_L_change 9 _ 0 0 _ _ [vI ((on (spAdd (1 + (lo m 9)) (100 + (lo (shI m 4) 121))) B).1)] _
          refine x_goto 39 (tgt := 172) rfl (by decide) ?_
          refine x_ret 42 (some (vI ((on (spAdd (1 + (lo m 9)) (100 + (lo (shI m 4) 121))) B).1))) rfl ⟨rfl, Or.inl rfl⟩ ⟨_, i47, li47, rfl, rfl, ?_⟩
          have hys : y = sgB v B := by unfold sgB; rcases hy with ⟨q1, q2⟩ | ⟨q1, q2, q3⟩; (rw [if_pos q1]; exact q2); (rw [if_neg q1]; exact q2)
          subst_vars
          exact kp_fin hk (by unfold chB; repeat (first | rw [if_pos (by omega)] | rw [if_neg (by omega)]))
    · refine x_tabIn 17 (off := 144) (tgt := 173) rfl (by omega) (by omega) (by rw [h5]; rfl) (by decide) ?_
      refine x_aload_n 43 rfl rfl ?_
      refine x_iload 44 rfl rfl ?_
      refine x_callV 45 m_X8_remove (c_b_remove hk.1 hB (by omega)) rfl ok_X8_remove b_lt0 k_0 rfl rfl ml_L_44 im_X8_remove se_X8_remove rfl (by decide) rfl (Nat.le_of_ble_eq_true rfl) rfl rfl (fun v g q48 => ?_)
      obtain ⟨rfl, i49, li49, rfl, hk⟩ := kQ_of hk q48
      have hk : kp bb i i l ((on (spRemove y) B).2) i49 li49 := hk
      have hB : okT ((on (spRemove y) B).2) := ok_remove hB _
      obtain ⟨B_176, hB_176⟩ : ∃ b, b = (on (spRemove y) B).2 := ⟨_, rfl⟩
      rw [← hB_176] at hk hB
      show mX m_L_change 9 _ 0 0 _ _ [vI ((on (spRemove y) B).1)] _
      refine x_ret 46 (some (vI ((on (spRemove y) B).1))) rfl ⟨rfl, Or.inl rfl⟩ ⟨_, i49, li49, rfl, rfl, ?_⟩
      have hys : y = sgB v B := by unfold sgB; rcases hy with ⟨q1, q2⟩ | ⟨q1, q2, q3⟩; (rw [if_pos q1]; exact q2); (rw [if_neg q1]; exact q2)
      subst_vars
      exact kp_fin hk (by unfold chB; repeat (first | rw [if_pos (by omega)] | rw [if_neg (by omega)]))
    · refine x_tabIn 17 (off := 151) (tgt := 180) rfl (by omega) (by omega) (by rw [h5]; rfl) (by decide) ?_
      refine x_iload_n 47 rfl rfl ?_
      refine x_iconst 48 rfl ?_
      refine x_callS 49 m_L_low (c_low (by omega)) rfl ok_L_low ml_L_19 st_L_low rfl (by decide) rfl (Nat.le_of_ble_eq_true rfl) rfl rfl (fun v g q50 => ?_)
      obtain ⟨rfl, rfl⟩ := q50
      show mX m_L_change 9 _ 0 0 _ _ [vI (lo m 2)] _
      refine x_if_ne 50 (tgt := 206) rfl (by decide) (by omega) (fun h51 => ?_) (fun h51 => ?_)
      · refine x_aload_n 62 rfl rfl ?_
        refine x_iconst 63 rfl ?_
        refine x_iconst 64 rfl ?_
        refine x_iload_n 65 rfl rfl ?_
        refine x_iconst 66 rfl ?_
        refine x_ishrI 67 (r := shI m 1) rfl rfl ?_
        refine x_bipush 68 rfl (by decide) ?_
        refine x_callS 69 m_L_low (c_low (by omega)) rfl ok_L_low ml_L_19 st_L_low rfl (by decide) rfl (Nat.le_of_ble_eq_true rfl) rfl rfl (fun v g q52 => ?_)
        obtain ⟨rfl, rfl⟩ := q52
        show mX m_L_change 9 _ 0 0 _ _ [vI (lo (shI m 1) 15), vI (1), vI (1), vR (some (ob bb))] _
        refine x_iadd 70 (r := 1 + (lo (shI m 1) 15)) rfl rfl ?_
        refine x_callV 71 m_X8_set (c_b_set hk.1 hB (by omega) (by omega)) rfl ok_X8_set b_lt0 k_0 rfl rfl ml_L_47 im_X8_set se_X8_set rfl (by decide) rfl (Nat.le_of_ble_eq_true rfl) rfl rfl (fun v g q53 => ?_)
        obtain ⟨rfl, i54, li54, rfl, hk⟩ := kQ_of hk q53
        have hk : kp bb i i l ((on (spSet 1 (1 + (lo (shI m 1) 15))) B).2) i54 li54 := hk
        have hB : okT ((on (spSet 1 (1 + (lo (shI m 1) 15))) B).2) := ok_set hB _ _
        obtain ⟨B_218, hB_218⟩ : ∃ b, b = (on (spSet 1 (1 + (lo (shI m 1) 15))) B).2 := ⟨_, rfl⟩
        rw [← hB_218] at hk hB
        show mX m_L_change 9 _ 0 0 _ _ [vI ((on (spSet 1 (1 + (lo (shI m 1) 15))) B).1)] _
        refine x_ret 72 (some (vI ((on (spSet 1 (1 + (lo (shI m 1) 15))) B).1))) rfl ⟨rfl, Or.inl rfl⟩ ⟨_, i54, li54, rfl, rfl, ?_⟩
        have hys : y = sgB v B := by unfold sgB; rcases hy with ⟨q1, q2⟩ | ⟨q1, q2, q3⟩; (rw [if_pos q1]; exact q2); (rw [if_neg q1]; exact q2)
        subst_vars
        exact kp_fin hk (by unfold chB; repeat (first | rw [if_pos (by omega)] | rw [if_neg (by omega)]))
      · refine x_aload_n 51 rfl rfl ?_
        refine x_iconst 52 rfl ?_
        refine x_iconst 53 rfl ?_
        refine x_iload_n 54 rfl rfl ?_
        refine x_iconst 55 rfl ?_
        refine x_ishrI 56 (r := shI m 1) rfl rfl ?_
        refine x_bipush 57 rfl (by decide) ?_
        refine x_callS 58 m_L_low (c_low (by omega)) rfl ok_L_low ml_L_19 st_L_low rfl (by decide) rfl (Nat.le_of_ble_eq_true rfl) rfl rfl (fun v g q55 => ?_)
        obtain ⟨rfl, rfl⟩ := q55
        show mX m_L_change 9 _ 0 0 _ _ [vI (lo (shI m 1) 11), vI (5), vI (0), vR (some (ob bb))] _
        refine x_iadd 59 (r := 5 + (lo (shI m 1) 11)) rfl rfl ?_
        refine x_callV 60 m_X8_set (c_b_set hk.1 hB (by omega) (by omega)) rfl ok_X8_set b_lt0 k_0 rfl rfl ml_L_47 im_X8_set se_X8_set rfl (by decide) rfl (Nat.le_of_ble_eq_true rfl) rfl rfl (fun v g q56 => ?_)
        obtain ⟨rfl, i57, li57, rfl, hk⟩ := kQ_of hk q56
        have hk : kp bb i i l ((on (spSet 0 (5 + (lo (shI m 1) 11))) B).2) i57 li57 := hk
        have hB : okT ((on (spSet 0 (5 + (lo (shI m 1) 11))) B).2) := ok_set hB _ _
        obtain ⟨B_200, hB_200⟩ : ∃ b, b = (on (spSet 0 (5 + (lo (shI m 1) 11))) B).2 := ⟨_, rfl⟩
        rw [← hB_200] at hk hB
        show mX m_L_change 9 _ 0 0 _ _ [vI ((on (spSet 0 (5 + (lo (shI m 1) 11))) B).1)] _
        refine x_goto 61 (tgt := 221) rfl (by decide) ?_
        refine x_ret 72 (some (vI ((on (spSet 0 (5 + (lo (shI m 1) 11))) B).1))) rfl ⟨rfl, Or.inl rfl⟩ ⟨_, i57, li57, rfl, rfl, ?_⟩
        have hys : y = sgB v B := by unfold sgB; rcases hy with ⟨q1, q2⟩ | ⟨q1, q2, q3⟩; (rw [if_pos q1]; exact q2); (rw [if_neg q1]; exact q2)
        subst_vars
        exact kp_fin hk (by unfold chB; repeat (first | rw [if_pos (by omega)] | rw [if_neg (by omega)]))
    · refine x_tabIn 17 (off := 193) (tgt := 222) rfl (by omega) (by omega) (by rw [h5]; rfl) (by decide) ?_
      refine x_iload_n 73 rfl rfl ?_
      refine x_iconst 74 rfl ?_
      refine x_callS 75 m_L_low (c_low (by omega)) rfl ok_L_low ml_L_19 st_L_low rfl (by decide) rfl (Nat.le_of_ble_eq_true rfl) rfl rfl (fun v g q58 => ?_)
      obtain ⟨rfl, rfl⟩ := q58
      show mX m_L_change 9 _ 0 0 _ _ [vI (lo m 2)] _
      refine x_if_ne 76 (tgt := 246) rfl (by decide) (by omega) (fun h59 => ?_) (fun h59 => ?_)
      · refine x_aload_n 86 rfl rfl ?_
        refine x_iconst 87 rfl ?_
        refine x_iconst 88 rfl ?_
        refine x_iload_n 89 rfl rfl ?_
        refine x_iconst 90 rfl ?_
        refine x_ishrI 91 (r := shI m 1) rfl rfl ?_
        refine x_bipush 92 rfl (by decide) ?_
        refine x_callS 93 m_L_low (c_low (by omega)) rfl ok_L_low ml_L_19 st_L_low rfl (by decide) rfl (Nat.le_of_ble_eq_true rfl) rfl rfl (fun v g q60 => ?_)
        obtain ⟨rfl, rfl⟩ := q60
        show mX m_L_change 9 _ 0 0 _ _ [vI (lo (shI m 1) 6), vI (1), vI (3), vR (some (ob bb))] _
        refine x_iadd 94 (r := 1 + (lo (shI m 1) 6)) rfl rfl ?_
        refine x_callV 95 m_X8_set (c_b_set hk.1 hB (by omega) (by omega)) rfl ok_X8_set b_lt0 k_0 rfl rfl ml_L_47 im_X8_set se_X8_set rfl (by decide) rfl (Nat.le_of_ble_eq_true rfl) rfl rfl (fun v g q61 => ?_)
        obtain ⟨rfl, i62, li62, rfl, hk⟩ := kQ_of hk q61
        have hk : kp bb i i l ((on (spSet 3 (1 + (lo (shI m 1) 6))) B).2) i62 li62 := hk
        have hB : okT ((on (spSet 3 (1 + (lo (shI m 1) 6))) B).2) := ok_set hB _ _
        obtain ⟨B_258, hB_258⟩ : ∃ b, b = (on (spSet 3 (1 + (lo (shI m 1) 6))) B).2 := ⟨_, rfl⟩
        rw [← hB_258] at hk hB
        show mX m_L_change 9 _ 0 0 _ _ [vI ((on (spSet 3 (1 + (lo (shI m 1) 6))) B).1)] _
        refine x_ret 96 (some (vI ((on (spSet 3 (1 + (lo (shI m 1) 6))) B).1))) rfl ⟨rfl, Or.inl rfl⟩ ⟨_, i62, li62, rfl, rfl, ?_⟩
        have hys : y = sgB v B := by unfold sgB; rcases hy with ⟨q1, q2⟩ | ⟨q1, q2, q3⟩; (rw [if_pos q1]; exact q2); (rw [if_neg q1]; exact q2)
        subst_vars
        exact kp_fin hk (by unfold chB; repeat (first | rw [if_pos (by omega)] | rw [if_neg (by omega)]))
      · refine x_aload_n 77 rfl rfl ?_
        refine x_iconst 78 rfl ?_
        refine x_iload_n 79 rfl rfl ?_
        refine x_iconst 80 rfl ?_
        refine x_ishrI 81 (r := shI m 1) rfl rfl ?_
        refine x_bipush 82 rfl (by decide) ?_
        refine x_callS 83 m_L_low (c_low (by omega)) rfl ok_L_low ml_L_19 st_L_low rfl (by decide) rfl (Nat.le_of_ble_eq_true rfl) rfl rfl (fun v g q63 => ?_)
        obtain ⟨rfl, rfl⟩ := q63
        show mX m_L_change 9 _ 0 0 _ _ [vI (lo (shI m 1) 11), vI (2), vR (some (ob bb))] _
        refine x_callV 84 m_X8_set (c_b_set hk.1 hB (by omega) (by omega)) rfl ok_X8_set b_lt0 k_0 rfl rfl ml_L_47 im_X8_set se_X8_set rfl (by decide) rfl (Nat.le_of_ble_eq_true rfl) rfl rfl (fun v g q64 => ?_)
        obtain ⟨rfl, i65, li65, rfl, hk⟩ := kQ_of hk q64
        have hk : kp bb i i l ((on (spSet 2 (lo (shI m 1) 11)) B).2) i65 li65 := hk
        have hB : okT ((on (spSet 2 (lo (shI m 1) 11)) B).2) := ok_set hB _ _
        obtain ⟨B_240, hB_240⟩ : ∃ b, b = (on (spSet 2 (lo (shI m 1) 11)) B).2 := ⟨_, rfl⟩
        rw [← hB_240] at hk hB
        show mX m_L_change 9 _ 0 0 _ _ [vI ((on (spSet 2 (lo (shI m 1) 11)) B).1)] _
        refine x_goto 85 (tgt := 261) rfl (by decide) ?_
        refine x_ret 96 (some (vI ((on (spSet 2 (lo (shI m 1) 11)) B).1))) rfl ⟨rfl, Or.inl rfl⟩ ⟨_, i65, li65, rfl, rfl, ?_⟩
        have hys : y = sgB v B := by unfold sgB; rcases hy with ⟨q1, q2⟩ | ⟨q1, q2, q3⟩; (rw [if_pos q1]; exact q2); (rw [if_neg q1]; exact q2)
        subst_vars
        exact kp_fin hk (by unfold chB; repeat (first | rw [if_pos (by omega)] | rw [if_neg (by omega)]))
    · refine x_tabIn 17 (off := 233) (tgt := 262) rfl (by omega) (by omega) (by rw [h5]; rfl) (by decide) ?_
      refine x_aload_n 97 rfl rfl ?_
      refine x_iload 98 rfl rfl ?_
      refine x_iload_n 99 rfl rfl ?_
      refine x_iload_n 100 rfl rfl ?_
      refine x_callS 101 m_L_test (c_l_test hk.1 hB (by omega)) rfl ok_L_test ml_L_50 st_L_test rfl (by decide) rfl (Nat.le_of_ble_eq_true rfl) rfl rfl (fun v g q66 => ?_)
      obtain ⟨rfl, i67, li67, rfl, hk⟩ := kQ_of hk q66
      have hk : kp bb i i l ((tstB y m v B).2) i67 li67 := hk
      have hB : okT ((tstB y m v B).2) := ok_tst hB _ _ _
      obtain ⟨B_267, hB_267⟩ : ∃ b, b = (tstB y m v B).2 := ⟨_, rfl⟩
      rw [← hB_267] at hk hB
      show mX m_L_change 9 _ 0 0 _ _ [vI ((tstB y m v B).1)] _
      refine x_ret 102 (some (vI ((tstB y m v B).1))) rfl ⟨rfl, Or.inl rfl⟩ ⟨_, i67, li67, rfl, rfl, ?_⟩
      have hys : y = sgB v B := by unfold sgB; rcases hy with ⟨q1, q2⟩ | ⟨q1, q2, q3⟩; (rw [if_pos q1]; exact q2); (rw [if_neg q1]; exact q2)
      subst_vars
      exact kp_fin hk (by unfold chB; repeat (first | rw [if_pos (by omega)] | rw [if_neg (by omega)]))
    · refine x_tabIn 17 (off := 233) (tgt := 262) rfl (by omega) (by omega) (by rw [h5]; rfl) (by decide) ?_
      refine x_aload_n 97 rfl rfl ?_
      refine x_iload 98 rfl rfl ?_
      refine x_iload_n 99 rfl rfl ?_
      refine x_iload_n 100 rfl rfl ?_
      refine x_callS 101 m_L_test (c_l_test hk.1 hB (by omega)) rfl ok_L_test ml_L_50 st_L_test rfl (by decide) rfl (Nat.le_of_ble_eq_true rfl) rfl rfl (fun v g q68 => ?_)
      obtain ⟨rfl, i69, li69, rfl, hk⟩ := kQ_of hk q68
      have hk : kp bb i i l ((tstB y m v B).2) i69 li69 := hk
      have hB : okT ((tstB y m v B).2) := ok_tst hB _ _ _
      obtain ⟨B_267, hB_267⟩ : ∃ b, b = (tstB y m v B).2 := ⟨_, rfl⟩
      rw [← hB_267] at hk hB
      show mX m_L_change 9 _ 0 0 _ _ [vI ((tstB y m v B).1)] _
      refine x_ret 102 (some (vI ((tstB y m v B).1))) rfl ⟨rfl, Or.inl rfl⟩ ⟨_, i69, li69, rfl, rfl, ?_⟩
      have hys : y = sgB v B := by unfold sgB; rcases hy with ⟨q1, q2⟩ | ⟨q1, q2, q3⟩; (rw [if_pos q1]; exact q2); (rw [if_neg q1]; exact q2)
      subst_vars
      exact kp_fin hk (by unfold chB; repeat (first | rw [if_pos (by omega)] | rw [if_neg (by omega)]))
    · refine x_tabIn 17 (off := 233) (tgt := 262) rfl (by omega) (by omega) (by rw [h5]; rfl) (by decide) ?_
      refine x_aload_n 97 rfl rfl ?_
      refine x_iload 98 rfl rfl ?_
      refine x_iload_n 99 rfl rfl ?_
      refine x_iload_n 100 rfl rfl ?_
      refine x_callS 101 m_L_test (c_l_test hk.1 hB (by omega)) rfl ok_L_test ml_L_50 st_L_test rfl (by decide) rfl (Nat.le_of_ble_eq_true rfl) rfl rfl (fun v g q70 => ?_)
      obtain ⟨rfl, i71, li71, rfl, hk⟩ := kQ_of hk q70
      have hk : kp bb i i l ((tstB y m v B).2) i71 li71 := hk
      have hB : okT ((tstB y m v B).2) := ok_tst hB _ _ _
      obtain ⟨B_267, hB_267⟩ : ∃ b, b = (tstB y m v B).2 := ⟨_, rfl⟩
      rw [← hB_267] at hk hB
      show mX m_L_change 9 _ 0 0 _ _ [vI ((tstB y m v B).1)] _
      refine x_ret 102 (some (vI ((tstB y m v B).1))) rfl ⟨rfl, Or.inl rfl⟩ ⟨_, i71, li71, rfl, rfl, ?_⟩
      have hys : y = sgB v B := by unfold sgB; rcases hy with ⟨q1, q2⟩ | ⟨q1, q2, q3⟩; (rw [if_pos q1]; exact q2); (rw [if_neg q1]; exact q2)
      subst_vars
      exact kp_fin hk (by unfold chB; repeat (first | rw [if_pos (by omega)] | rw [if_neg (by omega)]))
    · refine x_tabIn 17 (off := 242) (tgt := 271) rfl (by omega) (by omega) (by rw [h5]; rfl) (by decide) ?_
      refine x_aload_n 103 rfl rfl ?_
      refine x_iload 104 rfl rfl ?_
      refine x_iload_n 105 rfl rfl ?_
      refine x_iconst 106 rfl ?_
      refine x_callS 107 m_L_low (c_low (by omega)) rfl ok_L_low ml_L_19 st_L_low rfl (by decide) rfl (Nat.le_of_ble_eq_true rfl) rfl rfl (fun v g q72 => ?_)
      obtain ⟨rfl, rfl⟩ := q72
      show mX m_L_change 9 _ 0 0 _ _ [vI (lo m 5), vI (y), vR (some (ob bb))] _
      refine x_iconst 108 rfl ?_
      refine x_icmp_ne 109 (tgt := 288) rfl (by decide) (by omega) (fun h73 => ?_) (fun h73 => ?_)
      · refine x_iload_n 112 rfl rfl ?_
        refine x_iconst 113 rfl ?_
        refine x_callS 114 m_L_low (c_low (by omega)) rfl ok_L_low ml_L_19 st_L_low rfl (by decide) rfl (Nat.le_of_ble_eq_true rfl) rfl rfl (fun v g q74 => ?_)
        obtain ⟨rfl, rfl⟩ := q74
        show mX m_L_change 9 _ 0 0 _ _ [vI (lo m 5), vI (y), vR (some (ob bb))] _
        refine x_callV 115 m_X8_place (c_b_place hk.1 hB (by omega) (by omega)) rfl ok_X8_place b_lt0 k_0 rfl rfl ml_L_53 im_X8_place se_X8_place rfl (by decide) rfl (Nat.le_of_ble_eq_true rfl) rfl rfl (fun v g q75 => ?_)
        obtain ⟨rfl, i76, li76, rfl, hk⟩ := kQ_of hk q75
        have hk : kp bb i i l ((on (spPlace y (lo m 5)) B).2) i76 li76 := hk
        have hB : okT ((on (spPlace y (lo m 5)) B).2) := ok_place hB _ _
        obtain ⟨B_293, hB_293⟩ : ∃ b, b = (on (spPlace y (lo m 5)) B).2 := ⟨_, rfl⟩
        rw [← hB_293] at hk hB
        show mX m_L_change 9 _ 0 0 _ _ [vI ((on (spPlace y (lo m 5)) B).1)] _
        refine x_ret 116 (some (vI ((on (spPlace y (lo m 5)) B).1))) rfl ⟨rfl, Or.inl rfl⟩ ⟨_, i76, li76, rfl, rfl, ?_⟩
        have hys : y = sgB v B := by unfold sgB; rcases hy with ⟨q1, q2⟩ | ⟨q1, q2, q3⟩; (rw [if_pos q1]; exact q2); (rw [if_neg q1]; exact q2)
        subst_vars
        exact kp_fin hk (by unfold chB; repeat (first | rw [if_pos (by omega)] | rw [if_neg (by omega)]))
      · refine x_bipush 110 rfl (by decide) ?_
        refine x_goto 111 (tgt := 293) rfl (by decide) ?_
        refine x_callV 115 m_X8_place (c_b_place hk.1 hB (by omega) (by omega)) rfl ok_X8_place b_lt0 k_0 rfl rfl ml_L_53 im_X8_place se_X8_place rfl (by decide) rfl (Nat.le_of_ble_eq_true rfl) rfl rfl (fun v g q77 => ?_)
        obtain ⟨rfl, i78, li78, rfl, hk⟩ := kQ_of hk q77
        have hk : kp bb i i l ((on (spPlace y (-9)) B).2) i78 li78 := hk
        have hB : okT ((on (spPlace y (-9)) B).2) := ok_place hB _ _
        obtain ⟨B_293, hB_293⟩ : ∃ b, b = (on (spPlace y (-9)) B).2 := ⟨_, rfl⟩
        rw [← hB_293] at hk hB
        show mX m_L_change 9 _ 0 0 _ _ [vI ((on (spPlace y (-9)) B).1)] _
        refine x_ret 116 (some (vI ((on (spPlace y (-9)) B).1))) rfl ⟨rfl, Or.inl rfl⟩ ⟨_, i78, li78, rfl, rfl, ?_⟩
        have hys : y = sgB v B := by unfold sgB; rcases hy with ⟨q1, q2⟩ | ⟨q1, q2, q3⟩; (rw [if_pos q1]; exact q2); (rw [if_neg q1]; exact q2)
        subst_vars
        exact kp_fin hk (by unfold chB; repeat (first | rw [if_pos (by omega)] | rw [if_neg (by omega)]))
    · refine x_tabIn 17 (off := 242) (tgt := 271) rfl (by omega) (by omega) (by rw [h5]; rfl) (by decide) ?_
      refine x_aload_n 103 rfl rfl ?_
      refine x_iload 104 rfl rfl ?_
      refine x_iload_n 105 rfl rfl ?_
      refine x_iconst 106 rfl ?_
      refine x_callS 107 m_L_low (c_low (by omega)) rfl ok_L_low ml_L_19 st_L_low rfl (by decide) rfl (Nat.le_of_ble_eq_true rfl) rfl rfl (fun v g q79 => ?_)
      obtain ⟨rfl, rfl⟩ := q79
      show mX m_L_change 9 _ 0 0 _ _ [vI (lo m 5), vI (y), vR (some (ob bb))] _
      refine x_iconst 108 rfl ?_
      refine x_icmp_ne 109 (tgt := 288) rfl (by decide) (by omega) (fun h80 => ?_) (fun h80 => ?_)
      · refine x_iload_n 112 rfl rfl ?_
        refine x_iconst 113 rfl ?_
        refine x_callS 114 m_L_low (c_low (by omega)) rfl ok_L_low ml_L_19 st_L_low rfl (by decide) rfl (Nat.le_of_ble_eq_true rfl) rfl rfl (fun v g q81 => ?_)
        obtain ⟨rfl, rfl⟩ := q81
        show mX m_L_change 9 _ 0 0 _ _ [vI (lo m 5), vI (y), vR (some (ob bb))] _
        refine x_callV 115 m_X8_place (c_b_place hk.1 hB (by omega) (by omega)) rfl ok_X8_place b_lt0 k_0 rfl rfl ml_L_53 im_X8_place se_X8_place rfl (by decide) rfl (Nat.le_of_ble_eq_true rfl) rfl rfl (fun v g q82 => ?_)
        obtain ⟨rfl, i83, li83, rfl, hk⟩ := kQ_of hk q82
        have hk : kp bb i i l ((on (spPlace y (lo m 5)) B).2) i83 li83 := hk
        have hB : okT ((on (spPlace y (lo m 5)) B).2) := ok_place hB _ _
        obtain ⟨B_293, hB_293⟩ : ∃ b, b = (on (spPlace y (lo m 5)) B).2 := ⟨_, rfl⟩
        rw [← hB_293] at hk hB
        show mX m_L_change 9 _ 0 0 _ _ [vI ((on (spPlace y (lo m 5)) B).1)] _
        refine x_ret 116 (some (vI ((on (spPlace y (lo m 5)) B).1))) rfl ⟨rfl, Or.inl rfl⟩ ⟨_, i83, li83, rfl, rfl, ?_⟩
        have hys : y = sgB v B := by unfold sgB; rcases hy with ⟨q1, q2⟩ | ⟨q1, q2, q3⟩; (rw [if_pos q1]; exact q2); (rw [if_neg q1]; exact q2)
        subst_vars
        exact kp_fin hk (by unfold chB; repeat (first | rw [if_pos (by omega)] | rw [if_neg (by omega)]))
      · refine x_bipush 110 rfl (by decide) ?_
        refine x_goto 111 (tgt := 293) rfl (by decide) ?_
        refine x_callV 115 m_X8_place (c_b_place hk.1 hB (by omega) (by omega)) rfl ok_X8_place b_lt0 k_0 rfl rfl ml_L_53 im_X8_place se_X8_place rfl (by decide) rfl (Nat.le_of_ble_eq_true rfl) rfl rfl (fun v g q84 => ?_)
        obtain ⟨rfl, i85, li85, rfl, hk⟩ := kQ_of hk q84
        have hk : kp bb i i l ((on (spPlace y (-9)) B).2) i85 li85 := hk
        have hB : okT ((on (spPlace y (-9)) B).2) := ok_place hB _ _
        obtain ⟨B_293, hB_293⟩ : ∃ b, b = (on (spPlace y (-9)) B).2 := ⟨_, rfl⟩
        rw [← hB_293] at hk hB
        show mX m_L_change 9 _ 0 0 _ _ [vI ((on (spPlace y (-9)) B).1)] _
        refine x_ret 116 (some (vI ((on (spPlace y (-9)) B).1))) rfl ⟨rfl, Or.inl rfl⟩ ⟨_, i85, li85, rfl, rfl, ?_⟩
        have hys : y = sgB v B := by unfold sgB; rcases hy with ⟨q1, q2⟩ | ⟨q1, q2, q3⟩; (rw [if_pos q1]; exact q2); (rw [if_neg q1]; exact q2)
        subst_vars
        exact kp_fin hk (by unfold chB; repeat (first | rw [if_pos (by omega)] | rw [if_neg (by omega)]))
    · refine x_tabIn 17 (off := 268) (tgt := 297) rfl (by omega) (by omega) (by rw [h5]; rfl) (by decide) ?_
      refine x_aload_n 117 rfl rfl ?_
      refine x_callV 118 m_X8_placeAll (c_b_placeAll hk.1 hB) rfl ok_X8_placeAll b_lt0 k_0 rfl rfl ml_L_56 im_X8_placeAll se_X8_placeAll rfl (by decide) rfl (Nat.le_of_ble_eq_true rfl) rfl rfl (fun v g q86 => ?_)
      obtain ⟨rfl, i87, li87, rfl, hk⟩ := kQ_of hk q86
      have hk : kp bb i i l ((on spPlaceAll B).2) i87 li87 := hk
      have hB : okT ((on spPlaceAll B).2) := ok_placeAll hB
      obtain ⟨B_298, hB_298⟩ : ∃ b, b = (on spPlaceAll B).2 := ⟨_, rfl⟩
      rw [← hB_298] at hk hB
      show mX m_L_change 9 _ 0 0 _ _ [vI ((on spPlaceAll B).1)] _
      refine x_ret 119 (some (vI ((on spPlaceAll B).1))) rfl ⟨rfl, Or.inl rfl⟩ ⟨_, i87, li87, rfl, rfl, ?_⟩
      have hys : y = sgB v B := by unfold sgB; rcases hy with ⟨q1, q2⟩ | ⟨q1, q2, q3⟩; (rw [if_pos q1]; exact q2); (rw [if_neg q1]; exact q2)
      subst_vars
      exact kp_fin hk (by unfold chB; repeat (first | rw [if_pos (by omega)] | rw [if_neg (by omega)]))
    · refine x_tabIn 17 (off := 273) (tgt := 302) rfl (by omega) (by omega) (by rw [h5]; rfl) (by decide) ?_
      refine x_aload_n 120 rfl rfl ?_
      refine x_iload_n 121 rfl rfl ?_
      refine x_callS 122 m_L_attendance (c_l_att hk.1 hB) rfl ok_L_attendance ml_L_59 st_L_attendance rfl (by decide) rfl (Nat.le_of_ble_eq_true rfl) rfl rfl (fun v g q88 => ?_)
      obtain ⟨rfl, i89, li89, rfl, hk⟩ := kQ_of hk q88
      have hk : kp bb i i l ((attB m B).2) i89 li89 := hk
      have hB : okT ((attB m B).2) := ok_att hB _
      obtain ⟨B_304, hB_304⟩ : ∃ b, b = (attB m B).2 := ⟨_, rfl⟩
      rw [← hB_304] at hk hB
      show mX m_L_change 9 _ 0 0 _ _ [vI ((attB m B).1)] _
      refine x_ret 123 (some (vI ((attB m B).1))) rfl ⟨rfl, Or.inl rfl⟩ ⟨_, i89, li89, rfl, rfl, ?_⟩
      have hys : y = sgB v B := by unfold sgB; rcases hy with ⟨q1, q2⟩ | ⟨q1, q2, q3⟩; (rw [if_pos q1]; exact q2); (rw [if_neg q1]; exact q2)
      subst_vars
      exact kp_fin hk (by unfold chB; repeat (first | rw [if_pos (by omega)] | rw [if_neg (by omega)]))
    · refine x_tabIn 17 (off := 273) (tgt := 302) rfl (by omega) (by omega) (by rw [h5]; rfl) (by decide) ?_
      refine x_aload_n 120 rfl rfl ?_
      refine x_iload_n 121 rfl rfl ?_
      refine x_callS 122 m_L_attendance (c_l_att hk.1 hB) rfl ok_L_attendance ml_L_59 st_L_attendance rfl (by decide) rfl (Nat.le_of_ble_eq_true rfl) rfl rfl (fun v g q90 => ?_)
      obtain ⟨rfl, i91, li91, rfl, hk⟩ := kQ_of hk q90
      have hk : kp bb i i l ((attB m B).2) i91 li91 := hk
      have hB : okT ((attB m B).2) := ok_att hB _
      obtain ⟨B_304, hB_304⟩ : ∃ b, b = (attB m B).2 := ⟨_, rfl⟩
      rw [← hB_304] at hk hB
      show mX m_L_change 9 _ 0 0 _ _ [vI ((attB m B).1)] _
      refine x_ret 123 (some (vI ((attB m B).1))) rfl ⟨rfl, Or.inl rfl⟩ ⟨_, i91, li91, rfl, rfl, ?_⟩
      have hys : y = sgB v B := by unfold sgB; rcases hy with ⟨q1, q2⟩ | ⟨q1, q2, q3⟩; (rw [if_pos q1]; exact q2); (rw [if_neg q1]; exact q2)
      subst_vars
      exact kp_fin hk (by unfold chB; repeat (first | rw [if_pos (by omega)] | rw [if_neg (by omega)]))
    · refine x_tabIn 17 (off := 273) (tgt := 302) rfl (by omega) (by omega) (by rw [h5]; rfl) (by decide) ?_
      refine x_aload_n 120 rfl rfl ?_
      refine x_iload_n 121 rfl rfl ?_
      refine x_callS 122 m_L_attendance (c_l_att hk.1 hB) rfl ok_L_attendance ml_L_59 st_L_attendance rfl (by decide) rfl (Nat.le_of_ble_eq_true rfl) rfl rfl (fun v g q92 => ?_)
      obtain ⟨rfl, i93, li93, rfl, hk⟩ := kQ_of hk q92
      have hk : kp bb i i l ((attB m B).2) i93 li93 := hk
      have hB : okT ((attB m B).2) := ok_att hB _
      obtain ⟨B_304, hB_304⟩ : ∃ b, b = (attB m B).2 := ⟨_, rfl⟩
      rw [← hB_304] at hk hB
      show mX m_L_change 9 _ 0 0 _ _ [vI ((attB m B).1)] _
      refine x_ret 123 (some (vI ((attB m B).1))) rfl ⟨rfl, Or.inl rfl⟩ ⟨_, i93, li93, rfl, rfl, ?_⟩
      have hys : y = sgB v B := by unfold sgB; rcases hy with ⟨q1, q2⟩ | ⟨q1, q2, q3⟩; (rw [if_pos q1]; exact q2); (rw [if_neg q1]; exact q2)
      subst_vars
      exact kp_fin hk (by unfold chB; repeat (first | rw [if_pos (by omega)] | rw [if_neg (by omega)]))
    · refine x_tabIn 17 (off := 279) (tgt := 308) rfl (by omega) (by omega) (by rw [h5]; rfl) (by decide) ?_
      refine x_aload_n 124 rfl rfl ?_
      refine x_callV 125 m_X8_hold (c_b_hold hk.1 hB) rfl ok_X8_hold b_lt0 k_0 rfl rfl ml_L_41 im_X8_hold se_X8_hold rfl (by decide) rfl (Nat.le_of_ble_eq_true rfl) rfl rfl (fun v g q94 => ?_)
      obtain ⟨rfl, i95, li95, rfl, hk⟩ := kQ_of hk q94
      have hk : kp bb i i l ((on spHold B).2) i95 li95 := hk
      have hB : okT ((on spHold B).2) := ok_hold hB
      obtain ⟨B_309, hB_309⟩ : ∃ b, b = (on spHold B).2 := ⟨_, rfl⟩
      rw [← hB_309] at hk hB
      show mX m_L_change 9 _ 0 0 _ _ [vI ((on spHold B).1)] _
      refine x_ret 126 (some (vI ((on spHold B).1))) rfl ⟨rfl, Or.inl rfl⟩ ⟨_, i95, li95, rfl, rfl, ?_⟩
      have hys : y = sgB v B := by unfold sgB; rcases hy with ⟨q1, q2⟩ | ⟨q1, q2, q3⟩; (rw [if_pos q1]; exact q2); (rw [if_neg q1]; exact q2)
      subst_vars
      exact kp_fin hk (by unfold chB; repeat (first | rw [if_pos (by omega)] | rw [if_neg (by omega)]))
    · refine x_tabIn 17 (off := 279) (tgt := 308) rfl (by omega) (by omega) (by rw [h5]; rfl) (by decide) ?_
      refine x_aload_n 124 rfl rfl ?_
      refine x_callV 125 m_X8_hold (c_b_hold hk.1 hB) rfl ok_X8_hold b_lt0 k_0 rfl rfl ml_L_41 im_X8_hold se_X8_hold rfl (by decide) rfl (Nat.le_of_ble_eq_true rfl) rfl rfl (fun v g q96 => ?_)
      obtain ⟨rfl, i97, li97, rfl, hk⟩ := kQ_of hk q96
      have hk : kp bb i i l ((on spHold B).2) i97 li97 := hk
      have hB : okT ((on spHold B).2) := ok_hold hB
      obtain ⟨B_309, hB_309⟩ : ∃ b, b = (on spHold B).2 := ⟨_, rfl⟩
      rw [← hB_309] at hk hB
      show mX m_L_change 9 _ 0 0 _ _ [vI ((on spHold B).1)] _
      refine x_ret 126 (some (vI ((on spHold B).1))) rfl ⟨rfl, Or.inl rfl⟩ ⟨_, i97, li97, rfl, rfl, ?_⟩
      have hys : y = sgB v B := by unfold sgB; rcases hy with ⟨q1, q2⟩ | ⟨q1, q2, q3⟩; (rw [if_pos q1]; exact q2); (rw [if_neg q1]; exact q2)
      subst_vars
      exact kp_fin hk (by unfold chB; repeat (first | rw [if_pos (by omega)] | rw [if_neg (by omega)]))
    · refine x_tabIn 17 (off := 279) (tgt := 308) rfl (by omega) (by omega) (by rw [h5]; rfl) (by decide) ?_
      refine x_aload_n 124 rfl rfl ?_
      refine x_callV 125 m_X8_hold (c_b_hold hk.1 hB) rfl ok_X8_hold b_lt0 k_0 rfl rfl ml_L_41 im_X8_hold se_X8_hold rfl (by decide) rfl (Nat.le_of_ble_eq_true rfl) rfl rfl (fun v g q98 => ?_)
      obtain ⟨rfl, i99, li99, rfl, hk⟩ := kQ_of hk q98
      have hk : kp bb i i l ((on spHold B).2) i99 li99 := hk
      have hB : okT ((on spHold B).2) := ok_hold hB
      obtain ⟨B_309, hB_309⟩ : ∃ b, b = (on spHold B).2 := ⟨_, rfl⟩
      rw [← hB_309] at hk hB
      show mX m_L_change 9 _ 0 0 _ _ [vI ((on spHold B).1)] _
      refine x_ret 126 (some (vI ((on spHold B).1))) rfl ⟨rfl, Or.inl rfl⟩ ⟨_, i99, li99, rfl, rfl, ?_⟩
      have hys : y = sgB v B := by unfold sgB; rcases hy with ⟨q1, q2⟩ | ⟨q1, q2, q3⟩; (rw [if_pos q1]; exact q2); (rw [if_neg q1]; exact q2)
      subst_vars
      exact kp_fin hk (by unfold chB; repeat (first | rw [if_pos (by omega)] | rw [if_neg (by omega)]))
    · refine x_tabIn 17 (off := 279) (tgt := 308) rfl (by omega) (by omega) (by rw [h5]; rfl) (by decide) ?_
      refine x_aload_n 124 rfl rfl ?_
      refine x_callV 125 m_X8_hold (c_b_hold hk.1 hB) rfl ok_X8_hold b_lt0 k_0 rfl rfl ml_L_41 im_X8_hold se_X8_hold rfl (by decide) rfl (Nat.le_of_ble_eq_true rfl) rfl rfl (fun v g q100 => ?_)
      obtain ⟨rfl, i101, li101, rfl, hk⟩ := kQ_of hk q100
      have hk : kp bb i i l ((on spHold B).2) i101 li101 := hk
      have hB : okT ((on spHold B).2) := ok_hold hB
      obtain ⟨B_309, hB_309⟩ : ∃ b, b = (on spHold B).2 := ⟨_, rfl⟩
      rw [← hB_309] at hk hB
      show mX m_L_change 9 _ 0 0 _ _ [vI ((on spHold B).1)] _
      refine x_ret 126 (some (vI ((on spHold B).1))) rfl ⟨rfl, Or.inl rfl⟩ ⟨_, i101, li101, rfl, rfl, ?_⟩
      have hys : y = sgB v B := by unfold sgB; rcases hy with ⟨q1, q2⟩ | ⟨q1, q2, q3⟩; (rw [if_pos q1]; exact q2); (rw [if_neg q1]; exact q2)
      subst_vars
      exact kp_fin hk (by unfold chB; repeat (first | rw [if_pos (by omega)] | rw [if_neg (by omega)]))
    · refine x_tabIn 17 (off := 284) (tgt := 313) rfl (by omega) (by omega) (by rw [h5]; rfl) (by decide) ?_
      refine x_aload_n 127 rfl rfl ?_
      refine x_callV 128 m_X8_undo (c_b_undo hk.1 hB) rfl ok_X8_undo b_lt0 k_0 rfl rfl ml_L_61 im_X8_undo se_X8_undo rfl (by decide) rfl (Nat.le_of_ble_eq_true rfl) rfl rfl (fun v g q102 => ?_)
      obtain ⟨rfl, i103, li103, rfl, hk⟩ := kQ_of hk q102
      have hk : kp bb i i l ((on spUndo B).2) i103 li103 := hk
      have hB : okT ((on spUndo B).2) := ok_undo hB
      obtain ⟨B_314, hB_314⟩ : ∃ b, b = (on spUndo B).2 := ⟨_, rfl⟩
      rw [← hB_314] at hk hB
      show mX m_L_change 9 _ 0 0 _ _ [vI ((on spUndo B).1)] _
      refine x_ret 129 (some (vI ((on spUndo B).1))) rfl ⟨rfl, Or.inl rfl⟩ ⟨_, i103, li103, rfl, rfl, ?_⟩
      have hys : y = sgB v B := by unfold sgB; rcases hy with ⟨q1, q2⟩ | ⟨q1, q2, q3⟩; (rw [if_pos q1]; exact q2); (rw [if_neg q1]; exact q2)
      subst_vars
      exact kp_fin hk (by unfold chB; repeat (first | rw [if_pos (by omega)] | rw [if_neg (by omega)]))
    · refine x_tabIn 17 (off := 289) (tgt := 318) rfl (by omega) (by omega) (by rw [h5]; rfl) (by decide) ?_
      refine x_iload_n 130 rfl rfl ?_
      refine x_iconst 131 rfl ?_
      refine x_callS 132 m_L_low (c_low (by omega)) rfl ok_L_low ml_L_19 st_L_low rfl (by decide) rfl (Nat.le_of_ble_eq_true rfl) rfl rfl (fun v g q104 => ?_)
      obtain ⟨rfl, rfl⟩ := q104
      show mX m_L_change 9 _ 0 0 _ _ [vI (lo m 2)] _
      refine x_if_ne 133 (tgt := 340) rfl (by decide) (by omega) (fun h105 => ?_) (fun h105 => ?_)
      · refine x_aload_n 142 rfl rfl ?_
        refine x_iload_n 143 rfl rfl ?_
        refine x_iconst 144 rfl ?_
        refine x_ishrI 145 (r := shI m 1) rfl rfl ?_
        refine x_iconst 146 rfl ?_
        refine x_callS 147 m_L_low (c_low (by omega)) rfl ok_L_low ml_L_19 st_L_low rfl (by decide) rfl (Nat.le_of_ble_eq_true rfl) rfl rfl (fun v g q106 => ?_)
        obtain ⟨rfl, rfl⟩ := q106
        show mX m_L_change 9 _ 0 0 _ _ [vI (lo (shI m 1) 2), vR (some (ob bb))] _
        refine x_callV 148 m_X8_back (c_b_back hk.1 hB (by omega)) rfl ok_X8_back b_lt0 k_0 rfl rfl ml_L_67 im_X8_back se_X8_back rfl (by decide) rfl (Nat.le_of_ble_eq_true rfl) rfl rfl (fun v g q107 => ?_)
        obtain ⟨rfl, i108, li108, rfl, hk⟩ := kQ_of hk q107
        have hk : kp bb i i l ((on (spBack (lo (shI m 1) 2)) B).2) i108 li108 := hk
        have hB : okT ((on (spBack (lo (shI m 1) 2)) B).2) := ok_back hB _
        obtain ⟨B_348, hB_348⟩ : ∃ b, b = (on (spBack (lo (shI m 1) 2)) B).2 := ⟨_, rfl⟩
        rw [← hB_348] at hk hB
        show mX m_L_change 9 _ 0 0 _ _ [vI ((on (spBack (lo (shI m 1) 2)) B).1)] _
        refine x_ret 149 (some (vI ((on (spBack (lo (shI m 1) 2)) B).1))) rfl ⟨rfl, Or.inl rfl⟩ ⟨_, i108, li108, rfl, rfl, ?_⟩
        have hys : y = sgB v B := by unfold sgB; rcases hy with ⟨q1, q2⟩ | ⟨q1, q2, q3⟩; (rw [if_pos q1]; exact q2); (rw [if_neg q1]; exact q2)
        subst_vars
        exact kp_fin hk (by unfold chB; repeat (first | rw [if_pos (by omega)] | rw [if_neg (by omega)]))
      · refine x_aload_n 134 rfl rfl ?_
        refine x_iload_n 135 rfl rfl ?_
        refine x_iconst 136 rfl ?_
        refine x_ishrI 137 (r := shI m 1) rfl rfl ?_
        refine x_iconst 138 rfl ?_
        refine x_callS 139 m_L_low (c_low (by omega)) rfl ok_L_low ml_L_19 st_L_low rfl (by decide) rfl (Nat.le_of_ble_eq_true rfl) rfl rfl (fun v g q109 => ?_)
        obtain ⟨rfl, rfl⟩ := q109
        show mX m_L_change 9 _ 0 0 _ _ [vI (lo (shI m 1) 2), vR (some (ob bb))] _
        refine x_callV 140 m_X8_keep (c_b_keep hk.1 hB (by omega)) rfl ok_X8_keep b_lt0 k_0 rfl rfl ml_L_64 im_X8_keep se_X8_keep rfl (by decide) rfl (Nat.le_of_ble_eq_true rfl) rfl rfl (fun v g q110 => ?_)
        obtain ⟨rfl, i111, li111, rfl, hk⟩ := kQ_of hk q110
        have hk : kp bb i i l ((on (spKeep (lo (shI m 1) 2)) B).2) i111 li111 := hk
        have hB : okT ((on (spKeep (lo (shI m 1) 2)) B).2) := ok_keep hB _
        obtain ⟨B_334, hB_334⟩ : ∃ b, b = (on (spKeep (lo (shI m 1) 2)) B).2 := ⟨_, rfl⟩
        rw [← hB_334] at hk hB
        show mX m_L_change 9 _ 0 0 _ _ [vI ((on (spKeep (lo (shI m 1) 2)) B).1)] _
        refine x_goto 141 (tgt := 351) rfl (by decide) ?_
        refine x_ret 149 (some (vI ((on (spKeep (lo (shI m 1) 2)) B).1))) rfl ⟨rfl, Or.inl rfl⟩ ⟨_, i111, li111, rfl, rfl, ?_⟩
        have hys : y = sgB v B := by unfold sgB; rcases hy with ⟨q1, q2⟩ | ⟨q1, q2, q3⟩; (rw [if_pos q1]; exact q2); (rw [if_neg q1]; exact q2)
        subst_vars
        exact kp_fin hk (by unfold chB; repeat (first | rw [if_pos (by omega)] | rw [if_neg (by omega)]))
  refine x_if_ne 5 (tgt := 14) rfl (by decide) (by omega) (fun h112 => ?_) (fun h112 => ?_)
  · refine x_iload_n 8 rfl rfl ?_
    refine x_iconst 9 rfl ?_
    refine x_ishrI 10 (r := shI v 5) rfl rfl ?_
    refine x_iload_n 11 rfl rfl ?_
    have hsn := lo_rg (shI v 5) (n := B.1 11) (by omega)
    refine x_callS 12 m_L_low (c_low (by omega)) rfl ok_L_low ml_L_19 st_L_low rfl (by decide) rfl (Nat.le_of_ble_eq_true rfl) rfl rfl (fun v g q113 => ?_)
    obtain ⟨rfl, rfl⟩ := q113
    show mX m_L_change 9 _ 0 0 _ _ [vI (lo (shI v 5) (B.1 11))] _
    exact joinJ3 (lo (shI v 5) (B.1 11)) (by omega)
  · refine x_iconst 6 rfl ?_
    refine x_goto 7 (tgt := 21) rfl (by decide) ?_
    exact joinJ3 (0) (by omega)
