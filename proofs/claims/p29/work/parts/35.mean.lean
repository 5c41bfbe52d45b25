variable {nn : Nat} {bb : Bool}
/-! the mean -/
def gTot (W : Int → Int) : Int := sumZ (fun k => if sV W k 2 = -9 then 0 else sV W k 0) (W 11)
def mnF (z : Int) : UInt32 := FP.fdiv (FP.i2f (Int32.ofInt z)) 1082130432
theorem gTot_bd {W : Int → Int} (hW : okW W) : 0 ≤ gTot W ∧ gTot W ≤ 90 := by
  have hN := hW.n
  have := sumZ_bd (f := fun k => if sV W k 2 = -9 then 0 else sV W k 0) (x := W 11) (a := 0) (b := 9) hN.1.1 (fun k h0 h1 => by have := (hW.v h0 h1).1; split <;> omega)
  unfold gTot
  omega
theorem part4s {W : Int → Int} (hW : okW W) : sumZ (fun p => gStr W p) 4 = gTot W := by
  have hN := hW.n
  rw [sumZ4]
  unfold gStr gTot
  have key : ∀ n : Nat, (n : Int) ≤ W 11 → sumN (fun k => if sV W k 2 = 0 then sV W k 0 else 0) n + sumN (fun k => if sV W k 2 = 1 then sV W k 0 else 0) n + sumN (fun k => if sV W k 2 = 2 then sV W k 0 else 0) n + sumN (fun k => if sV W k 2 = 3 then sV W k 0 else 0) n = sumN (fun k => if sV W k 2 = -9 then 0 else sV W k 0) n := by
    intro n
    induction n with
    | zero => intro _; rfl
    | succ n ih =>
      intro hn
      have i1 := ih (by omega)
      have h2 := (hW.v (show 0 ≤ (n : Int) by omega) (by omega)).2.2.1
      have es : ∀ q, sumN (fun k => if sV W k 2 = q then sV W k 0 else 0) (n + 1) = sumN (fun k => if sV W k 2 = q then sV W k 0 else 0) n + if sV W n 2 = q then sV W n 0 else 0 := fun q => rfl
      have et : sumN (fun k => if sV W k 2 = -9 then 0 else sV W k 0) (n + 1) = sumN (fun k => if sV W k 2 = -9 then 0 else sV W k 0) n + if sV W n 2 = -9 then 0 else sV W n 0 := rfl
      rw [es, es, es, es, et]
      rcases (show sV W n 2 = -9 ∨ sV W n 2 = 0 ∨ sV W n 2 = 1 ∨ sV W n 2 = 2 ∨ sV W n 2 = 3 by omega) with h | h | h | h | h <;> rw [h] <;> simp <;> omega
  exact key (W 11).toNat (by omega)
theorem mn_ok {z : Int} (h : 0 ≤ z ∧ z ≤ 90) : vf_n32 (FP.fdiv (FP.i2f (Int32.ofInt z)) 1082130432) ∧ vf_n64 (FP.f2d (mnF z)) := by
  have key : ∀ a : Nat, a < 91 → (FP.fdiv (FP.i2f (Int32.ofInt (a : Int))) 1082130432) &&& 0x7fffffff ≤ 0x7f800000 ∧ (FP.f2d (FP.fdiv (FP.i2f (Int32.ofInt (a : Int))) 1082130432)) &&& 0x7fffffffffffffff ≤ 0x7ff0000000000000 := by decide +kernel
  have := key z.toNat (by omega)
  rw [Int.toNat_of_nonneg h.1] at this
  exact this
set_option maxRecDepth 20000 in
set_option maxHeartbeats 2000000 in
theorem c_b_mean {i : Nat → Int → Int} {l : Nat → Int → BitVec 64} {W : Int → Int} {PN : Int} {P M : Int → Int → Int} {K : Int → Bool} {T : Int → Int} {TN FK FP_ : Int} (hR : RelB bb i l W PN P M K T TN FK FP_) (hB : okB W PN P M K T TN) : mCtr m_X8_mean 5 0 0 [vR (some (ob bb))] (st nn i l) (fun v g' => v = some (vF (mnF (gTot W))) ∧ g' = st nn i l) := by
  refine mCtr_of pl_X8 dc_X8_mean (Nat.le_of_ble_eq_true rfl) rfl ?_
  show mX m_X8_mean 5 _ 0 0 0 [some (vR (some (ob bb))), none, none] [] (st nn i l)
  have hO := okC_of hR.1 hB.1
  have hW := hB.1
  have hN := hW.n
  have htb := gTot_bd hW
  refine x_iconst 0 rfl ?_
  refine x_istore_n 1 (L' := [some (vR (some (ob bb))), some (vI (0)), none]) rfl (by decide) rfl rfl ?_
  refine x_iconst 2 rfl ?_
  refine x_istore_n 3 (L' := [some (vR (some (ob bb))), some (vI (0)), some (vI (0))]) rfl (by decide) rfl rfl ?_
  have loopL1 : ∀ (nz : Nat) (x : Int) (s : Int), (0 ≤ x ∧ x ≤ 4) → (s = sumZ (fun p => gStr W p) x) → (4 - x) < (nz : Int) → mX m_X8_mean 5 (fun v g' => v = some (vF (mnF (gTot W))) ∧ g' = st nn i l) 0 0 4 [some (vR (some (ob bb))), some (vI (s)), some (vI (x))] [] (st nn i l) := by
    intro nz
    induction nz with
    | zero => intro x s hx hs hz; exact absurd hz (by omega)
    | succ nz ihL1 =>
      intro x s hx hs hzL1
      refine x_iload_n 4 rfl rfl ?_
      refine x_iconst 5 rfl ?_
      refine x_icmp_ge 6 (tgt := 26) rfl (by decide) (by omega) (fun h2 => ?_) (fun h2 => ?_)
      · have hs4 : s = gTot W := by rw [hs, show x = 4 by omega]; exact part4s hW
        refine x_iload_n 16 rfl rfl ?_
        refine x_i2f 17 (r := FP.i2f (Int32.ofInt s)) rfl rfl ?_
        refine x_ldcf 18 rfl cf_X8_246 ?_
        refine x_fdiv 19 (r := FP.fdiv (FP.i2f (Int32.ofInt s)) (1082130432)) rfl rfl ((mn_ok (z := s) (by omega)).1) ?_
        refine x_ret 20 (some (vF (FP.fdiv (FP.i2f (Int32.ofInt s)) (1082130432)))) rfl ⟨rfl, rfl⟩ ?_
        refine ⟨?_, rfl⟩
        rw [hs4]; rfl
      · refine x_iload_n 7 rfl rfl ?_
        refine x_aload_n 8 rfl rfl ?_
        refine x_getR 9 (z := (ob bb + 1)) rfl fl_X8_10 b_lt0 k_0 rfl r_0_0 ?_
        refine x_iload_n 10 rfl rfl ?_
        refine x_callV 11 m_X0_strength (c_strength isC_1 hO (by omega)) rfl ok_X0_strength (isC_0 isC_1) (kC isC_1) rfl rfl ml_X8_220 im_X0_strength se_X0_strength rfl (by decide) rfl (Nat.le_of_ble_eq_true rfl) rfl rfl (fun v g q3 => ?_)
        obtain ⟨rfl, rfl⟩ := q3
        show mX m_X8_mean 5 _ 0 0 _ _ [vI (fStr i (ob bb + 1) x), vI (s)] _
        refine x_iadd 12 (r := s + (fStr i (ob bb + 1) x)) rfl rfl ?_
        refine x_istore_n 13 (L' := [some (vR (some (ob bb))), some (vI (s + (fStr i (ob bb + 1) x))), some (vI (x))]) rfl (by decide) rfl rfl ?_
        refine x_iinc 14 (L' := [some (vR (some (ob bb))), some (vI (s + (fStr i (ob bb + 1) x))), some (vI (x + 1))]) rfl (by decide) rfl rfl rfl rfl ?_
        refine x_goto 15 (tgt := 4) rfl (by decide) ?_
        exact ihL1 (x + 1) (s + (fStr i (ob bb + 1) x)) (by omega) (by rw [sumZ_s _ hx.1, hs, fStr_rel hR.1]) (by omega)
  exact loopL1 ((4 - ((0))) + 1 : Int).toNat (0) (0) (by omega) (rfl) (by omega)
