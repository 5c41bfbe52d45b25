variable {nn : Nat} {bb : Bool}
/-! the reader's whole way through a text -/
theorem tkR_ok {i i' : Nat → Int → Int} {l l' : Nat → Int → BitVec 64} {res : cS ⊕ (Int × Int)} {z : Int} (h : tkR bb i l i' l' res z) (hz : z ≠ 0) : ∃ s, res = .inl s ∧ rdS bb i' l' = s ∧ i' (ob bb + 172) 2 = i (ob bb + 172) 2 ∧ i' (ob bb + 172) 3 = i (ob bb + 172) 3 := by
  obtain ⟨-, -, -, -, -, h6⟩ := h
  cases res with
  | inl s => exact ⟨s, rfl, h6.2⟩
  | inr e => exact absurd h6.1 hz
theorem tkR_bad {i i' : Nat → Int → Int} {l l' : Nat → Int → BitVec 64} {res : cS ⊕ (Int × Int)} {z : Int} (h : tkR bb i l i' l' res z) (hz : z = 0) : ∃ e, res = .inr e ∧ i' (ob bb + 172) 2 = e.1 ∧ i' (ob bb + 172) 3 = e.2 := by
  obtain ⟨-, -, -, -, -, h6⟩ := h
  cases res with
  | inl s => exact absurd hz (by have := h6.1; omega)
  | inr e => exact ⟨e, rfl, h6.2⟩
theorem cRun_s {sg hi : Int} {f : Int → Int} {s0 s : cS} {x : Int} (h0 : 0 ≤ x) (h : cRun sg hi f s0 x.toNat = .inl s) : cRun sg hi f s0 (x + 1).toNat = cStep sg hi (f x) x s := by
  rw [show (x + 1).toNat = x.toNat + 1 by omega]
  show (match cRun sg hi f s0 x.toNat with | .inl s => cStep sg hi (f (x.toNat : Nat)) (x.toNat : Nat) s | .inr e => .inr e) = _
  rw [h, Int.toNat_of_nonneg h0]
theorem cRun_e {sg hi : Int} {f : Int → Int} {s0 : cS} {e : Int × Int} {n : Nat} (h : cRun sg hi f s0 n = .inr e) (k : Nat) : cRun sg hi f s0 (n + k) = .inr e := by
  induction k with
  | zero => exact h
  | succ k ih =>
    show (match cRun sg hi f s0 (n + k) with | .inl s => cStep sg hi (f (n + k : Nat)) (n + k : Nat) s | .inr e => .inr e) = _
    rw [ih]
theorem cRead_bad {sg hi : Int} {f : Int → Int} {s0 s : cS} {x n : Int} {e : Int × Int} (h0 : 0 ≤ x) (h : cRun sg hi f s0 x.toNat = .inl s) (he : cStep sg hi (f x) x s = .inr e) (hn : x < n) : cRead sg hi f s0 n = .inr e := by
  have h1 := cRun_s h0 h
  rw [he] at h1
  have h2 := cRun_e h1 (n - (x + 1)).toNat
  unfold cRead
  rw [show n.toNat = (x + 1).toNat + (n - (x + 1)).toNat by omega, h2]
theorem cRead_end {sg hi : Int} {f : Int → Int} {s0 s : cS} {n : Int} (h : cRun sg hi f s0 n.toNat = .inl s) : cRead sg hi f s0 n = cEnd hi n s := by
  unfold cRead
  rw [h]
theorem isC_r {c : Nat} (h : isC bb c) : c + 15 ≤ (ob bb + 169) := by
  obtain ⟨a, ha, rfl⟩ := h
  have := (by decide : ∀ c ∈ cL, c + 15 ≤ 169) a ha
  omega
set_option maxRecDepth 20000 in
set_option maxHeartbeats 2000000 in
theorem c_read {i : Nat → Int → Int} {l : Nat → Int → BitVec 64} (hh : -1 ≤ i (ob bb + 172) 4 ∧ i (ob bb + 172) 4 ≤ 40) (hsg : 0 ≤ i (ob bb + 172) 5 ∧ i (ob bb + 172) 5 ≤ 1) (hn : 0 ≤ i (ob bb + 170) 1 ∧ i (ob bb + 170) 1 ≤ 60) (hc : ∀ k, 0 ≤ k → k < i (ob bb + 170) 1 → 0 ≤ i (ob bb + 171) k ∧ i (ob bb + 171) k ≤ 127) : mCtr m_X3_read 4 0 0 [vR (some (ob bb + 172)), vR (some (ob bb + 170))] (st nn i l) (qW nn (fun z i' l' => tkR bb (mU i (ob bb + 172) 6 0) l i' l' (cRead (i (ob bb + 172) 5) (i (ob bb + 172) 4) (fun k => i (ob bb + 171) k) (rdS bb (mU i (ob bb + 172) 6 0) l) (i (ob bb + 170) 1)) z)) := by
  refine mCtr_of pl_X3 dc_X3_read (Nat.le_of_ble_eq_true rfl) rfl ?_
  show mX m_X3_read 4 _ 0 0 0 [some (vR (some (ob bb + 172))), some (vR (some (ob bb + 170))), none] [] (st nn i l)
  refine x_aload_n 0 rfl rfl ?_
  refine x_iconst 1 rfl ?_
  obtain ⟨i1, hi1⟩ : ∃ f, f = mU i (ob bb + 172) 6 (0) := ⟨_, rfl⟩
  refine x_putI 2 rfl fl_X3_42 (b_lt rfl) k_172 rfl rfl (g' := st nn i1 l) (by subst hi1; rfl) ?_
  refine x_iconst 3 rfl ?_
  refine x_istore_n 4 (L' := [some (vR (some (ob bb + 172))), some (vR (some (ob bb + 170))), some (vI (0))]) rfl (by decide) rfl rfl ?_
  have loopL2 : ∀ (nz : Nat) (ii : Nat → Int → Int) (ll : Nat → Int → BitVec 64) (x : Int), (0 ≤ x ∧ x ≤ i (ob bb + 170) 1) → (∀ a b, a ≠ (ob bb + 172) → ii a b = i a b) → (∀ a b, a ≠ (ob bb + 172) → ll a b = l a b) → (ii (ob bb + 172) 4 = i (ob bb + 172) 4) → (ii (ob bb + 172) 5 = i (ob bb + 172) 5) → (ii (ob bb + 172) 2 = i (ob bb + 172) 2) → (ii (ob bb + 172) 3 = i (ob bb + 172) 3) → (cRun (i (ob bb + 172) 5) (i (ob bb + 172) 4) (fun k => i (ob bb + 171) k) (rdS bb (mU i (ob bb + 172) 6 0) l) x.toNat = .inl (rdS bb ii ll)) → (okRd (i (ob bb + 172) 4) (rdS bb ii ll)) → (i (ob bb + 170) 1 - x) < (nz : Int) → mX m_X3_read 4 (qW nn (fun z i' l' => tkR bb (mU i (ob bb + 172) 6 0) l i' l' (cRead (i (ob bb + 172) 5) (i (ob bb + 172) 4) (fun k => i (ob bb + 171) k) (rdS bb (mU i (ob bb + 172) 6 0) l) (i (ob bb + 170) 1)) z)) 0 0 7 [some (vR (some (ob bb + 172))), some (vR (some (ob bb + 170))), some (vI (x))] [] (st nn ii ll) := by
    intro nz
    induction nz with
    | zero => intro ii ll x hx hf hg k_4 k_5 k_2 k_3 hr hd hz; exact absurd hz (by omega)
    | succ nz ihL2 =>
      intro ii ll x hx hf hg k_4 k_5 k_2 k_3 hr hd hzL2
      have hlen : ii (ob bb + 170) 1 = i (ob bb + 170) 1 := hf (ob bb + 170) 1 (by omega)
      refine x_iload_n 5 rfl rfl ?_
      refine x_aload_n 6 rfl rfl ?_
      refine x_getI 7 (z := ii (ob bb + 170) 1) rfl fl_X3_45 (b_lt rfl) k_170 rfl rfl ?_
      refine x_icmp_ge 8 (tgt := 37) rfl (by decide) (by omega) (fun h3 => ?_) (fun h3 => ?_)
      · refine x_aload_n 21 rfl rfl ?_
        have hdw := hd
        rw [← k_4] at hdw
        refine x_aload_n 22 rfl rfl ?_
        refine x_getI 23 (z := ii (ob bb + 170) 1) rfl fl_X3_45 (b_lt rfl) k_170 rfl rfl ?_
        refine x_callV 24 m_X3_end (c_end hdw (by omega) (by omega)) rfl ok_X3_end (b_lt rfl) k_172 rfl rfl ml_X3_58 im_X3_end se_X3_end rfl (by decide) rfl (Nat.le_of_ble_eq_true rfl) rfl rfl (fun v g q4 => ?_)
        obtain ⟨z6, i5, li5, rfl, rfl, hi5⟩ := q4
        show mX m_X3_read 4 _ 0 0 _ _ [vI (z6)] _
        have ht := hi5
        rw [k_4, hlen] at ht
        have hz01 := ht.1
        refine x_ret 25 (some (vI (z6))) rfl ⟨rfl, Or.inr ⟨rfl, by omega⟩⟩ ⟨_, i5, li5, rfl, rfl, ?_⟩
        have hxe : x = i (ob bb + 170) 1 := by omega
        subst hxe
        rw [cRead_end hr]
        obtain ⟨t1, t2, t3, t4, t5, t6⟩ := ht
        refine ⟨t1, fun a b ha => by rw [t2 a b ha, hf a b ha]; simp [mU, ha], fun a b ha => by rw [t3 a b ha, hg a b ha], by rw [t4, k_4]; simp [mU], by rw [t5, k_5]; simp [mU], ?_⟩
        cases hce : cEnd (i (ob bb + 172) 4) (i (ob bb + 170) 1) (rdS bb ii ll) with
        | inl s => rw [hce] at t6; exact ⟨t6.1, t6.2.1, by rw [t6.2.2.1, k_2]; simp [mU], by rw [t6.2.2.2, k_3]; simp [mU]⟩
        | inr e => rw [hce] at t6; exact t6
      · refine x_aload_n 9 rfl rfl ?_
        refine x_aload_n 10 rfl rfl ?_
        refine x_getR 11 (z := (ob bb + 171)) rfl fl_X3_50 (b_lt rfl) k_170 rfl r_170_0 ?_
        refine x_iload_n 12 rfl rfl ?_
        refine x_iald 13 (z := ii (ob bb + 171) x) rfl (b_lt rfl) k_171 (by omega) rfl ?_
        refine x_iload_n 14 rfl rfl ?_
        have hcode : ii (ob bb + 171) x = i (ob bb + 171) x := hf (ob bb + 171) x (by omega)
        have hcx := hc x hx.1 (by omega)
        refine x_callV 15 m_X3_take (c_take (by rw [k_4]; exact hd) (by omega) (by omega) (by omega)) rfl ok_X3_take (b_lt rfl) k_172 rfl rfl ml_X3_54 im_X3_take se_X3_take rfl (by decide) rfl (Nat.le_of_ble_eq_true rfl) rfl rfl (fun v g q7 => ?_)
        obtain ⟨z9, i8, li8, rfl, rfl, hi8⟩ := q7
        show mX m_X3_read 4 _ 0 0 _ _ [vI (z9)] _
        have ht := hi8
        rw [k_4, k_5, hcode] at ht
        have hz01 := ht.1
        refine x_if_ne 16 (tgt := 31) rfl (by decide) (by omega) (fun h10 => ?_) (fun h10 => ?_)
        · obtain ⟨s1, hcs, hrd, hk2, hk3⟩ := tkR_ok ht h10
          refine x_iinc 19 (L' := [some (vR (some (ob bb + 172))), some (vR (some (ob bb + 170))), some (vI (x + 1))]) rfl (by decide) rfl rfl rfl rfl ?_
          refine x_goto 20 (tgt := 7) rfl (by decide) ?_
          exact ihL2 i8 li8 (x + 1) (by omega) (fun a b ha => by rw [ht.2.1 a b ha, hf a b ha]) (fun a b ha => by rw [ht.2.2.1 a b ha, hg a b ha]) (by rw [ht.2.2.2.1, k_4]) (by rw [ht.2.2.2.2.1, k_5]) (by rw [hk2, k_2]) (by rw [hk3, k_3]) (by rw [cRun_s hx.1 hr, hcs, hrd]) (by rw [hrd]; exact okRd_step hd hcs) (by omega)
        · obtain ⟨e1, hcs, hk2, hk3⟩ := tkR_bad ht h10
          refine x_iconst 17 rfl ?_
          refine x_ret 18 (some (vI (0))) rfl ⟨rfl, Or.inr ⟨rfl, by omega⟩⟩ ⟨_, i8, li8, rfl, rfl, ?_⟩
          rw [cRead_bad hx.1 hr hcs (by omega)]
          exact ⟨Or.inl rfl, fun a b ha => by rw [ht.2.1 a b ha, hf a b ha]; simp [mU, ha], fun a b ha => by rw [ht.2.2.1 a b ha, hg a b ha], by rw [ht.2.2.2.1, k_4]; simp [mU], by rw [ht.2.2.2.2.1, k_5]; simp [mU], rfl, hk2, hk3⟩
  exact loopL2 ((i (ob bb + 170) 1 - ((0))) + 1 : Int).toNat i1 l (0) (by omega) (fun a b ha => by subst_vars; simp [mU, ha]) (fun _ _ _ => rfl) (by subst_vars; simp [mU]) (by subst_vars; simp [mU]) (by subst_vars; simp [mU]) (by subst_vars; simp [mU]) (by subst_vars; rfl) (by subst_vars; simp [okRd, mU]) (by omega)
set_option maxRecDepth 20000 in
set_option maxHeartbeats 2000000 in
theorem c_readTests {i : Nat → Int → Int} {l : Nat → Int → BitVec 64} {q : Nat} (hq : isS bb q) (hn : 0 ≤ i (ob bb + 170) 1 ∧ i (ob bb + 170) 1 ≤ 60) (hc : ∀ k, 0 ≤ k → k < i (ob bb + 170) 1 → 0 ≤ i (ob bb + 171) k ∧ i (ob bb + 171) k ≤ 127) : mCtr m_X3_readTests 5 0 0 [vR (some (ob bb + 172)), vR (some (ob bb + 170)), vR (some q)] (st nn i l) (qW nn (fun z i' l' => (z = 0 ∨ z = 1) ∧ (∀ a b, a ≠ (ob bb + 172) → i' a b = i a b) ∧ (∀ a b, a ≠ (ob bb + 172) → l' a b = l a b) ∧ match cRead 1 40 (fun k => i (ob bb + 171) k) (0, i (ob bb + 172) 7, i (ob bb + 172) 8, i (ob bb + 172) 9, i (ob bb + 172) 10, l q 2, l q 3) (i (ob bb + 170) 1) with | .inl s => z = 1 ∧ l' (ob bb + 172) 0 = s.2.2.2.2.2.1 ∧ l' (ob bb + 172) 1 = s.2.2.2.2.2.2 ∧ i' (ob bb + 172) 2 = i (ob bb + 172) 2 ∧ i' (ob bb + 172) 3 = i (ob bb + 172) 3 | .inr e => z = 0 ∧ i' (ob bb + 172) 2 = e.1 ∧ i' (ob bb + 172) 3 = e.2)) := by
  refine mCtr_of pl_X3 dc_X3_readTests (Nat.le_of_ble_eq_true rfl) rfl ?_
  show mX m_X3_readTests 5 _ 0 0 0 [some (vR (some (ob bb + 172))), some (vR (some (ob bb + 170))), some (vR (some q))] [] (st nn i l)
  refine x_aload_n 0 rfl rfl ?_
  refine x_aload_n 1 rfl rfl ?_
  refine x_getL 2 (z := l q 2) rfl fl_X3_18 (isS_lt hq) (kS hq) rfl rfl ?_
  obtain ⟨l1, hl1⟩ : ∃ f, f = mU l (ob bb + 172) 0 (l q 2) := ⟨_, rfl⟩
  refine x_putL 3 rfl fl_X3_24 (b_lt rfl) k_172 rfl rfl (g' := st nn i l1) (by subst hl1; rfl) ?_
  refine x_aload_n 4 rfl rfl ?_
  refine x_aload_n 5 rfl rfl ?_
  refine x_getL 6 (z := l1 q 3) rfl fl_X3_27 (isS_lt hq) (kS hq) rfl rfl ?_
  obtain ⟨l2, hl2⟩ : ∃ f, f = mU l1 (ob bb + 172) 1 (l1 q 3) := ⟨_, rfl⟩
  refine x_putL 7 rfl fl_X3_30 (b_lt rfl) k_172 rfl rfl (g' := st nn i l2) (by subst hl2; rfl) ?_
  refine x_aload_n 8 rfl rfl ?_
  refine x_bipush 9 rfl (by decide) ?_
  obtain ⟨i3, hi3⟩ : ∃ f, f = mU i (ob bb + 172) 4 (40) := ⟨_, rfl⟩
  refine x_putI 10 rfl fl_X3_31 (b_lt rfl) k_172 rfl rfl (g' := st nn i3 l2) (by subst hi3; rfl) ?_
  refine x_aload_n 11 rfl rfl ?_
  refine x_iconst 12 rfl ?_
  obtain ⟨i4, hi4⟩ : ∃ f, f = mU i3 (ob bb + 172) 5 (1) := ⟨_, rfl⟩
  refine x_putZ 13 rfl fl_X3_34 (b_lt rfl) k_172 rfl (by omega) rfl (g' := st nn i4 l2) (by subst hi4; rfl) ?_
  have e170 : i4 (ob bb + 170) 1 = i (ob bb + 170) 1 := by subst_vars; simp [mU]
  have e171 : ∀ k, i4 (ob bb + 171) k = i (ob bb + 171) k := fun k => by subst_vars; simp [mU]
  have e1724 : i4 (ob bb + 172) 4 = 40 := by subst_vars; simp [mU]
  have e1725 : i4 (ob bb + 172) 5 = 1 := by subst_vars; simp [mU]
  have hq172 : q ≠ (ob bb + 172) := by obtain ⟨c, k, hc1, hk1, rfl⟩ := hq; have := isC_r hc1; omega
  have hcc : ∀ k, 0 ≤ k → k < i4 (ob bb + 170) 1 → 0 ≤ i4 (ob bb + 171) k ∧ i4 (ob bb + 171) k ≤ 127 := by intro k h0 h1; rw [e171]; rw [e170] at h1; exact hc k h0 h1
  refine x_aload_n 14 rfl rfl ?_
  refine x_aload_n 15 rfl rfl ?_
  refine x_callV 16 m_X3_read (c_read (by omega) (by omega) (by omega) hcc) rfl ok_X3_read (b_lt rfl) k_172 rfl rfl ml_X3_38 im_X3_read se_X3_read rfl (by decide) rfl (Nat.le_of_ble_eq_true rfl) rfl rfl (fun v g q5 => ?_)
  obtain ⟨z7, i6, li6, rfl, rfl, hi6⟩ := q5
  show mX m_X3_readTests 5 _ 0 0 _ _ [vI (z7)] _
  have ht := hi6
  have hz01 := ht.1
  refine x_ret 17 (some (vI (z7))) rfl ⟨rfl, Or.inr ⟨rfl, by omega⟩⟩ ⟨_, i6, li6, rfl, rfl, ?_⟩
  subst_vars
  obtain ⟨t1, t2, t3, t4, t5, t6⟩ := ht
  simp only [mU] at t6
  refine ⟨t1, fun a b ha => by rw [t2 a b ha]; simp [mU, ha], fun a b ha => by rw [t3 a b ha]; simp [mU, ha], ?_⟩
  split at t6
  · rename_i s hs
    simp [rdS, mU] at hs
    rw [hs]
    simp at t6
    exact ⟨t6.1, by rw [← t6.2.1], by rw [← t6.2.1], t6.2.2.1, t6.2.2.2⟩
  · rename_i e hs
    simp [rdS, mU] at hs
    rw [hs]
    exact t6
set_option maxRecDepth 20000 in
set_option maxHeartbeats 2000000 in
theorem c_readAbsent {i : Nat → Int → Int} {l : Nat → Int → BitVec 64} {n : Int} (h0 : 0 ≤ n ∧ n ≤ 10) (hn : 0 ≤ i (ob bb + 170) 1 ∧ i (ob bb + 170) 1 ≤ 60) (hc : ∀ k, 0 ≤ k → k < i (ob bb + 170) 1 → 0 ≤ i (ob bb + 171) k ∧ i (ob bb + 171) k ≤ 127) : mCtr m_X3_readAbsent 5 0 0 [vR (some (ob bb + 172)), vR (some (ob bb + 170)), vI (n)] (st nn i l) (qW nn (fun z i' l' => (z = 0 ∨ z = 1) ∧ (∀ a b, a ≠ (ob bb + 172) → i' a b = i a b) ∧ (∀ a b, a ≠ (ob bb + 172) → l' a b = l a b) ∧ match cRead 0 (n - 1) (fun k => i (ob bb + 171) k) (0, i (ob bb + 172) 7, i (ob bb + 172) 8, i (ob bb + 172) 9, i (ob bb + 172) 10, 0#64, 0#64) (i (ob bb + 170) 1) with | .inl s => z = 1 ∧ l' (ob bb + 172) 0 = s.2.2.2.2.2.1 ∧ l' (ob bb + 172) 1 = s.2.2.2.2.2.2 ∧ i' (ob bb + 172) 2 = i (ob bb + 172) 2 ∧ i' (ob bb + 172) 3 = i (ob bb + 172) 3 | .inr e => z = 0 ∧ i' (ob bb + 172) 2 = e.1 ∧ i' (ob bb + 172) 3 = e.2)) := by
  refine mCtr_of pl_X3 dc_X3_readAbsent (Nat.le_of_ble_eq_true rfl) rfl ?_
  show mX m_X3_readAbsent 5 _ 0 0 0 [some (vR (some (ob bb + 172))), some (vR (some (ob bb + 170))), some (vI (n))] [] (st nn i l)
  refine x_aload_n 0 rfl rfl ?_
  refine x_lconst 1 (v := 0#64) rfl rfl ?_
  obtain ⟨l1, hl1⟩ : ∃ f, f = mU l (ob bb + 172) 0 (0#64) := ⟨_, rfl⟩
  refine x_putL 2 rfl fl_X3_24 (b_lt rfl) k_172 rfl rfl (g' := st nn i l1) (by subst hl1; rfl) ?_
  refine x_aload_n 3 rfl rfl ?_
  refine x_lconst 4 (v := 0#64) rfl rfl ?_
  obtain ⟨l2, hl2⟩ : ∃ f, f = mU l1 (ob bb + 172) 1 (0#64) := ⟨_, rfl⟩
  refine x_putL 5 rfl fl_X3_30 (b_lt rfl) k_172 rfl rfl (g' := st nn i l2) (by subst hl2; rfl) ?_
  refine x_aload_n 6 rfl rfl ?_
  refine x_iload_n 7 rfl rfl ?_
  refine x_iconst 8 rfl ?_
  refine x_isub 9 (r := n - 1) rfl rfl ?_
  obtain ⟨i3, hi3⟩ : ∃ f, f = mU i (ob bb + 172) 4 (n - 1) := ⟨_, rfl⟩
  refine x_putI 10 rfl fl_X3_31 (b_lt rfl) k_172 rfl rfl (g' := st nn i3 l2) (by subst hi3; rfl) ?_
  refine x_aload_n 11 rfl rfl ?_
  refine x_iconst 12 rfl ?_
  obtain ⟨i4, hi4⟩ : ∃ f, f = mU i3 (ob bb + 172) 5 (0) := ⟨_, rfl⟩
  refine x_putZ 13 rfl fl_X3_34 (b_lt rfl) k_172 rfl (by omega) rfl (g' := st nn i4 l2) (by subst hi4; rfl) ?_
  have e170 : i4 (ob bb + 170) 1 = i (ob bb + 170) 1 := by subst_vars; simp [mU]
  have e171 : ∀ k, i4 (ob bb + 171) k = i (ob bb + 171) k := fun k => by subst_vars; simp [mU]
  have e1724 : i4 (ob bb + 172) 4 = n - 1 := by subst_vars; simp [mU]
  have e1725 : i4 (ob bb + 172) 5 = 0 := by subst_vars; simp [mU]
  have hcc : ∀ k, 0 ≤ k → k < i4 (ob bb + 170) 1 → 0 ≤ i4 (ob bb + 171) k ∧ i4 (ob bb + 171) k ≤ 127 := by intro k h0 h1; rw [e171]; rw [e170] at h1; exact hc k h0 h1
  refine x_aload_n 14 rfl rfl ?_
  refine x_aload_n 15 rfl rfl ?_
  refine x_callV 16 m_X3_read (c_read (by omega) (by omega) (by omega) hcc) rfl ok_X3_read (b_lt rfl) k_172 rfl rfl ml_X3_38 im_X3_read se_X3_read rfl (by decide) rfl (Nat.le_of_ble_eq_true rfl) rfl rfl (fun v g q5 => ?_)
  obtain ⟨z7, i6, li6, rfl, rfl, hi6⟩ := q5
  show mX m_X3_readAbsent 5 _ 0 0 _ _ [vI (z7)] _
  have ht := hi6
  have hz01 := ht.1
  refine x_ret 17 (some (vI (z7))) rfl ⟨rfl, Or.inr ⟨rfl, by omega⟩⟩ ⟨_, i6, li6, rfl, rfl, ?_⟩
  subst_vars
  obtain ⟨t1, t2, t3, t4, t5, t6⟩ := ht
  simp only [mU] at t6
  refine ⟨t1, fun a b ha => by rw [t2 a b ha]; simp [mU, ha], fun a b ha => by rw [t3 a b ha]; simp [mU, ha], ?_⟩
  split at t6
  · rename_i s hs
    simp [rdS, mU] at hs
    rw [hs]
    simp at t6
    exact ⟨t6.1, by rw [← t6.2.1], by rw [← t6.2.1], t6.2.2.1, t6.2.2.2⟩
  · rename_i e hs
    simp [rdS, mU] at hs
    rw [hs]
    exact t6
