variable {nn : Nat} {bb : Bool}
/-! singers -/
set_option maxRecDepth 20000 in
set_option maxHeartbeats 2000000 in
theorem c_contains {i : Nat → Int → Int} {l : Nat → Int → BitVec 64} {b : BitVec 64} {x : Int} (hx : 0 ≤ x ∧ x < 64) : mCtr m_X8_contains 1 0 0 [vL (b), vI (x)] (st nn i l) (qB (b.getLsbD x.toNat = true) (st nn i l)) := by
  refine mCtr_of pl_X8 dc_X8_contains (Nat.le_of_ble_eq_true rfl) rfl ?_
  show mX m_X8_contains 1 _ 0 0 0 [some (vL (b)), none, some (vI (x))] [] (st nn i l)
  refine x_lload_n 0 rfl rfl ?_
  refine x_iload_n 1 rfl rfl ?_
  refine x_lushr 2 (r := b >>> (x : Int).toNat) rfl (by omega) rfl ?_
  refine x_lconst 3 (v := 1#64) rfl rfl ?_
  refine x_land 4 (r := (b >>> (x : Int).toNat) &&& (1#64)) rfl rfl ?_
  refine x_lconst 5 (v := 0#64) rfl rfl ?_
  refine x_lcmp 6 rfl (fun z1 hz1 gz1 fz1 => ?_)
  refine x_if_eq 7 (tgt := 14) rfl (by decide) (by omega) (fun h2 => ?_) (fun h2 => ?_)
  · refine x_iconst 10 rfl ?_
    refine x_ret 11 (some (vI (0))) rfl ⟨rfl, Or.inr ⟨rfl, by omega⟩⟩ ⟨rfl, Or.inr ⟨?_, rfl⟩⟩
    have e2 : z1 = 0 ↔ b.getLsbD x.toNat = false := Iff.trans hz1 (mBit b x.toNat)
    cases hb : b.getLsbD x.toNat <;> simp_all
  · refine x_iconst 8 rfl ?_
    refine x_goto 9 (tgt := 15) rfl (by decide) ?_
    refine x_ret 11 (some (vI (1))) rfl ⟨rfl, Or.inr ⟨rfl, by omega⟩⟩ ⟨rfl, Or.inl ⟨?_, rfl⟩⟩
    have e2 : z1 = 0 ↔ b.getLsbD x.toNat = false := Iff.trans hz1 (mBit b x.toNat)
    cases hb : b.getLsbD x.toNat <;> simp_all
set_option maxRecDepth 20000 in
set_option maxHeartbeats 2000000 in
theorem c_isPart {i : Nat → Int → Int} {l : Nat → Int → BitVec 64} {x : Int} (hx : -2147483648 ≤ x ∧ x < 2147483648) : mCtr m_X8_isPart 1 0 0 [vI (x)] (st nn i l) (qB (0 ≤ x ∧ x < 4) (st nn i l)) := by
  refine mCtr_of pl_X8 dc_X8_isPart (Nat.le_of_ble_eq_true rfl) rfl ?_
  show mX m_X8_isPart 1 _ 0 0 0 [some (vI (x))] [] (st nn i l)
  refine x_iload_n 0 rfl rfl ?_
  refine x_if_lt 1 (tgt := 13) rfl (by decide) (by omega) (fun h1 => ?_) (fun h1 => ?_)
  · refine x_iconst 7 rfl ?_
    refine x_ret 8 (some (vI (0))) rfl ⟨rfl, Or.inr ⟨rfl, by omega⟩⟩ ⟨rfl, Or.inr ⟨?_, rfl⟩⟩
    omega
  · refine x_iload_n 2 rfl rfl ?_
    refine x_iconst 3 rfl ?_
    refine x_icmp_ge 4 (tgt := 13) rfl (by decide) (by omega) (fun h2 => ?_) (fun h2 => ?_)
    · refine x_iconst 7 rfl ?_
      refine x_ret 8 (some (vI (0))) rfl ⟨rfl, Or.inr ⟨rfl, by omega⟩⟩ ⟨rfl, Or.inr ⟨?_, rfl⟩⟩
      omega
    · refine x_iconst 5 rfl ?_
      refine x_goto 6 (tgt := 14) rfl (by decide) ?_
      refine x_ret 8 (some (vI (1))) rfl ⟨rfl, Or.inr ⟨rfl, by omega⟩⟩ ⟨rfl, Or.inl ⟨?_, rfl⟩⟩
      omega
set_option maxRecDepth 20000 in
set_option maxHeartbeats 2000000 in
theorem c_isSetting {i : Nat → Int → Int} {l : Nat → Int → BitVec 64} {x : Int} (hx : -2147483648 ≤ x ∧ x < 2147483648) : mCtr m_X8_isSetting 1 0 0 [vI (x)] (st nn i l) (qB (0 ≤ x ∧ x < 4) (st nn i l)) := by
  refine mCtr_of pl_X8 dc_X8_isSetting (Nat.le_of_ble_eq_true rfl) rfl ?_
  show mX m_X8_isSetting 1 _ 0 0 0 [some (vI (x))] [] (st nn i l)
  refine x_iload_n 0 rfl rfl ?_
  refine x_if_lt 1 (tgt := 13) rfl (by decide) (by omega) (fun h1 => ?_) (fun h1 => ?_)
  · refine x_iconst 7 rfl ?_
    refine x_ret 8 (some (vI (0))) rfl ⟨rfl, Or.inr ⟨rfl, by omega⟩⟩ ⟨rfl, Or.inr ⟨?_, rfl⟩⟩
    omega
  · refine x_iload_n 2 rfl rfl ?_
    refine x_iconst 3 rfl ?_
    refine x_icmp_ge 4 (tgt := 13) rfl (by decide) (by omega) (fun h2 => ?_) (fun h2 => ?_)
    · refine x_iconst 7 rfl ?_
      refine x_ret 8 (some (vI (0))) rfl ⟨rfl, Or.inr ⟨rfl, by omega⟩⟩ ⟨rfl, Or.inr ⟨?_, rfl⟩⟩
      omega
    · refine x_iconst 5 rfl ?_
      refine x_goto 6 (tgt := 14) rfl (by decide) ?_
      refine x_ret 8 (some (vI (1))) rfl ⟨rfl, Or.inr ⟨rfl, by omega⟩⟩ ⟨rfl, Or.inl ⟨?_, rfl⟩⟩
      omega
set_option maxRecDepth 20000 in
set_option maxHeartbeats 2000000 in
theorem c_isImage {i : Nat → Int → Int} {l : Nat → Int → BitVec 64} {x : Int} (hx : -2147483648 ≤ x ∧ x < 2147483648) : mCtr m_X8_isImage 1 0 0 [vI (x)] (st nn i l) (qB (0 ≤ x ∧ x < 2) (st nn i l)) := by
  refine mCtr_of pl_X8 dc_X8_isImage (Nat.le_of_ble_eq_true rfl) rfl ?_
  show mX m_X8_isImage 1 _ 0 0 0 [some (vI (x))] [] (st nn i l)
  refine x_iload_n 0 rfl rfl ?_
  refine x_if_lt 1 (tgt := 13) rfl (by decide) (by omega) (fun h1 => ?_) (fun h1 => ?_)
  · refine x_iconst 7 rfl ?_
    refine x_ret 8 (some (vI (0))) rfl ⟨rfl, Or.inr ⟨rfl, by omega⟩⟩ ⟨rfl, Or.inr ⟨?_, rfl⟩⟩
    omega
  · refine x_iload_n 2 rfl rfl ?_
    refine x_iconst 3 rfl ?_
    refine x_icmp_ge 4 (tgt := 13) rfl (by decide) (by omega) (fun h2 => ?_) (fun h2 => ?_)
    · refine x_iconst 7 rfl ?_
      refine x_ret 8 (some (vI (0))) rfl ⟨rfl, Or.inr ⟨rfl, by omega⟩⟩ ⟨rfl, Or.inr ⟨?_, rfl⟩⟩
      omega
    · refine x_iconst 5 rfl ?_
      refine x_goto 6 (tgt := 14) rfl (by decide) ?_
      refine x_ret 8 (some (vI (1))) rfl ⟨rfl, Or.inr ⟨rfl, by omega⟩⟩ ⟨rfl, Or.inl ⟨?_, rfl⟩⟩
      omega
set_option maxRecDepth 20000 in
set_option maxHeartbeats 2000000 in
theorem c_notesIn {i : Nat → Int → Int} {l : Nat → Int → BitVec 64} {q : Nat} (hq : isS bb q) {p : Int} (hp : 0 ≤ p ∧ p < 4) (h4 : 0 ≤ i q 4 ∧ 0 ≤ i q 5 ∧ i q 4 + i q 5 ≤ 41) : mCtr m_X5_notesIn 2 0 0 [vR (some q), vI (p)] (st nn i l) (qI (fIn i q p) (st nn i l)) := by
  refine mCtr_of pl_X5 dc_X5_notesIn (Nat.le_of_ble_eq_true rfl) rfl ?_
  show mX m_X5_notesIn 2 _ 0 0 0 [some (vR (some q)), some (vI (p)), none, none] [] (st nn i l)
  have hT := mTF3 hp
  refine x_aload_n 0 rfl rfl ?_
  refine x_getI 1 (z := i q 4) rfl fl_X5_45 (isS_lt hq) (kS hq) rfl rfl ?_
  refine x_getsN 2 (t := 3) rfl (by decide) (by decide +kernel) ?_
  refine x_iload_n 3 rfl rfl ?_
  refine x_tald 4 (z := mTF 3 (p).toNat) rfl (by decide) (by omega) rfl ?_
  refine x_mmax 5 (r := max (i q 4) (mTF 3 (p).toNat)) rfl ml_X5_59 (by omega) rfl (by decide) (Nat.le_of_ble_eq_true rfl) ?_
  refine x_istore_n 6 (L' := [some (vR (some q)), some (vI (p)), some (vI (max (i q 4) (mTF 3 (p).toNat))), none]) rfl (by decide) rfl rfl ?_
  refine x_aload_n 7 rfl rfl ?_
  refine x_getI 8 (z := i q 4) rfl fl_X5_45 (isS_lt hq) (kS hq) rfl rfl ?_
  refine x_aload_n 9 rfl rfl ?_
  refine x_getI 10 (z := i q 5) rfl fl_X5_48 (isS_lt hq) (kS hq) rfl rfl ?_
  refine x_iadd 11 (r := (i q 4) + (i q 5)) rfl rfl ?_
  refine x_getsN 12 (t := 3) rfl (by decide) (by decide +kernel) ?_
  refine x_iload_n 13 rfl rfl ?_
  refine x_tald 14 (z := mTF 3 (p).toNat) rfl (by decide) (by omega) rfl ?_
  refine x_bipush 15 rfl (by decide) ?_
  refine x_iadd 16 (r := (mTF 3 (p).toNat) + 15) rfl rfl ?_
  refine x_mmin 17 (r := min ((i q 4) + (i q 5)) ((mTF 3 (p).toNat) + 15)) rfl ml_X5_65 (by omega) rfl (by decide) (Nat.le_of_ble_eq_true rfl) ?_
  refine x_istore_n 18 (L' := [some (vR (some q)), some (vI (p)), some (vI (max (i q 4) (mTF 3 (p).toNat))), some (vI (min ((i q 4) + (i q 5)) ((mTF 3 (p).toNat) + 15)))]) rfl (by decide) rfl rfl ?_
  refine x_iconst 19 rfl ?_
  refine x_iload_n 20 rfl rfl ?_
  refine x_iload_n 21 rfl rfl ?_
  refine x_isub 22 (r := (min ((i q 4) + (i q 5)) ((mTF 3 (p).toNat) + 15)) - (max (i q 4) (mTF 3 (p).toNat))) rfl rfl ?_
  refine x_mmax 23 (r := max 0 ((min ((i q 4) + (i q 5)) ((mTF 3 (p).toNat) + 15)) - (max (i q 4) (mTF 3 (p).toNat)))) rfl ml_X5_59 (by omega) rfl (by decide) (Nat.le_of_ble_eq_true rfl) ?_
  refine x_ret 24 (some (vI (max 0 ((min ((i q 4) + (i q 5)) ((mTF 3 (p).toNat) + 15)) - (max (i q 4) (mTF 3 (p).toNat)))))) rfl ⟨rfl, Or.inl rfl⟩ ⟨congrArg (fun z => some (vI z)) ?_, rfl⟩
  unfold fIn; rw [hT]
set_option maxRecDepth 20000 in
set_option maxHeartbeats 2000000 in
theorem c_sitsBefore {i : Nat → Int → Int} {l : Nat → Int → BitVec 64} {q : Nat} (hq : isS bb q) {q2 : Nat} (hq2 : isS bb q2) {b : Int} (hb : b = 0 ∨ b = 1) (h1 : 100 ≤ i q 1 ∧ i q 1 ≤ 220) (h2 : 100 ≤ i q2 1 ∧ i q2 1 ≤ 220) : mCtr m_X5_sitsBefore 1 0 0 [vR (some q), vR (some q2), vI (b)] (st nn i l) (qB (i q 1 < i q2 1 ∨ (i q 1 = i q2 1 ∧ b = 1)) (st nn i l)) := by
  refine mCtr_of pl_X5 dc_X5_sitsBefore (Nat.le_of_ble_eq_true rfl) rfl ?_
  show mX m_X5_sitsBefore 1 _ 0 0 0 [some (vR (some q)), some (vR (some q2)), some (vI (b))] [] (st nn i l)
  refine x_aload_n 0 rfl rfl ?_
  refine x_getI 1 (z := i q 1) rfl fl_X5_15 (isS_lt hq) (kS hq) rfl rfl ?_
  refine x_aload_n 2 rfl rfl ?_
  refine x_getI 3 (z := i q2 1) rfl fl_X5_15 (isS_lt hq2) (kS hq2) rfl rfl ?_
  refine x_icmp_lt 4 (tgt := 26) rfl (by decide) (by omega) (fun h1 => ?_) (fun h1 => ?_)
  · refine x_iconst 12 rfl ?_
    refine x_goto 13 (tgt := 31) rfl (by decide) ?_
    refine x_ret 15 (some (vI (1))) rfl ⟨rfl, Or.inr ⟨rfl, by omega⟩⟩ ⟨rfl, Or.inl ⟨?_, rfl⟩⟩
    omega
  · refine x_aload_n 5 rfl rfl ?_
    refine x_getI 6 (z := i q 1) rfl fl_X5_15 (isS_lt hq) (kS hq) rfl rfl ?_
    refine x_aload_n 7 rfl rfl ?_
    refine x_getI 8 (z := i q2 1) rfl fl_X5_15 (isS_lt hq2) (kS hq2) rfl rfl ?_
    refine x_icmp_ne 9 (tgt := 30) rfl (by decide) (by omega) (fun h2 => ?_) (fun h2 => ?_)
    · refine x_iconst 14 rfl ?_
      refine x_ret 15 (some (vI (0))) rfl ⟨rfl, Or.inr ⟨rfl, by omega⟩⟩ ⟨rfl, Or.inr ⟨?_, rfl⟩⟩
      omega
    · refine x_iload_n 10 rfl rfl ?_
      refine x_if_eq 11 (tgt := 30) rfl (by decide) (by omega) (fun h3 => ?_) (fun h3 => ?_)
      · refine x_iconst 14 rfl ?_
        refine x_ret 15 (some (vI (0))) rfl ⟨rfl, Or.inr ⟨rfl, by omega⟩⟩ ⟨rfl, Or.inr ⟨?_, rfl⟩⟩
        omega
      · refine x_iconst 12 rfl ?_
        refine x_goto 13 (tgt := 31) rfl (by decide) ?_
        refine x_ret 15 (some (vI (1))) rfl ⟨rfl, Or.inr ⟨rfl, by omega⟩⟩ ⟨rfl, Or.inl ⟨?_, rfl⟩⟩
        omega
set_option maxRecDepth 20000 in
set_option maxHeartbeats 2000000 in
theorem c_singsBefore {i : Nat → Int → Int} {l : Nat → Int → BitVec 64} {q : Nat} (hq : isS bb q) {q2 : Nat} (hq2 : isS bb q2) (h1 : 0 ≤ i q 8 ∧ i q 8 ≤ 40 ∧ -9 ≤ i q 9 ∧ i q 9 ≤ 39) (h2 : 0 ≤ i q2 8 ∧ i q2 8 ≤ 40 ∧ -9 ≤ i q2 9 ∧ i q2 9 ≤ 39) : mCtr m_X5_singsBefore 1 0 0 [vR (some q), vR (some q2)] (st nn i l) (qB (i q 8 < i q2 8 ∨ (i q 8 = i q2 8 ∧ i q 9 < i q2 9)) (st nn i l)) := by
  refine mCtr_of pl_X5 dc_X5_singsBefore (Nat.le_of_ble_eq_true rfl) rfl ?_
  show mX m_X5_singsBefore 1 _ 0 0 0 [some (vR (some q)), some (vR (some q2))] [] (st nn i l)
  refine x_aload_n 0 rfl rfl ?_
  refine x_getI 1 (z := i q 8) rfl fl_X5_29 (isS_lt hq) (kS hq) rfl rfl ?_
  refine x_aload_n 2 rfl rfl ?_
  refine x_getI 3 (z := i q2 8) rfl fl_X5_29 (isS_lt hq2) (kS hq2) rfl rfl ?_
  refine x_icmp_lt 4 (tgt := 33) rfl (by decide) (by omega) (fun h1 => ?_) (fun h1 => ?_)
  · refine x_iconst 15 rfl ?_
    refine x_goto 16 (tgt := 38) rfl (by decide) ?_
    refine x_ret 18 (some (vI (1))) rfl ⟨rfl, Or.inr ⟨rfl, by omega⟩⟩ ⟨rfl, Or.inl ⟨?_, rfl⟩⟩
    omega
  · refine x_aload_n 5 rfl rfl ?_
    refine x_getI 6 (z := i q 8) rfl fl_X5_29 (isS_lt hq) (kS hq) rfl rfl ?_
    refine x_aload_n 7 rfl rfl ?_
    refine x_getI 8 (z := i q2 8) rfl fl_X5_29 (isS_lt hq2) (kS hq2) rfl rfl ?_
    refine x_icmp_ne 9 (tgt := 37) rfl (by decide) (by omega) (fun h2 => ?_) (fun h2 => ?_)
    · refine x_iconst 17 rfl ?_
      refine x_ret 18 (some (vI (0))) rfl ⟨rfl, Or.inr ⟨rfl, by omega⟩⟩ ⟨rfl, Or.inr ⟨?_, rfl⟩⟩
      omega
    · refine x_aload_n 10 rfl rfl ?_
      refine x_getI 11 (z := i q 9) rfl fl_X5_32 (isS_lt hq) (kS hq) rfl rfl ?_
      refine x_aload_n 12 rfl rfl ?_
      refine x_getI 13 (z := i q2 9) rfl fl_X5_32 (isS_lt hq2) (kS hq2) rfl rfl ?_
      refine x_icmp_ge 14 (tgt := 37) rfl (by decide) (by omega) (fun h3 => ?_) (fun h3 => ?_)
      · refine x_iconst 17 rfl ?_
        refine x_ret 18 (some (vI (0))) rfl ⟨rfl, Or.inr ⟨rfl, by omega⟩⟩ ⟨rfl, Or.inr ⟨?_, rfl⟩⟩
        omega
      · refine x_iconst 15 rfl ?_
        refine x_goto 16 (tgt := 38) rfl (by decide) ?_
        refine x_ret 18 (some (vI (1))) rfl ⟨rfl, Or.inr ⟨rfl, by omega⟩⟩ ⟨rfl, Or.inl ⟨?_, rfl⟩⟩
        omega
set_option maxRecDepth 20000 in
set_option maxHeartbeats 2000000 in
theorem c_s_copyFrom {i : Nat → Int → Int} {l : Nat → Int → BitVec 64} {q : Nat} (hq : isS bb q) {q2 : Nat} (hq2 : isS bb q2) (h7 : i q2 7 = 0 ∨ i q2 7 = 1) : mCtr m_X5_copyFrom 1 0 0 [vR (some q), vR (some q2)] (st nn i l) (qV nn (fun i' l' => (∀ a b, i' a b = if a = q ∧ (b = 0 ∨ b = 1 ∨ (4 ≤ b ∧ b ≤ 10)) then i q2 b else i a b) ∧ ∀ a b, l' a b = if a = q ∧ (b = 2 ∨ b = 3) then l q2 b else l a b)) := by
  refine mCtr_of pl_X5 dc_X5_copyFrom (Nat.le_of_ble_eq_true rfl) rfl ?_
  show mX m_X5_copyFrom 1 _ 0 0 0 [some (vR (some q)), some (vR (some q2))] [] (st nn i l)
  refine x_aload_n 0 rfl rfl ?_
  refine x_aload_n 1 rfl rfl ?_
  refine x_getI 2 (z := i q2 0) rfl fl_X5_9 (isS_lt hq2) (kS hq2) rfl rfl ?_
  obtain ⟨i1, hi1⟩ : ∃ f, f = mU i q 0 (i q2 0) := ⟨_, rfl⟩
  refine x_putI 3 rfl fl_X5_9 (isS_lt hq) (kS hq) rfl rfl (g' := st nn i1 l) (by subst hi1; rfl) ?_
  refine x_aload_n 4 rfl rfl ?_
  refine x_aload_n 5 rfl rfl ?_
  refine x_getI 6 (z := i1 q2 1) rfl fl_X5_15 (isS_lt hq2) (kS hq2) rfl rfl ?_
  obtain ⟨i2, hi2⟩ : ∃ f, f = mU i1 q 1 (i1 q2 1) := ⟨_, rfl⟩
  refine x_putI 7 rfl fl_X5_15 (isS_lt hq) (kS hq) rfl rfl (g' := st nn i2 l) (by subst hi2; rfl) ?_
  refine x_aload_n 8 rfl rfl ?_
  refine x_aload_n 9 rfl rfl ?_
  refine x_getL 10 (z := l q2 2) rfl fl_X5_38 (isS_lt hq2) (kS hq2) rfl rfl ?_
  obtain ⟨l3, hl3⟩ : ∃ f, f = mU l q 2 (l q2 2) := ⟨_, rfl⟩
  refine x_putL 11 rfl fl_X5_38 (isS_lt hq) (kS hq) rfl rfl (g' := st nn i2 l3) (by subst hl3; rfl) ?_
  refine x_aload_n 12 rfl rfl ?_
  refine x_aload_n 13 rfl rfl ?_
  refine x_getL 14 (z := l3 q2 3) rfl fl_X5_42 (isS_lt hq2) (kS hq2) rfl rfl ?_
  obtain ⟨l4, hl4⟩ : ∃ f, f = mU l3 q 3 (l3 q2 3) := ⟨_, rfl⟩
  refine x_putL 15 rfl fl_X5_42 (isS_lt hq) (kS hq) rfl rfl (g' := st nn i2 l4) (by subst hl4; rfl) ?_
  refine x_aload_n 16 rfl rfl ?_
  refine x_aload_n 17 rfl rfl ?_
  refine x_getI 18 (z := i2 q2 4) rfl fl_X5_45 (isS_lt hq2) (kS hq2) rfl rfl ?_
  obtain ⟨i5, hi5⟩ : ∃ f, f = mU i2 q 4 (i2 q2 4) := ⟨_, rfl⟩
  refine x_putI 19 rfl fl_X5_45 (isS_lt hq) (kS hq) rfl rfl (g' := st nn i5 l4) (by subst hi5; rfl) ?_
  refine x_aload_n 20 rfl rfl ?_
  refine x_aload_n 21 rfl rfl ?_
  refine x_getI 22 (z := i5 q2 5) rfl fl_X5_48 (isS_lt hq2) (kS hq2) rfl rfl ?_
  obtain ⟨i6, hi6⟩ : ∃ f, f = mU i5 q 5 (i5 q2 5) := ⟨_, rfl⟩
  refine x_putI 23 rfl fl_X5_48 (isS_lt hq) (kS hq) rfl rfl (g' := st nn i6 l4) (by subst hi6; rfl) ?_
  refine x_aload_n 24 rfl rfl ?_
  refine x_aload_n 25 rfl rfl ?_
  refine x_getI 26 (z := i6 q2 6) rfl fl_X5_22 (isS_lt hq2) (kS hq2) rfl rfl ?_
  obtain ⟨i7, hi7⟩ : ∃ f, f = mU i6 q 6 (i6 q2 6) := ⟨_, rfl⟩
  refine x_putI 27 rfl fl_X5_22 (isS_lt hq) (kS hq) rfl rfl (g' := st nn i7 l4) (by subst hi7; rfl) ?_
  refine x_aload_n 28 rfl rfl ?_
  refine x_aload_n 29 rfl rfl ?_
  refine x_getI 30 (z := i7 q2 7) rfl fl_X5_25 (isS_lt hq2) (kS hq2) rfl rfl ?_
  obtain ⟨i8, hi8⟩ : ∃ f, f = mU i7 q 7 (i7 q2 7) := ⟨_, rfl⟩
  refine x_putZ 31 rfl fl_X5_25 (isS_lt hq) (kS hq) rfl (by subst_vars; simpa [mU] using h7) rfl (g' := st nn i8 l4) (by subst hi8; rfl) ?_
  refine x_aload_n 32 rfl rfl ?_
  refine x_aload_n 33 rfl rfl ?_
  refine x_getI 34 (z := i8 q2 8) rfl fl_X5_29 (isS_lt hq2) (kS hq2) rfl rfl ?_
  obtain ⟨i9, hi9⟩ : ∃ f, f = mU i8 q 8 (i8 q2 8) := ⟨_, rfl⟩
  refine x_putI 35 rfl fl_X5_29 (isS_lt hq) (kS hq) rfl rfl (g' := st nn i9 l4) (by subst hi9; rfl) ?_
  refine x_aload_n 36 rfl rfl ?_
  refine x_aload_n 37 rfl rfl ?_
  refine x_getI 38 (z := i9 q2 9) rfl fl_X5_32 (isS_lt hq2) (kS hq2) rfl rfl ?_
  obtain ⟨i10, hi10⟩ : ∃ f, f = mU i9 q 9 (i9 q2 9) := ⟨_, rfl⟩
  refine x_putI 39 rfl fl_X5_32 (isS_lt hq) (kS hq) rfl rfl (g' := st nn i10 l4) (by subst hi10; rfl) ?_
  refine x_aload_n 40 rfl rfl ?_
  refine x_aload_n 41 rfl rfl ?_
  refine x_getI 42 (z := i10 q2 10) rfl fl_X5_35 (isS_lt hq2) (kS hq2) rfl rfl ?_
  obtain ⟨i11, hi11⟩ : ∃ f, f = mU i10 q 10 (i10 q2 10) := ⟨_, rfl⟩
  refine x_putI 43 rfl fl_X5_35 (isS_lt hq) (kS hq) rfl rfl (g' := st nn i11 l4) (by subst hi11; rfl) ?_
  refine x_ret 44 none rfl ⟨rfl, rfl⟩ ⟨rfl, i11, l4, rfl, ?_⟩
  subst_vars; refine ⟨fun a b => ?_, fun a b => ?_⟩ <;> simp only [mU] <;> grind
set_option maxRecDepth 20000 in
set_option maxHeartbeats 2000000 in
theorem c_learn {i : Nat → Int → Int} {l : Nat → Int → BitVec 64} {q : Nat} (hq : isS bb q) {t u : BitVec 64} : mCtr m_X5_learn 2 0 0 [vR (some q), vL (t), vL (u)] (st nn i l) (qV nn (fun i' l' => (∀ a b, i' a b = if a = q ∧ b = 4 then (rwZ (fun k => u.getLsbD k.toNat) 41).2.2 else if a = q ∧ b = 5 then (rwZ (fun k => u.getLsbD k.toNat) 41).2.1 else i a b) ∧ ∀ a b, l' a b = if a = q ∧ b = 2 then t else if a = q ∧ b = 3 then u else l a b)) := by
  refine mCtr_of pl_X5 dc_X5_learn (Nat.le_of_ble_eq_true rfl) rfl ?_
  show mX m_X5_learn 2 _ 0 0 0 [some (vR (some q)), some (vL (t)), none, some (vL (u)), none, none, none] [] (st nn i l)
  obtain ⟨f, hf⟩ : ∃ f : Int → Bool, f = fun k => u.getLsbD k.toNat := ⟨_, rfl⟩
  refine x_aload_n 0 rfl rfl ?_
  refine x_lload_n 1 rfl rfl ?_
  obtain ⟨l1, hl1⟩ : ∃ f, f = mU l q 2 (t) := ⟨_, rfl⟩
  refine x_putL 2 rfl fl_X5_38 (isS_lt hq) (kS hq) rfl rfl (g' := st nn i l1) (by subst hl1; rfl) ?_
  refine x_aload_n 3 rfl rfl ?_
  refine x_lload_n 4 rfl rfl ?_
  obtain ⟨l2, hl2⟩ : ∃ f, f = mU l1 q 3 (u) := ⟨_, rfl⟩
  refine x_putL 5 rfl fl_X5_42 (isS_lt hq) (kS hq) rfl rfl (g' := st nn i l2) (by subst hl2; rfl) ?_
  refine x_aload_n 6 rfl rfl ?_
  refine x_iconst 7 rfl ?_
  obtain ⟨i3, hi3⟩ : ∃ f, f = mU i q 4 (0) := ⟨_, rfl⟩
  refine x_putI 8 rfl fl_X5_45 (isS_lt hq) (kS hq) rfl rfl (g' := st nn i3 l2) (by subst hi3; rfl) ?_
  refine x_aload_n 9 rfl rfl ?_
  refine x_iconst 10 rfl ?_
  obtain ⟨i4, hi4⟩ : ∃ f, f = mU i3 q 5 (0) := ⟨_, rfl⟩
  refine x_putI 11 rfl fl_X5_48 (isS_lt hq) (kS hq) rfl rfl (g' := st nn i4 l2) (by subst hi4; rfl) ?_
  refine x_iconst 12 rfl ?_
  refine x_istore 13 (L' := [some (vR (some q)), some (vL (t)), none, some (vL (u)), none, some (vI (0)), none]) rfl (by decide) rfl rfl ?_
  refine x_iconst 14 rfl ?_
  refine x_istore 15 (L' := [some (vR (some q)), some (vL (t)), none, some (vL (u)), none, some (vI (0)), some (vI (0))]) rfl (by decide) rfl rfl ?_
  have hu : l2 q 3 = u := by subst hl2; simp [mU]
  have hll : ∀ a b, l2 a b = if a = q ∧ b = 2 then t else if a = q ∧ b = 3 then u else l a b := by intro a b; simp only [hl2, hl1, mU]; grind
  have loopL5 : ∀ (nz : Nat) (ii : Nat → Int → Int) (x : Int) (r : Int), (0 ≤ x ∧ x ≤ 41) → (r = (rwZ f x).1) → (∀ a b, ii a b = if a = q ∧ b = 4 then (rwZ f x).2.2 else if a = q ∧ b = 5 then (rwZ f x).2.1 else i a b) → (41 - x) < (nz : Int) → mX m_X5_learn 2 (qV nn (fun i' l' => (∀ a b, i' a b = if a = q ∧ b = 4 then (rwZ (fun k => u.getLsbD k.toNat) 41).2.2 else if a = q ∧ b = 5 then (rwZ (fun k => u.getLsbD k.toNat) 41).2.1 else i a b) ∧ ∀ a b, l' a b = if a = q ∧ b = 2 then t else if a = q ∧ b = 3 then u else l a b)) 0 0 26 [some (vR (some q)), some (vL (t)), none, some (vL (u)), none, some (vI (r)), some (vI (x))] [] (st nn ii l2) := by
    intro nz
    induction nz with
    | zero => intro ii x r h0 hr hi hz; exact absurd hz (by omega)
    | succ nz ihL5 =>
      intro ii x r h0 hr hi hzL5
      refine x_iload 16 rfl rfl ?_
      refine x_bipush 17 rfl (by decide) ?_
      refine x_icmp_ge 18 (tgt := 87) rfl (by decide) (by omega) (fun h6 => ?_) (fun h6 => ?_)
      · refine x_ret 46 none rfl ⟨rfl, rfl⟩ ⟨rfl, ii, l2, rfl, ?_⟩
        rw [show x = 41 by omega] at hi; subst hf; exact ⟨hi, hll⟩
      · refine x_aload_n 19 rfl rfl ?_
        refine x_getL 20 (z := l2 q 3) rfl fl_X5_42 (isS_lt hq) (kS hq) rfl rfl ?_
        refine x_iload 21 rfl rfl ?_
        have hb := rwZ_bd f h0.1
        have h5 : ii q 5 = (rwZ f x).2.1 := by rw [hi]; simp
        rw [hu]
        refine x_callSN 22 m_X8_contains (c_contains (by omega)) rfl ok_X8_contains (by decide +kernel) st_X8_contains rfl (by decide) rfl (Nat.le_of_ble_eq_true rfl) rfl rfl (fun v g q7 => ?_)
        rcases q7 with ⟨rfl, ⟨h8, rfl⟩ | ⟨h8, rfl⟩⟩
        · show mX m_X5_learn 2 _ 0 0 _ _ [vI (1)] _
          have hfx : f x = true := by rw [hf]; exact h8
          refine x_if_eq 23 (tgt := 52) rfl (by decide) (by decide) (fun h9 => absurd h9 (by decide)) (fun h9 => ?_)
          refine x_iload 24 rfl rfl ?_
          refine x_iconst 25 rfl ?_
          refine x_iadd 26 (r := r + 1) rfl rfl ?_
          refine x_goto 27 (tgt := 53) rfl (by decide) ?_
          refine x_istore 29 (L' := [some (vR (some q)), some (vL (t)), none, some (vL (u)), none, some (vI (r + 1)), some (vI (x))]) rfl (by decide) rfl rfl ?_
          refine x_iload 30 rfl rfl ?_
          refine x_aload_n 31 rfl rfl ?_
          refine x_getI 32 (z := ii q 5) rfl fl_X5_48 (isS_lt hq) (kS hq) rfl rfl ?_
          refine x_icmp_le 33 (tgt := 81) rfl (by decide) (by omega) (fun h10 => ?_) (fun h10 => ?_)
          · refine x_iinc 44 (L' := [some (vR (some q)), some (vL (t)), none, some (vL (u)), none, some (vI (r + 1)), some (vI (x + 1))]) rfl (by decide) rfl rfl rfl rfl ?_
            refine x_goto 45 (tgt := 26) rfl (by decide) ?_
            exact ihL5 ii (x + 1) (r + 1) (by omega) (by rw [rwZ_s f h0.1]; grind) (by intro a b; rw [rwZ_s f h0.1]; subst_vars; simp only [mU]; grind) (by omega)
          · refine x_aload_n 34 rfl rfl ?_
            refine x_iload 35 rfl rfl ?_
            obtain ⟨i11, hi11⟩ : ∃ f, f = mU ii q 5 (r + 1) := ⟨_, rfl⟩
            refine x_putI 36 rfl fl_X5_48 (isS_lt hq) (kS hq) rfl rfl (g' := st nn i11 l2) (by subst hi11; rfl) ?_
            refine x_aload_n 37 rfl rfl ?_
            refine x_iload 38 rfl rfl ?_
            refine x_iload 39 rfl rfl ?_
            refine x_isub 40 (r := x - (r + 1)) rfl rfl ?_
            refine x_iconst 41 rfl ?_
            refine x_iadd 42 (r := (x - (r + 1)) + 1) rfl rfl ?_
            obtain ⟨i12, hi12⟩ : ∃ f, f = mU i11 q 4 ((x - (r + 1)) + 1) := ⟨_, rfl⟩
            refine x_putI 43 rfl fl_X5_45 (isS_lt hq) (kS hq) rfl rfl (g' := st nn i12 l2) (by subst hi12; rfl) ?_
            refine x_iinc 44 (L' := [some (vR (some q)), some (vL (t)), none, some (vL (u)), none, some (vI (r + 1)), some (vI (x + 1))]) rfl (by decide) rfl rfl rfl rfl ?_
            refine x_goto 45 (tgt := 26) rfl (by decide) ?_
            exact ihL5 i12 (x + 1) (r + 1) (by omega) (by rw [rwZ_s f h0.1]; grind) (by intro a b; rw [rwZ_s f h0.1]; subst_vars; simp only [mU]; grind) (by omega)
        · show mX m_X5_learn 2 _ 0 0 _ _ [vI (0)] _
          have hfx : f x = false := by rw [hf]; simpa using h8
          refine x_if_eq 23 (tgt := 52) rfl (by decide) (by decide) (fun h13 => ?_) (fun h13 => absurd h13 (by decide))
          refine x_iconst 28 rfl ?_
          refine x_istore 29 (L' := [some (vR (some q)), some (vL (t)), none, some (vL (u)), none, some (vI (0)), some (vI (x))]) rfl (by decide) rfl rfl ?_
          refine x_iload 30 rfl rfl ?_
          refine x_aload_n 31 rfl rfl ?_
          refine x_getI 32 (z := ii q 5) rfl fl_X5_48 (isS_lt hq) (kS hq) rfl rfl ?_
          refine x_icmp_le 33 (tgt := 81) rfl (by decide) (by omega) (fun h14 => ?_) (fun h14 => ?_)
          · refine x_iinc 44 (L' := [some (vR (some q)), some (vL (t)), none, some (vL (u)), none, some (vI (0)), some (vI (x + 1))]) rfl (by decide) rfl rfl rfl rfl ?_
            refine x_goto 45 (tgt := 26) rfl (by decide) ?_
            exact ihL5 ii (x + 1) (0) (by omega) (by rw [rwZ_s f h0.1]; grind) (by intro a b; rw [rwZ_s f h0.1]; subst_vars; simp only [mU]; grind) (by omega)
          · refine x_aload_n 34 rfl rfl ?_
            refine x_iload 35 rfl rfl ?_
            obtain ⟨i15, hi15⟩ : ∃ f, f = mU ii q 5 (0) := ⟨_, rfl⟩
            refine x_putI 36 rfl fl_X5_48 (isS_lt hq) (kS hq) rfl rfl (g' := st nn i15 l2) (by subst hi15; rfl) ?_
            refine x_aload_n 37 rfl rfl ?_
            refine x_iload 38 rfl rfl ?_
            refine x_iload 39 rfl rfl ?_
            refine x_isub 40 (r := x - 0) rfl rfl ?_
            refine x_iconst 41 rfl ?_
            refine x_iadd 42 (r := (x - 0) + 1) rfl rfl ?_
            obtain ⟨i16, hi16⟩ : ∃ f, f = mU i15 q 4 ((x - 0) + 1) := ⟨_, rfl⟩
            refine x_putI 43 rfl fl_X5_45 (isS_lt hq) (kS hq) rfl rfl (g' := st nn i16 l2) (by subst hi16; rfl) ?_
            refine x_iinc 44 (L' := [some (vR (some q)), some (vL (t)), none, some (vL (u)), none, some (vI (0)), some (vI (x + 1))]) rfl (by decide) rfl rfl rfl rfl ?_
            refine x_goto 45 (tgt := 26) rfl (by decide) ?_
            exact ihL5 i16 (x + 1) (0) (by omega) (by rw [rwZ_s f h0.1]; grind) (by intro a b; rw [rwZ_s f h0.1]; subst_vars; simp only [mU]; grind) (by omega)
  exact loopL5 ((41 - ((0))) + 1 : Int).toNat i4 (0) (0) (by omega) (rfl) (by intro a b; subst_vars; simp only [mU]; show _ = if a = q ∧ b = 4 then 0 else if a = q ∧ b = 5 then 0 else i a b; grind) (by omega)
set_option maxRecDepth 20000 in
set_option maxHeartbeats 2000000 in
theorem c_begin {i : Nat → Int → Int} {l : Nat → Int → BitVec 64} {q : Nat} (hq : isS bb q) {s h : Int} : mCtr m_X5_begin 3 0 0 [vR (some q), vI (s), vI (h)] (st nn i l) (qV nn (fun i' l' => (∀ a b, i' a b = if a = q then (if b = 0 then s else if b = 1 then h else if b = 4 ∨ b = 5 ∨ b = 8 ∨ b = 10 then 0 else if b = 6 ∨ b = 9 then -9 else if b = 7 then 1 else i a b) else i a b) ∧ ∀ a b, l' a b = if a = q ∧ (b = 2 ∨ b = 3) then BitVec.ofNat 64 0 else l a b)) := by
  refine mCtr_of pl_X5 dc_X5_begin (Nat.le_of_ble_eq_true rfl) rfl ?_
  show mX m_X5_begin 3 _ 0 0 0 [some (vR (some q)), some (vI (s)), some (vI (h))] [] (st nn i l)
  refine x_aload_n 0 rfl rfl ?_
  refine x_iload_n 1 rfl rfl ?_
  obtain ⟨i1, hi1⟩ : ∃ f, f = mU i q 0 (s) := ⟨_, rfl⟩
  refine x_putI 2 rfl fl_X5_9 (isS_lt hq) (kS hq) rfl rfl (g' := st nn i1 l) (by subst hi1; rfl) ?_
  refine x_aload_n 3 rfl rfl ?_
  refine x_iload_n 4 rfl rfl ?_
  obtain ⟨i2, hi2⟩ : ∃ f, f = mU i1 q 1 (h) := ⟨_, rfl⟩
  refine x_putI 5 rfl fl_X5_15 (isS_lt hq) (kS hq) rfl rfl (g' := st nn i2 l) (by subst hi2; rfl) ?_
  refine x_aload_n 6 rfl rfl ?_
  refine x_lconst 7 (v := 0#64) rfl rfl ?_
  refine x_lconst 8 (v := 0#64) rfl rfl ?_
  refine x_callV 9 m_X5_learn (c_learn hq) rfl ok_X5_learn (isS_lt hq) (kS hq) rfl rfl ml_X5_18 im_X5_learn se_X5_learn rfl (by decide) rfl (Nat.le_of_ble_eq_true rfl) rfl rfl (fun v g q3 => ?_)
  obtain ⟨rfl, i4, li4, rfl, hi4⟩ := q3
  show mX m_X5_begin 3 _ 0 0 _ _ [] _
  obtain ⟨hA, hB⟩ := hi4
  rw [show (fun k : Int => (BitVec.ofNat 64 0).getLsbD k.toNat) = fun _ => false by funext k; simp, rwZ_no] at hA
  refine x_aload_n 10 rfl rfl ?_
  refine x_bipush 11 rfl (by decide) ?_
  obtain ⟨i5, hi5⟩ : ∃ f, f = mU i4 q 6 ((-9)) := ⟨_, rfl⟩
  refine x_putI 12 rfl fl_X5_22 (isS_lt hq) (kS hq) rfl rfl (g' := st nn i5 li4) (by subst hi5; rfl) ?_
  refine x_aload_n 13 rfl rfl ?_
  refine x_iconst 14 rfl ?_
  obtain ⟨i6, hi6⟩ : ∃ f, f = mU i5 q 7 (1) := ⟨_, rfl⟩
  refine x_putZ 15 rfl fl_X5_25 (isS_lt hq) (kS hq) rfl (by omega) rfl (g' := st nn i6 li4) (by subst hi6; rfl) ?_
  refine x_aload_n 16 rfl rfl ?_
  refine x_iconst 17 rfl ?_
  obtain ⟨i7, hi7⟩ : ∃ f, f = mU i6 q 8 (0) := ⟨_, rfl⟩
  refine x_putI 18 rfl fl_X5_29 (isS_lt hq) (kS hq) rfl rfl (g' := st nn i7 li4) (by subst hi7; rfl) ?_
  refine x_aload_n 19 rfl rfl ?_
  refine x_bipush 20 rfl (by decide) ?_
  obtain ⟨i8, hi8⟩ : ∃ f, f = mU i7 q 9 ((-9)) := ⟨_, rfl⟩
  refine x_putI 21 rfl fl_X5_32 (isS_lt hq) (kS hq) rfl rfl (g' := st nn i8 li4) (by subst hi8; rfl) ?_
  refine x_aload_n 22 rfl rfl ?_
  refine x_iconst 23 rfl ?_
  obtain ⟨i9, hi9⟩ : ∃ f, f = mU i8 q 10 (0) := ⟨_, rfl⟩
  refine x_putI 24 rfl fl_X5_35 (isS_lt hq) (kS hq) rfl rfl (g' := st nn i9 li4) (by subst hi9; rfl) ?_
  refine x_ret 25 none rfl ⟨rfl, rfl⟩ ⟨rfl, i9, li4, rfl, ?_⟩
  constructor
  · intro a b; subst_vars; simp only [mU, hA]; grind
  · intro a b; rw [hB]; grind
