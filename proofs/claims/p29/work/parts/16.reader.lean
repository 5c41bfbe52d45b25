variable {nn : Nat} {bb : Bool}
/-! the reader of texts -/
/-- where, value, digits, start, first, told, sung -/
abbrev cS : Type := Int × Int × Int × Int × Int × BitVec 64 × BitVec 64
def wBits (a b : Int) : BitVec 64 := (1#64 <<< (b - a + 1).toNat - 1#64) <<< a.toNat
def cClose (can : Bool) (s : cS) : cS := (s.1, s.2.1, s.2.2.1, s.2.2.2.1, s.2.2.2.2.1, s.2.2.2.2.2.1 ||| wBits (if s.1 = 3 then s.2.2.2.2.1 else s.2.1) s.2.1, if can then s.2.2.2.2.2.2 ||| wBits (if s.1 = 3 then s.2.2.2.2.1 else s.2.1) s.2.1 else s.2.2.2.2.2.2 &&& (wBits (if s.1 = 3 then s.2.2.2.2.1 else s.2.1) s.2.1 ^^^ -1))
def cWhere (w : Int) (s : cS) : cS := (w, s.2)
def cStands (hi : Int) (s : cS) : Prop := s.2.1 ≤ hi ∧ (s.1 = 1 ∨ s.2.2.2.2.1 ≤ s.2.1)
noncomputable def cStep (sg hi code pos : Int) (s : cS) : cS ⊕ (Int × Int) := by
  classical exact
  (if s.1 = 1 ∨ s.1 = 3 then
    (if 48 ≤ code ∧ code ≤ 57 then (if s.2.2.1 = 2 then .inr (1, pos) else .inl (s.1, s.2.1 * 10 + code - 48, 2, s.2.2.2))
    else if ¬ cStands hi s then .inr (2, s.2.2.2.1)
    else if code = 32 then .inl (cWhere 0 (cClose true s))
    else if code = 33 ∧ sg ≠ 0 then .inl (cWhere 4 (cClose false s))
    else if code = 45 ∧ sg ≠ 0 ∧ s.1 = 1 then .inl (2, s.2.1, s.2.2.1, s.2.2.2.1, s.2.1, s.2.2.2.2.2)
    else .inr (1, pos))
  else if (48 ≤ code ∧ code ≤ 57) ∧ s.1 ≠ 4 then .inl (if s.1 = 2 then 3 else 1, code - 48, 1, pos, s.2.2.2.2)
  else if code = 32 ∧ s.1 ≠ 2 then .inl (cWhere 0 s)
  else .inr (1, pos))
noncomputable def cEnd (hi len : Int) (s : cS) : cS ⊕ (Int × Int) := by
  classical exact
  (if s.1 = 2 then .inr (3, len) else if ¬ (s.1 = 1 ∨ s.1 = 3) then .inl s else if ¬ cStands hi s then .inr (2, s.2.2.2.1) else .inl (cClose true s))
noncomputable def cRun (sg hi : Int) (f : Int → Int) (s0 : cS) : Nat → cS ⊕ (Int × Int)
  | 0 => .inl s0
  | n + 1 => match cRun sg hi f s0 n with
    | .inl s => cStep sg hi (f n) n s
    | .inr e => .inr e
noncomputable def cRead (sg hi : Int) (f : Int → Int) (s0 : cS) (len : Int) : cS ⊕ (Int × Int) := match cRun sg hi f s0 len.toNat with
  | .inl s => cEnd hi len s
  | .inr e => .inr e
abbrev rdS (bb : Bool) (i : Nat → Int → Int) (l : Nat → Int → BitVec 64) : cS := (i (ob bb + 172) 6, i (ob bb + 172) 7, i (ob bb + 172) 8, i (ob bb + 172) 9, i (ob bb + 172) 10, l (ob bb + 172) 0, l (ob bb + 172) 1)
def okRd (hi : Int) (s : cS) : Prop := 0 ≤ s.1 ∧ s.1 ≤ 4 ∧ ((s.1 = 1 ∨ s.1 = 3) → 0 ≤ s.2.1 ∧ s.2.1 ≤ 99 ∧ 1 ≤ s.2.2.1 ∧ s.2.2.1 ≤ 2 ∧ (s.2.2.1 = 1 → s.2.1 ≤ 9)) ∧ ((s.1 = 2 ∨ s.1 = 3) → 0 ≤ s.2.2.2.2.1 ∧ s.2.2.2.2.1 ≤ hi)
theorem okRd_step {sg hi code pos : Int} {s s' : cS} (h : okRd hi s) (hs : cStep sg hi code pos s = .inl s') : okRd hi s' := by
  obtain ⟨w, v, d, st, f, T, S⟩ := s
  unfold okRd at h
  simp only at h
  unfold cStep cStands cWhere cClose at hs
  simp only at hs
  unfold okRd
  split at hs
  · split at hs
    · split at hs
      · cases hs
      · cases hs; simp only; omega
    · split at hs
      · cases hs
      · split at hs
        · cases hs; simp only; omega
        · split at hs
          · cases hs; simp only; omega
          · split at hs
            · cases hs; simp only; omega
            · cases hs
  · split at hs
    · cases hs; simp only; split <;> omega
    · split at hs
      · cases hs; simp only; omega
      · cases hs
/-- what a step of the reader leaves -/
def tkR (bb : Bool) (i : Nat → Int → Int) (l : Nat → Int → BitVec 64) (i' : Nat → Int → Int) (l' : Nat → Int → BitVec 64) (res : cS ⊕ (Int × Int)) (z : Int) : Prop :=
  (z = 0 ∨ z = 1) ∧ (∀ a b, a ≠ (ob bb + 172) → i' a b = i a b) ∧ (∀ a b, a ≠ (ob bb + 172) → l' a b = l a b) ∧ i' (ob bb + 172) 4 = i (ob bb + 172) 4 ∧ i' (ob bb + 172) 5 = i (ob bb + 172) 5 ∧ match res with
    | .inl s => z = 1 ∧ rdS bb i' l' = s ∧ i' (ob bb + 172) 2 = i (ob bb + 172) 2 ∧ i' (ob bb + 172) 3 = i (ob bb + 172) 3
    | .inr e => z = 0 ∧ i' (ob bb + 172) 2 = e.1 ∧ i' (ob bb + 172) 3 = e.2
theorem mUne {α : Type} (f : Nat → Int → α) (o : Nat) (k : Int) (x : α) {a : Nat} (b : Int) (h : a ≠ o) : mU f o k x a b = f a b := by simp [mU, h]
theorem mUek {α : Type} (f : Nat → Int → α) (o : Nat) (k : Int) (x : α) {b : Int} (h : b ≠ k) : mU f o k x o b = f o b := by simp [mU, h]
theorem mUs {α : Type} (f : Nat → Int → α) (o : Nat) (k : Int) (x : α) : mU f o k x o k = x := by simp [mU]
set_option maxRecDepth 20000 in
set_option maxHeartbeats 2000000 in
theorem c_fail {i : Nat → Int → Int} {l : Nat → Int → BitVec 64} {k p : Int} : mCtr m_X3_fail 1 0 0 [vR (some (ob bb + 172)), vI (k), vI (p)] (st nn i l) (qW nn (fun z i' l' => z = 0 ∧ i' = mU (mU i (ob bb + 172) 2 k) (ob bb + 172) 3 p ∧ l' = l)) := by
  refine mCtr_of pl_X3 dc_X3_fail (Nat.le_of_ble_eq_true rfl) rfl ?_
  show mX m_X3_fail 1 _ 0 0 0 [some (vR (some (ob bb + 172))), some (vI (k)), some (vI (p))] [] (st nn i l)
  refine x_aload_n 0 rfl rfl ?_
  refine x_iload_n 1 rfl rfl ?_
  obtain ⟨i1, hi1⟩ : ∃ f, f = mU i (ob bb + 172) 2 (k) := ⟨_, rfl⟩
  refine x_putI 2 rfl fl_X3_9 (b_lt rfl) k_172 rfl rfl (g' := st nn i1 l) (by subst hi1; rfl) ?_
  refine x_aload_n 3 rfl rfl ?_
  refine x_iload_n 4 rfl rfl ?_
  obtain ⟨i2, hi2⟩ : ∃ f, f = mU i1 (ob bb + 172) 3 (p) := ⟨_, rfl⟩
  refine x_putI 5 rfl fl_X3_15 (b_lt rfl) k_172 rfl rfl (g' := st nn i2 l) (by subst hi2; rfl) ?_
  refine x_iconst 6 rfl ?_
  refine x_ret 7 (some (vI (0))) rfl ⟨rfl, Or.inr ⟨rfl, by omega⟩⟩ ⟨_, i2, l, rfl, rfl, ?_⟩
  exact ⟨rfl, by rw [hi2, hi1], rfl⟩
set_option maxRecDepth 20000 in
set_option maxHeartbeats 2000000 in
theorem c_inNumber {i : Nat → Int → Int} {l : Nat → Int → BitVec 64} (hw : 0 ≤ i (ob bb + 172) 6 ∧ i (ob bb + 172) 6 ≤ 4) : mCtr m_X3_inNumber 1 0 0 [vR (some (ob bb + 172))] (st nn i l) (qB (i (ob bb + 172) 6 = 1 ∨ i (ob bb + 172) 6 = 3) (st nn i l)) := by
  refine mCtr_of pl_X3 dc_X3_inNumber (Nat.le_of_ble_eq_true rfl) rfl ?_
  show mX m_X3_inNumber 1 _ 0 0 0 [some (vR (some (ob bb + 172)))] [] (st nn i l)
  refine x_aload_n 0 rfl rfl ?_
  refine x_getI 1 (z := i (ob bb + 172) 6) rfl fl_X3_42 (b_lt rfl) k_172 rfl rfl ?_
  refine x_iconst 2 rfl ?_
  refine x_icmp_eq 3 (tgt := 16) rfl (by decide) (by omega) (fun h1 => ?_) (fun h1 => ?_)
  · refine x_iconst 8 rfl ?_
    refine x_goto 9 (tgt := 21) rfl (by decide) ?_
    refine x_ret 11 (some (vI (1))) rfl ⟨rfl, Or.inr ⟨rfl, by omega⟩⟩ ⟨rfl, Or.inl ⟨?_, rfl⟩⟩
    omega
  · refine x_aload_n 4 rfl rfl ?_
    refine x_getI 5 (z := i (ob bb + 172) 6) rfl fl_X3_42 (b_lt rfl) k_172 rfl rfl ?_
    refine x_iconst 6 rfl ?_
    refine x_icmp_ne 7 (tgt := 20) rfl (by decide) (by omega) (fun h2 => ?_) (fun h2 => ?_)
    · refine x_iconst 10 rfl ?_
      refine x_ret 11 (some (vI (0))) rfl ⟨rfl, Or.inr ⟨rfl, by omega⟩⟩ ⟨rfl, Or.inr ⟨?_, rfl⟩⟩
      omega
    · refine x_iconst 8 rfl ?_
      refine x_goto 9 (tgt := 21) rfl (by decide) ?_
      refine x_ret 11 (some (vI (1))) rfl ⟨rfl, Or.inr ⟨rfl, by omega⟩⟩ ⟨rfl, Or.inl ⟨?_, rfl⟩⟩
      omega
set_option maxRecDepth 20000 in
set_option maxHeartbeats 2000000 in
theorem c_numberStands {i : Nat → Int → Int} {l : Nat → Int → BitVec 64} (hw : 0 ≤ i (ob bb + 172) 6 ∧ i (ob bb + 172) 6 ≤ 4) (hv : 0 ≤ i (ob bb + 172) 7 ∧ i (ob bb + 172) 7 ≤ 99) (hf : i (ob bb + 172) 6 = 1 ∨ (0 ≤ i (ob bb + 172) 10 ∧ i (ob bb + 172) 10 ≤ 40)) (hh : -1 ≤ i (ob bb + 172) 4 ∧ i (ob bb + 172) 4 ≤ 40) : mCtr m_X3_numberStands 1 0 0 [vR (some (ob bb + 172))] (st nn i l) (qB (cStands (i (ob bb + 172) 4) (rdS bb i l)) (st nn i l)) := by
  refine mCtr_of pl_X3 dc_X3_numberStands (Nat.le_of_ble_eq_true rfl) rfl ?_
  show mX m_X3_numberStands 1 _ 0 0 0 [some (vR (some (ob bb + 172)))] [] (st nn i l)
  refine x_aload_n 0 rfl rfl ?_
  refine x_getI 1 (z := i (ob bb + 172) 7) rfl fl_X3_79 (b_lt rfl) k_172 rfl rfl ?_
  refine x_aload_n 2 rfl rfl ?_
  refine x_getI 3 (z := i (ob bb + 172) 4) rfl fl_X3_31 (b_lt rfl) k_172 rfl rfl ?_
  refine x_icmp_gt 4 (tgt := 34) rfl (by decide) (by omega) (fun h1 => ?_) (fun h1 => ?_)
  · refine x_iconst 16 rfl ?_
    refine x_ret 17 (some (vI (0))) rfl ⟨rfl, Or.inr ⟨rfl, by omega⟩⟩ ⟨rfl, Or.inr ⟨?_, rfl⟩⟩
    unfold cStands; simp only; omega
  · refine x_aload_n 5 rfl rfl ?_
    refine x_getI 6 (z := i (ob bb + 172) 6) rfl fl_X3_42 (b_lt rfl) k_172 rfl rfl ?_
    refine x_iconst 7 rfl ?_
    refine x_icmp_eq 8 (tgt := 30) rfl (by decide) (by omega) (fun h2 => ?_) (fun h2 => ?_)
    · refine x_iconst 14 rfl ?_
      refine x_goto 15 (tgt := 35) rfl (by decide) ?_
      refine x_ret 17 (some (vI (1))) rfl ⟨rfl, Or.inr ⟨rfl, by omega⟩⟩ ⟨rfl, Or.inl ⟨?_, rfl⟩⟩
      unfold cStands; simp only; omega
    · refine x_aload_n 9 rfl rfl ?_
      refine x_getI 10 (z := i (ob bb + 172) 7) rfl fl_X3_79 (b_lt rfl) k_172 rfl rfl ?_
      refine x_aload_n 11 rfl rfl ?_
      refine x_getI 12 (z := i (ob bb + 172) 10) rfl fl_X3_95 (b_lt rfl) k_172 rfl rfl ?_
      refine x_icmp_lt 13 (tgt := 34) rfl (by decide) (by omega) (fun h3 => ?_) (fun h3 => ?_)
      · refine x_iconst 16 rfl ?_
        refine x_ret 17 (some (vI (0))) rfl ⟨rfl, Or.inr ⟨rfl, by omega⟩⟩ ⟨rfl, Or.inr ⟨?_, rfl⟩⟩
        unfold cStands; simp only; omega
      · refine x_iconst 14 rfl ?_
        refine x_goto 15 (tgt := 35) rfl (by decide) ?_
        refine x_ret 17 (some (vI (1))) rfl ⟨rfl, Or.inr ⟨rfl, by omega⟩⟩ ⟨rfl, Or.inl ⟨?_, rfl⟩⟩
        unfold cStands; simp only; omega
set_option maxRecDepth 20000 in
set_option maxHeartbeats 2000000 in
theorem c_closeWord {i : Nat → Int → Int} {l : Nat → Int → BitVec 64} (hw : 0 ≤ i (ob bb + 172) 6 ∧ i (ob bb + 172) 6 ≤ 4) {k : Int} (hk : k = 0 ∨ k = 1) (hv : 0 ≤ i (ob bb + 172) 7 ∧ i (ob bb + 172) 7 ≤ 40) (hf : i (ob bb + 172) 6 = 3 → 0 ≤ i (ob bb + 172) 10 ∧ i (ob bb + 172) 10 ≤ i (ob bb + 172) 7) : mCtr m_X3_closeWord 1 0 0 [vR (some (ob bb + 172)), vI (k)] (st nn i l) (qV nn (fun i' l' => i' = i ∧ l' = mU (mU l (ob bb + 172) 0 (cClose (decide (k ≠ 0)) (rdS bb i l)).2.2.2.2.2.1) (ob bb + 172) 1 (cClose (decide (k ≠ 0)) (rdS bb i l)).2.2.2.2.2.2)) := by
  refine mCtr_of pl_X3 dc_X3_closeWord (Nat.le_of_ble_eq_true rfl) rfl ?_
  show mX m_X3_closeWord 1 _ 0 0 0 [some (vR (some (ob bb + 172))), some (vI (k)), none, none, none] [] (st nn i l)
  refine x_aload_n 0 rfl rfl ?_
  refine x_getI 1 (z := i (ob bb + 172) 6) rfl fl_X3_42 (b_lt rfl) k_172 rfl rfl ?_
  refine x_iconst 2 rfl ?_
  refine x_icmp_ne 3 (tgt := 15) rfl (by decide) (by omega) (fun h1 => ?_) (fun h1 => ?_)
  · refine x_aload_n 7 rfl rfl ?_
    refine x_getI 8 (z := i (ob bb + 172) 7) rfl fl_X3_79 (b_lt rfl) k_172 rfl rfl ?_
    refine x_istore_n 9 (L' := [some (vR (some (ob bb + 172))), some (vI (k)), some (vI (i (ob bb + 172) 7)), none, none]) rfl (by decide) rfl rfl ?_
    refine x_lconst 10 (v := 1#64) rfl rfl ?_
    refine x_aload_n 11 rfl rfl ?_
    refine x_getI 12 (z := i (ob bb + 172) 7) rfl fl_X3_79 (b_lt rfl) k_172 rfl rfl ?_
    refine x_iload_n 13 rfl rfl ?_
    refine x_isub 14 (r := (i (ob bb + 172) 7) - (i (ob bb + 172) 7)) rfl rfl ?_
    refine x_iconst 15 rfl ?_
    refine x_iadd 16 (r := ((i (ob bb + 172) 7) - (i (ob bb + 172) 7)) + 1) rfl rfl ?_
    refine x_lshl 17 (r := (1#64) <<< (((i (ob bb + 172) 7) - (i (ob bb + 172) 7)) + 1 : Int).toNat) rfl (by omega) rfl ?_
    refine x_lconst 18 (v := 1#64) rfl rfl ?_
    refine x_lsub 19 (r := ((1#64) <<< (((i (ob bb + 172) 7) - (i (ob bb + 172) 7)) + 1 : Int).toNat) - (1#64)) rfl rfl ?_
    refine x_iload_n 20 rfl rfl ?_
    refine x_lshl 21 (r := (((1#64) <<< (((i (ob bb + 172) 7) - (i (ob bb + 172) 7)) + 1 : Int).toNat) - (1#64)) <<< (i (ob bb + 172) 7 : Int).toNat) rfl (by omega) rfl ?_
    refine x_lstore_n 22 (L' := [some (vR (some (ob bb + 172))), some (vI (k)), some (vI (i (ob bb + 172) 7)), some (vL ((((1#64) <<< (((i (ob bb + 172) 7) - (i (ob bb + 172) 7)) + 1 : Int).toNat) - (1#64)) <<< (i (ob bb + 172) 7 : Int).toNat)), none]) rfl (by decide) rfl rfl ?_
    refine x_aload_n 23 rfl rfl ?_
    refine x_dup 24 rfl rfl ?_
    refine x_getL 25 (z := l (ob bb + 172) 0) rfl fl_X3_24 (b_lt rfl) k_172 rfl rfl ?_
    refine x_lload_n 26 rfl rfl ?_
    refine x_lor 27 (r := (l (ob bb + 172) 0) ||| ((((1#64) <<< (((i (ob bb + 172) 7) - (i (ob bb + 172) 7)) + 1 : Int).toNat) - (1#64)) <<< (i (ob bb + 172) 7 : Int).toNat)) rfl rfl ?_
    obtain ⟨l2, hl2⟩ : ∃ f, f = mU l (ob bb + 172) 0 ((l (ob bb + 172) 0) ||| ((((1#64) <<< (((i (ob bb + 172) 7) - (i (ob bb + 172) 7)) + 1 : Int).toNat) - (1#64)) <<< (i (ob bb + 172) 7 : Int).toNat)) := ⟨_, rfl⟩
    refine x_putL 28 rfl fl_X3_24 (b_lt rfl) k_172 rfl rfl (g' := st nn i l2) (by subst hl2; rfl) ?_
    refine x_aload_n 29 rfl rfl ?_
    refine x_iload_n 30 rfl rfl ?_
    refine x_if_eq 31 (tgt := 59) rfl (by decide) (by omega) (fun h3 => ?_) (fun h3 => ?_)
    · refine x_aload_n 37 rfl rfl ?_
      refine x_getL 38 (z := l2 (ob bb + 172) 1) rfl fl_X3_30 (b_lt rfl) k_172 rfl rfl ?_
      refine x_lload_n 39 rfl rfl ?_
      refine x_ldc2 40 (r := (-1 : BitVec 64)) rfl ck_X3_98 rfl ?_
      refine x_lxor 41 (r := ((((1#64) <<< (((i (ob bb + 172) 7) - (i (ob bb + 172) 7)) + 1 : Int).toNat) - (1#64)) <<< (i (ob bb + 172) 7 : Int).toNat) ^^^ (-1 : BitVec 64)) rfl rfl ?_
      refine x_land 42 (r := (l2 (ob bb + 172) 1) &&& (((((1#64) <<< (((i (ob bb + 172) 7) - (i (ob bb + 172) 7)) + 1 : Int).toNat) - (1#64)) <<< (i (ob bb + 172) 7 : Int).toNat) ^^^ (-1 : BitVec 64))) rfl rfl ?_
      obtain ⟨l4, hl4⟩ : ∃ f, f = mU l2 (ob bb + 172) 1 ((l2 (ob bb + 172) 1) &&& (((((1#64) <<< (((i (ob bb + 172) 7) - (i (ob bb + 172) 7)) + 1 : Int).toNat) - (1#64)) <<< (i (ob bb + 172) 7 : Int).toNat) ^^^ (-1 : BitVec 64))) := ⟨_, rfl⟩
      refine x_putL 43 rfl fl_X3_30 (b_lt rfl) k_172 rfl rfl (g' := st nn i l4) (by subst hl4; rfl) ?_
      refine x_ret 44 none rfl ⟨rfl, rfl⟩ ⟨rfl, i, l4, rfl, ?_⟩
      refine ⟨rfl, ?_⟩
      subst_vars
      simp [cClose, wBits, mUek, *]
    · refine x_aload_n 32 rfl rfl ?_
      refine x_getL 33 (z := l2 (ob bb + 172) 1) rfl fl_X3_30 (b_lt rfl) k_172 rfl rfl ?_
      refine x_lload_n 34 rfl rfl ?_
      refine x_lor 35 (r := (l2 (ob bb + 172) 1) ||| ((((1#64) <<< (((i (ob bb + 172) 7) - (i (ob bb + 172) 7)) + 1 : Int).toNat) - (1#64)) <<< (i (ob bb + 172) 7 : Int).toNat)) rfl rfl ?_
      refine x_goto 36 (tgt := 69) rfl (by decide) ?_
      obtain ⟨l5, hl5⟩ : ∃ f, f = mU l2 (ob bb + 172) 1 ((l2 (ob bb + 172) 1) ||| ((((1#64) <<< (((i (ob bb + 172) 7) - (i (ob bb + 172) 7)) + 1 : Int).toNat) - (1#64)) <<< (i (ob bb + 172) 7 : Int).toNat)) := ⟨_, rfl⟩
      refine x_putL 43 rfl fl_X3_30 (b_lt rfl) k_172 rfl rfl (g' := st nn i l5) (by subst hl5; rfl) ?_
      refine x_ret 44 none rfl ⟨rfl, rfl⟩ ⟨rfl, i, l5, rfl, ?_⟩
      refine ⟨rfl, ?_⟩
      subst_vars
      simp [cClose, wBits, mUek, *]
  · refine x_aload_n 4 rfl rfl ?_
    refine x_getI 5 (z := i (ob bb + 172) 10) rfl fl_X3_95 (b_lt rfl) k_172 rfl rfl ?_
    refine x_goto 6 (tgt := 19) rfl (by decide) ?_
    refine x_istore_n 9 (L' := [some (vR (some (ob bb + 172))), some (vI (k)), some (vI (i (ob bb + 172) 10)), none, none]) rfl (by decide) rfl rfl ?_
    refine x_lconst 10 (v := 1#64) rfl rfl ?_
    refine x_aload_n 11 rfl rfl ?_
    refine x_getI 12 (z := i (ob bb + 172) 7) rfl fl_X3_79 (b_lt rfl) k_172 rfl rfl ?_
    refine x_iload_n 13 rfl rfl ?_
    refine x_isub 14 (r := (i (ob bb + 172) 7) - (i (ob bb + 172) 10)) rfl rfl ?_
    refine x_iconst 15 rfl ?_
    refine x_iadd 16 (r := ((i (ob bb + 172) 7) - (i (ob bb + 172) 10)) + 1) rfl rfl ?_
    refine x_lshl 17 (r := (1#64) <<< (((i (ob bb + 172) 7) - (i (ob bb + 172) 10)) + 1 : Int).toNat) rfl (by omega) rfl ?_
    refine x_lconst 18 (v := 1#64) rfl rfl ?_
    refine x_lsub 19 (r := ((1#64) <<< (((i (ob bb + 172) 7) - (i (ob bb + 172) 10)) + 1 : Int).toNat) - (1#64)) rfl rfl ?_
    refine x_iload_n 20 rfl rfl ?_
    refine x_lshl 21 (r := (((1#64) <<< (((i (ob bb + 172) 7) - (i (ob bb + 172) 10)) + 1 : Int).toNat) - (1#64)) <<< (i (ob bb + 172) 10 : Int).toNat) rfl (by omega) rfl ?_
    refine x_lstore_n 22 (L' := [some (vR (some (ob bb + 172))), some (vI (k)), some (vI (i (ob bb + 172) 10)), some (vL ((((1#64) <<< (((i (ob bb + 172) 7) - (i (ob bb + 172) 10)) + 1 : Int).toNat) - (1#64)) <<< (i (ob bb + 172) 10 : Int).toNat)), none]) rfl (by decide) rfl rfl ?_
    refine x_aload_n 23 rfl rfl ?_
    refine x_dup 24 rfl rfl ?_
    refine x_getL 25 (z := l (ob bb + 172) 0) rfl fl_X3_24 (b_lt rfl) k_172 rfl rfl ?_
    refine x_lload_n 26 rfl rfl ?_
    refine x_lor 27 (r := (l (ob bb + 172) 0) ||| ((((1#64) <<< (((i (ob bb + 172) 7) - (i (ob bb + 172) 10)) + 1 : Int).toNat) - (1#64)) <<< (i (ob bb + 172) 10 : Int).toNat)) rfl rfl ?_
    obtain ⟨l6, hl6⟩ : ∃ f, f = mU l (ob bb + 172) 0 ((l (ob bb + 172) 0) ||| ((((1#64) <<< (((i (ob bb + 172) 7) - (i (ob bb + 172) 10)) + 1 : Int).toNat) - (1#64)) <<< (i (ob bb + 172) 10 : Int).toNat)) := ⟨_, rfl⟩
    refine x_putL 28 rfl fl_X3_24 (b_lt rfl) k_172 rfl rfl (g' := st nn i l6) (by subst hl6; rfl) ?_
    refine x_aload_n 29 rfl rfl ?_
    refine x_iload_n 30 rfl rfl ?_
    refine x_if_eq 31 (tgt := 59) rfl (by decide) (by omega) (fun h7 => ?_) (fun h7 => ?_)
    · refine x_aload_n 37 rfl rfl ?_
      refine x_getL 38 (z := l6 (ob bb + 172) 1) rfl fl_X3_30 (b_lt rfl) k_172 rfl rfl ?_
      refine x_lload_n 39 rfl rfl ?_
      refine x_ldc2 40 (r := (-1 : BitVec 64)) rfl ck_X3_98 rfl ?_
      refine x_lxor 41 (r := ((((1#64) <<< (((i (ob bb + 172) 7) - (i (ob bb + 172) 10)) + 1 : Int).toNat) - (1#64)) <<< (i (ob bb + 172) 10 : Int).toNat) ^^^ (-1 : BitVec 64)) rfl rfl ?_
      refine x_land 42 (r := (l6 (ob bb + 172) 1) &&& (((((1#64) <<< (((i (ob bb + 172) 7) - (i (ob bb + 172) 10)) + 1 : Int).toNat) - (1#64)) <<< (i (ob bb + 172) 10 : Int).toNat) ^^^ (-1 : BitVec 64))) rfl rfl ?_
      obtain ⟨l8, hl8⟩ : ∃ f, f = mU l6 (ob bb + 172) 1 ((l6 (ob bb + 172) 1) &&& (((((1#64) <<< (((i (ob bb + 172) 7) - (i (ob bb + 172) 10)) + 1 : Int).toNat) - (1#64)) <<< (i (ob bb + 172) 10 : Int).toNat) ^^^ (-1 : BitVec 64))) := ⟨_, rfl⟩
      refine x_putL 43 rfl fl_X3_30 (b_lt rfl) k_172 rfl rfl (g' := st nn i l8) (by subst hl8; rfl) ?_
      refine x_ret 44 none rfl ⟨rfl, rfl⟩ ⟨rfl, i, l8, rfl, ?_⟩
      refine ⟨rfl, ?_⟩
      subst_vars
      simp [cClose, wBits, mUek, *]
    · refine x_aload_n 32 rfl rfl ?_
      refine x_getL 33 (z := l6 (ob bb + 172) 1) rfl fl_X3_30 (b_lt rfl) k_172 rfl rfl ?_
      refine x_lload_n 34 rfl rfl ?_
      refine x_lor 35 (r := (l6 (ob bb + 172) 1) ||| ((((1#64) <<< (((i (ob bb + 172) 7) - (i (ob bb + 172) 10)) + 1 : Int).toNat) - (1#64)) <<< (i (ob bb + 172) 10 : Int).toNat)) rfl rfl ?_
      refine x_goto 36 (tgt := 69) rfl (by decide) ?_
      obtain ⟨l9, hl9⟩ : ∃ f, f = mU l6 (ob bb + 172) 1 ((l6 (ob bb + 172) 1) ||| ((((1#64) <<< (((i (ob bb + 172) 7) - (i (ob bb + 172) 10)) + 1 : Int).toNat) - (1#64)) <<< (i (ob bb + 172) 10 : Int).toNat)) := ⟨_, rfl⟩
      refine x_putL 43 rfl fl_X3_30 (b_lt rfl) k_172 rfl rfl (g' := st nn i l9) (by subst hl9; rfl) ?_
      refine x_ret 44 none rfl ⟨rfl, rfl⟩ ⟨rfl, i, l9, rfl, ?_⟩
      refine ⟨rfl, ?_⟩
      subst_vars
      simp [cClose, wBits, mUek, *]
set_option maxRecDepth 20000 in
set_option maxHeartbeats 2000000 in
theorem c_beginNumber {i : Nat → Int → Int} {l : Nat → Int → BitVec 64} (hw : 0 ≤ i (ob bb + 172) 6 ∧ i (ob bb + 172) 6 ≤ 4) {c p : Int} : mCtr m_X3_beginNumber 1 0 0 [vR (some (ob bb + 172)), vI (c), vI (p)] (st nn i l) (qV nn (fun i' l' => l' = l ∧ i' = mU (mU (mU (mU i (ob bb + 172) 6 (if i (ob bb + 172) 6 = 2 then 3 else 1)) (ob bb + 172) 7 (c - 48)) (ob bb + 172) 8 1) (ob bb + 172) 9 p)) := by
  refine mCtr_of pl_X3 dc_X3_beginNumber (Nat.le_of_ble_eq_true rfl) rfl ?_
  show mX m_X3_beginNumber 1 _ 0 0 0 [some (vR (some (ob bb + 172))), some (vI (c)), some (vI (p))] [] (st nn i l)
  refine x_aload_n 0 rfl rfl ?_
  refine x_aload_n 1 rfl rfl ?_
  refine x_getI 2 (z := i (ob bb + 172) 6) rfl fl_X3_42 (b_lt rfl) k_172 rfl rfl ?_
  refine x_iconst 3 rfl ?_
  refine x_icmp_ne 4 (tgt := 13) rfl (by decide) (by omega) (fun h1 => ?_) (fun h1 => ?_)
  · refine x_iconst 7 rfl ?_
    obtain ⟨i2, hi2⟩ : ∃ f, f = mU i (ob bb + 172) 6 (1) := ⟨_, rfl⟩
    refine x_putI 8 rfl fl_X3_42 (b_lt rfl) k_172 rfl rfl (g' := st nn i2 l) (by subst hi2; rfl) ?_
    refine x_aload_n 9 rfl rfl ?_
    refine x_iload_n 10 rfl rfl ?_
    refine x_bipush 11 rfl (by decide) ?_
    refine x_isub 12 (r := c - 48) rfl rfl ?_
    obtain ⟨i3, hi3⟩ : ∃ f, f = mU i2 (ob bb + 172) 7 (c - 48) := ⟨_, rfl⟩
    refine x_putI 13 rfl fl_X3_79 (b_lt rfl) k_172 rfl rfl (g' := st nn i3 l) (by subst hi3; rfl) ?_
    refine x_aload_n 14 rfl rfl ?_
    refine x_iconst 15 rfl ?_
    obtain ⟨i4, hi4⟩ : ∃ f, f = mU i3 (ob bb + 172) 8 (1) := ⟨_, rfl⟩
    refine x_putI 16 rfl fl_X3_82 (b_lt rfl) k_172 rfl rfl (g' := st nn i4 l) (by subst hi4; rfl) ?_
    refine x_aload_n 17 rfl rfl ?_
    refine x_iload_n 18 rfl rfl ?_
    obtain ⟨i5, hi5⟩ : ∃ f, f = mU i4 (ob bb + 172) 9 (p) := ⟨_, rfl⟩
    refine x_putI 19 rfl fl_X3_85 (b_lt rfl) k_172 rfl rfl (g' := st nn i5 l) (by subst hi5; rfl) ?_
    refine x_ret 20 none rfl ⟨rfl, rfl⟩ ⟨rfl, i5, l, rfl, ?_⟩
    subst_vars; refine ⟨rfl, ?_⟩; simp [*]
  · refine x_iconst 5 rfl ?_
    refine x_goto 6 (tgt := 14) rfl (by decide) ?_
    obtain ⟨i6, hi6⟩ : ∃ f, f = mU i (ob bb + 172) 6 (3) := ⟨_, rfl⟩
    refine x_putI 8 rfl fl_X3_42 (b_lt rfl) k_172 rfl rfl (g' := st nn i6 l) (by subst hi6; rfl) ?_
    refine x_aload_n 9 rfl rfl ?_
    refine x_iload_n 10 rfl rfl ?_
    refine x_bipush 11 rfl (by decide) ?_
    refine x_isub 12 (r := c - 48) rfl rfl ?_
    obtain ⟨i7, hi7⟩ : ∃ f, f = mU i6 (ob bb + 172) 7 (c - 48) := ⟨_, rfl⟩
    refine x_putI 13 rfl fl_X3_79 (b_lt rfl) k_172 rfl rfl (g' := st nn i7 l) (by subst hi7; rfl) ?_
    refine x_aload_n 14 rfl rfl ?_
    refine x_iconst 15 rfl ?_
    obtain ⟨i8, hi8⟩ : ∃ f, f = mU i7 (ob bb + 172) 8 (1) := ⟨_, rfl⟩
    refine x_putI 16 rfl fl_X3_82 (b_lt rfl) k_172 rfl rfl (g' := st nn i8 l) (by subst hi8; rfl) ?_
    refine x_aload_n 17 rfl rfl ?_
    refine x_iload_n 18 rfl rfl ?_
    obtain ⟨i9, hi9⟩ : ∃ f, f = mU i8 (ob bb + 172) 9 (p) := ⟨_, rfl⟩
    refine x_putI 19 rfl fl_X3_85 (b_lt rfl) k_172 rfl rfl (g' := st nn i9 l) (by subst hi9; rfl) ?_
    refine x_ret 20 none rfl ⟨rfl, rfl⟩ ⟨rfl, i9, l, rfl, ?_⟩
    subst_vars; refine ⟨rfl, ?_⟩; simp [*]
set_option maxRecDepth 20000 in
set_option maxHeartbeats 2000000 in
theorem c_takeDigit {i : Nat → Int → Int} {l : Nat → Int → BitVec 64} {c p : Int} (hd : 1 ≤ i (ob bb + 172) 8 ∧ i (ob bb + 172) 8 ≤ 2) : mCtr m_X3_takeDigit 2 0 0 [vR (some (ob bb + 172)), vI (c), vI (p)] (st nn i l) (qW nn (fun z i' l' => (z = 0 ∨ z = 1) ∧ l' = l ∧ ((i (ob bb + 172) 8 = 2 ∧ z = 0 ∧ i' = mU (mU i (ob bb + 172) 2 1) (ob bb + 172) 3 p) ∨ (i (ob bb + 172) 8 ≠ 2 ∧ z = 1 ∧ i' = mU (mU i (ob bb + 172) 7 (i (ob bb + 172) 7 * 10 + c - 48)) (ob bb + 172) 8 2)))) := by
  refine mCtr_of pl_X3 dc_X3_takeDigit (Nat.le_of_ble_eq_true rfl) rfl ?_
  show mX m_X3_takeDigit 2 _ 0 0 0 [some (vR (some (ob bb + 172))), some (vI (c)), some (vI (p))] [] (st nn i l)
  refine x_aload_n 0 rfl rfl ?_
  refine x_getI 1 (z := i (ob bb + 172) 8) rfl fl_X3_82 (b_lt rfl) k_172 rfl rfl ?_
  refine x_iconst 2 rfl ?_
  refine x_icmp_ne 3 (tgt := 15) rfl (by decide) (by omega) (fun h1 => ?_) (fun h1 => ?_)
  · refine x_aload_n 9 rfl rfl ?_
    refine x_aload_n 10 rfl rfl ?_
    refine x_getI 11 (z := i (ob bb + 172) 7) rfl fl_X3_79 (b_lt rfl) k_172 rfl rfl ?_
    refine x_bipush 12 rfl (by decide) ?_
    refine x_imul 13 (r := (i (ob bb + 172) 7) * 10) rfl rfl ?_
    refine x_iload_n 14 rfl rfl ?_
    refine x_iadd 15 (r := ((i (ob bb + 172) 7) * 10) + c) rfl rfl ?_
    refine x_bipush 16 rfl (by decide) ?_
    refine x_isub 17 (r := (((i (ob bb + 172) 7) * 10) + c) - 48) rfl rfl ?_
    obtain ⟨i2, hi2⟩ : ∃ f, f = mU i (ob bb + 172) 7 ((((i (ob bb + 172) 7) * 10) + c) - 48) := ⟨_, rfl⟩
    refine x_putI 18 rfl fl_X3_79 (b_lt rfl) k_172 rfl rfl (g' := st nn i2 l) (by subst hi2; rfl) ?_
    refine x_aload_n 19 rfl rfl ?_
    refine x_iconst 20 rfl ?_
    obtain ⟨i3, hi3⟩ : ∃ f, f = mU i2 (ob bb + 172) 8 (2) := ⟨_, rfl⟩
    refine x_putI 21 rfl fl_X3_82 (b_lt rfl) k_172 rfl rfl (g' := st nn i3 l) (by subst hi3; rfl) ?_
    refine x_iconst 22 rfl ?_
    refine x_ret 23 (some (vI (1))) rfl ⟨rfl, Or.inr ⟨rfl, by omega⟩⟩ ⟨_, i3, l, rfl, rfl, ?_⟩
    subst_vars; exact ⟨Or.inr rfl, rfl, Or.inr ⟨by omega, rfl, rfl⟩⟩
  · refine x_aload_n 4 rfl rfl ?_
    refine x_iconst 5 rfl ?_
    refine x_iload_n 6 rfl rfl ?_
    refine x_callV 7 m_X3_fail c_fail rfl ok_X3_fail (b_lt rfl) k_172 rfl rfl ml_X3_76 im_X3_fail se_X3_fail rfl (by decide) rfl (Nat.le_of_ble_eq_true rfl) rfl rfl (fun v g q4 => ?_)
    obtain ⟨z6, i5, li5, rfl, rfl, hi5⟩ := q4
    show mX m_X3_takeDigit 2 _ 0 0 _ _ [vI (z6)] _
    obtain ⟨rfl, hi5⟩ := hi5
    show mX m_X3_takeDigit 2 _ 0 0 _ _ [vI (0)] _
    refine x_ret 8 (some (vI (0))) rfl ⟨rfl, Or.inr ⟨rfl, by omega⟩⟩ ⟨_, i5, li5, rfl, rfl, ?_⟩
    exact ⟨Or.inl rfl, hi5.2, Or.inl ⟨by omega, rfl, hi5.1⟩⟩
set_option maxRecDepth 20000 in
set_option maxHeartbeats 2000000 in
theorem c_takeBehind {i : Nat → Int → Int} {l : Nat → Int → BitVec 64} (hd : okRd (i (ob bb + 172) 4) (rdS bb i l)) (hh : -1 ≤ i (ob bb + 172) 4 ∧ i (ob bb + 172) 4 ≤ 40) (hsg : 0 ≤ i (ob bb + 172) 5 ∧ i (ob bb + 172) 5 ≤ 1) (hN : i (ob bb + 172) 6 = 1 ∨ i (ob bb + 172) 6 = 3) {c p : Int} (hc : 0 ≤ c ∧ c ≤ 127) (hnd : ¬ (48 ≤ c ∧ c ≤ 57)) : mCtr m_X3_takeBehindNumber 2 0 0 [vR (some (ob bb + 172)), vI (c), vI (p)] (st nn i l) (qW nn (fun z i' l' => tkR bb i l i' l' (cStep (i (ob bb + 172) 5) (i (ob bb + 172) 4) c p (rdS bb i l)) z)) := by
  refine mCtr_of pl_X3 dc_X3_takeBehindNumber (Nat.le_of_ble_eq_true rfl) rfl ?_
  show mX m_X3_takeBehindNumber 2 _ 0 0 0 [some (vR (some (ob bb + 172))), some (vI (c)), some (vI (p))] [] (st nn i l)
  have hd0 := hd
  unfold okRd at hd
  simp only at hd
  refine x_aload_n 0 rfl rfl ?_
  refine x_callV 1 m_X3_numberStands (c_numberStands (by omega) (by omega) (by omega) (by omega)) rfl ok_X3_numberStands (b_lt rfl) k_172 rfl rfl ml_X3_88 im_X3_numberStands se_X3_numberStands rfl (by decide) rfl (Nat.le_of_ble_eq_true rfl) rfl rfl (fun v g q1 => ?_)
  rcases q1 with ⟨rfl, ⟨h2, rfl⟩ | ⟨h2, rfl⟩⟩
  · show mX m_X3_takeBehindNumber 2 _ 0 0 _ _ [vI (1)] _
    have hst : i (ob bb + 172) 7 ≤ 40 ∧ (i (ob bb + 172) 6 = 3 → i (ob bb + 172) 10 ≤ i (ob bb + 172) 7) := by have hz := h2; unfold cStands at hz; simp only at hz; omega
    refine x_if_ne 2 (tgt := 17) rfl (by decide) (by decide) (fun h3 => ?_) (fun h3 => absurd h3 (by decide))
    refine x_iload_n 9 rfl rfl ?_
    refine x_bipush 10 rfl (by decide) ?_
    refine x_icmp_ne 11 (tgt := 35) rfl (by decide) (by omega) (fun h4 => ?_) (fun h4 => ?_)
    · refine x_iload_n 20 rfl rfl ?_
      refine x_bipush 21 rfl (by decide) ?_
      refine x_icmp_ne 22 (tgt := 60) rfl (by decide) (by omega) (fun h5 => ?_) (fun h5 => ?_)
      · refine x_iload_n 34 rfl rfl ?_
        refine x_bipush 35 rfl (by decide) ?_
        refine x_icmp_ne 36 (tgt := 96) rfl (by decide) (by omega) (fun h6 => ?_) (fun h6 => ?_)
        · refine x_aload_n 53 rfl rfl ?_
          refine x_iconst 54 rfl ?_
          refine x_iload_n 55 rfl rfl ?_
          refine x_callV 56 m_X3_fail c_fail rfl ok_X3_fail (b_lt rfl) k_172 rfl rfl ml_X3_76 im_X3_fail se_X3_fail rfl (by decide) rfl (Nat.le_of_ble_eq_true rfl) rfl rfl (fun v g q7 => ?_)
          obtain ⟨z9, i8, li8, rfl, rfl, hi8⟩ := q7
          show mX m_X3_takeBehindNumber 2 _ 0 0 _ _ [vI (z9)] _
          obtain ⟨rfl, hi8⟩ := hi8
          show mX m_X3_takeBehindNumber 2 _ 0 0 _ _ [vI (0)] _
          obtain ⟨hia, hla⟩ := hi8
          refine x_ret 57 (some (vI (0))) rfl ⟨rfl, Or.inr ⟨rfl, by omega⟩⟩ ⟨_, i8, li8, rfl, rfl, ?_⟩
          subst_vars
          refine ⟨by omega, fun a b ha => by simp [mU, ha], fun a b ha => by simp [mU, ha], by simp [mU], by simp [mU], ?_⟩
          simp [cStep, cWhere, cClose, mU, *]
        · refine x_aload_n 37 rfl rfl ?_
          refine x_getI 38 (z := i (ob bb + 172) 5) rfl fl_X3_34 (b_lt rfl) k_172 rfl rfl ?_
          refine x_if_eq 39 (tgt := 96) rfl (by decide) (by omega) (fun h10 => ?_) (fun h10 => ?_)
          · refine x_aload_n 53 rfl rfl ?_
            refine x_iconst 54 rfl ?_
            refine x_iload_n 55 rfl rfl ?_
            refine x_callV 56 m_X3_fail c_fail rfl ok_X3_fail (b_lt rfl) k_172 rfl rfl ml_X3_76 im_X3_fail se_X3_fail rfl (by decide) rfl (Nat.le_of_ble_eq_true rfl) rfl rfl (fun v g q11 => ?_)
            obtain ⟨z13, i12, li12, rfl, rfl, hi12⟩ := q11
            show mX m_X3_takeBehindNumber 2 _ 0 0 _ _ [vI (z13)] _
            obtain ⟨rfl, hi12⟩ := hi12
            show mX m_X3_takeBehindNumber 2 _ 0 0 _ _ [vI (0)] _
            obtain ⟨hia, hla⟩ := hi12
            refine x_ret 57 (some (vI (0))) rfl ⟨rfl, Or.inr ⟨rfl, by omega⟩⟩ ⟨_, i12, li12, rfl, rfl, ?_⟩
            subst_vars
            refine ⟨by omega, fun a b ha => by simp [mU, ha], fun a b ha => by simp [mU, ha], by simp [mU], by simp [mU], ?_⟩
            simp [cStep, cWhere, cClose, mU, *]
          · refine x_aload_n 40 rfl rfl ?_
            refine x_getI 41 (z := i (ob bb + 172) 6) rfl fl_X3_42 (b_lt rfl) k_172 rfl rfl ?_
            refine x_iconst 42 rfl ?_
            refine x_icmp_ne 43 (tgt := 96) rfl (by decide) (by omega) (fun h14 => ?_) (fun h14 => ?_)
            · refine x_aload_n 53 rfl rfl ?_
              refine x_iconst 54 rfl ?_
              refine x_iload_n 55 rfl rfl ?_
              refine x_callV 56 m_X3_fail c_fail rfl ok_X3_fail (b_lt rfl) k_172 rfl rfl ml_X3_76 im_X3_fail se_X3_fail rfl (by decide) rfl (Nat.le_of_ble_eq_true rfl) rfl rfl (fun v g q15 => ?_)
              obtain ⟨z17, i16, li16, rfl, rfl, hi16⟩ := q15
              show mX m_X3_takeBehindNumber 2 _ 0 0 _ _ [vI (z17)] _
              obtain ⟨rfl, hi16⟩ := hi16
              show mX m_X3_takeBehindNumber 2 _ 0 0 _ _ [vI (0)] _
              obtain ⟨hia, hla⟩ := hi16
              refine x_ret 57 (some (vI (0))) rfl ⟨rfl, Or.inr ⟨rfl, by omega⟩⟩ ⟨_, i16, li16, rfl, rfl, ?_⟩
              subst_vars
              refine ⟨by omega, fun a b ha => by simp [mU, ha], fun a b ha => by simp [mU, ha], by simp [mU], by simp [mU], ?_⟩
              simp [cStep, cWhere, cClose, mU, *]
            · refine x_aload_n 44 rfl rfl ?_
              refine x_aload_n 45 rfl rfl ?_
              refine x_getI 46 (z := i (ob bb + 172) 7) rfl fl_X3_79 (b_lt rfl) k_172 rfl rfl ?_
              obtain ⟨i18, hi18⟩ : ∃ f, f = mU i (ob bb + 172) 10 (i (ob bb + 172) 7) := ⟨_, rfl⟩
              refine x_putI 47 rfl fl_X3_95 (b_lt rfl) k_172 rfl rfl (g' := st nn i18 l) (by subst hi18; rfl) ?_
              refine x_aload_n 48 rfl rfl ?_
              refine x_iconst 49 rfl ?_
              obtain ⟨i19, hi19⟩ : ∃ f, f = mU i18 (ob bb + 172) 6 (2) := ⟨_, rfl⟩
              refine x_putI 50 rfl fl_X3_42 (b_lt rfl) k_172 rfl rfl (g' := st nn i19 l) (by subst hi19; rfl) ?_
              refine x_iconst 51 rfl ?_
              refine x_ret 52 (some (vI (1))) rfl ⟨rfl, Or.inr ⟨rfl, by omega⟩⟩ ⟨_, i19, l, rfl, rfl, ?_⟩
              subst_vars
              refine ⟨by omega, fun a b ha => by simp [mU, ha], fun a b ha => by simp [mU, ha], by simp [mU], by simp [mU], ?_⟩
              simp [cStep, cWhere, cClose, mU, *]
      · refine x_aload_n 23 rfl rfl ?_
        refine x_getI 24 (z := i (ob bb + 172) 5) rfl fl_X3_34 (b_lt rfl) k_172 rfl rfl ?_
        refine x_if_eq 25 (tgt := 60) rfl (by decide) (by omega) (fun h20 => ?_) (fun h20 => ?_)
        · refine x_iload_n 34 rfl rfl ?_
          refine x_bipush 35 rfl (by decide) ?_
          refine x_icmp_ne 36 (tgt := 96) rfl (by decide) (by omega) (fun h21 => ?_) (fun h21 => ?_)
          · refine x_aload_n 53 rfl rfl ?_
            refine x_iconst 54 rfl ?_
            refine x_iload_n 55 rfl rfl ?_
            refine x_callV 56 m_X3_fail c_fail rfl ok_X3_fail (b_lt rfl) k_172 rfl rfl ml_X3_76 im_X3_fail se_X3_fail rfl (by decide) rfl (Nat.le_of_ble_eq_true rfl) rfl rfl (fun v g q22 => ?_)
            obtain ⟨z24, i23, li23, rfl, rfl, hi23⟩ := q22
            show mX m_X3_takeBehindNumber 2 _ 0 0 _ _ [vI (z24)] _
            obtain ⟨rfl, hi23⟩ := hi23
            show mX m_X3_takeBehindNumber 2 _ 0 0 _ _ [vI (0)] _
            obtain ⟨hia, hla⟩ := hi23
            refine x_ret 57 (some (vI (0))) rfl ⟨rfl, Or.inr ⟨rfl, by omega⟩⟩ ⟨_, i23, li23, rfl, rfl, ?_⟩
            subst_vars
            refine ⟨by omega, fun a b ha => by simp [mU, ha], fun a b ha => by simp [mU, ha], by simp [mU], by simp [mU], ?_⟩
            simp [cStep, cWhere, cClose, mU, *]
          · refine x_aload_n 37 rfl rfl ?_
            refine x_getI 38 (z := i (ob bb + 172) 5) rfl fl_X3_34 (b_lt rfl) k_172 rfl rfl ?_
            refine x_if_eq 39 (tgt := 96) rfl (by decide) (by omega) (fun h25 => ?_) (fun h25 => absurd h25 (by omega))
            refine x_aload_n 53 rfl rfl ?_
            refine x_iconst 54 rfl ?_
            refine x_iload_n 55 rfl rfl ?_
            refine x_callV 56 m_X3_fail c_fail rfl ok_X3_fail (b_lt rfl) k_172 rfl rfl ml_X3_76 im_X3_fail se_X3_fail rfl (by decide) rfl (Nat.le_of_ble_eq_true rfl) rfl rfl (fun v g q26 => ?_)
            obtain ⟨z28, i27, li27, rfl, rfl, hi27⟩ := q26
            show mX m_X3_takeBehindNumber 2 _ 0 0 _ _ [vI (z28)] _
            obtain ⟨rfl, hi27⟩ := hi27
            show mX m_X3_takeBehindNumber 2 _ 0 0 _ _ [vI (0)] _
            obtain ⟨hia, hla⟩ := hi27
            refine x_ret 57 (some (vI (0))) rfl ⟨rfl, Or.inr ⟨rfl, by omega⟩⟩ ⟨_, i27, li27, rfl, rfl, ?_⟩
            subst_vars
            refine ⟨by omega, fun a b ha => by simp [mU, ha], fun a b ha => by simp [mU, ha], by simp [mU], by simp [mU], ?_⟩
            simp [cStep, cWhere, cClose, mU, *]
        · refine x_aload_n 26 rfl rfl ?_
          refine x_iconst 27 rfl ?_
          refine x_callV 28 m_X3_closeWord (c_closeWord (by omega) (by omega) (by omega) (by omega)) rfl ok_X3_closeWord (b_lt rfl) k_172 rfl rfl ml_X3_91 im_X3_closeWord se_X3_closeWord rfl (by decide) rfl (Nat.le_of_ble_eq_true rfl) rfl rfl (fun v g q29 => ?_)
          obtain ⟨rfl, i30, li30, rfl, hi30⟩ := q29
          show mX m_X3_takeBehindNumber 2 _ 0 0 _ _ [] _
          obtain ⟨hia, hla⟩ := hi30
          refine x_aload_n 29 rfl rfl ?_
          refine x_iconst 30 rfl ?_
          obtain ⟨i31, hi31⟩ : ∃ f, f = mU i30 (ob bb + 172) 6 (4) := ⟨_, rfl⟩
          refine x_putI 31 rfl fl_X3_42 (b_lt rfl) k_172 rfl rfl (g' := st nn i31 li30) (by subst hi31; rfl) ?_
          refine x_iconst 32 rfl ?_
          refine x_ret 33 (some (vI (1))) rfl ⟨rfl, Or.inr ⟨rfl, by omega⟩⟩ ⟨_, i31, li30, rfl, rfl, ?_⟩
          subst_vars
          refine ⟨by omega, fun a b ha => by simp [mU, ha], fun a b ha => by simp [mU, ha], by simp [mU], by simp [mU], ?_⟩
          simp [cStep, cWhere, cClose, mU, *]
    · refine x_aload_n 12 rfl rfl ?_
      refine x_iconst 13 rfl ?_
      refine x_callV 14 m_X3_closeWord (c_closeWord (by omega) (by omega) (by omega) (by omega)) rfl ok_X3_closeWord (b_lt rfl) k_172 rfl rfl ml_X3_91 im_X3_closeWord se_X3_closeWord rfl (by decide) rfl (Nat.le_of_ble_eq_true rfl) rfl rfl (fun v g q32 => ?_)
      obtain ⟨rfl, i33, li33, rfl, hi33⟩ := q32
      show mX m_X3_takeBehindNumber 2 _ 0 0 _ _ [] _
      obtain ⟨hia, hla⟩ := hi33
      refine x_aload_n 15 rfl rfl ?_
      refine x_iconst 16 rfl ?_
      obtain ⟨i34, hi34⟩ : ∃ f, f = mU i33 (ob bb + 172) 6 (0) := ⟨_, rfl⟩
      refine x_putI 17 rfl fl_X3_42 (b_lt rfl) k_172 rfl rfl (g' := st nn i34 li33) (by subst hi34; rfl) ?_
      refine x_iconst 18 rfl ?_
      refine x_ret 19 (some (vI (1))) rfl ⟨rfl, Or.inr ⟨rfl, by omega⟩⟩ ⟨_, i34, li33, rfl, rfl, ?_⟩
      subst_vars
      refine ⟨by omega, fun a b ha => by simp [mU, ha], fun a b ha => by simp [mU, ha], by simp [mU], by simp [mU], ?_⟩
      simp [cStep, cWhere, cClose, mU, *]
  · show mX m_X3_takeBehindNumber 2 _ 0 0 _ _ [vI (0)] _
    refine x_if_ne 2 (tgt := 17) rfl (by decide) (by decide) (fun h35 => absurd h35 (by decide)) (fun h35 => ?_)
    refine x_aload_n 3 rfl rfl ?_
    refine x_iconst 4 rfl ?_
    refine x_aload_n 5 rfl rfl ?_
    refine x_getI 6 (z := i (ob bb + 172) 9) rfl fl_X3_85 (b_lt rfl) k_172 rfl rfl ?_
    refine x_callV 7 m_X3_fail c_fail rfl ok_X3_fail (b_lt rfl) k_172 rfl rfl ml_X3_76 im_X3_fail se_X3_fail rfl (by decide) rfl (Nat.le_of_ble_eq_true rfl) rfl rfl (fun v g q36 => ?_)
    obtain ⟨z38, i37, li37, rfl, rfl, hi37⟩ := q36
    show mX m_X3_takeBehindNumber 2 _ 0 0 _ _ [vI (z38)] _
    obtain ⟨rfl, hi37⟩ := hi37
    show mX m_X3_takeBehindNumber 2 _ 0 0 _ _ [vI (0)] _
    obtain ⟨hia, hla⟩ := hi37
    refine x_ret 8 (some (vI (0))) rfl ⟨rfl, Or.inr ⟨rfl, by omega⟩⟩ ⟨_, i37, li37, rfl, rfl, ?_⟩
    subst_vars
    refine ⟨by omega, fun a b ha => by simp [mU, ha], fun a b ha => by simp [mU, ha], by simp [mU], by simp [mU], ?_⟩
    simp [cStep, cWhere, cClose, mU, *]
set_option maxRecDepth 20000 in
set_option maxHeartbeats 2000000 in
theorem c_take {i : Nat → Int → Int} {l : Nat → Int → BitVec 64} (hd : okRd (i (ob bb + 172) 4) (rdS bb i l)) (hh : -1 ≤ i (ob bb + 172) 4 ∧ i (ob bb + 172) 4 ≤ 40) (hsg : 0 ≤ i (ob bb + 172) 5 ∧ i (ob bb + 172) 5 ≤ 1) {c p : Int} (hc : 0 ≤ c ∧ c ≤ 127) : mCtr m_X3_take 3 0 0 [vR (some (ob bb + 172)), vI (c), vI (p)] (st nn i l) (qW nn (fun z i' l' => tkR bb i l i' l' (cStep (i (ob bb + 172) 5) (i (ob bb + 172) 4) c p (rdS bb i l)) z)) := by
  refine mCtr_of pl_X3 dc_X3_take (Nat.le_of_ble_eq_true rfl) rfl ?_
  show mX m_X3_take 3 _ 0 0 0 [some (vR (some (ob bb + 172))), some (vI (c)), some (vI (p)), none] [] (st nn i l)
  have hd0 := hd
  unfold okRd at hd
  simp only at hd
  refine x_iload_n 0 rfl rfl ?_
  refine x_bipush 1 rfl (by decide) ?_
  refine x_icmp_lt 2 (tgt := 16) rfl (by decide) (by omega) (fun h1 => ?_) (fun h1 => ?_)
  · have hdg : ¬ (48 ≤ c ∧ c ≤ 57) := by omega
    have h48 : ¬ 48 ≤ c := by omega
    refine x_iconst 8 rfl ?_
    refine x_istore_n 9 (L' := [some (vR (some (ob bb + 172))), some (vI (c)), some (vI (p)), some (vI (0))]) rfl (by decide) rfl rfl ?_
    refine x_aload_n 10 rfl rfl ?_
    refine x_callV 11 m_X3_inNumber (c_inNumber (by omega)) rfl ok_X3_inNumber (b_lt rfl) k_172 rfl rfl ml_X3_62 im_X3_inNumber se_X3_inNumber rfl (by decide) rfl (Nat.le_of_ble_eq_true rfl) rfl rfl (fun v g q2 => ?_)
    rcases q2 with ⟨rfl, ⟨h3, rfl⟩ | ⟨h3, rfl⟩⟩
    · show mX m_X3_take 3 _ 0 0 _ _ [vI (1)] _
      refine x_if_eq 12 (tgt := 45) rfl (by decide) (by decide) (fun h4 => absurd h4 (by decide)) (fun h4 => ?_)
      refine x_iload_n 13 rfl rfl ?_
      refine x_if_eq 14 (tgt := 38) rfl (by decide) (by decide) (fun h5 => ?_) (fun h5 => absurd h5 (by decide))
      refine x_aload_n 20 rfl rfl ?_
      refine x_iload_n 21 rfl rfl ?_
      refine x_iload_n 22 rfl rfl ?_
      refine x_callV 23 m_X3_takeBehindNumber (c_takeBehind hd0 (by omega) (by omega) (by omega) (by omega) (by omega)) rfl ok_X3_takeBehindNumber (b_lt rfl) k_172 rfl rfl ml_X3_69 im_X3_takeBehindNumber se_X3_takeBehindNumber rfl (by decide) rfl (Nat.le_of_ble_eq_true rfl) rfl rfl (fun v g q6 => ?_)
      obtain ⟨z8, i7, li7, rfl, rfl, hi7⟩ := q6
      show mX m_X3_take 3 _ 0 0 _ _ [vI (z8)] _
      have hres := hi7
      have hz01 := hres.1
      refine x_ret 24 (some (vI (z8))) rfl ⟨rfl, Or.inr ⟨rfl, by omega⟩⟩ ⟨_, i7, li7, rfl, rfl, ?_⟩
      exact hres
    · show mX m_X3_take 3 _ 0 0 _ _ [vI (0)] _
      refine x_if_eq 12 (tgt := 45) rfl (by decide) (by decide) (fun h9 => ?_) (fun h9 => absurd h9 (by decide))
      refine x_iload_n 25 rfl rfl ?_
      refine x_if_eq 26 (tgt := 65) rfl (by decide) (by decide) (fun h10 => ?_) (fun h10 => absurd h10 (by decide))
      refine x_iload_n 37 rfl rfl ?_
      refine x_bipush 38 rfl (by decide) ?_
      refine x_icmp_ne 39 (tgt := 86) rfl (by decide) (by omega) (fun h11 => ?_) (fun h11 => ?_)
      · refine x_aload_n 49 rfl rfl ?_
        refine x_iconst 50 rfl ?_
        refine x_iload_n 51 rfl rfl ?_
        refine x_callV 52 m_X3_fail c_fail rfl ok_X3_fail (b_lt rfl) k_172 rfl rfl ml_X3_76 im_X3_fail se_X3_fail rfl (by decide) rfl (Nat.le_of_ble_eq_true rfl) rfl rfl (fun v g q12 => ?_)
        obtain ⟨z14, i13, li13, rfl, rfl, hi13⟩ := q12
        show mX m_X3_take 3 _ 0 0 _ _ [vI (z14)] _
        obtain ⟨rfl, hi13⟩ := hi13
        show mX m_X3_take 3 _ 0 0 _ _ [vI (0)] _
        obtain ⟨hia, hla⟩ := hi13
        have hres : tkR bb i l i13 li13 (cStep (i (ob bb + 172) 5) (i (ob bb + 172) 4) c p (rdS bb i l)) 0 := by
          first
            | (exfalso; omega; done)
            | (refine ⟨by omega, fun a b ha => by subst_vars; simp [mU, ha], fun a b ha => by subst_vars; simp [mU, ha], by subst_vars; simp [mU], by subst_vars; simp [mU], ?_⟩; subst_vars; simp [cStep, cWhere, cClose, mU, *]; done)
        refine x_ret 53 (some (vI (0))) rfl ⟨rfl, Or.inr ⟨rfl, by omega⟩⟩ ⟨_, i13, li13, rfl, rfl, ?_⟩
        exact hres
      · refine x_aload_n 40 rfl rfl ?_
        refine x_getI 41 (z := i (ob bb + 172) 6) rfl fl_X3_42 (b_lt rfl) k_172 rfl rfl ?_
        refine x_iconst 42 rfl ?_
        refine x_icmp_eq 43 (tgt := 86) rfl (by decide) (by omega) (fun h15 => ?_) (fun h15 => ?_)
        · refine x_aload_n 49 rfl rfl ?_
          refine x_iconst 50 rfl ?_
          refine x_iload_n 51 rfl rfl ?_
          refine x_callV 52 m_X3_fail c_fail rfl ok_X3_fail (b_lt rfl) k_172 rfl rfl ml_X3_76 im_X3_fail se_X3_fail rfl (by decide) rfl (Nat.le_of_ble_eq_true rfl) rfl rfl (fun v g q16 => ?_)
          obtain ⟨z18, i17, li17, rfl, rfl, hi17⟩ := q16
          show mX m_X3_take 3 _ 0 0 _ _ [vI (z18)] _
          obtain ⟨rfl, hi17⟩ := hi17
          show mX m_X3_take 3 _ 0 0 _ _ [vI (0)] _
          obtain ⟨hia, hla⟩ := hi17
          have hres : tkR bb i l i17 li17 (cStep (i (ob bb + 172) 5) (i (ob bb + 172) 4) c p (rdS bb i l)) 0 := by
            first
              | (exfalso; omega; done)
              | (refine ⟨by omega, fun a b ha => by subst_vars; simp [mU, ha], fun a b ha => by subst_vars; simp [mU, ha], by subst_vars; simp [mU], by subst_vars; simp [mU], ?_⟩; subst_vars; simp [cStep, cWhere, cClose, mU, *]; done)
          refine x_ret 53 (some (vI (0))) rfl ⟨rfl, Or.inr ⟨rfl, by omega⟩⟩ ⟨_, i17, li17, rfl, rfl, ?_⟩
          exact hres
        · refine x_aload_n 44 rfl rfl ?_
          refine x_iconst 45 rfl ?_
          obtain ⟨i19, hi19⟩ : ∃ f, f = mU i (ob bb + 172) 6 (0) := ⟨_, rfl⟩
          refine x_putI 46 rfl fl_X3_42 (b_lt rfl) k_172 rfl rfl (g' := st nn i19 l) (by subst hi19; rfl) ?_
          refine x_iconst 47 rfl ?_
          refine x_ret 48 (some (vI (1))) rfl ⟨rfl, Or.inr ⟨rfl, by omega⟩⟩ ⟨_, i19, l, rfl, rfl, ?_⟩
          exact by
            first
              | (exfalso; omega; done)
              | (refine ⟨by omega, fun a b ha => by subst_vars; simp [mU, ha], fun a b ha => by subst_vars; simp [mU, ha], by subst_vars; simp [mU], by subst_vars; simp [mU], ?_⟩; subst_vars; simp [cStep, cWhere, cClose, mU, *]; done)
  · refine x_iload_n 3 rfl rfl ?_
    refine x_bipush 4 rfl (by decide) ?_
    refine x_icmp_gt 5 (tgt := 16) rfl (by decide) (by omega) (fun h20 => ?_) (fun h20 => ?_)
    · have hdg : ¬ (48 ≤ c ∧ c ≤ 57) := by omega
      have h57 : ¬ c ≤ 57 := by omega
      refine x_iconst 8 rfl ?_
      refine x_istore_n 9 (L' := [some (vR (some (ob bb + 172))), some (vI (c)), some (vI (p)), some (vI (0))]) rfl (by decide) rfl rfl ?_
      refine x_aload_n 10 rfl rfl ?_
      refine x_callV 11 m_X3_inNumber (c_inNumber (by omega)) rfl ok_X3_inNumber (b_lt rfl) k_172 rfl rfl ml_X3_62 im_X3_inNumber se_X3_inNumber rfl (by decide) rfl (Nat.le_of_ble_eq_true rfl) rfl rfl (fun v g q21 => ?_)
      rcases q21 with ⟨rfl, ⟨h22, rfl⟩ | ⟨h22, rfl⟩⟩
      · show mX m_X3_take 3 _ 0 0 _ _ [vI (1)] _
        refine x_if_eq 12 (tgt := 45) rfl (by decide) (by decide) (fun h23 => absurd h23 (by decide)) (fun h23 => ?_)
        refine x_iload_n 13 rfl rfl ?_
        refine x_if_eq 14 (tgt := 38) rfl (by decide) (by decide) (fun h24 => ?_) (fun h24 => absurd h24 (by decide))
        refine x_aload_n 20 rfl rfl ?_
        refine x_iload_n 21 rfl rfl ?_
        refine x_iload_n 22 rfl rfl ?_
        refine x_callV 23 m_X3_takeBehindNumber (c_takeBehind hd0 (by omega) (by omega) (by omega) (by omega) (by omega)) rfl ok_X3_takeBehindNumber (b_lt rfl) k_172 rfl rfl ml_X3_69 im_X3_takeBehindNumber se_X3_takeBehindNumber rfl (by decide) rfl (Nat.le_of_ble_eq_true rfl) rfl rfl (fun v g q25 => ?_)
        obtain ⟨z27, i26, li26, rfl, rfl, hi26⟩ := q25
        show mX m_X3_take 3 _ 0 0 _ _ [vI (z27)] _
        have hres := hi26
        have hz01 := hres.1
        refine x_ret 24 (some (vI (z27))) rfl ⟨rfl, Or.inr ⟨rfl, by omega⟩⟩ ⟨_, i26, li26, rfl, rfl, ?_⟩
        exact hres
      · show mX m_X3_take 3 _ 0 0 _ _ [vI (0)] _
        refine x_if_eq 12 (tgt := 45) rfl (by decide) (by decide) (fun h28 => ?_) (fun h28 => absurd h28 (by decide))
        refine x_iload_n 25 rfl rfl ?_
        refine x_if_eq 26 (tgt := 65) rfl (by decide) (by decide) (fun h29 => ?_) (fun h29 => absurd h29 (by decide))
        refine x_iload_n 37 rfl rfl ?_
        refine x_bipush 38 rfl (by decide) ?_
        refine x_icmp_ne 39 (tgt := 86) rfl (by decide) (by omega) (fun h30 => ?_) (fun h30 => ?_)
        · refine x_aload_n 49 rfl rfl ?_
          refine x_iconst 50 rfl ?_
          refine x_iload_n 51 rfl rfl ?_
          refine x_callV 52 m_X3_fail c_fail rfl ok_X3_fail (b_lt rfl) k_172 rfl rfl ml_X3_76 im_X3_fail se_X3_fail rfl (by decide) rfl (Nat.le_of_ble_eq_true rfl) rfl rfl (fun v g q31 => ?_)
          obtain ⟨z33, i32, li32, rfl, rfl, hi32⟩ := q31
          show mX m_X3_take 3 _ 0 0 _ _ [vI (z33)] _
          obtain ⟨rfl, hi32⟩ := hi32
          show mX m_X3_take 3 _ 0 0 _ _ [vI (0)] _
          obtain ⟨hia, hla⟩ := hi32
          have hres : tkR bb i l i32 li32 (cStep (i (ob bb + 172) 5) (i (ob bb + 172) 4) c p (rdS bb i l)) 0 := by
            first
              | (exfalso; omega; done)
              | (refine ⟨by omega, fun a b ha => by subst_vars; simp [mU, ha], fun a b ha => by subst_vars; simp [mU, ha], by subst_vars; simp [mU], by subst_vars; simp [mU], ?_⟩; subst_vars; simp [cStep, cWhere, cClose, mU, *]; done)
          refine x_ret 53 (some (vI (0))) rfl ⟨rfl, Or.inr ⟨rfl, by omega⟩⟩ ⟨_, i32, li32, rfl, rfl, ?_⟩
          exact hres
        · refine x_aload_n 40 rfl rfl ?_
          refine x_getI 41 (z := i (ob bb + 172) 6) rfl fl_X3_42 (b_lt rfl) k_172 rfl rfl ?_
          refine x_iconst 42 rfl ?_
          refine x_icmp_eq 43 (tgt := 86) rfl (by decide) (by omega) (fun h34 => ?_) (fun h34 => ?_)
          · refine x_aload_n 49 rfl rfl ?_
            refine x_iconst 50 rfl ?_
            refine x_iload_n 51 rfl rfl ?_
            refine x_callV 52 m_X3_fail c_fail rfl ok_X3_fail (b_lt rfl) k_172 rfl rfl ml_X3_76 im_X3_fail se_X3_fail rfl (by decide) rfl (Nat.le_of_ble_eq_true rfl) rfl rfl (fun v g q35 => ?_)
            obtain ⟨z37, i36, li36, rfl, rfl, hi36⟩ := q35
            show mX m_X3_take 3 _ 0 0 _ _ [vI (z37)] _
            obtain ⟨rfl, hi36⟩ := hi36
            show mX m_X3_take 3 _ 0 0 _ _ [vI (0)] _
            obtain ⟨hia, hla⟩ := hi36
            have hres : tkR bb i l i36 li36 (cStep (i (ob bb + 172) 5) (i (ob bb + 172) 4) c p (rdS bb i l)) 0 := by
              first
                | (exfalso; omega; done)
                | (refine ⟨by omega, fun a b ha => by subst_vars; simp [mU, ha], fun a b ha => by subst_vars; simp [mU, ha], by subst_vars; simp [mU], by subst_vars; simp [mU], ?_⟩; subst_vars; simp [cStep, cWhere, cClose, mU, *]; done)
            refine x_ret 53 (some (vI (0))) rfl ⟨rfl, Or.inr ⟨rfl, by omega⟩⟩ ⟨_, i36, li36, rfl, rfl, ?_⟩
            exact hres
          · refine x_aload_n 44 rfl rfl ?_
            refine x_iconst 45 rfl ?_
            obtain ⟨i38, hi38⟩ : ∃ f, f = mU i (ob bb + 172) 6 (0) := ⟨_, rfl⟩
            refine x_putI 46 rfl fl_X3_42 (b_lt rfl) k_172 rfl rfl (g' := st nn i38 l) (by subst hi38; rfl) ?_
            refine x_iconst 47 rfl ?_
            refine x_ret 48 (some (vI (1))) rfl ⟨rfl, Or.inr ⟨rfl, by omega⟩⟩ ⟨_, i38, l, rfl, rfl, ?_⟩
            exact by
              first
                | (exfalso; omega; done)
                | (refine ⟨by omega, fun a b ha => by subst_vars; simp [mU, ha], fun a b ha => by subst_vars; simp [mU, ha], by subst_vars; simp [mU], by subst_vars; simp [mU], ?_⟩; subst_vars; simp [cStep, cWhere, cClose, mU, *]; done)
    · refine x_iconst 6 rfl ?_
      refine x_goto 7 (tgt := 17) rfl (by decide) ?_
      refine x_istore_n 9 (L' := [some (vR (some (ob bb + 172))), some (vI (c)), some (vI (p)), some (vI (1))]) rfl (by decide) rfl rfl ?_
      refine x_aload_n 10 rfl rfl ?_
      refine x_callV 11 m_X3_inNumber (c_inNumber (by omega)) rfl ok_X3_inNumber (b_lt rfl) k_172 rfl rfl ml_X3_62 im_X3_inNumber se_X3_inNumber rfl (by decide) rfl (Nat.le_of_ble_eq_true rfl) rfl rfl (fun v g q39 => ?_)
      rcases q39 with ⟨rfl, ⟨h40, rfl⟩ | ⟨h40, rfl⟩⟩
      · show mX m_X3_take 3 _ 0 0 _ _ [vI (1)] _
        refine x_if_eq 12 (tgt := 45) rfl (by decide) (by decide) (fun h41 => absurd h41 (by decide)) (fun h41 => ?_)
        refine x_iload_n 13 rfl rfl ?_
        refine x_if_eq 14 (tgt := 38) rfl (by decide) (by decide) (fun h42 => absurd h42 (by decide)) (fun h42 => ?_)
        refine x_aload_n 15 rfl rfl ?_
        refine x_iload_n 16 rfl rfl ?_
        refine x_iload_n 17 rfl rfl ?_
        refine x_callV 18 m_X3_takeDigit (c_takeDigit (by omega)) rfl ok_X3_takeDigit (b_lt rfl) k_172 rfl rfl ml_X3_66 im_X3_takeDigit se_X3_takeDigit rfl (by decide) rfl (Nat.le_of_ble_eq_true rfl) rfl rfl (fun v g q43 => ?_)
        obtain ⟨z45, i44, li44, rfl, rfl, hi44⟩ := q43
        show mX m_X3_take 3 _ 0 0 _ _ [vI (z45)] _
        obtain ⟨hz01, hla, hdd⟩ := hi44
        have hres : tkR bb i l i44 li44 (cStep (i (ob bb + 172) 5) (i (ob bb + 172) 4) c p (rdS bb i l)) z45 := by
          rcases hdd with ⟨h8, hz9, hia⟩ | ⟨h8, hz9, hia⟩
          · rw [hz9]; exact by
              first
                | (exfalso; omega; done)
                | (refine ⟨by omega, fun a b ha => by subst_vars; simp [mU, ha], fun a b ha => by subst_vars; simp [mU, ha], by subst_vars; simp [mU], by subst_vars; simp [mU], ?_⟩; subst_vars; simp [cStep, cWhere, cClose, mU, *]; done)
          · rw [hz9]; exact by
              first
                | (exfalso; omega; done)
                | (refine ⟨by omega, fun a b ha => by subst_vars; simp [mU, ha], fun a b ha => by subst_vars; simp [mU, ha], by subst_vars; simp [mU], by subst_vars; simp [mU], ?_⟩; subst_vars; simp [cStep, cWhere, cClose, mU, *]; done)
        refine x_goto 19 (tgt := 44) rfl (by decide) ?_
        refine x_ret 24 (some (vI (z45))) rfl ⟨rfl, Or.inr ⟨rfl, by omega⟩⟩ ⟨_, i44, li44, rfl, rfl, ?_⟩
        exact hres
      · show mX m_X3_take 3 _ 0 0 _ _ [vI (0)] _
        refine x_if_eq 12 (tgt := 45) rfl (by decide) (by decide) (fun h46 => ?_) (fun h46 => absurd h46 (by decide))
        refine x_iload_n 25 rfl rfl ?_
        refine x_if_eq 26 (tgt := 65) rfl (by decide) (by decide) (fun h47 => absurd h47 (by decide)) (fun h47 => ?_)
        refine x_aload_n 27 rfl rfl ?_
        refine x_getI 28 (z := i (ob bb + 172) 6) rfl fl_X3_42 (b_lt rfl) k_172 rfl rfl ?_
        refine x_iconst 29 rfl ?_
        refine x_icmp_eq 30 (tgt := 65) rfl (by decide) (by omega) (fun h48 => ?_) (fun h48 => ?_)
        · refine x_iload_n 37 rfl rfl ?_
          refine x_bipush 38 rfl (by decide) ?_
          refine x_icmp_ne 39 (tgt := 86) rfl (by decide) (by omega) (fun h49 => ?_) (fun h49 => ?_)
          · refine x_aload_n 49 rfl rfl ?_
            refine x_iconst 50 rfl ?_
            refine x_iload_n 51 rfl rfl ?_
            refine x_callV 52 m_X3_fail c_fail rfl ok_X3_fail (b_lt rfl) k_172 rfl rfl ml_X3_76 im_X3_fail se_X3_fail rfl (by decide) rfl (Nat.le_of_ble_eq_true rfl) rfl rfl (fun v g q50 => ?_)
            obtain ⟨z52, i51, li51, rfl, rfl, hi51⟩ := q50
            show mX m_X3_take 3 _ 0 0 _ _ [vI (z52)] _
            obtain ⟨rfl, hi51⟩ := hi51
            show mX m_X3_take 3 _ 0 0 _ _ [vI (0)] _
            obtain ⟨hia, hla⟩ := hi51
            have hres : tkR bb i l i51 li51 (cStep (i (ob bb + 172) 5) (i (ob bb + 172) 4) c p (rdS bb i l)) 0 := by
              first
                | (exfalso; omega; done)
                | (refine ⟨by omega, fun a b ha => by subst_vars; simp [mU, ha], fun a b ha => by subst_vars; simp [mU, ha], by subst_vars; simp [mU], by subst_vars; simp [mU], ?_⟩; subst_vars; simp [cStep, cWhere, cClose, mU, *]; done)
            refine x_ret 53 (some (vI (0))) rfl ⟨rfl, Or.inr ⟨rfl, by omega⟩⟩ ⟨_, i51, li51, rfl, rfl, ?_⟩
            exact hres
          · refine x_aload_n 40 rfl rfl ?_
            refine x_getI 41 (z := i (ob bb + 172) 6) rfl fl_X3_42 (b_lt rfl) k_172 rfl rfl ?_
            refine x_iconst 42 rfl ?_
            refine x_icmp_eq 43 (tgt := 86) rfl (by decide) (by omega) (fun h53 => ?_) (fun h53 => ?_)
            · refine x_aload_n 49 rfl rfl ?_
              refine x_iconst 50 rfl ?_
              refine x_iload_n 51 rfl rfl ?_
              refine x_callV 52 m_X3_fail c_fail rfl ok_X3_fail (b_lt rfl) k_172 rfl rfl ml_X3_76 im_X3_fail se_X3_fail rfl (by decide) rfl (Nat.le_of_ble_eq_true rfl) rfl rfl (fun v g q54 => ?_)
              obtain ⟨z56, i55, li55, rfl, rfl, hi55⟩ := q54
              show mX m_X3_take 3 _ 0 0 _ _ [vI (z56)] _
              obtain ⟨rfl, hi55⟩ := hi55
              show mX m_X3_take 3 _ 0 0 _ _ [vI (0)] _
              obtain ⟨hia, hla⟩ := hi55
              have hres : tkR bb i l i55 li55 (cStep (i (ob bb + 172) 5) (i (ob bb + 172) 4) c p (rdS bb i l)) 0 := by
                first
                  | (exfalso; omega; done)
                  | (refine ⟨by omega, fun a b ha => by subst_vars; simp [mU, ha], fun a b ha => by subst_vars; simp [mU, ha], by subst_vars; simp [mU], by subst_vars; simp [mU], ?_⟩; subst_vars; simp [cStep, cWhere, cClose, mU, *]; done)
              refine x_ret 53 (some (vI (0))) rfl ⟨rfl, Or.inr ⟨rfl, by omega⟩⟩ ⟨_, i55, li55, rfl, rfl, ?_⟩
              exact hres
            · refine x_aload_n 44 rfl rfl ?_
              refine x_iconst 45 rfl ?_
              obtain ⟨i57, hi57⟩ : ∃ f, f = mU i (ob bb + 172) 6 (0) := ⟨_, rfl⟩
              refine x_putI 46 rfl fl_X3_42 (b_lt rfl) k_172 rfl rfl (g' := st nn i57 l) (by subst hi57; rfl) ?_
              refine x_iconst 47 rfl ?_
              refine x_ret 48 (some (vI (1))) rfl ⟨rfl, Or.inr ⟨rfl, by omega⟩⟩ ⟨_, i57, l, rfl, rfl, ?_⟩
              exact by
                first
                  | (exfalso; omega; done)
                  | (refine ⟨by omega, fun a b ha => by subst_vars; simp [mU, ha], fun a b ha => by subst_vars; simp [mU, ha], by subst_vars; simp [mU], by subst_vars; simp [mU], ?_⟩; subst_vars; simp [cStep, cWhere, cClose, mU, *]; done)
        · refine x_aload_n 31 rfl rfl ?_
          refine x_iload_n 32 rfl rfl ?_
          refine x_iload_n 33 rfl rfl ?_
          refine x_callV 34 m_X3_beginNumber (c_beginNumber (by omega)) rfl ok_X3_beginNumber (b_lt rfl) k_172 rfl rfl ml_X3_72 im_X3_beginNumber se_X3_beginNumber rfl (by decide) rfl (Nat.le_of_ble_eq_true rfl) rfl rfl (fun v g q58 => ?_)
          obtain ⟨rfl, i59, li59, rfl, hi59⟩ := q58
          show mX m_X3_take 3 _ 0 0 _ _ [] _
          obtain ⟨hla, hia⟩ := hi59
          have hres : tkR bb i l i59 li59 (cStep (i (ob bb + 172) 5) (i (ob bb + 172) 4) c p (rdS bb i l)) 1 := by
            first
              | (exfalso; omega; done)
              | (refine ⟨by omega, fun a b ha => by subst_vars; simp [mU, ha], fun a b ha => by subst_vars; simp [mU, ha], by subst_vars; simp [mU], by subst_vars; simp [mU], ?_⟩; subst_vars; simp [cStep, cWhere, cClose, mU, *]; done)
          refine x_iconst 35 rfl ?_
          refine x_ret 36 (some (vI (1))) rfl ⟨rfl, Or.inr ⟨rfl, by omega⟩⟩ ⟨_, i59, li59, rfl, rfl, ?_⟩
          exact hres
set_option maxRecDepth 20000 in
set_option maxHeartbeats 2000000 in
theorem c_end {i : Nat → Int → Int} {l : Nat → Int → BitVec 64} (hd : okRd (i (ob bb + 172) 4) (rdS bb i l)) (hh : -1 ≤ i (ob bb + 172) 4 ∧ i (ob bb + 172) 4 ≤ 40) (hsg : 0 ≤ i (ob bb + 172) 5 ∧ i (ob bb + 172) 5 ≤ 1) {n : Int} : mCtr m_X3_end 2 0 0 [vR (some (ob bb + 172)), vI (n)] (st nn i l) (qW nn (fun z i' l' => tkR bb i l i' l' (cEnd (i (ob bb + 172) 4) n (rdS bb i l)) z)) := by
  refine mCtr_of pl_X3 dc_X3_end (Nat.le_of_ble_eq_true rfl) rfl ?_
  show mX m_X3_end 2 _ 0 0 0 [some (vR (some (ob bb + 172))), some (vI (n))] [] (st nn i l)
  have hd0 := hd
  unfold okRd at hd
  simp only at hd
  refine x_aload_n 0 rfl rfl ?_
  refine x_getI 1 (z := i (ob bb + 172) 6) rfl fl_X3_42 (b_lt rfl) k_172 rfl rfl ?_
  refine x_iconst 2 rfl ?_
  refine x_icmp_ne 3 (tgt := 15) rfl (by decide) (by omega) (fun h1 => ?_) (fun h1 => ?_)
  · refine x_aload_n 9 rfl rfl ?_
    refine x_callV 10 m_X3_inNumber (c_inNumber (by omega)) rfl ok_X3_inNumber (b_lt rfl) k_172 rfl rfl ml_X3_62 im_X3_inNumber se_X3_inNumber rfl (by decide) rfl (Nat.le_of_ble_eq_true rfl) rfl rfl (fun v g q2 => ?_)
    rcases q2 with ⟨rfl, ⟨h3, rfl⟩ | ⟨h3, rfl⟩⟩
    · show mX m_X3_end 2 _ 0 0 _ _ [vI (1)] _
      refine x_if_ne 11 (tgt := 24) rfl (by decide) (by decide) (fun h4 => ?_) (fun h4 => absurd h4 (by decide))
      refine x_aload_n 14 rfl rfl ?_
      refine x_callV 15 m_X3_numberStands (c_numberStands (by omega) (by omega) (by omega) (by omega)) rfl ok_X3_numberStands (b_lt rfl) k_172 rfl rfl ml_X3_88 im_X3_numberStands se_X3_numberStands rfl (by decide) rfl (Nat.le_of_ble_eq_true rfl) rfl rfl (fun v g q5 => ?_)
      rcases q5 with ⟨rfl, ⟨h6, rfl⟩ | ⟨h6, rfl⟩⟩
      · show mX m_X3_end 2 _ 0 0 _ _ [vI (1)] _
        have hst : i (ob bb + 172) 7 ≤ 40 ∧ (i (ob bb + 172) 6 = 3 → i (ob bb + 172) 10 ≤ i (ob bb + 172) 7) := by have hz := h6; unfold cStands at hz; simp only at hz; omega
        refine x_if_ne 16 (tgt := 41) rfl (by decide) (by decide) (fun h7 => ?_) (fun h7 => absurd h7 (by decide))
        refine x_aload_n 23 rfl rfl ?_
        refine x_iconst 24 rfl ?_
        refine x_callV 25 m_X3_closeWord (c_closeWord (by omega) (by omega) (by omega) (by omega)) rfl ok_X3_closeWord (b_lt rfl) k_172 rfl rfl ml_X3_91 im_X3_closeWord se_X3_closeWord rfl (by decide) rfl (Nat.le_of_ble_eq_true rfl) rfl rfl (fun v g q8 => ?_)
        obtain ⟨rfl, i9, li9, rfl, hi9⟩ := q8
        show mX m_X3_end 2 _ 0 0 _ _ [] _
        obtain ⟨hia, hla⟩ := hi9
        refine x_iconst 26 rfl ?_
        refine x_ret 27 (some (vI (1))) rfl ⟨rfl, Or.inr ⟨rfl, by omega⟩⟩ ⟨_, i9, li9, rfl, rfl, ?_⟩
        exact by
          first
            | (exfalso; omega; done)
            | (refine ⟨by omega, fun a b ha => by subst_vars; simp [mU, ha], fun a b ha => by subst_vars; simp [mU, ha], by subst_vars; simp [mU], by subst_vars; simp [mU], ?_⟩; subst_vars; simp [cEnd, cWhere, cClose, mU, *]; done)
      · show mX m_X3_end 2 _ 0 0 _ _ [vI (0)] _
        refine x_if_ne 16 (tgt := 41) rfl (by decide) (by decide) (fun h10 => absurd h10 (by decide)) (fun h10 => ?_)
        refine x_aload_n 17 rfl rfl ?_
        refine x_iconst 18 rfl ?_
        refine x_aload_n 19 rfl rfl ?_
        refine x_getI 20 (z := i (ob bb + 172) 9) rfl fl_X3_85 (b_lt rfl) k_172 rfl rfl ?_
        refine x_callV 21 m_X3_fail c_fail rfl ok_X3_fail (b_lt rfl) k_172 rfl rfl ml_X3_76 im_X3_fail se_X3_fail rfl (by decide) rfl (Nat.le_of_ble_eq_true rfl) rfl rfl (fun v g q11 => ?_)
        obtain ⟨z13, i12, li12, rfl, rfl, hi12⟩ := q11
        show mX m_X3_end 2 _ 0 0 _ _ [vI (z13)] _
        obtain ⟨rfl, hi12⟩ := hi12
        show mX m_X3_end 2 _ 0 0 _ _ [vI (0)] _
        obtain ⟨hia, hla⟩ := hi12
        refine x_ret 22 (some (vI (0))) rfl ⟨rfl, Or.inr ⟨rfl, by omega⟩⟩ ⟨_, i12, li12, rfl, rfl, ?_⟩
        exact by
          first
            | (exfalso; omega; done)
            | (refine ⟨by omega, fun a b ha => by subst_vars; simp [mU, ha], fun a b ha => by subst_vars; simp [mU, ha], by subst_vars; simp [mU], by subst_vars; simp [mU], ?_⟩; subst_vars; simp [cEnd, cWhere, cClose, mU, *]; done)
    · show mX m_X3_end 2 _ 0 0 _ _ [vI (0)] _
      refine x_if_ne 11 (tgt := 24) rfl (by decide) (by decide) (fun h14 => absurd h14 (by decide)) (fun h14 => ?_)
      refine x_iconst 12 rfl ?_
      refine x_ret 13 (some (vI (1))) rfl ⟨rfl, Or.inr ⟨rfl, by omega⟩⟩ ⟨_, i, l, rfl, rfl, ?_⟩
      exact by
        first
          | (exfalso; omega; done)
          | (refine ⟨by omega, fun a b ha => by subst_vars; simp [mU, ha], fun a b ha => by subst_vars; simp [mU, ha], by subst_vars; simp [mU], by subst_vars; simp [mU], ?_⟩; subst_vars; simp [cEnd, cWhere, cClose, mU, *]; done)
  · refine x_aload_n 4 rfl rfl ?_
    refine x_iconst 5 rfl ?_
    refine x_iload_n 6 rfl rfl ?_
    refine x_callV 7 m_X3_fail c_fail rfl ok_X3_fail (b_lt rfl) k_172 rfl rfl ml_X3_76 im_X3_fail se_X3_fail rfl (by decide) rfl (Nat.le_of_ble_eq_true rfl) rfl rfl (fun v g q15 => ?_)
    obtain ⟨z17, i16, li16, rfl, rfl, hi16⟩ := q15
    show mX m_X3_end 2 _ 0 0 _ _ [vI (z17)] _
    obtain ⟨rfl, hi16⟩ := hi16
    show mX m_X3_end 2 _ 0 0 _ _ [vI (0)] _
    obtain ⟨hia, hla⟩ := hi16
    refine x_ret 8 (some (vI (0))) rfl ⟨rfl, Or.inr ⟨rfl, by omega⟩⟩ ⟨_, i16, li16, rfl, rfl, ?_⟩
    exact by
      first
        | (exfalso; omega; done)
        | (refine ⟨by omega, fun a b ha => by subst_vars; simp [mU, ha], fun a b ha => by subst_vars; simp [mU, ha], by subst_vars; simp [mU], by subst_vars; simp [mU], ?_⟩; subst_vars; simp [cEnd, cWhere, cClose, mU, *]; done)
