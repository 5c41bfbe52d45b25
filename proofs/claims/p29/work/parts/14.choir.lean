variable {nn : Nat} {bb : Bool}
/-! the choir's questions -/
theorem mPow4 {x : Int} (h : 0 ≤ x ∧ x < 4) : (1 : Int) * 2 ^ x.toNat = ((2 ^ x.toNat : Nat) : Int) ∧ 1 ≤ 2 ^ x.toNat ∧ 2 ^ x.toNat ≤ 8 := by
  rcases (show x = 0 ∨ x = 1 ∨ x = 2 ∨ x = 3 by omega) with rfl | rfl | rfl | rfl <;> decide
theorem mOne (k : Nat) : ((1 : Int) * 2 ^ k).toNat = 2 ^ k := by
  rw [Int.one_mul]
  have : (2 : Int) ^ k = ((2 ^ k : Nat) : Int) := by simp
  rw [this]; rfl
theorem fIn_bd {i : Nat → Int → Int} {q : Nat} {p : Int} (h4 : 0 ≤ i q 4 ∧ 0 ≤ i q 5 ∧ i q 4 + i q 5 ≤ 41) (hp : 0 ≤ p ∧ p < 4) : 0 ≤ fIn i q p ∧ fIn i q p ≤ 15 := by
  unfold fIn
  omega
set_option maxRecDepth 20000 in
set_option maxHeartbeats 2000000 in
theorem c_has {i : Nat → Int → Int} {l : Nat → Int → BitVec 64} {c : Nat} (hc : isC bb c) (hn : 0 ≤ i c 4 ∧ i c 4 ≤ 10) {x : Int} (hx : -2147483648 ≤ x ∧ x < 2147483648) : mCtr m_X0_has 1 0 0 [vR (some c), vI (x)] (st nn i l) (qB (0 ≤ x ∧ x < i c 4) (st nn i l)) := by
  refine mCtr_of pl_X0 dc_X0_has (Nat.le_of_ble_eq_true rfl) rfl ?_
  show mX m_X0_has 1 _ 0 0 0 [some (vR (some c)), some (vI (x))] [] (st nn i l)
  refine x_iload_n 0 rfl rfl ?_
  refine x_if_lt 1 (tgt := 16) rfl (by decide) (by omega) (fun h1 => ?_) (fun h1 => ?_)
  · refine x_iconst 8 rfl ?_
    refine x_ret 9 (some (vI (0))) rfl ⟨rfl, Or.inr ⟨rfl, by omega⟩⟩ ⟨rfl, Or.inr ⟨?_, rfl⟩⟩
    omega
  · refine x_iload_n 2 rfl rfl ?_
    refine x_aload_n 3 rfl rfl ?_
    refine x_getI 4 (z := i c 4) rfl fl_X0_31 (isC_0 hc) (kC hc) rfl rfl ?_
    refine x_icmp_ge 5 (tgt := 16) rfl (by decide) (by omega) (fun h2 => ?_) (fun h2 => ?_)
    · refine x_iconst 8 rfl ?_
      refine x_ret 9 (some (vI (0))) rfl ⟨rfl, Or.inr ⟨rfl, by omega⟩⟩ ⟨rfl, Or.inr ⟨?_, rfl⟩⟩
      omega
    · refine x_iconst 6 rfl ?_
      refine x_goto 7 (tgt := 17) rfl (by decide) ?_
      refine x_ret 9 (some (vI (1))) rfl ⟨rfl, Or.inr ⟨rfl, by omega⟩⟩ ⟨rfl, Or.inl ⟨?_, rfl⟩⟩
      omega
set_option maxRecDepth 20000 in
set_option maxHeartbeats 2000000 in
theorem c_members {i : Nat → Int → Int} {l : Nat → Int → BitVec 64} {c : Nat} (hc : isC bb c) (hO : okC i c) {p : Int} (hp : -2147483648 ≤ p ∧ p < 2147483648) : mCtr m_X0_members 1 0 0 [vR (some c), vI (p)] (st nn i l) (qI (fMem i c p) (st nn i l)) := by
  refine mCtr_of pl_X0 dc_X0_members (Nat.le_of_ble_eq_true rfl) rfl ?_
  show mX m_X0_members 1 _ 0 0 0 [some (vR (some c)), some (vI (p)), none, none] [] (st nn i l)
  have hN := hO.n
  obtain ⟨f, hf⟩ : ∃ f : Int → Int, f = fun k => if i (c + 2 + k.toNat) 6 = p then 1 else 0 := ⟨_, rfl⟩
  refine x_iconst 0 rfl ?_
  refine x_istore_n 1 (L' := [some (vR (some c)), some (vI (p)), some (vI (0)), none]) rfl (by decide) rfl rfl ?_
  refine x_iconst 2 rfl ?_
  refine x_istore_n 3 (L' := [some (vR (some c)), some (vI (p)), some (vI (0)), some (vI (0))]) rfl (by decide) rfl rfl ?_
  have loopL1 : ∀ (nz : Nat) (x : Int) (s : Int), (0 ≤ x ∧ x ≤ i c 4) → (s = sumZ f x) → (i c 4 - x) < (nz : Int) → mX m_X0_members 1 (qI (fMem i c p) (st nn i l)) 0 0 4 [some (vR (some c)), some (vI (p)), some (vI (s)), some (vI (x))] [] (st nn i l) := by
    intro nz
    induction nz with
    | zero => intro x s hx hs hz; exact absurd hz (by omega)
    | succ nz ihL1 =>
      intro x s hx hs hzL1
      refine x_iload_n 4 rfl rfl ?_
      refine x_aload_n 5 rfl rfl ?_
      refine x_getI 6 (z := i c 4) rfl fl_X0_31 (isC_0 hc) (kC hc) rfl rfl ?_
      refine x_icmp_ge 7 (tgt := 39) rfl (by decide) (by omega) (fun h2 => ?_) (fun h2 => ?_)
      · refine x_iload_n 23 rfl rfl ?_
        refine x_ret 24 (some (vI (s))) rfl ⟨rfl, Or.inl rfl⟩ ⟨congrArg (fun z => some (vI z)) ?_, rfl⟩
        rw [hs, hf, show x = i c 4 by omega]; rfl
      · have hfx : f x = (if i (c + 2 + x.toNat) 6 = p then 1 else 0) := by rw [hf]
        have hsg := hO.s hx.1 (show x < i c 4 by omega)
        refine x_iload_n 8 rfl rfl ?_
        refine x_aload_n 9 rfl rfl ?_
        refine x_getR 10 (z := (c + 1)) rfl fl_X0_11 (isC_0 hc) (kC hc) rfl (rC0 hc) ?_
        refine x_iload_n 11 rfl rfl ?_
        refine x_aald 12 (t := 3) (z := (c + 2 + (x).toNat)) rfl (isC_S hc) (kCS hc) (by omega) ⟨rfl, rfl⟩ (rCs hc (by omega)) ?_
        refine x_getI 13 (z := i (c + 2 + (x).toNat) 6) rfl fl_X0_73 (isS_lt (isS.of hc (show (x).toNat < 10 by omega))) (kS (isS.of hc (show (x).toNat < 10 by omega))) rfl rfl ?_
        refine x_iload_n 14 rfl rfl ?_
        refine x_icmp_ne 15 (tgt := 30) rfl (by decide) (by omega) (fun h3 => ?_) (fun h3 => ?_)
        · refine x_iconst 18 rfl ?_
          refine x_iadd 19 (r := s + 0) rfl rfl ?_
          refine x_istore_n 20 (L' := [some (vR (some c)), some (vI (p)), some (vI (s + 0)), some (vI (x))]) rfl (by decide) rfl rfl ?_
          refine x_iinc 21 (L' := [some (vR (some c)), some (vI (p)), some (vI (s + 0)), some (vI (x + 1))]) rfl (by decide) rfl rfl rfl rfl ?_
          refine x_goto 22 (tgt := 4) rfl (by decide) ?_
          exact ihL1 (x + 1) (s + 0) (by omega) (by rw [sumZ_s f hx.1, hfx]; grind) (by omega)
        · refine x_iconst 16 rfl ?_
          refine x_goto 17 (tgt := 31) rfl (by decide) ?_
          refine x_iadd 19 (r := s + 1) rfl rfl ?_
          refine x_istore_n 20 (L' := [some (vR (some c)), some (vI (p)), some (vI (s + 1)), some (vI (x))]) rfl (by decide) rfl rfl ?_
          refine x_iinc 21 (L' := [some (vR (some c)), some (vI (p)), some (vI (s + 1)), some (vI (x + 1))]) rfl (by decide) rfl rfl rfl rfl ?_
          refine x_goto 22 (tgt := 4) rfl (by decide) ?_
          exact ihL1 (x + 1) (s + 1) (by omega) (by rw [sumZ_s f hx.1, hfx]; grind) (by omega)
  exact loopL1 ((i c 4 - ((0))) + 1 : Int).toNat (0) (0) (by omega) (rfl) (by omega)
set_option maxRecDepth 20000 in
set_option maxHeartbeats 2000000 in
theorem c_strength {i : Nat → Int → Int} {l : Nat → Int → BitVec 64} {c : Nat} (hc : isC bb c) (hO : okC i c) {p : Int} (hp : -2147483648 ≤ p ∧ p < 2147483648) : mCtr m_X0_strength 1 0 0 [vR (some c), vI (p)] (st nn i l) (qI (fStr i c p) (st nn i l)) := by
  refine mCtr_of pl_X0 dc_X0_strength (Nat.le_of_ble_eq_true rfl) rfl ?_
  show mX m_X0_strength 1 _ 0 0 0 [some (vR (some c)), some (vI (p)), none, none] [] (st nn i l)
  have hN := hO.n
  obtain ⟨f, hf⟩ : ∃ f : Int → Int, f = fun k => if i (c + 2 + k.toNat) 6 = p then i (c + 2 + k.toNat) 0 else 0 := ⟨_, rfl⟩
  refine x_iconst 0 rfl ?_
  refine x_istore_n 1 (L' := [some (vR (some c)), some (vI (p)), some (vI (0)), none]) rfl (by decide) rfl rfl ?_
  refine x_iconst 2 rfl ?_
  refine x_istore_n 3 (L' := [some (vR (some c)), some (vI (p)), some (vI (0)), some (vI (0))]) rfl (by decide) rfl rfl ?_
  have loopL1 : ∀ (nz : Nat) (x : Int) (s : Int), (0 ≤ x ∧ x ≤ i c 4) → (s = sumZ f x) → (i c 4 - x) < (nz : Int) → mX m_X0_strength 1 (qI (fStr i c p) (st nn i l)) 0 0 4 [some (vR (some c)), some (vI (p)), some (vI (s)), some (vI (x))] [] (st nn i l) := by
    intro nz
    induction nz with
    | zero => intro x s hx hs hz; exact absurd hz (by omega)
    | succ nz ihL1 =>
      intro x s hx hs hzL1
      refine x_iload_n 4 rfl rfl ?_
      refine x_aload_n 5 rfl rfl ?_
      refine x_getI 6 (z := i c 4) rfl fl_X0_31 (isC_0 hc) (kC hc) rfl rfl ?_
      refine x_icmp_ge 7 (tgt := 47) rfl (by decide) (by omega) (fun h2 => ?_) (fun h2 => ?_)
      · refine x_iload_n 27 rfl rfl ?_
        refine x_ret 28 (some (vI (s))) rfl ⟨rfl, Or.inl rfl⟩ ⟨congrArg (fun z => some (vI z)) ?_, rfl⟩
        rw [hs, hf, show x = i c 4 by omega]; rfl
      · have hfx : f x = (if i (c + 2 + x.toNat) 6 = p then i (c + 2 + x.toNat) 0 else 0) := by rw [hf]
        have hsg := hO.s hx.1 (show x < i c 4 by omega)
        refine x_iload_n 8 rfl rfl ?_
        refine x_aload_n 9 rfl rfl ?_
        refine x_getR 10 (z := (c + 1)) rfl fl_X0_11 (isC_0 hc) (kC hc) rfl (rC0 hc) ?_
        refine x_iload_n 11 rfl rfl ?_
        refine x_aald 12 (t := 3) (z := (c + 2 + (x).toNat)) rfl (isC_S hc) (kCS hc) (by omega) ⟨rfl, rfl⟩ (rCs hc (by omega)) ?_
        refine x_getI 13 (z := i (c + 2 + (x).toNat) 6) rfl fl_X0_73 (isS_lt (isS.of hc (show (x).toNat < 10 by omega))) (kS (isS.of hc (show (x).toNat < 10 by omega))) rfl rfl ?_
        refine x_iload_n 14 rfl rfl ?_
        refine x_icmp_ne 15 (tgt := 38) rfl (by decide) (by omega) (fun h3 => ?_) (fun h3 => ?_)
        · refine x_iconst 22 rfl ?_
          refine x_iadd 23 (r := s + 0) rfl rfl ?_
          refine x_istore_n 24 (L' := [some (vR (some c)), some (vI (p)), some (vI (s + 0)), some (vI (x))]) rfl (by decide) rfl rfl ?_
          refine x_iinc 25 (L' := [some (vR (some c)), some (vI (p)), some (vI (s + 0)), some (vI (x + 1))]) rfl (by decide) rfl rfl rfl rfl ?_
          refine x_goto 26 (tgt := 4) rfl (by decide) ?_
          exact ihL1 (x + 1) (s + 0) (by omega) (by rw [sumZ_s f hx.1, hfx]; grind) (by omega)
        · refine x_aload_n 16 rfl rfl ?_
          refine x_getR 17 (z := (c + 1)) rfl fl_X0_11 (isC_0 hc) (kC hc) rfl (rC0 hc) ?_
          refine x_iload_n 18 rfl rfl ?_
          refine x_aald 19 (t := 3) (z := (c + 2 + (x).toNat)) rfl (isC_S hc) (kCS hc) (by omega) ⟨rfl, rfl⟩ (rCs hc (by omega)) ?_
          refine x_getI 20 (z := i (c + 2 + (x).toNat) 0) rfl fl_X0_76 (isS_lt (isS.of hc (show (x).toNat < 10 by omega))) (kS (isS.of hc (show (x).toNat < 10 by omega))) rfl rfl ?_
          refine x_goto 21 (tgt := 39) rfl (by decide) ?_
          refine x_iadd 23 (r := s + (i (c + 2 + (x).toNat) 0)) rfl rfl ?_
          refine x_istore_n 24 (L' := [some (vR (some c)), some (vI (p)), some (vI (s + (i (c + 2 + (x).toNat) 0))), some (vI (x))]) rfl (by decide) rfl rfl ?_
          refine x_iinc 25 (L' := [some (vR (some c)), some (vI (p)), some (vI (s + (i (c + 2 + (x).toNat) 0))), some (vI (x + 1))]) rfl (by decide) rfl rfl rfl rfl ?_
          refine x_goto 26 (tgt := 4) rfl (by decide) ?_
          exact ihL1 (x + 1) (s + (i (c + 2 + (x).toNat) 0)) (by omega) (by rw [sumZ_s f hx.1, hfx]; grind) (by omega)
  exact loopL1 ((i c 4 - ((0))) + 1 : Int).toNat (0) (0) (by omega) (rfl) (by omega)
set_option maxRecDepth 20000 in
set_option maxHeartbeats 2000000 in
theorem c_strengthPresent {i : Nat → Int → Int} {l : Nat → Int → BitVec 64} {c : Nat} (hc : isC bb c) (hO : okC i c) {p : Int} (hp : -2147483648 ≤ p ∧ p < 2147483648) : mCtr m_X0_strengthPresent 1 0 0 [vR (some c), vI (p)] (st nn i l) (qI (fPres i c p) (st nn i l)) := by
  refine mCtr_of pl_X0 dc_X0_strengthPresent (Nat.le_of_ble_eq_true rfl) rfl ?_
  show mX m_X0_strengthPresent 1 _ 0 0 0 [some (vR (some c)), some (vI (p)), none, none, none] [] (st nn i l)
  have hN := hO.n
  obtain ⟨f, hf⟩ : ∃ f : Int → Int, f = fun k => if i (c + 2 + k.toNat) 6 = p ∧ i (c + 2 + k.toNat) 7 ≠ 0 then i (c + 2 + k.toNat) 0 else 0 := ⟨_, rfl⟩
  refine x_iconst 0 rfl ?_
  refine x_istore_n 1 (L' := [some (vR (some c)), some (vI (p)), some (vI (0)), none, none]) rfl (by decide) rfl rfl ?_
  refine x_iconst 2 rfl ?_
  refine x_istore_n 3 (L' := [some (vR (some c)), some (vI (p)), some (vI (0)), some (vI (0)), none]) rfl (by decide) rfl rfl ?_
  have loopL1 : ∀ (nz : Nat) (x : Int) (s : Int), (0 ≤ x ∧ x ≤ i c 4) → (s = sumZ f x) → (i c 4 - x) < (nz : Int) → mX m_X0_strengthPresent 1 (qI (fPres i c p) (st nn i l)) 0 0 4 [some (vR (some c)), some (vI (p)), some (vI (s)), some (vI (x)), none] [] (st nn i l) := by
    intro nz
    induction nz with
    | zero => intro x s hx hs hz; exact absurd hz (by omega)
    | succ nz ihL1 =>
      intro x s hx hs hzL1
      refine x_iload_n 4 rfl rfl ?_
      refine x_aload_n 5 rfl rfl ?_
      refine x_getI 6 (z := i c 4) rfl fl_X0_31 (isC_0 hc) (kC hc) rfl rfl ?_
      refine x_icmp_ge 7 (tgt := 55) rfl (by decide) (by omega) (fun h2 => ?_) (fun h2 => ?_)
      · refine x_iload_n 29 rfl rfl ?_
        refine x_ret 30 (some (vI (s))) rfl ⟨rfl, Or.inl rfl⟩ ⟨congrArg (fun z => some (vI z)) ?_, rfl⟩
        rw [hs, hf, show x = i c 4 by omega]; rfl
      · have hfx : f x = (if i (c + 2 + x.toNat) 6 = p ∧ i (c + 2 + x.toNat) 7 ≠ 0 then i (c + 2 + x.toNat) 0 else 0) := by rw [hf]
        have hsg := hO.s hx.1 (show x < i c 4 by omega)
        refine x_aload_n 8 rfl rfl ?_
        refine x_getR 9 (z := (c + 1)) rfl fl_X0_11 (isC_0 hc) (kC hc) rfl (rC0 hc) ?_
        refine x_iload_n 10 rfl rfl ?_
        refine x_aald 11 (t := 3) (z := (c + 2 + (x).toNat)) rfl (isC_S hc) (kCS hc) (by omega) ⟨rfl, rfl⟩ (rCs hc (by omega)) ?_
        refine x_astore 12 (L' := [some (vR (some c)), some (vI (p)), some (vI (s)), some (vI (x)), some (vR (some (c + 2 + (x).toNat)))]) rfl (by decide) rfl rfl ?_
        refine x_iload_n 13 rfl rfl ?_
        refine x_aload 14 rfl rfl ?_
        refine x_getI 15 (z := i (c + 2 + (x).toNat) 6) rfl fl_X0_73 (isS_lt (isS.of hc (show (x).toNat < 10 by omega))) (kS (isS.of hc (show (x).toNat < 10 by omega))) rfl rfl ?_
        refine x_iload_n 16 rfl rfl ?_
        refine x_icmp_ne 17 (tgt := 46) rfl (by decide) (by omega) (fun h3 => ?_) (fun h3 => ?_)
        · refine x_iconst 24 rfl ?_
          refine x_iadd 25 (r := s + 0) rfl rfl ?_
          refine x_istore_n 26 (L' := [some (vR (some c)), some (vI (p)), some (vI (s + 0)), some (vI (x)), some (vR (some (c + 2 + (x).toNat)))]) rfl (by decide) rfl rfl ?_
          refine x_iinc 27 (L' := [some (vR (some c)), some (vI (p)), some (vI (s + 0)), some (vI (x + 1)), some (vR (some (c + 2 + (x).toNat)))]) rfl (by decide) rfl rfl rfl rfl ?_
          refine x_goto 28 (tgt := 4) rfl (by decide) ?_
          refine x_dropL (L' := [some (vR (some c)), some (vI (p)), some (vI (s + 0)), some (vI (x + 1)), none]) ⟨rfl, ⟨rfl, ⟨rfl, ⟨rfl, True.intro⟩⟩⟩⟩ ?_
          exact ihL1 (x + 1) (s + 0) (by omega) (by rw [sumZ_s f hx.1, hfx]; grind) (by omega)
        · refine x_aload 18 rfl rfl ?_
          refine x_getI 19 (z := i (c + 2 + (x).toNat) 7) rfl fl_X0_69 (isS_lt (isS.of hc (show (x).toNat < 10 by omega))) (kS (isS.of hc (show (x).toNat < 10 by omega))) rfl rfl ?_
          refine x_if_eq 20 (tgt := 46) rfl (by decide) (by omega) (fun h4 => ?_) (fun h4 => ?_)
          · refine x_iconst 24 rfl ?_
            refine x_iadd 25 (r := s + 0) rfl rfl ?_
            refine x_istore_n 26 (L' := [some (vR (some c)), some (vI (p)), some (vI (s + 0)), some (vI (x)), some (vR (some (c + 2 + (x).toNat)))]) rfl (by decide) rfl rfl ?_
            refine x_iinc 27 (L' := [some (vR (some c)), some (vI (p)), some (vI (s + 0)), some (vI (x + 1)), some (vR (some (c + 2 + (x).toNat)))]) rfl (by decide) rfl rfl rfl rfl ?_
            refine x_goto 28 (tgt := 4) rfl (by decide) ?_
            refine x_dropL (L' := [some (vR (some c)), some (vI (p)), some (vI (s + 0)), some (vI (x + 1)), none]) ⟨rfl, ⟨rfl, ⟨rfl, ⟨rfl, True.intro⟩⟩⟩⟩ ?_
            exact ihL1 (x + 1) (s + 0) (by omega) (by rw [sumZ_s f hx.1, hfx]; grind) (by omega)
          · refine x_aload 21 rfl rfl ?_
            refine x_getI 22 (z := i (c + 2 + (x).toNat) 0) rfl fl_X0_76 (isS_lt (isS.of hc (show (x).toNat < 10 by omega))) (kS (isS.of hc (show (x).toNat < 10 by omega))) rfl rfl ?_
            refine x_goto 23 (tgt := 47) rfl (by decide) ?_
            refine x_iadd 25 (r := s + (i (c + 2 + (x).toNat) 0)) rfl rfl ?_
            refine x_istore_n 26 (L' := [some (vR (some c)), some (vI (p)), some (vI (s + (i (c + 2 + (x).toNat) 0))), some (vI (x)), some (vR (some (c + 2 + (x).toNat)))]) rfl (by decide) rfl rfl ?_
            refine x_iinc 27 (L' := [some (vR (some c)), some (vI (p)), some (vI (s + (i (c + 2 + (x).toNat) 0))), some (vI (x + 1)), some (vR (some (c + 2 + (x).toNat)))]) rfl (by decide) rfl rfl rfl rfl ?_
            refine x_goto 28 (tgt := 4) rfl (by decide) ?_
            refine x_dropL (L' := [some (vR (some c)), some (vI (p)), some (vI (s + (i (c + 2 + (x).toNat) 0))), some (vI (x + 1)), none]) ⟨rfl, ⟨rfl, ⟨rfl, ⟨rfl, True.intro⟩⟩⟩⟩ ?_
            exact ihL1 (x + 1) (s + (i (c + 2 + (x).toNat) 0)) (by omega) (by rw [sumZ_s f hx.1, hfx]; grind) (by omega)
  exact loopL1 ((i c 4 - ((0))) + 1 : Int).toNat (0) (0) (by omega) (rfl) (by omega)
set_option maxRecDepth 20000 in
set_option maxHeartbeats 2000000 in
theorem c_absent {i : Nat → Int → Int} {l : Nat → Int → BitVec 64} {c : Nat} (hc : isC bb c) (hO : okC i c) : mCtr m_X0_absent 1 0 0 [vR (some c)] (st nn i l) (qI (fAbs i c) (st nn i l)) := by
  refine mCtr_of pl_X0 dc_X0_absent (Nat.le_of_ble_eq_true rfl) rfl ?_
  show mX m_X0_absent 1 _ 0 0 0 [some (vR (some c)), none, none] [] (st nn i l)
  have hN := hO.n
  obtain ⟨f, hf⟩ : ∃ f : Int → Int, f = fun k => if i (c + 2 + k.toNat) 7 = 0 then 1 else 0 := ⟨_, rfl⟩
  refine x_iconst 0 rfl ?_
  refine x_istore_n 1 (L' := [some (vR (some c)), some (vI (0)), none]) rfl (by decide) rfl rfl ?_
  refine x_iconst 2 rfl ?_
  refine x_istore_n 3 (L' := [some (vR (some c)), some (vI (0)), some (vI (0))]) rfl (by decide) rfl rfl ?_
  have loopL1 : ∀ (nz : Nat) (x : Int) (s : Int), (0 ≤ x ∧ x ≤ i c 4) → (s = sumZ f x) → (i c 4 - x) < (nz : Int) → mX m_X0_absent 1 (qI (fAbs i c) (st nn i l)) 0 0 4 [some (vR (some c)), some (vI (s)), some (vI (x))] [] (st nn i l) := by
    intro nz
    induction nz with
    | zero => intro x s hx hs hz; exact absurd hz (by omega)
    | succ nz ihL1 =>
      intro x s hx hs hzL1
      refine x_iload_n 4 rfl rfl ?_
      refine x_aload_n 5 rfl rfl ?_
      refine x_getI 6 (z := i c 4) rfl fl_X0_31 (isC_0 hc) (kC hc) rfl rfl ?_
      refine x_icmp_ge 7 (tgt := 38) rfl (by decide) (by omega) (fun h2 => ?_) (fun h2 => ?_)
      · refine x_iload_n 22 rfl rfl ?_
        refine x_ret 23 (some (vI (s))) rfl ⟨rfl, Or.inl rfl⟩ ⟨congrArg (fun z => some (vI z)) ?_, rfl⟩
        rw [hs, hf, show x = i c 4 by omega]; rfl
      · have hfx : f x = (if i (c + 2 + x.toNat) 7 = 0 then 1 else 0) := by rw [hf]
        have hsg := hO.s hx.1 (show x < i c 4 by omega)
        refine x_iload_n 8 rfl rfl ?_
        refine x_aload_n 9 rfl rfl ?_
        refine x_getR 10 (z := (c + 1)) rfl fl_X0_11 (isC_0 hc) (kC hc) rfl (rC0 hc) ?_
        refine x_iload_n 11 rfl rfl ?_
        refine x_aald 12 (t := 3) (z := (c + 2 + (x).toNat)) rfl (isC_S hc) (kCS hc) (by omega) ⟨rfl, rfl⟩ (rCs hc (by omega)) ?_
        refine x_getI 13 (z := i (c + 2 + (x).toNat) 7) rfl fl_X0_69 (isS_lt (isS.of hc (show (x).toNat < 10 by omega))) (kS (isS.of hc (show (x).toNat < 10 by omega))) rfl rfl ?_
        refine x_if_eq 14 (tgt := 29) rfl (by decide) (by omega) (fun h3 => ?_) (fun h3 => ?_)
        · refine x_iconst 17 rfl ?_
          refine x_iadd 18 (r := s + 1) rfl rfl ?_
          refine x_istore_n 19 (L' := [some (vR (some c)), some (vI (s + 1)), some (vI (x))]) rfl (by decide) rfl rfl ?_
          refine x_iinc 20 (L' := [some (vR (some c)), some (vI (s + 1)), some (vI (x + 1))]) rfl (by decide) rfl rfl rfl rfl ?_
          refine x_goto 21 (tgt := 4) rfl (by decide) ?_
          exact ihL1 (x + 1) (s + 1) (by omega) (by rw [sumZ_s f hx.1, hfx]; grind) (by omega)
        · refine x_iconst 15 rfl ?_
          refine x_goto 16 (tgt := 30) rfl (by decide) ?_
          refine x_iadd 18 (r := s + 0) rfl rfl ?_
          refine x_istore_n 19 (L' := [some (vR (some c)), some (vI (s + 0)), some (vI (x))]) rfl (by decide) rfl rfl ?_
          refine x_iinc 20 (L' := [some (vR (some c)), some (vI (s + 0)), some (vI (x + 1))]) rfl (by decide) rfl rfl rfl rfl ?_
          refine x_goto 21 (tgt := 4) rfl (by decide) ?_
          exact ihL1 (x + 1) (s + 0) (by omega) (by rw [sumZ_s f hx.1, hfx]; grind) (by omega)
  exact loopL1 ((i c 4 - ((0))) + 1 : Int).toNat (0) (0) (by omega) (rfl) (by omega)
set_option maxRecDepth 20000 in
set_option maxHeartbeats 2000000 in
theorem c_placed {i : Nat → Int → Int} {l : Nat → Int → BitVec 64} {c : Nat} (hc : isC bb c) (hO : okC i c) : mCtr m_X0_placed 2 0 0 [vR (some c)] (st nn i l) (qI (sumZ (fun p => fMem i c p) 4) (st nn i l)) := by
  refine mCtr_of pl_X0 dc_X0_placed (Nat.le_of_ble_eq_true rfl) rfl ?_
  show mX m_X0_placed 2 _ 0 0 0 [some (vR (some c)), none, none] [] (st nn i l)
  have hN := hO.n
  obtain ⟨f, hf⟩ : ∃ f : Int → Int, f = fun k => fMem i c k := ⟨_, rfl⟩
  refine x_iconst 0 rfl ?_
  refine x_istore_n 1 (L' := [some (vR (some c)), some (vI (0)), none]) rfl (by decide) rfl rfl ?_
  refine x_iconst 2 rfl ?_
  refine x_istore_n 3 (L' := [some (vR (some c)), some (vI (0)), some (vI (0))]) rfl (by decide) rfl rfl ?_
  have loopL1 : ∀ (nz : Nat) (x : Int) (s : Int), (0 ≤ x ∧ x ≤ 4) → (s = sumZ f x) → (4 - x) < (nz : Int) → mX m_X0_placed 2 (qI (sumZ (fun p => fMem i c p) 4) (st nn i l)) 0 0 4 [some (vR (some c)), some (vI (s)), some (vI (x))] [] (st nn i l) := by
    intro nz
    induction nz with
    | zero => intro x s hx hs hz; exact absurd hz (by omega)
    | succ nz ihL1 =>
      intro x s hx hs hzL1
      refine x_iload_n 4 rfl rfl ?_
      refine x_iconst 5 rfl ?_
      refine x_icmp_ge 6 (tgt := 23) rfl (by decide) (by omega) (fun h2 => ?_) (fun h2 => ?_)
      · refine x_iload_n 15 rfl rfl ?_
        refine x_ret 16 (some (vI (s))) rfl ⟨rfl, Or.inl rfl⟩ ⟨congrArg (fun z => some (vI z)) ?_, rfl⟩
        rw [hs, hf, show x = 4 by omega]
      · have hfx : f x = (fMem i c x) := by rw [hf]
        refine x_iload_n 7 rfl rfl ?_
        refine x_aload_n 8 rfl rfl ?_
        refine x_iload_n 9 rfl rfl ?_
        refine x_callV 10 m_X0_members (c_members hc hO (by omega)) rfl ok_X0_members (isC_0 hc) (kC hc) rfl rfl ml_X0_66 im_X0_members se_X0_members rfl (by decide) rfl (Nat.le_of_ble_eq_true rfl) rfl rfl (fun v g q3 => ?_)
        obtain ⟨rfl, rfl⟩ := q3
        show mX m_X0_placed 2 _ 0 0 _ _ [vI (fMem i c x), vI (s)] _
        refine x_iadd 11 (r := s + (fMem i c x)) rfl rfl ?_
        refine x_istore_n 12 (L' := [some (vR (some c)), some (vI (s + (fMem i c x))), some (vI (x))]) rfl (by decide) rfl rfl ?_
        refine x_iinc 13 (L' := [some (vR (some c)), some (vI (s + (fMem i c x))), some (vI (x + 1))]) rfl (by decide) rfl rfl rfl rfl ?_
        refine x_goto 14 (tgt := 4) rfl (by decide) ?_
        exact ihL1 (x + 1) (s + (fMem i c x)) (by omega) (by rw [sumZ_s f hx.1, hfx]; grind) (by omega)
  exact loopL1 ((4 - ((0))) + 1 : Int).toNat (0) (0) (by omega) (rfl) (by omega)
set_option maxRecDepth 20000 in
set_option maxHeartbeats 2000000 in
theorem c_covers {i : Nat → Int → Int} {l : Nat → Int → BitVec 64} {c : Nat} (hc : isC bb c) (hs : 1 ≤ i (c + 12) 1 ∧ i (c + 12) 1 ≤ 50) {x : Int} (hx : -2147483648 ≤ x ∧ x < 2147483648) : mCtr m_X0_covers 1 0 0 [vR (some c), vI (x)] (st nn i l) (qB (i (c + 12) 1 ≤ x) (st nn i l)) := by
  refine mCtr_of pl_X0 dc_X0_covers (Nat.le_of_ble_eq_true rfl) rfl ?_
  show mX m_X0_covers 1 _ 0 0 0 [some (vR (some c)), some (vI (x))] [] (st nn i l)
  refine x_iload_n 0 rfl rfl ?_
  refine x_aload_n 1 rfl rfl ?_
  refine x_getR 2 (z := (c + 12)) rfl fl_X0_18 (isC_0 hc) (kC hc) rfl (rC1 hc) ?_
  refine x_iconst 3 rfl ?_
  refine x_iald 4 (z := i (c + 12) 1) rfl (isC_T hc) (kCT hc) (by omega) rfl ?_
  refine x_icmp_lt 5 (tgt := 14) rfl (by decide) (by omega) (fun h1 => ?_) (fun h1 => ?_)
  · refine x_iconst 8 rfl ?_
    refine x_ret 9 (some (vI (0))) rfl ⟨rfl, Or.inr ⟨rfl, by omega⟩⟩ ⟨rfl, Or.inr ⟨?_, rfl⟩⟩
    omega
  · refine x_iconst 6 rfl ?_
    refine x_goto 7 (tgt := 15) rfl (by decide) ?_
    refine x_ret 9 (some (vI (1))) rfl ⟨rfl, Or.inr ⟨rfl, by omega⟩⟩ ⟨rfl, Or.inl ⟨?_, rfl⟩⟩
    omega
set_option maxRecDepth 20000 in
set_option maxHeartbeats 2000000 in
theorem c_coveredParts {i : Nat → Int → Int} {l : Nat → Int → BitVec 64} {c : Nat} (hc : isC bb c) (hO : okC i c) : mCtr m_X0_coveredParts 2 0 0 [vR (some c)] (st nn i l) (qI (fCov i c) (st nn i l)) := by
  refine mCtr_of pl_X0 dc_X0_coveredParts (Nat.le_of_ble_eq_true rfl) rfl ?_
  show mX m_X0_coveredParts 2 _ 0 0 0 [some (vR (some c)), none, none] [] (st nn i l)
  have hN := hO.n
  obtain ⟨f, hf⟩ : ∃ f : Int → Bool, f = fun p => decide (i (c + 12) 1 ≤ fPres i c p) := ⟨_, rfl⟩
  refine x_iconst 0 rfl ?_
  refine x_istore_n 1 (L' := [some (vR (some c)), some (vI (0)), none]) rfl (by decide) rfl rfl ?_
  refine x_iconst 2 rfl ?_
  refine x_istore_n 3 (L' := [some (vR (some c)), some (vI (0)), some (vI (0))]) rfl (by decide) rfl rfl ?_
  have loopL1 : ∀ (nz : Nat) (x : Int) (s : Int), (0 ≤ x ∧ x ≤ 4) → (s = orZ f x) → (4 - x) < (nz : Int) → mX m_X0_coveredParts 2 (qI (fCov i c) (st nn i l)) 0 0 4 [some (vR (some c)), some (vI (s)), some (vI (x))] [] (st nn i l) := by
    intro nz
    induction nz with
    | zero => intro x s hx hs hz; exact absurd hz (by omega)
    | succ nz ihL1 =>
      intro x s hx hs hzL1
      refine x_iload_n 4 rfl rfl ?_
      refine x_iconst 5 rfl ?_
      refine x_icmp_ge 6 (tgt := 33) rfl (by decide) (by omega) (fun h2 => ?_) (fun h2 => ?_)
      · refine x_iload_n 21 rfl rfl ?_
        refine x_ret 22 (some (vI (s))) rfl ⟨rfl, Or.inl rfl⟩ ⟨congrArg (fun z => some (vI z)) ?_, rfl⟩
        rw [hs, hf, show x = 4 by omega]; rfl
      · refine x_aload_n 7 rfl rfl ?_
        refine x_aload_n 8 rfl rfl ?_
        refine x_iload_n 9 rfl rfl ?_
        have hpb := fPres_bd (p := x) hO
        have hob := orZ_bd f (x := x) (by omega)
        refine x_callV 10 m_X0_strengthPresent (c_strengthPresent hc hO (by omega)) rfl ok_X0_strengthPresent (isC_0 hc) (kC hc) rfl rfl ml_X0_79 im_X0_strengthPresent se_X0_strengthPresent rfl (by decide) rfl (Nat.le_of_ble_eq_true rfl) rfl rfl (fun v g q3 => ?_)
        obtain ⟨rfl, rfl⟩ := q3
        show mX m_X0_coveredParts 2 _ 0 0 _ _ [vI (fPres i c x), vR (some c)] _
        refine x_callV 11 m_X0_covers (c_covers hc (by omega) (by omega)) rfl ok_X0_covers (isC_0 hc) (kC hc) rfl rfl ml_X0_82 im_X0_covers se_X0_covers rfl (by decide) rfl (Nat.le_of_ble_eq_true rfl) rfl rfl (fun v g q4 => ?_)
        rcases q4 with ⟨rfl, ⟨h5, rfl⟩ | ⟨h5, rfl⟩⟩
        · show mX m_X0_coveredParts 2 _ 0 0 _ _ [vI (1)] _
          have hfx : f x = true := by rw [hf]; simpa using h5
          refine x_if_eq 12 (tgt := 27) rfl (by decide) (by decide) (fun h6 => absurd h6 (by decide)) (fun h6 => ?_)
          have hp2 := mPow4 (show 0 ≤ x ∧ x < 4 by omega)
          refine x_iload_n 13 rfl rfl ?_
          refine x_iconst 14 rfl ?_
          refine x_iload_n 15 rfl rfl ?_
          refine x_ishl 16 (r := 1 * 2 ^ (x).toNat) rfl (by have := Nat.pow_le_pow_right (n := 2) (by decide) (show x.toNat ≤ 4 by omega); omega) rfl ?_
          refine x_ior 17 (r := (s : Int).toNat ||| (1 * 2 ^ (x).toNat : Int).toNat) rfl (by omega) rfl ?_
          refine x_istore_n 18 (L' := [some (vR (some c)), some (vI ((((s : Int).toNat ||| (1 * 2 ^ (x).toNat : Int).toNat : Nat) : Int))), some (vI (x))]) rfl (by decide) rfl rfl ?_
          refine x_iinc 19 (L' := [some (vR (some c)), some (vI ((((s : Int).toNat ||| (1 * 2 ^ (x).toNat : Int).toNat : Nat) : Int))), some (vI (x + 1))]) rfl (by decide) rfl rfl rfl rfl ?_
          refine x_goto 20 (tgt := 4) rfl (by decide) ?_
          exact ihL1 (x + 1) ((((s : Int).toNat ||| (1 * 2 ^ (x).toNat : Int).toNat : Nat) : Int)) (by omega) (by rw [orZ_s f hx.1, hs, hfx]; first | (rw [if_neg (by decide)]) | (rw [if_pos rfl, mOne])) (by omega)
        · show mX m_X0_coveredParts 2 _ 0 0 _ _ [vI (0)] _
          have hfx : f x = false := by rw [hf]; simpa using h5
          refine x_if_eq 12 (tgt := 27) rfl (by decide) (by decide) (fun h7 => ?_) (fun h7 => absurd h7 (by decide))
          refine x_iinc 19 (L' := [some (vR (some c)), some (vI (s)), some (vI (x + 1))]) rfl (by decide) rfl rfl rfl rfl ?_
          refine x_goto 20 (tgt := 4) rfl (by decide) ?_
          exact ihL1 (x + 1) (s) (by omega) (by rw [orZ_s f hx.1, hs, hfx]; first | (rw [if_neg (by decide)]) | (rw [if_pos rfl, mOne])) (by omega)
  exact loopL1 ((4 - ((0))) + 1 : Int).toNat (0) (0) (by omega) (rfl) (by omega)
set_option maxRecDepth 20000 in
set_option maxHeartbeats 2000000 in
theorem c_width {i : Nat → Int → Int} {l : Nat → Int → BitVec 64} {c : Nat} (hc : isC bb c) (hO : okC i c) : mCtr m_X0_width 2 0 0 [vR (some c)] (st nn i l) (qI (i (c + 12) 3) (st nn i l)) := by
  refine mCtr_of pl_X0 dc_X0_width (Nat.le_of_ble_eq_true rfl) rfl ?_
  show mX m_X0_width 2 _ 0 0 0 [some (vR (some c))] [] (st nn i l)
  have hN := hO.n
  refine x_iconst 0 rfl ?_
  refine x_aload_n 1 rfl rfl ?_
  refine x_getR 2 (z := (c + 12)) rfl fl_X0_18 (isC_0 hc) (kC hc) rfl (rC1 hc) ?_
  refine x_iconst 3 rfl ?_
  refine x_iald 4 (z := i (c + 12) 3) rfl (isC_T hc) (kCT hc) (by omega) rfl ?_
  refine x_mmax 5 (r := max 1 (i (c + 12) 3)) rfl ml_X0_89 (by omega) rfl (by decide) (Nat.le_of_ble_eq_true rfl) ?_
  refine x_ret 6 (some (vI (max 1 (i (c + 12) 3)))) rfl ⟨rfl, Or.inl rfl⟩ ⟨congrArg (fun z => some (vI z)) ?_, rfl⟩
  omega
set_option maxRecDepth 20000 in
set_option maxHeartbeats 2000000 in
theorem c_rows {i : Nat → Int → Int} {l : Nat → Int → BitVec 64} {c : Nat} (hc : isC bb c) (hO : okC i c) {p : Int} (hp : -2147483648 ≤ p ∧ p < 2147483648) : mCtr m_X0_rows 3 0 0 [vR (some c), vI (p)] (st nn i l) (qI (fRows i c p) (st nn i l)) := by
  refine mCtr_of pl_X0 dc_X0_rows (Nat.le_of_ble_eq_true rfl) rfl ?_
  show mX m_X0_rows 3 _ 0 0 0 [some (vR (some c)), some (vI (p))] [] (st nn i l)
  have hN := hO.n
  have hM := fMem_bd (p := p) hO
  refine x_aload_n 0 rfl rfl ?_
  refine x_iload_n 1 rfl rfl ?_
  refine x_callV 2 m_X0_members (c_members hc hO (by omega)) rfl ok_X0_members (isC_0 hc) (kC hc) rfl rfl ml_X0_66 im_X0_members se_X0_members rfl (by decide) rfl (Nat.le_of_ble_eq_true rfl) rfl rfl (fun v g q1 => ?_)
  obtain ⟨rfl, rfl⟩ := q1
  show mX m_X0_rows 3 _ 0 0 _ _ [vI (fMem i c p)] _
  refine x_aload_n 3 rfl rfl ?_
  refine x_callV 4 m_X0_width (c_width hc hO) rfl ok_X0_width (isC_0 hc) (kC hc) rfl rfl ml_X0_95 im_X0_width se_X0_width rfl (by decide) rfl (Nat.le_of_ble_eq_true rfl) rfl rfl (fun v g q2 => ?_)
  obtain ⟨rfl, rfl⟩ := q2
  show mX m_X0_rows 3 _ 0 0 _ _ [vI (i (c + 12) 3), vI (fMem i c p)] _
  refine x_iadd 5 (r := (fMem i c p) + (i (c + 12) 3)) rfl rfl ?_
  refine x_iconst 6 rfl ?_
  refine x_isub 7 (r := ((fMem i c p) + (i (c + 12) 3)) - 1) rfl rfl ?_
  refine x_aload_n 8 rfl rfl ?_
  refine x_callV 9 m_X0_width (c_width hc hO) rfl ok_X0_width (isC_0 hc) (kC hc) rfl rfl ml_X0_95 im_X0_width se_X0_width rfl (by decide) rfl (Nat.le_of_ble_eq_true rfl) rfl rfl (fun v g q3 => ?_)
  obtain ⟨rfl, rfl⟩ := q3
  show mX m_X0_rows 3 _ 0 0 _ _ [vI (i (c + 12) 3), vI (((fMem i c p) + (i (c + 12) 3)) - 1)] _
  refine x_idiv 10 (r := (((fMem i c p) + (i (c + 12) 3)) - 1) / (i (c + 12) 3)) rfl (by omega) rfl ?_
  refine x_ret 11 (some (vI ((((fMem i c p) + (i (c + 12) 3)) - 1) / (i (c + 12) 3)))) rfl ⟨rfl, Or.inl rfl⟩ ⟨congrArg (fun z => some (vI z)) ?_, rfl⟩
  rfl
set_option maxRecDepth 20000 in
set_option maxHeartbeats 2000000 in
theorem c_rowsBefore {i : Nat → Int → Int} {l : Nat → Int → BitVec 64} {c : Nat} (hc : isC bb c) (hO : okC i c) {p : Int} (hp : 0 ≤ p ∧ p ≤ 4) : mCtr m_X0_rowsBefore 4 0 0 [vR (some c), vI (p)] (st nn i l) (qI (sumZ (fun k => fRows i c k) p) (st nn i l)) := by
  refine mCtr_of pl_X0 dc_X0_rowsBefore (Nat.le_of_ble_eq_true rfl) rfl ?_
  show mX m_X0_rowsBefore 4 _ 0 0 0 [some (vR (some c)), some (vI (p)), none, none] [] (st nn i l)
  have hN := hO.n
  obtain ⟨f, hf⟩ : ∃ f : Int → Int, f = fun k => fRows i c k := ⟨_, rfl⟩
  refine x_iconst 0 rfl ?_
  refine x_istore_n 1 (L' := [some (vR (some c)), some (vI (p)), some (vI (0)), none]) rfl (by decide) rfl rfl ?_
  refine x_iconst 2 rfl ?_
  refine x_istore_n 3 (L' := [some (vR (some c)), some (vI (p)), some (vI (0)), some (vI (0))]) rfl (by decide) rfl rfl ?_
  have loopL1 : ∀ (nz : Nat) (x : Int) (s : Int), (0 ≤ x ∧ x ≤ p) → (s = sumZ f x) → (p - x) < (nz : Int) → mX m_X0_rowsBefore 4 (qI (sumZ (fun k => fRows i c k) p) (st nn i l)) 0 0 4 [some (vR (some c)), some (vI (p)), some (vI (s)), some (vI (x))] [] (st nn i l) := by
    intro nz
    induction nz with
    | zero => intro x s hx hs hz; exact absurd hz (by omega)
    | succ nz ihL1 =>
      intro x s hx hs hzL1
      refine x_iload_n 4 rfl rfl ?_
      refine x_iload_n 5 rfl rfl ?_
      refine x_icmp_ge 6 (tgt := 23) rfl (by decide) (by omega) (fun h2 => ?_) (fun h2 => ?_)
      · refine x_iload_n 15 rfl rfl ?_
        refine x_ret 16 (some (vI (s))) rfl ⟨rfl, Or.inl rfl⟩ ⟨congrArg (fun z => some (vI z)) ?_, rfl⟩
        rw [hs, hf, show x = p by omega]
      · have hfx : f x = (fRows i c x) := by rw [hf]
        refine x_iload_n 7 rfl rfl ?_
        refine x_aload_n 8 rfl rfl ?_
        refine x_iload_n 9 rfl rfl ?_
        refine x_callV 10 m_X0_rows (c_rows hc hO (by omega)) rfl ok_X0_rows (isC_0 hc) (kC hc) rfl rfl ml_X0_99 im_X0_rows se_X0_rows rfl (by decide) rfl (Nat.le_of_ble_eq_true rfl) rfl rfl (fun v g q3 => ?_)
        obtain ⟨rfl, rfl⟩ := q3
        show mX m_X0_rowsBefore 4 _ 0 0 _ _ [vI (fRows i c x), vI (s)] _
        refine x_iadd 11 (r := s + (fRows i c x)) rfl rfl ?_
        refine x_istore_n 12 (L' := [some (vR (some c)), some (vI (p)), some (vI (s + (fRows i c x))), some (vI (x))]) rfl (by decide) rfl rfl ?_
        refine x_iinc 13 (L' := [some (vR (some c)), some (vI (p)), some (vI (s + (fRows i c x))), some (vI (x + 1))]) rfl (by decide) rfl rfl rfl rfl ?_
        refine x_goto 14 (tgt := 4) rfl (by decide) ?_
        exact ihL1 (x + 1) (s + (fRows i c x)) (by omega) (by rw [sumZ_s f hx.1, hfx]; grind) (by omega)
  exact loopL1 ((p - ((0))) + 1 : Int).toNat (0) (0) (by omega) (rfl) (by omega)
set_option maxRecDepth 20000 in
set_option maxHeartbeats 2000000 in
theorem c_fits {i : Nat → Int → Int} {l : Nat → Int → BitVec 64} {c : Nat} (hc : isC bb c) (hO : okC i c) {x : Int} (hx : 0 ≤ x ∧ x < i c 4) {p : Int} (hp : 0 ≤ p ∧ p < 4) : mCtr m_X0_fits 3 0 0 [vR (some c), vI (x), vI (p)] (st nn i l) (qB (i (c + 12) 0 ≤ fIn i (c + 2 + x.toNat) p) (st nn i l)) := by
  refine mCtr_of pl_X0 dc_X0_fits (Nat.le_of_ble_eq_true rfl) rfl ?_
  show mX m_X0_fits 3 _ 0 0 0 [some (vR (some c)), some (vI (x)), some (vI (p))] [] (st nn i l)
  have hN := hO.n
  have hsg := hO.s hx.1 hx.2
  have hfi := fIn_bd (p := p) (q := c + 2 + x.toNat) (i := i) (by omega) (by omega)
  refine x_aload_n 0 rfl rfl ?_
  refine x_getR 1 (z := (c + 1)) rfl fl_X0_11 (isC_0 hc) (kC hc) rfl (rC0 hc) ?_
  refine x_iload_n 2 rfl rfl ?_
  refine x_aald 3 (t := 3) (z := (c + 2 + (x).toNat)) rfl (isC_S hc) (kCS hc) (by omega) ⟨rfl, rfl⟩ (rCs hc (by omega)) ?_
  refine x_iload_n 4 rfl rfl ?_
  refine x_callV 5 m_X5_notesIn (c_notesIn (isS.of hc (show (x).toNat < 10 by omega)) (by omega) (by omega)) rfl ok_X5_notesIn (isS_lt (isS.of hc (show (x).toNat < 10 by omega))) (kS (isS.of hc (show (x).toNat < 10 by omega))) rfl rfl ml_X0_58 im_X5_notesIn se_X5_notesIn rfl (by decide) rfl (Nat.le_of_ble_eq_true rfl) rfl rfl (fun v g q1 => ?_)
  obtain ⟨rfl, rfl⟩ := q1
  show mX m_X0_fits 3 _ 0 0 _ _ [vI (fIn i (c + 2 + (x).toNat) p)] _
  refine x_aload_n 6 rfl rfl ?_
  refine x_getR 7 (z := (c + 12)) rfl fl_X0_18 (isC_0 hc) (kC hc) rfl (rC1 hc) ?_
  refine x_iconst 8 rfl ?_
  refine x_iald 9 (z := i (c + 12) 0) rfl (isC_T hc) (kCT hc) (by omega) rfl ?_
  refine x_icmp_lt 10 (tgt := 23) rfl (by decide) (by omega) (fun h2 => ?_) (fun h2 => ?_)
  · refine x_iconst 13 rfl ?_
    refine x_ret 14 (some (vI (0))) rfl ⟨rfl, Or.inr ⟨rfl, by omega⟩⟩ ⟨rfl, Or.inr ⟨?_, rfl⟩⟩
    omega
  · refine x_iconst 11 rfl ?_
    refine x_goto 12 (tgt := 24) rfl (by decide) ?_
    refine x_ret 14 (some (vI (1))) rfl ⟨rfl, Or.inr ⟨rfl, by omega⟩⟩ ⟨rfl, Or.inl ⟨?_, rfl⟩⟩
    omega
set_option maxRecDepth 20000 in
set_option maxHeartbeats 2000000 in
theorem c_fittingParts {i : Nat → Int → Int} {l : Nat → Int → BitVec 64} {c : Nat} (hc : isC bb c) (hO : okC i c) {y : Int} (hy : 0 ≤ y ∧ y < i c 4) : mCtr m_X0_fittingParts 4 0 0 [vR (some c), vI (y)] (st nn i l) (qI (fFits i c y) (st nn i l)) := by
  refine mCtr_of pl_X0 dc_X0_fittingParts (Nat.le_of_ble_eq_true rfl) rfl ?_
  show mX m_X0_fittingParts 4 _ 0 0 0 [some (vR (some c)), some (vI (y)), none, none] [] (st nn i l)
  have hN := hO.n
  obtain ⟨f, hf⟩ : ∃ f : Int → Bool, f = fun p => decide (i (c + 12) 0 ≤ fIn i (c + 2 + y.toNat) p) := ⟨_, rfl⟩
  refine x_iconst 0 rfl ?_
  refine x_istore_n 1 (L' := [some (vR (some c)), some (vI (y)), some (vI (0)), none]) rfl (by decide) rfl rfl ?_
  refine x_iconst 2 rfl ?_
  refine x_istore_n 3 (L' := [some (vR (some c)), some (vI (y)), some (vI (0)), some (vI (0))]) rfl (by decide) rfl rfl ?_
  have loopL1 : ∀ (nz : Nat) (x : Int) (s : Int), (0 ≤ x ∧ x ≤ 4) → (s = orZ f x) → (4 - x) < (nz : Int) → mX m_X0_fittingParts 4 (qI (fFits i c y) (st nn i l)) 0 0 4 [some (vR (some c)), some (vI (y)), some (vI (s)), some (vI (x))] [] (st nn i l) := by
    intro nz
    induction nz with
    | zero => intro x s hx hs hz; exact absurd hz (by omega)
    | succ nz ihL1 =>
      intro x s hx hs hzL1
      refine x_iload_n 4 rfl rfl ?_
      refine x_iconst 5 rfl ?_
      refine x_icmp_ge 6 (tgt := 30) rfl (by decide) (by omega) (fun h2 => ?_) (fun h2 => ?_)
      · refine x_iload_n 20 rfl rfl ?_
        refine x_ret 21 (some (vI (s))) rfl ⟨rfl, Or.inl rfl⟩ ⟨congrArg (fun z => some (vI z)) ?_, rfl⟩
        rw [hs, hf, show x = 4 by omega]; rfl
      · refine x_aload_n 7 rfl rfl ?_
        refine x_iload_n 8 rfl rfl ?_
        refine x_iload_n 9 rfl rfl ?_
        have hob := orZ_bd f (x := x) (by omega)
        refine x_callV 10 m_X0_fits (c_fits hc hO (by omega) (by omega)) rfl ok_X0_fits (isC_0 hc) (kC hc) rfl rfl ml_X0_62 im_X0_fits se_X0_fits rfl (by decide) rfl (Nat.le_of_ble_eq_true rfl) rfl rfl (fun v g q3 => ?_)
        rcases q3 with ⟨rfl, ⟨h4, rfl⟩ | ⟨h4, rfl⟩⟩
        · show mX m_X0_fittingParts 4 _ 0 0 _ _ [vI (1)] _
          have hfx : f x = true := by rw [hf]; simpa using h4
          refine x_if_eq 11 (tgt := 24) rfl (by decide) (by decide) (fun h5 => absurd h5 (by decide)) (fun h5 => ?_)
          have hp2 := mPow4 (show 0 ≤ x ∧ x < 4 by omega)
          refine x_iload_n 12 rfl rfl ?_
          refine x_iconst 13 rfl ?_
          refine x_iload_n 14 rfl rfl ?_
          refine x_ishl 15 (r := 1 * 2 ^ (x).toNat) rfl (by have := Nat.pow_le_pow_right (n := 2) (by decide) (show x.toNat ≤ 4 by omega); omega) rfl ?_
          refine x_ior 16 (r := (s : Int).toNat ||| (1 * 2 ^ (x).toNat : Int).toNat) rfl (by omega) rfl ?_
          refine x_istore_n 17 (L' := [some (vR (some c)), some (vI (y)), some (vI ((((s : Int).toNat ||| (1 * 2 ^ (x).toNat : Int).toNat : Nat) : Int))), some (vI (x))]) rfl (by decide) rfl rfl ?_
          refine x_iinc 18 (L' := [some (vR (some c)), some (vI (y)), some (vI ((((s : Int).toNat ||| (1 * 2 ^ (x).toNat : Int).toNat : Nat) : Int))), some (vI (x + 1))]) rfl (by decide) rfl rfl rfl rfl ?_
          refine x_goto 19 (tgt := 4) rfl (by decide) ?_
          exact ihL1 (x + 1) ((((s : Int).toNat ||| (1 * 2 ^ (x).toNat : Int).toNat : Nat) : Int)) (by omega) (by rw [orZ_s f hx.1, hs, hfx]; first | (rw [if_neg (by decide)]) | (rw [if_pos rfl, mOne])) (by omega)
        · show mX m_X0_fittingParts 4 _ 0 0 _ _ [vI (0)] _
          have hfx : f x = false := by rw [hf]; simpa using h4
          refine x_if_eq 11 (tgt := 24) rfl (by decide) (by decide) (fun h6 => ?_) (fun h6 => absurd h6 (by decide))
          refine x_iinc 18 (L' := [some (vR (some c)), some (vI (y)), some (vI (s)), some (vI (x + 1))]) rfl (by decide) rfl rfl rfl rfl ?_
          refine x_goto 19 (tgt := 4) rfl (by decide) ?_
          exact ihL1 (x + 1) (s) (by omega) (by rw [orZ_s f hx.1, hs, hfx]; first | (rw [if_neg (by decide)]) | (rw [if_pos rfl, mOne])) (by omega)
  exact loopL1 ((4 - ((0))) + 1 : Int).toNat (0) (0) (by omega) (rfl) (by omega)
set_option maxRecDepth 20000 in
set_option maxHeartbeats 2000000 in
theorem c_rested {i : Nat → Int → Int} {l : Nat → Int → BitVec 64} {c : Nat} (hc : isC bb c) (hO : okC i c) {q : Nat} (hq : isS bb q) (h9 : -9 ≤ i q 9 ∧ i q 9 ≤ 39) : mCtr m_X0_rested 1 0 0 [vR (some c), vR (some q)] (st nn i l) (qB (fRest i c q) (st nn i l)) := by
  refine mCtr_of pl_X0 dc_X0_rested (Nat.le_of_ble_eq_true rfl) rfl ?_
  show mX m_X0_rested 1 _ 0 0 0 [some (vR (some c)), some (vR (some q))] [] (st nn i l)
  have hN := hO.n
  refine x_aload_n 0 rfl rfl ?_
  refine x_getI 1 (z := i q 9) rfl fl_X0_86 (isS_lt hq) (kS hq) rfl rfl ?_
  refine x_bipush 2 rfl (by decide) ?_
  refine x_icmp_eq 3 (tgt := 27) rfl (by decide) (by omega) (fun h1 => ?_) (fun h1 => ?_)
  · refine x_iconst 14 rfl ?_
    refine x_goto 15 (tgt := 32) rfl (by decide) ?_
    refine x_ret 17 (some (vI (1))) rfl ⟨rfl, Or.inr ⟨rfl, by omega⟩⟩ ⟨rfl, Or.inl ⟨?_, rfl⟩⟩
    unfold fRest; omega
  · refine x_aload_n 4 rfl rfl ?_
    refine x_getI 5 (z := i c 5) rfl fl_X0_45 (isC_0 hc) (kC hc) rfl rfl ?_
    refine x_aload_n 6 rfl rfl ?_
    refine x_getI 7 (z := i q 9) rfl fl_X0_86 (isS_lt hq) (kS hq) rfl rfl ?_
    refine x_isub 8 (r := (i c 5) - (i q 9)) rfl rfl ?_
    refine x_aload_n 9 rfl rfl ?_
    refine x_getR 10 (z := (c + 12)) rfl fl_X0_18 (isC_0 hc) (kC hc) rfl (rC1 hc) ?_
    refine x_iconst 11 rfl ?_
    refine x_iald 12 (z := i (c + 12) 2) rfl (isC_T hc) (kCT hc) (by omega) rfl ?_
    refine x_icmp_le 13 (tgt := 31) rfl (by decide) (by omega) (fun h2 => ?_) (fun h2 => ?_)
    · refine x_iconst 16 rfl ?_
      refine x_ret 17 (some (vI (0))) rfl ⟨rfl, Or.inr ⟨rfl, by omega⟩⟩ ⟨rfl, Or.inr ⟨?_, rfl⟩⟩
      unfold fRest; omega
    · refine x_iconst 14 rfl ?_
      refine x_goto 15 (tgt := 32) rfl (by decide) ?_
      refine x_ret 17 (some (vI (1))) rfl ⟨rfl, Or.inr ⟨rfl, by omega⟩⟩ ⟨rfl, Or.inl ⟨?_, rfl⟩⟩
      unfold fRest; omega
set_option maxRecDepth 20000 in
set_option maxHeartbeats 2000000 in
theorem c_seatedBefore {i : Nat → Int → Int} {l : Nat → Int → BitVec 64} {c : Nat} (hc : isC bb c) (hO : okC i c) {y : Int} (hy : 0 ≤ y ∧ y < i c 4) : mCtr m_X0_seatedBefore 2 0 0 [vR (some c), vI (y)] (st nn i l) (qI (fSeat i c y) (st nn i l)) := by
  refine mCtr_of pl_X0 dc_X0_seatedBefore (Nat.le_of_ble_eq_true rfl) rfl ?_
  show mX m_X0_seatedBefore 2 _ 0 0 0 [some (vR (some c)), some (vI (y)), none, none, none, none] [] (st nn i l)
  have hN := hO.n
  obtain ⟨f, hf⟩ : ∃ f : Int → Int, f = fun k => if i (c + 2 + k.toNat) 6 = i (c + 2 + y.toNat) 6 ∧ (i (c + 2 + k.toNat) 1 < i (c + 2 + y.toNat) 1 ∨ (i (c + 2 + k.toNat) 1 = i (c + 2 + y.toNat) 1 ∧ k < y)) then 1 else 0 := ⟨_, rfl⟩
  refine x_aload_n 0 rfl rfl ?_
  refine x_getR 1 (z := (c + 1)) rfl fl_X0_11 (isC_0 hc) (kC hc) rfl (rC0 hc) ?_
  refine x_iload_n 2 rfl rfl ?_
  refine x_aald 3 (t := 3) (z := (c + 2 + (y).toNat)) rfl (isC_S hc) (kCS hc) (by omega) ⟨rfl, rfl⟩ (rCs hc (by omega)) ?_
  refine x_astore_n 4 (L' := [some (vR (some c)), some (vI (y)), some (vR (some (c + 2 + (y).toNat))), none, none, none]) rfl (by decide) rfl rfl ?_
  refine x_iconst 5 rfl ?_
  refine x_istore_n 6 (L' := [some (vR (some c)), some (vI (y)), some (vR (some (c + 2 + (y).toNat))), some (vI (0)), none, none]) rfl (by decide) rfl rfl ?_
  refine x_iconst 7 rfl ?_
  refine x_istore 8 (L' := [some (vR (some c)), some (vI (y)), some (vR (some (c + 2 + (y).toNat))), some (vI (0)), some (vI (0)), none]) rfl (by decide) rfl rfl ?_
  have loopL1 : ∀ (nz : Nat) (x : Int) (s : Int), (0 ≤ x ∧ x ≤ i c 4) → (s = sumZ f x) → (i c 4 - x) < (nz : Int) → mX m_X0_seatedBefore 2 (qI (fSeat i c y) (st nn i l)) 0 0 12 [some (vR (some c)), some (vI (y)), some (vR (some (c + 2 + (y).toNat))), some (vI (s)), some (vI (x)), none] [] (st nn i l) := by
    intro nz
    induction nz with
    | zero => intro x s hx hs hz; exact absurd hz (by omega)
    | succ nz ihL1 =>
      intro x s hx hs hzL1
      refine x_iload 9 rfl rfl ?_
      refine x_aload_n 10 rfl rfl ?_
      refine x_getI 11 (z := i c 4) rfl fl_X0_31 (isC_0 hc) (kC hc) rfl rfl ?_
      refine x_icmp_ge 12 (tgt := 71) rfl (by decide) (by omega) (fun h2 => ?_) (fun h2 => ?_)
      · refine x_iload_n 36 rfl rfl ?_
        refine x_ret 37 (some (vI (s))) rfl ⟨rfl, Or.inl rfl⟩ ⟨congrArg (fun z => some (vI z)) ?_, rfl⟩
        rw [hs, hf, show x = i c 4 by omega]; rfl
      · have hfx : f x = (if i (c + 2 + x.toNat) 6 = i (c + 2 + y.toNat) 6 ∧ (i (c + 2 + x.toNat) 1 < i (c + 2 + y.toNat) 1 ∨ (i (c + 2 + x.toNat) 1 = i (c + 2 + y.toNat) 1 ∧ x < y)) then 1 else 0) := by rw [hf]
        have hsg := hO.s hx.1 (show x < i c 4 by omega)
        have hsy := hO.s hy.1 hy.2
        refine x_aload_n 13 rfl rfl ?_
        refine x_getR 14 (z := (c + 1)) rfl fl_X0_11 (isC_0 hc) (kC hc) rfl (rC0 hc) ?_
        refine x_iload 15 rfl rfl ?_
        refine x_aald 16 (t := 3) (z := (c + 2 + (x).toNat)) rfl (isC_S hc) (kCS hc) (by omega) ⟨rfl, rfl⟩ (rCs hc (by omega)) ?_
        refine x_astore 17 (L' := [some (vR (some c)), some (vI (y)), some (vR (some (c + 2 + (y).toNat))), some (vI (s)), some (vI (x)), some (vR (some (c + 2 + (x).toNat)))]) rfl (by decide) rfl rfl ?_
        refine x_aload 18 rfl rfl ?_
        refine x_getI 19 (z := i (c + 2 + (x).toNat) 6) rfl fl_X0_73 (isS_lt (isS.of hc (show (x).toNat < 10 by omega))) (kS (isS.of hc (show (x).toNat < 10 by omega))) rfl rfl ?_
        refine x_aload_n 20 rfl rfl ?_
        refine x_getI 21 (z := i (c + 2 + (y).toNat) 6) rfl fl_X0_73 (isS_lt (isS.of hc (show (y).toNat < 10 by omega))) (kS (isS.of hc (show (y).toNat < 10 by omega))) rfl rfl ?_
        refine x_icmp_ne 22 (tgt := 65) rfl (by decide) (by omega) (fun h3 => ?_) (fun h3 => ?_)
        · refine x_iinc 34 (L' := [some (vR (some c)), some (vI (y)), some (vR (some (c + 2 + (y).toNat))), some (vI (s)), some (vI (x + 1)), some (vR (some (c + 2 + (x).toNat)))]) rfl (by decide) rfl rfl rfl rfl ?_
          refine x_goto 35 (tgt := 12) rfl (by decide) ?_
          refine x_dropL (L' := [some (vR (some c)), some (vI (y)), some (vR (some (c + 2 + (y).toNat))), some (vI (s)), some (vI (x + 1)), none]) ⟨rfl, ⟨rfl, ⟨rfl, ⟨rfl, ⟨rfl, True.intro⟩⟩⟩⟩⟩ ?_
          exact ihL1 (x + 1) (s) (by omega) (by rw [sumZ_s f hx.1, hfx]; grind) (by omega)
        · refine x_aload 23 rfl rfl ?_
          refine x_aload_n 24 rfl rfl ?_
          refine x_iload 25 rfl rfl ?_
          refine x_iload_n 26 rfl rfl ?_
          refine x_icmp_ge 27 (tgt := 55) rfl (by decide) (by omega) (fun h4 => ?_) (fun h4 => ?_)
          · refine x_iconst 30 rfl ?_
            refine x_callV 31 m_X5_sitsBefore (c_sitsBefore (isS.of hc (show (x).toNat < 10 by omega)) (isS.of hc (show (y).toNat < 10 by omega)) (by omega) (by omega) (by omega)) rfl ok_X5_sitsBefore (isS_lt (isS.of hc (show (x).toNat < 10 by omega))) (kS (isS.of hc (show (x).toNat < 10 by omega))) rfl rfl ml_X0_102 im_X5_sitsBefore se_X5_sitsBefore rfl (by decide) rfl (Nat.le_of_ble_eq_true rfl) rfl rfl (fun v g q5 => ?_)
            rcases q5 with ⟨rfl, ⟨h6, rfl⟩ | ⟨h6, rfl⟩⟩
            · show mX m_X0_seatedBefore 2 _ 0 0 _ _ [vI (1)] _
              refine x_if_eq 32 (tgt := 65) rfl (by decide) (by decide) (fun h7 => absurd h7 (by decide)) (fun h7 => ?_)
              refine x_iinc 33 (L' := [some (vR (some c)), some (vI (y)), some (vR (some (c + 2 + (y).toNat))), some (vI (s + 1)), some (vI (x)), some (vR (some (c + 2 + (x).toNat)))]) rfl (by decide) rfl rfl rfl rfl ?_
              refine x_iinc 34 (L' := [some (vR (some c)), some (vI (y)), some (vR (some (c + 2 + (y).toNat))), some (vI (s + 1)), some (vI (x + 1)), some (vR (some (c + 2 + (x).toNat)))]) rfl (by decide) rfl rfl rfl rfl ?_
              refine x_goto 35 (tgt := 12) rfl (by decide) ?_
              refine x_dropL (L' := [some (vR (some c)), some (vI (y)), some (vR (some (c + 2 + (y).toNat))), some (vI (s + 1)), some (vI (x + 1)), none]) ⟨rfl, ⟨rfl, ⟨rfl, ⟨rfl, ⟨rfl, True.intro⟩⟩⟩⟩⟩ ?_
              exact ihL1 (x + 1) (s + 1) (by omega) (by rw [sumZ_s f hx.1, hfx]; grind) (by omega)
            · show mX m_X0_seatedBefore 2 _ 0 0 _ _ [vI (0)] _
              refine x_if_eq 32 (tgt := 65) rfl (by decide) (by decide) (fun h8 => ?_) (fun h8 => absurd h8 (by decide))
              refine x_iinc 34 (L' := [some (vR (some c)), some (vI (y)), some (vR (some (c + 2 + (y).toNat))), some (vI (s)), some (vI (x + 1)), some (vR (some (c + 2 + (x).toNat)))]) rfl (by decide) rfl rfl rfl rfl ?_
              refine x_goto 35 (tgt := 12) rfl (by decide) ?_
              refine x_dropL (L' := [some (vR (some c)), some (vI (y)), some (vR (some (c + 2 + (y).toNat))), some (vI (s)), some (vI (x + 1)), none]) ⟨rfl, ⟨rfl, ⟨rfl, ⟨rfl, ⟨rfl, True.intro⟩⟩⟩⟩⟩ ?_
              exact ihL1 (x + 1) (s) (by omega) (by rw [sumZ_s f hx.1, hfx]; grind) (by omega)
          · refine x_iconst 28 rfl ?_
            refine x_goto 29 (tgt := 56) rfl (by decide) ?_
            refine x_callV 31 m_X5_sitsBefore (c_sitsBefore (isS.of hc (show (x).toNat < 10 by omega)) (isS.of hc (show (y).toNat < 10 by omega)) (by omega) (by omega) (by omega)) rfl ok_X5_sitsBefore (isS_lt (isS.of hc (show (x).toNat < 10 by omega))) (kS (isS.of hc (show (x).toNat < 10 by omega))) rfl rfl ml_X0_102 im_X5_sitsBefore se_X5_sitsBefore rfl (by decide) rfl (Nat.le_of_ble_eq_true rfl) rfl rfl (fun v g q9 => ?_)
            rcases q9 with ⟨rfl, ⟨h10, rfl⟩ | ⟨h10, rfl⟩⟩
            · show mX m_X0_seatedBefore 2 _ 0 0 _ _ [vI (1)] _
              refine x_if_eq 32 (tgt := 65) rfl (by decide) (by decide) (fun h11 => absurd h11 (by decide)) (fun h11 => ?_)
              refine x_iinc 33 (L' := [some (vR (some c)), some (vI (y)), some (vR (some (c + 2 + (y).toNat))), some (vI (s + 1)), some (vI (x)), some (vR (some (c + 2 + (x).toNat)))]) rfl (by decide) rfl rfl rfl rfl ?_
              refine x_iinc 34 (L' := [some (vR (some c)), some (vI (y)), some (vR (some (c + 2 + (y).toNat))), some (vI (s + 1)), some (vI (x + 1)), some (vR (some (c + 2 + (x).toNat)))]) rfl (by decide) rfl rfl rfl rfl ?_
              refine x_goto 35 (tgt := 12) rfl (by decide) ?_
              refine x_dropL (L' := [some (vR (some c)), some (vI (y)), some (vR (some (c + 2 + (y).toNat))), some (vI (s + 1)), some (vI (x + 1)), none]) ⟨rfl, ⟨rfl, ⟨rfl, ⟨rfl, ⟨rfl, True.intro⟩⟩⟩⟩⟩ ?_
              exact ihL1 (x + 1) (s + 1) (by omega) (by rw [sumZ_s f hx.1, hfx]; grind) (by omega)
            · show mX m_X0_seatedBefore 2 _ 0 0 _ _ [vI (0)] _
              refine x_if_eq 32 (tgt := 65) rfl (by decide) (by decide) (fun h12 => ?_) (fun h12 => absurd h12 (by decide))
              refine x_iinc 34 (L' := [some (vR (some c)), some (vI (y)), some (vR (some (c + 2 + (y).toNat))), some (vI (s)), some (vI (x + 1)), some (vR (some (c + 2 + (x).toNat)))]) rfl (by decide) rfl rfl rfl rfl ?_
              refine x_goto 35 (tgt := 12) rfl (by decide) ?_
              refine x_dropL (L' := [some (vR (some c)), some (vI (y)), some (vR (some (c + 2 + (y).toNat))), some (vI (s)), some (vI (x + 1)), none]) ⟨rfl, ⟨rfl, ⟨rfl, ⟨rfl, ⟨rfl, True.intro⟩⟩⟩⟩⟩ ?_
              exact ihL1 (x + 1) (s) (by omega) (by rw [sumZ_s f hx.1, hfx]; grind) (by omega)
  exact loopL1 ((i c 4 - ((0))) + 1 : Int).toNat (0) (0) (by omega) (rfl) (by omega)
