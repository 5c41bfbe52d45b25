variable {nn : Nat} {bb : Bool}
/-! changes of a choir -/
theorem isC_ap {c c2 : Nat} (hc : isC bb c) (hc2 : isC bb c2) (h : c ≠ c2) : c + 15 ≤ c2 ∨ c2 + 15 ≤ c := by
  obtain ⟨a, ha, rfl⟩ := hc
  obtain ⟨b, hb, rfl⟩ := hc2
  have := (by decide : ∀ a ∈ cL, ∀ b ∈ cL, a ≠ b → a + 15 ≤ b ∨ b + 15 ≤ a) a ha b hb (by omega)
  omega
/-- c has become a copy of c2 -/
def cpC (i : Nat → Int → Int) (l : Nat → Int → BitVec 64) (i' : Nat → Int → Int) (l' : Nat → Int → BitVec 64) (c c2 : Nat) : Prop :=
  (∀ a b, i' a b = if a = c ∧ b = 7 then i c2 7 else if a = c ∧ b = 6 then i c2 6 else if a = c ∧ b = 5 then i c2 5 else if a = c ∧ b = 4 then i c2 4 else if a = c + 14 ∧ 0 ≤ b ∧ b < 4 then i (c2 + 14) b else if a = c + 13 ∧ 0 ≤ b ∧ b < i c2 5 * 4 then i (c2 + 13) b else if a = c + 12 ∧ 0 ≤ b ∧ b < 4 then i (c2 + 12) b else if c + 2 ≤ a ∧ (a : Int) < c + 2 + i c2 4 ∧ (b = 0 ∨ b = 1 ∨ (4 ≤ b ∧ b ≤ 10)) then i (a - c + c2) b else i a b)
  ∧ ∀ a b, l' a b = if c + 2 ≤ a ∧ (a : Int) < c + 2 + i c2 4 ∧ (b = 2 ∨ b = 3) then l (a - c + c2) b else l a b
theorem cp_stepI {i ii i' : Nat → Int → Int} {c c2 : Nat} {x : Int} (hap : c + 15 ≤ c2 ∨ c2 + 15 ≤ c) (h0 : 0 ≤ x) (h10 : x < 10) (hm : ∀ a b, i' a b = if a = c + 2 + x.toNat ∧ (b = 0 ∨ b = 1 ∨ (4 ≤ b ∧ b ≤ 10)) then ii (c2 + 2 + x.toNat) b else ii a b)
    (hA : ∀ a b, ii a b = if c + 2 ≤ a ∧ (a : Int) < c + 2 + x ∧ (b = 0 ∨ b = 1 ∨ (4 ≤ b ∧ b ≤ 10)) then i (a - c + c2) b else i a b) : ∀ a b, i' a b = if c + 2 ≤ a ∧ (a : Int) < c + 2 + (x + 1) ∧ (b = 0 ∨ b = 1 ∨ (4 ≤ b ∧ b ≤ 10)) then i (a - c + c2) b else i a b := by
  intro a b
  rw [hm a b]
  by_cases hb : b = 0 ∨ b = 1 ∨ (4 ≤ b ∧ b ≤ 10)
  · by_cases ha : a = c + 2 + x.toNat
    · rw [if_pos ⟨ha, hb⟩, hA, if_neg (by omega), if_pos ⟨by omega, by omega, hb⟩]
      congr 1
      omega
    · rw [if_neg (fun q => ha q.1), hA]
      by_cases h3 : c + 2 ≤ a ∧ (a : Int) < c + 2 + x
      · rw [if_pos ⟨h3.1, h3.2, hb⟩, if_pos ⟨h3.1, by omega, hb⟩]
      · rw [if_neg (by omega), if_neg (by omega)]
  · rw [if_neg (fun q => hb q.2), hA, if_neg (fun q => hb q.2.2), if_neg (fun q => hb q.2.2)]
theorem cp_stepL {l ll l' : Nat → Int → BitVec 64} {c c2 : Nat} {x : Int} (hap : c + 15 ≤ c2 ∨ c2 + 15 ≤ c) (h0 : 0 ≤ x) (h10 : x < 10) (hm : ∀ a b, l' a b = if a = c + 2 + x.toNat ∧ (b = 2 ∨ b = 3) then ll (c2 + 2 + x.toNat) b else ll a b)
    (hA : ∀ a b, ll a b = if c + 2 ≤ a ∧ (a : Int) < c + 2 + x ∧ (b = 2 ∨ b = 3) then l (a - c + c2) b else l a b) : ∀ a b, l' a b = if c + 2 ≤ a ∧ (a : Int) < c + 2 + (x + 1) ∧ (b = 2 ∨ b = 3) then l (a - c + c2) b else l a b := by
  intro a b
  rw [hm a b]
  by_cases hb : b = 2 ∨ b = 3
  · by_cases ha : a = c + 2 + x.toNat
    · rw [if_pos ⟨ha, hb⟩, hA, if_neg (by omega), if_pos ⟨by omega, by omega, hb⟩]
      congr 1
      omega
    · rw [if_neg (fun q => ha q.1), hA]
      by_cases h3 : c + 2 ≤ a ∧ (a : Int) < c + 2 + x
      · rw [if_pos ⟨h3.1, h3.2, hb⟩, if_pos ⟨h3.1, by omega, hb⟩]
      · rw [if_neg (by omega), if_neg (by omega)]
  · rw [if_neg (fun q => hb q.2), hA, if_neg (fun q => hb q.2.2), if_neg (fun q => hb q.2.2)]
/-- a singer has gone: those behind come one place nearer -/
theorem dm_stepI {i ii i' : Nat → Int → Int} {c : Nat} {x y : Int} (h0 : 0 ≤ y) (h1 : y ≤ x) (hm : ∀ a b, i' a b = if a = c + 2 + x.toNat ∧ (b = 0 ∨ b = 1 ∨ (4 ≤ b ∧ b ≤ 10)) then ii (c + 2 + (x + 1).toNat) b else ii a b)
    (hA : ∀ a b, ii a b = if c + 2 + y ≤ (a : Int) ∧ (a : Int) < c + 2 + x ∧ (b = 0 ∨ b = 1 ∨ (4 ≤ b ∧ b ≤ 10)) then i (a + 1) b else i a b) : ∀ a b, i' a b = if c + 2 + y ≤ (a : Int) ∧ (a : Int) < c + 2 + (x + 1) ∧ (b = 0 ∨ b = 1 ∨ (4 ≤ b ∧ b ≤ 10)) then i (a + 1) b else i a b := by
  intro a b
  rw [hm a b]
  by_cases hb : b = 0 ∨ b = 1 ∨ (4 ≤ b ∧ b ≤ 10)
  · by_cases ha : a = c + 2 + x.toNat
    · rw [if_pos ⟨ha, hb⟩, hA, if_neg (by omega), if_pos ⟨by omega, by omega, hb⟩]
      congr 1
      omega
    · rw [if_neg (fun q => ha q.1), hA]
      by_cases h3 : c + 2 + y ≤ (a : Int) ∧ (a : Int) < c + 2 + x
      · rw [if_pos ⟨h3.1, h3.2, hb⟩, if_pos ⟨h3.1, by omega, hb⟩]
      · rw [if_neg (by omega), if_neg (by omega)]
  · rw [if_neg (fun q => hb q.2), hA, if_neg (fun q => hb q.2.2), if_neg (fun q => hb q.2.2)]
theorem dm_stepL {l ll l' : Nat → Int → BitVec 64} {c : Nat} {x y : Int} (h0 : 0 ≤ y) (h1 : y ≤ x) (hm : ∀ a b, l' a b = if a = c + 2 + x.toNat ∧ (b = 2 ∨ b = 3) then ll (c + 2 + (x + 1).toNat) b else ll a b)
    (hA : ∀ a b, ll a b = if c + 2 + y ≤ (a : Int) ∧ (a : Int) < c + 2 + x ∧ (b = 2 ∨ b = 3) then l (a + 1) b else l a b) : ∀ a b, l' a b = if c + 2 + y ≤ (a : Int) ∧ (a : Int) < c + 2 + (x + 1) ∧ (b = 2 ∨ b = 3) then l (a + 1) b else l a b := by
  intro a b
  rw [hm a b]
  by_cases hb : b = 2 ∨ b = 3
  · by_cases ha : a = c + 2 + x.toNat
    · rw [if_pos ⟨ha, hb⟩, hA, if_neg (by omega), if_pos ⟨by omega, by omega, hb⟩]
      congr 1
      omega
    · rw [if_neg (fun q => ha q.1), hA]
      by_cases h3 : c + 2 + y ≤ (a : Int) ∧ (a : Int) < c + 2 + x
      · rw [if_pos ⟨h3.1, h3.2, hb⟩, if_pos ⟨h3.1, by omega, hb⟩]
      · rw [if_neg (by omega), if_neg (by omega)]
  · rw [if_neg (fun q => hb q.2), hA, if_neg (fun q => hb q.2.2), if_neg (fun q => hb q.2.2)]
theorem okC.congr {i i' : Nat → Int → Int} {c : Nat} (h : okC i c) (he : ∀ a b, c ≤ a → a < c + 15 → i' a b = i a b) : okC i' c := by
  obtain ⟨h1, h2, h3, h4⟩ := h
  have e : ∀ k, k < 15 → ∀ b, i' (c + k) b = i (c + k) b := fun k hk b => he _ b (by omega) (by omega)
  have e0 := fun b => e 0 (by omega) b
  simp only [Nat.add_zero] at e0
  refine ⟨by simp only [e0, e 12 (by omega)]; exact h1, fun p a b => by rw [e 14 (by omega)]; exact h2 p a b, fun x a b => by rw [e 13 (by omega)]; rw [e0] at b; exact h3 x a b, fun x a b => ?_⟩
  rw [e0] at b
  have := h4 x a b
  unfold okS at this ⊢
  simp only [he (c + 2 + x.toNat) _ (by omega) (by omega)]
  exact this
set_option maxRecDepth 20000 in
set_option maxHeartbeats 2000000 in
theorem c_copyFrom {i : Nat → Int → Int} {l : Nat → Int → BitVec 64} {c c2 : Nat} (hc : isC bb c) (hc2 : isC bb c2) (hne : c ≠ c2) (hO2 : okC i c2) : mCtr m_X0_copyFrom 2 0 0 [vR (some c), vR (some c2)] (st nn i l) (qV nn (fun i' l' => cpC i l i' l' c c2)) := by
  refine mCtr_of pl_X0 dc_X0_copyFrom (Nat.le_of_ble_eq_true rfl) rfl ?_
  show mX m_X0_copyFrom 2 _ 0 0 0 [some (vR (some c)), some (vR (some c2)), none] [] (st nn i l)
  have hN := hO2.n
  have hap := isC_ap hc hc2 hne
  refine x_iconst 0 rfl ?_
  refine x_istore_n 1 (L' := [some (vR (some c)), some (vR (some c2)), some (vI (0))]) rfl (by decide) rfl rfl ?_
  have loopL1 : ∀ (nz : Nat) (ii : Nat → Int → Int) (ll : Nat → Int → BitVec 64) (x : Int), (0 ≤ x ∧ x ≤ i c2 4) → (∀ a b, ii a b = if c + 2 ≤ a ∧ (a : Int) < c + 2 + x ∧ (b = 0 ∨ b = 1 ∨ (4 ≤ b ∧ b ≤ 10)) then i (a - c + c2) b else i a b) → (∀ a b, ll a b = if c + 2 ≤ a ∧ (a : Int) < c + 2 + x ∧ (b = 2 ∨ b = 3) then l (a - c + c2) b else l a b) → (i c2 4 - x) < (nz : Int) → mX m_X0_copyFrom 2 (qV nn (fun i' l' => cpC i l i' l' c c2)) 0 0 2 [some (vR (some c)), some (vR (some c2)), some (vI (x))] [] (st nn ii ll) := by
    intro nz
    induction nz with
    | zero => intro ii ll x hx hA hB hz; exact absurd hz (by omega)
    | succ nz ihL1 =>
      intro ii ll x hx hA hB hzL1
      have hc4 : ii c2 4 = i c2 4 := by rw [hA, if_neg (by omega)]
      refine x_iload_n 2 rfl rfl ?_
      refine x_aload_n 3 rfl rfl ?_
      refine x_getI 4 (z := ii c2 4) rfl fl_X0_31 (isC_0 hc2) (kC hc2) rfl rfl ?_
      refine x_icmp_ge 5 (tgt := 31) rfl (by decide) (by omega) (fun h2 => ?_) (fun h2 => ?_)
      · have hxe : x = i c2 4 := by omega
        subst hxe
        refine x_aload_n 17 rfl rfl ?_
        refine x_getR 18 (z := (c2 + 12)) rfl fl_X0_18 (isC_0 hc2) (kC hc2) rfl (rC1 hc2) ?_
        refine x_iconst 19 rfl ?_
        refine x_aload_n 20 rfl rfl ?_
        refine x_getR 21 (z := (c + 12)) rfl fl_X0_18 (isC_0 hc) (kC hc) rfl (rC1 hc) ?_
        refine x_iconst 22 rfl ?_
        refine x_iconst 23 rfl ?_
        obtain ⟨i3, hi3⟩ : ∃ f, f = mCp ii (c2 + 12) (c + 12) (4) := ⟨_, rfl⟩
        refine x_copyi 24 rfl ml_X0_39 (isC_T hc2) (kCT hc2) (isC_T hc) (kCT hc) (by omega) (by decide) (Nat.le_of_ble_eq_true rfl) (g' := st nn i3 ll) (by subst hi3; rfl) ?_
        have e3 : ∀ a b, i3 a b = if a = c + 12 ∧ 0 ≤ b ∧ b < 4 then i (c2 + 12) b else ii a b := by
          intro a b; simp only [hi3, mCp]; split
          · rw [hA, if_neg (by omega)]
          · rfl
        have e35 : i3 c2 5 = i c2 5 := by rw [e3, if_neg (by omega), hA, if_neg (by omega)]
        refine x_aload_n 25 rfl rfl ?_
        refine x_getR 26 (z := (c2 + 13)) rfl fl_X0_25 (isC_0 hc2) (kC hc2) rfl (rC2 hc2) ?_
        refine x_iconst 27 rfl ?_
        refine x_aload_n 28 rfl rfl ?_
        refine x_getR 29 (z := (c + 13)) rfl fl_X0_25 (isC_0 hc) (kC hc) rfl (rC2 hc) ?_
        refine x_iconst 30 rfl ?_
        refine x_aload_n 31 rfl rfl ?_
        refine x_getI 32 (z := i3 c2 5) rfl fl_X0_45 (isC_0 hc2) (kC hc2) rfl rfl ?_
        refine x_iconst 33 rfl ?_
        refine x_imul 34 (r := (i3 c2 5) * 4) rfl rfl ?_
        obtain ⟨i4, hi4⟩ : ∃ f, f = mCp i3 (c2 + 13) (c + 13) ((i3 c2 5) * 4) := ⟨_, rfl⟩
        refine x_copyi 35 rfl ml_X0_39 (isC_O hc2) (kCO hc2) (isC_O hc) (kCO hc) (by omega) (by decide) (Nat.le_of_ble_eq_true rfl) (g' := st nn i4 ll) (by subst hi4; rfl) ?_
        have e4 : ∀ a b, i4 a b = if a = c + 13 ∧ 0 ≤ b ∧ b < i c2 5 * 4 then i (c2 + 13) b else i3 a b := by
          intro a b; simp only [hi4, mCp, e35]; split
          · rw [e3, if_neg (by omega), hA, if_neg (by omega)]
          · rfl
        refine x_aload_n 36 rfl rfl ?_
        refine x_getR 37 (z := (c2 + 14)) rfl fl_X0_28 (isC_0 hc2) (kC hc2) rfl (rC3 hc2) ?_
        refine x_iconst 38 rfl ?_
        refine x_aload_n 39 rfl rfl ?_
        refine x_getR 40 (z := (c + 14)) rfl fl_X0_28 (isC_0 hc) (kC hc) rfl (rC3 hc) ?_
        refine x_iconst 41 rfl ?_
        refine x_iconst 42 rfl ?_
        obtain ⟨i5, hi5⟩ : ∃ f, f = mCp i4 (c2 + 14) (c + 14) (4) := ⟨_, rfl⟩
        refine x_copyi 43 rfl ml_X0_39 (isC_W hc2) (kCW hc2) (isC_W hc) (kCW hc) (by omega) (by decide) (Nat.le_of_ble_eq_true rfl) (g' := st nn i5 ll) (by subst hi5; rfl) ?_
        have e5 : ∀ a b, i5 a b = if a = c + 14 ∧ 0 ≤ b ∧ b < 4 then i (c2 + 14) b else i4 a b := by
          intro a b; simp only [hi5, mCp]; split
          · rw [e4, if_neg (by omega), e3, if_neg (by omega), hA, if_neg (by omega)]
          · rfl
        have e0 : ∀ b, i5 c2 b = i c2 b := by intro b; rw [e5, if_neg (by omega), e4, if_neg (by omega), e3, if_neg (by omega), hA, if_neg (by omega)]
        refine x_aload_n 44 rfl rfl ?_
        refine x_aload_n 45 rfl rfl ?_
        refine x_getI 46 (z := i5 c2 4) rfl fl_X0_31 (isC_0 hc2) (kC hc2) rfl rfl ?_
        obtain ⟨i6, hi6⟩ : ∃ f, f = mU i5 c 4 (i5 c2 4) := ⟨_, rfl⟩
        refine x_putI 47 rfl fl_X0_31 (isC_0 hc) (kC hc) rfl rfl (g' := st nn i6 ll) (by subst hi6; rfl) ?_
        refine x_aload_n 48 rfl rfl ?_
        refine x_aload_n 49 rfl rfl ?_
        refine x_getI 50 (z := i6 c2 5) rfl fl_X0_45 (isC_0 hc2) (kC hc2) rfl rfl ?_
        obtain ⟨i7, hi7⟩ : ∃ f, f = mU i6 c 5 (i6 c2 5) := ⟨_, rfl⟩
        refine x_putI 51 rfl fl_X0_45 (isC_0 hc) (kC hc) rfl rfl (g' := st nn i7 ll) (by subst hi7; rfl) ?_
        refine x_aload_n 52 rfl rfl ?_
        refine x_aload_n 53 rfl rfl ?_
        refine x_getI 54 (z := i7 c2 6) rfl fl_X0_48 (isC_0 hc2) (kC hc2) rfl rfl ?_
        obtain ⟨i8, hi8⟩ : ∃ f, f = mU i7 c 6 (i7 c2 6) := ⟨_, rfl⟩
        refine x_putI 55 rfl fl_X0_48 (isC_0 hc) (kC hc) rfl rfl (g' := st nn i8 ll) (by subst hi8; rfl) ?_
        refine x_aload_n 56 rfl rfl ?_
        refine x_aload_n 57 rfl rfl ?_
        refine x_getI 58 (z := i8 c2 7) rfl fl_X0_51 (isC_0 hc2) (kC hc2) rfl rfl ?_
        obtain ⟨i9, hi9⟩ : ∃ f, f = mU i8 c 7 (i8 c2 7) := ⟨_, rfl⟩
        refine x_putI 59 rfl fl_X0_51 (isC_0 hc) (kC hc) rfl rfl (g' := st nn i9 ll) (by subst hi9; rfl) ?_
        refine x_ret 60 none rfl ⟨rfl, rfl⟩ ⟨rfl, i9, ll, rfl, ?_⟩
        have e6 : ∀ a b, i6 a b = if a = c ∧ b = 4 then i c2 4 else i5 a b := by intro a b; simp only [hi6, mU, e0]
        have e60 : ∀ b, i6 c2 b = i c2 b := by intro b; rw [e6, if_neg (by omega), e0]
        have e7 : ∀ a b, i7 a b = if a = c ∧ b = 5 then i c2 5 else i6 a b := by intro a b; simp only [hi7, mU, e60]
        have e70 : ∀ b, i7 c2 b = i c2 b := by intro b; rw [e7, if_neg (by omega), e60]
        have e8 : ∀ a b, i8 a b = if a = c ∧ b = 6 then i c2 6 else i7 a b := by intro a b; simp only [hi8, mU, e70]
        have e80 : ∀ b, i8 c2 b = i c2 b := by intro b; rw [e8, if_neg (by omega), e70]
        refine ⟨fun a b => ?_, hB⟩
        simp only [hi9, mU, e80, e8, e7, e6, e5, e4, e3, hA]
      · refine x_aload_n 6 rfl rfl ?_
        refine x_getR 7 (z := (c + 1)) rfl fl_X0_11 (isC_0 hc) (kC hc) rfl (rC0 hc) ?_
        refine x_iload_n 8 rfl rfl ?_
        refine x_aald 9 (t := 3) (z := (c + 2 + (x).toNat)) rfl (isC_S hc) (kCS hc) (by omega) ⟨rfl, rfl⟩ (rCs hc (by omega)) ?_
        have h7 : ii (c2 + 2 + x.toNat) 7 = 0 ∨ ii (c2 + 2 + x.toNat) 7 = 1 := by rw [hA, if_neg (by omega)]; have := hO2.s hx.1 (show x < i c2 4 by omega); omega
        refine x_aload_n 10 rfl rfl ?_
        refine x_getR 11 (z := (c2 + 1)) rfl fl_X0_11 (isC_0 hc2) (kC hc2) rfl (rC0 hc2) ?_
        refine x_iload_n 12 rfl rfl ?_
        refine x_aald 13 (t := 3) (z := (c2 + 2 + (x).toNat)) rfl (isC_S hc2) (kCS hc2) (by omega) ⟨rfl, rfl⟩ (rCs hc2 (by omega)) ?_
        refine x_callV 14 m_X5_copyFrom (c_s_copyFrom (isS.of hc (show (x).toNat < 10 by omega)) (isS.of hc2 (show (x).toNat < 10 by omega)) (by omega)) rfl ok_X5_copyFrom (isS_lt (isS.of hc (show (x).toNat < 10 by omega))) (kS (isS.of hc (show (x).toNat < 10 by omega))) rfl rfl ml_X0_35 im_X5_copyFrom se_X5_copyFrom rfl (by decide) rfl (Nat.le_of_ble_eq_true rfl) rfl rfl (fun v g q10 => ?_)
        obtain ⟨rfl, i11, li11, rfl, hi11⟩ := q10
        show mX m_X0_copyFrom 2 _ 0 0 _ _ [] _
        have hm := hi11
        refine x_iinc 15 (L' := [some (vR (some c)), some (vR (some c2)), some (vI (x + 1))]) rfl (by decide) rfl rfl rfl rfl ?_
        refine x_goto 16 (tgt := 2) rfl (by decide) ?_
        exact ihL1 i11 li11 (x + 1) (by omega) (cp_stepI hap hx.1 (by omega) hm.1 hA) (cp_stepL hap hx.1 (by omega) hm.2 hB) (by omega)
  exact loopL1 ((i c2 4 - ((0))) + 1 : Int).toNat i l (0) (by omega) (by intro a b; rw [if_neg (by omega)]) (by intro a b; rw [if_neg (by omega)]) (by omega)
set_option maxRecDepth 20000 in
set_option maxHeartbeats 2000000 in
theorem c_dismiss {i : Nat → Int → Int} {l : Nat → Int → BitVec 64} {c : Nat} (hc : isC bb c) (hO : okC i c) {y : Int} (hy : 0 ≤ y ∧ y < i c 4) : mCtr m_X0_dismiss 2 0 0 [vR (some c), vI (y)] (st nn i l) (qV nn (fun i' l' => (∀ a b, i' a b = if a = c ∧ b = 4 then i c 4 - 1 else if c + 2 + y ≤ (a : Int) ∧ (a : Int) < c + 2 + (i c 4 - 1) ∧ (b = 0 ∨ b = 1 ∨ (4 ≤ b ∧ b ≤ 10)) then i (a + 1) b else i a b) ∧ ∀ a b, l' a b = if c + 2 + y ≤ (a : Int) ∧ (a : Int) < c + 2 + (i c 4 - 1) ∧ (b = 2 ∨ b = 3) then l (a + 1) b else l a b)) := by
  refine mCtr_of pl_X0 dc_X0_dismiss (Nat.le_of_ble_eq_true rfl) rfl ?_
  show mX m_X0_dismiss 2 _ 0 0 0 [some (vR (some c)), some (vI (y)), none] [] (st nn i l)
  have hN := hO.n
  refine x_iload_n 0 rfl rfl ?_
  refine x_istore_n 1 (L' := [some (vR (some c)), some (vI (y)), some (vI (y))]) rfl (by decide) rfl rfl ?_
  have loopL1 : ∀ (nz : Nat) (ii : Nat → Int → Int) (ll : Nat → Int → BitVec 64) (x : Int), (y ≤ x ∧ x + 1 ≤ i c 4) → (∀ a b, ii a b = if c + 2 + y ≤ (a : Int) ∧ (a : Int) < c + 2 + x ∧ (b = 0 ∨ b = 1 ∨ (4 ≤ b ∧ b ≤ 10)) then i (a + 1) b else i a b) → (∀ a b, ll a b = if c + 2 + y ≤ (a : Int) ∧ (a : Int) < c + 2 + x ∧ (b = 2 ∨ b = 3) then l (a + 1) b else l a b) → (i c 4 - x) < (nz : Int) → mX m_X0_dismiss 2 (qV nn (fun i' l' => (∀ a b, i' a b = if a = c ∧ b = 4 then i c 4 - 1 else if c + 2 + y ≤ (a : Int) ∧ (a : Int) < c + 2 + (i c 4 - 1) ∧ (b = 0 ∨ b = 1 ∨ (4 ≤ b ∧ b ≤ 10)) then i (a + 1) b else i a b) ∧ ∀ a b, l' a b = if c + 2 + y ≤ (a : Int) ∧ (a : Int) < c + 2 + (i c 4 - 1) ∧ (b = 2 ∨ b = 3) then l (a + 1) b else l a b)) 0 0 2 [some (vR (some c)), some (vI (y)), some (vI (x))] [] (st nn ii ll) := by
    intro nz
    induction nz with
    | zero => intro ii ll x hx hA hB hz; exact absurd hz (by omega)
    | succ nz ihL1 =>
      intro ii ll x hx hA hB hzL1
      have hc4 : ii c 4 = i c 4 := by rw [hA, if_neg (by omega)]
      refine x_iload_n 2 rfl rfl ?_
      refine x_iconst 3 rfl ?_
      refine x_iadd 4 (r := x + 1) rfl rfl ?_
      refine x_aload_n 5 rfl rfl ?_
      refine x_getI 6 (z := ii c 4) rfl fl_X0_31 (isC_0 hc) (kC hc) rfl rfl ?_
      refine x_icmp_ge 7 (tgt := 35) rfl (by decide) (by omega) (fun h2 => ?_) (fun h2 => ?_)
      · have hxe : x = i c 4 - 1 := by omega
        subst hxe
        refine x_aload_n 21 rfl rfl ?_
        refine x_dup 22 rfl rfl ?_
        refine x_getI 23 (z := ii c 4) rfl fl_X0_31 (isC_0 hc) (kC hc) rfl rfl ?_
        refine x_iconst 24 rfl ?_
        refine x_isub 25 (r := (ii c 4) - 1) rfl rfl ?_
        obtain ⟨i3, hi3⟩ : ∃ f, f = mU ii c 4 ((ii c 4) - 1) := ⟨_, rfl⟩
        refine x_putI 26 rfl fl_X0_31 (isC_0 hc) (kC hc) rfl rfl (g' := st nn i3 ll) (by subst hi3; rfl) ?_
        refine x_ret 27 none rfl ⟨rfl, rfl⟩ ⟨rfl, i3, ll, rfl, ?_⟩
        refine ⟨fun a b => ?_, hB⟩
        simp only [hi3, mU, hc4, hA]
      · refine x_aload_n 8 rfl rfl ?_
        refine x_getR 9 (z := (c + 1)) rfl fl_X0_11 (isC_0 hc) (kC hc) rfl (rC0 hc) ?_
        have h7 : ii (c + 2 + (x + 1).toNat) 7 = 0 ∨ ii (c + 2 + (x + 1).toNat) 7 = 1 := by rw [hA, if_neg (by omega)]; have := hO.s (show 0 ≤ x + 1 by omega) (show x + 1 < i c 4 by omega); omega
        refine x_iload_n 10 rfl rfl ?_
        refine x_aald 11 (t := 3) (z := (c + 2 + (x).toNat)) rfl (isC_S hc) (kCS hc) (by omega) ⟨rfl, rfl⟩ (rCs hc (by omega)) ?_
        refine x_aload_n 12 rfl rfl ?_
        refine x_getR 13 (z := (c + 1)) rfl fl_X0_11 (isC_0 hc) (kC hc) rfl (rC0 hc) ?_
        refine x_iload_n 14 rfl rfl ?_
        refine x_iconst 15 rfl ?_
        refine x_iadd 16 (r := x + 1) rfl rfl ?_
        refine x_aald 17 (t := 3) (z := (c + 2 + (x + 1).toNat)) rfl (isC_S hc) (kCS hc) (by omega) ⟨rfl, rfl⟩ (rCs hc (by omega)) ?_
        refine x_callV 18 m_X5_copyFrom (c_s_copyFrom (isS.of hc (show (x).toNat < 10 by omega)) (isS.of hc (show (x + 1).toNat < 10 by omega)) (by omega)) rfl ok_X5_copyFrom (isS_lt (isS.of hc (show (x).toNat < 10 by omega))) (kS (isS.of hc (show (x).toNat < 10 by omega))) rfl rfl ml_X0_35 im_X5_copyFrom se_X5_copyFrom rfl (by decide) rfl (Nat.le_of_ble_eq_true rfl) rfl rfl (fun v g q4 => ?_)
        obtain ⟨rfl, i5, li5, rfl, hi5⟩ := q4
        show mX m_X0_dismiss 2 _ 0 0 _ _ [] _
        have hm := hi5
        refine x_iinc 19 (L' := [some (vR (some c)), some (vI (y)), some (vI (x + 1))]) rfl (by decide) rfl rfl rfl rfl ?_
        refine x_goto 20 (tgt := 2) rfl (by decide) ?_
        exact ihL1 i5 li5 (x + 1) (by omega) (dm_stepI hy.1 hx.1 hm.1 hA) (dm_stepL hy.1 hx.1 hm.2 hB) (by omega)
  exact loopL1 ((i c 4 - ((y))) + 1 : Int).toNat i l (y) (by omega) (by intro a b; rw [if_neg (by omega)]) (by intro a b; rw [if_neg (by omega)]) (by omega)
set_option maxRecDepth 20000 in
set_option maxHeartbeats 2000000 in
theorem c_join {i : Nat → Int → Int} {l : Nat → Int → BitVec 64} {c : Nat} (hc : isC bb c) (hn : 0 ≤ i c 4 ∧ i c 4 < 10) {s h : Int} : mCtr m_X0_join 4 0 0 [vR (some c), vI (s), vI (h)] (st nn i l) (qV nn (fun i' l' => (∀ a b, i' a b = if a = c ∧ b = 4 then i c 4 + 1 else if a = c + 2 + (i c 4).toNat then (if b = 0 then s else if b = 1 then h else if b = 4 ∨ b = 5 ∨ b = 8 ∨ b = 10 then 0 else if b = 6 ∨ b = 9 then -9 else if b = 7 then 1 else i a b) else i a b) ∧ ∀ a b, l' a b = if a = c + 2 + (i c 4).toNat ∧ (b = 2 ∨ b = 3) then 0#64 else l a b)) := by
  refine mCtr_of pl_X0 dc_X0_join (Nat.le_of_ble_eq_true rfl) rfl ?_
  show mX m_X0_join 4 _ 0 0 0 [some (vR (some c)), some (vI (s)), some (vI (h))] [] (st nn i l)
  refine x_aload_n 0 rfl rfl ?_
  refine x_getR 1 (z := (c + 1)) rfl fl_X0_11 (isC_0 hc) (kC hc) rfl (rC0 hc) ?_
  refine x_aload_n 2 rfl rfl ?_
  refine x_getI 3 (z := i c 4) rfl fl_X0_31 (isC_0 hc) (kC hc) rfl rfl ?_
  refine x_aald 4 (t := 3) (z := (c + 2 + (i c 4).toNat)) rfl (isC_S hc) (kCS hc) (by omega) ⟨rfl, rfl⟩ (rCs hc (by omega)) ?_
  refine x_iload_n 5 rfl rfl ?_
  refine x_iload_n 6 rfl rfl ?_
  refine x_callV 7 m_X5_begin (c_begin (isS.of hc (show (i c 4).toNat < 10 by omega))) rfl ok_X5_begin (isS_lt (isS.of hc (show (i c 4).toNat < 10 by omega))) (kS (isS.of hc (show (i c 4).toNat < 10 by omega))) rfl rfl ml_X0_54 im_X5_begin se_X5_begin rfl (by decide) rfl (Nat.le_of_ble_eq_true rfl) rfl rfl (fun v g q1 => ?_)
  obtain ⟨rfl, i2, li2, rfl, hi2⟩ := q1
  show mX m_X0_join 4 _ 0 0 _ _ [] _
  have hm := hi2
  have hc4 : i2 c 4 = i c 4 := by rw [hm.1, if_neg (by omega)]
  refine x_aload_n 8 rfl rfl ?_
  refine x_dup 9 rfl rfl ?_
  refine x_getI 10 (z := i2 c 4) rfl fl_X0_31 (isC_0 hc) (kC hc) rfl rfl ?_
  refine x_iconst 11 rfl ?_
  refine x_iadd 12 (r := (i2 c 4) + 1) rfl rfl ?_
  obtain ⟨i3, hi3⟩ : ∃ f, f = mU i2 c 4 ((i2 c 4) + 1) := ⟨_, rfl⟩
  refine x_putI 13 rfl fl_X0_31 (isC_0 hc) (kC hc) rfl rfl (g' := st nn i3 li2) (by subst hi3; rfl) ?_
  refine x_ret 14 none rfl ⟨rfl, rfl⟩ ⟨rfl, i3, li2, rfl, ?_⟩
  refine ⟨fun a b => ?_, hm.2⟩
  simp only [hi3, mU, hc4, hm.1]
set_option maxRecDepth 20000 in
set_option maxHeartbeats 2000000 in
theorem c_record {i : Nat → Int → Int} {l : Nat → Int → BitVec 64} (hO : okC i (ob bb + 1)) (hh : 0 ≤ i (ob bb + 16) 1 ∧ i (ob bb + 16) 1 < 8 ∧ 0 ≤ i (ob bb + 16) 2 ∧ i (ob bb + 16) 2 ≤ 8) : mCtr m_X1_record 3 0 0 [vR (some (ob bb + 16)), vR (some (ob bb + 1))] (st nn i l) (qV nn (fun i' l' => ∃ i1, cpC i l i1 l' (ob bb + 18 + 15 * ((i (ob bb + 16) 1 + i (ob bb + 16) 2) % 8).toNat) (ob bb + 1) ∧ ∀ a b, i' a b = if a = (ob bb + 16) ∧ b = 2 then (if i (ob bb + 16) 2 < 8 then i (ob bb + 16) 2 + 1 else i (ob bb + 16) 2) else if a = (ob bb + 16) ∧ b = 1 then (if i (ob bb + 16) 2 < 8 then i (ob bb + 16) 1 else (i (ob bb + 16) 1 + 1) % 8) else i1 a b)) := by
  refine mCtr_of pl_X1 dc_X1_record (Nat.le_of_ble_eq_true rfl) rfl ?_
  show mX m_X1_record 3 _ 0 0 0 [some (vR (some (ob bb + 16))), some (vR (some (ob bb + 1)))] [] (st nn i l)
  refine x_aload_n 0 rfl rfl ?_
  refine x_getR 1 (z := (ob bb + 17)) rfl fl_X1_11 (b_lt rfl) k_16 rfl r_16_0 ?_
  refine x_aload_n 2 rfl rfl ?_
  refine x_getI 3 (z := i (ob bb + 16) 1) rfl fl_X1_18 (b_lt rfl) k_16 rfl rfl ?_
  refine x_aload_n 4 rfl rfl ?_
  refine x_getI 5 (z := i (ob bb + 16) 2) rfl fl_X1_22 (b_lt rfl) k_16 rfl rfl ?_
  refine x_iadd 6 (r := (i (ob bb + 16) 1) + (i (ob bb + 16) 2)) rfl rfl ?_
  refine x_bipush 7 rfl (by decide) ?_
  refine x_irem 8 (r := ((i (ob bb + 16) 1) + (i (ob bb + 16) 2)) % 8) rfl (by omega) rfl ?_
  refine x_aald 9 (t := 4) (z := (ob bb + 18 + 15 * (((i (ob bb + 16) 1) + (i (ob bb + 16) 2)) % 8).toNat)) rfl (b_lt rfl) k_17 (by omega) ⟨rfl, rfl⟩ (rH (by omega)) ?_
  refine x_aload_n 10 rfl rfl ?_
  refine x_callV 11 m_X0_copyFrom (c_copyFrom (isC_h (by omega)) isC_1 (by omega) hO) rfl ok_X0_copyFrom (isC_0 (isC_h (by omega))) (kC (isC_h (by omega))) rfl rfl ml_X1_25 im_X0_copyFrom se_X0_copyFrom rfl (by decide) rfl (Nat.le_of_ble_eq_true rfl) rfl rfl (fun v g q1 => ?_)
  obtain ⟨rfl, i2, li2, rfl, hi2⟩ := q1
  show mX m_X1_record 3 _ 0 0 _ _ [] _
  have hm := hi2
  have hT : ob bb + 18 ≤ (ob bb + 18 + 15 * ((i (ob bb + 16) 1 + i (ob bb + 16) 2) % 8).toNat) ∧ (ob bb + 18 + 15 * ((i (ob bb + 16) 1 + i (ob bb + 16) 2) % 8).toNat) ≤ (ob bb + 123) := by omega
  have h162 : ∀ b, i2 (ob bb + 16) b = i (ob bb + 16) b := by intro b; rw [hm.1]; simp only [show ¬ ((ob bb + 16) = (ob bb + 18 + 15 * ((i (ob bb + 16) 1 + i (ob bb + 16) 2) % 8).toNat)) by omega, show ¬ ((ob bb + 16) = (ob bb + 18 + 15 * ((i (ob bb + 16) 1 + i (ob bb + 16) 2) % 8).toNat) + 14) by omega, show ¬ ((ob bb + 16) = (ob bb + 18 + 15 * ((i (ob bb + 16) 1 + i (ob bb + 16) 2) % 8).toNat) + 13) by omega, show ¬ ((ob bb + 16) = (ob bb + 18 + 15 * ((i (ob bb + 16) 1 + i (ob bb + 16) 2) % 8).toNat) + 12) by omega, show ¬ ((ob bb + 18 + 15 * ((i (ob bb + 16) 1 + i (ob bb + 16) 2) % 8).toNat) + 2 ≤ (ob bb + 16)) by omega, false_and, if_false]
  have h1621 := h162 1
  have h1622 := h162 2
  refine x_aload_n 12 rfl rfl ?_
  refine x_getI 13 (z := i2 (ob bb + 16) 2) rfl fl_X1_22 (b_lt rfl) k_16 rfl rfl ?_
  refine x_bipush 14 rfl (by decide) ?_
  refine x_icmp_ge 15 (tgt := 43) rfl (by decide) (by omega) (fun h3 => ?_) (fun h3 => ?_)
  · refine x_aload_n 23 rfl rfl ?_
    refine x_aload_n 24 rfl rfl ?_
    refine x_getI 25 (z := i2 (ob bb + 16) 1) rfl fl_X1_18 (b_lt rfl) k_16 rfl rfl ?_
    refine x_iconst 26 rfl ?_
    refine x_iadd 27 (r := (i2 (ob bb + 16) 1) + 1) rfl rfl ?_
    refine x_bipush 28 rfl (by decide) ?_
    refine x_irem 29 (r := ((i2 (ob bb + 16) 1) + 1) % 8) rfl (by omega) rfl ?_
    obtain ⟨i4, hi4⟩ : ∃ f, f = mU i2 (ob bb + 16) 1 (((i2 (ob bb + 16) 1) + 1) % 8) := ⟨_, rfl⟩
    refine x_putI 30 rfl fl_X1_18 (b_lt rfl) k_16 rfl rfl (g' := st nn i4 li2) (by subst hi4; rfl) ?_
    refine x_ret 31 none rfl ⟨rfl, rfl⟩ ⟨rfl, i4, li2, rfl, ?_⟩
    refine ⟨_, hm, fun a b => ?_⟩
    simp only [hi4, mU, h162]
    grind
  · refine x_aload_n 16 rfl rfl ?_
    refine x_dup 17 rfl rfl ?_
    refine x_getI 18 (z := i2 (ob bb + 16) 2) rfl fl_X1_22 (b_lt rfl) k_16 rfl rfl ?_
    refine x_iconst 19 rfl ?_
    refine x_iadd 20 (r := (i2 (ob bb + 16) 2) + 1) rfl rfl ?_
    obtain ⟨i5, hi5⟩ : ∃ f, f = mU i2 (ob bb + 16) 2 ((i2 (ob bb + 16) 2) + 1) := ⟨_, rfl⟩
    refine x_putI 21 rfl fl_X1_22 (b_lt rfl) k_16 rfl rfl (g' := st nn i5 li2) (by subst hi5; rfl) ?_
    refine x_goto 22 (tgt := 56) rfl (by decide) ?_
    refine x_ret 31 none rfl ⟨rfl, rfl⟩ ⟨rfl, i5, li2, rfl, ?_⟩
    refine ⟨_, hm, fun a b => ?_⟩
    simp only [hi5, mU, h162]
    grind
set_option maxRecDepth 20000 in
set_option maxHeartbeats 2000000 in
theorem c_restore {i : Nat → Int → Int} {l : Nat → Int → BitVec 64} (hh : 0 ≤ i (ob bb + 16) 1 ∧ i (ob bb + 16) 1 < 8 ∧ 1 ≤ i (ob bb + 16) 2 ∧ i (ob bb + 16) 2 ≤ 8) (hT : okC i (ob bb + 18 + 15 * ((i (ob bb + 16) 1 + (i (ob bb + 16) 2 - 1)) % 8).toNat)) : mCtr m_X1_restore 3 0 0 [vR (some (ob bb + 16)), vR (some (ob bb + 1))] (st nn i l) (qV nn (fun i' l' => cpC (mU i (ob bb + 16) 2 (i (ob bb + 16) 2 - 1)) l i' l' (ob bb + 1) (ob bb + 18 + 15 * ((i (ob bb + 16) 1 + (i (ob bb + 16) 2 - 1)) % 8).toNat))) := by
  refine mCtr_of pl_X1 dc_X1_restore (Nat.le_of_ble_eq_true rfl) rfl ?_
  show mX m_X1_restore 3 _ 0 0 0 [some (vR (some (ob bb + 16))), some (vR (some (ob bb + 1)))] [] (st nn i l)
  refine x_aload_n 0 rfl rfl ?_
  refine x_dup 1 rfl rfl ?_
  refine x_getI 2 (z := i (ob bb + 16) 2) rfl fl_X1_22 (b_lt rfl) k_16 rfl rfl ?_
  refine x_iconst 3 rfl ?_
  refine x_isub 4 (r := (i (ob bb + 16) 2) - 1) rfl rfl ?_
  obtain ⟨i1, hi1⟩ : ∃ f, f = mU i (ob bb + 16) 2 ((i (ob bb + 16) 2) - 1) := ⟨_, rfl⟩
  refine x_putI 5 rfl fl_X1_22 (b_lt rfl) k_16 rfl rfl (g' := st nn i1 l) (by subst hi1; rfl) ?_
  have e1 : i1 (ob bb + 16) 1 = i (ob bb + 16) 1 := by simp [hi1, mU]
  have e2 : i1 (ob bb + 16) 2 = i (ob bb + 16) 2 - 1 := by simp [hi1, mU]
  have hO2 : okC i1 (ob bb + 18 + 15 * ((i1 (ob bb + 16) 1 + i1 (ob bb + 16) 2) % 8).toNat) := by
    rw [e1, e2]; refine hT.congr (fun a b h1 h2 => ?_); simp only [hi1, mU]; rw [if_neg (by omega)]
  refine x_aload_n 6 rfl rfl ?_
  refine x_aload_n 7 rfl rfl ?_
  refine x_getR 8 (z := (ob bb + 17)) rfl fl_X1_11 (b_lt rfl) k_16 rfl r_16_0 ?_
  refine x_aload_n 9 rfl rfl ?_
  refine x_getI 10 (z := i1 (ob bb + 16) 1) rfl fl_X1_18 (b_lt rfl) k_16 rfl rfl ?_
  refine x_aload_n 11 rfl rfl ?_
  refine x_getI 12 (z := i1 (ob bb + 16) 2) rfl fl_X1_22 (b_lt rfl) k_16 rfl rfl ?_
  refine x_iadd 13 (r := (i1 (ob bb + 16) 1) + (i1 (ob bb + 16) 2)) rfl rfl ?_
  refine x_bipush 14 rfl (by decide) ?_
  refine x_irem 15 (r := ((i1 (ob bb + 16) 1) + (i1 (ob bb + 16) 2)) % 8) rfl (by omega) rfl ?_
  refine x_aald 16 (t := 4) (z := (ob bb + 18 + 15 * (((i1 (ob bb + 16) 1) + (i1 (ob bb + 16) 2)) % 8).toNat)) rfl (b_lt rfl) k_17 (by omega) ⟨rfl, rfl⟩ (rH (by omega)) ?_
  refine x_callV 17 m_X0_copyFrom (c_copyFrom isC_1 (isC_h (by omega)) (by omega) hO2) rfl ok_X0_copyFrom (isC_0 isC_1) (kC isC_1) rfl rfl ml_X1_25 im_X0_copyFrom se_X0_copyFrom rfl (by decide) rfl (Nat.le_of_ble_eq_true rfl) rfl rfl (fun v g q2 => ?_)
  obtain ⟨rfl, i3, li3, rfl, hi3⟩ := q2
  show mX m_X1_restore 3 _ 0 0 _ _ [] _
  have hm := hi3
  refine x_ret 18 none rfl ⟨rfl, rfl⟩ ⟨rfl, i3, li3, rfl, ?_⟩
  rw [e1, e2] at hm
  rw [hi1] at hm
  exact hm
