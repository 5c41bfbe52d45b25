variable {nn : Nat} {bb : Bool}
/-! placing: weighing -/
def vsN (i : Nat → Int → Int) (c : Nat) (y : Int) : Nat → List vO
  | 0 => []
  | n + 1 => if (n : Int) ≠ y ∧ fFits i c n ≠ 0 then ((n : Int), i (c + 2 + n) 0, fFits i c n) :: vsN i c y n else vsN i c y n
/-- the voices: the singers whom a part fits, without y, the last one first -/
def vsZ (i : Nat → Int → Int) (c : Nat) (y x : Int) : List vO := vsN i c y x.toNat
theorem vsZ_0 (i : Nat → Int → Int) (c : Nat) (y : Int) : vsZ i c y 0 = [] := rfl
theorem vsZ_y {i : Nat → Int → Int} {c : Nat} {y x : Int} (h : 0 ≤ x) (h1 : x ≠ y) (h2 : fFits i c x ≠ 0) : vsZ i c y (x + 1) = (x, i (c + 2 + x.toNat) 0, fFits i c x) :: vsZ i c y x := by
  unfold vsZ
  rw [show (x + 1).toNat = x.toNat + 1 by omega]
  have e : ((x.toNat : Nat) : Int) = x := Int.toNat_of_nonneg h
  show (if ((x.toNat : Nat) : Int) ≠ y ∧ fFits i c ((x.toNat : Nat) : Int) ≠ 0 then (((x.toNat : Nat) : Int), i (c + 2 + x.toNat) 0, fFits i c ((x.toNat : Nat) : Int)) :: _ else _) = _
  rw [e, if_pos ⟨h1, h2⟩]
theorem vsZ_n {i : Nat → Int → Int} {c : Nat} {y x : Int} (h : 0 ≤ x) (h1 : x = y ∨ fFits i c x = 0) : vsZ i c y (x + 1) = vsZ i c y x := by
  unfold vsZ
  rw [show (x + 1).toNat = x.toNat + 1 by omega]
  have e : ((x.toNat : Nat) : Int) = x := Int.toNat_of_nonneg h
  show (if ((x.toNat : Nat) : Int) ≠ y ∧ fFits i c ((x.toNat : Nat) : Int) ≠ 0 then _ else _) = _
  rw [e, if_neg (by rintro ⟨a, b⟩; rcases h1 with h1 | h1 <;> contradiction)]
theorem vsZ_len (i : Nat → Int → Int) (c : Nat) (y : Int) {x : Int} (h : 0 ≤ x) : ((vsZ i c y x).length : Int) ≤ x := by
  have key : ∀ n : Nat, (vsN i c y n).length ≤ n := by
    intro n
    induction n with
    | zero => exact Nat.le_refl _
    | succ n ih =>
      unfold vsN
      split
      · rw [List.length_cons]; omega
      · omega
  have := key x.toNat
  unfold vsZ
  omega
theorem fFits_bd (i : Nat → Int → Int) (c : Nat) (x : Int) : 0 ≤ fFits i c x ∧ fFits i c x ≤ 15 := by
  unfold fFits orZ
  have := orN_lt (fun p => decide (i (c + 12) 0 ≤ fIn i (c + 2 + x.toNat) p)) 4
  have e : (4 : Int).toNat = 4 := rfl
  rw [e]
  omega
theorem fFits_congr {i i' : Nat → Int → Int} {c : Nat} {x : Int} (hx : 0 ≤ x ∧ x < 10) (he : ∀ a b, c ≤ a → a < c + 15 → i' a b = i a b) : fFits i' c x = fFits i c x := by
  unfold fFits fIn
  simp only [he (c + 2 + x.toNat) _ (by omega) (by omega), he (c + 12) _ (by omega) (by omega)]
/-- how the placing's rows begin, and stay -/
def PZ (bb : Bool) (i : Nat → Int → Int) (l : Nat → Int → BitVec 64) : Prop := i (ob bb + 184) 0 = 0 ∧ l (ob bb + 179) 0 = 1#64 ∧ l (ob bb + 180) 0 = 0#64 ∧ l (ob bb + 182) 0 = 1#64 ∧ l (ob bb + 183) 0 = 0#64
theorem PL_nil {i : Nat → Int → Int} {l : Nat → Int → BitVec 64} (h : PZ bb i l) (h7 : i (ob bb + 177) 7 = 0) : PL bb i l [] := by
  obtain ⟨h1, h2, h3, h4, h5⟩ := h
  have hs : ∀ s : Int, 0 ≤ s → s < 2 ^ ([] : List vO).length → s = 0 := by intro s h0 h1; simp at h1; omega
  have hone : ∀ k : Nat, (1#64).getLsbD k = decide (k = 0) := by
    intro k
    have : (1#64 : BitVec 64) = BitVec.ofNat 64 1 := rfl
    rw [BitVec.getLsbD_ofNat]
    by_cases hk : k = 0
    · subst hk; decide
    · have : Nat.testBit 1 k = false := Bool.eq_false_iff.mpr (fun h => hk (Nat.testBit_one_eq_true_iff_self_eq_zero.mp h))
      simp [this, hk]
  refine ⟨by simp [h7], by decide, by simp, fun k h0 hk => absurd hk (by simp; omega), fun s h0 hs1 => ?_, fun s t h0 hs1 ht0 ht1 => ?_⟩
  · rw [hs s h0 hs1, h1]; rfl
  · rw [hs s h0 hs1]
    unfold spB rch
    by_cases ht : t < 64
    · simp only [if_pos ht, h2, h4, hone, decide_eq_true_eq]
      constructor <;> constructor <;> intro <;> omega
    · simp only [if_neg ht, h3, h5]
      simp
      omega
theorem PZ_add {i i' : Nat → Int → Int} {l l' : Nat → Int → BitVec 64} {k g m : Int} (h : PZ bb i l) (h7 : 0 ≤ i (ob bb + 177) 7 ∧ i (ob bb + 177) 7 ≤ 9) (hi : adI bb i i' k g m) (hl : adL bb l l' (i (ob bb + 177) 7) g m) : PZ bb i' l' := by
  obtain ⟨h1, h2, h3, h4, h5⟩ := h
  obtain ⟨l1, hA, hB⟩ := hl
  have hp := pow9 h7
  refine ⟨?_, ?_, ?_, ?_, ?_⟩
  · rw [hi, if_neg (by omega), if_neg (by omega), if_neg (by omega), if_neg (by omega), if_neg (by omega)]; exact h1
  · rw [hB, if_neg (by omega), if_neg (by omega), hA, if_neg (by omega), if_neg (by omega)]; exact h2
  · rw [hB, if_neg (by omega), if_neg (by omega), hA, if_neg (by omega), if_neg (by omega)]; exact h3
  · rw [hB, if_neg (by omega), if_neg (by omega), hA, if_neg (by omega), if_neg (by omega)]; exact h4
  · rw [hB, if_neg (by omega), if_neg (by omega), hA, if_neg (by omega), if_neg (by omega)]; exact h5
theorem adL_else {l l' : Nat → Int → BitVec 64} {V g m : Int} (h : adL bb l l' V g m) : ∀ a b, a ≠ (ob bb + 179) → a ≠ (ob bb + 180) → a ≠ (ob bb + 182) → a ≠ (ob bb + 183) → l' a b = l a b := by
  intro a b h1 h2 h3 h4
  obtain ⟨l1, hA, hB⟩ := h
  rw [hB, if_neg (by omega), if_neg (by omega), hA, if_neg (by omega), if_neg (by omega)]
theorem PL_w8 {i i' : Nat → Int → Int} {l : Nat → Int → BitVec 64} {r : List vO} (h : PL bb i l r) (he : ∀ a b, ¬ (a = (ob bb + 177) ∧ (b = 8 ∨ b = 9)) → i' a b = i a b) : PL bb i' l r := by
  obtain ⟨h1, h2, h3, h4, h5, h6⟩ := h
  refine ⟨by rw [he _ _ (by omega)]; exact h1, h2, h3, fun k h0 hk => ?_, fun s h0 hs => ?_, h6⟩
  · rw [he _ _ (by omega), he _ _ (by omega), he _ _ (by omega)]; exact h4 k h0 hk
  · rw [he _ _ (by omega)]; exact h5 s h0 hs
noncomputable def wpN (r : List vO) : Nat → Int × Int
  | 0 => (-1, 0)
  | k + 1 => wpS r k (2 ^ r.length - 1 - k) (wpN r k)
/-- the best of the first x sets above -/
noncomputable def wpZ (r : List vO) (x : Int) : Int × Int := wpN r x.toNat
theorem wpZ_s (r : List vO) {x : Int} (h : 0 ≤ x) : wpZ r (x + 1) = wpS r x (2 ^ r.length - 1 - x) (wpZ r x) := by
  unfold wpZ
  rw [show (x + 1).toNat = x.toNat + 1 by omega]
  show wpS r (x.toNat : Nat) (2 ^ r.length - 1 - (x.toNat : Nat)) _ = _
  rw [Int.toNat_of_nonneg h]
theorem wpZ_bd {r : List vO} (h : ∀ v ∈ r, 1 ≤ v.2.1 ∧ v.2.1 ≤ 9) (hl : r.length ≤ 10) (x : Int) : -1 ≤ (wpZ r x).1 ∧ (wpZ r x).1 ≤ 100 ∧ 0 ≤ (wpZ r x).2 ∧ (wpZ r x).2 ≤ 100 := by
  have key : ∀ n : Nat, -1 ≤ (wpN r n).1 ∧ (wpN r n).1 ≤ 100 ∧ 0 ≤ (wpN r n).2 ∧ (wpN r n).2 ≤ 100 := by
    intro n
    induction n with
    | zero => show -1 ≤ (-1 : Int) ∧ (-1 : Int) ≤ 100 ∧ 0 ≤ (0 : Int) ∧ (0 : Int) ≤ 100; omega
    | succ n ih =>
      show -1 ≤ (wpS r n (2 ^ r.length - 1 - n) (wpN r n)).1 ∧ (wpS r n (2 ^ r.length - 1 - n) (wpN r n)).1 ≤ 100 ∧ 0 ≤ (wpS r n (2 ^ r.length - 1 - n) (wpN r n)).2 ∧ (wpS r n (2 ^ r.length - 1 - n) (wpN r n)).2 ≤ 100
      have b1 := sumS_bd h n
      have b2 := sumS_bd h (2 ^ r.length - 1 - n)
      have b3 := evP_bd (pa := 0) (pb := 1) h n
      have b4 := evP_bd (pa := 2) (pb := 3) h (2 ^ r.length - 1 - n)
      unfold wpS
      split
      · exact ih
      · split
        · simp only; omega
        · exact ih
  exact key _
theorem xor_all {n : Nat} {s : Int} (h0 : 0 ≤ s) (h1 : s ≤ 2 ^ n - 1) : (((2 ^ n - 1 : Int).toNat ^^^ s.toNat : Nat) : Int) = 2 ^ n - 1 - s := by
  have e : (2 : Int) ^ n = ((2 ^ n : Nat) : Int) := by simp
  have hp := Nat.two_pow_pos n
  have hs : s.toNat < 2 ^ n := by rw [e] at h1; omega
  rw [e, show (((2 ^ n : Nat) : Int) - 1).toNat = 2 ^ n - 1 by omega]
  have key : (2 ^ n - 1) ^^^ s.toNat = 2 ^ n - 1 - s.toNat := by
    apply Nat.eq_of_testBit_eq
    intro j
    rw [Nat.testBit_xor, show 2 ^ n - 1 - s.toNat = 2 ^ n - (s.toNat + 1) by omega, Nat.testBit_two_pow_sub_succ hs, Nat.testBit_two_pow_sub_one]
    by_cases hj : j < n
    · simp [hj]
    · have : s.toNat.testBit j = false := Nat.testBit_lt_two_pow (Nat.lt_of_lt_of_le hs (Nat.pow_le_pow_right (by decide) (by omega)))
      simp [hj, this]
  rw [key]
  omega
set_option maxRecDepth 20000 in
set_option maxHeartbeats 2000000 in
theorem c_weigh {i : Nat → Int → Int} {l : Nat → Int → BitVec 64} {c : Nat} (hc : isC bb c) (hO : okC i c) (hZ : PZ bb i l) {y : Int} (hy : -2147483648 ≤ y ∧ y < 2147483648) : mCtr m_X2_weigh 5 0 0 [vR (some (ob bb + 177)), vR (some c), vI (y)] (st nn i l) (qV nn (fun i' l' => PL bb i' l' (vsZ i c y (i c 4)) ∧ PZ bb i' l' ∧ (i' (ob bb + 177) 8, i' (ob bb + 177) 9) = wpZ (vsZ i c y (i c 4)) (2 ^ (vsZ i c y (i c 4)).length) ∧ (∀ a b, a ≠ (ob bb + 177) → a ≠ (ob bb + 184) → a ≠ (ob bb + 186) → a ≠ (ob bb + 187) → a ≠ (ob bb + 188) → i' a b = i a b) ∧ (∀ a b, a ≠ (ob bb + 179) → a ≠ (ob bb + 180) → a ≠ (ob bb + 182) → a ≠ (ob bb + 183) → l' a b = l a b))) := by
  refine mCtr_of pl_X2 dc_X2_weigh (Nat.le_of_ble_eq_true rfl) rfl ?_
  show mX m_X2_weigh 5 _ 0 0 0 [some (vR (some (ob bb + 177))), some (vR (some c)), some (vI (y)), none, none] [] (st nn i l)
  have hN := hO.n
  have hr := isC_r hc
  refine x_aload_n 0 rfl rfl ?_
  refine x_iconst 1 rfl ?_
  obtain ⟨i1, hi1⟩ : ∃ f, f = mU i (ob bb + 177) 7 (0) := ⟨_, rfl⟩
  refine x_putI 2 rfl fl_X2_37 (b_lt rfl) k_177 rfl rfl (g' := st nn i1 l) (by subst hi1; rfl) ?_
  refine x_iconst 3 rfl ?_
  refine x_istore_n 4 (L' := [some (vR (some (ob bb + 177))), some (vR (some c)), some (vI (y)), some (vI (0)), none]) rfl (by decide) rfl rfl ?_
  have loopL2 : ∀ (nz : Nat) (ii : Nat → Int → Int) (ll : Nat → Int → BitVec 64) (x : Int), (0 ≤ x ∧ x ≤ i c 4) → (PL bb ii ll (vsZ i c y x)) → (PZ bb ii ll) → (∀ a b, a ≠ (ob bb + 177) → a ≠ (ob bb + 184) → a ≠ (ob bb + 186) → a ≠ (ob bb + 187) → a ≠ (ob bb + 188) → ii a b = i a b) → (∀ a b, a ≠ (ob bb + 179) → a ≠ (ob bb + 180) → a ≠ (ob bb + 182) → a ≠ (ob bb + 183) → ll a b = l a b) → (i c 4 - x) < (nz : Int) → mX m_X2_weigh 5 (qV nn (fun i' l' => PL bb i' l' (vsZ i c y (i c 4)) ∧ PZ bb i' l' ∧ (i' (ob bb + 177) 8, i' (ob bb + 177) 9) = wpZ (vsZ i c y (i c 4)) (2 ^ (vsZ i c y (i c 4)).length) ∧ (∀ a b, a ≠ (ob bb + 177) → a ≠ (ob bb + 184) → a ≠ (ob bb + 186) → a ≠ (ob bb + 187) → a ≠ (ob bb + 188) → i' a b = i a b) ∧ (∀ a b, a ≠ (ob bb + 179) → a ≠ (ob bb + 180) → a ≠ (ob bb + 182) → a ≠ (ob bb + 183) → l' a b = l a b))) 0 0 7 [some (vR (some (ob bb + 177))), some (vR (some c)), some (vI (y)), some (vI (x)), none] [] (st nn ii ll) := by
    intro nz
    induction nz with
    | zero => intro ii ll x hx hP hZi hf hg hz; exact absurd hz (by omega)
    | succ nz ihL2 =>
      intro ii ll x hx hP hZi hf hg hzL2
      have hbl : ∀ a b, c ≤ a → a < c + 15 → ii a b = i a b := fun a b h1 h2 => hf a b (by omega) (by omega) (by omega) (by omega) (by omega)
      have hOw := hO.congr hbl
      have hNw := hOw.n
      have e4 := hbl c 4 (by omega) (by omega)
      refine x_iload_n 5 rfl rfl ?_
      refine x_aload_n 6 rfl rfl ?_
      refine x_getI 7 (z := ii c 4) rfl fl_X2_41 (isC_0 hc) (kC hc) rfl rfl ?_
      refine x_icmp_ge 8 (tgt := 54) rfl (by decide) (by omega) (fun h3 => ?_) (fun h3 => ?_)
      · obtain ⟨r, hr_⟩ : ∃ r, r = vsZ i c y (i c 4) := ⟨_, rfl⟩
        rw [show x = i c 4 by omega, ← hr_] at hP
        have hl10 := hP.2.1
        have hpw := pow10 hP.2.1
        have h177 := hP.1
        have he7 : 1 * 2 ^ (ii (ob bb + 177) 7).toNat = (2 : Int) ^ r.length := by rw [h177, Int.one_mul]; simp
        refine x_iconst 29 rfl ?_
        refine x_aload_n 30 rfl rfl ?_
        refine x_getI 31 (z := ii (ob bb + 177) 7) rfl fl_X2_37 (b_lt rfl) k_177 rfl rfl ?_
        refine x_ishl 32 (r := 1 * 2 ^ (ii (ob bb + 177) 7).toNat) rfl (by omega) rfl ?_
        refine x_iconst 33 rfl ?_
        refine x_isub 34 (r := (1 * 2 ^ (ii (ob bb + 177) 7).toNat) - 1) rfl rfl ?_
        refine x_eqS (S' := [vI (2 ^ r.length - 1)]) (by rw [he7]) ?_
        refine x_istore_n 35 (L' := [some (vR (some (ob bb + 177))), some (vR (some c)), some (vI (y)), some (vI (2 ^ r.length - 1)), none]) rfl (by decide) rfl rfl ?_
        refine x_aload_n 36 rfl rfl ?_
        refine x_iconst 37 rfl ?_
        obtain ⟨i4, hi4⟩ : ∃ f, f = mU ii (ob bb + 177) 8 ((-1)) := ⟨_, rfl⟩
        refine x_putI 38 rfl fl_X2_62 (b_lt rfl) k_177 rfl rfl (g' := st nn i4 ll) (by subst hi4; rfl) ?_
        refine x_aload_n 39 rfl rfl ?_
        refine x_iconst 40 rfl ?_
        obtain ⟨i5, hi5⟩ : ∃ f, f = mU i4 (ob bb + 177) 9 (0) := ⟨_, rfl⟩
        refine x_putI 41 rfl fl_X2_65 (b_lt rfl) k_177 rfl rfl (g' := st nn i5 ll) (by subst hi5; rfl) ?_
        refine x_iconst 42 rfl ?_
        refine x_istore 43 (L' := [some (vR (some (ob bb + 177))), some (vR (some c)), some (vI (y)), some (vI (2 ^ r.length - 1)), some (vI (0))]) rfl (by decide) rfl rfl ?_
        have loopL6 : ∀ (nz : Nat) (kk : Nat → Int → Int) (s : Int), (0 ≤ s ∧ s ≤ 2 ^ r.length) → ((kk (ob bb + 177) 8, kk (ob bb + 177) 9) = wpZ r s) → (∀ a b, ¬ (a = (ob bb + 177) ∧ (b = 8 ∨ b = 9)) → kk a b = ii a b) → (2 ^ r.length - s) < (nz : Int) → mX m_X2_weigh 5 (qV nn (fun i' l' => PL bb i' l' (vsZ i c y (i c 4)) ∧ PZ bb i' l' ∧ (i' (ob bb + 177) 8, i' (ob bb + 177) 9) = wpZ (vsZ i c y (i c 4)) (2 ^ (vsZ i c y (i c 4)).length) ∧ (∀ a b, a ≠ (ob bb + 177) → a ≠ (ob bb + 184) → a ≠ (ob bb + 186) → a ≠ (ob bb + 187) → a ≠ (ob bb + 188) → i' a b = i a b) ∧ (∀ a b, a ≠ (ob bb + 179) → a ≠ (ob bb + 180) → a ≠ (ob bb + 182) → a ≠ (ob bb + 183) → l' a b = l a b))) 0 0 76 [some (vR (some (ob bb + 177))), some (vR (some c)), some (vI (y)), some (vI (2 ^ r.length - 1)), some (vI (s))] [] (st nn kk ll) := by
          intro nz
          induction nz with
          | zero => intro kk s hs hW hk hz; exact absurd hz (by omega)
          | succ nz ihL6 =>
            intro kk s hs hW hk hzL6
            refine x_iload 44 rfl rfl ?_
            refine x_iload_n 45 rfl rfl ?_
            refine x_icmp_gt 46 (tgt := 98) rfl (by decide) (by omega) (fun h7 => ?_) (fun h7 => ?_)
            · refine x_ret 55 none rfl ⟨rfl, rfl⟩ ⟨rfl, kk, ll, rfl, ?_⟩
              rw [show s = 2 ^ r.length by omega] at hW
              subst hr_
              refine ⟨PL_w8 hP hk, ?_, hW, ?_, hg⟩
              · unfold PZ at hZi ⊢; rw [hk _ _ (by omega)]; exact hZi
              · intro a b h1 h2 h3 h4 h5; rw [hk _ _ (by omega)]; exact hf a b h1 h2 h3 h4 h5
            · have hPk : PL bb kk ll r := PL_w8 hP hk
              have hWb := wpZ_bd hP.2.2.1 hP.2.1 s
              rw [← hW] at hWb
              simp only at hWb
              refine x_aload_n 47 rfl rfl ?_
              refine x_iload 48 rfl rfl ?_
              refine x_iload_n 49 rfl rfl ?_
              refine x_iload 50 rfl rfl ?_
              refine x_ixor 51 (r := (2 ^ r.length - 1 : Int).toNat ^^^ (s : Int).toNat) rfl (by omega) rfl ?_
              refine x_eqS (S' := [vI (2 ^ r.length - 1 - s), vI (s), vR (some (ob bb + 177))]) (by rw [xor_all hs.1 (by omega)]) ?_
              refine x_callV 52 m_X2_weighPairs (c_weighPairs hPk (by omega) (by omega) (by omega)) rfl ok_X2_weighPairs (b_lt rfl) k_177 rfl rfl ml_X2_68 im_X2_weighPairs se_X2_weighPairs rfl (by decide) rfl (Nat.le_of_ble_eq_true rfl) rfl rfl (fun v g q8 => ?_)
              obtain ⟨rfl, i9, li9, rfl, hi9⟩ := q8
              obtain ⟨hEi9, hi9⟩ := hi9
              have hEi9 := hEi9.symm
              subst hEi9
              show mX m_X2_weigh 5 _ 0 0 _ _ [] _
              have hmw := hi9
              have hm8 : i9 (ob bb + 177) 8 = (wpS r s (2 ^ r.length - 1 - s) (kk (ob bb + 177) 8, kk (ob bb + 177) 9)).1 := by rw [hmw, if_pos ⟨rfl, rfl⟩]
              have hm9 : i9 (ob bb + 177) 9 = (wpS r s (2 ^ r.length - 1 - s) (kk (ob bb + 177) 8, kk (ob bb + 177) 9)).2 := by rw [hmw, if_neg (by omega), if_pos ⟨rfl, rfl⟩]
              refine x_iinc 53 (L' := [some (vR (some (ob bb + 177))), some (vR (some c)), some (vI (y)), some (vI (2 ^ r.length - 1)), some (vI (s + 1))]) rfl (by decide) rfl rfl rfl rfl ?_
              refine x_goto 54 (tgt := 76) rfl (by decide) ?_
              exact ihL6 i9 (s + 1) (by omega) (by rw [wpZ_s _ hs.1, ← hW, hm8, hm9]) (by intro a b hab; rw [hmw, if_neg (by omega), if_neg (by omega)]; exact hk a b hab) (by omega)
        exact loopL6 ((2 ^ r.length - ((0))) + 1 : Int).toNat i5 (0) (by omega) (by subst_vars; simp only [mU]; rfl) (by intro a b hab; subst_vars; simp only [mU]; grind) (by omega)
      · refine x_aload_n 9 rfl rfl ?_
        refine x_iload_n 10 rfl rfl ?_
        refine x_callV 11 m_X0_fittingParts (c_fittingParts hc hOw (by omega)) rfl ok_X0_fittingParts (isC_0 hc) (kC hc) rfl rfl ml_X2_46 im_X0_fittingParts se_X0_fittingParts rfl (by decide) rfl (Nat.le_of_ble_eq_true rfl) rfl rfl (fun v g q10 => ?_)
        obtain ⟨rfl, rfl⟩ := q10
        show mX m_X2_weigh 5 _ 0 0 _ _ [vI (fFits ii c x)] _
        refine x_istore 12 (L' := [some (vR (some (ob bb + 177))), some (vR (some c)), some (vI (y)), some (vI (x)), some (vI (fFits ii c x))]) rfl (by decide) rfl rfl ?_
        have efi : fFits ii c x = fFits i c x := fFits_congr (by omega) hbl
        have hfb := fFits_bd ii c x
        have hsg := hOw.s hx.1 (show x < ii c 4 by omega)
        have hln := vsZ_len i c y hx.1
        have h177 := hP.1
        have hsm : ∀ s, 0 ≤ s → s < 2 ^ (ii (ob bb + 177) 7).toNat → 0 ≤ ii (ob bb + 184) s ∧ ii (ob bb + 184) s ≤ 100 := by intro s h0 h1; have := PL_sum hP (x := s) ⟨h0, by rw [h177] at h1; simpa using h1⟩; omega
        refine x_iload_n 13 rfl rfl ?_
        refine x_iload_n 14 rfl rfl ?_
        refine x_icmp_eq 15 (tgt := 48) rfl (by decide) (by omega) (fun h11 => ?_) (fun h11 => ?_)
        · refine x_iinc 27 (L' := [some (vR (some (ob bb + 177))), some (vR (some c)), some (vI (y)), some (vI (x + 1)), some (vI (fFits ii c x))]) rfl (by decide) rfl rfl rfl rfl ?_
          refine x_goto 28 (tgt := 7) rfl (by decide) ?_
          refine x_dropL (L' := [some (vR (some (ob bb + 177))), some (vR (some c)), some (vI (y)), some (vI (x + 1)), none]) ⟨rfl, ⟨rfl, ⟨rfl, ⟨rfl, True.intro⟩⟩⟩⟩ ?_
          exact ihL2 ii ll (x + 1) (by omega) (by first | (rw [vsZ_n hx.1 (by omega)]; exact hP) | exact hPa) (by first | exact hZa | exact hZi) (by first | exact hfa | exact hf) (by first | exact hga | exact hg) (by omega)
        · refine x_iload 16 rfl rfl ?_
          refine x_if_eq 17 (tgt := 48) rfl (by decide) (by omega) (fun h12 => ?_) (fun h12 => ?_)
          · refine x_iinc 27 (L' := [some (vR (some (ob bb + 177))), some (vR (some c)), some (vI (y)), some (vI (x + 1)), some (vI (fFits ii c x))]) rfl (by decide) rfl rfl rfl rfl ?_
            refine x_goto 28 (tgt := 7) rfl (by decide) ?_
            refine x_dropL (L' := [some (vR (some (ob bb + 177))), some (vR (some c)), some (vI (y)), some (vI (x + 1)), none]) ⟨rfl, ⟨rfl, ⟨rfl, ⟨rfl, True.intro⟩⟩⟩⟩ ?_
            exact ihL2 ii ll (x + 1) (by omega) (by first | (rw [vsZ_n hx.1 (by omega)]; exact hP) | exact hPa) (by first | exact hZa | exact hZi) (by first | exact hfa | exact hf) (by first | exact hga | exact hg) (by omega)
          · refine x_aload_n 18 rfl rfl ?_
            refine x_iload_n 19 rfl rfl ?_
            refine x_aload_n 20 rfl rfl ?_
            refine x_getR 21 (z := (c + 1)) rfl fl_X2_50 (isC_0 hc) (kC hc) rfl (rC0 hc) ?_
            refine x_iload_n 22 rfl rfl ?_
            refine x_aald 23 (t := 3) (z := (c + 2 + (x).toNat)) rfl (isC_S hc) (kCS hc) (by omega) ⟨rfl, rfl⟩ (rCs hc (by omega)) ?_
            refine x_getI 24 (z := ii (c + 2 + (x).toNat) 0) rfl fl_X2_54 (isS_lt (isS.of hc (show (x).toNat < 10 by omega))) (kS (isS.of hc (show (x).toNat < 10 by omega))) rfl rfl ?_
            refine x_iload 25 rfl rfl ?_
            refine x_callV 26 m_X2_addVoice (c_pl_addVoice (by omega) (by omega) (by omega) hsm) rfl ok_X2_addVoice (b_lt rfl) k_177 rfl rfl ml_X2_58 im_X2_addVoice se_X2_addVoice rfl (by decide) rfl (Nat.le_of_ble_eq_true rfl) rfl rfl (fun v g q13 => ?_)
            obtain ⟨rfl, i14, li14, rfl, hi14⟩ := q13
            show mX m_X2_weigh 5 _ 0 0 _ _ [] _
            obtain ⟨hadI, hadL⟩ := hi14
            have hPa : PL bb i14 li14 (vsZ i c y (x + 1)) := by rw [vsZ_y hx.1 (by omega) (by omega), ← efi, ← hbl (c + 2 + x.toNat) 0 (by omega) (by omega)]; exact PL_add hP (by omega) (by omega) hadI hadL
            have hZa : PZ bb i14 li14 := PZ_add hZi (by omega) hadI hadL
            have hfa : ∀ a b, a ≠ (ob bb + 177) → a ≠ (ob bb + 184) → a ≠ (ob bb + 186) → a ≠ (ob bb + 187) → a ≠ (ob bb + 188) → i14 a b = i a b := by intro a b h1 h2 h3 h4 h5; rw [hadI, if_neg (by omega), if_neg (by omega), if_neg (by omega), if_neg (by omega), if_neg (by omega)]; exact hf a b h1 h2 h3 h4 h5
            have hga : ∀ a b, a ≠ (ob bb + 179) → a ≠ (ob bb + 180) → a ≠ (ob bb + 182) → a ≠ (ob bb + 183) → li14 a b = l a b := by intro a b h1 h2 h3 h4; rw [adL_else hadL a b h1 h2 h3 h4]; exact hg a b h1 h2 h3 h4
            refine x_iinc 27 (L' := [some (vR (some (ob bb + 177))), some (vR (some c)), some (vI (y)), some (vI (x + 1)), some (vI (fFits ii c x))]) rfl (by decide) rfl rfl rfl rfl ?_
            refine x_goto 28 (tgt := 7) rfl (by decide) ?_
            refine x_dropL (L' := [some (vR (some (ob bb + 177))), some (vR (some c)), some (vI (y)), some (vI (x + 1)), none]) ⟨rfl, ⟨rfl, ⟨rfl, ⟨rfl, True.intro⟩⟩⟩⟩ ?_
            exact ihL2 i14 li14 (x + 1) (by omega) (by first | (rw [vsZ_n hx.1 (by omega)]; exact hP) | exact hPa) (by first | exact hZa | exact hZi) (by first | exact hfa | exact hf) (by first | exact hga | exact hg) (by omega)
  exact loopL2 ((i c 4 - ((0))) + 1 : Int).toNat i1 l (0) (by omega) (by rw [vsZ_0]; exact PL_nil (by subst_vars; unfold PZ at *; simp only [mU]; simpa using hZ) (by subst_vars; simp [mU])) (by subst_vars; unfold PZ at *; simp only [mU]; simpa using hZ) (by intro a b h1 h2 h3 h4 h5; subst_vars; simp [mU, h1]) (fun _ _ _ _ _ _ => rfl) (by omega)
