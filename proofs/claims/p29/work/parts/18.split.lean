variable {nn : Nat} {bb : Bool}
/-! splits: for every set of voices the strengths that one of two parts can get -/
def isP (bb : Bool) (q : Nat) : Prop := q = (ob bb + 178) ∨ q = (ob bb + 181)
theorem isP_178 : isP bb (ob bb + 178) := Or.inl rfl
theorem isP_181 : isP bb (ob bb + 181) := Or.inr rfl
theorem isP_0 {q : Nat} (h : isP bb q) : q < 378 + nn := by unfold isP at h; have := ob_or bb; omega
theorem isP_1 {q : Nat} (h : isP bb q) : q + 1 < 378 + nn := by unfold isP at h; have := ob_or bb; omega
theorem isP_2 {q : Nat} (h : isP bb q) : q + 2 < 378 + nn := by unfold isP at h; have := ob_or bb; omega
theorem kP {q : Nat} (h : isP bb q) : K0 q = .inl 6 := by rcases h with rfl | rfl <;> first | exact k_178 | exact k_181
theorem kPl {q : Nat} (h : isP bb q) : K0 (q + 1) = .inr (1, 1024) := by rcases h with rfl | rfl <;> first | exact k_179 | exact k_182
theorem kPh {q : Nat} (h : isP bb q) : K0 (q + 2) = .inr (1, 1024) := by rcases h with rfl | rfl <;> first | exact k_180 | exact k_183
theorem rP0 {q : Nat} (h : isP bb q) : R0 q 0 = some (q + 1) := by rcases h with rfl | rfl <;> first | exact r_178_0 | exact r_181_0
theorem rP1 {q : Nat} (h : isP bb q) : R0 q 1 = some (q + 2) := by rcases h with rfl | rfl <;> first | exact r_178_1 | exact r_181_1
/-- whether the one part can get t of the set x -/
def spB (l : Nat → Int → BitVec 64) (q : Nat) (x t : Int) : Prop := if t < 64 then (l (q + 1) x).getLsbD t.toNat = true else (l (q + 2) x).getLsbD (t - 64).toNat = true
def avL (f o s : Int) (L : BitVec 64) : BitVec 64 := if f ≠ 0 then (if o ≠ 0 then L else 0#64) ||| L <<< s.toNat else (if o ≠ 0 then L else 0#64)
def avH (f o s : Int) (L H : BitVec 64) : BitVec 64 := if f ≠ 0 then (if o ≠ 0 then H else 0#64) ||| (H <<< s.toNat ||| L >>> (64 - s).toNat) else (if o ≠ 0 then H else 0#64)
def avA (l ll : Nat → Int → BitVec 64) (q : Nat) (P f o s x : Int) : Prop := ∀ a b, ll a b = if a = q + 1 ∧ P ≤ b ∧ b < P + x then avL f o s (l (q + 1) (b - P)) else if a = q + 2 ∧ P ≤ b ∧ b < P + x then avH f o s (l (q + 1) (b - P)) (l (q + 2) (b - P)) else l a b
theorem av_step {l ll l' : Nat → Int → BitVec 64} {q : Nat} {P f o s x : Int} (h0 : 0 ≤ x) (hA : avA l ll q P f o s x) (hl : l' = mU (mU ll (q + 1) (P + x) (avL f o s (l (q + 1) x))) (q + 2) (P + x) (avH f o s (l (q + 1) x) (l (q + 2) x))) : avA l l' q P f o s (x + 1) := by
  intro a b
  subst hl
  simp only [mU]
  by_cases hb : b = P + x
  · subst hb
    rw [show P + x - P = x by omega]
    by_cases h1 : a = q + 1
    · subst h1
      rw [if_neg (by omega), if_pos ⟨rfl, rfl⟩, if_pos ⟨rfl, by omega, by omega⟩]
    · by_cases h2 : a = q + 2
      · subst h2
        rw [if_pos ⟨rfl, rfl⟩, if_neg (by omega), if_pos ⟨rfl, by omega, by omega⟩]
      · rw [if_neg (fun e => h2 e.1), if_neg (fun e => h1 e.1), hA, if_neg (fun e => h1 e.1), if_neg (fun e => h2 e.1), if_neg (fun e => h1 e.1), if_neg (fun e => h2 e.1)]
  · rw [if_neg (fun e => hb e.2), if_neg (fun e => hb e.2), hA]
    have e1 : (a = q + 1 ∧ P ≤ b ∧ b < P + x) ↔ (a = q + 1 ∧ P ≤ b ∧ b < P + (x + 1)) := by omega
    have e2 : (a = q + 2 ∧ P ≤ b ∧ b < P + x) ↔ (a = q + 2 ∧ P ≤ b ∧ b < P + (x + 1)) := by omega
    simp only [e1, e2]
theorem two_or {n x : Int} (hn : 0 ≤ n) (h0 : 0 ≤ x) (h1 : x < 2 ^ n.toNat) : (((1 * 2 ^ n.toNat : Int).toNat ||| x.toNat : Nat) : Int) = 2 ^ n.toNat + x := by
  rw [mOne]
  have hx : x.toNat < 2 ^ n.toNat := by
    have e : ((2 ^ n.toNat : Nat) : Int) = 2 ^ n.toNat := by simp
    omega
  have hor := Nat.two_pow_add_eq_or_of_lt hx 1
  rw [Nat.mul_one] at hor
  rw [← hor]
  have e : ((2 ^ n.toNat : Nat) : Int) = 2 ^ n.toNat := by simp
  rw [Int.natCast_add, e, Int.toNat_of_nonneg h0]
theorem pow9 {n : Int} (h : 0 ≤ n ∧ n ≤ 9) : (1 : Int) ≤ 2 ^ n.toNat ∧ (2 : Int) ^ n.toNat ≤ 512 := by
  rcases (show n = 0 ∨ n = 1 ∨ n = 2 ∨ n = 3 ∨ n = 4 ∨ n = 5 ∨ n = 6 ∨ n = 7 ∨ n = 8 ∨ n = 9 by omega) with rfl | rfl | rfl | rfl | rfl | rfl | rfl | rfl | rfl | rfl <;> decide
noncomputable def evN (f : Int → Prop) : Nat → Int := by
  classical exact
  fun n => Nat.rec (-1 : Int) (fun k b => if f (k : Int) then (k : Int) else b) n
/-- the greatest number from 0 to m of which f holds, -1 if there is none -/
noncomputable def evZ (f : Int → Prop) (m : Int) : Int := evN f (m + 1).toNat
theorem evZ_hit {f : Int → Prop} {m w : Int} (h0 : 0 ≤ w) (h1 : w ≤ m) (hf : f w) (hn : ∀ t, w < t → t ≤ m → ¬ f t) : evZ f m = w := by
  classical
  unfold evZ
  have key : ∀ k : Nat, (w.toNat + 1 + k : Nat) ≤ (m + 1).toNat → evN f (w.toNat + 1 + k) = w := by
    intro k
    induction k with
    | zero =>
      intro _
      show (if f ((w.toNat : Nat) : Int) then ((w.toNat : Nat) : Int) else _) = w
      rw [Int.toNat_of_nonneg h0, if_pos hf]
    | succ k ih =>
      intro hk
      show (if f ((w.toNat + 1 + k : Nat) : Int) then _ else evN f (w.toNat + 1 + k)) = w
      rw [if_neg (hn _ (by omega) (by omega)), ih (by omega)]
  have := key ((m + 1).toNat - (w.toNat + 1)) (by omega)
  rwa [show w.toNat + 1 + ((m + 1).toNat - (w.toNat + 1)) = (m + 1).toNat by omega] at this
theorem evZ_none {f : Int → Prop} {m : Int} (hn : ∀ t, 0 ≤ t → t ≤ m → ¬ f t) : evZ f m = -1 := by
  classical
  unfold evZ
  have key : ∀ k : Nat, k ≤ (m + 1).toNat → evN f k = -1 := by
    intro k
    induction k with
    | zero => intro _; rfl
    | succ k ih =>
      intro hk
      show (if f ((k : Nat) : Int) then _ else evN f k) = -1
      rw [if_neg (hn _ (by omega) (by omega)), ih (by omega)]
  exact key _ (Nat.le_refl _)
def bitsE (a b : Int) : BitVec 64 := if (if b < 63 then b else 63) < (if 0 < a then a else 0) then 0#64 else ((-1 : BitVec 64) >>> (63 - ((if b < 63 then b else 63) - (if 0 < a then a else 0))).toNat) <<< (if 0 < a then a else 0).toNat
theorem bitsE_get (a b : Int) (k : Nat) (hk : k < 64) : (bitsE a b).getLsbD k = decide (a ≤ k ∧ (k : Int) ≤ b) := by
  unfold bitsE
  generalize hB : (if b < 63 then b else 63) = B
  generalize hA : (if 0 < a then a else 0) = A
  have hB' : (b < 63 ∧ B = b) ∨ (63 ≤ b ∧ B = 63) := by
    by_cases h : b < 63
    · rw [if_pos h] at hB; omega
    · rw [if_neg h] at hB; omega
  have hA' : (0 < a ∧ A = a) ∨ (a ≤ 0 ∧ A = 0) := by
    by_cases h : 0 < a
    · rw [if_pos h] at hA; omega
    · rw [if_neg h] at hA; omega
  have hm : ∀ j, (-1 : BitVec 64).getLsbD j = decide (j < 64) := by
    intro j
    rw [show (-1 : BitVec 64) = BitVec.allOnes 64 from rfl, BitVec.getLsbD_allOnes]
  by_cases h : B < A
  · rw [if_pos h]
    have : ¬ (a ≤ k ∧ (k : Int) ≤ b) := by omega
    simp [this]
  · rw [if_neg h, BitVec.getLsbD_shiftLeft, BitVec.getLsbD_ushiftRight, hm]
    by_cases hr : a ≤ k ∧ (k : Int) ≤ b
    · rw [decide_eq_true hr, decide_eq_true (show (63 - (B - A)).toNat + (k - A.toNat) < 64 by omega), decide_eq_true hk, decide_eq_false (show ¬ k < A.toNat by omega)]
      rfl
    · rw [decide_eq_false hr]
      by_cases hl : k < A.toNat
      · simp [hl]
      · rw [decide_eq_false (show ¬ (63 - (B - A)).toNat + (k - A.toNat) < 64 by omega)]
        simp
theorem land_ne {x y : BitVec 64} : (x &&& y ≠ 0#64) ↔ ∃ k, k < 64 ∧ x.getLsbD k = true ∧ y.getLsbD k = true := by
  constructor
  · intro h
    apply Classical.byContradiction
    intro hn
    apply h
    apply BitVec.eq_of_getLsbD_eq
    intro k hk
    rw [BitVec.getLsbD_and]
    have := fun (e : x.getLsbD k = true ∧ y.getLsbD k = true) => hn ⟨k, hk, e.1, e.2⟩
    cases hx : x.getLsbD k <;> cases hy : y.getLsbD k <;> simp_all
  · rintro ⟨k, hk, h1, h2⟩ h
    have := congrArg (fun z => z.getLsbD k) h
    simp [BitVec.getLsbD_and, h1, h2] at this
theorem sp_iff {l : Nat → Int → BitVec 64} {q : Nat} {x a b : Int} : (∃ t : Int, 0 ≤ t ∧ t < 128 ∧ a ≤ t ∧ t ≤ b ∧ spB l q x t) ↔ (l (q + 1) x &&& bitsE a b ≠ 0#64) ∨ (l (q + 2) x &&& bitsE (a - 64) (b - 64) ≠ 0#64) := by
  rw [land_ne, land_ne]
  constructor
  · rintro ⟨t, h0, h1, h2, h3, h4⟩
    unfold spB at h4
    split at h4
    · left
      refine ⟨t.toNat, by omega, h4, ?_⟩
      rw [bitsE_get _ _ _ (by omega)]
      simp only [decide_eq_true_eq]
      omega
    · right
      refine ⟨(t - 64).toNat, by omega, h4, ?_⟩
      rw [bitsE_get _ _ _ (by omega)]
      simp only [decide_eq_true_eq]
      omega
  · rintro (⟨k, h0, h1, h2⟩ | ⟨k, h0, h1, h2⟩)
    · rw [bitsE_get _ _ _ h0, decide_eq_true_eq] at h2
      refine ⟨k, by omega, by omega, h2.1, h2.2, ?_⟩
      unfold spB
      rw [if_pos (by omega), Int.toNat_natCast]
      exact h1
    · rw [bitsE_get _ _ _ h0, decide_eq_true_eq] at h2
      refine ⟨k + 64, by omega, by omega, by omega, by omega, ?_⟩
      unfold spB
      rw [if_neg (by omega), show ((k : Int) + 64 - 64).toNat = k by omega]
      exact h1
set_option maxRecDepth 20000 in
set_option maxHeartbeats 2000000 in
theorem c_sp_addVoice {i : Nat → Int → Int} {l : Nat → Int → BitVec 64} {q : Nat} (hq : isP bb q) {n s f o : Int} (hn : 0 ≤ n ∧ n ≤ 9) (hs : 1 ≤ s ∧ s ≤ 9) (hf : f = 0 ∨ f = 1) (ho : o = 0 ∨ o = 1) : mCtr m_X6_addVoice 1 0 0 [vR (some q), vI (n), vI (s), vI (f), vI (o)] (st nn i l) (qV nn (fun i' l' => i' = i ∧ avA l l' q (2 ^ n.toNat) f o s (2 ^ n.toNat))) := by
  refine mCtr_of pl_X6 dc_X6_addVoice (Nat.le_of_ble_eq_true rfl) rfl ?_
  show mX m_X6_addVoice 1 _ 0 0 0 [some (vR (some q)), some (vI (n)), some (vI (s)), some (vI (f)), some (vI (o)), none, none, none, none, none, none] [] (st nn i l)
  have hp := pow9 hn
  have h1p : (1 : Int) * 2 ^ n.toNat = 2 ^ n.toNat := Int.one_mul _
  refine x_iconst 0 rfl ?_
  refine x_iload_n 1 rfl rfl ?_
  refine x_ishl 2 (r := 1 * 2 ^ (n).toNat) rfl (by omega) rfl ?_
  refine x_istore 3 (L' := [some (vR (some q)), some (vI (n)), some (vI (s)), some (vI (f)), some (vI (o)), some (vI (1 * 2 ^ (n).toNat)), none, none, none, none, none]) rfl (by decide) rfl rfl ?_
  refine x_iconst 4 rfl ?_
  refine x_istore 5 (L' := [some (vR (some q)), some (vI (n)), some (vI (s)), some (vI (f)), some (vI (o)), some (vI (1 * 2 ^ (n).toNat)), some (vI (0)), none, none, none, none]) rfl (by decide) rfl rfl ?_
  have loopL1 : ∀ (nz : Nat) (ll : Nat → Int → BitVec 64) (x : Int), (0 ≤ x ∧ x ≤ 2 ^ n.toNat) → (avA l ll q (2 ^ n.toNat) f o s x) → (2 ^ n.toNat - x) < (nz : Int) → mX m_X6_addVoice 1 (qV nn (fun i' l' => i' = i ∧ avA l l' q (2 ^ n.toNat) f o s (2 ^ n.toNat))) 0 0 8 [some (vR (some q)), some (vI (n)), some (vI (s)), some (vI (f)), some (vI (o)), some (vI (1 * 2 ^ (n).toNat)), some (vI (x)), none, none, none, none] [] (st nn i ll) := by
    intro nz
    induction nz with
    | zero => intro ll x hx hA hz; exact absurd hz (by omega)
    | succ nz ihL1 =>
      intro ll x hx hA hzL1
      refine x_iload 6 rfl rfl ?_
      refine x_iload 7 rfl rfl ?_
      refine x_icmp_ge 8 (tgt := 126) rfl (by decide) (by omega) (fun h2 => ?_) (fun h2 => ?_)
      · refine x_ret 72 none rfl ⟨rfl, rfl⟩ ⟨rfl, i, ll, rfl, ?_⟩
        refine ⟨rfl, ?_⟩
        rw [show x = 2 ^ n.toNat by omega] at hA
        exact hA
      · have e1 : ll (q + 1) x = l (q + 1) x := by rw [hA, if_neg (by omega), if_neg (by omega)]
        have e2 : ll (q + 2) x = l (q + 2) x := by rw [hA, if_neg (by omega), if_neg (by omega)]
        have hor := two_or hn.1 hx.1 (show x < 2 ^ n.toNat by omega)
        have hor2 := hor
        rw [Int.one_mul] at hor2
        refine x_iload 9 rfl rfl ?_
        refine x_if_eq 10 (tgt := 30) rfl (by decide) (by omega) (fun h3 => ?_) (fun h3 => ?_)
        · refine x_lconst 16 (v := 0#64) rfl rfl ?_
          refine x_lstore 17 (L' := [some (vR (some q)), some (vI (n)), some (vI (s)), some (vI (f)), some (vI (o)), some (vI (1 * 2 ^ (n).toNat)), some (vI (x)), some (vL (0#64)), none, none, none]) rfl (by decide) rfl rfl ?_
          refine x_iload 18 rfl rfl ?_
          refine x_if_eq 19 (tgt := 48) rfl (by decide) (by omega) (fun h4 => ?_) (fun h4 => absurd h4 (by omega))
          refine x_lconst 25 (v := 0#64) rfl rfl ?_
          refine x_lstore 26 (L' := [some (vR (some q)), some (vI (n)), some (vI (s)), some (vI (f)), some (vI (o)), some (vI (1 * 2 ^ (n).toNat)), some (vI (x)), some (vL (0#64)), none, some (vL (0#64)), none]) rfl (by decide) rfl rfl ?_
          refine x_iload_n 27 rfl rfl ?_
          refine x_if_eq 28 (tgt := 96) rfl (by decide) (by omega) (fun h5 => ?_) (fun h5 => ?_)
          · refine x_aload_n 56 rfl rfl ?_
            refine x_getR 57 (z := (q + 1)) rfl fl_X6_9 (isP_0 hq) (kP hq) rfl (rP0 hq) ?_
            refine x_iload 58 rfl rfl ?_
            refine x_iload 59 rfl rfl ?_
            refine x_ior 60 (r := (1 * 2 ^ (n).toNat : Int).toNat ||| (x : Int).toNat) rfl (by omega) rfl ?_
            refine x_lload 61 rfl rfl ?_
            obtain ⟨l6, hl6⟩ : ∃ f, f = mU ll (q + 1) ((((1 * 2 ^ (n).toNat : Int).toNat ||| (x : Int).toNat : Nat) : Int)) (0#64) := ⟨_, rfl⟩
            refine x_last 62 rfl (isP_1 hq) (kPl hq) (by omega) (g' := st nn i l6) (by subst hl6; rfl) ?_
            refine x_aload_n 63 rfl rfl ?_
            refine x_getR 64 (z := (q + 2)) rfl fl_X6_15 (isP_0 hq) (kP hq) rfl (rP1 hq) ?_
            refine x_iload 65 rfl rfl ?_
            refine x_iload 66 rfl rfl ?_
            refine x_ior 67 (r := (1 * 2 ^ (n).toNat : Int).toNat ||| (x : Int).toNat) rfl (by omega) rfl ?_
            refine x_lload 68 rfl rfl ?_
            obtain ⟨l7, hl7⟩ : ∃ f, f = mU l6 (q + 2) ((((1 * 2 ^ (n).toNat : Int).toNat ||| (x : Int).toNat : Nat) : Int)) (0#64) := ⟨_, rfl⟩
            refine x_last 69 rfl (isP_2 hq) (kPh hq) (by omega) (g' := st nn i l7) (by subst hl7; rfl) ?_
            refine x_iinc 70 (L' := [some (vR (some q)), some (vI (n)), some (vI (s)), some (vI (f)), some (vI (o)), some (vI (1 * 2 ^ (n).toNat)), some (vI (x + 1)), some (vL (0#64)), none, some (vL (0#64)), none]) rfl (by decide) rfl rfl rfl rfl ?_
            refine x_goto 71 (tgt := 8) rfl (by decide) ?_
            refine x_dropL (L' := [some (vR (some q)), some (vI (n)), some (vI (s)), some (vI (f)), some (vI (o)), some (vI (1 * 2 ^ (n).toNat)), some (vI (x + 1)), none, none, none, none]) ⟨rfl, ⟨rfl, ⟨rfl, ⟨rfl, ⟨rfl, ⟨rfl, ⟨rfl, True.intro⟩⟩⟩⟩⟩⟩⟩ ?_
            exact ihL1 l7 (x + 1) (by omega) (av_step hx.1 hA (by subst_vars; simp [avL, avH, e1, e2, hor2, mUne, *])) (by omega)
          · refine x_lload 29 rfl rfl ?_
            refine x_aload_n 30 rfl rfl ?_
            refine x_getR 31 (z := (q + 1)) rfl fl_X6_9 (isP_0 hq) (kP hq) rfl (rP0 hq) ?_
            refine x_iload 32 rfl rfl ?_
            refine x_lald 33 (z := ll (q + 1) x) rfl (isP_1 hq) (kPl hq) (by omega) rfl ?_
            refine x_iload_n 34 rfl rfl ?_
            refine x_lshl 35 (r := (ll (q + 1) x) <<< (s : Int).toNat) rfl (by omega) rfl ?_
            refine x_lor 36 (r := (0#64) ||| ((ll (q + 1) x) <<< (s : Int).toNat)) rfl rfl ?_
            refine x_lstore 37 (L' := [some (vR (some q)), some (vI (n)), some (vI (s)), some (vI (f)), some (vI (o)), some (vI (1 * 2 ^ (n).toNat)), some (vI (x)), some (vL ((0#64) ||| ((ll (q + 1) x) <<< (s : Int).toNat))), none, some (vL (0#64)), none]) rfl (by decide) rfl rfl ?_
            refine x_lload 38 rfl rfl ?_
            refine x_aload_n 39 rfl rfl ?_
            refine x_getR 40 (z := (q + 2)) rfl fl_X6_15 (isP_0 hq) (kP hq) rfl (rP1 hq) ?_
            refine x_iload 41 rfl rfl ?_
            refine x_lald 42 (z := ll (q + 2) x) rfl (isP_2 hq) (kPh hq) (by omega) rfl ?_
            refine x_iload_n 43 rfl rfl ?_
            refine x_lshl 44 (r := (ll (q + 2) x) <<< (s : Int).toNat) rfl (by omega) rfl ?_
            refine x_aload_n 45 rfl rfl ?_
            refine x_getR 46 (z := (q + 1)) rfl fl_X6_9 (isP_0 hq) (kP hq) rfl (rP0 hq) ?_
            refine x_iload 47 rfl rfl ?_
            refine x_lald 48 (z := ll (q + 1) x) rfl (isP_1 hq) (kPl hq) (by omega) rfl ?_
            refine x_bipush 49 rfl (by decide) ?_
            refine x_iload_n 50 rfl rfl ?_
            refine x_isub 51 (r := 64 - s) rfl rfl ?_
            refine x_lushr 52 (r := (ll (q + 1) x) >>> (64 - s : Int).toNat) rfl (by omega) rfl ?_
            refine x_lor 53 (r := ((ll (q + 2) x) <<< (s : Int).toNat) ||| ((ll (q + 1) x) >>> (64 - s : Int).toNat)) rfl rfl ?_
            refine x_lor 54 (r := (0#64) ||| (((ll (q + 2) x) <<< (s : Int).toNat) ||| ((ll (q + 1) x) >>> (64 - s : Int).toNat))) rfl rfl ?_
            refine x_lstore 55 (L' := [some (vR (some q)), some (vI (n)), some (vI (s)), some (vI (f)), some (vI (o)), some (vI (1 * 2 ^ (n).toNat)), some (vI (x)), some (vL ((0#64) ||| ((ll (q + 1) x) <<< (s : Int).toNat))), none, some (vL ((0#64) ||| (((ll (q + 2) x) <<< (s : Int).toNat) ||| ((ll (q + 1) x) >>> (64 - s : Int).toNat)))), none]) rfl (by decide) rfl rfl ?_
            refine x_aload_n 56 rfl rfl ?_
            refine x_getR 57 (z := (q + 1)) rfl fl_X6_9 (isP_0 hq) (kP hq) rfl (rP0 hq) ?_
            refine x_iload 58 rfl rfl ?_
            refine x_iload 59 rfl rfl ?_
            refine x_ior 60 (r := (1 * 2 ^ (n).toNat : Int).toNat ||| (x : Int).toNat) rfl (by omega) rfl ?_
            refine x_lload 61 rfl rfl ?_
            obtain ⟨l8, hl8⟩ : ∃ f, f = mU ll (q + 1) ((((1 * 2 ^ (n).toNat : Int).toNat ||| (x : Int).toNat : Nat) : Int)) ((0#64) ||| ((ll (q + 1) x) <<< (s : Int).toNat)) := ⟨_, rfl⟩
            refine x_last 62 rfl (isP_1 hq) (kPl hq) (by omega) (g' := st nn i l8) (by subst hl8; rfl) ?_
            refine x_aload_n 63 rfl rfl ?_
            refine x_getR 64 (z := (q + 2)) rfl fl_X6_15 (isP_0 hq) (kP hq) rfl (rP1 hq) ?_
            refine x_iload 65 rfl rfl ?_
            refine x_iload 66 rfl rfl ?_
            refine x_ior 67 (r := (1 * 2 ^ (n).toNat : Int).toNat ||| (x : Int).toNat) rfl (by omega) rfl ?_
            refine x_lload 68 rfl rfl ?_
            obtain ⟨l9, hl9⟩ : ∃ f, f = mU l8 (q + 2) ((((1 * 2 ^ (n).toNat : Int).toNat ||| (x : Int).toNat : Nat) : Int)) ((0#64) ||| (((ll (q + 2) x) <<< (s : Int).toNat) ||| ((ll (q + 1) x) >>> (64 - s : Int).toNat))) := ⟨_, rfl⟩
            refine x_last 69 rfl (isP_2 hq) (kPh hq) (by omega) (g' := st nn i l9) (by subst hl9; rfl) ?_
            refine x_iinc 70 (L' := [some (vR (some q)), some (vI (n)), some (vI (s)), some (vI (f)), some (vI (o)), some (vI (1 * 2 ^ (n).toNat)), some (vI (x + 1)), some (vL ((0#64) ||| ((ll (q + 1) x) <<< (s : Int).toNat))), none, some (vL ((0#64) ||| (((ll (q + 2) x) <<< (s : Int).toNat) ||| ((ll (q + 1) x) >>> (64 - s : Int).toNat)))), none]) rfl (by decide) rfl rfl rfl rfl ?_
            refine x_goto 71 (tgt := 8) rfl (by decide) ?_
            refine x_dropL (L' := [some (vR (some q)), some (vI (n)), some (vI (s)), some (vI (f)), some (vI (o)), some (vI (1 * 2 ^ (n).toNat)), some (vI (x + 1)), none, none, none, none]) ⟨rfl, ⟨rfl, ⟨rfl, ⟨rfl, ⟨rfl, ⟨rfl, ⟨rfl, True.intro⟩⟩⟩⟩⟩⟩⟩ ?_
            exact ihL1 l9 (x + 1) (by omega) (av_step hx.1 hA (by subst_vars; simp [avL, avH, e1, e2, hor2, mUne, *])) (by omega)
        · refine x_aload_n 11 rfl rfl ?_
          refine x_getR 12 (z := (q + 1)) rfl fl_X6_9 (isP_0 hq) (kP hq) rfl (rP0 hq) ?_
          refine x_iload 13 rfl rfl ?_
          refine x_lald 14 (z := ll (q + 1) x) rfl (isP_1 hq) (kPl hq) (by omega) rfl ?_
          refine x_goto 15 (tgt := 31) rfl (by decide) ?_
          refine x_lstore 17 (L' := [some (vR (some q)), some (vI (n)), some (vI (s)), some (vI (f)), some (vI (o)), some (vI (1 * 2 ^ (n).toNat)), some (vI (x)), some (vL (ll (q + 1) x)), none, none, none]) rfl (by decide) rfl rfl ?_
          refine x_iload 18 rfl rfl ?_
          refine x_if_eq 19 (tgt := 48) rfl (by decide) (by omega) (fun h10 => absurd h10 (by omega)) (fun h10 => ?_)
          refine x_aload_n 20 rfl rfl ?_
          refine x_getR 21 (z := (q + 2)) rfl fl_X6_15 (isP_0 hq) (kP hq) rfl (rP1 hq) ?_
          refine x_iload 22 rfl rfl ?_
          refine x_lald 23 (z := ll (q + 2) x) rfl (isP_2 hq) (kPh hq) (by omega) rfl ?_
          refine x_goto 24 (tgt := 49) rfl (by decide) ?_
          refine x_lstore 26 (L' := [some (vR (some q)), some (vI (n)), some (vI (s)), some (vI (f)), some (vI (o)), some (vI (1 * 2 ^ (n).toNat)), some (vI (x)), some (vL (ll (q + 1) x)), none, some (vL (ll (q + 2) x)), none]) rfl (by decide) rfl rfl ?_
          refine x_iload_n 27 rfl rfl ?_
          refine x_if_eq 28 (tgt := 96) rfl (by decide) (by omega) (fun h11 => ?_) (fun h11 => ?_)
          · refine x_aload_n 56 rfl rfl ?_
            refine x_getR 57 (z := (q + 1)) rfl fl_X6_9 (isP_0 hq) (kP hq) rfl (rP0 hq) ?_
            refine x_iload 58 rfl rfl ?_
            refine x_iload 59 rfl rfl ?_
            refine x_ior 60 (r := (1 * 2 ^ (n).toNat : Int).toNat ||| (x : Int).toNat) rfl (by omega) rfl ?_
            refine x_lload 61 rfl rfl ?_
            obtain ⟨l12, hl12⟩ : ∃ f, f = mU ll (q + 1) ((((1 * 2 ^ (n).toNat : Int).toNat ||| (x : Int).toNat : Nat) : Int)) (ll (q + 1) x) := ⟨_, rfl⟩
            refine x_last 62 rfl (isP_1 hq) (kPl hq) (by omega) (g' := st nn i l12) (by subst hl12; rfl) ?_
            refine x_aload_n 63 rfl rfl ?_
            refine x_getR 64 (z := (q + 2)) rfl fl_X6_15 (isP_0 hq) (kP hq) rfl (rP1 hq) ?_
            refine x_iload 65 rfl rfl ?_
            refine x_iload 66 rfl rfl ?_
            refine x_ior 67 (r := (1 * 2 ^ (n).toNat : Int).toNat ||| (x : Int).toNat) rfl (by omega) rfl ?_
            refine x_lload 68 rfl rfl ?_
            obtain ⟨l13, hl13⟩ : ∃ f, f = mU l12 (q + 2) ((((1 * 2 ^ (n).toNat : Int).toNat ||| (x : Int).toNat : Nat) : Int)) (ll (q + 2) x) := ⟨_, rfl⟩
            refine x_last 69 rfl (isP_2 hq) (kPh hq) (by omega) (g' := st nn i l13) (by subst hl13; rfl) ?_
            refine x_iinc 70 (L' := [some (vR (some q)), some (vI (n)), some (vI (s)), some (vI (f)), some (vI (o)), some (vI (1 * 2 ^ (n).toNat)), some (vI (x + 1)), some (vL (ll (q + 1) x)), none, some (vL (ll (q + 2) x)), none]) rfl (by decide) rfl rfl rfl rfl ?_
            refine x_goto 71 (tgt := 8) rfl (by decide) ?_
            refine x_dropL (L' := [some (vR (some q)), some (vI (n)), some (vI (s)), some (vI (f)), some (vI (o)), some (vI (1 * 2 ^ (n).toNat)), some (vI (x + 1)), none, none, none, none]) ⟨rfl, ⟨rfl, ⟨rfl, ⟨rfl, ⟨rfl, ⟨rfl, ⟨rfl, True.intro⟩⟩⟩⟩⟩⟩⟩ ?_
            exact ihL1 l13 (x + 1) (by omega) (av_step hx.1 hA (by subst_vars; simp [avL, avH, e1, e2, hor2, mUne, *])) (by omega)
          · refine x_lload 29 rfl rfl ?_
            refine x_aload_n 30 rfl rfl ?_
            refine x_getR 31 (z := (q + 1)) rfl fl_X6_9 (isP_0 hq) (kP hq) rfl (rP0 hq) ?_
            refine x_iload 32 rfl rfl ?_
            refine x_lald 33 (z := ll (q + 1) x) rfl (isP_1 hq) (kPl hq) (by omega) rfl ?_
            refine x_iload_n 34 rfl rfl ?_
            refine x_lshl 35 (r := (ll (q + 1) x) <<< (s : Int).toNat) rfl (by omega) rfl ?_
            refine x_lor 36 (r := (ll (q + 1) x) ||| ((ll (q + 1) x) <<< (s : Int).toNat)) rfl rfl ?_
            refine x_lstore 37 (L' := [some (vR (some q)), some (vI (n)), some (vI (s)), some (vI (f)), some (vI (o)), some (vI (1 * 2 ^ (n).toNat)), some (vI (x)), some (vL ((ll (q + 1) x) ||| ((ll (q + 1) x) <<< (s : Int).toNat))), none, some (vL (ll (q + 2) x)), none]) rfl (by decide) rfl rfl ?_
            refine x_lload 38 rfl rfl ?_
            refine x_aload_n 39 rfl rfl ?_
            refine x_getR 40 (z := (q + 2)) rfl fl_X6_15 (isP_0 hq) (kP hq) rfl (rP1 hq) ?_
            refine x_iload 41 rfl rfl ?_
            refine x_lald 42 (z := ll (q + 2) x) rfl (isP_2 hq) (kPh hq) (by omega) rfl ?_
            refine x_iload_n 43 rfl rfl ?_
            refine x_lshl 44 (r := (ll (q + 2) x) <<< (s : Int).toNat) rfl (by omega) rfl ?_
            refine x_aload_n 45 rfl rfl ?_
            refine x_getR 46 (z := (q + 1)) rfl fl_X6_9 (isP_0 hq) (kP hq) rfl (rP0 hq) ?_
            refine x_iload 47 rfl rfl ?_
            refine x_lald 48 (z := ll (q + 1) x) rfl (isP_1 hq) (kPl hq) (by omega) rfl ?_
            refine x_bipush 49 rfl (by decide) ?_
            refine x_iload_n 50 rfl rfl ?_
            refine x_isub 51 (r := 64 - s) rfl rfl ?_
            refine x_lushr 52 (r := (ll (q + 1) x) >>> (64 - s : Int).toNat) rfl (by omega) rfl ?_
            refine x_lor 53 (r := ((ll (q + 2) x) <<< (s : Int).toNat) ||| ((ll (q + 1) x) >>> (64 - s : Int).toNat)) rfl rfl ?_
            refine x_lor 54 (r := (ll (q + 2) x) ||| (((ll (q + 2) x) <<< (s : Int).toNat) ||| ((ll (q + 1) x) >>> (64 - s : Int).toNat))) rfl rfl ?_
            refine x_lstore 55 (L' := [some (vR (some q)), some (vI (n)), some (vI (s)), some (vI (f)), some (vI (o)), some (vI (1 * 2 ^ (n).toNat)), some (vI (x)), some (vL ((ll (q + 1) x) ||| ((ll (q + 1) x) <<< (s : Int).toNat))), none, some (vL ((ll (q + 2) x) ||| (((ll (q + 2) x) <<< (s : Int).toNat) ||| ((ll (q + 1) x) >>> (64 - s : Int).toNat)))), none]) rfl (by decide) rfl rfl ?_
            refine x_aload_n 56 rfl rfl ?_
            refine x_getR 57 (z := (q + 1)) rfl fl_X6_9 (isP_0 hq) (kP hq) rfl (rP0 hq) ?_
            refine x_iload 58 rfl rfl ?_
            refine x_iload 59 rfl rfl ?_
            refine x_ior 60 (r := (1 * 2 ^ (n).toNat : Int).toNat ||| (x : Int).toNat) rfl (by omega) rfl ?_
            refine x_lload 61 rfl rfl ?_
            obtain ⟨l14, hl14⟩ : ∃ f, f = mU ll (q + 1) ((((1 * 2 ^ (n).toNat : Int).toNat ||| (x : Int).toNat : Nat) : Int)) ((ll (q + 1) x) ||| ((ll (q + 1) x) <<< (s : Int).toNat)) := ⟨_, rfl⟩
            refine x_last 62 rfl (isP_1 hq) (kPl hq) (by omega) (g' := st nn i l14) (by subst hl14; rfl) ?_
            refine x_aload_n 63 rfl rfl ?_
            refine x_getR 64 (z := (q + 2)) rfl fl_X6_15 (isP_0 hq) (kP hq) rfl (rP1 hq) ?_
            refine x_iload 65 rfl rfl ?_
            refine x_iload 66 rfl rfl ?_
            refine x_ior 67 (r := (1 * 2 ^ (n).toNat : Int).toNat ||| (x : Int).toNat) rfl (by omega) rfl ?_
            refine x_lload 68 rfl rfl ?_
            obtain ⟨l15, hl15⟩ : ∃ f, f = mU l14 (q + 2) ((((1 * 2 ^ (n).toNat : Int).toNat ||| (x : Int).toNat : Nat) : Int)) ((ll (q + 2) x) ||| (((ll (q + 2) x) <<< (s : Int).toNat) ||| ((ll (q + 1) x) >>> (64 - s : Int).toNat))) := ⟨_, rfl⟩
            refine x_last 69 rfl (isP_2 hq) (kPh hq) (by omega) (g' := st nn i l15) (by subst hl15; rfl) ?_
            refine x_iinc 70 (L' := [some (vR (some q)), some (vI (n)), some (vI (s)), some (vI (f)), some (vI (o)), some (vI (1 * 2 ^ (n).toNat)), some (vI (x + 1)), some (vL ((ll (q + 1) x) ||| ((ll (q + 1) x) <<< (s : Int).toNat))), none, some (vL ((ll (q + 2) x) ||| (((ll (q + 2) x) <<< (s : Int).toNat) ||| ((ll (q + 1) x) >>> (64 - s : Int).toNat)))), none]) rfl (by decide) rfl rfl rfl rfl ?_
            refine x_goto 71 (tgt := 8) rfl (by decide) ?_
            refine x_dropL (L' := [some (vR (some q)), some (vI (n)), some (vI (s)), some (vI (f)), some (vI (o)), some (vI (1 * 2 ^ (n).toNat)), some (vI (x + 1)), none, none, none, none]) ⟨rfl, ⟨rfl, ⟨rfl, ⟨rfl, ⟨rfl, ⟨rfl, ⟨rfl, True.intro⟩⟩⟩⟩⟩⟩⟩ ?_
            exact ihL1 l15 (x + 1) (by omega) (av_step hx.1 hA (by subst_vars; simp [avL, avH, e1, e2, hor2, mUne, *])) (by omega)
  exact loopL1 ((2 ^ n.toNat - ((0))) + 1 : Int).toNat l (0) (by omega) (by intro a b; rw [if_neg (by omega), if_neg (by omega)]) (by omega)
set_option maxRecDepth 20000 in
set_option maxHeartbeats 2000000 in
theorem c_gives {i : Nat → Int → Int} {l : Nat → Int → BitVec 64} {q : Nat} (hq : isP bb q) {x t : Int} (hx : 0 ≤ x ∧ x < 1024) (ht : 0 ≤ t ∧ t < 128) : mCtr m_X6_gives 2 0 0 [vR (some q), vI (x), vI (t)] (st nn i l) (qB (spB l q x t) (st nn i l)) := by
  refine mCtr_of pl_X6 dc_X6_gives (Nat.le_of_ble_eq_true rfl) rfl ?_
  show mX m_X6_gives 2 _ 0 0 0 [some (vR (some q)), some (vI (x)), some (vI (t))] [] (st nn i l)
  refine x_iload_n 0 rfl rfl ?_
  refine x_bipush 1 rfl (by decide) ?_
  refine x_icmp_ge 2 (tgt := 19) rfl (by decide) (by omega) (fun h1 => ?_) (fun h1 => ?_)
  · refine x_aload_n 10 rfl rfl ?_
    refine x_getR 11 (z := (q + 2)) rfl fl_X6_15 (isP_0 hq) (kP hq) rfl (rP1 hq) ?_
    refine x_iload_n 12 rfl rfl ?_
    refine x_lald 13 (z := l (q + 2) x) rfl (isP_2 hq) (kPh hq) (by omega) rfl ?_
    refine x_iload_n 14 rfl rfl ?_
    refine x_bipush 15 rfl (by decide) ?_
    refine x_isub 16 (r := t - 64) rfl rfl ?_
    refine x_callSN 17 m_X8_contains (c_contains (by omega)) rfl ok_X8_contains (by decide +kernel) st_X8_contains rfl (by decide) rfl (Nat.le_of_ble_eq_true rfl) rfl rfl (fun v g q2 => ?_)
    rcases q2 with ⟨rfl, ⟨h3, rfl⟩ | ⟨h3, rfl⟩⟩
    · show mX m_X6_gives 2 _ 0 0 _ _ [vI (1)] _
      refine x_ret 18 (some (vI (1))) rfl ⟨rfl, Or.inr ⟨rfl, by omega⟩⟩ ⟨rfl, Or.inl ⟨?_, rfl⟩⟩
      unfold spB; first | (rw [if_pos (by omega)]; assumption) | (rw [if_neg (by omega)]; assumption)
    · show mX m_X6_gives 2 _ 0 0 _ _ [vI (0)] _
      refine x_ret 18 (some (vI (0))) rfl ⟨rfl, Or.inr ⟨rfl, by omega⟩⟩ ⟨rfl, Or.inr ⟨?_, rfl⟩⟩
      unfold spB; first | (rw [if_pos (by omega)]; assumption) | (rw [if_neg (by omega)]; assumption)
  · refine x_aload_n 3 rfl rfl ?_
    refine x_getR 4 (z := (q + 1)) rfl fl_X6_9 (isP_0 hq) (kP hq) rfl (rP0 hq) ?_
    refine x_iload_n 5 rfl rfl ?_
    refine x_lald 6 (z := l (q + 1) x) rfl (isP_1 hq) (kPl hq) (by omega) rfl ?_
    refine x_iload_n 7 rfl rfl ?_
    refine x_callSN 8 m_X8_contains (c_contains (by omega)) rfl ok_X8_contains (by decide +kernel) st_X8_contains rfl (by decide) rfl (Nat.le_of_ble_eq_true rfl) rfl rfl (fun v g q4 => ?_)
    rcases q4 with ⟨rfl, ⟨h5, rfl⟩ | ⟨h5, rfl⟩⟩
    · show mX m_X6_gives 2 _ 0 0 _ _ [vI (1)] _
      refine x_goto 9 (tgt := 32) rfl (by decide) ?_
      refine x_ret 18 (some (vI (1))) rfl ⟨rfl, Or.inr ⟨rfl, by omega⟩⟩ ⟨rfl, Or.inl ⟨?_, rfl⟩⟩
      unfold spB; first | (rw [if_pos (by omega)]; assumption) | (rw [if_neg (by omega)]; assumption)
    · show mX m_X6_gives 2 _ 0 0 _ _ [vI (0)] _
      refine x_goto 9 (tgt := 32) rfl (by decide) ?_
      refine x_ret 18 (some (vI (0))) rfl ⟨rfl, Or.inr ⟨rfl, by omega⟩⟩ ⟨rfl, Or.inr ⟨?_, rfl⟩⟩
      unfold spB; first | (rw [if_pos (by omega)]; assumption) | (rw [if_neg (by omega)]; assumption)
set_option maxRecDepth 20000 in
set_option maxHeartbeats 2000000 in
theorem c_evenest {i : Nat → Int → Int} {l : Nat → Int → BitVec 64} {q : Nat} (hq : isP bb q) {x sum : Int} (hx : 0 ≤ x ∧ x < 1024) (hs : 0 ≤ sum ∧ sum ≤ 90) : mCtr m_X6_evenest 3 0 0 [vR (some q), vI (x), vI (sum)] (st nn i l) (qI (evZ (fun t => spB l q x t ∨ spB l q x (sum - t)) (sum / 2)) (st nn i l)) := by
  refine mCtr_of pl_X6 dc_X6_evenest (Nat.le_of_ble_eq_true rfl) rfl ?_
  show mX m_X6_evenest 3 _ 0 0 0 [some (vR (some q)), some (vI (x)), some (vI (sum)), none] [] (st nn i l)
  refine x_aload_n 0 rfl rfl ?_
  refine x_getR 1 (z := (q + 1)) rfl fl_X6_9 (isP_0 hq) (kP hq) rfl (rP0 hq) ?_
  refine x_iload_n 2 rfl rfl ?_
  refine x_lald 3 (z := l (q + 1) x) rfl (isP_1 hq) (kPl hq) (by omega) rfl ?_
  refine x_aload_n 4 rfl rfl ?_
  refine x_getR 5 (z := (q + 2)) rfl fl_X6_15 (isP_0 hq) (kP hq) rfl (rP1 hq) ?_
  refine x_iload_n 6 rfl rfl ?_
  refine x_lald 7 (z := l (q + 2) x) rfl (isP_2 hq) (kPh hq) (by omega) rfl ?_
  refine x_lor 8 (r := (l (q + 1) x) ||| (l (q + 2) x)) rfl rfl ?_
  refine x_lconst 9 (v := 0#64) rfl rfl ?_
  refine x_lcmp 10 rfl (fun z1 hz1 gz1 fz1 => ?_)
  refine x_if_ne 11 (tgt := 20) rfl (by decide) (by omega) (fun h2 => ?_) (fun h2 => ?_)
  · refine x_iload_n 14 rfl rfl ?_
    refine x_iconst 15 rfl ?_
    refine x_idiv 16 (r := sum / 2) rfl (by omega) rfl ?_
    refine x_istore_n 17 (L' := [some (vR (some q)), some (vI (x)), some (vI (sum)), some (vI (sum / 2))]) rfl (by decide) rfl rfl ?_
    have loopL3 : ∀ (nz : Nat) (w : Int), (-1 ≤ w ∧ w ≤ sum / 2) → (∀ t, w < t → t ≤ sum / 2 → ¬ (spB l q x t ∨ spB l q x (sum - t))) → (w + 1) < (nz : Int) → mX m_X6_evenest 3 (qI (evZ (fun t => spB l q x t ∨ spB l q x (sum - t)) (sum / 2)) (st nn i l)) 0 0 24 [some (vR (some q)), some (vI (x)), some (vI (sum)), some (vI (w))] [] (st nn i l) := by
      intro nz
      induction nz with
      | zero => intro w hw hN hz; exact absurd hz (by omega)
      | succ nz ihL3 =>
        intro w hw hN hzL3
        refine x_iload_n 18 rfl rfl ?_
        refine x_if_lt 19 (tgt := 56) rfl (by decide) (by omega) (fun h4 => ?_) (fun h4 => ?_)
        · refine x_iconst 36 rfl ?_
          refine x_ret 37 (some (vI ((-1)))) rfl ⟨rfl, Or.inl rfl⟩ ⟨congrArg (fun z => some (vI z)) ?_, rfl⟩
          exact (evZ_none (fun t h1 h2 => hN t (by omega) h2)).symm
        · refine x_aload_n 20 rfl rfl ?_
          refine x_iload_n 21 rfl rfl ?_
          refine x_iload_n 22 rfl rfl ?_
          refine x_callV 23 m_X6_gives (c_gives hq (by omega) (by omega)) rfl ok_X6_gives (isP_0 hq) (kP hq) rfl rfl ml_X6_18 im_X6_gives se_X6_gives rfl (by decide) rfl (Nat.le_of_ble_eq_true rfl) rfl rfl (fun v g q5 => ?_)
          rcases q5 with ⟨rfl, ⟨h6, rfl⟩ | ⟨h6, rfl⟩⟩
          · show mX m_X6_evenest 3 _ 0 0 _ _ [vI (1)] _
            refine x_if_ne 24 (tgt := 48) rfl (by decide) (by decide) (fun h7 => ?_) (fun h7 => absurd h7 (by decide))
            refine x_iload_n 32 rfl rfl ?_
            refine x_ret 33 (some (vI (w))) rfl ⟨rfl, Or.inl rfl⟩ ⟨congrArg (fun z => some (vI z)) ?_, rfl⟩
            exact (evZ_hit (by omega) (by omega) (by first | (left; assumption) | (right; assumption)) hN).symm
          · show mX m_X6_evenest 3 _ 0 0 _ _ [vI (0)] _
            refine x_if_ne 24 (tgt := 48) rfl (by decide) (by decide) (fun h8 => absurd h8 (by decide)) (fun h8 => ?_)
            refine x_aload_n 25 rfl rfl ?_
            refine x_iload_n 26 rfl rfl ?_
            refine x_iload_n 27 rfl rfl ?_
            refine x_iload_n 28 rfl rfl ?_
            refine x_isub 29 (r := sum - w) rfl rfl ?_
            refine x_callV 30 m_X6_gives (c_gives hq (by omega) (by omega)) rfl ok_X6_gives (isP_0 hq) (kP hq) rfl rfl ml_X6_18 im_X6_gives se_X6_gives rfl (by decide) rfl (Nat.le_of_ble_eq_true rfl) rfl rfl (fun v g q9 => ?_)
            rcases q9 with ⟨rfl, ⟨h10, rfl⟩ | ⟨h10, rfl⟩⟩
            · show mX m_X6_evenest 3 _ 0 0 _ _ [vI (1)] _
              refine x_if_eq 31 (tgt := 50) rfl (by decide) (by decide) (fun h11 => absurd h11 (by decide)) (fun h11 => ?_)
              refine x_iload_n 32 rfl rfl ?_
              refine x_ret 33 (some (vI (w))) rfl ⟨rfl, Or.inl rfl⟩ ⟨congrArg (fun z => some (vI z)) ?_, rfl⟩
              exact (evZ_hit (by omega) (by omega) (by first | (left; assumption) | (right; assumption)) hN).symm
            · show mX m_X6_evenest 3 _ 0 0 _ _ [vI (0)] _
              refine x_if_eq 31 (tgt := 50) rfl (by decide) (by decide) (fun h12 => ?_) (fun h12 => absurd h12 (by decide))
              refine x_iinc 34 (L' := [some (vR (some q)), some (vI (x)), some (vI (sum)), some (vI (w + (-1)))]) rfl (by decide) rfl rfl rfl rfl ?_
              refine x_goto 35 (tgt := 24) rfl (by decide) ?_
              exact ihL3 (w + (-1)) (by omega) (by intro t h1 h2; by_cases e : t = w; (subst e; rintro (h | h) <;> contradiction); (exact hN t (by omega) h2)) (by omega)
    exact loopL3 ((((sum / 2)) + 1) + 1 : Int).toNat (sum / 2) (by omega) (fun t h1 h2 => by omega) (by omega)
  · refine x_iconst 12 rfl ?_
    refine x_ret 13 (some (vI ((-1)))) rfl ⟨rfl, Or.inl rfl⟩ ⟨congrArg (fun z => some (vI z)) ?_, rfl⟩
    refine (evZ_none (fun t h1 h2 => ?_)).symm
    have hz := hz1.mp (by omega)
    have hl0 : l (q + 1) x = 0#64 := by have := hz; apply BitVec.eq_of_getLsbD_eq; intro k hk; have := congrArg (fun z => z.getLsbD k) this; simp [BitVec.getLsbD_or] at this ⊢; exact this.1
    have hl1 : l (q + 2) x = 0#64 := by have := hz; apply BitVec.eq_of_getLsbD_eq; intro k hk; have := congrArg (fun z => z.getLsbD k) this; simp [BitVec.getLsbD_or] at this ⊢; exact this.2
    unfold spB; rw [hl0, hl1]; simp
set_option maxRecDepth 20000 in
set_option maxHeartbeats 2000000 in
theorem c_bits {i : Nat → Int → Int} {l : Nat → Int → BitVec 64} {a b : Int} (ha : -1000 ≤ a ∧ a ≤ 1000) (hb : -1000 ≤ b ∧ b ≤ 1000) : mCtr m_X6_bits 1 0 0 [vI (a), vI (b)] (st nn i l) (qL (bitsE a b) (st nn i l)) := by
  refine mCtr_of pl_X6 dc_X6_bits (Nat.le_of_ble_eq_true rfl) rfl ?_
  show mX m_X6_bits 1 _ 0 0 0 [some (vI (a)), some (vI (b)), none, none] [] (st nn i l)
  refine x_iload_n 0 rfl rfl ?_
  refine x_if_le 1 (tgt := 8) rfl (by decide) (by omega) (fun h1 => ?_) (fun h1 => ?_)
  · refine x_iconst 4 rfl ?_
    refine x_istore_n 5 (L' := [some (vI (a)), some (vI (b)), some (vI (0)), none]) rfl (by decide) rfl rfl ?_
    refine x_iload_n 6 rfl rfl ?_
    refine x_bipush 7 rfl (by decide) ?_
    refine x_icmp_ge 8 (tgt := 20) rfl (by decide) (by omega) (fun h2 => ?_) (fun h2 => ?_)
    · refine x_bipush 11 rfl (by decide) ?_
      refine x_istore_n 12 (L' := [some (vI (a)), some (vI (b)), some (vI (0)), some (vI (63))]) rfl (by decide) rfl rfl ?_
      refine x_iload_n 13 rfl rfl ?_
      refine x_iload_n 14 rfl rfl ?_
      refine x_icmp_le 15 (tgt := 32) rfl (by decide) (by decide) (fun h3 => ?_) (fun h3 => absurd h3 (by decide))
      refine x_ldc2 18 (r := (-1 : BitVec 64)) rfl ck_X6_30 rfl ?_
      refine x_bipush 19 rfl (by decide) ?_
      refine x_iload_n 20 rfl rfl ?_
      refine x_iload_n 21 rfl rfl ?_
      refine x_isub 22 (r := 63 - 0) rfl rfl ?_
      refine x_isub 23 (r := 63 - (63 - 0)) rfl rfl ?_
      refine x_lushr 24 (r := (-1 : BitVec 64) >>> (63 - (63 - 0) : Int).toNat) rfl (by omega) rfl ?_
      refine x_iload_n 25 rfl rfl ?_
      refine x_lshl 26 (r := ((-1 : BitVec 64) >>> (63 - (63 - 0) : Int).toNat) <<< (0 : Int).toNat) rfl (by omega) rfl ?_
      refine x_ret 27 (some (vL (((-1 : BitVec 64) >>> (63 - (63 - 0) : Int).toNat) <<< (0 : Int).toNat))) rfl ⟨rfl, rfl⟩ ⟨congrArg (fun z => some (vL z)) ?_, rfl⟩
      unfold bitsE
      first | (rw [show (if 0 < a then a else 0) = a from if_pos (by omega)]) | (rw [show (if 0 < a then a else 0) = 0 from if_neg (by omega)])
      first | (rw [show (if b < 63 then b else 63) = b from if_pos (by omega)]) | (rw [show (if b < 63 then b else 63) = 63 from if_neg (by omega)])
      first | (rw [if_pos (by omega)]) | (rw [if_neg (by omega)])
    · refine x_iload_n 9 rfl rfl ?_
      refine x_goto 10 (tgt := 22) rfl (by decide) ?_
      refine x_istore_n 12 (L' := [some (vI (a)), some (vI (b)), some (vI (0)), some (vI (b))]) rfl (by decide) rfl rfl ?_
      refine x_iload_n 13 rfl rfl ?_
      refine x_iload_n 14 rfl rfl ?_
      refine x_icmp_le 15 (tgt := 32) rfl (by decide) (by omega) (fun h4 => ?_) (fun h4 => ?_)
      · refine x_ldc2 18 (r := (-1 : BitVec 64)) rfl ck_X6_30 rfl ?_
        refine x_bipush 19 rfl (by decide) ?_
        refine x_iload_n 20 rfl rfl ?_
        refine x_iload_n 21 rfl rfl ?_
        refine x_isub 22 (r := b - 0) rfl rfl ?_
        refine x_isub 23 (r := 63 - (b - 0)) rfl rfl ?_
        refine x_lushr 24 (r := (-1 : BitVec 64) >>> (63 - (b - 0) : Int).toNat) rfl (by omega) rfl ?_
        refine x_iload_n 25 rfl rfl ?_
        refine x_lshl 26 (r := ((-1 : BitVec 64) >>> (63 - (b - 0) : Int).toNat) <<< (0 : Int).toNat) rfl (by omega) rfl ?_
        refine x_ret 27 (some (vL (((-1 : BitVec 64) >>> (63 - (b - 0) : Int).toNat) <<< (0 : Int).toNat))) rfl ⟨rfl, rfl⟩ ⟨congrArg (fun z => some (vL z)) ?_, rfl⟩
        unfold bitsE
        first | (rw [show (if 0 < a then a else 0) = a from if_pos (by omega)]) | (rw [show (if 0 < a then a else 0) = 0 from if_neg (by omega)])
        first | (rw [show (if b < 63 then b else 63) = b from if_pos (by omega)]) | (rw [show (if b < 63 then b else 63) = 63 from if_neg (by omega)])
        first | (rw [if_pos (by omega)]) | (rw [if_neg (by omega)])
      · refine x_lconst 16 (v := 0#64) rfl rfl ?_
        refine x_goto 17 (tgt := 44) rfl (by decide) ?_
        refine x_ret 27 (some (vL (0#64))) rfl ⟨rfl, rfl⟩ ⟨congrArg (fun z => some (vL z)) ?_, rfl⟩
        unfold bitsE
        first | (rw [show (if 0 < a then a else 0) = a from if_pos (by omega)]) | (rw [show (if 0 < a then a else 0) = 0 from if_neg (by omega)])
        first | (rw [show (if b < 63 then b else 63) = b from if_pos (by omega)]) | (rw [show (if b < 63 then b else 63) = 63 from if_neg (by omega)])
        first | (rw [if_pos (by omega)]) | (rw [if_neg (by omega)])
  · refine x_iload_n 2 rfl rfl ?_
    refine x_goto 3 (tgt := 9) rfl (by decide) ?_
    refine x_istore_n 5 (L' := [some (vI (a)), some (vI (b)), some (vI (a)), none]) rfl (by decide) rfl rfl ?_
    refine x_iload_n 6 rfl rfl ?_
    refine x_bipush 7 rfl (by decide) ?_
    refine x_icmp_ge 8 (tgt := 20) rfl (by decide) (by omega) (fun h5 => ?_) (fun h5 => ?_)
    · refine x_bipush 11 rfl (by decide) ?_
      refine x_istore_n 12 (L' := [some (vI (a)), some (vI (b)), some (vI (a)), some (vI (63))]) rfl (by decide) rfl rfl ?_
      refine x_iload_n 13 rfl rfl ?_
      refine x_iload_n 14 rfl rfl ?_
      refine x_icmp_le 15 (tgt := 32) rfl (by decide) (by omega) (fun h6 => ?_) (fun h6 => ?_)
      · refine x_ldc2 18 (r := (-1 : BitVec 64)) rfl ck_X6_30 rfl ?_
        refine x_bipush 19 rfl (by decide) ?_
        refine x_iload_n 20 rfl rfl ?_
        refine x_iload_n 21 rfl rfl ?_
        refine x_isub 22 (r := 63 - a) rfl rfl ?_
        refine x_isub 23 (r := 63 - (63 - a)) rfl rfl ?_
        refine x_lushr 24 (r := (-1 : BitVec 64) >>> (63 - (63 - a) : Int).toNat) rfl (by omega) rfl ?_
        refine x_iload_n 25 rfl rfl ?_
        refine x_lshl 26 (r := ((-1 : BitVec 64) >>> (63 - (63 - a) : Int).toNat) <<< (a : Int).toNat) rfl (by omega) rfl ?_
        refine x_ret 27 (some (vL (((-1 : BitVec 64) >>> (63 - (63 - a) : Int).toNat) <<< (a : Int).toNat))) rfl ⟨rfl, rfl⟩ ⟨congrArg (fun z => some (vL z)) ?_, rfl⟩
        unfold bitsE
        first | (rw [show (if 0 < a then a else 0) = a from if_pos (by omega)]) | (rw [show (if 0 < a then a else 0) = 0 from if_neg (by omega)])
        first | (rw [show (if b < 63 then b else 63) = b from if_pos (by omega)]) | (rw [show (if b < 63 then b else 63) = 63 from if_neg (by omega)])
        first | (rw [if_pos (by omega)]) | (rw [if_neg (by omega)])
      · refine x_lconst 16 (v := 0#64) rfl rfl ?_
        refine x_goto 17 (tgt := 44) rfl (by decide) ?_
        refine x_ret 27 (some (vL (0#64))) rfl ⟨rfl, rfl⟩ ⟨congrArg (fun z => some (vL z)) ?_, rfl⟩
        unfold bitsE
        first | (rw [show (if 0 < a then a else 0) = a from if_pos (by omega)]) | (rw [show (if 0 < a then a else 0) = 0 from if_neg (by omega)])
        first | (rw [show (if b < 63 then b else 63) = b from if_pos (by omega)]) | (rw [show (if b < 63 then b else 63) = 63 from if_neg (by omega)])
        first | (rw [if_pos (by omega)]) | (rw [if_neg (by omega)])
    · refine x_iload_n 9 rfl rfl ?_
      refine x_goto 10 (tgt := 22) rfl (by decide) ?_
      refine x_istore_n 12 (L' := [some (vI (a)), some (vI (b)), some (vI (a)), some (vI (b))]) rfl (by decide) rfl rfl ?_
      refine x_iload_n 13 rfl rfl ?_
      refine x_iload_n 14 rfl rfl ?_
      refine x_icmp_le 15 (tgt := 32) rfl (by decide) (by omega) (fun h7 => ?_) (fun h7 => ?_)
      · refine x_ldc2 18 (r := (-1 : BitVec 64)) rfl ck_X6_30 rfl ?_
        refine x_bipush 19 rfl (by decide) ?_
        refine x_iload_n 20 rfl rfl ?_
        refine x_iload_n 21 rfl rfl ?_
        refine x_isub 22 (r := b - a) rfl rfl ?_
        refine x_isub 23 (r := 63 - (b - a)) rfl rfl ?_
        refine x_lushr 24 (r := (-1 : BitVec 64) >>> (63 - (b - a) : Int).toNat) rfl (by omega) rfl ?_
        refine x_iload_n 25 rfl rfl ?_
        refine x_lshl 26 (r := ((-1 : BitVec 64) >>> (63 - (b - a) : Int).toNat) <<< (a : Int).toNat) rfl (by omega) rfl ?_
        refine x_ret 27 (some (vL (((-1 : BitVec 64) >>> (63 - (b - a) : Int).toNat) <<< (a : Int).toNat))) rfl ⟨rfl, rfl⟩ ⟨congrArg (fun z => some (vL z)) ?_, rfl⟩
        unfold bitsE
        first | (rw [show (if 0 < a then a else 0) = a from if_pos (by omega)]) | (rw [show (if 0 < a then a else 0) = 0 from if_neg (by omega)])
        first | (rw [show (if b < 63 then b else 63) = b from if_pos (by omega)]) | (rw [show (if b < 63 then b else 63) = 63 from if_neg (by omega)])
        first | (rw [if_pos (by omega)]) | (rw [if_neg (by omega)])
      · refine x_lconst 16 (v := 0#64) rfl rfl ?_
        refine x_goto 17 (tgt := 44) rfl (by decide) ?_
        refine x_ret 27 (some (vL (0#64))) rfl ⟨rfl, rfl⟩ ⟨congrArg (fun z => some (vL z)) ?_, rfl⟩
        unfold bitsE
        first | (rw [show (if 0 < a then a else 0) = a from if_pos (by omega)]) | (rw [show (if 0 < a then a else 0) = 0 from if_neg (by omega)])
        first | (rw [show (if b < 63 then b else 63) = b from if_pos (by omega)]) | (rw [show (if b < 63 then b else 63) = 63 from if_neg (by omega)])
        first | (rw [if_pos (by omega)]) | (rw [if_neg (by omega)])
set_option maxRecDepth 20000 in
set_option maxHeartbeats 2000000 in
theorem c_reaches {i : Nat → Int → Int} {l : Nat → Int → BitVec 64} {q : Nat} (hq : isP bb q) {x a b : Int} (hx : 0 ≤ x ∧ x < 1024) (ha : -900 ≤ a ∧ a ≤ 900) (hb : -900 ≤ b ∧ b ≤ 900) : mCtr m_X6_reaches 2 0 0 [vR (some q), vI (x), vI (a), vI (b)] (st nn i l) (qB (∃ t : Int, 0 ≤ t ∧ t < 128 ∧ a ≤ t ∧ t ≤ b ∧ spB l q x t) (st nn i l)) := by
  refine mCtr_of pl_X6 dc_X6_reaches (Nat.le_of_ble_eq_true rfl) rfl ?_
  show mX m_X6_reaches 2 _ 0 0 0 [some (vR (some q)), some (vI (x)), some (vI (a)), some (vI (b))] [] (st nn i l)
  refine x_aload_n 0 rfl rfl ?_
  refine x_getR 1 (z := (q + 1)) rfl fl_X6_9 (isP_0 hq) (kP hq) rfl (rP0 hq) ?_
  refine x_iload_n 2 rfl rfl ?_
  refine x_lald 3 (z := l (q + 1) x) rfl (isP_1 hq) (kPl hq) (by omega) rfl ?_
  refine x_iload_n 4 rfl rfl ?_
  refine x_iload_n 5 rfl rfl ?_
  refine x_callS 6 m_X6_bits (c_bits (by omega) (by omega)) rfl ok_X6_bits ml_X6_26 st_X6_bits rfl (by decide) rfl (Nat.le_of_ble_eq_true rfl) rfl rfl (fun v g q1 => ?_)
  obtain ⟨rfl, rfl⟩ := q1
  show mX m_X6_reaches 2 _ 0 0 _ _ [vL (bitsE a b), vL (l (q + 1) x)] _
  refine x_land 7 (r := (l (q + 1) x) &&& (bitsE a b)) rfl rfl ?_
  refine x_lconst 8 (v := 0#64) rfl rfl ?_
  refine x_lcmp 9 rfl (fun z2 hz2 gz2 fz2 => ?_)
  refine x_if_ne 10 (tgt := 40) rfl (by decide) (by omega) (fun h3 => ?_) (fun h3 => ?_)
  · refine x_iconst 26 rfl ?_
    refine x_goto 27 (tgt := 45) rfl (by decide) ?_
    refine x_ret 29 (some (vI (1))) rfl ⟨rfl, Or.inr ⟨rfl, by omega⟩⟩ ⟨rfl, Or.inl ⟨?_, rfl⟩⟩
    exact sp_iff.mpr (Or.inl (fun e => h3 (hz2.mpr e)))
  · refine x_aload_n 11 rfl rfl ?_
    refine x_getR 12 (z := (q + 2)) rfl fl_X6_15 (isP_0 hq) (kP hq) rfl (rP1 hq) ?_
    refine x_iload_n 13 rfl rfl ?_
    refine x_lald 14 (z := l (q + 2) x) rfl (isP_2 hq) (kPh hq) (by omega) rfl ?_
    refine x_iload_n 15 rfl rfl ?_
    refine x_bipush 16 rfl (by decide) ?_
    refine x_isub 17 (r := a - 64) rfl rfl ?_
    refine x_iload_n 18 rfl rfl ?_
    refine x_bipush 19 rfl (by decide) ?_
    refine x_isub 20 (r := b - 64) rfl rfl ?_
    refine x_callS 21 m_X6_bits (c_bits (by omega) (by omega)) rfl ok_X6_bits ml_X6_26 st_X6_bits rfl (by decide) rfl (Nat.le_of_ble_eq_true rfl) rfl rfl (fun v g q4 => ?_)
    obtain ⟨rfl, rfl⟩ := q4
    show mX m_X6_reaches 2 _ 0 0 _ _ [vL (bitsE (a - 64) (b - 64)), vL (l (q + 2) x)] _
    refine x_land 22 (r := (l (q + 2) x) &&& (bitsE (a - 64) (b - 64))) rfl rfl ?_
    refine x_lconst 23 (v := 0#64) rfl rfl ?_
    refine x_lcmp 24 rfl (fun z5 hz5 gz5 fz5 => ?_)
    refine x_if_eq 25 (tgt := 44) rfl (by decide) (by omega) (fun h6 => ?_) (fun h6 => ?_)
    · refine x_iconst 28 rfl ?_
      refine x_ret 29 (some (vI (0))) rfl ⟨rfl, Or.inr ⟨rfl, by omega⟩⟩ ⟨rfl, Or.inr ⟨?_, rfl⟩⟩
      exact fun hh => (sp_iff.mp hh).elim (fun e => e (hz2.mp h3)) (fun e => e (hz5.mp h6))
    · refine x_iconst 26 rfl ?_
      refine x_goto 27 (tgt := 45) rfl (by decide) ?_
      refine x_ret 29 (some (vI (1))) rfl ⟨rfl, Or.inr ⟨rfl, by omega⟩⟩ ⟨rfl, Or.inl ⟨?_, rfl⟩⟩
      exact sp_iff.mpr (Or.inr (fun e => h6 (hz5.mpr e)))
