/-! the other book's placing: words -/
/-- the first part from f on of the set m, -9 if there is none -/
def np4 (b0 b1 b2 b3 f : Int) : Int := if f ≤ 0 ∧ b0 = 1 then 0 else if f ≤ 1 ∧ b1 = 1 then 1 else if f ≤ 2 ∧ b2 = 1 then 2 else if f ≤ 3 ∧ b3 = 1 then 3 else -9
def nb4 (b0 b1 b2 b3 p : Int) : Prop := (p = 0 ∧ b0 = 1) ∨ (p = 1 ∧ b1 = 1) ∨ (p = 2 ∧ b2 = 1) ∨ (p = 3 ∧ b3 = 1)
def npZ (m f : Int) : Int := np4 (m % 2) (m / 2 % 2) (m / 4 % 2) (m / 8 % 2) f
def nbt (m p : Int) : Prop := nb4 (m % 2) (m / 2 % 2) (m / 4 % 2) (m / 8 % 2) p
theorem nbt_pow {m p : Int} (hp : 0 ≤ p ∧ p < 4) : nbt m p ↔ m / 2 ^ p.toNat % 2 = 1 := by
  unfold nbt nb4
  rcases (show p = 0 ∨ p = 1 ∨ p = 2 ∨ p = 3 by omega) with rfl | rfl | rfl | rfl
  · show _ ↔ m / 2 ^ 0 % 2 = 1
    rw [Int.pow_zero, Int.ediv_one]
    simp
  · show _ ↔ m / 2 ^ 1 % 2 = 1
    rw [show (2 : Int) ^ 1 = 2 from rfl]
    simp
  · show _ ↔ m / 2 ^ 2 % 2 = 1
    rw [show (2 : Int) ^ 2 = 4 from rfl]
    simp
  · show _ ↔ m / 2 ^ 3 % 2 = 1
    rw [show (2 : Int) ^ 3 = 8 from rfl]
    simp
theorem nbt_vB {m p : Int} (hm : 0 ≤ m ∧ m ≤ 15) (hp : 0 ≤ p ∧ p < 4) : vB m p.toNat ↔ nbt m p := by
  rw [nbt_pow hp]
  unfold vB
  have key : ∀ a : Nat, a < 16 → ∀ b : Nat, b < 4 → ((BitVec.ofInt 64 (a : Int)).getLsbD b = true ↔ (a : Int) / 2 ^ b % 2 = 1) := by decide +kernel
  have := key m.toNat (by omega) p.toNat (by omega)
  rw [Int.toNat_of_nonneg hm.1] at this
  exact this
theorem np4_sp (b0 b1 b2 b3 f : Int) : (np4 b0 b1 b2 b3 f = -9 ∧ ∀ q, f ≤ q → 0 ≤ q → q < 4 → ¬ nb4 b0 b1 b2 b3 q) ∨ ((f ≤ np4 b0 b1 b2 b3 f ∧ 0 ≤ np4 b0 b1 b2 b3 f ∧ np4 b0 b1 b2 b3 f < 4) ∧ nb4 b0 b1 b2 b3 (np4 b0 b1 b2 b3 f) ∧ ∀ q, f ≤ q → 0 ≤ q → q < np4 b0 b1 b2 b3 f → ¬ nb4 b0 b1 b2 b3 q) := by
  unfold np4 nb4
  split
  · right; refine ⟨by omega, by omega, fun q h0 h1 h2 => by omega⟩
  · split
    · right; refine ⟨by omega, by omega, fun q h0 h1 h2 => by omega⟩
    · split
      · right; refine ⟨by omega, by omega, fun q h0 h1 h2 => by omega⟩
      · split
        · right; refine ⟨by omega, by omega, fun q h0 h1 h2 => by omega⟩
        · left; refine ⟨rfl, fun q h0 h1 h2 => by omega⟩
theorem npZ_sp (m f : Int) : (npZ m f = -9 ∧ ∀ q, f ≤ q → 0 ≤ q → q < 4 → ¬ nbt m q) ∨ ((f ≤ npZ m f ∧ 0 ≤ npZ m f ∧ npZ m f < 4) ∧ nbt m (npZ m f) ∧ ∀ q, f ≤ q → 0 ≤ q → q < npZ m f → ¬ nbt m q) := np4_sp _ _ _ _ f
theorem npZ_hit {m f x : Int} (hx : f ≤ x ∧ 0 ≤ x ∧ x < 4) (hb : nbt m x) (hn : ∀ q, f ≤ q → 0 ≤ q → q < x → ¬ nbt m q) : npZ m f = x := by
  rcases npZ_sp m f with h | h
  · exact absurd hb (h.2 x hx.1 hx.2.1 hx.2.2)
  · have a1 : ¬ npZ m f < x := fun q => hn _ h.1.1 h.1.2.1 q h.2.1
    have a2 : ¬ x < npZ m f := fun q => h.2.2 x hx.1 hx.2.1 q hb
    exact Int.le_antisymm (Int.not_lt.mp a2) (Int.not_lt.mp a1)
theorem npZ_none {m f : Int} (hn : ∀ q, f ≤ q → 0 ≤ q → q < 4 → ¬ nbt m q) : npZ m f = -9 := by
  rcases npZ_sp m f with h | h
  · exact h.1
  · exact absurd h.2.1 (hn _ h.1.1 h.1.2.1 h.1.2.2)
theorem nbt_0 (p : Int) : ¬ nbt 0 p := by
  show ¬ nb4 (0 % 2) (0 / 2 % 2) (0 / 4 % 2) (0 / 8 % 2) p
  unfold nb4
  omega
theorem nbt_some {m : Int} (hm : 0 ≤ m ∧ m ≤ 15) (h0 : m ≠ 0) : ∃ p, 0 ≤ p ∧ p < 4 ∧ nbt m p := by
  have key : ∀ a : Nat, a < 16 → a ≠ 0 → ((a : Int) / 2 ^ 0 % 2 = 1 ∨ (a : Int) / 2 ^ 1 % 2 = 1 ∨ (a : Int) / 2 ^ 2 % 2 = 1 ∨ (a : Int) / 2 ^ 3 % 2 = 1) := by decide
  have := key m.toNat (by omega) (by omega)
  rw [Int.toNat_of_nonneg hm.1] at this
  rcases this with h | h | h | h
  · exact ⟨0, by omega, by omega, (nbt_pow (by omega)).mpr h⟩
  · exact ⟨1, by omega, by omega, (nbt_pow (by omega)).mpr h⟩
  · exact ⟨2, by omega, by omega, (nbt_pow (by omega)).mpr h⟩
  · exact ⟨3, by omega, by omega, (nbt_pow (by omega)).mpr h⟩
theorem npZ_bd (m f : Int) : npZ m f = -9 ∨ (0 ≤ npZ m f ∧ npZ m f < 4) := by
  rcases npZ_sp m f with h | h
  · exact Or.inl h.1
  · exact Or.inr ⟨h.1.2.1, h.1.2.2⟩
theorem npZ_0 (f : Int) : npZ 0 f = -9 := npZ_none (fun q _ _ _ h => nbt_0 q h)
theorem vmk_bd (W : Int → Int) (y k : Int) : 0 ≤ vmk W y k ∧ vmk W y k ≤ 15 := by
  have := gFits_bd W k
  unfold vmk
  split <;> omega
theorem va_first (W : Int → Int) (y : Int) (a : Int → Int) (k : Int) (h : a k = npZ (vmk W y k) 0) : vaK W y a k := by
  have hb := vmk_bd W y k
  unfold vaK
  rw [h]
  by_cases e : vmk W y k = 0
  · left; rw [e, npZ_0]; exact ⟨rfl, rfl⟩
  · right
    rcases npZ_sp (vmk W y k) 0 with q | q
    · exfalso
      obtain ⟨p, p0, p1, p2⟩ := nbt_some hb e
      exact q.2 p p0 p0 p1 p2
    · exact ⟨e, ⟨q.1.2.1, q.1.2.2⟩, (nbt_vB hb ⟨q.1.2.1, q.1.2.2⟩).mpr q.2.1⟩
/-- a part that fits is no lower than the first -/
theorem va_low {W : Int → Int} {y : Int} {c : Int → Int} {k : Int} (h : vaK W y c k) : dgt (npZ (vmk W y k) 0) ≤ dgt (c k) := by
  have hb := vmk_bd W y k
  unfold vaK at h
  unfold dgt
  rcases h with ⟨h1, h2⟩ | ⟨h1, h2, h3⟩
  · rw [h1, npZ_0, h2]; omega
  · have h4 := (nbt_vB hb h2).mp h3
    rcases npZ_sp (vmk W y k) 0 with q | q
    · exact absurd h4 (q.2 _ h2.1 h2.1 h2.2)
    · have := q.2.2 (c k)
      by_cases e : c k < npZ (vmk W y k) 0
      · exact absurd h4 (this h2.1 h2.1 e)
      · rw [if_neg (by omega), if_neg (by omega)]; omega
theorem rk_le {a c : Int → Int} {j : Nat} (n : Nat) (hj : j ≤ n) (h : ∀ k : Nat, j ≤ k → k < n → dgt (a k) ≤ dgt (c k)) (hr : rkN a j ≤ rkN c j) : rkN a n ≤ rkN c n := by
  induction n with
  | zero => rw [show j = 0 by omega] at hr; exact hr
  | succ n ih =>
    by_cases e : j = n + 1
    · rw [← e]; exact hr
    · have i1 := ih (by omega) (fun k h0 h1 => h k h0 (by omega))
      have := h n (by omega) (by omega)
      show 4 * rkN a n + dgt (a n) ≤ 4 * rkN c n + dgt (c n)
      omega
theorem rk_bd {a : Int → Int} (n : Nat) (h : ∀ k : Nat, k < n → 0 ≤ dgt (a k) ∧ dgt (a k) ≤ 3) : 0 ≤ rkN a n ∧ rkN a n < 4 ^ n := by
  induction n with
  | zero => show 0 ≤ (0 : Int) ∧ (0 : Int) < 4 ^ 0; decide
  | succ n ih =>
    have i1 := ih (fun k hk => h k (by omega))
    have := h n (by omega)
    rw [Int.pow_succ]
    show 0 ≤ 4 * rkN a n + dgt (a n) ∧ 4 * rkN a n + dgt (a n) < 4 ^ n * 4
    omega
theorem rkW_bd {W : Int → Int} {y : Int} {a : Int → Int} (hn : W 11 ≤ 10) (h : vaA W y a) : 0 ≤ rkW W a ∧ rkW W a < 1048576 := by
  have h1 := rk_bd (W 11).toNat (fun k hk => dgt_bd (h k hk))
  have h2 : (4 : Nat) ^ (W 11).toNat ≤ 4 ^ 10 := Nat.pow_le_pow_right (by decide) (by omega)
  have e : ((4 ^ (W 11).toNat : Nat) : Int) = 4 ^ (W 11).toNat := by simp
  unfold rkW
  omega
/-- what is known behind all ways of a rank below R -/
def opV (W : Int → Int) (y bl bm : Int) (b : Int → Int) (R : Int) : Prop := ((bl = -1 ∧ bm = 0 ∧ ∀ c, vaA W y c → R ≤ rkW W c) ∨ (vaA W y b ∧ bl = loF (gsZ W b) ∧ bm = hiF (gsZ W b) ∧ rkW W b < R)) ∧ ∀ c, vaA W y c → rkW W c < R → ¬ btr (loF (gsZ W c)) (hiF (gsZ W c)) bl bm ∧ (rkW W c < rkW W b → btr bl bm (loF (gsZ W c)) (hiF (gsZ W c)))
theorem opV_to {W : Int → Int} {y bl bm : Int} {b : Int → Int} {R R' : Int} (h : opV W y bl bm b R) (hR : R ≤ R') (h2 : ∀ c, vaA W y c → rkW W c < R' → rkW W c < R) : opV W y bl bm b R' := by
  obtain ⟨h1, h3⟩ := h
  refine ⟨?_, fun c hc hr => h3 c hc (h2 c hc hr)⟩
  rcases h1 with ⟨q1, q2, q3⟩ | ⟨q1, q2, q3, q4⟩
  · refine Or.inl ⟨q1, q2, fun c hc => ?_⟩
    have a1 := q3 c hc
    have a2 := h2 c hc
    omega
  · exact Or.inr ⟨q1, q2, q3, by omega⟩
theorem opV_end {W : Int → Int} {y bl bm : Int} {b a : Int → Int} {R : Int} (h : opV W y bl bm b R) (ha : vaA W y a) (h2 : ∀ c, vaA W y c → rkW W c < R) : opB W y bl bm b := by
  obtain ⟨h1, h3⟩ := h
  rcases h1 with ⟨q1, q2, q3⟩ | ⟨q1, q2, q3, q4⟩
  · have a1 := q3 a ha
    have a2 := h2 a ha
    omega
  · exact ⟨q1, q2, q3, fun c hc => h3 c hc (h2 c hc)⟩
theorem gsN_nn {W : Int → Int} {a : Int → Int} {p : Int} (n : Nat) (h : ∀ k : Nat, k < n → 1 ≤ sV W k 0 ∧ sV W k 0 ≤ 9) : 0 ≤ gsN W a p n ∧ gsN W a p n ≤ 9 * n := by
  induction n with
  | zero => exact ⟨Int.le_refl _, Int.le_refl _⟩
  | succ n ih =>
    have i1 := ih (fun k hk => h k (by omega))
    have := h n (by omega)
    rw [gsN_s]
    split <;> omega
theorem gsZ_bd {W : Int → Int} (hW : okW W) (a : Int → Int) (p : Int) : 0 ≤ gsZ W a p ∧ gsZ W a p ≤ 90 := by
  have hN := hW.n
  have := gsN_nn (W := W) (a := a) (p := p) (W 11).toNat (fun k hk => (hW.v (show 0 ≤ (k : Int) by omega) (by omega)).1)
  unfold gsZ
  omega
/-- the one way more: judged -/
theorem opV_judge {W : Int → Int} {y bl bm : Int} {b a : Int → Int} (hW : okW W) (ha : vaA W y a) (h : opV W y bl bm b (rkW W a)) {bl' bm' : Int} {b' : Int → Int}
    (hj : (btr (loF (gsZ W a)) (hiF (gsZ W a)) bl bm ∧ bl' = loF (gsZ W a) ∧ bm' = hiF (gsZ W a) ∧ ∀ k : Nat, k < (W 11).toNat → b' k = a k) ∨ (¬ btr (loF (gsZ W a)) (hiF (gsZ W a)) bl bm ∧ bl' = bl ∧ bm' = bm ∧ b' = b))
    (hinj : ∀ c, vaA W y c → rkW W c = rkW W a → ∀ k : Nat, k < (W 11).toNat → c k = a k) : opV W y bl' bm' b' (rkW W a + 1) := by
  obtain ⟨h1, h3⟩ := h
  have hsame : ∀ c, vaA W y c → rkW W c = rkW W a → ∀ p, gsZ W c p = gsZ W a p := fun c hc e p => gsN_congr (hinj c hc e)
  have hcase : ∀ c, vaA W y c → rkW W c < rkW W a + 1 → rkW W c < rkW W a ∨ rkW W c = rkW W a := fun c _ e => by omega
  rcases hj with ⟨j1, j2, j3, j4⟩ | ⟨j1, j2, j3, j4⟩
  · have eb : ∀ p, gsZ W b' p = gsZ W a p := fun p => gsN_congr j4
    have er : rkW W b' = rkW W a := rk_congr j4
    have vb : vaA W y b' := fun k hk => by unfold vaK; rw [j4 k hk]; exact ha k hk
    refine ⟨Or.inr ⟨vb, ?_, ?_, by omega⟩, fun c hc hr => ?_⟩
    · rw [j2]; unfold loF; rw [eb, eb, eb, eb]
    · rw [j3]; unfold hiF; rw [eb, eb, eb, eb]
    · rw [j2, j3, er]
      rcases hcase c hc hr with q | q
      · have z := (h3 c hc q).1
        unfold btr at z j1 ⊢
        omega
      · have s := hsame c hc q
        have e1 : loF (gsZ W c) = loF (gsZ W a) := by unfold loF; rw [s, s, s, s]
        have e2 : hiF (gsZ W c) = hiF (gsZ W a) := by unfold hiF; rw [s, s, s, s]
        rw [e1, e2]
        unfold btr
        omega
  · subst j2; subst j3; subst j4
    refine ⟨?_, fun c hc hr => ?_⟩
    · rcases h1 with ⟨q1, q2, q3⟩ | ⟨q1, q2, q3, q4⟩
      · exfalso
        apply j1
        have b0 := gsZ_bd hW a 0
        have b1 := gsZ_bd hW a 1
        have b2 := gsZ_bd hW a 2
        have b3 := gsZ_bd hW a 3
        unfold btr loF
        omega
      · exact Or.inr ⟨q1, q2, q3, by omega⟩
    · rcases hcase c hc hr with q | q
      · exact h3 c hc q
      · have s := hsame c hc q
        have e1 : loF (gsZ W c) = loF (gsZ W a) := by unfold loF; rw [s, s, s, s]
        have e2 : hiF (gsZ W c) = hiF (gsZ W a) := by unfold hiF; rw [s, s, s, s]
        rw [e1, e2]
        refine ⟨j1, fun hlt => ?_⟩
        rcases h1 with ⟨q1, q2, q3⟩ | ⟨q1, q2, q3, q4⟩
        · exfalso
          apply j1
          have b0 := gsZ_bd hW a 0
          have b1 := gsZ_bd hW a 1
          have b2 := gsZ_bd hW a 2
          have b3 := gsZ_bd hW a 3
          unfold btr loF
          omega
        · omega
theorem rk_inj {W : Int → Int} {y : Int} {a c : Int → Int} (n : Nat) (ha : ∀ k : Nat, k < n → vaK W y a k) (hc : ∀ k : Nat, k < n → vaK W y c k) (h : rkN c n = rkN a n) : ∀ k : Nat, k < n → c k = a k := by
  induction n with
  | zero => intro k hk; omega
  | succ n ih =>
    have d1 := dgt_bd (ha n (by omega))
    have d2 := dgt_bd (hc n (by omega))
    have e : 4 * rkN c n + dgt (c n) = 4 * rkN a n + dgt (a n) := h
    have i1 := ih (fun k hk => ha k (by omega)) (fun k hk => hc k (by omega)) (by omega)
    intro k hk
    by_cases q : k = n
    · subst q
      have h1 := ha k (by omega)
      have h2 := hc k (by omega)
      have e2 : dgt (c k) = dgt (a k) := by omega
      unfold vaK at h1 h2
      unfold dgt at e2
      rcases h1 with ⟨q1, q2⟩ | ⟨q1, q2, q3⟩
      · rcases h2 with ⟨r1, r2⟩ | ⟨r1, r2, r3⟩
        · omega
        · exact absurd q1 r1
      · rcases h2 with ⟨r1, r2⟩ | ⟨r1, r2, r3⟩
        · exact absurd r1 q1
        · rw [if_neg (by omega), if_neg (by omega)] at e2; exact e2
    · exact i1 k (by omega)
/-- where the search stands between two ways: u the place that is looked at, f whether the next way is found -/
def fbP (W : Int → Int) (y : Int) (a0 b : Int → Int) (u f : Int) : Prop := (f = 0 ∧ (∀ q : Nat, (q : Int) ≤ u → b q = a0 q) ∧ (∀ q : Nat, u < q → q < (W 11).toNat → b q = npZ (vmk W y q) 0) ∧ ∀ c, vaA W y c → rkN c (u + 1).toNat ≤ rkN a0 (u + 1).toNat → rkW W c ≤ rkW W a0) ∨ (f = 1 ∧ 0 ≤ u ∧ rkW W a0 < rkW W b ∧ ∀ c, vaA W y c → rkW W c < rkW W b → rkW W c ≤ rkW W a0)
theorem fb_start {W : Int → Int} {y : Int} {a0 : Int → Int} (hn : 0 ≤ W 11) : fbP W y a0 a0 (W 11 - 1) 0 := by
  refine Or.inl ⟨rfl, fun q _ => rfl, fun q h0 h1 => by omega, fun c _ h => ?_⟩
  rw [show (W 11 - 1 + 1).toNat = (W 11).toNat by omega] at h
  exact h
theorem fb_found {W : Int → Int} {y : Int} {a0 b b' : Int → Int} {u v : Int} (hu : 0 ≤ u ∧ u < W 11) (h : fbP W y a0 b u 0) (ha : vaA W y a0) (hb : vaA W y b) (hv : v = npZ (vmk W y u) (b u + 1)) (h0 : 0 ≤ b u) (h9 : v ≠ -9) (hb' : ∀ q : Nat, b' q = if (q : Int) = u then v else b q) : vaA W y b' ∧ fbP W y a0 b' u 1 := by
  obtain ⟨m, rfl⟩ : ∃ m : Nat, u = (m : Int) := ⟨u.toNat, by omega⟩
  have hm : m < (W 11).toNat := by omega
  rcases h with ⟨-, g1, g2, g3⟩ | ⟨q, -⟩
  rotate_left
  · omega
  rw [show ((m : Int) + 1).toNat = m + 1 by omega] at g3
  have hbd := vmk_bd W y m
  have ebm : b m = a0 m := g1 m (Int.le_refl _)
  rcases npZ_sp (vmk W y m) (b m + 1) with q | ⟨q1, q2, q3⟩
  · exact absurd (hv.trans q.1) h9
  rw [← hv] at q1 q2 q3
  have e1 : ∀ k : Nat, k < m → b' k = a0 k := fun k hk => by rw [hb', if_neg (by omega)]; exact g1 k (by omega)
  have e2 : b' m = v := by rw [hb', if_pos rfl]
  have e3 : ∀ k : Nat, m < k → b' k = b k := fun k hk => by rw [hb', if_neg (by omega)]
  have hne : vmk W y m ≠ 0 := fun e => by rw [e] at q2; exact nbt_0 _ q2
  have hvb : vaA W y b' := by
    intro k hk
    rcases Nat.lt_trichotomy k m with hh | hh | hh
    · unfold vaK; rw [e1 k hh]; exact ha k hk
    · subst hh
      unfold vaK
      rw [e2]
      exact Or.inr ⟨hne, ⟨q1.2.1, q1.2.2⟩, (nbt_vB hbd ⟨q1.2.1, q1.2.2⟩).mpr q2⟩
    · unfold vaK; rw [e3 k hh]; exact hb k hk
  have eR : rkN b' m = rkN a0 m := rk_congr e1
  have dv : dgt v = v := if_neg (by omega)
  have da : dgt (a0 m) = a0 m := if_neg (by omega)
  refine ⟨hvb, Or.inr ⟨rfl, by omega, ?_, fun c hc hr => ?_⟩⟩
  · refine rk_lt (j := m + 1) (W 11).toNat hm (fun k hk => dgt_bd (hvb k hk)) (fun k hk => dgt_bd (ha k hk)) ?_
    show 4 * rkN a0 m + dgt (a0 m) < 4 * rkN b' m + dgt (b' m)
    rw [eR, e2, dv, da]
    omega
  · apply g3 c hc
    have hlt : rkN c (m + 1) < rkN b' (m + 1) := by
      apply Classical.byContradiction
      intro hno
      have := rk_le (j := m + 1) (W 11).toNat hm (fun k h0 h1 => by rw [e3 k (by omega), g2 k (by omega) h1]; exact va_low (hc k h1)) (show rkN b' (m + 1) ≤ rkN c (m + 1) by omega)
      unfold rkW at hr
      omega
    have hlt' : 4 * rkN c m + dgt (c m) < 4 * rkN b' m + dgt (b' m) := hlt
    rw [eR, e2, dv] at hlt'
    show 4 * rkN c m + dgt (c m) ≤ 4 * rkN a0 m + dgt (a0 m)
    rw [da]
    have dc := dgt_bd (hc m hm)
    by_cases hR : rkN c m = rkN a0 m
    · have hcm := hc m hm
      unfold vaK at hcm
      rcases hcm with z | ⟨z1, z2, z3⟩
      · exact absurd z.1 hne
      · have z4 := (nbt_vB hbd z2).mp z3
        have dcm : dgt (c m) = c m := if_neg (by omega)
        rw [dcm] at hlt' ⊢
        by_cases hle : b m + 1 ≤ c m
        · exact absurd z4 (q3 (c m) hle z2.1 (by omega))
        · omega
    · omega
theorem fb_next {W : Int → Int} {y : Int} {a0 b b' : Int → Int} {u : Int} (hu : 0 ≤ u ∧ u < W 11) (h : fbP W y a0 b u 0) (ha : vaA W y a0) (hb : vaA W y b) (h9 : b u < 0 ∨ npZ (vmk W y u) (b u + 1) = -9) (hb' : ∀ q : Nat, b' q = if (q : Int) = u then npZ (vmk W y u) 0 else b q) : vaA W y b' ∧ fbP W y a0 b' (u - 1) 0 := by
  obtain ⟨m, rfl⟩ : ∃ m : Nat, u = (m : Int) := ⟨u.toNat, by omega⟩
  have hm : m < (W 11).toNat := by omega
  rcases h with ⟨-, g1, g2, g3⟩ | ⟨q, -⟩
  rotate_left
  · omega
  rw [show ((m : Int) + 1).toNat = m + 1 by omega] at g3
  have hbd := vmk_bd W y m
  have ebm : b m = a0 m := g1 m (Int.le_refl _)
  have e2 : b' m = npZ (vmk W y m) 0 := by rw [hb', if_pos rfl]
  have e3 : ∀ k : Nat, k ≠ m → b' k = b k := fun k hk => by rw [hb', if_neg (by omega)]
  have hvb : vaA W y b' := by
    intro k hk
    by_cases e : k = m
    · subst e; exact va_first W y b' k e2
    · unfold vaK; rw [e3 k e]; exact hb k hk
  refine ⟨hvb, Or.inl ⟨rfl, fun q hq => by rw [e3 q (by omega)]; exact g1 q (by omega), fun q h0 h1 => ?_, fun c hc hr => ?_⟩⟩
  · by_cases e : q = m
    · rw [e]; exact e2
    · rw [e3 q e]; exact g2 q (by omega) h1
  · rw [show ((m : Int) - 1 + 1).toNat = m by omega] at hr
    apply g3 c hc
    show 4 * rkN c m + dgt (c m) ≤ 4 * rkN a0 m + dgt (a0 m)
    have dc := dgt_bd (hc m hm)
    have d0 := dgt_bd (ha m hm)
    by_cases hR : rkN c m = rkN a0 m
    · have hcm := hc m hm
      have ham := ha m hm
      unfold vaK at hcm ham
      have : dgt (c m) ≤ dgt (a0 m) := by
        rcases hcm with z | ⟨z1, z2, z3⟩
        · unfold dgt
          rw [z.2]
          split <;> omega
        · rcases ham with w | ⟨w1, w2, w3⟩
          · exact absurd w.1 z1
          · have z4 := (nbt_vB hbd z2).mp z3
            rw [ebm] at h9
            rcases h9 with h9 | h9
            · omega
            · rcases npZ_sp (vmk W y m) (a0 m + 1) with q | q
              · unfold dgt
                rw [if_neg (by omega), if_neg (by omega)]
                by_cases hle : a0 m + 1 ≤ c m
                · exact absurd z4 (q.2 (c m) hle z2.1 z2.2)
                · omega
              · omega
      omega
    · omega
theorem fb_last {W : Int → Int} {y bl bm : Int} {a0 b bb : Int → Int} {u : Int} (hu : u < 0 ∧ -1 ≤ u) (h : fbP W y a0 b u 0) (ha : vaA W y a0) (ho : opV W y bl bm bb (rkW W a0 + 1)) : opB W y bl bm bb := by
  rcases h with ⟨-, g1, g2, g3⟩ | ⟨q, -⟩
  rotate_left
  · omega
  rw [show (u + 1).toNat = 0 by omega] at g3
  refine opV_end ho ha (fun c hc => ?_)
  have := g3 c hc (Int.le_refl _)
  omega
theorem fb_more {W : Int → Int} {y bl bm : Int} {a0 b bb : Int → Int} {u f : Int} (hf : f ≠ 0) (h : fbP W y a0 b u f) (ho : opV W y bl bm bb (rkW W a0 + 1)) : opV W y bl bm bb (rkW W b) ∧ rkW W a0 < rkW W b := by
  rcases h with ⟨q, -⟩ | ⟨-, h0, h1, h2⟩
  · exact absurd q hf
  · refine ⟨opV_to ho (by omega) (fun c hc hr => ?_), h1⟩
    have := h2 c hc hr
    omega
/-- one part of one singer changed: the sums -/
theorem gsN_one {W : Int → Int} {a c : Int → Int} {p u v : Int} (n : Nat) (hu : 0 ≤ u ∧ u < n) (hc : ∀ q : Nat, c q = if (q : Int) = u then v else a q) : gsN W c p n = gsN W a p n - (if a u = p then sV W u 0 else 0) + (if v = p then sV W u 0 else 0) := by
  induction n with
  | zero => omega
  | succ n ih =>
    by_cases e : u = n
    · subst e
      have : gsN W c p n = gsN W a p n := gsN_congr (fun k hk => by rw [hc, if_neg (by omega)])
      rw [gsN_s, gsN_s, this, hc, if_pos rfl]
      omega
    · have ec : c n = a n := by rw [hc]; exact if_neg (fun z => e z.symm)
      rw [gsN_s, gsN_s, ih (by omega), ec]
      omega
/-- what stays while ways are looked through -/
def fbI (W : Int → Int) (y : Int) (i1 kk : Nat → Int → Int) : Prop := (∀ a b, a ≠ 194 → a ≠ 195 → a ≠ 196 → a ≠ 197 → ¬ (a = 189 ∧ (b = 9 ∨ b = 10 ∨ b = 15 ∨ b = 16)) → kk a b = i1 a b) ∧ (∀ q, 0 ≤ q → q < W 11 → kk 194 q = vmk W y q) ∧ vaA W y (kk 195) ∧ ∀ p, 0 ≤ p → p < 4 → kk 197 p = gsZ W (kk 195) p
def fbJ (W : Int → Int) (y : Int) (i1 jj : Nat → Int → Int) (k : Int) : Prop := (∀ a b, a ≠ 194 → a ≠ 195 → a ≠ 197 → ¬ (a = 189 ∧ (b = 9 ∨ b = 10)) → jj a b = i1 a b) ∧ (∀ q, 0 ≤ q → q < k → jj 194 q = vmk W y q ∧ jj 195 q = npZ (vmk W y q) 0) ∧ ∀ p, 0 ≤ p → p < 4 → jj 197 p = gsN W (jj 195) p k.toNat
theorem fbJ_step {W : Int → Int} {y k : Int} {i1 jj j1 s1 s2 s3 : Nat → Int → Int} (hk : 0 ≤ k ∧ k < W 11) (hfr : fr9 jj j1) (g1 : s1 = mU j1 194 k (vmk W y k)) (g2 : s2 = mU s1 195 k (npZ (vmk W y k) 0)) (g3 : ∀ a b, s3 a b = if a = 197 ∧ b = s2 195 k ∧ 0 ≤ b then s2 a b + 1 * sV (s2 190) k 0 else s2 a b) (h190 : jj 190 = W) (hJ : fbJ W y i1 jj k) : fbJ W y i1 s3 (k + 1) := by
  obtain ⟨h1, h2, h3⟩ := hJ
  have e195 : s2 195 k = npZ (vmk W y k) 0 := by rw [g2, mUs]
  have e190 : s2 190 = W := by funext b; rw [g2, mUne _ _ _ _ _ (by omega), g1, mUne _ _ _ _ _ (by omega), hfr 190 b (by omega), h190]
  rw [e195, e190] at g3
  have hne : ∀ a b, a ≠ 197 → s3 a b = s2 a b := fun a b q => by rw [g3, if_neg (fun z => q z.1)]
  have e5 : s3 195 = s2 195 := by funext b; exact hne 195 b (by omega)
  have e5q : ∀ q : Int, s2 195 q = if q = k then npZ (vmk W y k) 0 else jj 195 q := fun q => by
    rw [g2]
    by_cases e : q = k
    · rw [e, mUs, if_pos rfl]
    · rw [mUek _ _ _ _ e, if_neg e, g1, mUne _ _ _ _ _ (by omega), hfr 195 q (by omega)]
  refine ⟨fun a b q1 q2 q3 q4 => ?_, fun q q0 q1 => ⟨?_, ?_⟩, fun p p0 p1 => ?_⟩
  · rw [hne a b q3, g2, mUne _ _ _ _ _ q2, g1, mUne _ _ _ _ _ q1, hfr a b q4]; exact h1 a b q1 q2 q3 q4
  · rw [hne _ _ (by omega), g2, mUne _ _ _ _ _ (by omega), g1]
    by_cases e : q = k
    · rw [e, mUs]
    · rw [mUek _ _ _ _ e, hfr 194 q (by omega)]; exact (h2 q q0 (by omega)).1
  · rw [e5, e5q]
    by_cases e : q = k
    · rw [if_pos e, e]
    · rw [if_neg e]; exact (h2 q q0 (by omega)).2
  · rw [g3, e5, show (k + 1).toNat = k.toNat + 1 by omega, gsN_s, Int.toNat_of_nonneg hk.1, e5q k, if_pos rfl, gsN_congr (c := jj 195) (fun z hz => by rw [e5q, if_neg (by omega)]), ← h3 p p0 p1, show s2 197 p = jj 197 p by rw [g2, mUne _ _ _ _ _ (by omega), g1, mUne _ _ _ _ _ (by omega), hfr 197 p (by omega)]]
    by_cases e : p = npZ (vmk W y k) 0
    · rw [if_pos ⟨rfl, e, p0⟩, if_pos e.symm]; omega
    · rw [if_neg (fun z => e z.2.1), if_neg (fun z => e z.symm), Int.add_zero]
theorem fbJ_end {W : Int → Int} {y k : Int} {i1 jj : Nat → Int → Int} (hk : k = W 11) (hn : 0 ≤ W 11) (hJ : fbJ W y i1 jj k) : fbI W y i1 jj ∧ ∀ c, vaA W y c → rkW W (jj 195) ≤ rkW W c := by
  obtain ⟨h1, h2, h3⟩ := hJ
  subst hk
  refine ⟨⟨fun a b q1 q2 _ q3 q4 => h1 a b q1 q2 q3 (by omega), fun q q0 q1 => (h2 q q0 q1).1, fun q hq => va_first W y _ q (h2 q (by omega) (by omega)).2, h3⟩, fun c hc => ?_⟩
  exact rk_le (j := 0) (W 11).toNat (Nat.zero_le _) (fun q _ hq => by rw [(h2 q (by omega) (by omega)).2]; exact va_low (hc q hq)) (Int.le_refl _)
/-- one singer's part changed to v: taken out, laid, put in -/
theorem fbI_put {W : Int → Int} {y u v : Int} {i1 mm m1 m2 m3 : Nat → Int → Int} (hu : 0 ≤ u ∧ u < W 11) (hI : fbI W y i1 mm) (h190 : i1 190 = W) (g1 : ∀ a b, m1 a b = if a = 197 ∧ b = mm 195 u ∧ 0 ≤ b then mm a b + -1 * sV (mm 190) u 0 else mm a b) (g2 : m2 = mU m1 195 u v) (g3 : ∀ a b, m3 a b = if a = 197 ∧ b = m2 195 u ∧ 0 ≤ b then m2 a b + 1 * sV (m2 190) u 0 else m2 a b) :
    (∀ q : Int, m3 195 q = if q = u then v else mm 195 q) ∧ (∀ a b, a ≠ 195 → a ≠ 197 → m3 a b = mm a b) ∧ ∀ p, 0 ≤ p → p < 4 → m3 197 p = gsZ W (m3 195) p := by
  obtain ⟨h1, h2, h3, h4⟩ := hI
  have w0 : mm 190 = W := by rw [← h190]; funext b; exact h1 190 b (by omega) (by omega) (by omega) (by omega) (by omega)
  have w1 : m1 190 = W := by rw [← w0]; funext b; rw [g1, if_neg (by omega)]
  have w2 : m2 190 = W := by rw [← w1]; funext b; rw [g2, mUne _ _ _ _ _ (by omega)]
  have e2 : m2 195 u = v := by rw [g2, mUs]
  rw [w0] at g1
  rw [w2, e2] at g3
  have e5 : ∀ q : Int, m3 195 q = if q = u then v else mm 195 q := fun q => by
    rw [g3, if_neg (by omega), g2]
    by_cases e : q = u
    · rw [e, mUs, if_pos rfl]
    · rw [mUek _ _ _ _ e, if_neg e, g1, if_neg (by omega)]
  refine ⟨e5, fun a b q1 q2 => by rw [g3, if_neg (fun z => q2 z.1), g2, mUne _ _ _ _ _ q1, g1, if_neg (fun z => q2 z.1)], fun p p0 p1 => ?_⟩
  have hg := gsN_one (W := W) (a := mm 195) (c := m3 195) (p := p) (u := u) (v := v) (W 11).toNat (by omega) (fun q => e5 q)
  have A : m3 197 p = m1 197 p + (if v = p then sV W u 0 else 0) := by
    have e7 : m2 197 p = m1 197 p := by rw [g2, mUne _ _ _ _ _ (by omega)]
    rw [g3, e7]
    by_cases q2 : p = v
    · rw [if_pos ⟨rfl, q2, p0⟩, if_pos q2.symm]; omega
    · rw [if_neg (fun z => q2 z.2.1), if_neg (fun z => q2 z.symm)]; omega
  have B : m1 197 p = mm 197 p - (if mm 195 u = p then sV W u 0 else 0) := by
    rw [g1]
    by_cases q1 : p = mm 195 u
    · rw [if_pos ⟨rfl, q1, p0⟩, if_pos q1.symm]; omega
    · rw [if_neg (fun z => q1 z.2.1), if_neg (fun z => q1 z.symm)]; omega
  have h4p := h4 p p0 p1
  unfold gsZ at h4p ⊢
  rw [hg, A, B, h4p]
theorem fbI_to {W : Int → Int} {y : Int} {i1 mm m3 : Nat → Int → Int} (hI : fbI W y i1 mm) (hv : vaA W y (m3 195)) (hf : ∀ a b, a ≠ 195 → a ≠ 197 → m3 a b = mm a b) (hs : ∀ p, 0 ≤ p → p < 4 → m3 197 p = gsZ W (m3 195) p) : fbI W y i1 m3 :=
  ⟨fun a b q1 q2 q3 q4 q5 => (hf a b q2 q4).trans (hI.1 a b q1 q2 q3 q4 q5), fun q q0 q1 => (hf 194 q (by omega) (by omega)).trans (hI.2.1 q q0 q1), hv, hs⟩
def fbM (W : Int → Int) (t : Int) (b : Int → Int) : Int := if t < 0 then 0 else 1048577 - rkW W b
set_option maxRecDepth 20000 in
set_option maxHeartbeats 2000000 in
theorem r_nextPart {i : Nat → Int → Int} {l : Nat → Int → BitVec 64} {k : Int} (hk : 0 ≤ k ∧ k < 10) (hm : 0 ≤ i 194 k ∧ i 194 k ≤ 15) {f : Int} (hf : 0 ≤ f ∧ f ≤ 4) : mCtr m_X9_nextPart 1 0 0 [vR (some 189), vI (k), vI (f)] (st i l) (qI (npZ (i 194 k) f) (st i l)) := by
  refine mCtr_of pl_X9 dc_X9_nextPart (Nat.le_of_ble_eq_true rfl) rfl ?_
  show mX m_X9_nextPart 1 _ 0 0 0 [some (vR (some 189)), some (vI (k)), some (vI (f)), none] [] (st i l)
  refine x_iload_n 0 rfl rfl ?_
  refine x_istore_n 1 (L' := [some (vR (some 189)), some (vI (k)), some (vI (f)), some (vI (f))]) rfl (by decide) rfl rfl ?_
  have loopL1 : ∀ (nz : Nat) (x : Int), (f ≤ x ∧ x ≤ 4) → (∀ q, f ≤ q → 0 ≤ q → q < x → ¬ nbt (i 194 k) q) → (4 - x) < (nz : Int) → mX m_X9_nextPart 1 (qI (npZ (i 194 k) f) (st i l)) 0 0 2 [some (vR (some 189)), some (vI (k)), some (vI (f)), some (vI (x))] [] (st i l) := by
    intro nz
    induction nz with
    | zero => intro x hx hn hz; exact absurd hz (by omega)
    | succ nz ihL1 =>
      intro x hx hn hzL1
      refine x_iload_n 2 rfl rfl ?_
      refine x_iconst 3 rfl ?_
      refine x_icmp_ge 4 (tgt := 29) rfl (by decide) (by omega) (fun h2 => ?_) (fun h2 => ?_)
      · refine x_bipush 19 rfl (by decide) ?_
        refine x_ret 20 (some (vI ((-9)))) rfl ⟨rfl, Or.inl rfl⟩ ⟨congrArg (fun z => some (vI z)) ?_, rfl⟩
        exact (npZ_none (fun q h0 h1 h2 => hn q h0 h1 (by omega))).symm
      · refine x_aload_n 5 rfl rfl ?_
        refine x_getR 6 (z := 194) rfl fl_X9_29 (n_lt rfl) k_189 rfl r_189_11 ?_
        refine x_iload_n 7 rfl rfl ?_
        refine x_iald 8 (z := i 194 k) rfl (n_lt rfl) k_194 (by omega) rfl ?_
        refine x_iload_n 9 rfl rfl ?_
        refine x_ishr 10 (r := (i 194 k) / 2 ^ (x).toNat) rfl (by omega) rfl ?_
        refine x_iconst 11 rfl ?_
        refine x_iandm 12 1 (r := ((i 194 k) / 2 ^ (x).toNat) % 2) rfl (by decide) (by decide) rfl ?_
        refine x_iconst 13 rfl ?_
        refine x_icmp_ne 14 (tgt := 23) rfl (by decide) (by omega) (fun h3 => ?_) (fun h3 => ?_)
        · refine x_iinc 17 (L' := [some (vR (some 189)), some (vI (k)), some (vI (f)), some (vI (x + 1))]) rfl (by decide) rfl rfl rfl rfl ?_
          refine x_goto 18 (tgt := 2) rfl (by decide) ?_
          exact ihL1 (x + 1) (by omega) (by intro q h0 h1 h2; by_cases e : q = x; (rw [e, nbt_pow (by omega)]; omega); (exact hn q h0 h1 (by omega))) (by omega)
        · refine x_iload_n 15 rfl rfl ?_
          refine x_ret 16 (some (vI (x))) rfl ⟨rfl, Or.inl rfl⟩ ⟨congrArg (fun z => some (vI z)) ?_, rfl⟩
          exact (npZ_hit (by omega) ((nbt_pow (by omega)).mpr (by omega)) hn).symm
  exact loopL1 ((4 - ((f))) + 1 : Int).toNat (f) (by omega) (fun q h0 _ h1 => by omega) (by omega)
set_option maxRecDepth 20000 in
set_option maxHeartbeats 2000000 in
theorem r_change {i : Nat → Int → Int} {l : Nat → Int → BitVec 64} {k d : Int} (hk : 0 ≤ k ∧ k < 10) (ht : i 195 k = -9 ∨ (0 ≤ i 195 k ∧ i 195 k < 4)) : mCtr m_X9_change 2 0 0 [vR (some 189), vI (k), vI (d)] (st i l) (qV (fun i' l' => l' = l ∧ ∀ a b, i' a b = if a = 197 ∧ b = i 195 k ∧ 0 ≤ b then i a b + d * sV (i 190) k 0 else i a b)) := by
  refine mCtr_of pl_X9 dc_X9_change (Nat.le_of_ble_eq_true rfl) rfl ?_
  show mX m_X9_change 2 _ 0 0 0 [some (vR (some 189)), some (vI (k)), some (vI (d))] [] (st i l)
  refine x_aload_n 0 rfl rfl ?_
  refine x_getR 1 (z := 195) rfl fl_X9_32 (n_lt rfl) k_189 rfl r_189_12 ?_
  refine x_iload_n 2 rfl rfl ?_
  refine x_iald 3 (z := i 195 k) rfl (n_lt rfl) k_195 (by omega) rfl ?_
  refine x_if_lt 4 (tgt := 31) rfl (by decide) (by omega) (fun h1 => ?_) (fun h1 => ?_)
  · refine x_ret 21 none rfl ⟨rfl, rfl⟩ ⟨rfl, i, l, rfl, ?_⟩
    refine ⟨rfl, fun a b => ?_⟩
    first
      | (rw [if_neg (by omega)]; done)
      | (subst_vars; simp only [mU]; by_cases q : a = 197 ∧ b = i 195 k; (rw [if_pos q, if_pos ⟨q.1, q.2, by omega⟩, q.1, q.2]); (rw [if_neg q, if_neg (fun z => q ⟨z.1, z.2.1⟩)]))
  · refine x_aload_n 5 rfl rfl ?_
    refine x_getR 6 (z := 197) rfl fl_X9_38 (n_lt rfl) k_189 rfl r_189_14 ?_
    refine x_aload_n 7 rfl rfl ?_
    refine x_getR 8 (z := 195) rfl fl_X9_32 (n_lt rfl) k_189 rfl r_189_12 ?_
    refine x_iload_n 9 rfl rfl ?_
    refine x_iald 10 (z := i 195 k) rfl (n_lt rfl) k_195 (by omega) rfl ?_
    refine x_dup2 11 rfl rfl rfl ?_
    refine x_iald 12 (z := i 197 (i 195 k)) rfl (n_lt rfl) k_197 (by omega) rfl ?_
    refine x_iload_n 13 rfl rfl ?_
    refine x_aload_n 14 rfl rfl ?_
    refine x_iload_n 15 rfl rfl ?_
    refine x_iconst 16 rfl ?_
    refine x_callV 17 m_X9_of (r_of (by omega) (by omega)) rfl ok_X9_of (n_lt rfl) k_189 rfl rfl ml_X9_72 im_X9_of se_X9_of rfl (by decide) rfl (Nat.le_of_ble_eq_true rfl) rfl rfl (fun v g q2 => ?_)
    obtain ⟨rfl, rfl⟩ := q2
    show mX m_X9_change 2 _ 0 0 _ _ [vI (sV (i 190) k 0), vI (d), vI (i 197 (i 195 k)), vI (i 195 k), vR (some 197)] _
    refine x_imul 18 (r := d * (sV (i 190) k 0)) rfl rfl ?_
    refine x_iadd 19 (r := (i 197 (i 195 k)) + (d * (sV (i 190) k 0))) rfl rfl ?_
    obtain ⟨i3, hi3⟩ : ∃ f, f = mU i 197 (i 195 k) ((i 197 (i 195 k)) + (d * (sV (i 190) k 0))) := ⟨_, rfl⟩
    refine x_iast 20 rfl (n_lt rfl) k_197 (by omega) (g' := st i3 l) (by subst hi3; rfl) ?_
    refine x_ret 21 none rfl ⟨rfl, rfl⟩ ⟨rfl, i3, l, rfl, ?_⟩
    refine ⟨rfl, fun a b => ?_⟩
    first
      | (rw [if_neg (by omega)]; done)
      | (subst_vars; simp only [mU]; by_cases q : a = 197 ∧ b = i 195 k; (rw [if_pos q, if_pos ⟨q.1, q.2, by omega⟩, q.1, q.2]); (rw [if_neg q, if_neg (fun z => q ⟨z.1, z.2.1⟩)]))
set_option maxRecDepth 20000 in
set_option maxHeartbeats 2000000 in
theorem r_judge {i : Nat → Int → Int} {l : Nat → Int → BitVec 64} (hs : ∀ p, 0 ≤ p → p < 4 → -1000 ≤ i 197 p ∧ i 197 p ≤ 1000) (h15 : -1 ≤ i 189 15 ∧ i 189 15 ≤ 1000) (h16 : 0 ≤ i 189 16 ∧ i 189 16 ≤ 1000) : mCtr m_X9_judge 1 0 0 [vR (some 189)] (st i l) (qV (fun i' l' => l' = l ∧ ((btr (loF (i 197)) (hiF (i 197)) (i 189 15) (i 189 16) ∧ ∀ a b, i' a b = if a = 189 ∧ b = 15 then loF (i 197) else if a = 189 ∧ b = 16 then hiF (i 197) else if a = 196 ∧ 0 ≤ b ∧ b < 10 then i 195 b else i a b) ∨ (¬ btr (loF (i 197)) (hiF (i 197)) (i 189 15) (i 189 16) ∧ i' = i)))) := by
  refine mCtr_of pl_X9 dc_X9_judge (Nat.le_of_ble_eq_true rfl) rfl ?_
  show mX m_X9_judge 1 _ 0 0 0 [some (vR (some 189)), none, none, none] [] (st i l)
  have hs0 := hs 0 (by omega) (by omega)
  have hs1 := hs 1 (by omega) (by omega)
  have hs2 := hs 2 (by omega) (by omega)
  have hs3 := hs 3 (by omega) (by omega)
  refine x_aload_n 0 rfl rfl ?_
  refine x_getR 1 (z := 197) rfl fl_X9_38 (n_lt rfl) k_189 rfl r_189_14 ?_
  refine x_iconst 2 rfl ?_
  refine x_iald 3 (z := i 197 0) rfl (n_lt rfl) k_197 (by omega) rfl ?_
  refine x_istore_n 4 (L' := [some (vR (some 189)), some (vI (i 197 0)), none, none]) rfl (by decide) rfl rfl ?_
  refine x_aload_n 5 rfl rfl ?_
  refine x_getR 6 (z := 197) rfl fl_X9_38 (n_lt rfl) k_189 rfl r_189_14 ?_
  refine x_iconst 7 rfl ?_
  refine x_iald 8 (z := i 197 0) rfl (n_lt rfl) k_197 (by omega) rfl ?_
  refine x_istore_n 9 (L' := [some (vR (some 189)), some (vI (i 197 0)), some (vI (i 197 0)), none]) rfl (by decide) rfl rfl ?_
  refine x_iconst 10 rfl ?_
  refine x_istore_n 11 (L' := [some (vR (some 189)), some (vI (i 197 0)), some (vI (i 197 0)), some (vI (1))]) rfl (by decide) rfl rfl ?_
  have loopL1 : ∀ (nz : Nat) (x : Int) (lo : Int) (hi : Int), (1 ≤ x ∧ x ≤ 4) → (-1000 ≤ lo ∧ lo ≤ 1000 ∧ -1000 ≤ hi ∧ hi ≤ 1000) → (((x = 1 ∧ lo = i 197 0 ∧ hi = i 197 0) ∨ (x = 2 ∧ lo = min (i 197 0) (i 197 1) ∧ hi = max (i 197 0) (i 197 1)) ∨ (x = 3 ∧ lo = min (min (i 197 0) (i 197 1)) (i 197 2) ∧ hi = max (max (i 197 0) (i 197 1)) (i 197 2)) ∨ (x = 4 ∧ lo = loF (i 197) ∧ hi = hiF (i 197)))) → (4 - x) < (nz : Int) → mX m_X9_judge 1 (qV (fun i' l' => l' = l ∧ ((btr (loF (i 197)) (hiF (i 197)) (i 189 15) (i 189 16) ∧ ∀ a b, i' a b = if a = 189 ∧ b = 15 then loF (i 197) else if a = 189 ∧ b = 16 then hiF (i 197) else if a = 196 ∧ 0 ≤ b ∧ b < 10 then i 195 b else i a b) ∨ (¬ btr (loF (i 197)) (hiF (i 197)) (i 189 15) (i 189 16) ∧ i' = i)))) 0 0 16 [some (vR (some 189)), some (vI (lo)), some (vI (hi)), some (vI (x))] [] (st i l) := by
    intro nz
    induction nz with
    | zero => intro x lo hi hx hb hl hz; exact absurd hz (by omega)
    | succ nz ihL1 =>
      intro x lo hi hx hb hl hzL1
      refine x_iload_n 12 rfl rfl ?_
      refine x_iconst 13 rfl ?_
      refine x_icmp_ge 14 (tgt := 69) rfl (by decide) (by omega) (fun h2 => ?_) (fun h2 => ?_)
      · have hlo : lo = loF (i 197) := by omega
        have hhi : hi = hiF (i 197) := by omega
        refine x_iload_n 43 rfl rfl ?_
        refine x_aload_n 44 rfl rfl ?_
        refine x_getI 45 (z := i 189 15) rfl fl_X9_87 (n_lt rfl) k_189 rfl rfl ?_
        refine x_icmp_gt 46 (tgt := 93) rfl (by decide) (by omega) (fun h3 => ?_) (fun h3 => ?_)
        · have hbt : btr (loF (i 197)) (hiF (i 197)) (i 189 15) (i 189 16) := by unfold btr; omega
          refine x_aload_n 55 rfl rfl ?_
          refine x_iload_n 56 rfl rfl ?_
          obtain ⟨i4, hi4⟩ : ∃ f, f = mU i 189 15 (lo) := ⟨_, rfl⟩
          refine x_putI 57 rfl fl_X9_87 (n_lt rfl) k_189 rfl rfl (g' := st i4 l) (by subst hi4; rfl) ?_
          refine x_aload_n 58 rfl rfl ?_
          refine x_iload_n 59 rfl rfl ?_
          obtain ⟨i5, hi5⟩ : ∃ f, f = mU i4 189 16 (hi) := ⟨_, rfl⟩
          refine x_putI 60 rfl fl_X9_90 (n_lt rfl) k_189 rfl rfl (g' := st i5 l) (by subst hi5; rfl) ?_
          refine x_iconst 61 rfl ?_
          refine x_istore_n 62 (L' := [some (vR (some 189)), some (vI (lo)), some (vI (hi)), some (vI (0))]) rfl (by decide) rfl rfl ?_
          have loopL6 : ∀ (nz : Nat) (jj : Nat → Int → Int) (y : Int), (0 ≤ y ∧ y ≤ 10) → (∀ a b, jj a b = if a = 189 ∧ b = 15 then loF (i 197) else if a = 189 ∧ b = 16 then hiF (i 197) else if a = 196 ∧ 0 ≤ b ∧ b < y then i 195 b else i a b) → (10 - y) < (nz : Int) → mX m_X9_judge 1 (qV (fun i' l' => l' = l ∧ ((btr (loF (i 197)) (hiF (i 197)) (i 189 15) (i 189 16) ∧ ∀ a b, i' a b = if a = 189 ∧ b = 15 then loF (i 197) else if a = 189 ∧ b = 16 then hiF (i 197) else if a = 196 ∧ 0 ≤ b ∧ b < 10 then i 195 b else i a b) ∨ (¬ btr (loF (i 197)) (hiF (i 197)) (i 189 15) (i 189 16) ∧ i' = i)))) 0 0 105 [some (vR (some 189)), some (vI (lo)), some (vI (hi)), some (vI (y))] [] (st jj l) := by
            intro nz
            induction nz with
            | zero => intro jj y hy hA hz; exact absurd hz (by omega)
            | succ nz ihL6 =>
              intro jj y hy hA hzL6
              refine x_iload_n 63 rfl rfl ?_
              refine x_bipush 64 rfl (by decide) ?_
              refine x_icmp_ge 65 (tgt := 129) rfl (by decide) (by omega) (fun h7 => ?_) (fun h7 => ?_)
              · refine x_ret 76 none rfl ⟨rfl, rfl⟩ ⟨rfl, jj, l, rfl, ?_⟩
                refine ⟨rfl, ?_⟩
                first
                  | (right; exact ⟨by unfold btr; omega, rfl⟩)
                  | (left; refine ⟨hbt, ?_⟩; rw [show y = 10 by omega] at hA; exact hA)
              · refine x_aload_n 66 rfl rfl ?_
                refine x_getR 67 (z := 196) rfl fl_X9_35 (n_lt rfl) k_189 rfl r_189_13 ?_
                refine x_iload_n 68 rfl rfl ?_
                refine x_aload_n 69 rfl rfl ?_
                refine x_getR 70 (z := 195) rfl fl_X9_32 (n_lt rfl) k_189 rfl r_189_12 ?_
                refine x_iload_n 71 rfl rfl ?_
                refine x_iald 72 (z := jj 195 y) rfl (n_lt rfl) k_195 (by omega) rfl ?_
                obtain ⟨i8, hi8⟩ : ∃ f, f = mU jj 196 (y) (jj 195 y) := ⟨_, rfl⟩
                refine x_iast 73 rfl (n_lt rfl) k_196 (by omega) (g' := st i8 l) (by subst hi8; rfl) ?_
                refine x_iinc 74 (L' := [some (vR (some 189)), some (vI (lo)), some (vI (hi)), some (vI (y + 1))]) rfl (by decide) rfl rfl rfl rfl ?_
                refine x_goto 75 (tgt := 105) rfl (by decide) ?_
                exact ihL6 i8 (y + 1) (by omega) (by intro a b; have e195 : jj 195 y = i 195 y := (by rw [hA, if_neg (by omega), if_neg (by omega), if_neg (by omega)]); rw [hi8, e195]; simp only [mU, hA]; grind) (by omega)
          exact loopL6 ((10 - ((0))) + 1 : Int).toNat i5 (0) (by omega) (by intro a b; subst_vars; simp only [mU]; grind) (by omega)
        · refine x_iload_n 47 rfl rfl ?_
          refine x_aload_n 48 rfl rfl ?_
          refine x_getI 49 (z := i 189 15) rfl fl_X9_87 (n_lt rfl) k_189 rfl rfl ?_
          refine x_icmp_ne 50 (tgt := 129) rfl (by decide) (by omega) (fun h9 => ?_) (fun h9 => ?_)
          · refine x_ret 76 none rfl ⟨rfl, rfl⟩ ⟨rfl, i, l, rfl, ?_⟩
            refine ⟨rfl, ?_⟩
            first
              | (right; exact ⟨by unfold btr; omega, rfl⟩)
              | (left; refine ⟨hbt, ?_⟩; rw [show y = 10 by omega] at hA; exact hA)
          · refine x_iload_n 51 rfl rfl ?_
            refine x_aload_n 52 rfl rfl ?_
            refine x_getI 53 (z := i 189 16) rfl fl_X9_90 (n_lt rfl) k_189 rfl rfl ?_
            refine x_icmp_ge 54 (tgt := 129) rfl (by decide) (by omega) (fun h10 => ?_) (fun h10 => ?_)
            · refine x_ret 76 none rfl ⟨rfl, rfl⟩ ⟨rfl, i, l, rfl, ?_⟩
              refine ⟨rfl, ?_⟩
              first
                | (right; exact ⟨by unfold btr; omega, rfl⟩)
                | (left; refine ⟨hbt, ?_⟩; rw [show y = 10 by omega] at hA; exact hA)
            · have hbt : btr (loF (i 197)) (hiF (i 197)) (i 189 15) (i 189 16) := by unfold btr; omega
              refine x_aload_n 55 rfl rfl ?_
              refine x_iload_n 56 rfl rfl ?_
              obtain ⟨i11, hi11⟩ : ∃ f, f = mU i 189 15 (lo) := ⟨_, rfl⟩
              refine x_putI 57 rfl fl_X9_87 (n_lt rfl) k_189 rfl rfl (g' := st i11 l) (by subst hi11; rfl) ?_
              refine x_aload_n 58 rfl rfl ?_
              refine x_iload_n 59 rfl rfl ?_
              obtain ⟨i12, hi12⟩ : ∃ f, f = mU i11 189 16 (hi) := ⟨_, rfl⟩
              refine x_putI 60 rfl fl_X9_90 (n_lt rfl) k_189 rfl rfl (g' := st i12 l) (by subst hi12; rfl) ?_
              refine x_iconst 61 rfl ?_
              refine x_istore_n 62 (L' := [some (vR (some 189)), some (vI (lo)), some (vI (hi)), some (vI (0))]) rfl (by decide) rfl rfl ?_
              have loopL13 : ∀ (nz : Nat) (jj : Nat → Int → Int) (y : Int), (0 ≤ y ∧ y ≤ 10) → (∀ a b, jj a b = if a = 189 ∧ b = 15 then loF (i 197) else if a = 189 ∧ b = 16 then hiF (i 197) else if a = 196 ∧ 0 ≤ b ∧ b < y then i 195 b else i a b) → (10 - y) < (nz : Int) → mX m_X9_judge 1 (qV (fun i' l' => l' = l ∧ ((btr (loF (i 197)) (hiF (i 197)) (i 189 15) (i 189 16) ∧ ∀ a b, i' a b = if a = 189 ∧ b = 15 then loF (i 197) else if a = 189 ∧ b = 16 then hiF (i 197) else if a = 196 ∧ 0 ≤ b ∧ b < 10 then i 195 b else i a b) ∨ (¬ btr (loF (i 197)) (hiF (i 197)) (i 189 15) (i 189 16) ∧ i' = i)))) 0 0 105 [some (vR (some 189)), some (vI (lo)), some (vI (hi)), some (vI (y))] [] (st jj l) := by
                intro nz
                induction nz with
                | zero => intro jj y hy hA hz; exact absurd hz (by omega)
                | succ nz ihL13 =>
                  intro jj y hy hA hzL13
                  refine x_iload_n 63 rfl rfl ?_
                  refine x_bipush 64 rfl (by decide) ?_
                  refine x_icmp_ge 65 (tgt := 129) rfl (by decide) (by omega) (fun h14 => ?_) (fun h14 => ?_)
                  · refine x_ret 76 none rfl ⟨rfl, rfl⟩ ⟨rfl, jj, l, rfl, ?_⟩
                    refine ⟨rfl, ?_⟩
                    first
                      | (right; exact ⟨by unfold btr; omega, rfl⟩)
                      | (left; refine ⟨hbt, ?_⟩; rw [show y = 10 by omega] at hA; exact hA)
                  · refine x_aload_n 66 rfl rfl ?_
                    refine x_getR 67 (z := 196) rfl fl_X9_35 (n_lt rfl) k_189 rfl r_189_13 ?_
                    refine x_iload_n 68 rfl rfl ?_
                    refine x_aload_n 69 rfl rfl ?_
                    refine x_getR 70 (z := 195) rfl fl_X9_32 (n_lt rfl) k_189 rfl r_189_12 ?_
                    refine x_iload_n 71 rfl rfl ?_
                    refine x_iald 72 (z := jj 195 y) rfl (n_lt rfl) k_195 (by omega) rfl ?_
                    obtain ⟨i15, hi15⟩ : ∃ f, f = mU jj 196 (y) (jj 195 y) := ⟨_, rfl⟩
                    refine x_iast 73 rfl (n_lt rfl) k_196 (by omega) (g' := st i15 l) (by subst hi15; rfl) ?_
                    refine x_iinc 74 (L' := [some (vR (some 189)), some (vI (lo)), some (vI (hi)), some (vI (y + 1))]) rfl (by decide) rfl rfl rfl rfl ?_
                    refine x_goto 75 (tgt := 105) rfl (by decide) ?_
                    exact ihL13 i15 (y + 1) (by omega) (by intro a b; have e195 : jj 195 y = i 195 y := (by rw [hA, if_neg (by omega), if_neg (by omega), if_neg (by omega)]); rw [hi15, e195]; simp only [mU, hA]; grind) (by omega)
              exact loopL13 ((10 - ((0))) + 1 : Int).toNat i12 (0) (by omega) (by intro a b; subst_vars; simp only [mU]; grind) (by omega)
      · have hsx := hs x (by omega) (by omega)
        refine x_aload_n 15 rfl rfl ?_
        refine x_getR 16 (z := 197) rfl fl_X9_38 (n_lt rfl) k_189 rfl r_189_14 ?_
        refine x_iload_n 17 rfl rfl ?_
        refine x_iald 18 (z := i 197 x) rfl (n_lt rfl) k_197 (by omega) rfl ?_
        refine x_iload_n 19 rfl rfl ?_
        refine x_icmp_ge 20 (tgt := 40) rfl (by decide) (by omega) (fun h16 => ?_) (fun h16 => ?_)
        · refine x_iload_n 26 rfl rfl ?_
          refine x_istore_n 27 (L' := [some (vR (some 189)), some (vI (lo)), some (vI (hi)), some (vI (x))]) rfl (by decide) rfl rfl ?_
          refine x_aload_n 28 rfl rfl ?_
          refine x_getR 29 (z := 197) rfl fl_X9_38 (n_lt rfl) k_189 rfl r_189_14 ?_
          refine x_iload_n 30 rfl rfl ?_
          refine x_iald 31 (z := i 197 x) rfl (n_lt rfl) k_197 (by omega) rfl ?_
          refine x_iload_n 32 rfl rfl ?_
          refine x_icmp_le 33 (tgt := 61) rfl (by decide) (by omega) (fun h17 => ?_) (fun h17 => ?_)
          · refine x_iload_n 39 rfl rfl ?_
            refine x_istore_n 40 (L' := [some (vR (some 189)), some (vI (lo)), some (vI (hi)), some (vI (x))]) rfl (by decide) rfl rfl ?_
            refine x_iinc 41 (L' := [some (vR (some 189)), some (vI (lo)), some (vI (hi)), some (vI (x + 1))]) rfl (by decide) rfl rfl rfl rfl ?_
            refine x_goto 42 (tgt := 16) rfl (by decide) ?_
            exact ihL1 (x + 1) (lo) (hi) (by omega) (by omega) (by unfold loF hiF at hl ⊢; rcases hl with ⟨q, q1, q2⟩ | ⟨q, q1, q2⟩ | ⟨q, q1, q2⟩ | ⟨q, q1, q2⟩ <;> subst q <;> omega) (by omega)
          · refine x_aload_n 34 rfl rfl ?_
            refine x_getR 35 (z := 197) rfl fl_X9_38 (n_lt rfl) k_189 rfl r_189_14 ?_
            refine x_iload_n 36 rfl rfl ?_
            refine x_iald 37 (z := i 197 x) rfl (n_lt rfl) k_197 (by omega) rfl ?_
            refine x_goto 38 (tgt := 62) rfl (by decide) ?_
            refine x_istore_n 40 (L' := [some (vR (some 189)), some (vI (lo)), some (vI (i 197 x)), some (vI (x))]) rfl (by decide) rfl rfl ?_
            refine x_iinc 41 (L' := [some (vR (some 189)), some (vI (lo)), some (vI (i 197 x)), some (vI (x + 1))]) rfl (by decide) rfl rfl rfl rfl ?_
            refine x_goto 42 (tgt := 16) rfl (by decide) ?_
            exact ihL1 (x + 1) (lo) (i 197 x) (by omega) (by omega) (by unfold loF hiF at hl ⊢; rcases hl with ⟨q, q1, q2⟩ | ⟨q, q1, q2⟩ | ⟨q, q1, q2⟩ | ⟨q, q1, q2⟩ <;> subst q <;> omega) (by omega)
        · refine x_aload_n 21 rfl rfl ?_
          refine x_getR 22 (z := 197) rfl fl_X9_38 (n_lt rfl) k_189 rfl r_189_14 ?_
          refine x_iload_n 23 rfl rfl ?_
          refine x_iald 24 (z := i 197 x) rfl (n_lt rfl) k_197 (by omega) rfl ?_
          refine x_goto 25 (tgt := 41) rfl (by decide) ?_
          refine x_istore_n 27 (L' := [some (vR (some 189)), some (vI (i 197 x)), some (vI (hi)), some (vI (x))]) rfl (by decide) rfl rfl ?_
          refine x_aload_n 28 rfl rfl ?_
          refine x_getR 29 (z := 197) rfl fl_X9_38 (n_lt rfl) k_189 rfl r_189_14 ?_
          refine x_iload_n 30 rfl rfl ?_
          refine x_iald 31 (z := i 197 x) rfl (n_lt rfl) k_197 (by omega) rfl ?_
          refine x_iload_n 32 rfl rfl ?_
          refine x_icmp_le 33 (tgt := 61) rfl (by decide) (by omega) (fun h18 => ?_) (fun h18 => ?_)
          · refine x_iload_n 39 rfl rfl ?_
            refine x_istore_n 40 (L' := [some (vR (some 189)), some (vI (i 197 x)), some (vI (hi)), some (vI (x))]) rfl (by decide) rfl rfl ?_
            refine x_iinc 41 (L' := [some (vR (some 189)), some (vI (i 197 x)), some (vI (hi)), some (vI (x + 1))]) rfl (by decide) rfl rfl rfl rfl ?_
            refine x_goto 42 (tgt := 16) rfl (by decide) ?_
            exact ihL1 (x + 1) (i 197 x) (hi) (by omega) (by omega) (by unfold loF hiF at hl ⊢; rcases hl with ⟨q, q1, q2⟩ | ⟨q, q1, q2⟩ | ⟨q, q1, q2⟩ | ⟨q, q1, q2⟩ <;> subst q <;> omega) (by omega)
          · refine x_aload_n 34 rfl rfl ?_
            refine x_getR 35 (z := 197) rfl fl_X9_38 (n_lt rfl) k_189 rfl r_189_14 ?_
            refine x_iload_n 36 rfl rfl ?_
            refine x_iald 37 (z := i 197 x) rfl (n_lt rfl) k_197 (by omega) rfl ?_
            refine x_goto 38 (tgt := 62) rfl (by decide) ?_
            refine x_istore_n 40 (L' := [some (vR (some 189)), some (vI (i 197 x)), some (vI (i 197 x)), some (vI (x))]) rfl (by decide) rfl rfl ?_
            refine x_iinc 41 (L' := [some (vR (some 189)), some (vI (i 197 x)), some (vI (i 197 x)), some (vI (x + 1))]) rfl (by decide) rfl rfl rfl rfl ?_
            refine x_goto 42 (tgt := 16) rfl (by decide) ?_
            exact ihL1 (x + 1) (i 197 x) (i 197 x) (by omega) (by omega) (by unfold loF hiF at hl ⊢; rcases hl with ⟨q, q1, q2⟩ | ⟨q, q1, q2⟩ | ⟨q, q1, q2⟩ | ⟨q, q1, q2⟩ <;> subst q <;> omega) (by omega)
  exact loopL1 ((4 - ((1))) + 1 : Int).toNat (1) (i 197 0) (i 197 0) (by omega) (by omega) (Or.inl ⟨rfl, rfl, rfl⟩) (by omega)
