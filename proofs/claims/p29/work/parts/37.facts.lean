/-! what a book answers, by the question -/
section ANS
variable {W : Int → Int} {y : Int}
def rgLo (V : Int → Int) : Int := if (rgZ V).2.1 = 0 then -9 else (rgZ V).2.2
def rgHi (V : Int → Int) : Int := if (rgZ V).2.1 = 0 then -9 else (rgZ V).2.2 + (rgZ V).2.1 - 1
theorem anS0 (h0 : 0 ≤ y) (h1 : y < W 11) : anSinger y 0 W = sV W y 0 := by unfold anSinger; rw [if_neg (by omega)]; rfl
theorem anS2 (h0 : 0 ≤ y) (h1 : y < W 11) : anSinger y 2 W = rgLo (sV W y) := by unfold anSinger; rw [if_neg (by omega)]; rfl
theorem anS3 (h0 : 0 ≤ y) (h1 : y < W 11) : anSinger y 3 W = rgHi (sV W y) := by unfold anSinger; rw [if_neg (by omega)]; rfl
theorem anS4 (h0 : 0 ≤ y) (h1 : y < W 11) : anSinger y 4 W = gFits W y := by unfold anSinger; rw [if_neg (by omega)]; rfl
theorem anS5 (h0 : 0 ≤ y) (h1 : y < W 11) : anSinger y 5 W = sV W y 2 := by unfold anSinger; rw [if_neg (by omega)]; rfl
theorem anS6 (h0 : 0 ≤ y) (h1 : y < W 11) : anSinger y 6 W = sV W y 3 := by unfold anSinger; rw [if_neg (by omega)]; rfl
theorem anS7 (h0 : 0 ≤ y) (h1 : y < W 11) : anSinger y 7 W = sV W y 4 := by unfold anSinger; rw [if_neg (by omega)]; rfl
theorem anS8 (h0 : 0 ≤ y) (h1 : y < W 11) : anSinger y 8 W = sV W y 5 := by unfold anSinger; rw [if_neg (by omega)]; rfl
theorem anS9 (h0 : 0 ≤ y) (h1 : y < W 11) : anSinger y 9 W = sV W y 6 := by unfold anSinger; rw [if_neg (by omega)]; rfl
theorem anN (h0 : 0 ≤ y) (h1 : y < W 11) {n : Int} (hn : 0 ≤ n ∧ n < 41) : anNote y n W = sV W y (7 + n) := by unfold anNote; rw [if_neg (by omega)]
theorem anN41 : anNote y 41 W = -1 := by unfold anNote; rw [if_pos (by omega)]
theorem anO (h0 : 0 ≤ y) (h1 : y < W 11) {p : Int} (hp : 0 ≤ p ∧ p < 4) : anOverlap y p W = gIn (sV W y) p := by unfold anOverlap; rw [if_neg (by omega)]
theorem anP0 {p : Int} (hp : 0 ≤ p ∧ p < 4) : anPart p 0 W = gMem W p := by unfold anPart; rw [if_neg (by omega)]; rfl
theorem anP1 {p : Int} (hp : 0 ≤ p ∧ p < 4) : anPart p 1 W = gStr W p := by unfold anPart; rw [if_neg (by omega)]; rfl
theorem anP2 {p : Int} (hp : 0 ≤ p ∧ p < 4) : anPart p 2 W = gPres W p := by unfold anPart; rw [if_neg (by omega)]; rfl
theorem anP3 {p : Int} (hp : 0 ≤ p ∧ p < 4) : anPart p 3 W = W (5 + p) := by unfold anPart; rw [if_neg (by omega)]; rfl
theorem anP4 {p : Int} (hp : 0 ≤ p ∧ p < 4) : anPart p 4 W = gRows W p := by unfold anPart; rw [if_neg (by omega)]; rfl
theorem anP5 {p : Int} (hp : 0 ≤ p ∧ p < 4) : anPart p 5 W = plS W p := by unfold anPart; rw [if_neg (by omega)]; rfl
theorem anP40 : anPart 4 0 W = -1 := by unfold anPart; rw [if_pos (by omega)]
theorem anSt (h0 : 0 ≤ y) (h1 : y < W 11) : anStand y W = (plT W).1 y := by unfold anStand; rw [if_neg (by omega)]
theorem anSo {h p : Int} (h0 : 0 ≤ h) (h1 : h < W 4) (hp : 0 ≤ p ∧ p < 4) : anSolo h p W = W (492 + (h * 4 + p)) := by unfold anSolo; rw [if_neg (by omega)]
theorem anSo_no {h p : Int} (h1 : W 4 ≤ h) : anSolo h p W = -1 := by unfold anSolo; rw [if_pos (by omega)]
end ANS
/-! a range is the longest row, told from its end -/
def rgI (f : Int → Bool) (x row most en : Int) : Prop := row = (rwZ f x).1 ∧ most = (rwZ f x).2.1 ∧ ((most = 0 ∧ en = -9) ∨ (0 < most ∧ en = (rwZ f x).2.2 + most - 1))
theorem rgI_0 (f : Int → Bool) : rgI f 0 0 0 (-9) := ⟨rfl, rfl, Or.inl ⟨rfl, rfl⟩⟩
theorem rgI_bd {f : Int → Bool} {x row most en : Int} (h : rgI f x row most en) (hx : 0 ≤ x) : 0 ≤ row ∧ row ≤ x ∧ 0 ≤ most ∧ most ≤ x ∧ -9 ≤ en ∧ en ≤ x := by
  have := rwZ_bd f hx
  obtain ⟨h1, h2, h3⟩ := h
  omega
theorem rgI_n {f : Int → Bool} {x row most en : Int} (h : rgI f x row most en) (hx : 0 ≤ x) (hf : f x = false) : rgI f (x + 1) 0 most en := by
  obtain ⟨h1, h2, h3⟩ := h
  unfold rgI
  rw [rwZ_s f hx, if_neg (by rw [hf]; decide)]
  exact ⟨rfl, h2, h3⟩
theorem rgI_y1 {f : Int → Bool} {x row most en : Int} (h : rgI f x row most en) (hx : 0 ≤ x) (hf : f x = true) (hm : most < row + 1) : rgI f (x + 1) (row + 1) (row + 1) x := by
  obtain ⟨h1, h2, h3⟩ := h
  have hb := rwZ_bd f hx
  unfold rgI
  rw [rwZ_s f hx, if_pos hf, if_pos (by omega)]
  simp only
  exact ⟨by rw [h1], by rw [h1], Or.inr ⟨by omega, by omega⟩⟩
theorem rgI_y2 {f : Int → Bool} {x row most en : Int} (h : rgI f x row most en) (hx : 0 ≤ x) (hf : f x = true) (hm : row + 1 ≤ most) : rgI f (x + 1) (row + 1) most en := by
  obtain ⟨h1, h2, h3⟩ := h
  unfold rgI
  rw [rwZ_s f hx, if_pos hf, if_neg (by omega)]
  exact ⟨by rw [h1], h2, h3⟩
/-- what the range's end says of what is asked: lw, its lowest note -/
theorem rg_fin {V : Int → Int} {row most en : Int} (h : rgI (fun k => decide (V (7 + k) = 1)) 41 row most en) : ∃ lw : Int, (0 ≤ lw ∧ lw + most ≤ 41 ∧ 0 ≤ most) ∧ ((most = 0 ∧ rgLo V = -9 ∧ rgHi V = -9) ∨ (0 < most ∧ rgLo V = lw ∧ rgHi V = lw + most - 1 ∧ en = lw + most - 1)) ∧ ∀ p, gIn V p = max 0 (min (lw + most) (22 - 6 * p + 15) - max lw (22 - 6 * p)) := by
  have hb := rgZ_bd V
  obtain ⟨h1, h2, h3⟩ := h
  have h2' : most = (rgZ V).2.1 := h2
  refine ⟨(rgZ V).2.2, by omega, ?_, fun p => ?_⟩
  · unfold rgLo rgHi
    have h3' : (most = 0 ∧ en = -9) ∨ (0 < most ∧ en = (rgZ V).2.2 + most - 1) := h3
    rcases h3' with q | q
    · left
      rw [if_pos (by omega), if_pos (by omega)]
      omega
    · right
      rw [if_neg (by omega), if_neg (by omega)]
      omega
  · unfold gIn
    rw [h2']
/-! bounds -/
section BDS
variable {W : Int → Int}
theorem gMem_bd (hW : okW W) (p : Int) : 0 ≤ gMem W p ∧ gMem W p ≤ 10 := by
  have hN := hW.n
  have := sumZ_bd (f := fun k => if sV W k 2 = p then 1 else 0) (x := W 11) (a := 0) (b := 1) hN.1.1 (fun k h0 h1 => by split <;> omega)
  unfold gMem
  omega
theorem gStr_bd (hW : okW W) (p : Int) : 0 ≤ gStr W p ∧ gStr W p ≤ 90 := by
  have hN := hW.n
  have := sumZ_bd (f := fun k => if sV W k 2 = p then sV W k 0 else 0) (x := W 11) (a := 0) (b := 9) hN.1.1 (fun k h0 h1 => by have := (hW.v h0 h1).1; split <;> omega)
  unfold gStr
  omega
theorem gPres_bd (hW : okW W) (p : Int) : 0 ≤ gPres W p ∧ gPres W p ≤ 90 := by
  have hN := hW.n
  have := sumZ_bd (f := fun k => if sV W k 2 = p ∧ sV W k 3 ≠ 0 then sV W k 0 else 0) (x := W 11) (a := 0) (b := 9) hN.1.1 (fun k h0 h1 => by have := (hW.v h0 h1).1; split <;> omega)
  unfold gPres
  omega
theorem gAbs_bd (hW : okW W) : 0 ≤ gAbs W ∧ gAbs W ≤ 10 := by
  have hN := hW.n
  have := sumZ_bd (f := fun k => if sV W k 3 = 0 then 1 else 0) (x := W 11) (a := 0) (b := 1) hN.1.1 (fun k h0 h1 => by split <;> omega)
  unfold gAbs
  omega
theorem gRows_bd (hW : okW W) (p : Int) : 0 ≤ gRows W p ∧ gRows W p ≤ 10 := by
  have hN := hW.n
  have hM := gMem_bd hW p
  unfold gRows
  refine ⟨Int.ediv_nonneg (by omega) (by omega), ?_⟩
  have h1 : (gMem W p + W 3 - 1) / W 3 < 11 := Int.ediv_lt_of_lt_mul (by omega) (by
    have : W 3 = 1 ∨ W 3 = 2 ∨ W 3 = 3 ∨ W 3 = 4 ∨ W 3 = 5 ∨ W 3 = 6 := by omega
    rcases this with e | e | e | e | e | e <;> rw [e] <;> omega)
  omega
theorem sRows_bd (hW : okW W) {p : Int} (hp : 0 ≤ p ∧ p ≤ 4) : 0 ≤ sumZ (fun k => gRows W k) p ∧ sumZ (fun k => gRows W k) p ≤ 40 := by
  have := sumZ_bd (f := fun k => gRows W k) (x := p) (a := 0) (b := 10) hp.1 (fun k h0 h1 => gRows_bd hW k)
  omega
/-- one who sits before another in a part, sits before; nobody sits in another's place -/
theorem sumN_lt {f g : Int → Int} {n m : Nat} (hm : m < n) (hle : ∀ k : Int, 0 ≤ k → k < n → f k ≤ g k) (hs : f m < g m) : sumN f n < sumN g n := by
  induction n with
  | zero => omega
  | succ n ih =>
    show sumN f n + f n < sumN g n + g n
    by_cases e : m = n
    · subst e
      have : sumN f m ≤ sumN g m := by
        have h2 : ∀ k : Nat, k ≤ m → sumN f k ≤ sumN g k := by
          intro k
          induction k with
          | zero => intro _; exact Int.le_refl _
          | succ k ihk =>
            intro hk
            have h3 := hle k (by omega) (by omega)
            have h4 := ihk (by omega)
            show sumN f k + f k ≤ sumN g k + g k
            omega
        exact h2 m (Nat.le_refl _)
      omega
    · have h1 := ih (by omega) (fun k h0 h1 => hle k h0 (by omega))
      have h2 := hle n (by omega) (by omega)
      omega
theorem sumZ_lt {f g : Int → Int} {x m : Int} (h0 : 0 ≤ m) (hm : m < x) (hle : ∀ k : Int, 0 ≤ k → k < x → f k ≤ g k) (hs : f m < g m) : sumZ f x < sumZ g x := by
  refine sumN_lt (m := m.toNat) (by omega) (fun k k0 k1 => hle k k0 (by omega)) ?_
  rw [Int.toNat_of_nonneg h0]
  exact hs
theorem seat_lt {x y : Int} (hx : 0 ≤ x ∧ x < W 11) (h2 : sV W x 2 = sV W y 2) (hb : sV W x 1 < sV W y 1 ∨ (sV W x 1 = sV W y 1 ∧ x < y)) : gSeat W x < gSeat W y := by
  unfold gSeat
  refine sumZ_lt hx.1 hx.2 (fun k k0 k1 => ?_) ?_
  · show (if _ then (1 : Int) else 0) ≤ if _ then (1 : Int) else 0
    by_cases q : sV W k 2 = sV W x 2 ∧ (sV W k 1 < sV W x 1 ∨ (sV W k 1 = sV W x 1 ∧ k < x))
    · rw [if_pos q, if_pos (by omega)]
      omega
    · rw [if_neg q]
      split <;> omega
  · show (if _ then (1 : Int) else 0) < if _ then (1 : Int) else 0
    rw [if_neg (by omega), if_pos (by omega)]
    omega
theorem seat_ne {x y : Int} (hx : 0 ≤ x ∧ x < W 11) (hy : 0 ≤ y ∧ y < W 11) (h2 : sV W x 2 = sV W y 2) (hne : x ≠ y) : gSeat W x ≠ gSeat W y := by
  by_cases q : sV W x 1 < sV W y 1 ∨ (sV W x 1 = sV W y 1 ∧ x < y)
  · have := seat_lt hx h2 q
    omega
  · have := seat_lt hy h2.symm (by omega)
    omega
theorem seat_mem {x : Int} (hx : 0 ≤ x ∧ x < W 11) : 0 ≤ gSeat W x ∧ gSeat W x < gMem W (sV W x 2) := by
  constructor
  · unfold gSeat
    have := sumZ_bd (f := fun k => if sV W k 2 = sV W x 2 ∧ (sV W k 1 < sV W x 1 ∨ (sV W k 1 = sV W x 1 ∧ k < x)) then 1 else 0) (x := W 11) (a := 0) (b := 1) (by omega) (fun k h0 h1 => by split <;> omega)
    omega
  · unfold gSeat gMem
    refine sumZ_lt hx.1 hx.2 (fun k k0 k1 => ?_) ?_
    · show (if _ then (1 : Int) else 0) ≤ if _ then (1 : Int) else 0
      by_cases q : sV W k 2 = sV W x 2
      · rw [if_pos q]; split <;> omega
      · rw [if_neg (fun z => q z.1), if_neg q]; omega
    · show (if _ then (1 : Int) else 0) < if _ then (1 : Int) else 0
      rw [if_neg (by omega), if_pos rfl]
      omega
/-- a row and a place in it, of the m-th of a part, w to a row -/
theorem row_bd {m g w : Int} (hw : 1 ≤ w ∧ w ≤ 6) (h0 : 0 ≤ g) (hg : g < m) : 0 ≤ g / w ∧ g / w < (m + w - 1) / w := by
  refine ⟨Int.ediv_nonneg h0 (by omega), ?_⟩
  rcases (show w = 1 ∨ w = 2 ∨ w = 3 ∨ w = 4 ∨ w = 5 ∨ w = 6 by omega) with e | e | e | e | e | e <;> subst e <;> omega
def inS (r : Int) : Int := if r % 2 = 1 then (r + 1) / 2 else -(r / 2)
theorem inS_bd {r w : Int} (h : 0 ≤ r ∧ r < w) : 2 * inS r ≤ w ∧ -w < 2 * inS r := by
  unfold inS
  split <;> omega
theorem inS_inj {r t : Int} (h0 : 0 ≤ r) (h1 : 0 ≤ t) (h : inS r = inS t) : r = t := by
  unfold inS at h
  split at h <;> split at h <;> omega
theorem anSe0 {y : Int} (h0 : 0 ≤ y) (h1 : y < W 11) (h2 : sV W y 2 ≠ -9) : anSeat y 0 W = sumZ (fun k => gRows W k) (sV W y 2) + gSeat W y / W 3 := by unfold anSeat; rw [if_neg (by omega), if_neg h2]; rfl
theorem anSe1 {y : Int} (h0 : 0 ≤ y) (h1 : y < W 11) (h2 : sV W y 2 ≠ -9) : anSeat y 1 W = inS (gSeat W y % W 3) := by unfold anSeat inS; rw [if_neg (by omega), if_neg h2, if_neg (by omega)]
theorem anSe9 {y : Int} (h0 : 0 ≤ y) (h1 : y < W 11) (h2 : sV W y 2 = -9) : anSeat y 0 W = -9 ∧ anSeat y 1 W = -9 := by unfold anSeat; rw [if_neg (by omega), if_pos h2, if_neg (by omega), if_pos h2]; exact ⟨rfl, rfl⟩
theorem an_seat (hW : okW W) {y : Int} (hy : 0 ≤ y ∧ y < W 11) {p : Int} (hp : 0 ≤ p ∧ p < 4) (h2 : sV W y 2 = p) : (sumZ (fun k => gRows W k) p ≤ anSeat y 0 W ∧ anSeat y 0 W < sumZ (fun k => gRows W k) p + gRows W p) ∧ (2 * anSeat y 1 W ≤ W 3 ∧ -W 3 < 2 * anSeat y 1 W) := by
  have hN := hW.n
  have hm := seat_mem hy
  rw [h2] at hm
  rw [anSe0 hy.1 hy.2 (by omega), anSe1 hy.1 hy.2 (by omega), h2]
  have hr := row_bd (w := W 3) (by omega) hm.1 hm.2
  have h3 := inS_bd (r := gSeat W y % W 3) (w := W 3) ⟨Int.emod_nonneg _ (by omega), Int.emod_lt_of_pos _ (by omega)⟩
  unfold gRows
  refine ⟨⟨by omega, ?_⟩, h3⟩
  show _ < _ + (gMem W p + W 3 - 1) / W 3
  omega
theorem an_seat_bd (hW : okW W) {y : Int} (hy : 0 ≤ y ∧ y < W 11) : (-9 ≤ anSeat y 0 W ∧ anSeat y 0 W ≤ 60) ∧ (-9 ≤ anSeat y 1 W ∧ anSeat y 1 W ≤ 9) ∧ (sV W y 2 = -9 → anSeat y 0 W = -9) ∧ (sV W y 2 ≠ -9 → 0 ≤ anSeat y 0 W) := by
  have hN := hW.n
  have hv := (hW.v hy.1 hy.2).2.2.1
  by_cases h : sV W y 2 = -9
  · have := anSe9 hy.1 hy.2 h
    omega
  · have h1 := an_seat hW hy (p := sV W y 2) (by omega) rfl
    have h2 := sRows_bd hW (p := sV W y 2) (by omega)
    have h3 := gRows_bd hW (sV W y 2)
    omega
theorem sRows_mono (hW : okW W) {p q : Int} (hp : 0 ≤ p ∧ p < q) (hq : q ≤ 4) : sumZ (fun k => gRows W k) p + gRows W p ≤ sumZ (fun k => gRows W k) q := by
  have b := fun p => gRows_bd hW p
  have e0 : sumZ (fun k => gRows W k) 0 = 0 := rfl
  have e1 : sumZ (fun k => gRows W k) 1 = 0 + gRows W 0 := rfl
  have e2 : sumZ (fun k => gRows W k) 2 = 0 + gRows W 0 + gRows W 1 := rfl
  have e3 : sumZ (fun k => gRows W k) 3 = 0 + gRows W 0 + gRows W 1 + gRows W 2 := rfl
  have e4 : sumZ (fun k => gRows W k) 4 = 0 + gRows W 0 + gRows W 1 + gRows W 2 + gRows W 3 := rfl
  have b0 := b 0
  have b1 := b 1
  have b2 := b 2
  have b3 := b 3
  rcases (show p = 0 ∨ p = 1 ∨ p = 2 ∨ p = 3 by omega) with e | e | e | e <;> subst e <;> rcases (show q = 1 ∨ q = 2 ∨ q = 3 ∨ q = 4 by omega) with e | e | e | e <;> subst e <;> omega
/-- seats are all different -/
theorem an_seat_inj (hW : okW W) {x y : Int} (hx : 0 ≤ x ∧ x < W 11) (hy : 0 ≤ y ∧ y < W 11) (hne : x ≠ y) (h2 : sV W y 2 ≠ -9) : anSeat x 0 W ≠ anSeat y 0 W ∨ anSeat x 1 W ≠ anSeat y 1 W := by
  have hN := hW.n
  have vx := (hW.v hx.1 hx.2).2.2.1
  have vy := (hW.v hy.1 hy.2).2.2.1
  have bx := an_seat_bd hW hx
  have by_ := an_seat_bd hW hy
  by_cases q : sV W x 2 = -9
  · omega
  · have ax := an_seat hW hx (p := sV W x 2) (by omega) rfl
    have ay := an_seat hW hy (p := sV W y 2) (by omega) rfl
    rcases (show sV W x 2 < sV W y 2 ∨ sV W y 2 < sV W x 2 ∨ sV W x 2 = sV W y 2 by omega) with e | e | e
    · have := sRows_mono hW (p := sV W x 2) (q := sV W y 2) (by omega) (by omega)
      omega
    · have := sRows_mono hW (p := sV W y 2) (q := sV W x 2) (by omega) (by omega)
      omega
    · have hs := seat_ne hx hy e hne
      have mx := seat_mem hx
      have my := seat_mem hy
      rw [anSe0 hx.1 hx.2 q, anSe0 hy.1 hy.2 h2, anSe1 hx.1 hx.2 q, anSe1 hy.1 hy.2 h2, e]
      by_cases c : gSeat W x / W 3 = gSeat W y / W 3
      · right
        intro hh
        have hm := inS_inj (Int.emod_nonneg _ (by omega)) (Int.emod_nonneg _ (by omega)) hh
        apply hs
        rw [← Int.mul_ediv_add_emod (gSeat W x) (W 3), ← Int.mul_ediv_add_emod (gSeat W y) (W 3), c, hm]
      · left
        omega
end BDS
/-- the mean is itself -/
theorem mn_fcmp {z : Int} (h : 0 ≤ z ∧ z ≤ 90) : Op.cmpValue (FP.fcmp (mnF z) (mnF z)) .l = Int32.ofInt 0 := by
  have key : ∀ a : Nat, a < 91 → Op.cmpValue (FP.fcmp (FP.fdiv (FP.i2f (Int32.ofInt (a : Int))) 1082130432) (FP.fdiv (FP.i2f (Int32.ofInt (a : Int))) 1082130432)) .l = Int32.ofInt 0 := by decide +kernel
  have := key z.toNat (by omega)
  rw [Int.toNat_of_nonneg h.1] at this
  exact this
