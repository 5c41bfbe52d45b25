variable {nn : Nat} {bb : Bool}
/-! placing: choosing -/
def pcr (pa pb : Nat) (r : List vO) (x L G g0 g1 : Int) : Prop := ∃ t : Int, (L ≤ g0 + t ∧ g0 + t ≤ G) ∧ (L ≤ g1 + (sumS r x - t) ∧ g1 + (sumS r x - t) ≤ G) ∧ rch pa pb r x t
theorem pcr_U {i : Nat → Int → Int} {l : Nat → Int → BitVec 64} {r : List vO} (hP : PL bb i l r) {x L G g0 g1 : Int} (hx : 0 ≤ x ∧ x < 2 ^ r.length) : (∃ t : Int, 0 ≤ t ∧ t < 128 ∧ max (L - g0) (g1 + sumS r x - G) ≤ t ∧ t ≤ min (G - g0) (g1 + sumS r x - L) ∧ spB l (ob bb + 178) x t) ↔ pcr 0 1 r x L G g0 g1 := by
  have hb := PL_sum hP hx
  constructor
  · rintro ⟨t, h1, h2, h3, h4, h5⟩
    exact ⟨t, by omega, by omega, (hP.2.2.2.2.2 x t hx.1 hx.2 h1 h2).1.mp h5⟩
  · rintro ⟨t, h1, h2, h3⟩
    have h4 := rch_bd hP.2.2.1 h3
    exact ⟨t, by omega, by omega, by omega, by omega, (hP.2.2.2.2.2 x t hx.1 hx.2 (by omega) (by omega)).1.mpr h3⟩
theorem pcr_L {i : Nat → Int → Int} {l : Nat → Int → BitVec 64} {r : List vO} (hP : PL bb i l r) {x L G g0 g1 : Int} (hx : 0 ≤ x ∧ x < 2 ^ r.length) : (∃ t : Int, 0 ≤ t ∧ t < 128 ∧ max (L - g0) (g1 + sumS r x - G) ≤ t ∧ t ≤ min (G - g0) (g1 + sumS r x - L) ∧ spB l (ob bb + 181) x t) ↔ pcr 2 3 r x L G g0 g1 := by
  have hb := PL_sum hP hx
  constructor
  · rintro ⟨t, h1, h2, h3, h4, h5⟩
    exact ⟨t, by omega, by omega, (hP.2.2.2.2.2 x t hx.1 hx.2 h1 h2).2.mp h5⟩
  · rintro ⟨t, h1, h2, h3⟩
    have h4 := rch_bd hP.2.2.1 h3
    exact ⟨t, by omega, by omega, by omega, by omega, (hP.2.2.2.2.2 x t hx.1 hx.2 (by omega) (by omega)).2.mpr h3⟩
/-- whether the voices from f on can be placed so that all four parts come between L and G -/
def cfA (r : List vO) (f L G : Int) (g : Int → Int) (s : Int) : Prop := pcr 0 1 r (s * 2 ^ f.toNat) L G (g 0) (g 1) ∧ pcr 2 3 r ((2 ^ (r.length - f.toNat) - 1 - s) * 2 ^ f.toNat) L G (g 2) (g 3)
def cfP (r : List vO) (f L G : Int) (g : Int → Int) : Prop := ∃ s : Int, (0 ≤ s ∧ s < 2 ^ (r.length - f.toNat)) ∧ cfA r f L G g s
theorem shl_bd {n f : Nat} {s : Int} (hf : f ≤ n) (h0 : 0 ≤ s) (h1 : s ≤ 2 ^ (n - f) - 1) : 0 ≤ s * 2 ^ f ∧ s * 2 ^ f < 2 ^ n := by
  have hp : (0 : Int) < 2 ^ f := Int.pow_pos (by decide)
  have he : (2 : Int) ^ n = 2 ^ (n - f) * 2 ^ f := by rw [← Int.pow_add, show n - f + f = n by omega]
  refine ⟨Int.mul_nonneg h0 (by omega), ?_⟩
  have := Int.mul_le_mul_of_nonneg_right h1 (show (0 : Int) ≤ 2 ^ f by omega)
  rw [Int.sub_mul, ← he, Int.one_mul] at this
  omega
theorem PL_185 {i i' : Nat → Int → Int} {l : Nat → Int → BitVec 64} {r : List vO} (h : PL bb i l r) (he : ∀ a b, a = (ob bb + 177) ∨ a = (ob bb + 184) ∨ a = (ob bb + 186) ∨ a = (ob bb + 187) ∨ a = (ob bb + 188) → i' a b = i a b) : PL bb i' l r := by
  obtain ⟨h1, h2, h3, h4, h5, h6⟩ := h
  refine ⟨by rw [he _ _ (by omega)]; exact h1, h2, h3, fun k h0 hk => ?_, fun s h0 hs => ?_, h6⟩
  · rw [he _ _ (by omega), he _ _ (by omega), he _ _ (by omega)]; exact h4 k h0 hk
  · rw [he _ _ (by omega)]; exact h5 s h0 hs
/-- with the voice k in the part p more -/
def gAd (g : Int → Int) (p x : Int) : Int → Int := fun b => if b = p then g b + x else g b
def fgO (r : List vO) (k L G : Int) (g : Int → Int) (p : Int) : Prop := vB (vAt r k).2.2 p.toNat ∧ cfP r (k + 1) L G (gAd g p (vAt r k).2.1)
noncomputable def fgZ (r : List vO) (k L G : Int) (g : Int → Int) : Int := by classical exact if fgO r k L G g 0 then 0 else if fgO r k L G g 1 then 1 else if fgO r k L G g 2 then 2 else if fgO r k L G g 3 then 3 else -9
theorem fgZ_hit {r : List vO} {k L G : Int} {g : Int → Int} {p : Int} (hp : 0 ≤ p ∧ p < 4) (h : fgO r k L G g p) (hn : ∀ q, 0 ≤ q → q < p → ¬ fgO r k L G g q) : fgZ r k L G g = p := by
  unfold fgZ
  rcases (show p = 0 ∨ p = 1 ∨ p = 2 ∨ p = 3 by omega) with rfl | rfl | rfl | rfl
  · rw [if_pos h]
  · rw [if_neg (hn 0 (by omega) (by omega)), if_pos h]
  · rw [if_neg (hn 0 (by omega) (by omega)), if_neg (hn 1 (by omega) (by omega)), if_pos h]
  · rw [if_neg (hn 0 (by omega) (by omega)), if_neg (hn 1 (by omega) (by omega)), if_neg (hn 2 (by omega) (by omega)), if_pos h]
theorem fgZ_none {r : List vO} {k L G : Int} {g : Int → Int} (hn : ∀ q, 0 ≤ q → q < 4 → ¬ fgO r k L G g q) : fgZ r k L G g = -9 := by
  unfold fgZ
  rw [if_neg (hn 0 (by omega) (by omega)), if_neg (hn 1 (by omega) (by omega)), if_neg (hn 2 (by omega) (by omega)), if_neg (hn 3 (by omega) (by omega))]
theorem fgZ_bd (r : List vO) (k L G : Int) (g : Int → Int) : fgZ r k L G g = -9 ∨ (0 ≤ fgZ r k L G g ∧ fgZ r k L G g < 4) := by
  unfold fgZ
  split
  · omega
  · split
    · omega
    · split
      · omega
      · split <;> omega
theorem cfP_congr {r : List vO} {f L G : Int} {g g' : Int → Int} (h : ∀ b, 0 ≤ b → b < 4 → g b = g' b) : cfP r f L G g ↔ cfP r f L G g' := by
  unfold cfP cfA
  rw [h 0 (by omega) (by omega), h 1 (by omega) (by omega), h 2 (by omega) (by omega), h 3 (by omega) (by omega)]
theorem fgO_congr {r : List vO} {k L G : Int} {g g' : Int → Int} {p : Int} (h : ∀ b, 0 ≤ b → b < 4 → g b = g' b) : fgO r k L G g p ↔ fgO r k L G g' p := by
  unfold fgO
  refine and_congr Iff.rfl (cfP_congr (fun b h0 h1 => ?_))
  unfold gAd
  rw [h b h0 h1]
theorem fgZ_congr {r : List vO} {k L G : Int} {g g' : Int → Int} (h : ∀ b, 0 ≤ b → b < 4 → g b = g' b) : fgZ r k L G g = fgZ r k L G g' := by
  have e : ∀ p, fgO r k L G g p = fgO r k L G g' p := fun p => propext (fgO_congr h)
  unfold fgZ
  rw [e 0, e 1, e 2, e 3]
/-- strengths, and parts by singer, behind the first x voices -/
noncomputable def chN (r : List vO) (L G : Int) : Nat → (Int → Int) × (Int → Int)
  | 0 => (fun _ => 0, fun _ => -9)
  | k + 1 => (fun b => if b = fgZ r k L G (chN r L G k).1 ∧ 0 ≤ b then (chN r L G k).1 b + (vAt r k).2.1 else (chN r L G k).1 b, fU (chN r L G k).2 (vAt r k).1 (fgZ r k L G (chN r L G k).1))
noncomputable def chZ (r : List vO) (L G x : Int) : (Int → Int) × (Int → Int) := chN r L G x.toNat
theorem chZ_s (r : List vO) (L G : Int) {x : Int} (h : 0 ≤ x) : chZ r L G (x + 1) = (fun b => if b = fgZ r x L G (chZ r L G x).1 ∧ 0 ≤ b then (chZ r L G x).1 b + (vAt r x).2.1 else (chZ r L G x).1 b, fU (chZ r L G x).2 (vAt r x).1 (fgZ r x L G (chZ r L G x).1)) := by
  unfold chZ
  rw [show (x + 1).toNat = x.toNat + 1 by omega]
  have e : ((x.toNat : Nat) : Int) = x := Int.toNat_of_nonneg h
  show (_, _) = _
  rw [e]
theorem vAt_mem {r : List vO} {k : Int} (h0 : 0 ≤ k) (h : k < r.length) : vAt r k ∈ r := by
  unfold vAt
  rw [List.getD_eq_getElem?_getD, List.getElem?_eq_getElem (by omega), Option.getD_some]
  exact List.getElem_mem _
theorem chZ_bd {r : List vO} (L G : Int) (hr : ∀ v ∈ r, 1 ≤ v.2.1 ∧ v.2.1 ≤ 9) {x : Int} (h : 0 ≤ x ∧ x ≤ r.length) : ∀ b, 0 ≤ (chZ r L G x).1 b ∧ (chZ r L G x).1 b ≤ 9 * x := by
  have key : ∀ n : Nat, n ≤ r.length → ∀ b, 0 ≤ (chN r L G n).1 b ∧ (chN r L G n).1 b ≤ 9 * n := by
    intro n
    induction n with
    | zero => intro _ b; show 0 ≤ (0 : Int) ∧ (0 : Int) ≤ 9 * 0; omega
    | succ n ih =>
      intro hn b
      have i1 := ih (by omega) b
      have g1 := hr _ (vAt_mem (r := r) (k := n) (by omega) (by omega))
      show 0 ≤ (if b = fgZ r n L G (chN r L G n).1 ∧ 0 ≤ b then (chN r L G n).1 b + (vAt r n).2.1 else (chN r L G n).1 b) ∧ (if b = fgZ r n L G (chN r L G n).1 ∧ 0 ≤ b then (chN r L G n).1 b + (vAt r n).2.1 else (chN r L G n).1 b) ≤ _
      split <;> omega
  intro b
  have := key x.toNat (by omega) b
  rw [Int.toNat_of_nonneg h.1] at this
  exact this
theorem ch_step {i kk i3 i4 : Nat → Int → Int} {c : Nat} {n v z s : Int} {g P : Int → Int} (hrr : c + 15 ≤ (ob bb + 169)) (hn : n ≤ 10) (hv : 0 ≤ v ∧ v < n) (hA3 : ∀ a b, kk a b = if b = 6 ∧ c + 2 ≤ a ∧ (a : Int) < c + 2 + n then P (a - c - 2) else if a = (ob bb + 185) ∧ 0 ≤ b ∧ b < 4 then g b else i a b) (h3 : ∀ a b, i3 a b = if a = (ob bb + 185) ∧ b = z ∧ 0 ≤ b then kk a b + s else kk a b) (hz : z = -9 ∨ (0 ≤ z ∧ z < 4)) (h4 : i4 = mU i3 (c + 2 + v.toNat) 6 z) : ∀ a b, i4 a b = if b = 6 ∧ c + 2 ≤ a ∧ (a : Int) < c + 2 + n then fU P v z (a - c - 2) else if a = (ob bb + 185) ∧ 0 ≤ b ∧ b < 4 then (if b = z ∧ 0 ≤ b then g b + s else g b) else i a b := by
  intro a b
  subst h4
  simp only [mU, fU, h3, hA3]
  by_cases h1 : b = 6 ∧ c + 2 ≤ a ∧ (a : Int) < c + 2 + n
  · rw [if_pos h1, if_neg (show ¬ (a = (ob bb + 185) ∧ b = z ∧ 0 ≤ b) by omega), if_pos h1]
    by_cases h2 : a = c + 2 + v.toNat
    · rw [if_pos ⟨h2, h1.1⟩, if_pos (by omega)]
    · rw [if_neg (fun q => h2 q.1), if_neg (by omega)]
  · rw [if_neg h1, if_neg (show ¬ (a = c + 2 + v.toNat ∧ b = 6) by omega), if_neg h1]
    by_cases h2 : a = (ob bb + 185) ∧ 0 ≤ b ∧ b < 4
    · rw [if_pos h2, if_pos h2]
      by_cases h3 : b = z
      · rw [if_pos ⟨h2.1, h3, h2.2.1⟩, if_pos ⟨h3, h2.2.1⟩]
      · rw [if_neg (fun q => h3 q.2.1), if_neg (fun q => h3 q.1)]
    · rw [if_neg h2, if_neg h2, if_neg (by omega)]
set_option maxRecDepth 20000 in
set_option maxHeartbeats 2000000 in
theorem c_pairU {i : Nat → Int → Int} {l : Nat → Int → BitVec 64} {r : List vO} (hP : PL bb i l r) (hL : -1 ≤ i (ob bb + 177) 8 ∧ i (ob bb + 177) 8 ≤ 100 ∧ 0 ≤ i (ob bb + 177) 9 ∧ i (ob bb + 177) 9 ≤ 100) (hgot : ∀ k, 0 ≤ k → k < 4 → 0 ≤ i (ob bb + 185) k ∧ i (ob bb + 185) k ≤ 200) {x : Int} (hx : 0 ≤ x ∧ x < 2 ^ r.length) : mCtr m_X2_pairCanReach 3 0 0 [vR (some (ob bb + 177)), vR (some (ob bb + 178)), vI (x), vI (0)] (st nn i l) (qB (pcr 0 1 r x (i (ob bb + 177) 8) (i (ob bb + 177) 9) (i (ob bb + 185) 0) (i (ob bb + 185) 1)) (st nn i l)) := by
  refine mCtr_of pl_X2 dc_X2_pairCanReach (Nat.le_of_ble_eq_true rfl) rfl ?_
  show mX m_X2_pairCanReach 3 _ 0 0 0 [some (vR (some (ob bb + 177))), some (vR (some (ob bb + 178))), some (vI (x)), some (vI (0)), none, none] [] (st nn i l)
  have hpw := pow10 hP.2.1
  have hsx := PL_sum hP hx
  have hg0 := hgot 0 (by decide) (by decide)
  have hg1 := hgot (0 + 1) (by decide) (by decide)
  refine x_aload_n 0 rfl rfl ?_
  refine x_getI 1 (z := i (ob bb + 177) 9) rfl fl_X2_65 (b_lt rfl) k_177 rfl rfl ?_
  refine x_aload_n 2 rfl rfl ?_
  refine x_getR 3 (z := (ob bb + 185)) rfl fl_X2_25 (b_lt rfl) k_177 rfl r_177_3 ?_
  refine x_iload_n 4 rfl rfl ?_
  refine x_iald 5 (z := i (ob bb + 185) 0) rfl (b_lt rfl) k_185 (by omega) rfl ?_
  refine x_isub 6 (r := (i (ob bb + 177) 9) - (i (ob bb + 185) 0)) rfl rfl ?_
  refine x_aload_n 7 rfl rfl ?_
  refine x_getR 8 (z := (ob bb + 185)) rfl fl_X2_25 (b_lt rfl) k_177 rfl r_177_3 ?_
  refine x_iload_n 9 rfl rfl ?_
  refine x_iconst 10 rfl ?_
  refine x_iadd 11 (r := 0 + 1) rfl rfl ?_
  refine x_iald 12 (z := i (ob bb + 185) (0 + 1)) rfl (b_lt rfl) k_185 (by omega) rfl ?_
  refine x_aload_n 13 rfl rfl ?_
  refine x_getR 14 (z := (ob bb + 184)) rfl fl_X2_21 (b_lt rfl) k_177 rfl r_177_2 ?_
  refine x_iload_n 15 rfl rfl ?_
  refine x_iald 16 (z := i (ob bb + 184) x) rfl (b_lt rfl) k_184 (by omega) rfl ?_
  refine x_iadd 17 (r := (i (ob bb + 185) (0 + 1)) + (i (ob bb + 184) x)) rfl rfl ?_
  refine x_aload_n 18 rfl rfl ?_
  refine x_getI 19 (z := i (ob bb + 177) 8) rfl fl_X2_62 (b_lt rfl) k_177 rfl rfl ?_
  refine x_isub 20 (r := ((i (ob bb + 185) (0 + 1)) + (i (ob bb + 184) x)) - (i (ob bb + 177) 8)) rfl rfl ?_
  refine x_mmin 21 (r := min ((i (ob bb + 177) 9) - (i (ob bb + 185) 0)) (((i (ob bb + 185) (0 + 1)) + (i (ob bb + 184) x)) - (i (ob bb + 177) 8))) rfl ml_X2_83 (by omega) rfl (by decide) (Nat.le_of_ble_eq_true rfl) ?_
  refine x_istore 22 (L' := [some (vR (some (ob bb + 177))), some (vR (some (ob bb + 178))), some (vI (x)), some (vI (0)), some (vI (min ((i (ob bb + 177) 9) - (i (ob bb + 185) 0)) (((i (ob bb + 185) (0 + 1)) + (i (ob bb + 184) x)) - (i (ob bb + 177) 8)))), none]) rfl (by decide) rfl rfl ?_
  refine x_aload_n 23 rfl rfl ?_
  refine x_getI 24 (z := i (ob bb + 177) 8) rfl fl_X2_62 (b_lt rfl) k_177 rfl rfl ?_
  refine x_aload_n 25 rfl rfl ?_
  refine x_getR 26 (z := (ob bb + 185)) rfl fl_X2_25 (b_lt rfl) k_177 rfl r_177_3 ?_
  refine x_iload_n 27 rfl rfl ?_
  refine x_iald 28 (z := i (ob bb + 185) 0) rfl (b_lt rfl) k_185 (by omega) rfl ?_
  refine x_isub 29 (r := (i (ob bb + 177) 8) - (i (ob bb + 185) 0)) rfl rfl ?_
  refine x_aload_n 30 rfl rfl ?_
  refine x_getR 31 (z := (ob bb + 185)) rfl fl_X2_25 (b_lt rfl) k_177 rfl r_177_3 ?_
  refine x_iload_n 32 rfl rfl ?_
  refine x_iconst 33 rfl ?_
  refine x_iadd 34 (r := 0 + 1) rfl rfl ?_
  refine x_iald 35 (z := i (ob bb + 185) (0 + 1)) rfl (b_lt rfl) k_185 (by omega) rfl ?_
  refine x_aload_n 36 rfl rfl ?_
  refine x_getR 37 (z := (ob bb + 184)) rfl fl_X2_21 (b_lt rfl) k_177 rfl r_177_2 ?_
  refine x_iload_n 38 rfl rfl ?_
  refine x_iald 39 (z := i (ob bb + 184) x) rfl (b_lt rfl) k_184 (by omega) rfl ?_
  refine x_iadd 40 (r := (i (ob bb + 185) (0 + 1)) + (i (ob bb + 184) x)) rfl rfl ?_
  refine x_aload_n 41 rfl rfl ?_
  refine x_getI 42 (z := i (ob bb + 177) 9) rfl fl_X2_65 (b_lt rfl) k_177 rfl rfl ?_
  refine x_isub 43 (r := ((i (ob bb + 185) (0 + 1)) + (i (ob bb + 184) x)) - (i (ob bb + 177) 9)) rfl rfl ?_
  refine x_mmax 44 (r := max ((i (ob bb + 177) 8) - (i (ob bb + 185) 0)) (((i (ob bb + 185) (0 + 1)) + (i (ob bb + 184) x)) - (i (ob bb + 177) 9))) rfl ml_X2_88 (by omega) rfl (by decide) (Nat.le_of_ble_eq_true rfl) ?_
  refine x_istore 45 (L' := [some (vR (some (ob bb + 177))), some (vR (some (ob bb + 178))), some (vI (x)), some (vI (0)), some (vI (min ((i (ob bb + 177) 9) - (i (ob bb + 185) 0)) (((i (ob bb + 185) (0 + 1)) + (i (ob bb + 184) x)) - (i (ob bb + 177) 8)))), some (vI (max ((i (ob bb + 177) 8) - (i (ob bb + 185) 0)) (((i (ob bb + 185) (0 + 1)) + (i (ob bb + 184) x)) - (i (ob bb + 177) 9))))]) rfl (by decide) rfl rfl ?_
  refine x_aload_n 46 rfl rfl ?_
  refine x_iload_n 47 rfl rfl ?_
  refine x_iload 48 rfl rfl ?_
  refine x_iload 49 rfl rfl ?_
  refine x_callV 50 m_X6_reaches (c_reaches isP_178 (by omega) (by omega) (by omega)) rfl ok_X6_reaches (isP_0 isP_178) (kP isP_178) rfl rfl ml_X2_105 im_X6_reaches se_X6_reaches rfl (by decide) rfl (Nat.le_of_ble_eq_true rfl) rfl rfl (fun v g q1 => ?_)
  rcases q1 with ⟨rfl, ⟨h2, rfl⟩ | ⟨h2, rfl⟩⟩
  · show mX m_X2_pairCanReach 3 _ 0 0 _ _ [vI (1)] _
    have hres := h2
    refine x_ret 51 (some (vI (1))) rfl ⟨rfl, Or.inr ⟨rfl, by omega⟩⟩ ⟨rfl, Or.inl ⟨?_, rfl⟩⟩
    rw [hsx.1, show ((0 : Int) + 1) = 1 from rfl] at hres
    rw [← pcr_U hP hx]
    exact hres
  · show mX m_X2_pairCanReach 3 _ 0 0 _ _ [vI (0)] _
    have hres := h2
    refine x_ret 51 (some (vI (0))) rfl ⟨rfl, Or.inr ⟨rfl, by omega⟩⟩ ⟨rfl, Or.inr ⟨?_, rfl⟩⟩
    rw [hsx.1, show ((0 : Int) + 1) = 1 from rfl] at hres
    rw [← pcr_U hP hx]
    exact hres
set_option maxRecDepth 20000 in
set_option maxHeartbeats 2000000 in
theorem c_pairL {i : Nat → Int → Int} {l : Nat → Int → BitVec 64} {r : List vO} (hP : PL bb i l r) (hL : -1 ≤ i (ob bb + 177) 8 ∧ i (ob bb + 177) 8 ≤ 100 ∧ 0 ≤ i (ob bb + 177) 9 ∧ i (ob bb + 177) 9 ≤ 100) (hgot : ∀ k, 0 ≤ k → k < 4 → 0 ≤ i (ob bb + 185) k ∧ i (ob bb + 185) k ≤ 200) {x : Int} (hx : 0 ≤ x ∧ x < 2 ^ r.length) : mCtr m_X2_pairCanReach 3 0 0 [vR (some (ob bb + 177)), vR (some (ob bb + 181)), vI (x), vI (2)] (st nn i l) (qB (pcr 2 3 r x (i (ob bb + 177) 8) (i (ob bb + 177) 9) (i (ob bb + 185) 2) (i (ob bb + 185) 3)) (st nn i l)) := by
  refine mCtr_of pl_X2 dc_X2_pairCanReach (Nat.le_of_ble_eq_true rfl) rfl ?_
  show mX m_X2_pairCanReach 3 _ 0 0 0 [some (vR (some (ob bb + 177))), some (vR (some (ob bb + 181))), some (vI (x)), some (vI (2)), none, none] [] (st nn i l)
  have hpw := pow10 hP.2.1
  have hsx := PL_sum hP hx
  have hg0 := hgot 2 (by decide) (by decide)
  have hg1 := hgot (2 + 1) (by decide) (by decide)
  refine x_aload_n 0 rfl rfl ?_
  refine x_getI 1 (z := i (ob bb + 177) 9) rfl fl_X2_65 (b_lt rfl) k_177 rfl rfl ?_
  refine x_aload_n 2 rfl rfl ?_
  refine x_getR 3 (z := (ob bb + 185)) rfl fl_X2_25 (b_lt rfl) k_177 rfl r_177_3 ?_
  refine x_iload_n 4 rfl rfl ?_
  refine x_iald 5 (z := i (ob bb + 185) 2) rfl (b_lt rfl) k_185 (by omega) rfl ?_
  refine x_isub 6 (r := (i (ob bb + 177) 9) - (i (ob bb + 185) 2)) rfl rfl ?_
  refine x_aload_n 7 rfl rfl ?_
  refine x_getR 8 (z := (ob bb + 185)) rfl fl_X2_25 (b_lt rfl) k_177 rfl r_177_3 ?_
  refine x_iload_n 9 rfl rfl ?_
  refine x_iconst 10 rfl ?_
  refine x_iadd 11 (r := 2 + 1) rfl rfl ?_
  refine x_iald 12 (z := i (ob bb + 185) (2 + 1)) rfl (b_lt rfl) k_185 (by omega) rfl ?_
  refine x_aload_n 13 rfl rfl ?_
  refine x_getR 14 (z := (ob bb + 184)) rfl fl_X2_21 (b_lt rfl) k_177 rfl r_177_2 ?_
  refine x_iload_n 15 rfl rfl ?_
  refine x_iald 16 (z := i (ob bb + 184) x) rfl (b_lt rfl) k_184 (by omega) rfl ?_
  refine x_iadd 17 (r := (i (ob bb + 185) (2 + 1)) + (i (ob bb + 184) x)) rfl rfl ?_
  refine x_aload_n 18 rfl rfl ?_
  refine x_getI 19 (z := i (ob bb + 177) 8) rfl fl_X2_62 (b_lt rfl) k_177 rfl rfl ?_
  refine x_isub 20 (r := ((i (ob bb + 185) (2 + 1)) + (i (ob bb + 184) x)) - (i (ob bb + 177) 8)) rfl rfl ?_
  refine x_mmin 21 (r := min ((i (ob bb + 177) 9) - (i (ob bb + 185) 2)) (((i (ob bb + 185) (2 + 1)) + (i (ob bb + 184) x)) - (i (ob bb + 177) 8))) rfl ml_X2_83 (by omega) rfl (by decide) (Nat.le_of_ble_eq_true rfl) ?_
  refine x_istore 22 (L' := [some (vR (some (ob bb + 177))), some (vR (some (ob bb + 181))), some (vI (x)), some (vI (2)), some (vI (min ((i (ob bb + 177) 9) - (i (ob bb + 185) 2)) (((i (ob bb + 185) (2 + 1)) + (i (ob bb + 184) x)) - (i (ob bb + 177) 8)))), none]) rfl (by decide) rfl rfl ?_
  refine x_aload_n 23 rfl rfl ?_
  refine x_getI 24 (z := i (ob bb + 177) 8) rfl fl_X2_62 (b_lt rfl) k_177 rfl rfl ?_
  refine x_aload_n 25 rfl rfl ?_
  refine x_getR 26 (z := (ob bb + 185)) rfl fl_X2_25 (b_lt rfl) k_177 rfl r_177_3 ?_
  refine x_iload_n 27 rfl rfl ?_
  refine x_iald 28 (z := i (ob bb + 185) 2) rfl (b_lt rfl) k_185 (by omega) rfl ?_
  refine x_isub 29 (r := (i (ob bb + 177) 8) - (i (ob bb + 185) 2)) rfl rfl ?_
  refine x_aload_n 30 rfl rfl ?_
  refine x_getR 31 (z := (ob bb + 185)) rfl fl_X2_25 (b_lt rfl) k_177 rfl r_177_3 ?_
  refine x_iload_n 32 rfl rfl ?_
  refine x_iconst 33 rfl ?_
  refine x_iadd 34 (r := 2 + 1) rfl rfl ?_
  refine x_iald 35 (z := i (ob bb + 185) (2 + 1)) rfl (b_lt rfl) k_185 (by omega) rfl ?_
  refine x_aload_n 36 rfl rfl ?_
  refine x_getR 37 (z := (ob bb + 184)) rfl fl_X2_21 (b_lt rfl) k_177 rfl r_177_2 ?_
  refine x_iload_n 38 rfl rfl ?_
  refine x_iald 39 (z := i (ob bb + 184) x) rfl (b_lt rfl) k_184 (by omega) rfl ?_
  refine x_iadd 40 (r := (i (ob bb + 185) (2 + 1)) + (i (ob bb + 184) x)) rfl rfl ?_
  refine x_aload_n 41 rfl rfl ?_
  refine x_getI 42 (z := i (ob bb + 177) 9) rfl fl_X2_65 (b_lt rfl) k_177 rfl rfl ?_
  refine x_isub 43 (r := ((i (ob bb + 185) (2 + 1)) + (i (ob bb + 184) x)) - (i (ob bb + 177) 9)) rfl rfl ?_
  refine x_mmax 44 (r := max ((i (ob bb + 177) 8) - (i (ob bb + 185) 2)) (((i (ob bb + 185) (2 + 1)) + (i (ob bb + 184) x)) - (i (ob bb + 177) 9))) rfl ml_X2_88 (by omega) rfl (by decide) (Nat.le_of_ble_eq_true rfl) ?_
  refine x_istore 45 (L' := [some (vR (some (ob bb + 177))), some (vR (some (ob bb + 181))), some (vI (x)), some (vI (2)), some (vI (min ((i (ob bb + 177) 9) - (i (ob bb + 185) 2)) (((i (ob bb + 185) (2 + 1)) + (i (ob bb + 184) x)) - (i (ob bb + 177) 8)))), some (vI (max ((i (ob bb + 177) 8) - (i (ob bb + 185) 2)) (((i (ob bb + 185) (2 + 1)) + (i (ob bb + 184) x)) - (i (ob bb + 177) 9))))]) rfl (by decide) rfl rfl ?_
  refine x_aload_n 46 rfl rfl ?_
  refine x_iload_n 47 rfl rfl ?_
  refine x_iload 48 rfl rfl ?_
  refine x_iload 49 rfl rfl ?_
  refine x_callV 50 m_X6_reaches (c_reaches isP_181 (by omega) (by omega) (by omega)) rfl ok_X6_reaches (isP_0 isP_181) (kP isP_181) rfl rfl ml_X2_105 im_X6_reaches se_X6_reaches rfl (by decide) rfl (Nat.le_of_ble_eq_true rfl) rfl rfl (fun v g q1 => ?_)
  rcases q1 with ⟨rfl, ⟨h2, rfl⟩ | ⟨h2, rfl⟩⟩
  · show mX m_X2_pairCanReach 3 _ 0 0 _ _ [vI (1)] _
    have hres := h2
    refine x_ret 51 (some (vI (1))) rfl ⟨rfl, Or.inr ⟨rfl, by omega⟩⟩ ⟨rfl, Or.inl ⟨?_, rfl⟩⟩
    rw [hsx.1, show ((2 : Int) + 1) = 3 from rfl] at hres
    rw [← pcr_L hP hx]
    exact hres
  · show mX m_X2_pairCanReach 3 _ 0 0 _ _ [vI (0)] _
    have hres := h2
    refine x_ret 51 (some (vI (0))) rfl ⟨rfl, Or.inr ⟨rfl, by omega⟩⟩ ⟨rfl, Or.inr ⟨?_, rfl⟩⟩
    rw [hsx.1, show ((2 : Int) + 1) = 3 from rfl] at hres
    rw [← pcr_L hP hx]
    exact hres
set_option maxRecDepth 20000 in
set_option maxHeartbeats 2000000 in
theorem c_canFinish {i : Nat → Int → Int} {l : Nat → Int → BitVec 64} {r : List vO} (hP : PL bb i l r) (hL : -1 ≤ i (ob bb + 177) 8 ∧ i (ob bb + 177) 8 ≤ 100 ∧ 0 ≤ i (ob bb + 177) 9 ∧ i (ob bb + 177) 9 ≤ 100) (hgot : ∀ k, 0 ≤ k → k < 4 → 0 ≤ i (ob bb + 185) k ∧ i (ob bb + 185) k ≤ 200) {f : Int} (hf : 0 ≤ f ∧ f ≤ r.length) : mCtr m_X2_canFinish 4 0 0 [vR (some (ob bb + 177)), vI (f)] (st nn i l) (qB (cfP r f (i (ob bb + 177) 8) (i (ob bb + 177) 9) (i (ob bb + 185))) (st nn i l)) := by
  refine mCtr_of pl_X2 dc_X2_canFinish (Nat.le_of_ble_eq_true rfl) rfl ?_
  show mX m_X2_canFinish 4 _ 0 0 0 [some (vR (some (ob bb + 177))), some (vI (f)), none, none, none, none] [] (st nn i l)
  have hl10 := hP.2.1
  have h177 := hP.1
  have hpw := pow10 (show r.length - f.toNat ≤ 10 by omega)
  have he7 : 1 * 2 ^ (i (ob bb + 177) 7 - f).toNat = (2 : Int) ^ (r.length - f.toNat) := by rw [h177, Int.one_mul]; congr 1; omega
  have hpn := pow10 hP.2.1
  refine x_iconst 0 rfl ?_
  refine x_aload_n 1 rfl rfl ?_
  refine x_getI 2 (z := i (ob bb + 177) 7) rfl fl_X2_37 (b_lt rfl) k_177 rfl rfl ?_
  refine x_iload_n 3 rfl rfl ?_
  refine x_isub 4 (r := (i (ob bb + 177) 7) - f) rfl rfl ?_
  refine x_ishl 5 (r := 1 * 2 ^ ((i (ob bb + 177) 7) - f).toNat) rfl (by omega) rfl ?_
  refine x_iconst 6 rfl ?_
  refine x_isub 7 (r := (1 * 2 ^ ((i (ob bb + 177) 7) - f).toNat) - 1) rfl rfl ?_
  refine x_eqS (S' := [vI (2 ^ (r.length - f.toNat) - 1)]) (by rw [he7]) ?_
  refine x_istore_n 8 (L' := [some (vR (some (ob bb + 177))), some (vI (f)), some (vI (2 ^ (r.length - f.toNat) - 1)), none, none, none]) rfl (by decide) rfl rfl ?_
  refine x_iconst 9 rfl ?_
  refine x_istore_n 10 (L' := [some (vR (some (ob bb + 177))), some (vI (f)), some (vI (2 ^ (r.length - f.toNat) - 1)), some (vI (0)), none, none]) rfl (by decide) rfl rfl ?_
  have loopL1 : ∀ (nz : Nat) (s : Int), (0 ≤ s ∧ s ≤ 2 ^ (r.length - f.toNat)) → (∀ t, 0 ≤ t → t < s → ¬ cfA r f (i (ob bb + 177) 8) (i (ob bb + 177) 9) (i (ob bb + 185)) t) → (2 ^ (r.length - f.toNat) - s) < (nz : Int) → mX m_X2_canFinish 4 (qB (cfP r f (i (ob bb + 177) 8) (i (ob bb + 177) 9) (i (ob bb + 185))) (st nn i l)) 0 0 13 [some (vR (some (ob bb + 177))), some (vI (f)), some (vI (2 ^ (r.length - f.toNat) - 1)), some (vI (s)), none, none] [] (st nn i l) := by
    intro nz
    induction nz with
    | zero => intro s hs hN hz; exact absurd hz (by omega)
    | succ nz ihL1 =>
      intro s hs hN hzL1
      refine x_iload_n 11 rfl rfl ?_
      refine x_iload_n 12 rfl rfl ?_
      refine x_icmp_gt 13 (tgt := 66) rfl (by decide) (by omega) (fun h2 => ?_) (fun h2 => ?_)
      · refine x_iconst 42 rfl ?_
        refine x_ret 43 (some (vI (0))) rfl ⟨rfl, Or.inr ⟨rfl, by omega⟩⟩ ⟨rfl, Or.inr ⟨?_, rfl⟩⟩
        rintro ⟨t, ⟨h0, h1⟩, hA⟩
        exact hN t h0 (by omega) hA
      · have hb1 := shl_bd (n := r.length) (f := f.toNat) (s := s) (by omega) hs.1 (by omega)
        have hb2 := shl_bd (n := r.length) (f := f.toNat) (s := 2 ^ (r.length - f.toNat) - 1 - s) (by omega) (by omega) (by omega)
        refine x_iload_n 14 rfl rfl ?_
        refine x_iload_n 15 rfl rfl ?_
        refine x_ishl 16 (r := s * 2 ^ (f).toNat) rfl (by omega) rfl ?_
        refine x_istore 17 (L' := [some (vR (some (ob bb + 177))), some (vI (f)), some (vI (2 ^ (r.length - f.toNat) - 1)), some (vI (s)), some (vI (s * 2 ^ (f).toNat)), none]) rfl (by decide) rfl rfl ?_
        refine x_iload_n 18 rfl rfl ?_
        refine x_iload_n 19 rfl rfl ?_
        refine x_ixor 20 (r := (2 ^ (r.length - f.toNat) - 1 : Int).toNat ^^^ (s : Int).toNat) rfl (by omega) rfl ?_
        refine x_eqS (S' := [vI (2 ^ (r.length - f.toNat) - 1 - s)]) (by rw [xor_all hs.1 (by omega)]) ?_
        refine x_iload_n 21 rfl rfl ?_
        refine x_ishl 22 (r := (2 ^ (r.length - f.toNat) - 1 - s) * 2 ^ (f).toNat) rfl (by omega) rfl ?_
        refine x_istore 23 (L' := [some (vR (some (ob bb + 177))), some (vI (f)), some (vI (2 ^ (r.length - f.toNat) - 1)), some (vI (s)), some (vI (s * 2 ^ (f).toNat)), some (vI ((2 ^ (r.length - f.toNat) - 1 - s) * 2 ^ (f).toNat))]) rfl (by decide) rfl rfl ?_
        refine x_aload_n 24 rfl rfl ?_
        refine x_aload_n 25 rfl rfl ?_
        refine x_getR 26 (z := (ob bb + 178)) rfl fl_X2_12 (b_lt rfl) k_177 rfl r_177_0 ?_
        refine x_iload 27 rfl rfl ?_
        refine x_iconst 28 rfl ?_
        refine x_callV 29 m_X2_pairCanReach (c_pairU hP hL hgot (by omega)) rfl ok_X2_pairCanReach (b_lt rfl) k_177 rfl rfl ml_X2_101 im_X2_pairCanReach se_X2_pairCanReach rfl (by decide) rfl (Nat.le_of_ble_eq_true rfl) rfl rfl (fun v g q3 => ?_)
        rcases q3 with ⟨rfl, ⟨h4, rfl⟩ | ⟨h4, rfl⟩⟩
        · show mX m_X2_canFinish 4 _ 0 0 _ _ [vI (1)] _
          have hy1 := h4
          refine x_if_eq 30 (tgt := 60) rfl (by decide) (by decide) (fun h5 => absurd h5 (by decide)) (fun h5 => ?_)
          refine x_aload_n 31 rfl rfl ?_
          refine x_aload_n 32 rfl rfl ?_
          refine x_getR 33 (z := (ob bb + 181)) rfl fl_X2_18 (b_lt rfl) k_177 rfl r_177_1 ?_
          refine x_iload 34 rfl rfl ?_
          refine x_iconst 35 rfl ?_
          refine x_callV 36 m_X2_pairCanReach (c_pairL hP hL hgot (by omega)) rfl ok_X2_pairCanReach (b_lt rfl) k_177 rfl rfl ml_X2_101 im_X2_pairCanReach se_X2_pairCanReach rfl (by decide) rfl (Nat.le_of_ble_eq_true rfl) rfl rfl (fun v g q6 => ?_)
          rcases q6 with ⟨rfl, ⟨h7, rfl⟩ | ⟨h7, rfl⟩⟩
          · show mX m_X2_canFinish 4 _ 0 0 _ _ [vI (1)] _
            have hy2 := h7
            refine x_if_eq 37 (tgt := 60) rfl (by decide) (by decide) (fun h8 => absurd h8 (by decide)) (fun h8 => ?_)
            refine x_iconst 38 rfl ?_
            refine x_ret 39 (some (vI (1))) rfl ⟨rfl, Or.inr ⟨rfl, by omega⟩⟩ ⟨rfl, Or.inl ⟨?_, rfl⟩⟩
            exact ⟨s, ⟨hs.1, by omega⟩, hy1, hy2⟩
          · show mX m_X2_canFinish 4 _ 0 0 _ _ [vI (0)] _
            have hno := h7
            refine x_if_eq 37 (tgt := 60) rfl (by decide) (by decide) (fun h9 => ?_) (fun h9 => absurd h9 (by decide))
            refine x_iinc 40 (L' := [some (vR (some (ob bb + 177))), some (vI (f)), some (vI (2 ^ (r.length - f.toNat) - 1)), some (vI (s + 1)), some (vI (s * 2 ^ (f).toNat)), some (vI ((2 ^ (r.length - f.toNat) - 1 - s) * 2 ^ (f).toNat))]) rfl (by decide) rfl rfl rfl rfl ?_
            refine x_goto 41 (tgt := 13) rfl (by decide) ?_
            refine x_dropL (L' := [some (vR (some (ob bb + 177))), some (vI (f)), some (vI (2 ^ (r.length - f.toNat) - 1)), some (vI (s + 1)), none, none]) ⟨rfl, ⟨rfl, ⟨rfl, ⟨rfl, True.intro⟩⟩⟩⟩ ?_
            exact ihL1 (s + 1) (by omega) (by intro t h0 h1; by_cases e : t = s; (subst e; unfold cfA; intro hh; first | exact hno hh.1 | exact hno hh.2); (exact hN t h0 (by omega))) (by omega)
        · show mX m_X2_canFinish 4 _ 0 0 _ _ [vI (0)] _
          have hno := h4
          refine x_if_eq 30 (tgt := 60) rfl (by decide) (by decide) (fun h10 => ?_) (fun h10 => absurd h10 (by decide))
          refine x_iinc 40 (L' := [some (vR (some (ob bb + 177))), some (vI (f)), some (vI (2 ^ (r.length - f.toNat) - 1)), some (vI (s + 1)), some (vI (s * 2 ^ (f).toNat)), some (vI ((2 ^ (r.length - f.toNat) - 1 - s) * 2 ^ (f).toNat))]) rfl (by decide) rfl rfl rfl rfl ?_
          refine x_goto 41 (tgt := 13) rfl (by decide) ?_
          refine x_dropL (L' := [some (vR (some (ob bb + 177))), some (vI (f)), some (vI (2 ^ (r.length - f.toNat) - 1)), some (vI (s + 1)), none, none]) ⟨rfl, ⟨rfl, ⟨rfl, ⟨rfl, True.intro⟩⟩⟩⟩ ?_
          exact ihL1 (s + 1) (by omega) (by intro t h0 h1; by_cases e : t = s; (subst e; unfold cfA; intro hh; first | exact hno hh.1 | exact hno hh.2); (exact hN t h0 (by omega))) (by omega)
  exact loopL1 ((2 ^ (r.length - f.toNat) - ((0))) + 1 : Int).toNat (0) (by omega) (fun t h0 h1 => by omega) (by omega)
set_option maxRecDepth 20000 in
set_option maxHeartbeats 2000000 in
theorem c_firstGoodPart {i : Nat → Int → Int} {l : Nat → Int → BitVec 64} {r : List vO} (hP : PL bb i l r) (hL : -1 ≤ i (ob bb + 177) 8 ∧ i (ob bb + 177) 8 ≤ 100 ∧ 0 ≤ i (ob bb + 177) 9 ∧ i (ob bb + 177) 9 ≤ 100) (hgot : ∀ k, 0 ≤ k → k < 4 → 0 ≤ i (ob bb + 185) k ∧ i (ob bb + 185) k ≤ 150) {k : Int} (hk : 0 ≤ k ∧ k < r.length) (hm : 0 ≤ (vAt r k).2.2 ∧ (vAt r k).2.2 ≤ 15) : mCtr m_X2_firstGoodPart 5 0 0 [vR (some (ob bb + 177)), vI (k)] (st nn i l) (qW nn (fun z i' l' => z = fgZ r k (i (ob bb + 177) 8) (i (ob bb + 177) 9) (i (ob bb + 185)) ∧ l' = l ∧ ∀ a b, i' a b = if a = (ob bb + 185) ∧ b = fgZ r k (i (ob bb + 177) 8) (i (ob bb + 177) 9) (i (ob bb + 185)) ∧ 0 ≤ b then i a b + (vAt r k).2.1 else i a b)) := by
  refine mCtr_of pl_X2 dc_X2_firstGoodPart (Nat.le_of_ble_eq_true rfl) rfl ?_
  show mX m_X2_firstGoodPart 5 _ 0 0 0 [some (vR (some (ob bb + 177))), some (vI (k)), none] [] (st nn i l)
  have hl10 := hP.2.1
  have h177 := hP.1
  have hv := hP.2.2.2.1 k hk.1 hk.2
  have hvm := hP.2.2.1 _ (vAt_mem hk.1 hk.2)
  obtain ⟨L, hLe⟩ : ∃ L, L = i (ob bb + 177) 8 := ⟨_, rfl⟩
  obtain ⟨G, hGe⟩ : ∃ G, G = i (ob bb + 177) 9 := ⟨_, rfl⟩
  refine x_iconst 0 rfl ?_
  refine x_istore_n 1 (L' := [some (vR (some (ob bb + 177))), some (vI (k)), some (vI (0))]) rfl (by decide) rfl rfl ?_
  have loopL1 : ∀ (nz : Nat) (ii : Nat → Int → Int) (p : Int), (0 ≤ p ∧ p ≤ 4) → (∀ a b, ii a b = i a b) → (∀ q, 0 ≤ q → q < p → ¬ fgO r k (i (ob bb + 177) 8) (i (ob bb + 177) 9) (i (ob bb + 185)) q) → (4 - p) < (nz : Int) → mX m_X2_firstGoodPart 5 (qW nn (fun z i' l' => z = fgZ r k (i (ob bb + 177) 8) (i (ob bb + 177) 9) (i (ob bb + 185)) ∧ l' = l ∧ ∀ a b, i' a b = if a = (ob bb + 185) ∧ b = fgZ r k (i (ob bb + 177) 8) (i (ob bb + 177) 9) (i (ob bb + 185)) ∧ 0 ≤ b then i a b + (vAt r k).2.1 else i a b)) 0 0 2 [some (vR (some (ob bb + 177))), some (vI (k)), some (vI (p))] [] (st nn ii l) := by
    intro nz
    induction nz with
    | zero => intro ii p hp he hN hz; exact absurd hz (by omega)
    | succ nz ihL1 =>
      intro ii p hp he hN hzL1
      refine x_iload_n 2 rfl rfl ?_
      refine x_iconst 3 rfl ?_
      refine x_icmp_ge 4 (tgt := 69) rfl (by decide) (by omega) (fun h2 => ?_) (fun h2 => ?_)
      · refine x_bipush 45 rfl (by decide) ?_
        refine x_ret 46 (some (vI ((-9)))) rfl ⟨rfl, Or.inl rfl⟩ ⟨_, ii, l, rfl, rfl, ?_⟩
        have hfz := fgZ_none (r := r) (k := k) (L := i (ob bb + 177) 8) (G := i (ob bb + 177) 9) (g := i (ob bb + 185)) (fun q h0 h1 => hN q h0 (by omega))
        refine ⟨hfz.symm, rfl, fun a b => ?_⟩
        rw [hfz, he, if_neg (by omega)]
      · have ek8 := he (ob bb + 188) k
        have ek7 := he (ob bb + 187) k
        have e5p := he (ob bb + 185) p
        have hgp := hgot p (by omega) (by omega)
        refine x_aload_n 5 rfl rfl ?_
        refine x_getR 6 (z := (ob bb + 188)) rfl fl_X2_34 (b_lt rfl) k_177 rfl r_177_6 ?_
        refine x_iload_n 7 rfl rfl ?_
        refine x_iald 8 (z := ii (ob bb + 188) k) rfl (b_lt rfl) k_188 (by omega) rfl ?_
        refine x_i2l 9 (r := BitVec.ofInt 64 (ii (ob bb + 188) k)) rfl (by omega) rfl ?_
        refine x_iload_n 10 rfl rfl ?_
        refine x_callSN 11 m_X8_contains (c_contains (by omega)) rfl ok_X8_contains (by decide +kernel) st_X8_contains rfl (by decide) rfl (Nat.le_of_ble_eq_true rfl) rfl rfl (fun v g q3 => ?_)
        rcases q3 with ⟨rfl, ⟨h4, rfl⟩ | ⟨h4, rfl⟩⟩
        · show mX m_X2_firstGoodPart 5 _ 0 0 _ _ [vI (1)] _
          have hyb : vB (vAt r k).2.2 p.toNat := by unfold vB; rw [← hv.2.2, ← he]; exact h4
          refine x_if_eq 12 (tgt := 63) rfl (by decide) (by decide) (fun h5 => absurd h5 (by decide)) (fun h5 => ?_)
          refine x_aload_n 13 rfl rfl ?_
          refine x_getR 14 (z := (ob bb + 185)) rfl fl_X2_25 (b_lt rfl) k_177 rfl r_177_3 ?_
          refine x_iload_n 15 rfl rfl ?_
          refine x_dup2 16 rfl rfl rfl ?_
          refine x_iald 17 (z := ii (ob bb + 185) p) rfl (b_lt rfl) k_185 (by omega) rfl ?_
          refine x_aload_n 18 rfl rfl ?_
          refine x_getR 19 (z := (ob bb + 187)) rfl fl_X2_31 (b_lt rfl) k_177 rfl r_177_5 ?_
          refine x_iload_n 20 rfl rfl ?_
          refine x_iald 21 (z := ii (ob bb + 187) k) rfl (b_lt rfl) k_187 (by omega) rfl ?_
          refine x_iadd 22 (r := (ii (ob bb + 185) p) + (ii (ob bb + 187) k)) rfl rfl ?_
          obtain ⟨i6, hi6⟩ : ∃ f, f = mU ii (ob bb + 185) (p) ((ii (ob bb + 185) p) + (ii (ob bb + 187) k)) := ⟨_, rfl⟩
          refine x_iast 23 rfl (b_lt rfl) k_185 (by omega) (g' := st nn i6 l) (by subst hi6; rfl) ?_
          have hPn : PL bb i6 l r := PL_185 hP (fun a b hab => by rw [hi6]; simp only [mU]; rw [if_neg (by omega)]; exact he a b)
          have hq8 : i6 (ob bb + 177) 8 = i (ob bb + 177) 8 := by rw [hi6]; simp only [mU]; rw [if_neg (by omega)]; exact he _ _
          have hq9 : i6 (ob bb + 177) 9 = i (ob bb + 177) 9 := by rw [hi6]; simp only [mU]; rw [if_neg (by omega)]; exact he _ _
          have hgAd : ∀ b, 0 ≤ b → b < 4 → i6 (ob bb + 185) b = gAd (i (ob bb + 185)) p (vAt r k).2.1 b := by intro b h0 h1; rw [hi6]; unfold gAd; simp only [mU, true_and, he, hv.2.1]; by_cases e : b = p <;> simp [e]
          have hgn : ∀ b, 0 ≤ b → b < 4 → 0 ≤ i6 (ob bb + 185) b ∧ i6 (ob bb + 185) b ≤ 200 := by intro b h0 h1; rw [hgAd b h0 h1]; unfold gAd; have := hgot b h0 h1; split <;> omega
          refine x_aload_n 24 rfl rfl ?_
          refine x_iload_n 25 rfl rfl ?_
          refine x_iconst 26 rfl ?_
          refine x_iadd 27 (r := k + 1) rfl rfl ?_
          refine x_callV 28 m_X2_canFinish (c_canFinish hPn (by omega) hgn (by omega)) rfl ok_X2_canFinish (b_lt rfl) k_177 rfl rfl ml_X2_97 im_X2_canFinish se_X2_canFinish rfl (by decide) rfl (Nat.le_of_ble_eq_true rfl) rfl rfl (fun v g q7 => ?_)
          rcases q7 with ⟨rfl, ⟨h8, rfl⟩ | ⟨h8, rfl⟩⟩
          · show mX m_X2_firstGoodPart 5 _ 0 0 _ _ [vI (1)] _
            have hyc : cfP r (k + 1) (i (ob bb + 177) 8) (i (ob bb + 177) 9) (gAd (i (ob bb + 185)) p (vAt r k).2.1) := by rw [← cfP_congr hgAd, ← hq8, ← hq9]; exact h8
            refine x_if_eq 29 (tgt := 48) rfl (by decide) (by decide) (fun h9 => absurd h9 (by decide)) (fun h9 => ?_)
            refine x_iload_n 30 rfl rfl ?_
            refine x_ret 31 (some (vI (p))) rfl ⟨rfl, Or.inl rfl⟩ ⟨_, i6, l, rfl, rfl, ?_⟩
            have hfz := fgZ_hit (by omega) (show fgO r k (i (ob bb + 177) 8) (i (ob bb + 177) 9) (i (ob bb + 185)) p from ⟨hyb, hyc⟩) hN
            refine ⟨hfz.symm, rfl, fun a b => ?_⟩
            rw [hfz]
            subst_vars
            simp only [mU, he, hv.2.1]
            grind
          · show mX m_X2_firstGoodPart 5 _ 0 0 _ _ [vI (0)] _
            have hno2 : ¬ cfP r (k + 1) (i (ob bb + 177) 8) (i (ob bb + 177) 9) (gAd (i (ob bb + 185)) p (vAt r k).2.1) := by rw [← cfP_congr hgAd, ← hq8, ← hq9]; exact h8
            refine x_if_eq 29 (tgt := 48) rfl (by decide) (by decide) (fun h10 => ?_) (fun h10 => absurd h10 (by decide))
            refine x_aload_n 32 rfl rfl ?_
            refine x_getR 33 (z := (ob bb + 185)) rfl fl_X2_25 (b_lt rfl) k_177 rfl r_177_3 ?_
            refine x_iload_n 34 rfl rfl ?_
            refine x_dup2 35 rfl rfl rfl ?_
            refine x_iald 36 (z := i6 (ob bb + 185) p) rfl (b_lt rfl) k_185 (by omega) rfl ?_
            refine x_aload_n 37 rfl rfl ?_
            refine x_getR 38 (z := (ob bb + 187)) rfl fl_X2_31 (b_lt rfl) k_177 rfl r_177_5 ?_
            refine x_iload_n 39 rfl rfl ?_
            refine x_iald 40 (z := i6 (ob bb + 187) k) rfl (b_lt rfl) k_187 (by omega) rfl ?_
            refine x_isub 41 (r := (i6 (ob bb + 185) p) - (i6 (ob bb + 187) k)) rfl rfl ?_
            obtain ⟨i11, hi11⟩ : ∃ f, f = mU i6 (ob bb + 185) (p) ((i6 (ob bb + 185) p) - (i6 (ob bb + 187) k)) := ⟨_, rfl⟩
            refine x_iast 42 rfl (b_lt rfl) k_185 (by omega) (g' := st nn i11 l) (by subst hi11; rfl) ?_
            refine x_iinc 43 (L' := [some (vR (some (ob bb + 177))), some (vI (k)), some (vI (p + 1))]) rfl (by decide) rfl rfl rfl rfl ?_
            refine x_goto 44 (tgt := 2) rfl (by decide) ?_
            exact ihL1 i11 (p + 1) (by omega) (by first | exact he | (intro a b; subst_vars; simp only [mU]; grind)) (by intro q h0 h1; by_cases e : q = p; (subst e; intro hh; first | exact hno1 hh.1 | exact hno2 hh.2); (exact hN q h0 (by omega))) (by omega)
        · show mX m_X2_firstGoodPart 5 _ 0 0 _ _ [vI (0)] _
          have hno1 : ¬ vB (vAt r k).2.2 p.toNat := by unfold vB; rw [← hv.2.2, ← he]; exact h4
          refine x_if_eq 12 (tgt := 63) rfl (by decide) (by decide) (fun h12 => ?_) (fun h12 => absurd h12 (by decide))
          refine x_iinc 43 (L' := [some (vR (some (ob bb + 177))), some (vI (k)), some (vI (p + 1))]) rfl (by decide) rfl rfl rfl rfl ?_
          refine x_goto 44 (tgt := 2) rfl (by decide) ?_
          exact ihL1 ii (p + 1) (by omega) (by first | exact he | (intro a b; subst_vars; simp only [mU]; grind)) (by intro q h0 h1; by_cases e : q = p; (subst e; intro hh; first | exact hno1 hh.1 | exact hno2 hh.2); (exact hN q h0 (by omega))) (by omega)
  exact loopL1 ((4 - ((0))) + 1 : Int).toNat i (0) (by omega) (fun _ _ => rfl) (fun q h0 h1 => by omega) (by omega)
set_option maxRecDepth 20000 in
set_option maxHeartbeats 2000000 in
theorem c_choose {i : Nat → Int → Int} {l : Nat → Int → BitVec 64} {c : Nat} (hc : isC bb c) (hn : 0 ≤ i c 4 ∧ i c 4 ≤ 10) {r : List vO} (hP : PL bb i l r) (hL : -1 ≤ i (ob bb + 177) 8 ∧ i (ob bb + 177) 8 ≤ 100 ∧ 0 ≤ i (ob bb + 177) 9 ∧ i (ob bb + 177) 9 ≤ 100) (hr : ∀ v ∈ r, (0 ≤ v.1 ∧ v.1 < i c 4) ∧ 0 ≤ v.2.2 ∧ v.2.2 ≤ 15) : mCtr m_X2_choose 6 0 0 [vR (some (ob bb + 177)), vR (some c)] (st nn i l) (qV nn (fun i' l' => l' = l ∧ ∀ a b, i' a b = if b = 6 ∧ c + 2 ≤ a ∧ (a : Int) < c + 2 + i c 4 then (chZ r (i (ob bb + 177) 8) (i (ob bb + 177) 9) r.length).2 (a - c - 2) else if a = (ob bb + 185) ∧ 0 ≤ b ∧ b < 4 then (chZ r (i (ob bb + 177) 8) (i (ob bb + 177) 9) r.length).1 b else i a b)) := by
  refine mCtr_of pl_X2 dc_X2_choose (Nat.le_of_ble_eq_true rfl) rfl ?_
  show mX m_X2_choose 6 _ 0 0 0 [some (vR (some (ob bb + 177))), some (vR (some c)), none] [] (st nn i l)
  have hrr := isC_r hc
  have hl10 := hP.2.1
  have h177 := hP.1
  refine x_iconst 0 rfl ?_
  refine x_istore_n 1 (L' := [some (vR (some (ob bb + 177))), some (vR (some c)), some (vI (0))]) rfl (by decide) rfl rfl ?_
  have loopL1 : ∀ (nz : Nat) (ii : Nat → Int → Int) (x : Int), (0 ≤ x ∧ x ≤ i c 4) → (∀ a b, ii a b = if b = 6 ∧ c + 2 ≤ a ∧ (a : Int) < c + 2 + x then -9 else i a b) → (i c 4 - x) < (nz : Int) → mX m_X2_choose 6 (qV nn (fun i' l' => l' = l ∧ ∀ a b, i' a b = if b = 6 ∧ c + 2 ≤ a ∧ (a : Int) < c + 2 + i c 4 then (chZ r (i (ob bb + 177) 8) (i (ob bb + 177) 9) r.length).2 (a - c - 2) else if a = (ob bb + 185) ∧ 0 ≤ b ∧ b < 4 then (chZ r (i (ob bb + 177) 8) (i (ob bb + 177) 9) r.length).1 b else i a b)) 0 0 2 [some (vR (some (ob bb + 177))), some (vR (some c)), some (vI (x))] [] (st nn ii l) := by
    intro nz
    induction nz with
    | zero => intro ii x hx hA hz; exact absurd hz (by omega)
    | succ nz ihL1 =>
      intro ii x hx hA hzL1
      have e4 : ii c 4 = i c 4 := by rw [hA, if_neg (by omega)]
      refine x_iload_n 2 rfl rfl ?_
      refine x_aload_n 3 rfl rfl ?_
      refine x_getI 4 (z := ii c 4) rfl fl_X2_41 (isC_0 hc) (kC hc) rfl rfl ?_
      refine x_icmp_ge 5 (tgt := 27) rfl (by decide) (by omega) (fun h2 => ?_) (fun h2 => ?_)
      · refine x_iconst 14 rfl ?_
        refine x_istore_n 15 (L' := [some (vR (some (ob bb + 177))), some (vR (some c)), some (vI (0))]) rfl (by decide) rfl rfl ?_
        have loopL3 : ∀ (nz : Nat) (jj : Nat → Int → Int) (x2 : Int), (0 ≤ x2 ∧ x2 ≤ 4) → (∀ a b, jj a b = if a = (ob bb + 185) ∧ 0 ≤ b ∧ b < x2 then 0 else ii a b) → (4 - x2) < (nz : Int) → mX m_X2_choose 6 (qV nn (fun i' l' => l' = l ∧ ∀ a b, i' a b = if b = 6 ∧ c + 2 ≤ a ∧ (a : Int) < c + 2 + i c 4 then (chZ r (i (ob bb + 177) 8) (i (ob bb + 177) 9) r.length).2 (a - c - 2) else if a = (ob bb + 185) ∧ 0 ≤ b ∧ b < 4 then (chZ r (i (ob bb + 177) 8) (i (ob bb + 177) 9) r.length).1 b else i a b)) 0 0 29 [some (vR (some (ob bb + 177))), some (vR (some c)), some (vI (x2))] [] (st nn jj l) := by
          intro nz
          induction nz with
          | zero => intro jj x2 hx2 hA2 hz; exact absurd hz (by omega)
          | succ nz ihL3 =>
            intro jj x2 hx2 hA2 hzL3
            refine x_iload_n 16 rfl rfl ?_
            refine x_iconst 17 rfl ?_
            refine x_icmp_ge 18 (tgt := 47) rfl (by decide) (by omega) (fun h4 => ?_) (fun h4 => ?_)
            · refine x_iconst 26 rfl ?_
              refine x_istore_n 27 (L' := [some (vR (some (ob bb + 177))), some (vR (some c)), some (vI (0))]) rfl (by decide) rfl rfl ?_
              have loopL5 : ∀ (nz : Nat) (kk : Nat → Int → Int) (x3 : Int), (0 ≤ x3 ∧ x3 ≤ r.length) → (∀ a b, kk a b = if b = 6 ∧ c + 2 ≤ a ∧ (a : Int) < c + 2 + i c 4 then (chZ r (i (ob bb + 177) 8) (i (ob bb + 177) 9) x3).2 (a - c - 2) else if a = (ob bb + 185) ∧ 0 ≤ b ∧ b < 4 then (chZ r (i (ob bb + 177) 8) (i (ob bb + 177) 9) x3).1 b else i a b) → (r.length - x3) < (nz : Int) → mX m_X2_choose 6 (qV nn (fun i' l' => l' = l ∧ ∀ a b, i' a b = if b = 6 ∧ c + 2 ≤ a ∧ (a : Int) < c + 2 + i c 4 then (chZ r (i (ob bb + 177) 8) (i (ob bb + 177) 9) r.length).2 (a - c - 2) else if a = (ob bb + 185) ∧ 0 ≤ b ∧ b < 4 then (chZ r (i (ob bb + 177) 8) (i (ob bb + 177) 9) r.length).1 b else i a b)) 0 0 49 [some (vR (some (ob bb + 177))), some (vR (some c)), some (vI (x3))] [] (st nn kk l) := by
                intro nz
                induction nz with
                | zero => intro kk x3 hx3 hA3 hz; exact absurd hz (by omega)
                | succ nz ihL5 =>
                  intro kk x3 hx3 hA3 hzL5
                  have e7 : kk (ob bb + 177) 7 = i (ob bb + 177) 7 := by rw [hA3, if_neg (by omega), if_neg (by omega)]
                  refine x_iload_n 28 rfl rfl ?_
                  refine x_aload_n 29 rfl rfl ?_
                  refine x_getI 30 (z := kk (ob bb + 177) 7) rfl fl_X2_37 (b_lt rfl) k_177 rfl rfl ?_
                  refine x_icmp_ge 31 (tgt := 82) rfl (by decide) (by omega) (fun h6 => ?_) (fun h6 => ?_)
                  · refine x_ret 45 none rfl ⟨rfl, rfl⟩ ⟨rfl, kk, l, rfl, ?_⟩
                    refine ⟨rfl, ?_⟩
                    rw [show x3 = r.length by omega] at hA3
                    exact hA3
                  · have hPk : PL bb kk l r := PL_185 hP (fun a b hab => by rw [hA3, if_neg (by omega), if_neg (by omega)])
                    have hv := hPk.2.2.2.1 x3 hx3.1 (by omega)
                    have hvr := hr _ (vAt_mem hx3.1 (show x3 < r.length by omega))
                    have ek8 : kk (ob bb + 177) 8 = i (ob bb + 177) 8 := by rw [hA3, if_neg (by omega), if_neg (by omega)]
                    have ek9 : kk (ob bb + 177) 9 = i (ob bb + 177) 9 := by rw [hA3, if_neg (by omega), if_neg (by omega)]
                    have hv1 := hv.1
                    have hgk : ∀ b, 0 ≤ b → b < 4 → kk (ob bb + 185) b = (chZ r (i (ob bb + 177) 8) (i (ob bb + 177) 9) x3).1 b := by intro b h0 h1; rw [hA3, if_neg (by omega), if_pos ⟨rfl, h0, h1⟩]
                    have hgot : ∀ b, 0 ≤ b → b < 4 → 0 ≤ kk (ob bb + 185) b ∧ kk (ob bb + 185) b ≤ 150 := by intro b h0 h1; rw [hgk b h0 h1]; have := chZ_bd (i (ob bb + 177) 8) (i (ob bb + 177) 9) hP.2.2.1 hx3 b; omega
                    refine x_aload_n 32 rfl rfl ?_
                    refine x_getR 33 (z := (c + 1)) rfl fl_X2_50 (isC_0 hc) (kC hc) rfl (rC0 hc) ?_
                    refine x_aload_n 34 rfl rfl ?_
                    refine x_getR 35 (z := (ob bb + 186)) rfl fl_X2_28 (b_lt rfl) k_177 rfl r_177_4 ?_
                    refine x_iload_n 36 rfl rfl ?_
                    refine x_iald 37 (z := kk (ob bb + 186) x3) rfl (b_lt rfl) k_186 (by omega) rfl ?_
                    refine x_aald 38 (t := 3) (z := (c + 2 + (kk (ob bb + 186) x3).toNat)) rfl (isC_S hc) (kCS hc) (by omega) ⟨rfl, rfl⟩ (rCs hc (by omega)) ?_
                    refine x_aload_n 39 rfl rfl ?_
                    refine x_iload_n 40 rfl rfl ?_
                    refine x_callV 41 m_X2_firstGoodPart (c_firstGoodPart hPk (by omega) hgot (by omega) (by omega)) rfl ok_X2_firstGoodPart (b_lt rfl) k_177 rfl rfl ml_X2_94 im_X2_firstGoodPart se_X2_firstGoodPart rfl (by decide) rfl (Nat.le_of_ble_eq_true rfl) rfl rfl (fun v g q7 => ?_)
                    obtain ⟨z9, i8, li8, rfl, rfl, hi8⟩ := q7
                    show mX m_X2_choose 6 _ 0 0 _ _ [vI (z9), vR (some (c + 2 + (kk (ob bb + 186) x3).toNat))] _
                    obtain ⟨hmz, rfl, hmI⟩ := hi8
                    have hfz : fgZ r x3 (kk (ob bb + 177) 8) (kk (ob bb + 177) 9) (kk (ob bb + 185)) = fgZ r x3 (i (ob bb + 177) 8) (i (ob bb + 177) 9) (chZ r (i (ob bb + 177) 8) (i (ob bb + 177) 9) x3).1 := by rw [ek8, ek9]; exact fgZ_congr hgk
                    rw [hfz] at hmI
                    obtain ⟨i10, hi10⟩ : ∃ f, f = mU i8 (c + 2 + (kk (ob bb + 186) x3).toNat) 6 (z9) := ⟨_, rfl⟩
                    refine x_putI 42 rfl fl_X2_91 (isS_lt (isS.of hc (show (kk (ob bb + 186) x3).toNat < 10 by omega))) (kS (isS.of hc (show (kk (ob bb + 186) x3).toNat < 10 by omega))) rfl rfl (g' := st nn i10 li8) (by subst hi10; rfl) ?_
                    have hi_ := hi10
                    rw [hmz, hfz, hv1] at hi_
                    refine x_iinc 43 (L' := [some (vR (some (ob bb + 177))), some (vR (some c)), some (vI (x3 + 1))]) rfl (by decide) rfl rfl rfl rfl ?_
                    refine x_goto 44 (tgt := 49) rfl (by decide) ?_
                    exact ihL5 i10 (x3 + 1) (by omega) (by intro a b; rw [chZ_s _ _ _ hx3.1]; exact ch_step hrr hn.2 hvr.1 hA3 hmI (fgZ_bd _ _ _ _ _) hi_ a b) (by omega)
              exact loopL5 ((r.length - ((0))) + 1 : Int).toNat jj (0) (by omega) (by intro a b; rw [hA2, hA, show x = i c 4 by omega, show x2 = 4 by omega]; show _ = if _ then -9 else if _ then 0 else _; grind) (by omega)
            · refine x_aload_n 19 rfl rfl ?_
              refine x_getR 20 (z := (ob bb + 185)) rfl fl_X2_25 (b_lt rfl) k_177 rfl r_177_3 ?_
              refine x_iload_n 21 rfl rfl ?_
              refine x_iconst 22 rfl ?_
              obtain ⟨i11, hi11⟩ : ∃ f, f = mU jj (ob bb + 185) (x2) (0) := ⟨_, rfl⟩
              refine x_iast 23 rfl (b_lt rfl) k_185 (by omega) (g' := st nn i11 l) (by subst hi11; rfl) ?_
              refine x_iinc 24 (L' := [some (vR (some (ob bb + 177))), some (vR (some c)), some (vI (x2 + 1))]) rfl (by decide) rfl rfl rfl rfl ?_
              refine x_goto 25 (tgt := 29) rfl (by decide) ?_
              exact ihL3 i11 (x2 + 1) (by omega) (by intro a b; subst_vars; simp only [mU, hA2]; grind) (by omega)
        exact loopL3 ((4 - ((0))) + 1 : Int).toNat ii (0) (by omega) (by intro a b; rw [if_neg (by omega)]) (by omega)
      · refine x_aload_n 6 rfl rfl ?_
        refine x_getR 7 (z := (c + 1)) rfl fl_X2_50 (isC_0 hc) (kC hc) rfl (rC0 hc) ?_
        refine x_iload_n 8 rfl rfl ?_
        refine x_aald 9 (t := 3) (z := (c + 2 + (x).toNat)) rfl (isC_S hc) (kCS hc) (by omega) ⟨rfl, rfl⟩ (rCs hc (by omega)) ?_
        refine x_bipush 10 rfl (by decide) ?_
        obtain ⟨i12, hi12⟩ : ∃ f, f = mU ii (c + 2 + (x).toNat) 6 ((-9)) := ⟨_, rfl⟩
        refine x_putI 11 rfl fl_X2_91 (isS_lt (isS.of hc (show (x).toNat < 10 by omega))) (kS (isS.of hc (show (x).toNat < 10 by omega))) rfl rfl (g' := st nn i12 l) (by subst hi12; rfl) ?_
        refine x_iinc 12 (L' := [some (vR (some (ob bb + 177))), some (vR (some c)), some (vI (x + 1))]) rfl (by decide) rfl rfl rfl rfl ?_
        refine x_goto 13 (tgt := 2) rfl (by decide) ?_
        exact ihL1 i12 (x + 1) (by omega) (by intro a b; subst_vars; simp only [mU]; rw [hA]; split <;> split <;> first | rfl | omega | (split <;> first | rfl | omega)) (by omega)
  exact loopL1 ((i c 4 - ((0))) + 1 : Int).toNat i (0) (by omega) (by intro a b; rw [if_neg (by omega)]) (by omega)
