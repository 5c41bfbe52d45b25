/-! placing: all ways to place, and the best of them; no machine here -/
theorem rch_c (pa pb : Nat) (v : vO) (r : List vO) (s t : Int) : rch pa pb (v :: r) s t = (if s < 2 ^ r.length then rch pa pb r s t else (vB v.2.2 pb ∧ rch pa pb r (s - 2 ^ r.length) t) ∨ (vB v.2.2 pa ∧ v.2.1 ≤ t ∧ rch pa pb r (s - 2 ^ r.length) (t - v.2.1))) := rfl
theorem sumS_c (v : vO) (r : List vO) (s : Int) : sumS (v :: r) s = if s < 2 ^ r.length then sumS r s else v.2.1 + sumS r (s - 2 ^ r.length) := rfl
theorem rch_lo {pa pb : Nat} {v : vO} {r : List vO} {s t : Int} (h : s < 2 ^ r.length) : rch pa pb (v :: r) s t ↔ rch pa pb r s t := by rw [rch_c, if_pos h]
theorem rch_hi {pa pb : Nat} {v : vO} {r : List vO} {s t : Int} (h : 0 ≤ s) : rch pa pb (v :: r) (s + 2 ^ r.length) t ↔ (vB v.2.2 pb ∧ rch pa pb r s t) ∨ (vB v.2.2 pa ∧ v.2.1 ≤ t ∧ rch pa pb r s (t - v.2.1)) := by rw [rch_c, if_neg (by omega), show s + 2 ^ r.length - 2 ^ r.length = s by omega]
theorem sumS_lo {v : vO} {r : List vO} {s : Int} (h : s < 2 ^ r.length) : sumS (v :: r) s = sumS r s := by rw [sumS_c, if_pos h]
theorem sumS_hi {v : vO} {r : List vO} {s : Int} (h : 0 ≤ s) : sumS (v :: r) (s + 2 ^ r.length) = v.2.1 + sumS r s := by rw [sumS_c, if_neg (by omega), show s + 2 ^ r.length - 2 ^ r.length = s by omega]
theorem rch_0 (pa pb : Nat) (r : List vO) (t : Int) : rch pa pb r 0 t ↔ t = 0 := by
  induction r generalizing t with
  | nil => exact Iff.rfl
  | cons v r ih => rw [rch_lo (Int.pow_pos (by decide))]; exact ih t
theorem sumS_0 (r : List vO) : sumS r 0 = 0 := by
  induction r with
  | nil => rfl
  | cons v r ih => rw [sumS_lo (Int.pow_pos (by decide))]; exact ih
/-- the voices of numbers from F on are placed, by their singers, where they fit -/
def plOk (F : Nat) (a : Int → Int) : List vO → Prop
  | [] => True
  | v :: r => (F ≤ r.length → (0 ≤ a v.1 ∧ a v.1 < 4) ∧ vB v.2.2 (a v.1).toNat) ∧ plOk F a r
def plG (F : Nat) (a : Int → Int) (p : Int) : List vO → Int
  | [] => 0
  | v :: r => plG F a p r + if F ≤ r.length ∧ a v.1 = p then v.2.1 else 0
def vSt : List vO → Prop
  | [] => True
  | v :: r => (∀ w ∈ r, w.1 < v.1) ∧ vSt r
theorem plG_c (F : Nat) (a : Int → Int) (p : Int) (v : vO) (r : List vO) : plG F a p (v :: r) = plG F a p r + if F ≤ r.length ∧ a v.1 = p then v.2.1 else 0 := rfl
theorem plOk_c (F : Nat) (a : Int → Int) (v : vO) (r : List vO) : plOk F a (v :: r) = ((F ≤ r.length → (0 ≤ a v.1 ∧ a v.1 < 4) ∧ vB v.2.2 (a v.1).toNat) ∧ plOk F a r) := rfl
theorem plG_0 {F : Nat} {a : Int → Int} {p : Int} {r : List vO} (h : r.length ≤ F) : plG F a p r = 0 := by
  induction r with
  | nil => rfl
  | cons v r ih =>
    rw [List.length_cons] at h
    rw [plG_c, ih (by omega), if_neg (by omega)]
    rfl
theorem plOk_0 {F : Nat} {a : Int → Int} {r : List vO} (h : r.length ≤ F) : plOk F a r := by
  induction r with
  | nil => trivial
  | cons v r ih =>
    rw [List.length_cons] at h
    exact ⟨fun q => absurd q (by omega), ih (by omega)⟩
theorem pl_congr {F : Nat} {a a' : Int → Int} {r : List vO} (h : ∀ w ∈ r, a w.1 = a' w.1) : (plOk F a r ↔ plOk F a' r) ∧ ∀ p, plG F a p r = plG F a' p r := by
  induction r with
  | nil => exact ⟨Iff.rfl, fun _ => rfl⟩
  | cons v r ih =>
    obtain ⟨i1, i2⟩ := ih (fun w hw => h w (List.mem_cons_of_mem _ hw))
    have e := h v List.mem_cons_self
    refine ⟨?_, fun p => ?_⟩
    · rw [plOk_c, plOk_c, i1, e]
    · rw [plG_c, plG_c, i2, e]
theorem pow_spl {n F : Nat} (h : F ≤ n) : (2 : Int) ^ (n - F) * 2 ^ F = 2 ^ n := by rw [← Int.pow_add, show n - F + F = n by omega]
theorem pow_suc {n F : Nat} (h : F ≤ n) : (2 : Int) ^ (n + 1 - F) = 2 ^ (n - F) + 2 ^ (n - F) := by
  rw [show n + 1 - F = (n - F) + 1 by omega, Int.pow_succ]; omega
theorem pl_fwd {F : Nat} {a : Int → Int} (r : List vO) (hF : F ≤ r.length) (hst : ∀ v ∈ r, 1 ≤ v.2.1 ∧ v.2.1 ≤ 9) (hok : plOk F a r) : ∃ s : Int, (0 ≤ s ∧ s < 2 ^ (r.length - F)) ∧ rch 0 1 r (s * 2 ^ F) (plG F a 0 r) ∧ rch 2 3 r ((2 ^ (r.length - F) - 1 - s) * 2 ^ F) (plG F a 2 r) ∧ sumS r (s * 2 ^ F) = plG F a 0 r + plG F a 1 r ∧ sumS r ((2 ^ (r.length - F) - 1 - s) * 2 ^ F) = plG F a 2 r + plG F a 3 r := by
  induction r with
  | nil => exact ⟨0, by simp, rfl, rfl, rfl, rfl⟩
  | cons v r ih =>
    have hst' : ∀ w ∈ r, 1 ≤ w.2.1 ∧ w.2.1 ≤ 9 := fun w hw => hst w (List.mem_cons_of_mem _ hw)
    rw [List.length_cons] at hF
    by_cases hF1 : F ≤ r.length
    · obtain ⟨s, ⟨s0, s1⟩, h1, h2, h3, h4⟩ := ih hF1 hst' hok.2
      obtain ⟨hv1, hv2⟩ := hok.1 hF1
      have hE := pow_spl hF1
      have hE2 := pow_suc hF1
      have hb1 := shl_bd (n := r.length) (f := F) (s := s) hF1 s0 (by omega)
      have hb2 := shl_bd (n := r.length) (f := F) (s := 2 ^ (r.length - F) - 1 - s) hF1 (by omega) (by omega)
      have hp0 := (rch_bd hst' h1).1
      have hp2 := (rch_bd hst' h2).1
      rw [List.length_cons]
      obtain ⟨X, hX⟩ : ∃ X, X = s * 2 ^ F := ⟨_, rfl⟩
      obtain ⟨Y, hY⟩ : ∃ Y, Y = (2 ^ (r.length - F) - 1 - s) * 2 ^ F := ⟨_, rfl⟩
      rw [← hX] at h1 h3 hb1
      rw [← hY] at h2 h4 hb2
      have eX : (s + 2 ^ (r.length - F)) * 2 ^ F = X + 2 ^ r.length := by rw [Int.add_mul, hE, hX]
      have eY : (2 ^ (r.length + 1 - F) - 1 - (s + 2 ^ (r.length - F))) * 2 ^ F = Y := by rw [hE2, hY]; congr 1; omega
      have eY2 : (2 ^ (r.length + 1 - F) - 1 - s) * 2 ^ F = Y + 2 ^ r.length := by rw [hE2, show (2 : Int) ^ (r.length - F) + 2 ^ (r.length - F) - 1 - s = (2 ^ (r.length - F) - 1 - s) + 2 ^ (r.length - F) by omega, Int.add_mul, hE, hY]
      have gy : ∀ q, a v.1 = q → plG F a q (v :: r) = plG F a q r + v.2.1 := fun q hq => by rw [plG_c, if_pos ⟨hF1, hq⟩]
      have gn : ∀ q, a v.1 ≠ q → plG F a q (v :: r) = plG F a q r := fun q hq => by rw [plG_c, if_neg (fun z => hq z.2), Int.add_zero]
      rcases (show a v.1 = 0 ∨ a v.1 = 1 ∨ a v.1 = 2 ∨ a v.1 = 3 by omega) with hp | hp | hp | hp <;> rw [hp] at hv2
      · refine ⟨s + 2 ^ (r.length - F), ⟨by omega, by omega⟩, ?_, ?_, ?_, ?_⟩
        · rw [eX, rch_hi hb1.1, gy 0 hp]; exact Or.inr ⟨hv2, by omega, by rw [show plG F a 0 r + v.2.1 - v.2.1 = plG F a 0 r by omega]; exact h1⟩
        · rw [eY, rch_lo hb2.2, gn 2 (by omega)]; exact h2
        · rw [eX, sumS_hi hb1.1, gy 0 hp, gn 1 (by omega)]; omega
        · rw [eY, sumS_lo hb2.2, gn 2 (by omega), gn 3 (by omega)]; exact h4
      · refine ⟨s + 2 ^ (r.length - F), ⟨by omega, by omega⟩, ?_, ?_, ?_, ?_⟩
        · rw [eX, rch_hi hb1.1, gn 0 (by omega)]; exact Or.inl ⟨hv2, h1⟩
        · rw [eY, rch_lo hb2.2, gn 2 (by omega)]; exact h2
        · rw [eX, sumS_hi hb1.1, gy 1 hp, gn 0 (by omega)]; omega
        · rw [eY, sumS_lo hb2.2, gn 2 (by omega), gn 3 (by omega)]; exact h4
      · refine ⟨s, ⟨by omega, by omega⟩, ?_, ?_, ?_, ?_⟩
        · rw [← hX, rch_lo hb1.2, gn 0 (by omega)]; exact h1
        · rw [eY2, rch_hi hb2.1, gy 2 hp]; exact Or.inr ⟨hv2, by omega, by rw [show plG F a 2 r + v.2.1 - v.2.1 = plG F a 2 r by omega]; exact h2⟩
        · rw [← hX, sumS_lo hb1.2, gn 0 (by omega), gn 1 (by omega)]; exact h3
        · rw [eY2, sumS_hi hb2.1, gy 2 hp, gn 3 (by omega)]; omega
      · refine ⟨s, ⟨by omega, by omega⟩, ?_, ?_, ?_, ?_⟩
        · rw [← hX, rch_lo hb1.2, gn 0 (by omega)]; exact h1
        · rw [eY2, rch_hi hb2.1, gn 2 (by omega)]; exact Or.inl ⟨hv2, h2⟩
        · rw [← hX, sumS_lo hb1.2, gn 0 (by omega), gn 1 (by omega)]; exact h3
        · rw [eY2, sumS_hi hb2.1, gy 3 hp, gn 2 (by omega)]; omega
    · have hl : (v :: r).length ≤ F := by rw [List.length_cons]; omega
      have e1 : (2 : Int) ^ ((v :: r).length - F) = 1 := by rw [Nat.sub_eq_zero_of_le hl]; rfl
      rw [e1, plG_0 hl, plG_0 hl, plG_0 hl, plG_0 hl]
      refine ⟨0, by decide, ?_, ?_, ?_, ?_⟩
      · rw [Int.zero_mul, rch_0]
      · rw [show ((1 : Int) - 1 - 0) = 0 from rfl, Int.zero_mul, rch_0]
      · rw [Int.zero_mul, sumS_0]; rfl
      · rw [show ((1 : Int) - 1 - 0) = 0 from rfl, Int.zero_mul, sumS_0]; rfl
theorem pl_ext {F : Nat} {v : vO} {r : List vO} {a : Int → Int} {p : Int} (hF : F ≤ r.length) (hv : ∀ w ∈ r, w.1 < v.1) (hp : 0 ≤ p ∧ p < 4) (hb : vB v.2.2 p.toNat) (ho : plOk F a r) : ∃ a', plOk F a' (v :: r) ∧ ∀ q, plG F a' q (v :: r) = plG F a q r + if p = q then v.2.1 else 0 := by
  have hc := pl_congr (F := F) (a := fun k => if k = v.1 then p else a k) (a' := a) (r := r) (fun w hw => by
    have := hv w hw
    show (if w.1 = v.1 then p else a w.1) = _
    rw [if_neg (by omega)])
  have e : (if v.1 = v.1 then p else a v.1) = p := if_pos rfl
  refine ⟨fun k => if k = v.1 then p else a k, ?_, fun q => ?_⟩
  · rw [plOk_c, e]
    exact ⟨fun _ => ⟨hp, hb⟩, hc.1.mpr ho⟩
  · rw [plG_c, hc.2, e]
    simp only [hF, true_and]
theorem pl_bwd {F : Nat} (r : List vO) (hF : F ≤ r.length) (hst : vSt r) (s t u : Int) (hs : 0 ≤ s ∧ s < 2 ^ (r.length - F)) (h1 : rch 0 1 r (s * 2 ^ F) t) (h2 : rch 2 3 r ((2 ^ (r.length - F) - 1 - s) * 2 ^ F) u) : ∃ a : Int → Int, plOk F a r ∧ plG F a 0 r = t ∧ plG F a 1 r = sumS r (s * 2 ^ F) - t ∧ plG F a 2 r = u ∧ plG F a 3 r = sumS r ((2 ^ (r.length - F) - 1 - s) * 2 ^ F) - u := by
  induction r generalizing s t u with
  | nil =>
    have e1 : t = 0 := h1
    have e2 : u = 0 := h2
    subst e1; subst e2
    exact ⟨fun _ => 0, trivial, rfl, rfl, rfl, rfl⟩
  | cons v r ih =>
    rw [List.length_cons] at hF
    by_cases hF1 : F ≤ r.length
    · have hE := pow_spl hF1
      have hE2 := pow_suc hF1
      rw [List.length_cons] at hs h2 ⊢
      by_cases hsE : s < 2 ^ (r.length - F)
      · have hb1 := shl_bd (n := r.length) (f := F) (s := s) hF1 hs.1 (by omega)
        have hb2 := shl_bd (n := r.length) (f := F) (s := 2 ^ (r.length - F) - 1 - s) hF1 (by omega) (by omega)
        have eY2 : (2 ^ (r.length + 1 - F) - 1 - s) * 2 ^ F = (2 ^ (r.length - F) - 1 - s) * 2 ^ F + 2 ^ r.length := by rw [hE2, show (2 : Int) ^ (r.length - F) + 2 ^ (r.length - F) - 1 - s = (2 ^ (r.length - F) - 1 - s) + 2 ^ (r.length - F) by omega, Int.add_mul, hE]
        rw [rch_lo hb1.2] at h1
        rw [eY2, rch_hi hb2.1] at h2
        rw [eY2, sumS_hi hb2.1, sumS_lo hb1.2]
        rcases h2 with ⟨w, h2⟩ | ⟨w, wt, h2⟩
        · obtain ⟨a, o, g0, g1, g2, g3⟩ := ih hF1 hst.2 s t u ⟨hs.1, hsE⟩ h1 h2
          obtain ⟨a', o', g⟩ := pl_ext (p := 3) hF1 hst.1 (by decide) w o
          exact ⟨a', o', by rw [g, g0]; simp, by rw [g, g1]; simp, by rw [g, g2]; simp, by rw [g, g3, if_pos rfl]; omega⟩
        · obtain ⟨a, o, g0, g1, g2, g3⟩ := ih hF1 hst.2 s t (u - v.2.1) ⟨hs.1, hsE⟩ h1 h2
          obtain ⟨a', o', g⟩ := pl_ext (p := 2) hF1 hst.1 (by decide) w o
          exact ⟨a', o', by rw [g, g0]; simp, by rw [g, g1]; simp, by rw [g, g2, if_pos rfl]; omega, by rw [g, g3, if_neg (by decide)]; omega⟩
      · have hb1 := shl_bd (n := r.length) (f := F) (s := s - 2 ^ (r.length - F)) hF1 (by omega) (by omega)
        have hb2 := shl_bd (n := r.length) (f := F) (s := 2 ^ (r.length - F) - 1 - (s - 2 ^ (r.length - F))) hF1 (by omega) (by omega)
        have eX : s * 2 ^ F = (s - 2 ^ (r.length - F)) * 2 ^ F + 2 ^ r.length := by
          have : s = (s - 2 ^ (r.length - F)) + 2 ^ (r.length - F) := by omega
          conv => lhs; rw [this]
          rw [Int.add_mul, hE]
        have eY : (2 ^ (r.length + 1 - F) - 1 - s) * 2 ^ F = (2 ^ (r.length - F) - 1 - (s - 2 ^ (r.length - F))) * 2 ^ F := by rw [hE2]; congr 1; omega
        rw [eX, rch_hi hb1.1] at h1
        rw [eY, rch_lo hb2.2] at h2
        rw [eY, sumS_lo hb2.2, eX, sumS_hi hb1.1]
        rcases h1 with ⟨w, h1⟩ | ⟨w, wt, h1⟩
        · obtain ⟨a, o, g0, g1, g2, g3⟩ := ih hF1 hst.2 _ t u ⟨by omega, by omega⟩ h1 h2
          obtain ⟨a', o', g⟩ := pl_ext (p := 1) hF1 hst.1 (by decide) w o
          exact ⟨a', o', by rw [g, g0]; simp, by rw [g, g1, if_pos rfl]; omega, by rw [g, g2]; simp, by rw [g, g3]; simp⟩
        · obtain ⟨a, o, g0, g1, g2, g3⟩ := ih hF1 hst.2 _ (t - v.2.1) u ⟨by omega, by omega⟩ h1 h2
          obtain ⟨a', o', g⟩ := pl_ext (p := 0) hF1 hst.1 (by decide) w o
          exact ⟨a', o', by rw [g, g0, if_pos rfl]; omega, by rw [g, g1, if_neg (by decide)]; omega, by rw [g, g2]; simp, by rw [g, g3]; simp⟩
    · have hl : (v :: r).length ≤ F := by rw [List.length_cons]; omega
      have e1 : (2 : Int) ^ ((v :: r).length - F) = 1 := by rw [Nat.sub_eq_zero_of_le hl]; rfl
      rw [e1] at hs h2 ⊢
      have s0 : s = 0 := by omega
      subst s0
      rw [Int.zero_mul, rch_0] at h1
      rw [show ((1 : Int) - 1 - 0) = 0 from rfl, Int.zero_mul, rch_0] at h2
      subst h1; subst h2
      rw [show ((1 : Int) - 1 - 0) = 0 from rfl, Int.zero_mul, sumS_0]
      exact ⟨fun _ => 0, plOk_0 hl, plG_0 hl, by rw [plG_0 hl]; rfl, plG_0 hl, by rw [plG_0 hl]; rfl⟩
theorem evZ_ge {f : Int → Prop} {m w : Int} (h0 : 0 ≤ w) (h1 : w ≤ m) (hf : f w) : w ≤ evZ f m := by
  classical
  have key : ∀ k : Nat, w.toNat < k → w ≤ evN f k := by
    intro k
    induction k with
    | zero => intro h; omega
    | succ k ih =>
      intro hk
      show w ≤ if f ((k : Nat) : Int) then ((k : Nat) : Int) else evN f k
      by_cases e : w.toNat = k
      · have e2 : ((k : Nat) : Int) = w := by omega
        rw [e2, if_pos hf]
        omega
      · have := ih (by omega)
        split <;> omega
  exact key _ (by omega)
theorem evZ_sat {f : Int → Prop} {m : Int} (h : 0 ≤ evZ f m) : f (evZ f m) := by
  classical
  have key : ∀ k : Nat, 0 ≤ evN f k → f (evN f k) := by
    intro k
    induction k with
    | zero => intro h; exact absurd h (by show ¬ (0 : Int) ≤ -1; omega)
    | succ k ih =>
      show 0 ≤ (if f ((k : Nat) : Int) then ((k : Nat) : Int) else evN f k) → f (if f ((k : Nat) : Int) then ((k : Nat) : Int) else evN f k)
      by_cases e : f ((k : Nat) : Int)
      · rw [if_pos e]; intro _; exact e
      · rw [if_neg e]; exact ih
  exact key _ h
/-- the one pair (least, greatest) is better than the other -/
def btr (a b c d : Int) : Prop := c < a ∨ (a = c ∧ b < d)
def fsb (r : List vO) (x : Int) : Prop := 0 ≤ evP 0 1 r x ∧ 0 ≤ evP 2 3 r (2 ^ r.length - 1 - x)
noncomputable def fv1 (r : List vO) (x : Int) : Int := min (evP 0 1 r x) (evP 2 3 r (2 ^ r.length - 1 - x))
noncomputable def fv2 (r : List vO) (x : Int) : Int := max (sumS r x - evP 0 1 r x) (sumS r (2 ^ r.length - 1 - x) - evP 2 3 r (2 ^ r.length - 1 - x))
theorem wpN_opt (r : List vO) (N : Nat) : ((wpN r N = (-1, 0) ∧ ∀ x : Int, 0 ≤ x → x < N → ¬ fsb r x) ∨ (∃ x : Int, 0 ≤ x ∧ x < N ∧ fsb r x ∧ wpN r N = (fv1 r x, fv2 r x))) ∧ ∀ x : Int, 0 ≤ x → x < N → fsb r x → ¬ btr (fv1 r x) (fv2 r x) (wpN r N).1 (wpN r N).2 := by
  induction N with
  | zero => exact ⟨Or.inl ⟨rfl, fun x h0 h1 => by omega⟩, fun x h0 h1 => by omega⟩
  | succ k ih =>
    obtain ⟨i1, i2⟩ := ih
    have e : wpN r (k + 1) = wpS r k (2 ^ r.length - 1 - k) (wpN r k) := rfl
    have xk : ∀ x : Int, 0 ≤ x → x < ((k + 1 : Nat) : Int) → x = k ∨ x < k := fun x h0 h1 => by omega
    by_cases hf : fsb r k
    · have hn : ¬ (evP 0 1 r k < 0 ∨ evP 2 3 r (2 ^ r.length - 1 - k) < 0) := by unfold fsb at hf; omega
      have hv1 : 0 ≤ fv1 r k := by unfold fv1; unfold fsb at hf; omega
      by_cases hb : btr (fv1 r k) (fv2 r k) (wpN r k).1 (wpN r k).2
      · have e2 : wpN r (k + 1) = (fv1 r k, fv2 r k) := by
          rw [e]
          unfold wpS
          rw [if_neg hn]
          exact if_pos hb
        rw [e2]
        refine ⟨Or.inr ⟨k, by omega, by omega, hf, rfl⟩, fun x h0 h1 hx => ?_⟩
        rcases xk x h0 h1 with rfl | h1
        · unfold btr; show ¬ (fv1 r k < fv1 r k ∨ (fv1 r k = fv1 r k ∧ fv2 r k < fv2 r k)); omega
        · have := i2 x h0 h1 hx
          unfold btr at this hb ⊢
          show ¬ (fv1 r k < fv1 r x ∨ (fv1 r x = fv1 r k ∧ fv2 r x < fv2 r k))
          omega
      · have e2 : wpN r (k + 1) = wpN r k := by
          rw [e]
          unfold wpS
          rw [if_neg hn]
          exact if_neg hb
        rw [e2]
        refine ⟨?_, fun x h0 h1 hx => ?_⟩
        · rcases i1 with ⟨q1, q2⟩ | ⟨x, h0, h1, hx⟩
          · exfalso
            apply hb
            rw [q1]
            unfold btr
            left
            show (-1 : Int) < fv1 r k
            omega
          · exact Or.inr ⟨x, h0, by omega, hx⟩
        · rcases xk x h0 h1 with rfl | h1
          · exact hb
          · exact i2 x h0 h1 hx
    · have e2 : wpN r (k + 1) = wpN r k := by
        rw [e]
        unfold wpS
        rw [if_pos (by unfold fsb at hf; omega)]
      rw [e2]
      refine ⟨?_, fun x h0 h1 hx => ?_⟩
      · rcases i1 with ⟨q1, q2⟩ | ⟨x, h0, h1, hx⟩
        · refine Or.inl ⟨q1, fun x h0 h1 => ?_⟩
          rcases xk x h0 h1 with rfl | h1
          · exact hf
          · exact q2 x h0 h1
        · exact Or.inr ⟨x, h0, by omega, hx⟩
      · rcases xk x h0 h1 with rfl | h1
        · exact absurd hx hf
        · exact i2 x h0 h1 hx
/-! ways to place, by singers -/
def vmk (W : Int → Int) (y k : Int) : Int := if k = y then 0 else gFits W k
def vaK (W : Int → Int) (y : Int) (a : Int → Int) (k : Int) : Prop := (vmk W y k = 0 ∧ a k = -9) ∨ (vmk W y k ≠ 0 ∧ (0 ≤ a k ∧ a k < 4) ∧ vB (vmk W y k) (a k).toNat)
def gsN (W : Int → Int) (a : Int → Int) (p : Int) (n : Nat) : Int := sumN (fun k => if a k = p then sV W k 0 else 0) n
def gsZ (W : Int → Int) (a : Int → Int) (p : Int) : Int := gsN W a p (W 11).toNat
theorem gsN_s (W : Int → Int) (a : Int → Int) (p : Int) (n : Nat) : gsN W a p (n + 1) = gsN W a p n + if a n = p then sV W n 0 else 0 := rfl
theorem vwN_y {W : Int → Int} {y : Int} {n : Nat} (h : vmk W y n ≠ 0) : vwN W y (n + 1) = ((n : Int), sV W n 0, gFits W n) :: vwN W y n := by
  show (if (n : Int) ≠ y ∧ gFits W n ≠ 0 then _ else _) = _
  unfold vmk at h
  by_cases e : (n : Int) = y
  · rw [if_pos e] at h; exact absurd rfl h
  · rw [if_neg e] at h; rw [if_pos ⟨e, h⟩]
theorem vwN_n {W : Int → Int} {y : Int} {n : Nat} (h : vmk W y n = 0) : vwN W y (n + 1) = vwN W y n := by
  show (if (n : Int) ≠ y ∧ gFits W n ≠ 0 then _ else _) = _
  unfold vmk at h
  by_cases e : (n : Int) = y
  · rw [if_neg (fun q => q.1 e)]
  · rw [if_neg e] at h; rw [if_neg (fun q => q.2 h)]
theorem vmk_g {W : Int → Int} {y k : Int} (h : vmk W y k ≠ 0) : vmk W y k = gFits W k := by
  unfold vmk at h ⊢
  by_cases e : k = y
  · rw [if_pos e] at h; exact absurd rfl h
  · rw [if_neg e]
theorem vw_lm {W : Int → Int} {y : Int} {m n : Nat} (h : m ≤ n) : (vwN W y m).length ≤ (vwN W y n).length := by
  induction n with
  | zero => rw [show m = 0 by omega]; exact Nat.le_refl _
  | succ n ih =>
    by_cases e : m = n + 1
    · rw [e]; exact Nat.le_refl _
    · have := ih (by omega)
      by_cases hk : vmk W y n = 0
      · rw [vwN_n hk]; exact this
      · rw [vwN_y hk, List.length_cons]; omega
theorem vw_st (W : Int → Int) (y : Int) (n : Nat) : vSt (vwN W y n) ∧ ∀ w ∈ vwN W y n, w.1 < n ∧ vmk W y w.1 ≠ 0 := by
  induction n with
  | zero => exact ⟨trivial, fun w hw => absurd hw List.not_mem_nil⟩
  | succ n ih =>
    by_cases hk : vmk W y n = 0
    · rw [vwN_n hk]
      exact ⟨ih.1, fun w hw => ⟨by have := (ih.2 w hw).1; omega, (ih.2 w hw).2⟩⟩
    · rw [vwN_y hk]
      refine ⟨⟨fun w hw => (ih.2 w hw).1, ih.1⟩, fun w hw => ?_⟩
      rcases List.mem_cons.mp hw with rfl | hw
      · exact ⟨by show (n : Int) < _; omega, hk⟩
      · exact ⟨by have := (ih.2 w hw).1; omega, (ih.2 w hw).2⟩
theorem pl_vw {W : Int → Int} {y : Int} {a : Int → Int} {m : Nat} (n : Nat) (hmn : m ≤ n) (hv : ∀ k : Nat, m ≤ k → k < n → vaK W y a k) : plOk (vwN W y m).length a (vwN W y n) ∧ ∀ p, 0 ≤ p → plG (vwN W y m).length a p (vwN W y n) = gsN W a p n - gsN W a p m := by
  induction n with
  | zero =>
    rw [show m = 0 by omega]
    exact ⟨trivial, fun p _ => by show (0 : Int) = gsN W a p 0 - gsN W a p 0; omega⟩
  | succ n ih =>
    by_cases e : m = n + 1
    · rw [e]
      exact ⟨plOk_0 (Nat.le_refl _), fun p _ => by rw [plG_0 (Nat.le_refl _)]; omega⟩
    · obtain ⟨i1, i2⟩ := ih (by omega) (fun k h0 h1 => hv k h0 (by omega))
      have hvn := hv n (by omega) (by omega)
      have hlm := vw_lm (W := W) (y := y) (show m ≤ n by omega)
      unfold vaK at hvn
      by_cases hk : vmk W y n = 0
      · rw [vwN_n hk]
        refine ⟨i1, fun p hp => ?_⟩
        rw [i2 p hp, gsN_s, if_neg (by omega)]
        omega
      · rw [vwN_y hk]
        have h2 : (0 ≤ a n ∧ a n < 4) ∧ vB (vmk W y n) (a n).toNat := by
          rcases hvn with q | q
          · exact absurd q.1 hk
          · exact q.2
        refine ⟨?_, fun p hp => ?_⟩
        · rw [plOk_c]
          exact ⟨fun _ => ⟨h2.1, by rw [vmk_g hk] at h2; exact h2.2⟩, i1⟩
        · rw [plG_c, i2 p hp, gsN_s]
          by_cases ep : a n = p
          · rw [if_pos ⟨hlm, ep⟩, if_pos ep]
            show _ + sV W n 0 = _
            omega
          · rw [if_neg (fun q => ep q.2), if_neg ep]
            omega
theorem vw_pl {W : Int → Int} {y : Int} {a : Int → Int} {m : Nat} (n : Nat) (hmn : m ≤ n) (ho : plOk (vwN W y m).length a (vwN W y n)) : ∃ c : Int → Int, (∀ k : Nat, m ≤ k → k < n → vaK W y c k) ∧ ∀ p, 0 ≤ p → gsN W c p n - gsN W c p m = plG (vwN W y m).length a p (vwN W y n) := by
  have hc : ∀ k : Nat, m ≤ k → k < n → vaK W y (fun k => if vmk W y k = 0 then -9 else a k) k := by
    induction n with
    | zero => intro k h0 h1; omega
    | succ n ih =>
      intro k h0 h1
      by_cases hk : vmk W y n = 0
      · rw [vwN_n hk] at ho
        by_cases e : k = n
        · subst e
          exact Or.inl ⟨hk, by show (if vmk W y k = 0 then -9 else a k) = -9; rw [if_pos hk]⟩
        · exact ih (by omega) ho k h0 (by omega)
      · rw [vwN_y hk, plOk_c] at ho
        by_cases e : k = n
        · subst e
          have h2 := ho.1 (vw_lm (show m ≤ k by omega))
          refine Or.inr ⟨hk, ?_⟩
          show (0 ≤ (if vmk W y k = 0 then -9 else a k) ∧ (if vmk W y k = 0 then -9 else a k) < 4) ∧ vB (vmk W y k) (if vmk W y k = 0 then -9 else a k).toNat
          rw [if_neg hk, vmk_g hk]
          exact h2
        · exact ih (by omega) ho.2 k h0 (by omega)
  refine ⟨_, hc, fun p hp => ?_⟩
  rw [← (pl_vw n hmn hc).2 p hp]
  refine (pl_congr (fun w hw => ?_)).2 p
  show (if vmk W y w.1 = 0 then -9 else a w.1) = a w.1
  rw [if_neg ((vw_st W y n).2 w hw).2]
theorem vw_g {W : Int → Int} (hW : okW W) (y : Int) : ∀ v ∈ vwZ W y, 1 ≤ v.2.1 ∧ v.2.1 ≤ 9 := by
  intro v hv
  obtain ⟨h1, -, h3, -⟩ := vw_mem hv
  rw [h3]
  exact (hW.2.2.2.1 v.1 h1.1 h1.2).1
theorem cf_iff {W : Int → Int} (hW : okW W) {y : Int} {m : Nat} (hm : m ≤ (W 11).toNat) {L G : Int} {g : Int → Int} : cfP (vwZ W y) ((vwN W y m).length : Int) L G g ↔ ∃ a, (∀ k : Nat, m ≤ k → k < (W 11).toNat → vaK W y a k) ∧ ∀ p, 0 ≤ p → p < 4 → L ≤ g p + (gsN W a p (W 11).toNat - gsN W a p m) ∧ g p + (gsN W a p (W 11).toNat - gsN W a p m) ≤ G := by
  have hF : (vwN W y m).length ≤ (vwZ W y).length := vw_lm hm
  have hst := vw_g hW y
  unfold cfP cfA pcr
  rw [Int.toNat_natCast]
  constructor
  · rintro ⟨s, hs, ⟨t, t1, t2, t3⟩, ⟨u, u1, u2, u3⟩⟩
    obtain ⟨a, o, g0, g1, g2, g3⟩ := pl_bwd (vwZ W y) hF (vw_st W y _).1 s t u hs t3 u3
    obtain ⟨c, c1, c2⟩ := vw_pl (W 11).toNat hm o
    refine ⟨c, c1, fun p h0 h4 => ?_⟩
    rw [c2 p h0]
    show L ≤ g p + plG (vwN W y m).length a p (vwZ W y) ∧ g p + plG (vwN W y m).length a p (vwZ W y) ≤ G
    rcases (show p = 0 ∨ p = 1 ∨ p = 2 ∨ p = 3 by omega) with rfl | rfl | rfl | rfl
    · rw [g0]; exact t1
    · rw [g1]; exact t2
    · rw [g2]; exact u1
    · rw [g3]; exact u2
  · rintro ⟨a, a1, a2⟩
    obtain ⟨o, og⟩ := pl_vw (W 11).toNat hm a1
    obtain ⟨s, hs, h1, h2, h3, h4⟩ := pl_fwd (vwZ W y) hF hst o
    have e : ∀ p, 0 ≤ p → plG (vwN W y m).length a p (vwZ W y) = gsN W a p (W 11).toNat - gsN W a p m := og
    refine ⟨s, hs, ⟨_, ?_, ?_, h1⟩, ⟨_, ?_, ?_, h2⟩⟩
    · rw [e 0 (by omega)]; exact a2 0 (by omega) (by omega)
    · rw [h3, show ∀ z w : Int, z + w - z = w from fun z w => by omega, e 1 (by omega)]; exact a2 1 (by omega) (by omega)
    · rw [e 2 (by omega)]; exact a2 2 (by omega) (by omega)
    · rw [h4, show ∀ z w : Int, z + w - z = w from fun z w => by omega, e 3 (by omega)]; exact a2 3 (by omega) (by omega)
def loF (f : Int → Int) : Int := min (min (f 0) (f 1)) (min (f 2) (f 3))
def hiF (f : Int → Int) : Int := max (max (f 0) (f 1)) (max (f 2) (f 3))
def dgt (x : Int) : Int := if x < 0 then 0 else x
/-- the rank of a way in the order of the first singers' parts -/
def rkN (a : Int → Int) : Nat → Int
  | 0 => 0
  | n + 1 => 4 * rkN a n + dgt (a n)
def vaA (W : Int → Int) (y : Int) (a : Int → Int) : Prop := ∀ k : Nat, k < (W 11).toNat → vaK W y a k
def rkW (W : Int → Int) (a : Int → Int) : Int := rkN a (W 11).toNat
/-- the best way, the first of the best, and its least and greatest strength -/
def opB (W : Int → Int) (y bl bm : Int) (a : Int → Int) : Prop := vaA W y a ∧ bl = loF (gsZ W a) ∧ bm = hiF (gsZ W a) ∧ ∀ c, vaA W y c → ¬ btr (loF (gsZ W c)) (hiF (gsZ W c)) bl bm ∧ (rkW W c < rkW W a → btr bl bm (loF (gsZ W c)) (hiF (gsZ W c)))
theorem dgt_bd {W : Int → Int} {y : Int} {a : Int → Int} {k : Int} (h : vaK W y a k) : 0 ≤ dgt (a k) ∧ dgt (a k) ≤ 3 := by
  unfold dgt
  unfold vaK at h
  split <;> omega
theorem rk_lt {a c : Int → Int} {j : Nat} (n : Nat) (hj : j ≤ n) (ha : ∀ k : Nat, k < n → 0 ≤ dgt (a k) ∧ dgt (a k) ≤ 3) (hc : ∀ k : Nat, k < n → 0 ≤ dgt (c k) ∧ dgt (c k) ≤ 3) (h : rkN c j < rkN a j) : rkN c n < rkN a n := by
  induction n with
  | zero => rw [show j = 0 by omega] at h; exact h
  | succ n ih =>
    by_cases e : j = n + 1
    · rw [← e]; exact h
    · have i1 := ih (by omega) (fun k hk => ha k (by omega)) (fun k hk => hc k (by omega))
      have := ha n (by omega)
      have := hc n (by omega)
      show 4 * rkN c n + dgt (c n) < 4 * rkN a n + dgt (a n)
      omega
theorem rk_congr {a c : Int → Int} {j : Nat} (h : ∀ k : Nat, k < j → a k = c k) : rkN a j = rkN c j := by
  induction j with
  | zero => rfl
  | succ j ih =>
    show 4 * rkN a j + dgt (a j) = 4 * rkN c j + dgt (c j)
    rw [ih (fun k hk => h k (by omega)), h j (by omega)]
theorem gsN_congr {W : Int → Int} {a c : Int → Int} {p : Int} {j : Nat} (h : ∀ k : Nat, k < j → a k = c k) : gsN W a p j = gsN W c p j := by
  induction j with
  | zero => rfl
  | succ j ih => rw [gsN_s, gsN_s, ih (fun k hk => h k (by omega)), h j (by omega)]
theorem gsN_cd {W : Int → Int} {a c : Int → Int} {p : Int} {m : Nat} (n : Nat) (hmn : m ≤ n) (h : ∀ k : Nat, m ≤ k → k < n → a k = c k) : gsN W a p n - gsN W a p m = gsN W c p n - gsN W c p m := by
  induction n with
  | zero => rw [show m = 0 by omega]; omega
  | succ n ih =>
    by_cases e : m = n + 1
    · rw [e]; omega
    · have := ih (by omega) (fun k h0 h1 => h k h0 (by omega))
      rw [gsN_s, gsN_s, h n (by omega) (by omega)]
      omega
theorem bs_opt {W : Int → Int} {y bl bm : Int} {a : Int → Int} (hW : okW W) (h : opB W y bl bm a) : bsW W y = (bl, bm) := by
  obtain ⟨hva, hbl, hbm, hbest⟩ := h
  have hst := vw_g hW y
  have hlm : (vwN W y 0).length ≤ (vwZ W y).length := vw_lm (Nat.zero_le _)
  -- any way: a set of voices above that is feasible, and no better than it
  have dom : ∀ c, vaA W y c → ∃ s : Int, 0 ≤ s ∧ s < 2 ^ (vwZ W y).length ∧ fsb (vwZ W y) s ∧ loF (gsZ W c) ≤ fv1 (vwZ W y) s ∧ fv2 (vwZ W y) s ≤ hiF (gsZ W c) := by
    intro c hc
    obtain ⟨o, og⟩ := pl_vw (m := 0) (W 11).toNat (Nat.zero_le _) (fun k _ hk => hc k hk)
    have e : ∀ p, 0 ≤ p → plG 0 c p (vwZ W y) = gsZ W c p := fun p hp => by
      have := og p hp
      rw [show gsN W c p 0 = 0 from rfl, Int.sub_zero] at this
      exact this
    obtain ⟨s, hs, h1, h2, h3, h4⟩ := pl_fwd (F := 0) (vwZ W y) (Nat.zero_le _) hst o
    rw [Nat.sub_zero] at hs h2 h4
    rw [Int.pow_zero, Int.mul_one] at h1 h2 h3 h4
    rw [e 0 (by omega), e 1 (by omega)] at h3
    rw [e 2 (by omega), e 3 (by omega)] at h4
    rw [e 0 (by omega)] at h1
    rw [e 2 (by omega)] at h2
    have b1 := rch_bd hst h1
    have b2 := rch_bd hst h2
    have v1 : min (gsZ W c 0) (gsZ W c 1) ≤ evP 0 1 (vwZ W y) s := by
      unfold evP
      refine evZ_ge (by omega) (by omega) ?_
      by_cases q : gsZ W c 0 ≤ gsZ W c 1
      · left; rw [Int.min_eq_left q]; exact h1
      · right; rw [Int.min_eq_right (by omega), h3, show gsZ W c 0 + gsZ W c 1 - gsZ W c 1 = gsZ W c 0 by omega]; exact h1
    have v2 : min (gsZ W c 2) (gsZ W c 3) ≤ evP 2 3 (vwZ W y) (2 ^ (vwZ W y).length - 1 - s) := by
      unfold evP
      refine evZ_ge (by omega) (by omega) ?_
      by_cases q : gsZ W c 2 ≤ gsZ W c 3
      · left; rw [Int.min_eq_left q]; exact h2
      · right; rw [Int.min_eq_right (by omega), h4, show gsZ W c 2 + gsZ W c 3 - gsZ W c 3 = gsZ W c 2 by omega]; exact h2
    refine ⟨s, hs.1, hs.2, ⟨by omega, by omega⟩, ?_, ?_⟩
    · unfold loF fv1; omega
    · unfold hiF fv2; omega
  -- a feasible set: a way that has its numbers
  have att : ∀ s : Int, 0 ≤ s → s < 2 ^ (vwZ W y).length → fsb (vwZ W y) s → ∃ c, vaA W y c ∧ loF (gsZ W c) = fv1 (vwZ W y) s ∧ hiF (gsZ W c) = fv2 (vwZ W y) s := by
    intro s s0 s1 hf
    have f1 := evZ_sat (show 0 ≤ evZ _ _ from hf.1)
    have f2 := evZ_sat (show 0 ≤ evZ _ _ from hf.2)
    have b1 := evP_bd (pa := 0) (pb := 1) hst s
    have b2 := evP_bd (pa := 2) (pb := 3) hst (2 ^ (vwZ W y).length - 1 - s)
    have g1 : ∃ t, rch 0 1 (vwZ W y) s t ∧ (t = evP 0 1 (vwZ W y) s ∨ t = sumS (vwZ W y) s - evP 0 1 (vwZ W y) s) := by
      rcases f1 with q | q
      · exact ⟨_, q, Or.inl rfl⟩
      · exact ⟨_, q, Or.inr rfl⟩
    have g2 : ∃ u, rch 2 3 (vwZ W y) (2 ^ (vwZ W y).length - 1 - s) u ∧ (u = evP 2 3 (vwZ W y) (2 ^ (vwZ W y).length - 1 - s) ∨ u = sumS (vwZ W y) (2 ^ (vwZ W y).length - 1 - s) - evP 2 3 (vwZ W y) (2 ^ (vwZ W y).length - 1 - s)) := by
      rcases f2 with q | q
      · exact ⟨_, q, Or.inl rfl⟩
      · exact ⟨_, q, Or.inr rfl⟩
    obtain ⟨t, t1, t2⟩ := g1
    obtain ⟨u, u1, u2⟩ := g2
    obtain ⟨a', o, p0, p1, p2, p3⟩ := pl_bwd (F := 0) (vwZ W y) (Nat.zero_le _) (vw_st W y _).1 s t u (by rw [Nat.sub_zero]; exact ⟨s0, s1⟩) (by rw [Int.pow_zero, Int.mul_one]; exact t1) (by rw [Nat.sub_zero, Int.pow_zero, Int.mul_one]; exact u1)
    rw [Int.pow_zero, Int.mul_one] at p1
    rw [Nat.sub_zero, Int.pow_zero, Int.mul_one] at p3
    obtain ⟨c, c1, c2⟩ := vw_pl (m := 0) (W 11).toNat (Nat.zero_le _) o
    have e : ∀ p, 0 ≤ p → gsZ W c p = plG 0 a' p (vwZ W y) := fun p hp => by
      have := c2 p hp
      rw [show gsN W c p 0 = 0 from rfl, Int.sub_zero] at this
      exact this
    refine ⟨c, fun k hk => c1 k (Nat.zero_le _) hk, ?_, ?_⟩
    · unfold loF fv1
      rw [e 0 (by omega), e 1 (by omega), e 2 (by omega), e 3 (by omega), p0, p1, p2, p3]
      unfold fsb at hf
      omega
    · unfold hiF fv2
      rw [e 0 (by omega), e 1 (by omega), e 2 (by omega), e 3 (by omega), p0, p1, p2, p3]
      unfold fsb at hf
      omega
  obtain ⟨s, s0, s1, sf, d1, d2⟩ := dom a hva
  have hN : (((2 : Int) ^ (vwZ W y).length).toNat : Int) = 2 ^ (vwZ W y).length := Int.toNat_of_nonneg (by have : (0 : Int) < 2 ^ (vwZ W y).length := Int.pow_pos (by decide); omega)
  have ho := wpN_opt (vwZ W y) ((2 : Int) ^ (vwZ W y).length).toNat
  rw [hN] at ho
  obtain ⟨o1, o2⟩ := ho
  have hb : bsW W y = wpN (vwZ W y) ((2 : Int) ^ (vwZ W y).length).toNat := rfl
  rw [hb]
  have k1 := o2 s s0 s1 sf
  rcases o1 with ⟨q1, q2⟩ | ⟨x, x0, x1, xf, xe⟩
  · exact absurd sf (q2 s s0 s1)
  · obtain ⟨c, cv, c1, c2⟩ := att x x0 x1 xf
    have k2 := (hbest c cv).1
    rw [xe] at k1 ⊢
    rw [c1, c2] at k2
    rw [← hbl] at d1
    rw [← hbm] at d2
    unfold btr at k1 k2
    simp only at k1
    refine Prod.ext ?_ ?_ <;> show (_ : Int) = _ <;> simp only <;> omega
theorem vAt_vw {W : Int → Int} {y : Int} {m : Nat} (n : Nat) (hm : m < n) (hk : vmk W y m ≠ 0) : vAt (vwN W y n) ((vwN W y m).length : Int) = ((m : Int), sV W m 0, gFits W m) := by
  induction n with
  | zero => omega
  | succ n ih =>
    by_cases e : m = n
    · subst e; rw [vwN_y hk, vAt_new]
    · have i1 := ih (by omega)
      have hl := vw_lm (W := W) (y := y) (show m + 1 ≤ n by omega)
      rw [vwN_y hk, List.length_cons] at hl
      by_cases hn : vmk W y n = 0
      · rw [vwN_n hn]; exact i1
      · rw [vwN_y hn, vAt_old (by omega) (by omega)]; exact i1
theorem chN_s (r : List vO) (L G : Int) (k : Nat) : chN r L G (k + 1) = (fun b => if b = fgZ r k L G (chN r L G k).1 ∧ 0 ≤ b then (chN r L G k).1 b + (vAt r k).2.1 else (chN r L G k).1 b, fU (chN r L G k).2 (vAt r k).1 (fgZ r k L G (chN r L G k).1)) := rfl
theorem ch_opt {W : Int → Int} {bl bm : Int} {a : Int → Int} (hW : okW W) (h : opB W (-1) bl bm a) : ∀ k : Int, 0 ≤ k → k < W 11 → chW W k = a k := by
  have hbs := bs_opt hW h
  obtain ⟨hva, hbl, hbm, hbest⟩ := h
  have hlo : ∀ p, 0 ≤ p → p < 4 → bl ≤ gsZ W a p ∧ gsZ W a p ≤ bm := by
    intro p h0 h4
    rw [hbl, hbm]
    unfold loF hiF
    rcases (show p = 0 ∨ p = 1 ∨ p = 2 ∨ p = 3 by omega) with rfl | rfl | rfl | rfl <;> omega
  have key : ∀ m : Nat, m ≤ (W 11).toNat → (∀ j : Nat, j < m → (chN (vwZ W (-1)) bl bm (vwN W (-1) m).length).2 j = a j) ∧ (∀ j : Nat, m ≤ j → (chN (vwZ W (-1)) bl bm (vwN W (-1) m).length).2 j = -9) ∧ ∀ p, 0 ≤ p → p < 4 → (chN (vwZ W (-1)) bl bm (vwN W (-1) m).length).1 p = gsN W a p m := by
    intro m
    induction m with
    | zero => intro _; exact ⟨fun j hj => by omega, fun j _ => rfl, fun p _ _ => rfl⟩
    | succ m ih =>
      intro hm
      obtain ⟨i1, i2, i3⟩ := ih (by omega)
      have hvm := hva m (by omega)
      by_cases hk : vmk W (-1) m = 0
      · rw [vwN_n hk]
        have am : a m = -9 := by unfold vaK at hvm; omega
        refine ⟨fun j hj => ?_, fun j hj => i2 j (by omega), fun p h0 h4 => ?_⟩
        · by_cases e : j = m
          · rw [e, i2 m (Nat.le_refl _), am]
          · exact i1 j (by omega)
        · rw [i3 p h0 h4, gsN_s, am, if_neg (by omega), Int.add_zero]
      · obtain ⟨va1, va2⟩ : (0 ≤ a m ∧ a m < 4) ∧ vB (vmk W (-1) m) (a m).toNat := by
          unfold vaK at hvm
          rcases hvm with q | q
          · exact absurd q.1 hk
          · exact q.2
        have hat := vAt_vw (W 11).toNat (show m < (W 11).toNat by omega) hk
        have hat' : vAt (vwZ W (-1)) ((vwN W (-1) m).length : Int) = ((m : Int), sV W m 0, gFits W m) := hat
        have hlen : (((vwN W (-1) m).length : Int) + 1) = ((vwN W (-1) (m + 1)).length : Int) := by rw [vwN_y hk, List.length_cons]; omega
        have hgm : vmk W (-1) m = gFits W m := vmk_g hk
        -- the choice for this singer
        have hfg : fgZ (vwZ W (-1)) ((vwN W (-1) m).length : Int) bl bm (chN (vwZ W (-1)) bl bm (vwN W (-1) m).length).1 = a m := by
          refine fgZ_hit va1 ?_ ?_
          · unfold fgO
            rw [hat', hlen, cf_iff hW hm]
            refine ⟨by rw [hgm] at va2; exact va2, a, fun k _ hk => hva k hk, fun p h0 h4 => ?_⟩
            have e : gAd (chN (vwZ W (-1)) bl bm (vwN W (-1) m).length).1 (a m) (sV W m 0) p = gsN W a p (m + 1) := by
              unfold gAd
              rw [gsN_s, i3 p h0 h4]
              by_cases ep : p = a m
              · rw [if_pos ep, if_pos ep.symm]
              · rw [if_neg ep, if_neg (fun q => ep q.symm), Int.add_zero]
            show bl ≤ gAd _ (a m) (sV W m 0) p + _ ∧ gAd _ (a m) (sV W m 0) p + _ ≤ bm
            rw [e, show ∀ z w : Int, z + (w - z) = w from fun z w => by omega]
            exact hlo p h0 h4
          · intro q q0 q1 hq
            unfold fgO at hq
            rw [hat', hlen, cf_iff hW hm] at hq
            obtain ⟨qb, c, cv, cs⟩ := hq
            obtain ⟨c', hc'⟩ : ∃ c' : Int → Int, c' = fun j : Int => if j < (m : Int) then a j else if j = (m : Int) then q else c j := ⟨_, rfl⟩
            have e1 : ∀ k : Nat, k < m → c' k = a k := fun k hk => by rw [hc']; simp only; rw [if_pos (by omega)]
            have e2 : c' m = q := by rw [hc']; show (if (m : Int) < (m : Int) then a m else if (m : Int) = (m : Int) then q else c m) = q; rw [if_neg (by omega), if_pos rfl]
            have e3 : ∀ k : Nat, m + 1 ≤ k → k < (W 11).toNat → c' k = c k := fun k hk _ => by rw [hc']; simp only; rw [if_neg (by omega), if_neg (by omega)]
            have hvc : vaA W (-1) c' := by
              intro k hkn
              unfold vaK
              rcases Nat.lt_trichotomy k m with hh | hh | hh
              · rw [e1 k hh]; exact hva k hkn
              · subst hh
                rw [e2]
                exact Or.inr ⟨hk, ⟨q0, by omega⟩, by rw [hgm]; exact qb⟩
              · rw [e3 k hh hkn]; exact cv k hh hkn
            have hsum : ∀ p, 0 ≤ p → p < 4 → bl ≤ gsZ W c' p ∧ gsZ W c' p ≤ bm := by
              intro p h0 h4
              have d1 := gsN_cd (W := W) (p := p) (W 11).toNat hm e3
              have d2 : gsN W c' p (m + 1) = gAd (chN (vwZ W (-1)) bl bm (vwN W (-1) m).length).1 q (sV W m 0) p := by
                unfold gAd
                rw [gsN_s, i3 p h0 h4, e2, gsN_congr e1]
                by_cases ep : p = q
                · rw [if_pos ep, if_pos ep.symm]
                · rw [if_neg ep, if_neg (fun z => ep z.symm), Int.add_zero]
              have d3 := cs p h0 h4
              have d3' : bl ≤ gAd (chN (vwZ W (-1)) bl bm (vwN W (-1) m).length).1 q (sV W m 0) p + (gsN W c p (W 11).toNat - gsN W c p (m + 1)) ∧ gAd (chN (vwZ W (-1)) bl bm (vwN W (-1) m).length).1 q (sV W m 0) p + (gsN W c p (W 11).toNat - gsN W c p (m + 1)) ≤ bm := d3
              rw [← d2, ← d1] at d3'
              unfold gsZ
              omega
            have s0 := hsum 0 (by omega) (by omega)
            have s1 := hsum 1 (by omega) (by omega)
            have s2 := hsum 2 (by omega) (by omega)
            have s3 := hsum 3 (by omega) (by omega)
            have hr : rkW W c' < rkW W a := by
              refine rk_lt (j := m + 1) (W 11).toNat hm (fun k hk => dgt_bd (hva k hk)) (fun k hk => dgt_bd (hvc k hk)) ?_
              show 4 * rkN c' m + dgt (c' m) < 4 * rkN a m + dgt (a m)
              rw [rk_congr e1, e2]
              unfold dgt
              rw [if_neg (by omega), if_neg (by omega)]
              omega
            have := (hbest c' hvc).2 hr
            unfold btr loF hiF at this
            omega
        rw [show (vwN W (-1) (m + 1)).length = (vwN W (-1) m).length + 1 by omega, chN_s, hfg, hat']
        refine ⟨fun j hj => ?_, fun j hj => ?_, fun p h0 h4 => ?_⟩
        · show fU _ (m : Int) (a m) j = a j
          unfold fU
          by_cases e : j = m
          · rw [if_pos (by omega), e]
          · rw [if_neg (by omega)]; exact i1 j (by omega)
        · show fU _ (m : Int) (a m) j = -9
          unfold fU
          rw [if_neg (by omega)]; exact i2 j (by omega)
        · show (if p = a m ∧ 0 ≤ p then _ + sV W m 0 else _) = _
          rw [gsN_s, i3 p h0 h4]
          by_cases ep : p = a m
          · rw [if_pos ⟨ep, h0⟩, if_pos ep.symm]
          · rw [if_neg (fun z => ep z.1), if_neg (fun z => ep z.symm), Int.add_zero]
  intro k h0 h1
  have hk := (key (W 11).toNat (Nat.le_refl _)).1 k.toNat (by omega)
  rw [Int.toNat_of_nonneg h0] at hk
  rw [← hk]
  unfold chW chZ
  rw [hbs, Int.toNat_natCast]
  rfl
