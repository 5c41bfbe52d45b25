variable {nn : Nat} {bb : Bool}
/-! the next rehearsal: stand-ins and solos, over what is known of singers -/
/-- singers, least strength that covers, then by singer: part, present, strength, solos, latest solo, whether a part fits, whether rested -/
abbrev dT : Type := Int × Int × (Int → Int) × (Int → Int) × (Int → Int) × (Int → Int) × (Int → Int) × (Int → Int → Bool) × (Int → Bool)
abbrev dN (D : dT) : Int := D.1
abbrev dC (D : dT) : Int := D.2.1
abbrev dP (D : dT) : Int → Int := D.2.2.1
abbrev dR (D : dT) : Int → Int := D.2.2.2.1
abbrev dG (D : dT) : Int → Int := D.2.2.2.2.1
abbrev dS (D : dT) : Int → Int := D.2.2.2.2.2.1
abbrev dL (D : dT) : Int → Int := D.2.2.2.2.2.2.1
abbrev dF (D : dT) : Int → Int → Bool := D.2.2.2.2.2.2.2.1
abbrev dZ (D : dT) : Int → Bool := D.2.2.2.2.2.2.2.2
abbrev sT : Type := (Int → Int) × (Int → Int)
def fU (f : Int → Int) (k x : Int) : Int → Int := fun j => if j = k then x else f j
abbrev siOk (D : dT) (p k : Int) (S : sT) : Prop := dR D k ≠ 0 ∧ (0 ≤ dP D k ∧ dP D k < 4) ∧ dP D k ≠ p ∧ S.1 k = -9 ∧ dF D k p = true ∧ dC D ≤ S.2 (dP D k) - dG D k
def siDo (D : dT) (p k : Int) (S : sT) : sT := (fU S.1 k p, fU (fU S.2 (dP D k) (S.2 (dP D k) - dG D k)) p (fU S.2 (dP D k) (S.2 (dP D k) - dG D k) p + dG D k))
def siN (D : dT) (p : Int) (S : sT) : Nat → sT
  | 0 => S
  | k + 1 => if (siN D p S k).2 p < dC D then (if siOk D p k (siN D p S k) then siDo D p k (siN D p S k) else siN D p S k) else siN D p S k
def siZ (D : dT) (p : Int) (S : sT) (x : Int) : sT := siN D p S x.toNat
theorem siZ_0 (D : dT) (p : Int) (S : sT) : siZ D p S 0 = S := rfl
theorem siZ_no (D : dT) (p : Int) (S : sT) {x : Int} (h : 0 ≤ x) (h1 : (siZ D p S x).2 p < dC D) (h2 : ¬ siOk D p x (siZ D p S x)) : siZ D p S (x + 1) = siZ D p S x := by
  unfold siZ at *
  rw [show (x + 1).toNat = x.toNat + 1 by omega]
  have e : ((x.toNat : Nat) : Int) = x := Int.toNat_of_nonneg h
  show (if (siN D p S x.toNat).2 p < dC D then (if siOk D p (x.toNat : Nat) (siN D p S x.toNat) then _ else _) else _) = _
  rw [if_pos h1, if_neg (by rw [e]; exact h2)]
theorem siZ_do (D : dT) (p : Int) (S : sT) {x : Int} (h : 0 ≤ x) (h1 : (siZ D p S x).2 p < dC D) (h2 : siOk D p x (siZ D p S x)) : siZ D p S (x + 1) = siDo D p x (siZ D p S x) := by
  unfold siZ at *
  rw [show (x + 1).toNat = x.toNat + 1 by omega]
  have e : ((x.toNat : Nat) : Int) = x := Int.toNat_of_nonneg h
  show (if (siN D p S x.toNat).2 p < dC D then (if siOk D p (x.toNat : Nat) (siN D p S x.toNat) then siDo D p (x.toNat : Nat) _ else _) else _) = _
  rw [if_pos h1, if_pos (by rw [e]; exact h2), e]
theorem siZ_stop (D : dT) (p : Int) (S : sT) {x y : Int} (h : 0 ≤ x) (h1 : dC D ≤ (siZ D p S x).2 p) (hy : x ≤ y) : siZ D p S y = siZ D p S x := by
  unfold siZ at *
  have key : ∀ k : Nat, siN D p S (x.toNat + k) = siN D p S x.toNat := by
    intro k
    induction k with
    | zero => rfl
    | succ k ih =>
      show (if (siN D p S (x.toNat + k)).2 p < dC D then _ else siN D p S (x.toNat + k)) = _
      rw [ih, if_neg (by omega)]
  have := key (y - x).toNat
  rwa [show x.toNat + (y - x).toNat = y.toNat by omega] at this
/-- all four parts -/
def siAll (D : dT) (S : sT) : Nat → sT
  | 0 => S
  | p + 1 => siZ D p (siAll D S p) (dN D)
def siAZ (D : dT) (S : sT) (p : Int) : sT := siAll D S p.toNat
theorem siAZ_s (D : dT) (S : sT) {p : Int} (h : 0 ≤ p) : siAZ D S (p + 1) = siZ D p (siAZ D S p) (dN D) := by
  unfold siAZ
  rw [show (p + 1).toNat = p.toNat + 1 by omega]
  show siZ D (p.toNat : Nat) _ _ = _
  rw [Int.toNat_of_nonneg h]
/-- no strength moves by more than 9 a step -/
theorem siZ_bd (D : dT) (p : Int) (S : sT) {x B : Int} (h : 0 ≤ x) (hg : ∀ k, 0 ≤ k → k < x → 0 ≤ dG D k ∧ dG D k ≤ 9) (hS : ∀ q, -B ≤ S.2 q ∧ S.2 q ≤ B) : ∀ q, -B - 9 * x ≤ (siZ D p S x).2 q ∧ (siZ D p S x).2 q ≤ B + 9 * x := by
  have key : ∀ n : Nat, (n : Int) ≤ x → ∀ q, -B - 9 * n ≤ (siN D p S n).2 q ∧ (siN D p S n).2 q ≤ B + 9 * n := by
    intro n
    induction n with
    | zero => intro _ q; have := hS q; show -B - 9 * 0 ≤ S.2 q ∧ S.2 q ≤ B + 9 * 0; omega
    | succ n ih =>
      intro hn q
      have i1 := ih (by omega)
      have g1 := hg n (by omega) (by omega)
      have i2 := i1 q
      show -B - 9 * ((n + 1 : Nat) : Int) ≤ (if (siN D p S n).2 p < dC D then (if siOk D p n (siN D p S n) then siDo D p n (siN D p S n) else siN D p S n) else siN D p S n).2 q ∧ (if (siN D p S n).2 p < dC D then (if siOk D p n (siN D p S n) then siDo D p n (siN D p S n) else siN D p S n) else siN D p S n).2 q ≤ _
      split
      · split
        · rename_i hok
          have i3 := i1 (dP D n)
          have hne := hok.2.2.1
          have i4 := i1 p
          simp only [siDo, fU]
          split
          · rename_i e; subst e
            rw [if_neg (fun e => hne e.symm)]
            omega
          · split
            · omega
            · omega
        · omega
      · omega
  intro q
  have := key x.toNat (by omega) q
  rw [Int.toNat_of_nonneg h] at this
  exact this
/-- who gets the solo of a part -/
abbrev soOk (D : dT) (f : Int → Int) (p k : Int) : Prop := dP D k = p ∧ dR D k ≠ 0 ∧ f k = -9 ∧ dZ D k = true
abbrev soBf (D : dT) (k b : Int) : Prop := dS D k < dS D b ∨ (dS D k = dS D b ∧ dL D k < dL D b)
def soN (D : dT) (f : Int → Int) (p : Int) : Nat → Int
  | 0 => -9
  | k + 1 => if soOk D f p k ∧ (soN D f p k = -9 ∨ soBf D k (soN D f p k)) then (k : Int) else soN D f p k
def soZ (D : dT) (f : Int → Int) (p x : Int) : Int := soN D f p x.toNat
theorem soZ_0 (D : dT) (f : Int → Int) (p : Int) : soZ D f p 0 = -9 := rfl
theorem soZ_y (D : dT) (f : Int → Int) (p : Int) {x : Int} (h : 0 ≤ x) (h1 : soOk D f p x) (h2 : soZ D f p x = -9 ∨ soBf D x (soZ D f p x)) : soZ D f p (x + 1) = x := by
  unfold soZ at *
  rw [show (x + 1).toNat = x.toNat + 1 by omega]
  have e : ((x.toNat : Nat) : Int) = x := Int.toNat_of_nonneg h
  show (if soOk D f p (x.toNat : Nat) ∧ (soN D f p x.toNat = -9 ∨ soBf D (x.toNat : Nat) (soN D f p x.toNat)) then ((x.toNat : Nat) : Int) else _) = _
  rw [e, if_pos ⟨h1, h2⟩]
theorem soZ_n (D : dT) (f : Int → Int) (p : Int) {x : Int} (h : 0 ≤ x) (h1 : ¬ (soOk D f p x ∧ (soZ D f p x = -9 ∨ soBf D x (soZ D f p x)))) : soZ D f p (x + 1) = soZ D f p x := by
  unfold soZ at *
  rw [show (x + 1).toNat = x.toNat + 1 by omega]
  have e : ((x.toNat : Nat) : Int) = x := Int.toNat_of_nonneg h
  show (if soOk D f p (x.toNat : Nat) ∧ (soN D f p x.toNat = -9 ∨ soBf D (x.toNat : Nat) (soN D f p x.toNat)) then ((x.toNat : Nat) : Int) else _) = _
  rw [e, if_neg h1]
theorem soZ_bd (D : dT) (f : Int → Int) (p : Int) {x : Int} (h : 0 ≤ x) : soZ D f p x = -9 ∨ (0 ≤ soZ D f p x ∧ soZ D f p x < x) := by
  have key : ∀ n : Nat, soN D f p n = -9 ∨ (0 ≤ soN D f p n ∧ soN D f p n < n) := by
    intro n
    induction n with
    | zero => left; rfl
    | succ n ih =>
      show (if soOk D f p n ∧ _ then (n : Int) else soN D f p n) = -9 ∨ (0 ≤ (if soOk D f p n ∧ _ then (n : Int) else soN D f p n) ∧ (if soOk D f p n ∧ _ then (n : Int) else soN D f p n) < ((n + 1 : Nat) : Int))
      split <;> omega
  have := key x.toNat
  rwa [Int.toNat_of_nonneg h] at this
/-- what a choir of the class knows of its singers -/
abbrev cQ (c : Nat) (k : Int) : Nat := c + 2 + min k.toNat 9
def cD (i : Nat → Int → Int) (c : Nat) : dT := (i c 4, i (c + 12) 1, fun k => i (cQ c k) 6, fun k => i (cQ c k) 7, fun k => i (cQ c k) 0, fun k => i (cQ c k) 8, fun k => i (cQ c k) 9, fun k p => decide (i (c + 12) 0 ≤ fIn i (cQ c k) p), fun k => decide (i (cQ c k) 9 = -9 ∨ i (c + 12) 2 < i c 5 - i (cQ c k) 9))
theorem cQ_at {c : Nat} {k : Int} (h : 0 ≤ k ∧ k < 10) : cQ c k = c + 2 + k.toNat := by unfold cQ; omega
theorem cD_congr {i i' : Nat → Int → Int} {c : Nat} (he : ∀ a b, c ≤ a → a < c + 15 → i' a b = i a b) : cD i' c = cD i c := by
  have e0 : ∀ b, i' c b = i c b := fun b => he c b (by omega) (by omega)
  have e12 : ∀ b, i' (c + 12) b = i (c + 12) b := fun b => he _ b (by omega) (by omega)
  have eq : ∀ k b, i' (cQ c k) b = i (cQ c k) b := fun k b => he _ b (by unfold cQ; omega) (by unfold cQ; omega)
  unfold cD fIn
  simp only [e0, e12, eq]
/-- the rehearsal's own rows -/
def SR (bb : Bool) (i : Nat → Int → Int) : sT := (fun k => if 0 ≤ k ∧ k < 10 then i (ob bb + 174) k else -9, fun q => if 0 ≤ q ∧ q < 4 then i (ob bb + 175) q else 0)
theorem siOk_cD {i : Nat → Int → Int} {c : Nat} {p x : Int} (hx : 0 ≤ x ∧ x < 10) : siOk (cD i c) p x (SR bb i) ↔ (i (c + 2 + x.toNat) 7 ≠ 0 ∧ (0 ≤ i (c + 2 + x.toNat) 6 ∧ i (c + 2 + x.toNat) 6 < 4) ∧ i (c + 2 + x.toNat) 6 ≠ p ∧ i (ob bb + 174) x = -9 ∧ i (c + 12) 0 ≤ fIn i (c + 2 + x.toNat) p ∧ i (c + 12) 1 ≤ i (ob bb + 175) (i (c + 2 + x.toNat) 6) - i (c + 2 + x.toNat) 0) := by
  unfold cD SR
  simp only [siOk, dN, dC, dP, dR, dG, dS, dL, dF, dZ, cQ_at hx, decide_eq_true_eq, if_pos hx]
  constructor
  · rintro ⟨h1, h2, h3, h4, h5, h6⟩
    rw [if_pos h2] at h6
    exact ⟨h1, h2, h3, h4, h5, h6⟩
  · rintro ⟨h1, h2, h3, h4, h5, h6⟩
    rw [if_pos h2]
    exact ⟨h1, h2, h3, h4, h5, h6⟩
theorem siDo_cD {i i' : Nat → Int → Int} {c : Nat} {p x : Int} (hx : 0 ≤ x ∧ x < 10) (hp : 0 ≤ p ∧ p < 4) (hP : 0 ≤ i (c + 2 + x.toNat) 6 ∧ i (c + 2 + x.toNat) 6 < 4)
    (hi : i' = mU (mU (mU i (ob bb + 175) (i (c + 2 + x.toNat) 6) (i (ob bb + 175) (i (c + 2 + x.toNat) 6) - i (c + 2 + x.toNat) 0)) (ob bb + 175) p (mU i (ob bb + 175) (i (c + 2 + x.toNat) 6) (i (ob bb + 175) (i (c + 2 + x.toNat) 6) - i (c + 2 + x.toNat) 0) (ob bb + 175) p + i (c + 2 + x.toNat) 0)) (ob bb + 174) x p) : SR bb i' = siDo (cD i c) p x (SR bb i) := by
  subst hi
  unfold SR siDo cD
  simp only [dN, dC, dP, dR, dG, dS, dL, dF, dZ, cQ_at hx]
  refine Prod.ext ?_ ?_
  · funext k
    simp only [fU, mU]
    grind
  · funext q
    simp only [fU, mU]
    grind
theorem siZ_sb (D : dT) (p : Int) (S : sT) {x : Int} (hp : 0 ≤ p ∧ p < 4) (hS : ∀ k, -9 ≤ S.1 k ∧ S.1 k ≤ 3) : ∀ k, -9 ≤ (siZ D p S x).1 k ∧ (siZ D p S x).1 k ≤ 3 := by
  unfold siZ
  induction x.toNat with
  | zero => exact hS
  | succ n ih =>
    intro k
    have := ih k
    show -9 ≤ (if (siN D p S n).2 p < dC D then (if siOk D p n (siN D p S n) then siDo D p n (siN D p S n) else siN D p S n) else siN D p S n).1 k ∧ (if (siN D p S n).2 p < dC D then (if siOk D p n (siN D p S n) then siDo D p n (siN D p S n) else siN D p S n) else siN D p S n).1 k ≤ 3
    split
    · split
      · simp only [siDo, fU]
        split <;> omega
      · omega
    · omega
theorem soOk_cD {i : Nat → Int → Int} {c : Nat} {p x : Int} (hx : 0 ≤ x ∧ x < 10) : soOk (cD i c) (SR bb i).1 p x ↔ (i (c + 2 + x.toNat) 6 = p ∧ i (c + 2 + x.toNat) 7 ≠ 0 ∧ i (ob bb + 174) x = -9 ∧ fRest i c (c + 2 + x.toNat)) := by
  unfold cD SR fRest
  simp only [soOk, dN, dC, dP, dR, dG, dS, dL, dF, dZ, cQ_at hx, decide_eq_true_eq, if_pos hx]
theorem soBf_cD {i : Nat → Int → Int} {c : Nat} {x y : Int} (hx : 0 ≤ x ∧ x < 10) (hy : 0 ≤ y ∧ y < 10) : soBf (cD i c) x y ↔ (i (c + 2 + x.toNat) 8 < i (c + 2 + y.toNat) 8 ∨ (i (c + 2 + x.toNat) 8 = i (c + 2 + y.toNat) 8 ∧ i (c + 2 + x.toNat) 9 < i (c + 2 + y.toNat) 9)) := by
  unfold cD
  simp only [soBf, dN, dC, dP, dR, dG, dS, dL, dF, dZ, cQ_at hx, cQ_at hy]
theorem fPres_congr {i i' : Nat → Int → Int} {c : Nat} {p : Int} (hn : 0 ≤ i c 4 ∧ i c 4 ≤ 10) (he : ∀ a b, c ≤ a → a < c + 15 → i' a b = i a b) : fPres i' c p = fPres i c p := by
  unfold fPres
  rw [he c 4 (by omega) (by omega)]
  refine sumZ_congr (fun k h0 h1 => ?_)
  simp only [he (c + 2 + k.toNat) _ (by omega) (by omega)]
/-- how the rehearsal's rows stand before anybody stands in -/
noncomputable def S0 (i : Nat → Int → Int) (c : Nat) : sT := (fun _ => -9, fun q => if 0 ≤ q ∧ q < 4 then fPres i c q else 0)
theorem SR_congr {i i' : Nat → Int → Int} (h1 : ∀ b, i' (ob bb + 174) b = i (ob bb + 174) b) (h2 : ∀ b, i' (ob bb + 175) b = i (ob bb + 175) b) : SR bb i' = SR bb i := by unfold SR; simp only [h1, h2]
theorem siAZ_sb (D : dT) (S : sT) {p : Int} (hp : 0 ≤ p ∧ p ≤ 4) (hS : ∀ k, -9 ≤ S.1 k ∧ S.1 k ≤ 3) : ∀ k, -9 ≤ (siAZ D S p).1 k ∧ (siAZ D S p).1 k ≤ 3 := by
  have key : ∀ n : Nat, n ≤ 4 → ∀ k, -9 ≤ (siAll D S n).1 k ∧ (siAll D S n).1 k ≤ 3 := by
    intro n
    induction n with
    | zero => intro _; exact hS
    | succ n ih => intro hn; exact siZ_sb D n _ (by omega) (ih (by omega))
  exact key _ (by omega)
theorem siAZ_bd (D : dT) (S : sT) {p : Int} (hp : 0 ≤ p ∧ p ≤ 4) (hn : 0 ≤ dN D ∧ dN D ≤ 10) (hg : ∀ k, 0 ≤ k → k < dN D → 0 ≤ dG D k ∧ dG D k ≤ 9) (hS : ∀ q, -100 ≤ S.2 q ∧ S.2 q ≤ 100) : ∀ q, -1500 ≤ (siAZ D S p).2 q ∧ (siAZ D S p).2 q ≤ 1500 := by
  have key : ∀ n : Nat, n ≤ 4 → ∀ q, -(100 + 90 * (n : Int)) ≤ (siAll D S n).2 q ∧ (siAll D S n).2 q ≤ 100 + 90 * (n : Int) := by
    intro n
    induction n with
    | zero => intro _ q; have := hS q; show -(100 + 90 * 0) ≤ S.2 q ∧ S.2 q ≤ 100 + 90 * 0; omega
    | succ n ih =>
      intro hn4 q
      have := siZ_bd D n (siAll D S n) (x := dN D) (B := 100 + 90 * (n : Int)) hn.1 hg (ih (by omega)) q
      show -(100 + 90 * ((n + 1 : Nat) : Int)) ≤ (siZ D n (siAll D S n) (dN D)).2 q ∧ (siZ D n (siAll D S n) (dN D)).2 q ≤ _
      omega
  intro q
  have := key p.toNat (by omega) q
  show -1500 ≤ (siAll D S p.toNat).2 q ∧ (siAll D S p.toNat).2 q ≤ 1500
  omega
theorem cD_g {i : Nat → Int → Int} {c : Nat} (hO : okC i c) : ∀ k, 0 ≤ k → k < dN (cD i c) → 0 ≤ dG (cD i c) k ∧ dG (cD i c) k ≤ 9 := by
  intro k h0 h1
  have h1' : k < i c 4 := h1
  have hn := hO.n
  have := hO.s h0 h1'
  show 0 ≤ i (cQ c k) 0 ∧ i (cQ c k) 0 ≤ 9
  rw [cQ_at (by omega)]
  omega
set_option maxRecDepth 20000 in
set_option maxHeartbeats 2000000 in
theorem c_canStandIn {i : Nat → Int → Int} {l : Nat → Int → BitVec 64} {c : Nat} (hc : isC bb c) (hO : okC i c) (hst : ∀ k, -9 ≤ (SR bb i).1 k ∧ (SR bb i).1 k ≤ 3) (hB : ∀ q, -2000 ≤ (SR bb i).2 q ∧ (SR bb i).2 q ≤ 2000) {x p : Int} (hx : 0 ≤ x ∧ x < i c 4) (hp : 0 ≤ p ∧ p < 4) : mCtr m_X4_canStandIn 4 0 0 [vR (some (ob bb + 173)), vR (some c), vI (x), vI (p)] (st nn i l) (qB (siOk (cD i c) p x (SR bb i)) (st nn i l)) := by
  refine mCtr_of pl_X4 dc_X4_canStandIn (Nat.le_of_ble_eq_true rfl) rfl ?_
  show mX m_X4_canStandIn 4 _ 0 0 0 [some (vR (some (ob bb + 173))), some (vR (some c)), some (vI (x)), some (vI (p)), none] [] (st nn i l)
  have hN := hO.n
  have hsg := hO.s hx.1 hx.2
  have hs174 := hst x
  have hs174 : -9 ≤ i (ob bb + 174) x ∧ i (ob bb + 174) x ≤ 3 := by have := hst x; unfold SR at this; simp only at this; rw [if_pos (by omega)] at this; exact this
  rw [show (siOk (cD i c) p x (SR bb i)) = _ from propext (siOk_cD (by omega))]
  have h175 : ∀ q, 0 ≤ q → q < 4 → -2000 ≤ i (ob bb + 175) q ∧ i (ob bb + 175) q ≤ 2000 := fun q h0 h1 => by have := hB q; unfold SR at this; simp only at this; rw [if_pos (by omega)] at this; exact this
  refine x_aload_n 0 rfl rfl ?_
  refine x_getR 1 (z := (c + 1)) rfl fl_X4_47 (isC_0 hc) (kC hc) rfl (rC0 hc) ?_
  refine x_iload_n 2 rfl rfl ?_
  refine x_aald 3 (t := 3) (z := (c + 2 + (x).toNat)) rfl (isC_S hc) (kCS hc) (by omega) ⟨rfl, rfl⟩ (rCs hc (by omega)) ?_
  refine x_astore 4 (L' := [some (vR (some (ob bb + 173))), some (vR (some c)), some (vI (x)), some (vI (p)), some (vR (some (c + 2 + (x).toNat)))]) rfl (by decide) rfl rfl ?_
  refine x_aload 5 rfl rfl ?_
  refine x_getI 6 (z := i (c + 2 + (x).toNat) 7) rfl fl_X4_58 (isS_lt (isS.of hc (show (x).toNat < 10 by omega))) (kS (isS.of hc (show (x).toNat < 10 by omega))) rfl rfl ?_
  refine x_if_eq 7 (tgt := 83) rfl (by decide) (by omega) (fun h1 => ?_) (fun h1 => ?_)
  · refine x_iconst 40 rfl ?_
    refine x_ret 41 (some (vI (0))) rfl ⟨rfl, Or.inr ⟨rfl, by omega⟩⟩ ⟨rfl, Or.inr ⟨?_, rfl⟩⟩
    omega
  · refine x_aload 8 rfl rfl ?_
    refine x_getI 9 (z := i (c + 2 + (x).toNat) 6) rfl fl_X4_51 (isS_lt (isS.of hc (show (x).toNat < 10 by omega))) (kS (isS.of hc (show (x).toNat < 10 by omega))) rfl rfl ?_
    refine x_callSN 10 m_X8_isPart (c_isPart (by omega)) rfl ok_X8_isPart (by decide +kernel) st_X8_isPart rfl (by decide) rfl (Nat.le_of_ble_eq_true rfl) rfl rfl (fun v g q2 => ?_)
    rcases q2 with ⟨rfl, ⟨h3, rfl⟩ | ⟨h3, rfl⟩⟩
    · show mX m_X4_canStandIn 4 _ 0 0 _ _ [vI (1)] _
      refine x_if_eq 11 (tgt := 83) rfl (by decide) (by decide) (fun h4 => absurd h4 (by decide)) (fun h4 => ?_)
      refine x_aload 12 rfl rfl ?_
      refine x_getI 13 (z := i (c + 2 + (x).toNat) 6) rfl fl_X4_51 (isS_lt (isS.of hc (show (x).toNat < 10 by omega))) (kS (isS.of hc (show (x).toNat < 10 by omega))) rfl rfl ?_
      refine x_iload_n 14 rfl rfl ?_
      refine x_icmp_eq 15 (tgt := 83) rfl (by decide) (by omega) (fun h5 => ?_) (fun h5 => ?_)
      · refine x_iconst 40 rfl ?_
        refine x_ret 41 (some (vI (0))) rfl ⟨rfl, Or.inr ⟨rfl, by omega⟩⟩ ⟨rfl, Or.inr ⟨?_, rfl⟩⟩
        omega
      · refine x_aload_n 16 rfl rfl ?_
        refine x_getR 17 (z := (ob bb + 174)) rfl fl_X4_9 (b_lt rfl) k_173 rfl r_173_0 ?_
        refine x_iload_n 18 rfl rfl ?_
        refine x_iald 19 (z := i (ob bb + 174) x) rfl (b_lt rfl) k_174 (by omega) rfl ?_
        refine x_bipush 20 rfl (by decide) ?_
        refine x_icmp_ne 21 (tgt := 83) rfl (by decide) (by omega) (fun h6 => ?_) (fun h6 => ?_)
        · refine x_iconst 40 rfl ?_
          refine x_ret 41 (some (vI (0))) rfl ⟨rfl, Or.inr ⟨rfl, by omega⟩⟩ ⟨rfl, Or.inr ⟨?_, rfl⟩⟩
          omega
        · refine x_aload_n 22 rfl rfl ?_
          refine x_iload_n 23 rfl rfl ?_
          refine x_iload_n 24 rfl rfl ?_
          refine x_callV 25 m_X0_fits (c_fits hc hO (by omega) (by omega)) rfl ok_X0_fits (isC_0 hc) (kC hc) rfl rfl ml_X4_65 im_X0_fits se_X0_fits rfl (by decide) rfl (Nat.le_of_ble_eq_true rfl) rfl rfl (fun v g q7 => ?_)
          rcases q7 with ⟨rfl, ⟨h8, rfl⟩ | ⟨h8, rfl⟩⟩
          · show mX m_X4_canStandIn 4 _ 0 0 _ _ [vI (1)] _
            refine x_if_eq 26 (tgt := 83) rfl (by decide) (by decide) (fun h9 => absurd h9 (by decide)) (fun h9 => ?_)
            refine x_aload_n 27 rfl rfl ?_
            refine x_aload_n 28 rfl rfl ?_
            refine x_getR 29 (z := (ob bb + 175)) rfl fl_X4_15 (b_lt rfl) k_173 rfl r_173_1 ?_
            refine x_aload 30 rfl rfl ?_
            refine x_getI 31 (z := i (c + 2 + (x).toNat) 6) rfl fl_X4_51 (isS_lt (isS.of hc (show (x).toNat < 10 by omega))) (kS (isS.of hc (show (x).toNat < 10 by omega))) rfl rfl ?_
            have h175q := h175 (i (c + 2 + x.toNat) 6) (by omega) (by omega)
            refine x_iald 32 (z := i (ob bb + 175) (i (c + 2 + (x).toNat) 6)) rfl (b_lt rfl) k_175 (by omega) rfl ?_
            refine x_aload 33 rfl rfl ?_
            refine x_getI 34 (z := i (c + 2 + (x).toNat) 0) rfl fl_X4_56 (isS_lt (isS.of hc (show (x).toNat < 10 by omega))) (kS (isS.of hc (show (x).toNat < 10 by omega))) rfl rfl ?_
            refine x_isub 35 (r := (i (ob bb + 175) (i (c + 2 + (x).toNat) 6)) - (i (c + 2 + (x).toNat) 0)) rfl rfl ?_
            refine x_callV 36 m_X0_covers (c_covers hc (by omega) (by omega)) rfl ok_X0_covers (isC_0 hc) (kC hc) rfl rfl ml_X4_39 im_X0_covers se_X0_covers rfl (by decide) rfl (Nat.le_of_ble_eq_true rfl) rfl rfl (fun v g q10 => ?_)
            rcases q10 with ⟨rfl, ⟨h11, rfl⟩ | ⟨h11, rfl⟩⟩
            · show mX m_X4_canStandIn 4 _ 0 0 _ _ [vI (1)] _
              refine x_if_eq 37 (tgt := 83) rfl (by decide) (by decide) (fun h12 => absurd h12 (by decide)) (fun h12 => ?_)
              refine x_iconst 38 rfl ?_
              refine x_goto 39 (tgt := 84) rfl (by decide) ?_
              refine x_ret 41 (some (vI (1))) rfl ⟨rfl, Or.inr ⟨rfl, by omega⟩⟩ ⟨rfl, Or.inl ⟨?_, rfl⟩⟩
              omega
            · show mX m_X4_canStandIn 4 _ 0 0 _ _ [vI (0)] _
              refine x_if_eq 37 (tgt := 83) rfl (by decide) (by decide) (fun h13 => ?_) (fun h13 => absurd h13 (by decide))
              refine x_iconst 40 rfl ?_
              refine x_ret 41 (some (vI (0))) rfl ⟨rfl, Or.inr ⟨rfl, by omega⟩⟩ ⟨rfl, Or.inr ⟨?_, rfl⟩⟩
              omega
          · show mX m_X4_canStandIn 4 _ 0 0 _ _ [vI (0)] _
            refine x_if_eq 26 (tgt := 83) rfl (by decide) (by decide) (fun h14 => ?_) (fun h14 => absurd h14 (by decide))
            refine x_iconst 40 rfl ?_
            refine x_ret 41 (some (vI (0))) rfl ⟨rfl, Or.inr ⟨rfl, by omega⟩⟩ ⟨rfl, Or.inr ⟨?_, rfl⟩⟩
            omega
    · show mX m_X4_canStandIn 4 _ 0 0 _ _ [vI (0)] _
      refine x_if_eq 11 (tgt := 83) rfl (by decide) (by decide) (fun h15 => ?_) (fun h15 => absurd h15 (by decide))
      refine x_iconst 40 rfl ?_
      refine x_ret 41 (some (vI (0))) rfl ⟨rfl, Or.inr ⟨rfl, by omega⟩⟩ ⟨rfl, Or.inr ⟨?_, rfl⟩⟩
      omega
set_option maxRecDepth 20000 in
set_option maxHeartbeats 2000000 in
theorem c_findStandIns {i : Nat → Int → Int} {l : Nat → Int → BitVec 64} {c : Nat} (hc : isC bb c) (hO : okC i c) (hst : ∀ k, -9 ≤ (SR bb i).1 k ∧ (SR bb i).1 k ≤ 3) (hB : ∀ q, -1500 ≤ (SR bb i).2 q ∧ (SR bb i).2 q ≤ 1500) {p : Int} (hp : 0 ≤ p ∧ p < 4) : mCtr m_X4_findStandIns 5 0 0 [vR (some (ob bb + 173)), vR (some c), vI (p)] (st nn i l) (qV nn (fun i' l' => l' = l ∧ (∀ a b, a ≠ (ob bb + 174) → a ≠ (ob bb + 175) → i' a b = i a b) ∧ SR bb i' = siZ (cD i c) p (SR bb i) (i c 4))) := by
  refine mCtr_of pl_X4 dc_X4_findStandIns (Nat.le_of_ble_eq_true rfl) rfl ?_
  show mX m_X4_findStandIns 5 _ 0 0 0 [some (vR (some (ob bb + 173))), some (vR (some c)), some (vI (p)), none, none] [] (st nn i l)
  have hN := hO.n
  have hr := isC_r hc
  refine x_iconst 0 rfl ?_
  refine x_istore_n 1 (L' := [some (vR (some (ob bb + 173))), some (vR (some c)), some (vI (p)), some (vI (0)), none]) rfl (by decide) rfl rfl ?_
  have loopL1 : ∀ (nz : Nat) (ii : Nat → Int → Int) (x : Int), (0 ≤ x ∧ x ≤ i c 4) → (∀ a b, a ≠ (ob bb + 174) → a ≠ (ob bb + 175) → ii a b = i a b) → (SR bb ii = siZ (cD i c) p (SR bb i) x) → (i c 4 - x) < (nz : Int) → mX m_X4_findStandIns 5 (qV nn (fun i' l' => l' = l ∧ (∀ a b, a ≠ (ob bb + 174) → a ≠ (ob bb + 175) → i' a b = i a b) ∧ SR bb i' = siZ (cD i c) p (SR bb i) (i c 4))) 0 0 2 [some (vR (some (ob bb + 173))), some (vR (some c)), some (vI (p)), some (vI (x)), none] [] (st nn ii l) := by
    intro nz
    induction nz with
    | zero => intro ii x hx hf hs hz; exact absurd hz (by omega)
    | succ nz ihL1 =>
      intro ii x hx hf hs hzL1
      have hbl : ∀ a b, c ≤ a → a < c + 15 → ii a b = i a b := fun a b h1 h2 => hf a b (by omega) (by omega)
      have hcd := cD_congr hbl
      have hOw := hO.congr hbl
      have hNw := hOw.n
      have e4 := hbl c 4 (by omega) (by omega)
      refine x_iload_n 2 rfl rfl ?_
      refine x_aload_n 3 rfl rfl ?_
      refine x_getI 4 (z := ii c 4) rfl fl_X4_35 (isC_0 hc) (kC hc) rfl rfl ?_
      refine x_icmp_ge 5 (tgt := 86) rfl (by decide) (by omega) (fun h2 => ?_) (fun h2 => ?_)
      · refine x_ret 50 none rfl ⟨rfl, rfl⟩ ⟨rfl, ii, l, rfl, ?_⟩
        refine ⟨rfl, hf, ?_⟩
        rw [hs]
        first
          | (rw [show x = i c 4 by omega]; done)
          | (refine (siZ_stop _ _ _ hx.1 ?_ hx.2).symm; rw [← hs]; show i (c + 12) 1 ≤ _; rw [← e175, ← hbl (c + 12) 1 (by omega) (by omega)]; omega)
      · have hstw : ∀ k, -9 ≤ (SR bb ii).1 k ∧ (SR bb ii).1 k ≤ 3 := by rw [hs]; exact siZ_sb _ _ _ hp hst
        have hBw : ∀ q, -2000 ≤ (SR bb ii).2 q ∧ (SR bb ii).2 q ≤ 2000 := by
          intro q; rw [hs]; have := siZ_bd (cD i c) p (SR bb i) (x := x) (B := 1500) hx.1 (fun k h0 h1 => by have := hO.s h0 (show k < i c 4 by omega); show 0 ≤ i (cQ c k) 0 ∧ i (cQ c k) 0 ≤ 9; rw [cQ_at (by omega)]; omega) hB q; omega
        have e175 : ii (ob bb + 175) p = (SR bb ii).2 p := by unfold SR; simp only; rw [if_pos (by omega)]
        have hBp := hBw p
        refine x_aload_n 6 rfl rfl ?_
        refine x_aload_n 7 rfl rfl ?_
        refine x_getR 8 (z := (ob bb + 175)) rfl fl_X4_15 (b_lt rfl) k_173 rfl r_173_1 ?_
        refine x_iload_n 9 rfl rfl ?_
        refine x_iald 10 (z := ii (ob bb + 175) p) rfl (b_lt rfl) k_175 (by omega) rfl ?_
        refine x_callV 11 m_X0_covers (c_covers hc (by omega) (by omega)) rfl ok_X0_covers (isC_0 hc) (kC hc) rfl rfl ml_X4_39 im_X0_covers se_X0_covers rfl (by decide) rfl (Nat.le_of_ble_eq_true rfl) rfl rfl (fun v g q3 => ?_)
        rcases q3 with ⟨rfl, ⟨h4, rfl⟩ | ⟨h4, rfl⟩⟩
        · show mX m_X4_findStandIns 5 _ 0 0 _ _ [vI (1)] _
          refine x_if_ne 12 (tgt := 86) rfl (by decide) (by decide) (fun h5 => ?_) (fun h5 => absurd h5 (by decide))
          refine x_ret 50 none rfl ⟨rfl, rfl⟩ ⟨rfl, ii, l, rfl, ?_⟩
          refine ⟨rfl, hf, ?_⟩
          rw [hs]
          first
            | (rw [show x = i c 4 by omega]; done)
            | (refine (siZ_stop _ _ _ hx.1 ?_ hx.2).symm; rw [← hs]; show i (c + 12) 1 ≤ _; rw [← e175, ← hbl (c + 12) 1 (by omega) (by omega)]; omega)
        · show mX m_X4_findStandIns 5 _ 0 0 _ _ [vI (0)] _
          have hnc : (SR bb ii).2 p < dC (cD i c) := by show _ < i (c + 12) 1; rw [← e175, ← hbl (c + 12) 1 (by omega) (by omega)]; omega
          refine x_if_ne 12 (tgt := 86) rfl (by decide) (by decide) (fun h6 => absurd h6 (by decide)) (fun h6 => ?_)
          refine x_aload_n 13 rfl rfl ?_
          refine x_aload_n 14 rfl rfl ?_
          refine x_iload_n 15 rfl rfl ?_
          refine x_iload_n 16 rfl rfl ?_
          refine x_callV 17 m_X4_canStandIn (c_canStandIn hc hOw hstw hBw (by omega) (by omega)) rfl ok_X4_canStandIn (b_lt rfl) k_173 rfl rfl ml_X4_43 im_X4_canStandIn se_X4_canStandIn rfl (by decide) rfl (Nat.le_of_ble_eq_true rfl) rfl rfl (fun v g q7 => ?_)
          rcases q7 with ⟨rfl, ⟨h8, rfl⟩ | ⟨h8, rfl⟩⟩
          · show mX m_X4_findStandIns 5 _ 0 0 _ _ [vI (1)] _
            have hok : siOk (cD i c) p x (SR bb ii) := by rw [← hcd]; exact h8
            have hex := (siOk_cD (show 0 ≤ x ∧ x < 10 by omega)).mp h8
            have hq175 : c + 2 + x.toNat ≠ (ob bb + 175) := by omega
            refine x_if_eq 18 (tgt := 80) rfl (by decide) (by decide) (fun h9 => absurd h9 (by decide)) (fun h9 => ?_)
            refine x_aload_n 19 rfl rfl ?_
            refine x_getR 20 (z := (c + 1)) rfl fl_X4_47 (isC_0 hc) (kC hc) rfl (rC0 hc) ?_
            refine x_iload_n 21 rfl rfl ?_
            refine x_aald 22 (t := 3) (z := (c + 2 + (x).toNat)) rfl (isC_S hc) (kCS hc) (by omega) ⟨rfl, rfl⟩ (rCs hc (by omega)) ?_
            refine x_astore 23 (L' := [some (vR (some (ob bb + 173))), some (vR (some c)), some (vI (p)), some (vI (x)), some (vR (some (c + 2 + (x).toNat)))]) rfl (by decide) rfl rfl ?_
            refine x_aload_n 24 rfl rfl ?_
            refine x_getR 25 (z := (ob bb + 175)) rfl fl_X4_15 (b_lt rfl) k_173 rfl r_173_1 ?_
            refine x_aload 26 rfl rfl ?_
            refine x_getI 27 (z := ii (c + 2 + (x).toNat) 6) rfl fl_X4_51 (isS_lt (isS.of hc (show (x).toNat < 10 by omega))) (kS (isS.of hc (show (x).toNat < 10 by omega))) rfl rfl ?_
            refine x_dup2 28 rfl rfl rfl ?_
            refine x_iald 29 (z := ii (ob bb + 175) (ii (c + 2 + (x).toNat) 6)) rfl (b_lt rfl) k_175 (by omega) rfl ?_
            refine x_aload 30 rfl rfl ?_
            refine x_getI 31 (z := ii (c + 2 + (x).toNat) 0) rfl fl_X4_56 (isS_lt (isS.of hc (show (x).toNat < 10 by omega))) (kS (isS.of hc (show (x).toNat < 10 by omega))) rfl rfl ?_
            refine x_isub 32 (r := (ii (ob bb + 175) (ii (c + 2 + (x).toNat) 6)) - (ii (c + 2 + (x).toNat) 0)) rfl rfl ?_
            obtain ⟨i10, hi10⟩ : ∃ f, f = mU ii (ob bb + 175) (ii (c + 2 + (x).toNat) 6) ((ii (ob bb + 175) (ii (c + 2 + (x).toNat) 6)) - (ii (c + 2 + (x).toNat) 0)) := ⟨_, rfl⟩
            refine x_iast 33 rfl (b_lt rfl) k_175 (by omega) (g' := st nn i10 l) (by subst hi10; rfl) ?_
            refine x_aload_n 34 rfl rfl ?_
            refine x_getR 35 (z := (ob bb + 175)) rfl fl_X4_15 (b_lt rfl) k_173 rfl r_173_1 ?_
            refine x_iload_n 36 rfl rfl ?_
            refine x_dup2 37 rfl rfl rfl ?_
            refine x_iald 38 (z := i10 (ob bb + 175) p) rfl (b_lt rfl) k_175 (by omega) rfl ?_
            refine x_aload 39 rfl rfl ?_
            refine x_getI 40 (z := i10 (c + 2 + (x).toNat) 0) rfl fl_X4_56 (isS_lt (isS.of hc (show (x).toNat < 10 by omega))) (kS (isS.of hc (show (x).toNat < 10 by omega))) rfl rfl ?_
            refine x_iadd 41 (r := (i10 (ob bb + 175) p) + (i10 (c + 2 + (x).toNat) 0)) rfl rfl ?_
            obtain ⟨i11, hi11⟩ : ∃ f, f = mU i10 (ob bb + 175) (p) ((i10 (ob bb + 175) p) + (i10 (c + 2 + (x).toNat) 0)) := ⟨_, rfl⟩
            refine x_iast 42 rfl (b_lt rfl) k_175 (by omega) (g' := st nn i11 l) (by subst hi11; rfl) ?_
            refine x_aload_n 43 rfl rfl ?_
            refine x_getR 44 (z := (ob bb + 174)) rfl fl_X4_9 (b_lt rfl) k_173 rfl r_173_0 ?_
            refine x_iload_n 45 rfl rfl ?_
            refine x_iload_n 46 rfl rfl ?_
            obtain ⟨i12, hi12⟩ : ∃ f, f = mU i11 (ob bb + 174) (x) (p) := ⟨_, rfl⟩
            refine x_iast 47 rfl (b_lt rfl) k_174 (by omega) (g' := st nn i12 l) (by subst hi12; rfl) ?_
            refine x_iinc 48 (L' := [some (vR (some (ob bb + 173))), some (vR (some c)), some (vI (p)), some (vI (x + 1)), some (vR (some (c + 2 + (x).toNat)))]) rfl (by decide) rfl rfl rfl rfl ?_
            refine x_goto 49 (tgt := 2) rfl (by decide) ?_
            refine x_dropL (L' := [some (vR (some (ob bb + 173))), some (vR (some c)), some (vI (p)), some (vI (x + 1)), none]) ⟨rfl, ⟨rfl, ⟨rfl, ⟨rfl, True.intro⟩⟩⟩⟩ ?_
            exact ihL1 i12 (x + 1) (by omega) (by intro a b h1 h2; rw [← hf a b h1 h2]; try (subst_vars; simp [mU, h1, h2])) (by first | exact (by rw [siZ_do _ _ _ hx.1 (by rw [← hs]; exact hnc) (by rw [← hs]; exact hok), ← hs, ← hcd]; exact siDo_cD (i := ii) (by omega) hp hex.2.1 (by subst_vars; rw [mUne _ _ _ _ _ hq175])) | (rw [siZ_no _ _ _ hx.1 (by rw [← hs]; exact hnc) (by rw [← hs]; exact hnok)]; exact hs)) (by omega)
          · show mX m_X4_findStandIns 5 _ 0 0 _ _ [vI (0)] _
            have hnok : ¬ siOk (cD i c) p x (SR bb ii) := by rw [← hcd]; exact h8
            refine x_if_eq 18 (tgt := 80) rfl (by decide) (by decide) (fun h13 => ?_) (fun h13 => absurd h13 (by decide))
            refine x_iinc 48 (L' := [some (vR (some (ob bb + 173))), some (vR (some c)), some (vI (p)), some (vI (x + 1)), none]) rfl (by decide) rfl rfl rfl rfl ?_
            refine x_goto 49 (tgt := 2) rfl (by decide) ?_
            exact ihL1 ii (x + 1) (by omega) (by intro a b h1 h2; rw [← hf a b h1 h2]; try (subst_vars; simp [mU, h1, h2])) (by first | exact (by rw [siZ_do _ _ _ hx.1 (by rw [← hs]; exact hnc) (by rw [← hs]; exact hok), ← hs, ← hcd]; exact siDo_cD (i := ii) (by omega) hp hex.2.1 (by subst_vars; rw [mUne _ _ _ _ _ hq175])) | (rw [siZ_no _ _ _ hx.1 (by rw [← hs]; exact hnc) (by rw [← hs]; exact hnok)]; exact hs)) (by omega)
  exact loopL1 ((i c 4 - ((0))) + 1 : Int).toNat i (0) (by omega) (fun _ _ _ _ => rfl) (rfl) (by omega)
set_option maxRecDepth 20000 in
set_option maxHeartbeats 2000000 in
theorem c_findSoloist {i : Nat → Int → Int} {l : Nat → Int → BitVec 64} {c : Nat} (hc : isC bb c) (hO : okC i c) (hst : ∀ k, -9 ≤ (SR bb i).1 k ∧ (SR bb i).1 k ≤ 3) {p : Int} (hp : 0 ≤ p ∧ p < 4) : mCtr m_X4_findSoloist 2 0 0 [vR (some (ob bb + 173)), vR (some c), vI (p)] (st nn i l) (qI (soZ (cD i c) (SR bb i).1 p (i c 4)) (st nn i l)) := by
  refine mCtr_of pl_X4 dc_X4_findSoloist (Nat.le_of_ble_eq_true rfl) rfl ?_
  show mX m_X4_findSoloist 2 _ 0 0 0 [some (vR (some (ob bb + 173))), some (vR (some c)), some (vI (p)), none, none, none, none] [] (st nn i l)
  have hN := hO.n
  refine x_bipush 0 rfl (by decide) ?_
  refine x_istore_n 1 (L' := [some (vR (some (ob bb + 173))), some (vR (some c)), some (vI (p)), some (vI ((-9))), none, none, none]) rfl (by decide) rfl rfl ?_
  refine x_iconst 2 rfl ?_
  refine x_istore 3 (L' := [some (vR (some (ob bb + 173))), some (vR (some c)), some (vI (p)), some (vI ((-9))), some (vI (0)), none, none]) rfl (by decide) rfl rfl ?_
  have loopL1 : ∀ (nz : Nat) (x : Int) (b : Int), (0 ≤ x ∧ x ≤ i c 4) → (b = soZ (cD i c) (SR bb i).1 p x) → (i c 4 - x) < (nz : Int) → mX m_X4_findSoloist 2 (qI (soZ (cD i c) (SR bb i).1 p (i c 4)) (st nn i l)) 0 0 6 [some (vR (some (ob bb + 173))), some (vR (some c)), some (vI (p)), some (vI (b)), some (vI (x)), none, none] [] (st nn i l) := by
    intro nz
    induction nz with
    | zero => intro x b hx hb hz; exact absurd hz (by omega)
    | succ nz ihL1 =>
      intro x b hx hb hzL1
      refine x_iload 4 rfl rfl ?_
      refine x_aload_n 5 rfl rfl ?_
      refine x_getI 6 (z := i c 4) rfl fl_X4_35 (isC_0 hc) (kC hc) rfl rfl ?_
      refine x_icmp_ge 7 (tgt := 103) rfl (by decide) (by omega) (fun h2 => ?_) (fun h2 => ?_)
      · refine x_iload_n 50 rfl rfl ?_
        refine x_ret 51 (some (vI (b))) rfl ⟨rfl, Or.inl rfl⟩ ⟨congrArg (fun z => some (vI z)) ?_, rfl⟩
        rw [hb, show x = i c 4 by omega]
      · have hsg := hO.s hx.1 (show x < i c 4 by omega)
        have hbd := soZ_bd (cD i c) (SR bb i).1 p hx.1
        rw [← hb] at hbd
        have hs174 := hst x
        have hs174 : -9 ≤ i (ob bb + 174) x ∧ i (ob bb + 174) x ≤ 3 := by have := hst x; unfold SR at this; simp only at this; rw [if_pos (by omega)] at this; exact this
        refine x_aload_n 8 rfl rfl ?_
        refine x_getR 9 (z := (c + 1)) rfl fl_X4_47 (isC_0 hc) (kC hc) rfl (rC0 hc) ?_
        refine x_iload 10 rfl rfl ?_
        refine x_aald 11 (t := 3) (z := (c + 2 + (x).toNat)) rfl (isC_S hc) (kCS hc) (by omega) ⟨rfl, rfl⟩ (rCs hc (by omega)) ?_
        refine x_astore 12 (L' := [some (vR (some (ob bb + 173))), some (vR (some c)), some (vI (p)), some (vI (b)), some (vI (x)), some (vR (some (c + 2 + (x).toNat))), none]) rfl (by decide) rfl rfl ?_
        refine x_aload 13 rfl rfl ?_
        refine x_getI 14 (z := i (c + 2 + (x).toNat) 6) rfl fl_X4_51 (isS_lt (isS.of hc (show (x).toNat < 10 by omega))) (kS (isS.of hc (show (x).toNat < 10 by omega))) rfl rfl ?_
        refine x_iload_n 15 rfl rfl ?_
        refine x_icmp_ne 16 (tgt := 66) rfl (by decide) (by omega) (fun h3 => ?_) (fun h3 => ?_)
        · refine x_iconst 32 rfl ?_
          refine x_istore 33 (L' := [some (vR (some (ob bb + 173))), some (vR (some c)), some (vI (p)), some (vI (b)), some (vI (x)), some (vR (some (c + 2 + (x).toNat))), some (vI (0))]) rfl (by decide) rfl rfl ?_
          refine x_iload 34 rfl rfl ?_
          refine x_if_eq 35 (tgt := 97) rfl (by decide) (by decide) (fun h4 => ?_) (fun h4 => absurd h4 (by decide))
          refine x_iinc 48 (L' := [some (vR (some (ob bb + 173))), some (vR (some c)), some (vI (p)), some (vI (b)), some (vI (x + 1)), some (vR (some (c + 2 + (x).toNat))), some (vI (0))]) rfl (by decide) rfl rfl rfl rfl ?_
          refine x_goto 49 (tgt := 6) rfl (by decide) ?_
          refine x_dropL (L' := [some (vR (some (ob bb + 173))), some (vR (some c)), some (vI (p)), some (vI (b)), some (vI (x + 1)), none, none]) ⟨rfl, ⟨rfl, ⟨rfl, ⟨rfl, ⟨rfl, True.intro⟩⟩⟩⟩⟩ ?_
          exact ihL1 (x + 1) (b) (by omega) (by first | (rw [soZ_y _ _ _ hx.1 ((soOk_cD (by omega)).mpr ⟨by omega, by omega, by omega, by assumption⟩) (by rw [← hb]; first | (left; omega) | (right; exact (soBf_cD (by omega) (by omega)).mpr (by omega)))]) | (rw [soZ_n _ _ _ hx.1 (by rw [← hb]; intro hh; rw [soOk_cD (by omega)] at hh; first | omega | (exact absurd hh.1.2.2.2 (by assumption)) | (rcases hh.2 with h9 | h9 <;> first | omega | (have := (soBf_cD (by omega) (by omega)).mp h9; omega)))]; exact hb)) (by omega)
        · refine x_aload 17 rfl rfl ?_
          refine x_getI 18 (z := i (c + 2 + (x).toNat) 7) rfl fl_X4_58 (isS_lt (isS.of hc (show (x).toNat < 10 by omega))) (kS (isS.of hc (show (x).toNat < 10 by omega))) rfl rfl ?_
          refine x_if_eq 19 (tgt := 66) rfl (by decide) (by omega) (fun h5 => ?_) (fun h5 => ?_)
          · refine x_iconst 32 rfl ?_
            refine x_istore 33 (L' := [some (vR (some (ob bb + 173))), some (vR (some c)), some (vI (p)), some (vI (b)), some (vI (x)), some (vR (some (c + 2 + (x).toNat))), some (vI (0))]) rfl (by decide) rfl rfl ?_
            refine x_iload 34 rfl rfl ?_
            refine x_if_eq 35 (tgt := 97) rfl (by decide) (by decide) (fun h6 => ?_) (fun h6 => absurd h6 (by decide))
            refine x_iinc 48 (L' := [some (vR (some (ob bb + 173))), some (vR (some c)), some (vI (p)), some (vI (b)), some (vI (x + 1)), some (vR (some (c + 2 + (x).toNat))), some (vI (0))]) rfl (by decide) rfl rfl rfl rfl ?_
            refine x_goto 49 (tgt := 6) rfl (by decide) ?_
            refine x_dropL (L' := [some (vR (some (ob bb + 173))), some (vR (some c)), some (vI (p)), some (vI (b)), some (vI (x + 1)), none, none]) ⟨rfl, ⟨rfl, ⟨rfl, ⟨rfl, ⟨rfl, True.intro⟩⟩⟩⟩⟩ ?_
            exact ihL1 (x + 1) (b) (by omega) (by first | (rw [soZ_y _ _ _ hx.1 ((soOk_cD (by omega)).mpr ⟨by omega, by omega, by omega, by assumption⟩) (by rw [← hb]; first | (left; omega) | (right; exact (soBf_cD (by omega) (by omega)).mpr (by omega)))]) | (rw [soZ_n _ _ _ hx.1 (by rw [← hb]; intro hh; rw [soOk_cD (by omega)] at hh; first | omega | (exact absurd hh.1.2.2.2 (by assumption)) | (rcases hh.2 with h9 | h9 <;> first | omega | (have := (soBf_cD (by omega) (by omega)).mp h9; omega)))]; exact hb)) (by omega)
          · refine x_aload_n 20 rfl rfl ?_
            refine x_getR 21 (z := (ob bb + 174)) rfl fl_X4_9 (b_lt rfl) k_173 rfl r_173_0 ?_
            refine x_iload 22 rfl rfl ?_
            refine x_iald 23 (z := i (ob bb + 174) x) rfl (b_lt rfl) k_174 (by omega) rfl ?_
            refine x_bipush 24 rfl (by decide) ?_
            refine x_icmp_ne 25 (tgt := 66) rfl (by decide) (by omega) (fun h7 => ?_) (fun h7 => ?_)
            · refine x_iconst 32 rfl ?_
              refine x_istore 33 (L' := [some (vR (some (ob bb + 173))), some (vR (some c)), some (vI (p)), some (vI (b)), some (vI (x)), some (vR (some (c + 2 + (x).toNat))), some (vI (0))]) rfl (by decide) rfl rfl ?_
              refine x_iload 34 rfl rfl ?_
              refine x_if_eq 35 (tgt := 97) rfl (by decide) (by decide) (fun h8 => ?_) (fun h8 => absurd h8 (by decide))
              refine x_iinc 48 (L' := [some (vR (some (ob bb + 173))), some (vR (some c)), some (vI (p)), some (vI (b)), some (vI (x + 1)), some (vR (some (c + 2 + (x).toNat))), some (vI (0))]) rfl (by decide) rfl rfl rfl rfl ?_
              refine x_goto 49 (tgt := 6) rfl (by decide) ?_
              refine x_dropL (L' := [some (vR (some (ob bb + 173))), some (vR (some c)), some (vI (p)), some (vI (b)), some (vI (x + 1)), none, none]) ⟨rfl, ⟨rfl, ⟨rfl, ⟨rfl, ⟨rfl, True.intro⟩⟩⟩⟩⟩ ?_
              exact ihL1 (x + 1) (b) (by omega) (by first | (rw [soZ_y _ _ _ hx.1 ((soOk_cD (by omega)).mpr ⟨by omega, by omega, by omega, by assumption⟩) (by rw [← hb]; first | (left; omega) | (right; exact (soBf_cD (by omega) (by omega)).mpr (by omega)))]) | (rw [soZ_n _ _ _ hx.1 (by rw [← hb]; intro hh; rw [soOk_cD (by omega)] at hh; first | omega | (exact absurd hh.1.2.2.2 (by assumption)) | (rcases hh.2 with h9 | h9 <;> first | omega | (have := (soBf_cD (by omega) (by omega)).mp h9; omega)))]; exact hb)) (by omega)
            · refine x_aload_n 26 rfl rfl ?_
              refine x_aload 27 rfl rfl ?_
              refine x_callV 28 m_X0_rested (c_rested hc hO (isS.of hc (show (x).toNat < 10 by omega)) (by omega)) rfl ok_X0_rested (isC_0 hc) (kC hc) rfl rfl ml_X4_69 im_X0_rested se_X0_rested rfl (by decide) rfl (Nat.le_of_ble_eq_true rfl) rfl rfl (fun v g q9 => ?_)
              rcases q9 with ⟨rfl, ⟨h10, rfl⟩ | ⟨h10, rfl⟩⟩
              · show mX m_X4_findSoloist 2 _ 0 0 _ _ [vI (1)] _
                refine x_if_eq 29 (tgt := 66) rfl (by decide) (by decide) (fun h11 => absurd h11 (by decide)) (fun h11 => ?_)
                refine x_iconst 30 rfl ?_
                refine x_goto 31 (tgt := 67) rfl (by decide) ?_
                refine x_istore 33 (L' := [some (vR (some (ob bb + 173))), some (vR (some c)), some (vI (p)), some (vI (b)), some (vI (x)), some (vR (some (c + 2 + (x).toNat))), some (vI (1))]) rfl (by decide) rfl rfl ?_
                refine x_iload 34 rfl rfl ?_
                refine x_if_eq 35 (tgt := 97) rfl (by decide) (by decide) (fun h12 => absurd h12 (by decide)) (fun h12 => ?_)
                refine x_iload_n 36 rfl rfl ?_
                refine x_bipush 37 rfl (by decide) ?_
                refine x_icmp_eq 38 (tgt := 94) rfl (by decide) (by omega) (fun h13 => ?_) (fun h13 => ?_)
                · refine x_iload 46 rfl rfl ?_
                  refine x_istore_n 47 (L' := [some (vR (some (ob bb + 173))), some (vR (some c)), some (vI (p)), some (vI (x)), some (vI (x)), some (vR (some (c + 2 + (x).toNat))), some (vI (1))]) rfl (by decide) rfl rfl ?_
                  refine x_iinc 48 (L' := [some (vR (some (ob bb + 173))), some (vR (some c)), some (vI (p)), some (vI (x)), some (vI (x + 1)), some (vR (some (c + 2 + (x).toNat))), some (vI (1))]) rfl (by decide) rfl rfl rfl rfl ?_
                  refine x_goto 49 (tgt := 6) rfl (by decide) ?_
                  refine x_dropL (L' := [some (vR (some (ob bb + 173))), some (vR (some c)), some (vI (p)), some (vI (x)), some (vI (x + 1)), none, none]) ⟨rfl, ⟨rfl, ⟨rfl, ⟨rfl, ⟨rfl, True.intro⟩⟩⟩⟩⟩ ?_
                  exact ihL1 (x + 1) (x) (by omega) (by first | (rw [soZ_y _ _ _ hx.1 ((soOk_cD (by omega)).mpr ⟨by omega, by omega, by omega, by assumption⟩) (by rw [← hb]; first | (left; omega) | (right; exact (soBf_cD (by omega) (by omega)).mpr (by omega)))]) | (rw [soZ_n _ _ _ hx.1 (by rw [← hb]; intro hh; rw [soOk_cD (by omega)] at hh; first | omega | (exact absurd hh.1.2.2.2 (by assumption)) | (rcases hh.2 with h9 | h9 <;> first | omega | (have := (soBf_cD (by omega) (by omega)).mp h9; omega)))]; exact hb)) (by omega)
                · refine x_aload 39 rfl rfl ?_
                  refine x_aload_n 40 rfl rfl ?_
                  have hsb := hO.s (x := b) (by omega) (by omega)
                  refine x_getR 41 (z := (c + 1)) rfl fl_X4_47 (isC_0 hc) (kC hc) rfl (rC0 hc) ?_
                  refine x_iload_n 42 rfl rfl ?_
                  refine x_aald 43 (t := 3) (z := (c + 2 + (b).toNat)) rfl (isC_S hc) (kCS hc) (by omega) ⟨rfl, rfl⟩ (rCs hc (by omega)) ?_
                  refine x_callV 44 m_X5_singsBefore (c_singsBefore (isS.of hc (show (x).toNat < 10 by omega)) (isS.of hc (show (b).toNat < 10 by omega)) (by omega) (by omega)) rfl ok_X5_singsBefore (isS_lt (isS.of hc (show (x).toNat < 10 by omega))) (kS (isS.of hc (show (x).toNat < 10 by omega))) rfl rfl ml_X4_73 im_X5_singsBefore se_X5_singsBefore rfl (by decide) rfl (Nat.le_of_ble_eq_true rfl) rfl rfl (fun v g q14 => ?_)
                  rcases q14 with ⟨rfl, ⟨h15, rfl⟩ | ⟨h15, rfl⟩⟩
                  · show mX m_X4_findSoloist 2 _ 0 0 _ _ [vI (1)] _
                    refine x_if_eq 45 (tgt := 97) rfl (by decide) (by decide) (fun h16 => absurd h16 (by decide)) (fun h16 => ?_)
                    refine x_iload 46 rfl rfl ?_
                    refine x_istore_n 47 (L' := [some (vR (some (ob bb + 173))), some (vR (some c)), some (vI (p)), some (vI (x)), some (vI (x)), some (vR (some (c + 2 + (x).toNat))), some (vI (1))]) rfl (by decide) rfl rfl ?_
                    refine x_iinc 48 (L' := [some (vR (some (ob bb + 173))), some (vR (some c)), some (vI (p)), some (vI (x)), some (vI (x + 1)), some (vR (some (c + 2 + (x).toNat))), some (vI (1))]) rfl (by decide) rfl rfl rfl rfl ?_
                    refine x_goto 49 (tgt := 6) rfl (by decide) ?_
                    refine x_dropL (L' := [some (vR (some (ob bb + 173))), some (vR (some c)), some (vI (p)), some (vI (x)), some (vI (x + 1)), none, none]) ⟨rfl, ⟨rfl, ⟨rfl, ⟨rfl, ⟨rfl, True.intro⟩⟩⟩⟩⟩ ?_
                    exact ihL1 (x + 1) (x) (by omega) (by first | (rw [soZ_y _ _ _ hx.1 ((soOk_cD (by omega)).mpr ⟨by omega, by omega, by omega, by assumption⟩) (by rw [← hb]; first | (left; omega) | (right; exact (soBf_cD (by omega) (by omega)).mpr (by omega)))]) | (rw [soZ_n _ _ _ hx.1 (by rw [← hb]; intro hh; rw [soOk_cD (by omega)] at hh; first | omega | (exact absurd hh.1.2.2.2 (by assumption)) | (rcases hh.2 with h9 | h9 <;> first | omega | (have := (soBf_cD (by omega) (by omega)).mp h9; omega)))]; exact hb)) (by omega)
                  · show mX m_X4_findSoloist 2 _ 0 0 _ _ [vI (0)] _
                    refine x_if_eq 45 (tgt := 97) rfl (by decide) (by decide) (fun h17 => ?_) (fun h17 => absurd h17 (by decide))
                    refine x_iinc 48 (L' := [some (vR (some (ob bb + 173))), some (vR (some c)), some (vI (p)), some (vI (b)), some (vI (x + 1)), some (vR (some (c + 2 + (x).toNat))), some (vI (1))]) rfl (by decide) rfl rfl rfl rfl ?_
                    refine x_goto 49 (tgt := 6) rfl (by decide) ?_
                    refine x_dropL (L' := [some (vR (some (ob bb + 173))), some (vR (some c)), some (vI (p)), some (vI (b)), some (vI (x + 1)), none, none]) ⟨rfl, ⟨rfl, ⟨rfl, ⟨rfl, ⟨rfl, True.intro⟩⟩⟩⟩⟩ ?_
                    exact ihL1 (x + 1) (b) (by omega) (by first | (rw [soZ_y _ _ _ hx.1 ((soOk_cD (by omega)).mpr ⟨by omega, by omega, by omega, by assumption⟩) (by rw [← hb]; first | (left; omega) | (right; exact (soBf_cD (by omega) (by omega)).mpr (by omega)))]) | (rw [soZ_n _ _ _ hx.1 (by rw [← hb]; intro hh; rw [soOk_cD (by omega)] at hh; first | omega | (exact absurd hh.1.2.2.2 (by assumption)) | (rcases hh.2 with h9 | h9 <;> first | omega | (have := (soBf_cD (by omega) (by omega)).mp h9; omega)))]; exact hb)) (by omega)
              · show mX m_X4_findSoloist 2 _ 0 0 _ _ [vI (0)] _
                refine x_if_eq 29 (tgt := 66) rfl (by decide) (by decide) (fun h18 => ?_) (fun h18 => absurd h18 (by decide))
                refine x_iconst 32 rfl ?_
                refine x_istore 33 (L' := [some (vR (some (ob bb + 173))), some (vR (some c)), some (vI (p)), some (vI (b)), some (vI (x)), some (vR (some (c + 2 + (x).toNat))), some (vI (0))]) rfl (by decide) rfl rfl ?_
                refine x_iload 34 rfl rfl ?_
                refine x_if_eq 35 (tgt := 97) rfl (by decide) (by decide) (fun h19 => ?_) (fun h19 => absurd h19 (by decide))
                refine x_iinc 48 (L' := [some (vR (some (ob bb + 173))), some (vR (some c)), some (vI (p)), some (vI (b)), some (vI (x + 1)), some (vR (some (c + 2 + (x).toNat))), some (vI (0))]) rfl (by decide) rfl rfl rfl rfl ?_
                refine x_goto 49 (tgt := 6) rfl (by decide) ?_
                refine x_dropL (L' := [some (vR (some (ob bb + 173))), some (vR (some c)), some (vI (p)), some (vI (b)), some (vI (x + 1)), none, none]) ⟨rfl, ⟨rfl, ⟨rfl, ⟨rfl, ⟨rfl, True.intro⟩⟩⟩⟩⟩ ?_
                exact ihL1 (x + 1) (b) (by omega) (by first | (rw [soZ_y _ _ _ hx.1 ((soOk_cD (by omega)).mpr ⟨by omega, by omega, by omega, by assumption⟩) (by rw [← hb]; first | (left; omega) | (right; exact (soBf_cD (by omega) (by omega)).mpr (by omega)))]) | (rw [soZ_n _ _ _ hx.1 (by rw [← hb]; intro hh; rw [soOk_cD (by omega)] at hh; first | omega | (exact absurd hh.1.2.2.2 (by assumption)) | (rcases hh.2 with h9 | h9 <;> first | omega | (have := (soBf_cD (by omega) (by omega)).mp h9; omega)))]; exact hb)) (by omega)
  exact loopL1 ((i c 4 - ((0))) + 1 : Int).toNat (0) ((-9)) (by omega) (rfl) (by omega)
set_option maxRecDepth 20000 in
set_option maxHeartbeats 2000000 in
theorem c_plan {i : Nat → Int → Int} {l : Nat → Int → BitVec 64} {c : Nat} (hc : isC bb c) (hO : okC i c) : mCtr m_X4_plan 6 0 0 [vR (some (ob bb + 173)), vR (some c)] (st nn i l) (qV nn (fun i' l' => l' = l ∧ (∀ a b, a ≠ (ob bb + 174) → a ≠ (ob bb + 175) → a ≠ (ob bb + 176) → i' a b = i a b) ∧ SR bb i' = siAZ (cD i c) (S0 i c) 4 ∧ ∀ p, 0 ≤ p → p < 4 → i' (ob bb + 176) p = soZ (cD i c) (siAZ (cD i c) (S0 i c) 4).1 p (i c 4))) := by
  refine mCtr_of pl_X4 dc_X4_plan (Nat.le_of_ble_eq_true rfl) rfl ?_
  show mX m_X4_plan 6 _ 0 0 0 [some (vR (some (ob bb + 173))), some (vR (some c)), none] [] (st nn i l)
  have hN := hO.n
  have hr := isC_r hc
  have hS01 : ∀ k, -9 ≤ (S0 i c).1 k ∧ (S0 i c).1 k ≤ 3 := fun k => by show -9 ≤ (-9 : Int) ∧ (-9 : Int) ≤ 3; omega
  have hS02 : ∀ q, -100 ≤ (S0 i c).2 q ∧ (S0 i c).2 q ≤ 100 := fun q => by have := fPres_bd (p := q) hO; show -100 ≤ (if 0 ≤ q ∧ q < 4 then fPres i c q else 0) ∧ (if 0 ≤ q ∧ q < 4 then fPres i c q else 0) ≤ 100; split <;> omega
  refine x_iconst 0 rfl ?_
  refine x_istore_n 1 (L' := [some (vR (some (ob bb + 173))), some (vR (some c)), some (vI (0))]) rfl (by decide) rfl rfl ?_
  have loopL1 : ∀ (nz : Nat) (ii : Nat → Int → Int) (x : Int), (0 ≤ x ∧ x ≤ 10) → (∀ a b, ii a b = if a = (ob bb + 174) ∧ 0 ≤ b ∧ b < x then -9 else i a b) → (10 - x) < (nz : Int) → mX m_X4_plan 6 (qV nn (fun i' l' => l' = l ∧ (∀ a b, a ≠ (ob bb + 174) → a ≠ (ob bb + 175) → a ≠ (ob bb + 176) → i' a b = i a b) ∧ SR bb i' = siAZ (cD i c) (S0 i c) 4 ∧ ∀ p, 0 ≤ p → p < 4 → i' (ob bb + 176) p = soZ (cD i c) (siAZ (cD i c) (S0 i c) 4).1 p (i c 4))) 0 0 2 [some (vR (some (ob bb + 173))), some (vR (some c)), some (vI (x))] [] (st nn ii l) := by
    intro nz
    induction nz with
    | zero => intro ii x hx hA hz; exact absurd hz (by omega)
    | succ nz ihL1 =>
      intro ii x hx hA hzL1
      refine x_iload_n 2 rfl rfl ?_
      refine x_bipush 3 rfl (by decide) ?_
      refine x_icmp_ge 4 (tgt := 22) rfl (by decide) (by omega) (fun h2 => ?_) (fun h2 => ?_)
      · refine x_iconst 12 rfl ?_
        refine x_istore_n 13 (L' := [some (vR (some (ob bb + 173))), some (vR (some c)), some (vI (0))]) rfl (by decide) rfl rfl ?_
        have loopL3 : ∀ (nz : Nat) (jj : Nat → Int → Int) (x2 : Int), (0 ≤ x2 ∧ x2 ≤ 4) → (∀ a b, jj a b = if a = (ob bb + 174) ∧ 0 ≤ b ∧ b < 10 then -9 else if a = (ob bb + 175) ∧ 0 ≤ b ∧ b < x2 then fPres i c b else i a b) → (4 - x2) < (nz : Int) → mX m_X4_plan 6 (qV nn (fun i' l' => l' = l ∧ (∀ a b, a ≠ (ob bb + 174) → a ≠ (ob bb + 175) → a ≠ (ob bb + 176) → i' a b = i a b) ∧ SR bb i' = siAZ (cD i c) (S0 i c) 4 ∧ ∀ p, 0 ≤ p → p < 4 → i' (ob bb + 176) p = soZ (cD i c) (siAZ (cD i c) (S0 i c) 4).1 p (i c 4))) 0 0 24 [some (vR (some (ob bb + 173))), some (vR (some c)), some (vI (x2))] [] (st nn jj l) := by
          intro nz
          induction nz with
          | zero => intro jj x2 hx2 hA2 hz; exact absurd hz (by omega)
          | succ nz ihL3 =>
            intro jj x2 hx2 hA2 hzL3
            have hbl : ∀ a b, c ≤ a → a < c + 15 → jj a b = i a b := fun a b h1 h2 => by rw [hA2, if_neg (by omega), if_neg (by omega)]
            have hOw := hO.congr hbl
            have ef := fPres_congr (p := x2) hN.1 hbl
            refine x_iload_n 14 rfl rfl ?_
            refine x_iconst 15 rfl ?_
            refine x_icmp_ge 16 (tgt := 46) rfl (by decide) (by omega) (fun h4 => ?_) (fun h4 => ?_)
            · refine x_iconst 26 rfl ?_
              refine x_istore_n 27 (L' := [some (vR (some (ob bb + 173))), some (vR (some c)), some (vI (0))]) rfl (by decide) rfl rfl ?_
              have loopL5 : ∀ (nz : Nat) (kk : Nat → Int → Int) (x3 : Int), (0 ≤ x3 ∧ x3 ≤ 4) → (∀ a b, a ≠ (ob bb + 174) → a ≠ (ob bb + 175) → kk a b = i a b) → (SR bb kk = siAZ (cD i c) (S0 i c) x3) → (4 - x3) < (nz : Int) → mX m_X4_plan 6 (qV nn (fun i' l' => l' = l ∧ (∀ a b, a ≠ (ob bb + 174) → a ≠ (ob bb + 175) → a ≠ (ob bb + 176) → i' a b = i a b) ∧ SR bb i' = siAZ (cD i c) (S0 i c) 4 ∧ ∀ p, 0 ≤ p → p < 4 → i' (ob bb + 176) p = soZ (cD i c) (siAZ (cD i c) (S0 i c) 4).1 p (i c 4))) 0 0 48 [some (vR (some (ob bb + 173))), some (vR (some c)), some (vI (x3))] [] (st nn kk l) := by
                intro nz
                induction nz with
                | zero => intro kk x3 hx3 hf3 hs3 hz; exact absurd hz (by omega)
                | succ nz ihL5 =>
                  intro kk x3 hx3 hf3 hs3 hzL5
                  refine x_iload_n 28 rfl rfl ?_
                  refine x_iconst 29 rfl ?_
                  refine x_icmp_ge 30 (tgt := 65) rfl (by decide) (by omega) (fun h6 => ?_) (fun h6 => ?_)
                  · refine x_iconst 37 rfl ?_
                    refine x_istore_n 38 (L' := [some (vR (some (ob bb + 173))), some (vR (some c)), some (vI (0))]) rfl (by decide) rfl rfl ?_
                    have loopL7 : ∀ (nz : Nat) (mm : Nat → Int → Int) (x4 : Int), (0 ≤ x4 ∧ x4 ≤ 4) → (∀ a b, a ≠ (ob bb + 176) → mm a b = kk a b) → (∀ b, 0 ≤ b → b < x4 → mm (ob bb + 176) b = soZ (cD i c) (SR bb kk).1 b (i c 4)) → (4 - x4) < (nz : Int) → mX m_X4_plan 6 (qV nn (fun i' l' => l' = l ∧ (∀ a b, a ≠ (ob bb + 174) → a ≠ (ob bb + 175) → a ≠ (ob bb + 176) → i' a b = i a b) ∧ SR bb i' = siAZ (cD i c) (S0 i c) 4 ∧ ∀ p, 0 ≤ p → p < 4 → i' (ob bb + 176) p = soZ (cD i c) (siAZ (cD i c) (S0 i c) 4).1 p (i c 4))) 0 0 67 [some (vR (some (ob bb + 173))), some (vR (some c)), some (vI (x4))] [] (st nn mm l) := by
                      intro nz
                      induction nz with
                      | zero => intro mm x4 hx4 hf4 h176 hz; exact absurd hz (by omega)
                      | succ nz ihL7 =>
                        intro mm x4 hx4 hf4 h176 hzL7
                        refine x_iload_n 39 rfl rfl ?_
                        refine x_iconst 40 rfl ?_
                        refine x_icmp_ge 41 (tgt := 90) rfl (by decide) (by omega) (fun h8 => ?_) (fun h8 => ?_)
                        · refine x_ret 52 none rfl ⟨rfl, rfl⟩ ⟨rfl, mm, l, rfl, ?_⟩
                          have hSRm : SR bb mm = SR bb kk := SR_congr (fun b => hf4 (ob bb + 174) b (by omega)) (fun b => hf4 (ob bb + 175) b (by omega))
                          rw [show x3 = 4 by omega] at hs3
                          rw [show x4 = 4 by omega] at h176
                          rw [hs3] at h176 hSRm
                          exact ⟨rfl, fun a b h1 h2 h3 => by rw [hf4 a b h3, hf3 a b h1 h2], hSRm, h176⟩
                        · have hbl : ∀ a b, c ≤ a → a < c + 15 → mm a b = i a b := fun a b h1 h2 => by rw [hf4 a b (by omega), hf3 a b (by omega) (by omega)]
                          have hOw := hO.congr hbl
                          have hcd := cD_congr hbl
                          have e4 := hbl c 4 (by omega) (by omega)
                          have hSRm : SR bb mm = SR bb kk := SR_congr (fun b => hf4 (ob bb + 174) b (by omega)) (fun b => hf4 (ob bb + 175) b (by omega))
                          have hstw : ∀ k, -9 ≤ (SR bb mm).1 k ∧ (SR bb mm).1 k ≤ 3 := by rw [hSRm, hs3]; exact siAZ_sb _ _ (by omega) hS01
                          refine x_aload_n 42 rfl rfl ?_
                          refine x_getR 43 (z := (ob bb + 176)) rfl fl_X4_18 (b_lt rfl) k_173 rfl r_173_2 ?_
                          refine x_iload_n 44 rfl rfl ?_
                          refine x_aload_n 45 rfl rfl ?_
                          refine x_aload_n 46 rfl rfl ?_
                          refine x_iload_n 47 rfl rfl ?_
                          refine x_callV 48 m_X4_findSoloist (c_findSoloist hc hOw hstw (by omega)) rfl ok_X4_findSoloist (b_lt rfl) k_173 rfl rfl ml_X4_31 im_X4_findSoloist se_X4_findSoloist rfl (by decide) rfl (Nat.le_of_ble_eq_true rfl) rfl rfl (fun v g q9 => ?_)
                          obtain ⟨rfl, rfl⟩ := q9
                          show mX m_X4_plan 6 _ 0 0 _ _ [vI (soZ (cD mm c) (SR bb mm).1 x4 (mm c 4)), vI (x4), vR (some (ob bb + 176))] _
                          obtain ⟨i10, hi10⟩ : ∃ f, f = mU mm (ob bb + 176) (x4) (soZ (cD mm c) (SR bb mm).1 x4 (mm c 4)) := ⟨_, rfl⟩
                          refine x_iast 49 rfl (b_lt rfl) k_176 (by omega) (g' := st nn i10 l) (by subst hi10; rfl) ?_
                          refine x_iinc 50 (L' := [some (vR (some (ob bb + 173))), some (vR (some c)), some (vI (x4 + 1))]) rfl (by decide) rfl rfl rfl rfl ?_
                          refine x_goto 51 (tgt := 67) rfl (by decide) ?_
                          exact ihL7 i10 (x4 + 1) (by omega) (by intro a b h1; rw [← hf4 a b h1]; subst_vars; simp [mU, h1]) (by intro b h1 h2; subst_vars; simp only [mU]; by_cases hbx : b = x4; (subst hbx; rw [if_pos ⟨trivial, rfl⟩, hcd, e4, hSRm]); (rw [if_neg (fun q => hbx q.2)]; exact h176 b h1 (by omega))) (by omega)
                    exact loopL7 ((4 - ((0))) + 1 : Int).toNat kk (0) (by omega) (fun _ _ _ => rfl) (fun b h1 h2 => by omega) (by omega)
                  · have hbl : ∀ a b, c ≤ a → a < c + 15 → kk a b = i a b := fun a b h1 h2 => hf3 a b (by omega) (by omega)
                    have hOw := hO.congr hbl
                    have hcd := cD_congr hbl
                    have e4 := hbl c 4 (by omega) (by omega)
                    have hstw : ∀ k, -9 ≤ (SR bb kk).1 k ∧ (SR bb kk).1 k ≤ 3 := by rw [hs3]; exact siAZ_sb _ _ (by omega) hS01
                    have hBw : ∀ q, -1500 ≤ (SR bb kk).2 q ∧ (SR bb kk).2 q ≤ 1500 := by rw [hs3]; exact siAZ_bd _ _ (by omega) hN.1 (cD_g hO) hS02
                    refine x_aload_n 31 rfl rfl ?_
                    refine x_aload_n 32 rfl rfl ?_
                    refine x_iload_n 33 rfl rfl ?_
                    refine x_callV 34 m_X4_findStandIns (c_findStandIns hc hOw hstw hBw (by omega)) rfl ok_X4_findStandIns (b_lt rfl) k_173 rfl rfl ml_X4_27 im_X4_findStandIns se_X4_findStandIns rfl (by decide) rfl (Nat.le_of_ble_eq_true rfl) rfl rfl (fun v g q11 => ?_)
                    obtain ⟨rfl, i12, li12, rfl, hi12⟩ := q11
                    show mX m_X4_plan 6 _ 0 0 _ _ [] _
                    obtain ⟨rfl, hfm, hsm⟩ := hi12
                    refine x_iinc 35 (L' := [some (vR (some (ob bb + 173))), some (vR (some c)), some (vI (x3 + 1))]) rfl (by decide) rfl rfl rfl rfl ?_
                    refine x_goto 36 (tgt := 48) rfl (by decide) ?_
                    exact ihL5 i12 (x3 + 1) (by omega) (by intro a b h1 h2; rw [hfm a b h1 h2, hf3 a b h1 h2]) (by rw [siAZ_s _ _ hx3.1, hsm, hs3, hcd, e4]; rfl) (by omega)
              exact loopL5 ((4 - ((0))) + 1 : Int).toNat jj (0) (by omega) (by intro a b h1 h2; rw [hA2, if_neg (by omega), if_neg (by omega)]) (by show SR bb jj = S0 i c; rw [show x2 = 4 by omega] at hA2; unfold SR S0; simp only [hA2]; refine Prod.ext ?_ ?_ <;> funext k <;> grind) (by omega)
            · refine x_aload_n 17 rfl rfl ?_
              refine x_getR 18 (z := (ob bb + 175)) rfl fl_X4_15 (b_lt rfl) k_173 rfl r_173_1 ?_
              refine x_iload_n 19 rfl rfl ?_
              refine x_aload_n 20 rfl rfl ?_
              refine x_iload_n 21 rfl rfl ?_
              refine x_callV 22 m_X0_strengthPresent (c_strengthPresent hc hOw (by omega)) rfl ok_X0_strengthPresent (isC_0 hc) (kC hc) rfl rfl ml_X4_21 im_X0_strengthPresent se_X0_strengthPresent rfl (by decide) rfl (Nat.le_of_ble_eq_true rfl) rfl rfl (fun v g q13 => ?_)
              obtain ⟨rfl, rfl⟩ := q13
              show mX m_X4_plan 6 _ 0 0 _ _ [vI (fPres jj c x2), vI (x2), vR (some (ob bb + 175))] _
              obtain ⟨i14, hi14⟩ : ∃ f, f = mU jj (ob bb + 175) (x2) (fPres jj c x2) := ⟨_, rfl⟩
              refine x_iast 23 rfl (b_lt rfl) k_175 (by omega) (g' := st nn i14 l) (by subst hi14; rfl) ?_
              refine x_iinc 24 (L' := [some (vR (some (ob bb + 173))), some (vR (some c)), some (vI (x2 + 1))]) rfl (by decide) rfl rfl rfl rfl ?_
              refine x_goto 25 (tgt := 24) rfl (by decide) ?_
              exact ihL3 i14 (x2 + 1) (by omega) (by intro a b; subst_vars; simp only [mU, hA2, ef]; grind) (by omega)
        exact loopL3 ((4 - ((0))) + 1 : Int).toNat ii (0) (by omega) (by intro a b; rw [hA, show x = 10 by omega]; grind) (by omega)
      · refine x_aload_n 5 rfl rfl ?_
        refine x_getR 6 (z := (ob bb + 174)) rfl fl_X4_9 (b_lt rfl) k_173 rfl r_173_0 ?_
        refine x_iload_n 7 rfl rfl ?_
        refine x_bipush 8 rfl (by decide) ?_
        obtain ⟨i15, hi15⟩ : ∃ f, f = mU ii (ob bb + 174) (x) ((-9)) := ⟨_, rfl⟩
        refine x_iast 9 rfl (b_lt rfl) k_174 (by omega) (g' := st nn i15 l) (by subst hi15; rfl) ?_
        refine x_iinc 10 (L' := [some (vR (some (ob bb + 173))), some (vR (some c)), some (vI (x + 1))]) rfl (by decide) rfl rfl rfl rfl ?_
        refine x_goto 11 (tgt := 2) rfl (by decide) ?_
        exact ihL1 i15 (x + 1) (by omega) (by intro a b; subst_vars; simp only [mU, hA]; grind) (by omega)
  exact loopL1 ((10 - ((0))) + 1 : Int).toNat i (0) (by omega) (by intro a b; rw [if_neg (by omega)]) (by omega)
