variable {nn : Nat} {bb : Bool}
/-! what a rehearsal does is what was foretold -/
section HLD
variable {W : Int → Int}
/-- one who stands in may, and isn't of that part -/
def siG (D : dT) (S : sT) : Prop := ∀ k, S.1 k = -9 ∨ (dR D k ≠ 0 ∧ (0 ≤ dP D k ∧ dP D k < 4) ∧ dP D k ≠ S.1 k ∧ (0 ≤ S.1 k ∧ S.1 k < 4) ∧ dF D k (S.1 k) = true)
theorem siG_N {D : dT} {p : Int} (hp : 0 ≤ p ∧ p < 4) {S : sT} (h : siG D S) (n : Nat) : siG D (siN D p S n) := by
  induction n with
  | zero => exact h
  | succ n ih =>
    unfold siN
    split
    · split
      · rename_i hok
        intro k
        show fU _ _ _ k = -9 ∨ _
        by_cases e : k = (n : Int)
        · right
          subst e
          have e1 : (siDo D p (n : Int) (siN D p S n)).1 (n : Int) = p := if_pos rfl
          rw [e1]
          obtain ⟨a1, a2, a3, a4, a5, a6⟩ := hok
          exact ⟨a1, a2, a3, hp, a5⟩
        · have e1 : (siDo D p (n : Int) (siN D p S n)).1 k = (siN D p S n).1 k := if_neg e
          have := ih k
          show (siDo D p (n : Int) (siN D p S n)).1 k = -9 ∨ _
          rw [e1]
          exact this
      · exact ih
    · exact ih
theorem plT_G (W : Int → Int) : siG (wD W) (plT W) := by
  have key : ∀ p : Nat, p ≤ 4 → siG (wD W) (siAll (wD W) (S0w W) p) := by
    intro p
    induction p with
    | zero => intro _ k; exact Or.inl rfl
    | succ p ih => intro hp; exact siG_N (by omega) (ih (by omega)) _
  exact key 4 (by omega)
theorem plT_ok {k : Int} (h : (plT W).1 k ≠ -9) : sV W k 3 ≠ 0 ∧ (0 ≤ sV W k 2 ∧ sV W k 2 < 4) ∧ sV W k 2 ≠ (plT W).1 k ∧ (0 ≤ (plT W).1 k ∧ (plT W).1 k < 4) ∧ W 0 ≤ gIn (sV W k) ((plT W).1 k) := by
  rcases plT_G W k with q | ⟨q1, q2, q3, q4, q5⟩
  · exact absurd q h
  · exact ⟨q1, q2, q3, q4, of_decide_eq_true q5⟩
theorem plS_ok {p : Int} (h : plS W p ≠ -9) : sV W (plS W p) 2 = p ∧ sV W (plS W p) 3 ≠ 0 ∧ (plT W).1 (plS W p) = -9 ∧ gRest W (plS W p) := by
  rcases soZ_ok (wD W) (plT W).1 p (W 11) with q | ⟨q1, q2, q3, q4⟩
  · exact absurd q h
  · exact ⟨q1, q2, q3, of_decide_eq_true (p := sV W (plS W p) 5 = -9 ∨ W 2 < W 4 - sV W (plS W p) 5) q4⟩
theorem an_passed (hW : okW W) {y : Int} (hy : 0 ≤ y ∧ y < W 11) : (0 ≤ anPassed y W ∧ anPassed y W ≤ 5) ∧ (anPassed y W = 1 ↔ sV W y 2 < 0) ∧ (anPassed y W = 0 ↔ 0 ≤ sV W y 2 ∧ plS W (sV W y 2) = y) ∧ (anPassed y W = 2 → sV W y 3 = 0) ∧ ((plT W).1 y ≠ -9 → anPassed y W = 3) := by
  have hv := (hW.v hy.1 hy.2).2.2.1
  have hG := plT_G W y
  unfold anPassed
  rw [if_neg (by omega)]
  by_cases h2 : sV W y 2 = -9
  · rw [if_pos h2]
    refine ⟨by omega, by omega, by omega, by omega, fun q => ?_⟩
    have := plT_ok q
    omega
  · rw [if_neg h2]
    by_cases h3 : sV W y 3 = 0
    · rw [if_pos h3]
      refine ⟨by omega, by omega, ⟨fun q => by omega, fun q => ?_⟩, fun _ => h3, fun q => absurd h3 (plT_ok q).1⟩
      have := (plS_ok (W := W) (p := sV W y 2) (by omega)).2.1
      rw [q.2] at this
      exact absurd h3 this
    · rw [if_neg h3]
      by_cases ht : (plT W).1 y = -9
      · rw [if_neg (fun q => q ht)]
        by_cases hr : gRest W y
        · rw [if_neg (fun q => q hr)]
          by_cases hs : plS W (sV W y 2) = y
          · rw [if_pos hs]
            exact ⟨by omega, by omega, by omega, by omega, fun q => absurd ht q⟩
          · rw [if_neg hs]
            exact ⟨by omega, by omega, by omega, by omega, fun q => absurd ht q⟩
        · rw [if_pos hr]
          refine ⟨by omega, by omega, ⟨fun q => by omega, fun q => ?_⟩, by omega, fun q => absurd ht q⟩
          have := (plS_ok (W := W) (p := sV W y 2) (by omega)).2.2.2
          rw [q.2] at this
          exact absurd this hr
      · rw [if_pos ht]
        refine ⟨by omega, by omega, ⟨fun q => by omega, fun q => ?_⟩, by omega, fun _ => rfl⟩
        have := (plS_ok (W := W) (p := sV W y 2) (by omega)).2.2.1
        rw [q.2] at this
        exact absurd this ht
/-- a part that fits is a bit of the set -/
theorem gF_bit {y d : Int} (hd : 0 ≤ d ∧ d < 4) (h : W 0 ≤ gIn (sV W y) d) : gFits W y / 2 ^ d.toNat % 2 = 1 := by
  obtain ⟨f, hf⟩ : ∃ f : Int → Bool, f = fun p => decide (W 0 ≤ gIn (sV W y) p) := ⟨_, rfl⟩
  have hfd : f d = true := by rw [hf]; exact decide_eq_true h
  have e : gFits W y = orZ f 4 := by rw [hf]; rfl
  have key : ∀ b0 b1 b2 b3 : Bool, ∀ d : Nat, d < 4 → (if d = 0 then b0 else if d = 1 then b1 else if d = 2 then b2 else b3) = true → (orN (fun k => if k = 0 then b0 else if k = 1 then b1 else if k = 2 then b2 else b3) 4 : Nat) / 2 ^ d % 2 = 1 := by decide
  have hk := key (f 0) (f 1) (f 2) (f 3) d.toNat (by omega) (by
    rcases (show d = 0 ∨ d = 1 ∨ d = 2 ∨ d = 3 by omega) with q | q | q | q <;> subst q <;> exact hfd)
  have e2 : orN f 4 = orN (fun k => if k = 0 then f 0 else if k = 1 then f 1 else if k = 2 then f 2 else f 3) 4 := by
    simp [orN]
  rw [e]
  show ((orN f (4 : Int).toNat : Nat) : Int) / 2 ^ d.toNat % 2 = 1
  rw [show (4 : Int).toNat = 4 from rfl, e2]
  have hk2 : (((orN (fun k => if k = 0 then f 0 else if k = 1 then f 1 else if k = 2 then f 2 else f 3) 4 / 2 ^ d.toNat % 2 : Nat)) : Int) = 1 := by rw [hk]; rfl
  simp only [Int.natCast_emod, Int.natCast_ediv, Int.natCast_pow] at hk2
  exact hk2
theorem ho_n (hW : okW W) : hoW W 11 = W 11 ∧ hoW W 4 = W 4 + 1 ∧ hoW W 9 = W 9 + sgW W ∧ hoW W 10 = W 10 + siW W := ⟨hoW_e hW (Or.inl rfl), rfl, rfl, rfl⟩
theorem ho_abs (hW : okW W) : gAbs (hoW W) = 0 := by
  have hN := hW.n
  unfold gAbs
  rw [(ho_n hW).1]
  have : sumZ (fun k => if sV (hoW W) k 3 = 0 then 1 else 0) (W 11) = sumZ (fun _ => 0) (W 11) := sumZ_congr (fun k h0 h1 => by
    have e : sV (hoW W) k 3 = 1 := by rw [hoW_s hN.1.2 hN.2.1.1 h0 h1 (by omega) (by omega), if_neg (by omega), if_neg (by omega), if_neg (by omega), if_pos rfl]
    show (if sV (hoW W) k 3 = 0 then (1 : Int) else 0) = 0
    rw [e]
    rfl)
  rw [this]
  have b := sumZ_bd (f := fun _ => 0) (x := W 11) (a := 0) (b := 0) hN.1.1 (fun _ _ _ => by omega)
  omega
theorem ho_solo (hW : okW W) {p : Int} (hp : 0 ≤ p ∧ p < 4) : anSolo (W 4) p (hoW W) = plS W p := by
  have hN := hW.n
  rw [anSo hN.2.1.1 (by rw [(ho_n hW).2.1]; omega) hp]
  unfold hoW
  rw [if_neg (by omega), if_neg (by omega), if_neg (by omega), if_neg (by omega), if_pos (by omega)]
  congr 1; omega
theorem hs_of (hW : okW W) {k : Int} (hk : 0 ≤ k ∧ k < W 11) : hsW W k = if 0 ≤ sV W k 2 ∧ plS W (sV W k 2) = k then 1 else 0 := by
  have hv := (hW.v hk.1 hk.2).2.2.1
  unfold hsW
  rw [sumZ4]
  have h0 := plS_part W 0
  have h1 := plS_part W 1
  have h2 := plS_part W 2
  have h3 := plS_part W 3
  have g : ∀ q, plS W q = k → sV W k 2 = q := fun q e => by
    rcases plS_part W q with z | z
    · omega
    · rw [e] at z; exact z
  rcases (show sV W k 2 = -9 ∨ sV W k 2 = 0 ∨ sV W k 2 = 1 ∨ sV W k 2 = 2 ∨ sV W k 2 = 3 by omega) with e | e | e | e | e
  · rw [if_neg (fun q => by have := g _ q; omega), if_neg (fun q => by have := g _ q; omega), if_neg (fun q => by have := g _ q; omega), if_neg (fun q => by have := g _ q; omega), if_neg (by omega)]; rfl
  · rw [if_neg (fun q : plS W 1 = k => by have := g _ q; omega), if_neg (fun q : plS W 2 = k => by have := g _ q; omega), if_neg (fun q : plS W 3 = k => by have := g _ q; omega), e]
    by_cases q : plS W 0 = k
    · rw [if_pos q, if_pos ⟨by omega, q⟩]; rfl
    · rw [if_neg q, if_neg (fun z => q z.2)]; rfl
  · rw [if_neg (fun q : plS W 0 = k => by have := g _ q; omega), if_neg (fun q : plS W 2 = k => by have := g _ q; omega), if_neg (fun q : plS W 3 = k => by have := g _ q; omega), e]
    by_cases q : plS W 1 = k
    · rw [if_pos q, if_pos ⟨by omega, q⟩]; rfl
    · rw [if_neg q, if_neg (fun z => q z.2)]; rfl
  · rw [if_neg (fun q : plS W 0 = k => by have := g _ q; omega), if_neg (fun q : plS W 1 = k => by have := g _ q; omega), if_neg (fun q : plS W 3 = k => by have := g _ q; omega), e]
    by_cases q : plS W 2 = k
    · rw [if_pos q, if_pos ⟨by omega, q⟩]; rfl
    · rw [if_neg q, if_neg (fun z => q z.2)]; rfl
  · rw [if_neg (fun q : plS W 0 = k => by have := g _ q; omega), if_neg (fun q : plS W 1 = k => by have := g _ q; omega), if_neg (fun q : plS W 2 = k => by have := g _ q; omega), e]
    by_cases q : plS W 3 = k
    · rw [if_pos q, if_pos ⟨by omega, q⟩]; rfl
    · rw [if_neg q, if_neg (fun z => q z.2)]; rfl
theorem ho_singer (hW : okW W) {k : Int} (hk : 0 ≤ k ∧ k < W 11) : sV (hoW W) k 2 = sV W k 2 ∧ sV (hoW W) k 4 = sV W k 4 + hsW W k ∧ sV (hoW W) k 6 = sV W k 6 + (if (plT W).1 k = -9 then 0 else 1) ∧ (0 < hsW W k → sV (hoW W) k 5 = W 4) := by
  have hN := hW.n
  refine ⟨?_, ?_, ?_, fun q => ?_⟩
  · rw [hoW_s hN.1.2 hN.2.1.1 hk.1 hk.2 (by omega) (by omega), if_neg (by omega), if_neg (by omega), if_neg (by omega), if_neg (by omega)]
  · rw [hoW_s hN.1.2 hN.2.1.1 hk.1 hk.2 (by omega) (by omega), if_pos rfl]
  · rw [hoW_s hN.1.2 hN.2.1.1 hk.1 hk.2 (by omega) (by omega), if_neg (by omega), if_neg (by omega), if_pos rfl]
  · rw [hoW_s hN.1.2 hN.2.1.1 hk.1 hk.2 (by omega) (by omega), if_neg (by omega), if_pos rfl, if_pos q]
/-- the soloist of a part had the solo -/
theorem ho_latest (hW : okW W) {p : Int} (hp : 0 ≤ p ∧ p < 4) (h : plS W p ≠ -9) : sV (hoW W) (plS W p) 5 = W 4 := by
  have hb := plS_bd W p hW.n.1.1
  have hk : 0 ≤ plS W p ∧ plS W p < W 11 := by omega
  refine (ho_singer hW hk).2.2.2 ?_
  have e := (plS_ok h).1
  rw [hs_of hW hk, e, if_pos ⟨hp.1, rfl⟩]
  omega
/-- a rehearsal held, and undone -/
theorem hold_v {B : bT} (h0 : B.1 11 ≠ 0) (h1 : B.1 4 < 40) : (on spHold B).1 = sgW B.1 ∧ (on spHold B).2.1 = hoW B.1 := by
  show (spHold _ _ _ _ _ _ _ _ _).1 = _ ∧ (spHold _ _ _ _ _ _ _ _ _).2.1 = _
  unfold spHold
  rw [if_neg h0, if_neg (by omega)]
  exact ⟨rfl, rfl⟩
theorem hold_no {B : bT} (h : B.1 11 = 0 ∨ 40 ≤ B.1 4) : (on spHold B).2 = B ∧ (on spHold B).1 = if B.1 11 = 0 then -2 else -3 := by
  show (spHold _ _ _ _ _ _ _ _ _).2 = _ ∧ (spHold _ _ _ _ _ _ _ _ _).1 = _
  unfold spHold
  by_cases q : B.1 11 = 0
  · rw [if_pos q, if_pos q]; exact ⟨rfl, rfl⟩
  · rw [if_neg q, if_neg q, if_pos (by omega)]; exact ⟨rfl, rfl⟩
/-- a change that was recorded is undone -/
theorem undo_rm {B : bT} (hB : okT B) {W' : Int → Int} {FK FP : Int} {C : bT} (hC : C = (W', rmN B.2.1, rmP B.1 B.2.1 B.2.2.1, B.2.2.2.1, B.2.2.2.2.1, B.2.2.2.2.2.1, B.2.2.2.2.2.2.1, FK, FP)) : 0 ≤ (on spUndo C).1 ∧ (on spUndo C).1 ≤ 8 ∧ alk (on spUndo C).2 B := by
  have hb := hB.2.1
  have hr : 1 ≤ rmN B.2.1 ∧ rmN B.2.1 ≤ 8 := by unfold rmN; split <;> omega
  subst hC
  show 0 ≤ (spUndo _ _ _ _ _ _ _ _ _).1 ∧ (spUndo _ _ _ _ _ _ _ _ _).1 ≤ 8 ∧ alk (spUndo _ _ _ _ _ _ _ _ _).2 B
  unfold spUndo
  rw [if_neg (by show ¬ rmN B.2.1 = 0; omega)]
  refine ⟨by show 0 ≤ rmN B.2.1 - 1; omega, by show rmN B.2.1 - 1 ≤ 8; omega, ?_, rfl, rfl, rfl, rfl⟩
  show rmP B.1 B.2.1 B.2.2.1 (rmN B.2.1 - 1) = B.1
  unfold rmP rmN
  by_cases q : B.2.1 < 8
  · rw [if_pos q, if_pos q, if_pos (by omega)]
  · rw [if_neg q, if_neg q, if_pos (by omega)]
theorem undo_hold {B : bT} (hB : okT B) (h0 : B.1 11 ≠ 0) (h1 : B.1 4 < 40) : 0 ≤ (on spUndo (on spHold B).2).1 ∧ (on spUndo (on spHold B).2).1 ≤ 8 ∧ alk (on spUndo (on spHold B).2).2 B := by
  refine undo_rm (W' := hoW B.1) (FK := B.2.2.2.2.2.2.2.1) (FP := B.2.2.2.2.2.2.2.2) hB ?_
  show (spHold _ _ _ _ _ _ _ _ _).2 = _
  unfold spHold
  rw [if_neg h0, if_neg (by omega)]
theorem undo_all {B : bT} (hB : okT B) : 0 ≤ (on spUndo (on spPlaceAll B).2).1 ∧ (on spUndo (on spPlaceAll B).2).1 ≤ 8 ∧ alk (on spUndo (on spPlaceAll B).2).2 B := undo_rm hB rfl
end HLD
theorem sNew_st {i i' : Nat → Int → Int} {l l' : Nat → Int → BitVec 64} {kd : Nat ⊕ (Nat × Nat)} (hK : K0 (378 + nn) = kd) (hi : i' = fun a b => if a = 378 + nn then 0 else i a b) (hl : l' = fun a b => if a = 378 + nn then 0#64 else l a b) : sNew (st nn i l) kd = st (nn + 1) i' l' := by
  subst hi; subst hl
  have e1 : (fun a => if a = 378 + nn then kd else K0 a) = K0 := by
    funext a
    by_cases q : a = 378 + nn
    · rw [if_pos q, q, hK]
    · rw [if_neg q]
  have e2 : (fun (a : Nat) (b : Int) => if a = 378 + nn then none else R0 a b) = R0 := by
    funext a b
    by_cases q : a = 378 + nn
    · rw [if_pos q, rA a (by omega)]
    · rw [if_neg q]
  show ((378 + nn + 1, (fun a => if a = 378 + nn then kd else K0 a), _, _, (fun (a : Nat) (b : Int) => if a = 378 + nn then none else R0 a b)) : mS) = _
  rw [e1, e2]
  rfl
/-- what a rehearsal, foretold, held and undone, leaves -/
def qH (bb : Bool) (i : Nat → Int → Int) (l : Nat → Int → BitVec 64) (B : bT) : Option mV → mS → Prop := fun v g => v = some (vI 1) ∧ ∃ mm i' l' C, g = st mm i' l' ∧ mm % 2 = 0 ∧ RelT bb i' l' C ∧ okT C ∧ alk C B ∧ ∀ a b, (a < ob bb ∨ ob bb + 189 ≤ a) → a < 378 → i' a b = i a b ∧ l' a b = l a b
theorem kp_h {A i i' : Nat → Int → Int} {l l0 l' : Nat → Int → BitVec 64} {B C : bT} {mm : Nat} (hk : kp bb A i l0 C i' l') (hm : mm % 2 = 0) (hC : okT C) (ha : alk C B) (hl : ∀ a b, a < 378 → l0 a b = l a b) : qH bb i l B (some (vI 1)) (st mm i' l') :=
  ⟨rfl, mm, i', l', C, rfl, hm, hk.1, hC, ha, fun a b h1 h2 => ⟨hk.2.2.1 a b h1 h2, (hk.2.2.2 a b h1).trans (hl a b h2)⟩⟩
