/-! rows of objects and arrays -/
theorem mUws0 : ∀ w ∈ wsX00, w ∈ mGood := by decide +kernel
theorem mUws1 : ∀ w ∈ wsX10, w ∈ mGood := by decide +kernel
theorem mUws2 : ∀ w ∈ wsX20, w ∈ mGood := by decide +kernel
theorem mUws3 : ∀ w ∈ wsX30, w ∈ mGood := by decide +kernel
theorem mUws4 : ∀ w ∈ wsX40, w ∈ mGood := by decide +kernel
theorem mUws5 : ∀ w ∈ wsX50, w ∈ mGood := by decide +kernel
theorem mUws6 : ∀ w ∈ wsX60, w ∈ mGood := by decide +kernel
theorem mUws7 : ∀ w ∈ wsX70, w ∈ mGood := by decide +kernel
theorem mUws8 : ∀ w ∈ wsX80, w ∈ mGood := by decide +kernel
theorem mCl_all {P : Nat → vw_C → Prop} (h0 : P 0 (RX0, TX0, 8)) (h1 : P 1 (RX1, TX1, 3)) (h2 : P 2 (RX2, TX2, 10)) (h3 : P 3 (RX3, TX3, 11)) (h4 : P 4 (RX4, TX4, 3)) (h5 : P 5 (RX5, TX5, 11)) (h6 : P 6 (RX6, TX6, 2)) (h7 : P 7 (RX7, TX7, 2)) (h8 : P 8 (RX8, TX8, 8)) {ci : Nat} {q : vw_C} (h : vwCl[ci]? = some q) : P ci q := by
  match ci, h with
  | 0, h => cases h; exact h0
  | 1, h => cases h; exact h1
  | 2, h => cases h; exact h2
  | 3, h => cases h; exact h3
  | 4, h => cases h; exact h4
  | 5, h => cases h; exact h5
  | 6, h => cases h; exact h6
  | 7, h => cases h; exact h7
  | 8, h => cases h; exact h8
  | n + 9, h => exact absurd h (by simp [vwCl])
theorem mUws {ci : Nat} {q : vw_C} (h : vwCl[ci]? = some q) : ∀ w ∈ u_ws q.1 q.2.1 q.2.2, w ∈ mGood := mCl_all (P := fun _ q => ∀ w ∈ u_ws q.1 q.2.1 q.2.2, w ∈ mGood) mUws0 mUws1 mUws2 mUws3 mUws4 mUws5 mUws6 mUws7 mUws8 h
theorem mTyOk {ci : Nat} {q : vw_C} (h : vwCl[ci]? = some q) : ∀ k, k < q.2.2 → parseFieldDescriptor (q.2.1 k).2.2.1 = some (mTy ci k) := mCl_all (P := fun ci q => ∀ k, k < q.2.2 → parseFieldDescriptor (q.2.1 k).2.2.1 = some (mTy ci k)) tyX0_ok tyX1_ok tyX2_ok tyX3_ok tyX4_ok tyX5_ok tyX6_ok tyX7_ok tyX8_ok h
theorem mNmOk {ci : Nat} {q : vw_C} (h : vwCl[ci]? = some q) : ∀ a, a < q.2.2 → ∀ b, b < q.2.2 → a ≠ b → (q.2.1 a).2.1 ≠ (q.2.1 b).2.1 := mCl_all (P := fun _ q => ∀ a, a < q.2.2 → ∀ b, b < q.2.2 → a ≠ b → (q.2.1 a).2.1 ≠ (q.2.1 b).2.1) nmX0 nmX1 nmX2 nmX3 nmX4 nmX5 nmX6 nmX7 nmX8 h
/-- the field k of a class, by a place of a pool -/
def mFL (own : String) (idx ci k : Nat) : Prop := ∃ q : vw_C, vwCl[ci]? = some q ∧ k < q.2.2 ∧ Cond.fieldLink own idx (q.2.1 k).1 (q.2.1 k).2.1 (q.2.1 k).2.2.1 ∈ mGood
/-- two states alike but at one place -/
def mBut (g g' : mS) (o k : Nat) : Prop := sN g' = sN g ∧ sK g' = sK g ∧ ∀ (base c a b : Nat), ¬ (a = o ∧ b = k) → mVal base c g' a b = mVal base c g a b
theorem mBut_I (g : mS) (o k : Nat) (z : Int) : mBut g (sPutI g o (k : Int) z) o k := by
  refine ⟨rfl, rfl, fun base c a b h => ?_⟩
  match c with
  | 0 => rw [mVal0, mVal0]; have h' : ¬ (a = o ∧ (b : Int) = (k : Int)) := fun q => h ⟨q.1, Int.ofNat_inj.mp q.2⟩; simp only [sI, mU, if_neg h']
  | 1 => rfl
  | c + 2 => rfl
theorem mBut_L (g : mS) (o k : Nat) (z : BitVec 64) : mBut g (sPutL g o (k : Int) z) o k := by
  refine ⟨rfl, rfl, fun base c a b h => ?_⟩
  match c with
  | 0 => rfl
  | 1 => rw [mVal1, mVal1]; have h' : ¬ (a = o ∧ (b : Int) = (k : Int)) := fun q => h ⟨q.1, Int.ofNat_inj.mp q.2⟩; simp only [sL, mU, if_neg h']
  | c + 2 => rfl
theorem mBut_R (g : mS) (o k : Nat) (z : Option Nat) : mBut g (sPutR g o (k : Int) z) o k := by
  refine ⟨rfl, rfl, fun base c a b h => ?_⟩
  match c with
  | 0 => rfl
  | 1 => rfl
  | c + 2 => show mRv base _ = mRv base _; have h' : ¬ (a = o ∧ (b : Int) = (k : Int)) := fun q => h ⟨q.1, Int.ofNat_inj.mp q.2⟩; simp only [sR, mU, if_neg h']
theorem mPut_I (base : Nat) (g : mS) (o k : Nat) (z : Int) : mVal base 0 (sPutI g o (k : Int) z) o k = mI z := by rw [mVal0]; simp [sI, mU]
theorem mPut_L (base : Nat) (g : mS) (o k : Nat) (z : BitVec 64) : mVal base 1 (sPutL g o (k : Int) z) o k = .long (Int64.ofBitVec z) := by rw [mVal1]; simp [sL, mU]
theorem mPut_R (base : Nat) (g : mS) (o k : Nat) (z : Option Nat) : mVal base 2 (sPutR g o (k : Int) z) o k = mRv base z := by rw [mVal2]; simp [sR, mU]
section MH
variable {base : Nat} {tb : Nat → Nat} {dC : Nat → ClassId} {dI : Nat → Nat → Nat} {s : State} {g g' : mS} {H H1 : Heap} {o k : Nat}
theorem mHp.obj (h : mHp base dC dI s g H) (ho : o < sN g) {ci : Nat} (hk : sK g o = .inl ci) : ∃ q : vw_C, vwCl[ci]? = some q ∧ t_OB (base + o) (dC ci) q.2.2 (dI ci) H (fun k => mVal base (mTc (mTy ci k)) g o k) := by
  have h1 := h.2 o ho
  unfold mCell at h1
  rw [hk] at h1
  exact h1
theorem mHp.arr (h : mHp base dC dI s g H) (ho : o < sN g) {t n : Nat} (hk : sK g o = .inr (t, n)) : ∃ cA : ClassId, ArrOfT s cA (mAT t) ∧ va_RA s cA (mAT t) ∧ H[base + o]? = some (arrV cA n (fun k => mVal base (mTc (mAT t)) g o k)) := by
  have h1 := h.2 o ho
  unfold mCell at h1
  rw [hk] at h1
  exact h1
/-- another cell stays -/
theorem mCell.kept {a : Nat} (h : mCell base dC dI s g H a) (hK : sK g' = sK g) (hq : H1[base + a]? = H[base + a]?) (hv : ∀ base c b : Nat, mVal base c g' a b = mVal base c g a b) : mCell base dC dI s g' H1 a := by
  unfold mCell at h ⊢
  rw [hK]
  split
  · rename_i ci e
    simp only [e] at h
    obtain ⟨q, h1, h2⟩ := h
    exact ⟨q, h1, (h2.kept hq).to (fun k _ => (hv _ _ _).symm)⟩
  · rename_i t n e
    simp only [e] at h
    obtain ⟨cA, h1, h2, h3⟩ := h
    refine ⟨cA, h1, h2, ?_⟩
    rw [hq, h3]
    simp only [hv]
theorem mHp.putO (h : mHp base dC dI s g H) (ho : o < sN g) {ci : Nat} (hk : sK g o = .inl ci) {q : vw_C} (hq : vwCl[ci]? = some q) (hkN : k < q.2.2) (hap : ∀ x y, x < q.2.2 → y < q.2.2 → x ≠ y → (dI ci) x ≠ (dI ci) y) (hb : mBut g g' o k) {cell : Cell} {v : Value}
    (q1 : H[base + o]? = some cell) (q2 : cell.cls = dC ci) (q3 : cell.vm = .none) (q4 : ∀ j, j < q.2.2 → cell.slots[dI ci j]? = some (mVal base (mTc (mTy ci j)) g o j)) (hv : mVal base (mTc (mTy ci k)) g' o k = v)
    (e1 : H1[base + o]? = some (cell.setSlot (dI ci k) v)) (e2 : H1.size = H.size) (e3 : ∀ x, x ≠ base + o → H1[x]? = H[x]?) : mHp base dC dI s g' H1 := by
  refine ⟨by rw [e2, h.1, hb.1], fun a ha => ?_⟩
  rw [hb.1] at ha
  by_cases hao : a = o
  · subst hao
    unfold mCell
    rw [hb.2.1, hk]
    refine ⟨q, hq, _, e1, q2, q3, fun j hj => ?_⟩
    have h9 := t_set (V := fun j => mVal base (mTc (mTy ci j)) g a j) q4 hap hkN v j hj
    rw [h9]
    by_cases hjk : j = k
    · subst hjk
      simp [updV, hv]
    · simp only [updV, if_neg hjk]
      rw [hb.2.2 _ _ _ _ (fun e => hjk e.2)]
  · exact (h.2 a ha).kept hb.2.1 (e3 _ (by omega)) (fun _ _ _ => hb.2.2 _ _ _ _ (fun e => hao e.1))
theorem mHp.putA (h : mHp base dC dI s g H) (ho : o < sN g) {t n : Nat} (hk : sK g o = .inr (t, n)) (hb : mBut g g' o k) {cA : ClassId} {v : Value} (r1 : ArrOfT s cA (mAT t)) (r2 : va_RA s cA (mAT t))
    (hv : mVal base (mTc (mAT t)) g' o k = v) (e1 : H1[base + o]? = some ((arrV cA n (fun j => mVal base (mTc (mAT t)) g o j)).setSlot k v)) (e2 : H1.size = H.size) (e3 : ∀ x, x ≠ base + o → H1[x]? = H[x]?) : mHp base dC dI s g' H1 := by
  refine ⟨by rw [e2, h.1, hb.1], fun a ha => ?_⟩
  rw [hb.1] at ha
  by_cases hao : a = o
  · subst hao
    unfold mCell
    rw [hb.2.1, hk]
    refine ⟨cA, r1, r2, ?_⟩
    rw [e1, arrV_store]
    congr 2
    funext j
    by_cases hjk : j = k
    · subst hjk
      simp [updV, hv]
    · simp only [updV, if_neg hjk]
      rw [hb.2.2 _ _ _ _ (fun e => hjk e.2)]
  · exact (h.2 a ha).kept hb.2.1 (e3 _ (by omega)) (fun _ _ _ => hb.2.2 _ _ _ _ (fun e => hao e.1))
theorem mHp.lt (h : mHp base dC dI s g H) (ho : o < sN g) : base + o < H.size := by rw [h.1]; omega
end MH
theorem mNew_old (g : mS) (kd : Nat ⊕ (Nat × Nat)) {a : Nat} (ha : a ≠ sN g) (base c b : Nat) : mVal base c (sNew g kd) a b = mVal base c g a b := by
  match c with
  | 0 => rw [mVal0, mVal0]; simp only [sI, sNew, if_neg ha]
  | 1 => rw [mVal1, mVal1]; simp only [sL, sNew, if_neg ha]
  | c + 2 => show mRv base _ = mRv base _; simp only [sR, sNew, if_neg ha]
theorem mNew_def (g : mS) (kd : Nat ⊕ (Nat × Nat)) (base b : Nat) (t : FieldType) (ht : mTc t = 0 → t = .int ∨ t = .boolean) (hr : mTc t = 2 → defaultValue t = .null) : mVal base (mTc t) (sNew g kd) (sN g) b = defaultValue t := by
  cases t with
  | int => show mVal base 0 _ _ _ = _; rw [mVal0]; simp [sI, sNew]; rfl
  | boolean => show mVal base 0 _ _ _ = _; rw [mVal0]; simp [sI, sNew]; rfl
  | long => show mVal base 1 _ _ _ = _; rw [mVal1]; simp [sL, sNew]; rfl
  | _ =>
    rw [hr rfl]
    show mVal base 2 _ _ _ = _
    rw [mVal2]
    simp [sR, sNew, mRv]
theorem mCell.old {base : Nat} {dC : Nat → ClassId} {dI : Nat → Nat → Nat} {s : State} {g : mS} {kd : Nat ⊕ (Nat × Nat)} {H H1 : Heap} {a : Nat} (h : mCell base dC dI s g H a) (ha : a ≠ sN g) (hq : H1[base + a]? = H[base + a]?) : mCell base dC dI s (sNew g kd) H1 a := by
  unfold mCell at h ⊢
  have hk : sK (sNew g kd) a = sK g a := by simp only [sK, sNew, if_neg ha]
  rw [hk]
  split
  · rename_i ci e
    simp only [e] at h
    obtain ⟨q, h1, h2⟩ := h
    exact ⟨q, h1, (h2.kept hq).to (fun k _ => (mNew_old g kd ha _ _ _).symm)⟩
  · rename_i t n e
    simp only [e] at h
    obtain ⟨cA, h1, h2, h3⟩ := h
    refine ⟨cA, h1, h2, ?_⟩
    rw [hq, h3]
    simp only [mNew_old g kd ha]
theorem mNarZ {z : Int} (h : z = 0 ∨ z = 1) : narrow .boolean (mI z) = mI z := by
  rcases h with rfl | rfl <;> decide
section MO
variable {M : mM} {d cb sb pc : Nat} {Qa : Option mV → mS → Prop} {L : List (Option mV)} {S : List mV} {g : mS}
theorem x_getI (j : Nat) {idx o ci k : Nat} {z : Int} (hd : (mTab M)[j]? = some (pc, .getfield idx, 3)) (hf : mFL (mName M).cls idx ci k) (ho : o < sN g) (hk : sK g o = .inl ci) (ht : mTc (mTy ci k) = 0) (hz : sI g o (k : Int) = z) (kk : mX M d Qa cb sb (pc + 3) L (vI z :: S) g) : mX M d Qa cb sb pc L (vR (some o) :: S) g := by
  intro p l e R s m args below meth c Q base tb dC dI F E H locs cells slots ls hH hS hL hc hs
  obtain ⟨q, hq, hkN, hw⟩ := hf
  obtain ⟨q', hq', cell, q1, q2, q3, q4⟩ := hH.obj ho hk
  obtain rfl : q' = q := Option.some.inj (hq'.symm.trans hq)
  obtain ⟨hSl, hfc, kC, hkC, hkind⟩ := F.2.2.2.2.2.2.2.1.1.1 ci _ hq
  obtain ⟨cf, kf, fi, f, hi, hsl⟩ := hSl k hkN
  refine W.getf F.1 F.2.1 F.2.2.2.1 (F.go hw) hi (u_facts hfc hkC (u_lays F.2.2.2.2.1 (mUws hq) hkN) hi).1 q1 (by rw [q3]; exact fun h => by cases h) (v := mC base tb (vI z)) ?_ rfl rfl (F.dec hd) (kk p l e R s m args below meth c Q base tb dC dI F E H locs cells slots ls hH hS hL hc hs)
  rw [hsl, q4 k hkN]
  show some (mVal base (mTc (mTy ci k)) g o k) = _
  rw [ht]
  rw [mVal0, hz]; rfl
theorem x_getL (j : Nat) {idx o ci k : Nat} {z : BitVec 64} (hd : (mTab M)[j]? = some (pc, .getfield idx, 3)) (hf : mFL (mName M).cls idx ci k) (ho : o < sN g) (hk : sK g o = .inl ci) (ht : mTc (mTy ci k) = 1) (hz : sL g o (k : Int) = z) (kk : mX M d Qa cb sb (pc + 3) L (vL z :: S) g) : mX M d Qa cb sb pc L (vR (some o) :: S) g := by
  intro p l e R s m args below meth c Q base tb dC dI F E H locs cells slots ls hH hS hL hc hs
  obtain ⟨q, hq, hkN, hw⟩ := hf
  obtain ⟨q', hq', cell, q1, q2, q3, q4⟩ := hH.obj ho hk
  obtain rfl : q' = q := Option.some.inj (hq'.symm.trans hq)
  obtain ⟨hSl, hfc, kC, hkC, hkind⟩ := F.2.2.2.2.2.2.2.1.1.1 ci _ hq
  obtain ⟨cf, kf, fi, f, hi, hsl⟩ := hSl k hkN
  refine W.getf F.1 F.2.1 F.2.2.2.1 (F.go hw) hi (u_facts hfc hkC (u_lays F.2.2.2.2.1 (mUws hq) hkN) hi).1 q1 (by rw [q3]; exact fun h => by cases h) (v := mC base tb (vL z)) ?_ rfl rfl (F.dec hd) (kk p l e R s m args below meth c Q base tb dC dI F E H locs cells slots ls hH hS hL hc hs)
  rw [hsl, q4 k hkN]
  show some (mVal base (mTc (mTy ci k)) g o k) = _
  rw [ht]
  rw [mVal1, hz]; rfl
theorem x_getR (j : Nat) {idx o ci k : Nat} {z : Nat} (hd : (mTab M)[j]? = some (pc, .getfield idx, 3)) (hf : mFL (mName M).cls idx ci k) (ho : o < sN g) (hk : sK g o = .inl ci) (ht : mTc (mTy ci k) = 2) (hz : sR g o (k : Int) = some z) (kk : mX M d Qa cb sb (pc + 3) L (vR (some z) :: S) g) : mX M d Qa cb sb pc L (vR (some o) :: S) g := by
  intro p l e R s m args below meth c Q base tb dC dI F E H locs cells slots ls hH hS hL hc hs
  obtain ⟨q, hq, hkN, hw⟩ := hf
  obtain ⟨q', hq', cell, q1, q2, q3, q4⟩ := hH.obj ho hk
  obtain rfl : q' = q := Option.some.inj (hq'.symm.trans hq)
  obtain ⟨hSl, hfc, kC, hkC, hkind⟩ := F.2.2.2.2.2.2.2.1.1.1 ci _ hq
  obtain ⟨cf, kf, fi, f, hi, hsl⟩ := hSl k hkN
  refine W.getf F.1 F.2.1 F.2.2.2.1 (F.go hw) hi (u_facts hfc hkC (u_lays F.2.2.2.2.1 (mUws hq) hkN) hi).1 q1 (by rw [q3]; exact fun h => by cases h) (v := mC base tb (vR (some z))) ?_ rfl rfl (F.dec hd) (kk p l e R s m args below meth c Q base tb dC dI F E H locs cells slots ls hH hS hL hc hs)
  rw [hsl, q4 k hkN]
  show some (mVal base (mTc (mTy ci k)) g o k) = _
  rw [ht]
  rw [mVal2, hz]; rfl
theorem x_putI (j : Nat) {idx o ci k : Nat} {z : Int} (hd : (mTab M)[j]? = some (pc, .putfield idx, 3)) (hf : mFL (mName M).cls idx ci k) (ho : o < sN g) (hk : sK g o = .inl ci) (ht : mTy ci k = .int) (hfin : (vwCl[ci]?.map (fun q => ((q.2.1 k).2.2.2))) = some false) {g' : mS} (hg : sPutI g o (k : Int) z = g') (kk : mX M d Qa cb sb (pc + 3) L S g') : mX M d Qa cb sb pc L (vI z :: vR (some o) :: S) g := by
  intro p l e R s m args below meth c Q base tb dC dI F E H locs cells slots ls hH hS hL hc hs
  subst hg
  obtain ⟨q, hq, hkN, hw⟩ := hf
  obtain ⟨q', hq', cell, q1, q2, q3, q4⟩ := hH.obj ho hk
  obtain rfl : q' = q := Option.some.inj (hq'.symm.trans hq)
  have hKn := F.2.2.2.2.2.2.2.1.1.1 ci _ hq
  obtain ⟨hSl, hfc, kC, hkC, hkind⟩ := hKn
  obtain ⟨cf, kf, fi, f, hi, hsl⟩ := hSl k hkN
  have hts := F.2.2.2.2.1
  have hap := va_apart (own := (mName M).cls) hts (mUws hq) (mTy ci) (mTyOk hq) (mNmOk hq) F.2.2.2.2.2.2.2.1.1 hq
  have hlay := hts _ (mUws hq _ (u_in_lay hkN))
  rw [hq] at hfin
  have hfin := Option.some.inj hfin
  simp only [] at hfin
  unfold u_lay at hlay
  have hst := (u_facts hfc hkC (u_lays hts (mUws hq) hkN) hi).1
  have hty := mTyOk hq k hkN
  rw [if_neg (by rw [hfin]; decide)] at hlay
  have h6 := u_store (v := mC base tb (vI z)) hfc hkC hkind hlay hi hty (by rw [ht]; rfl) (by rw [ht]; rfl)
  refine W.putK F.1 F.2.1 (f := f) ⟨F.2.2.2.1, F.go hw, ⟨_, _, _, hi⟩, hst⟩ (by rw [q2]; exact h6) q1 q3 (by rw [hsl]; exact k2_hasslot (q4 k hkN)) rfl rfl (F.dec hd) fun H' e1 e2 e3 => ?_
  rw [hsl] at e1 ⊢
  exact kk p l e R s m args below meth c Q base tb dC dI F E H' _ cells slots ls (hH.putO ho hk hq hkN hap (mBut_I g o k z) q1 q2 q3 q4 (by rw [ht]; exact mPut_I base g o k z) e1 e2 e3) (hS.put e2 e3 (Nat.le_add_right _ _)) hL hc hs
theorem x_putZ (j : Nat) {idx o ci k : Nat} {z : Int} (hd : (mTab M)[j]? = some (pc, .putfield idx, 3)) (hf : mFL (mName M).cls idx ci k) (ho : o < sN g) (hk : sK g o = .inl ci) (ht : mTy ci k = .boolean) (hz : z = 0 ∨ z = 1) (hfin : (vwCl[ci]?.map (fun q => ((q.2.1 k).2.2.2))) = some false) {g' : mS} (hg : sPutI g o (k : Int) z = g') (kk : mX M d Qa cb sb (pc + 3) L S g') : mX M d Qa cb sb pc L (vI z :: vR (some o) :: S) g := by
  intro p l e R s m args below meth c Q base tb dC dI F E H locs cells slots ls hH hS hL hc hs
  subst hg
  obtain ⟨q, hq, hkN, hw⟩ := hf
  obtain ⟨q', hq', cell, q1, q2, q3, q4⟩ := hH.obj ho hk
  obtain rfl : q' = q := Option.some.inj (hq'.symm.trans hq)
  have hKn := F.2.2.2.2.2.2.2.1.1.1 ci _ hq
  obtain ⟨hSl, hfc, kC, hkC, hkind⟩ := hKn
  obtain ⟨cf, kf, fi, f, hi, hsl⟩ := hSl k hkN
  have hts := F.2.2.2.2.1
  have hap := va_apart (own := (mName M).cls) hts (mUws hq) (mTy ci) (mTyOk hq) (mNmOk hq) F.2.2.2.2.2.2.2.1.1 hq
  have hlay := hts _ (mUws hq _ (u_in_lay hkN))
  rw [hq] at hfin
  have hfin := Option.some.inj hfin
  simp only [] at hfin
  unfold u_lay at hlay
  have hst := (u_facts hfc hkC (u_lays hts (mUws hq) hkN) hi).1
  have hty := mTyOk hq k hkN
  rw [if_neg (by rw [hfin]; decide)] at hlay
  have h6 := u_store (v := mC base tb (vI z)) hfc hkC hkind hlay hi hty (by rw [ht]; exact mNarZ hz) (by rw [ht]; rcases hz with rfl | rfl <;> rfl)
  refine W.putK F.1 F.2.1 (f := f) ⟨F.2.2.2.1, F.go hw, ⟨_, _, _, hi⟩, hst⟩ (by rw [q2]; exact h6) q1 q3 (by rw [hsl]; exact k2_hasslot (q4 k hkN)) rfl rfl (F.dec hd) fun H' e1 e2 e3 => ?_
  rw [hsl] at e1 ⊢
  exact kk p l e R s m args below meth c Q base tb dC dI F E H' _ cells slots ls (hH.putO ho hk hq hkN hap (mBut_I g o k z) q1 q2 q3 q4 (by rw [ht]; exact mPut_I base g o k z) e1 e2 e3) (hS.put e2 e3 (Nat.le_add_right _ _)) hL hc hs
theorem x_putL (j : Nat) {idx o ci k : Nat} {z : BitVec 64} (hd : (mTab M)[j]? = some (pc, .putfield idx, 3)) (hf : mFL (mName M).cls idx ci k) (ho : o < sN g) (hk : sK g o = .inl ci) (ht : mTy ci k = .long) (hfin : (vwCl[ci]?.map (fun q => ((q.2.1 k).2.2.2))) = some false) {g' : mS} (hg : sPutL g o (k : Int) z = g') (kk : mX M d Qa cb sb (pc + 3) L S g') : mX M d Qa cb sb pc L (vL z :: vR (some o) :: S) g := by
  intro p l e R s m args below meth c Q base tb dC dI F E H locs cells slots ls hH hS hL hc hs
  subst hg
  obtain ⟨q, hq, hkN, hw⟩ := hf
  obtain ⟨q', hq', cell, q1, q2, q3, q4⟩ := hH.obj ho hk
  obtain rfl : q' = q := Option.some.inj (hq'.symm.trans hq)
  have hKn := F.2.2.2.2.2.2.2.1.1.1 ci _ hq
  obtain ⟨hSl, hfc, kC, hkC, hkind⟩ := hKn
  obtain ⟨cf, kf, fi, f, hi, hsl⟩ := hSl k hkN
  have hts := F.2.2.2.2.1
  have hap := va_apart (own := (mName M).cls) hts (mUws hq) (mTy ci) (mTyOk hq) (mNmOk hq) F.2.2.2.2.2.2.2.1.1 hq
  have hlay := hts _ (mUws hq _ (u_in_lay hkN))
  rw [hq] at hfin
  have hfin := Option.some.inj hfin
  simp only [] at hfin
  unfold u_lay at hlay
  have hst := (u_facts hfc hkC (u_lays hts (mUws hq) hkN) hi).1
  have hty := mTyOk hq k hkN
  rw [if_neg (by rw [hfin]; decide)] at hlay
  have h6 := u_store (v := mC base tb (vL z)) hfc hkC hkind hlay hi hty (by rw [ht]; rfl) (by rw [ht]; rfl)
  refine W.putK F.1 F.2.1 (f := f) ⟨F.2.2.2.1, F.go hw, ⟨_, _, _, hi⟩, hst⟩ (by rw [q2]; exact h6) q1 q3 (by rw [hsl]; exact k2_hasslot (q4 k hkN)) rfl rfl (F.dec hd) fun H' e1 e2 e3 => ?_
  rw [hsl] at e1 ⊢
  exact kk p l e R s m args below meth c Q base tb dC dI F E H' _ cells slots ls (hH.putO ho hk hq hkN hap (mBut_L g o k z) q1 q2 q3 q4 (by rw [ht]; exact mPut_L base g o k z) e1 e2 e3) (hS.put e2 e3 (Nat.le_add_right _ _)) hL hc hs
theorem x_putF (j : Nat) {idx o ci k : Nat} {z : Nat} (hd : (mTab M)[j]? = some (pc, .putfield idx, 3)) (hf : mFL (mName M).cls idx ci k) (ho : o < sN g) (hk : sK g o = .inl ci) (ht : mTc (mTy ci k) = 2) (hn : ∀ a : Nat, narrow (mTy ci k) (.ref a) = .ref a ∧ fits (mTy ci k) (.ref a) = true) (hfin : (vwCl[ci]?.map (fun q => ((q.2.1 k).2.2.2, (q.2.1 k).1, M.1.name))) = some (true, (mName M).cls, "<init>")) {g' : mS} (hg : sPutR g o (k : Int) (some z) = g') (kk : mX M d Qa cb sb (pc + 3) L S g') : mX M d Qa cb sb pc L (vR (some z) :: vR (some o) :: S) g := by
  intro p l e R s m args below meth c Q base tb dC dI F E H locs cells slots ls hH hS hL hc hs
  subst hg
  obtain ⟨q, hq, hkN, hw⟩ := hf
  obtain ⟨q', hq', cell, q1, q2, q3, q4⟩ := hH.obj ho hk
  obtain rfl : q' = q := Option.some.inj (hq'.symm.trans hq)
  have hKn := F.2.2.2.2.2.2.2.1.1.1 ci _ hq
  obtain ⟨hSl, hfc, kC, hkC, hkind⟩ := hKn
  obtain ⟨cf, kf, fi, f, hi, hsl⟩ := hSl k hkN
  have hts := F.2.2.2.2.1
  have hap := va_apart (own := (mName M).cls) hts (mUws hq) (mTy ci) (mTyOk hq) (mNmOk hq) F.2.2.2.2.2.2.2.1.1 hq
  have hlay := hts _ (mUws hq _ (u_in_lay hkN))
  rw [hq] at hfin
  have hfin := Option.some.inj hfin
  simp only [] at hfin
  unfold u_lay at hlay
  have hst := (u_facts hfc hkC (u_lays hts (mUws hq) hkN) hi).1
  have hty := mTyOk hq k hkN
  have hf1 : (q'.2.1 k).2.2.2 = true := congrArg Prod.fst hfin
  have hf2 : (q'.2.1 k).1 = (mName M).cls := congrArg (fun x => x.2.1) hfin
  have hf3 : (mName M).name = "<init>" := congrArg (fun x => x.2.2) hfin
  rw [if_pos hf1] at hlay
  have hcf : m.cls = cf := by
    obtain ⟨_, _, c', _, _, _, -, -, hf', -, -, -, hown2, -⟩ := Cond.laysFinal_spec hlay
    have e1 : c' = cf := by have := hi.symm.trans hf'; simp at this; exact this.1.symm
    rw [hf2] at hown2
    rw [← e1]; exact Option.some.inj (F.2.2.2.1.symm.trans hown2)
  have h6 := u_fits (v := mC base tb (vR (some z))) hfc hkC hkind (Or.inr hlay) hi hty (hn _).1 (hn _).2
  have hin : meth.name = "<init>" := by rw [← hf3]; exact F.2.2.2.2.2.2.2.2.2.2.1
  refine W.putFinK F.1 F.2.1 F.2.2.2.1 (F.go hw) hi hst hcf hin (by rw [q2]; exact h6) q1 q3 (by rw [hsl]; exact k2_hasslot (q4 k hkN)) rfl rfl (F.dec hd) fun H' e1 e2 e3 => ?_
  rw [hsl] at e1 ⊢
  exact kk p l e R s m args below meth c Q base tb dC dI F E H' _ cells slots ls (hH.putO ho hk hq hkN hap (mBut_R g o k (some z)) q1 q2 q3 q4 (by rw [ht]; exact mPut_R base g o k (some z)) e1 e2 e3) (hS.put e2 e3 (Nat.le_add_right _ _)) hL hc hs
theorem x_new (j : Nat) {idx ci : Nat} {q : vw_C} (hd : (mTab M)[j]? = some (pc, .new idx, 3)) (hq : vwCl[ci]? = some q) (hcl : Cond.classLink (mName M).cls idx q.1 ∈ mGood) (hin : Cond.instantiable q.1 q.2.2 ∈ mGood) (hini : Cond.initialized q.1 ∈ mGood) {cb' sb' : Nat} (hcb : cb = cb' + 1) (hsb : sb = sb' + q.2.2) {g' : mS} (hg : sNew g (.inl ci) = g') (kk : mX M d Qa cb' sb' (pc + 3) L (vR (some (sN g)) :: S) g') : mX M d Qa cb sb pc L S g := by
  intro p l e R s m args below meth c Q base tb dC dI F E H locs cells slots ls hH hS hL hc hs
  subst hg; subst hcb; subst hsb
  have hKn := F.2.2.2.2.2.2.2.1.1.1 ci _ hq
  refine W.newcK F.1 F.2.1 F.2.2.2.1 (F.go hcl) (F.go hin) (F.go hini) rfl (F.dec hd) (by omega) (by omega) hKn.2.1 hH.1 fun H' kC hkC e1 e2 e3 => ?_
  refine kk p l e R s m args below meth c Q base tb dC dI F E H' _ _ _ ls ⟨by rw [e2]; rfl, fun a ha => ?_⟩ ⟨Nat.le_trans hS.1 (by rw [e2, hH.1]; omega), fun x h1 h2 => ?_, hS.2.2⟩ hL (by omega) (by omega)
  · by_cases hao : a = sN g
    · subst hao
      unfold mCell
      have hk : sK (sNew g (.inl ci)) (sN g) = .inl ci := by simp [sK, sNew]
      rw [hk]
      refine ⟨q, hq, (u_born (mTy ci) F.2.2.2.2.1 (mUws hq) hKn hkC e1 (mTyOk hq)).to (fun k hkN => ?_)⟩
      refine (mNew_def g _ base k _ ?_ ?_).symm
      · intro h
        cases h9 : mTy ci k <;> rw [h9] at h <;> first | exact Or.inl rfl | exact Or.inr rfl | cases h
      · intro h
        have hb : ∀ k, k < q.2.2 → mTc (mTy ci k) = 2 → defaultValue (mTy ci k) = .null := mCl_all (P := fun ci q => ∀ k, k < q.2.2 → mTc (mTy ci k) = 2 → defaultValue (mTy ci k) = .null) (by decide) (by decide) (by decide) (by decide) (by decide) (by decide) (by decide) (by decide) (by decide) hq
        exact hb k hkN h
    · have ha' : a < sN g := by
        have : a < sN g + 1 := ha
        omega
      exact (hH.2 a ha').old hao (e3 _ (by omega))
  · rw [e3 x (Nat.lt_of_lt_of_le h1 (by rw [← hH.1]; exact hS.1))]
    exact hS.2.1 x h1 h2
theorem x_newa (j : Nat) {atype : ArrayType} {t n : Nat} {z : Int} (hd : (mTab M)[j]? = some (pc, .newarray atype, 2)) (ht : newarray.typeOf atype = mAT t) (ht3 : t < 3) (hw : Cond.arrayClass (newarray.typeOf atype) ∈ mGood) (hz : z = (n : Int)) (hn : n < 65536) {cb' sb' : Nat} (hcb : cb = cb' + 1) (hsb : sb = sb' + n) {g' : mS} (hg : sNew g (.inr (t, n)) = g') (kk : mX M d Qa cb' sb' (pc + 2) L (vR (some (sN g)) :: S) g') : mX M d Qa cb sb pc L (vI z :: S) g := by
  intro p l e R s m args below meth c Q base tb dC dI F E H locs cells slots ls hH hS hL hc hs
  subst hg; subst hcb; subst hsb; subst hz
  have hcmp : componentBytes (newarray.typeOf atype) ≤ 8 := by cases atype <;> decide
  refine va_newaK (n := Int32.ofInt (n : Int)) (N := n) F.1 F.2.1 (F.go hw) rfl (F.dec hd) rfl (by rw [show (0 : Int32) = Int32.ofInt 0 from rfl, mI_lt ⟨by omega, by omega⟩ mR0]; omega) (by rw [mI_nat ⟨by omega, by omega⟩ (by omega)]; rfl) (Nat.le_trans (Nat.mul_le_mul (Nat.le_of_lt hn) hcmp) (by decide)) (by omega) (by omega) hH.1 fun H' cA e1 e2 e3 r1 r2 => ?_
  refine kk p l e R s m args below meth c Q base tb dC dI F E H' _ _ _ ls ⟨by rw [e2]; rfl, fun a ha => ?_⟩ ⟨Nat.le_trans hS.1 (by rw [e2, hH.1]; omega), fun x h1 h2 => ?_, hS.2.2⟩ hL (by omega) (by omega)
  · by_cases hao : a = sN g
    · subst hao
      unfold mCell
      have hk : sK (sNew g (.inr (t, n))) (sN g) = .inr (t, n) := by simp [sK, sNew]
      rw [hk]
      rw [ht] at r1 r2 e1
      refine ⟨cA, r1, ?_, ?_⟩
      · match t, ht3 with
        | 0, _ => exact r2
        | 1, _ => exact r2
        | 2, _ => exact r2
      · rw [e1]
        congr 2
        funext k
        match t, ht3 with
        | 0, _ => exact (mNew_def g _ base k .int (fun _ => Or.inl rfl) (fun h => by cases h)).symm
        | 1, _ => exact (mNew_def g _ base k .long (fun h => by cases h) (fun h => by cases h)).symm
        | 2, _ => exact (mNew_def g _ base k .boolean (fun _ => Or.inr rfl) (fun h => by cases h)).symm
    · have ha' : a < sN g := by
        have : a < sN g + 1 := ha
        omega
      exact (hH.2 a ha').old hao (e3 _ (by omega))
  · rw [e3 x (Nat.lt_of_lt_of_le h1 (by rw [← hH.1]; exact hS.1))]
    exact hS.2.1 x h1 h2
theorem x_newq5 (j : Nat) {idx n : Nat} {z : Int} (hd : (mTab M)[j]? = some (pc, .anewarray idx, 3)) (hcl : Cond.classLink (mName M).cls idx RX5 ∈ mGood) (hz : z = (n : Int)) (hn : n < 65536) {cb' sb' : Nat} (hcb : cb = cb' + 1) (hsb : sb = sb' + n) {g' : mS} (hg : sNew g (.inr (3, n)) = g') (kk : mX M d Qa cb' sb' (pc + 3) L (vR (some (sN g)) :: S) g') : mX M d Qa cb sb pc L (vI z :: S) g := by
  intro p l e R s m args below meth c Q base tb dC dI F E H locs cells slots ls hH hS hL hc hs
  subst hg; subst hcb; subst hsb; subst hz
  have hnn : (Int32.ofInt (n : Int)).toNatClampNeg = n := by rw [mI_nat ⟨by omega, by omega⟩ (by omega)]; rfl
  refine W.anew (n := Int32.ofInt (n : Int)) F.1 F.2.1 F.2.2.2.1 (F.go hcl) (va_AO.use F.2.2.2.2.2.2.2.1.2.2.2.1) rfl (F.dec hd) rfl (by rw [show (0 : Int32) = Int32.ofInt 0 from rfl, mI_lt ⟨by omega, by omega⟩ mR0]; omega) (by rw [hnn]; omega) (by omega) (by rw [hnn]; omega) fun cA kA comp f1 f2 f3 f4 => ?_
  rw [hnn]
  generalize hH1 : H.push ({ cls := cA, slots := Array.replicate n .null, vm := .none } : Cell) = H1
  have e2 : H1.size = H.size + 1 := by rw [← hH1, Array.size_push]
  have e1 : H1[H.size]? = some (arrV cA n (fun _ => .null)) := by rw [← hH1, Array.getElem?_push_size, ← arrV_new]
  have e3 : ∀ q : Nat, q < H.size → H1[q]? = H[q]? := fun q hq => by rw [← hH1, Array.getElem?_push, if_neg (Nat.ne_of_lt hq)]
  have r1 : ArrOfT s cA (.object RX5) := fun N z => ⟨(fun k h => by cases h), kA, f2, comp, f3⟩
  rw [show (Value.ref H.size :: List.map (mC base tb) S) = List.map (mC base tb) (vR (some (sN g)) :: S) by rw [hH.1]; rfl]
  refine kk p l e R s m args below meth c Q base tb dC dI F E H1 _ _ _ ls ⟨by rw [e2, hH.1]; rfl, fun a ha => ?_⟩ ⟨Nat.le_trans hS.1 (by rw [e2]; omega), fun x h1 h2 => ?_, hS.2.2⟩ hL (by omega) (by omega)
  · by_cases hao : a = sN g
    · subst hao
      unfold mCell
      have hk : sK (sNew g (.inr (3, n))) (sN g) = .inr (3, n) := by simp [sK, sNew]
      rw [hk]
      refine ⟨cA, r1, ⟨kA, comp, f2, f3, f4, f1⟩, ?_⟩
      rw [← hH.1, e1]
      congr 2
      funext k
      show _ = mVal base 2 _ _ _
      rw [mVal2]
      simp [sR, sNew, mRv]
    · have ha' : a < sN g := by
        have : a < sN g + 1 := ha
        omega
      exact (hH.2 a ha').old hao (e3 _ (hH.lt ha'))
  · rw [e3 x (Nat.lt_of_lt_of_le h1 hS.1)]
    exact hS.2.1 x h1 h2
theorem x_newq0 (j : Nat) {idx n : Nat} {z : Int} (hd : (mTab M)[j]? = some (pc, .anewarray idx, 3)) (hcl : Cond.classLink (mName M).cls idx RX0 ∈ mGood) (hz : z = (n : Int)) (hn : n < 65536) {cb' sb' : Nat} (hcb : cb = cb' + 1) (hsb : sb = sb' + n) {g' : mS} (hg : sNew g (.inr (4, n)) = g') (kk : mX M d Qa cb' sb' (pc + 3) L (vR (some (sN g)) :: S) g') : mX M d Qa cb sb pc L (vI z :: S) g := by
  intro p l e R s m args below meth c Q base tb dC dI F E H locs cells slots ls hH hS hL hc hs
  subst hg; subst hcb; subst hsb; subst hz
  have hnn : (Int32.ofInt (n : Int)).toNatClampNeg = n := by rw [mI_nat ⟨by omega, by omega⟩ (by omega)]; rfl
  refine W.anew (n := Int32.ofInt (n : Int)) F.1 F.2.1 F.2.2.2.1 (F.go hcl) (va_AO.use F.2.2.2.2.2.2.2.1.2.2.2.2) rfl (F.dec hd) rfl (by rw [show (0 : Int32) = Int32.ofInt 0 from rfl, mI_lt ⟨by omega, by omega⟩ mR0]; omega) (by rw [hnn]; omega) (by omega) (by rw [hnn]; omega) fun cA kA comp f1 f2 f3 f4 => ?_
  rw [hnn]
  generalize hH1 : H.push ({ cls := cA, slots := Array.replicate n .null, vm := .none } : Cell) = H1
  have e2 : H1.size = H.size + 1 := by rw [← hH1, Array.size_push]
  have e1 : H1[H.size]? = some (arrV cA n (fun _ => .null)) := by rw [← hH1, Array.getElem?_push_size, ← arrV_new]
  have e3 : ∀ q : Nat, q < H.size → H1[q]? = H[q]? := fun q hq => by rw [← hH1, Array.getElem?_push, if_neg (Nat.ne_of_lt hq)]
  have r1 : ArrOfT s cA (.object RX0) := fun N z => ⟨(fun k h => by cases h), kA, f2, comp, f3⟩
  rw [show (Value.ref H.size :: List.map (mC base tb) S) = List.map (mC base tb) (vR (some (sN g)) :: S) by rw [hH.1]; rfl]
  refine kk p l e R s m args below meth c Q base tb dC dI F E H1 _ _ _ ls ⟨by rw [e2, hH.1]; rfl, fun a ha => ?_⟩ ⟨Nat.le_trans hS.1 (by rw [e2]; omega), fun x h1 h2 => ?_, hS.2.2⟩ hL (by omega) (by omega)
  · by_cases hao : a = sN g
    · subst hao
      unfold mCell
      have hk : sK (sNew g (.inr (4, n))) (sN g) = .inr (4, n) := by simp [sK, sNew]
      rw [hk]
      refine ⟨cA, r1, ⟨kA, comp, f2, f3, f4, f1⟩, ?_⟩
      rw [← hH.1, e1]
      congr 2
      funext k
      show _ = mVal base 2 _ _ _
      rw [mVal2]
      simp [sR, sNew, mRv]
    · have ha' : a < sN g := by
        have : a < sN g + 1 := ha
        omega
      exact (hH.2 a ha').old hao (e3 _ (hH.lt ha'))
  · rw [e3 x (Nat.lt_of_lt_of_le h1 hS.1)]
    exact hS.2.1 x h1 h2
theorem x_iald (j : Nat) {o n : Nat} {i : Int} {z : Int} (hd : (mTab M)[j]? = some (pc, .iaload, 1)) (ho : o < sN g) (hk : sK g o = .inr (0, n)) (hi : 0 ≤ i ∧ i < n ∧ i < 2147483648) (hz : sI g o i = z) (kk : mX M d Qa cb sb (pc + 1) L (vI z :: S) g) : mX M d Qa cb sb pc L (vI i :: vR (some o) :: S) g := by
  intro p l e R s m args below meth c Q base tb dC dI F E H locs cells slots ls hH hS hL hc hs
  obtain ⟨i', rfl⟩ : ∃ i' : Nat, i = (i' : Int) := ⟨i.toNat, by omega⟩
  obtain ⟨cA, r1, r2, q1⟩ := hH.arr ho hk
  have hin := mI_in (n := n) hi.1 hi.2.1 ⟨by omega, hi.2.2⟩
  have hnn : (Int32.ofInt (i' : Int)).toNatClampNeg = i' := mI_nat ⟨by omega, hi.2.2⟩ hi.1
  refine W.iald (j := Int32.ofInt (i' : Int)) (v := mC base tb (vI z)) F.1 F.2.1 q1 (r1 n _) (fun q => by cases q) (by rw [arrV_size]; exact hin) ?_ rfl rfl (F.dec hd) (kk p l e R s m args below meth c Q base tb dC dI F E H locs cells slots ls hH hS hL hc hs)
  rw [hnn, arrV_read _ _ (by omega)]
  show some (mVal base 0 g o i') = _; rw [mVal0, hz]; rfl
theorem x_zald (j : Nat) {o n : Nat} {i : Int} {z : Int} (hd : (mTab M)[j]? = some (pc, .baload, 1)) (ho : o < sN g) (hk : sK g o = .inr (2, n)) (hi : 0 ≤ i ∧ i < n ∧ i < 2147483648) (hz : sI g o i = z) (kk : mX M d Qa cb sb (pc + 1) L (vI z :: S) g) : mX M d Qa cb sb pc L (vI i :: vR (some o) :: S) g := by
  intro p l e R s m args below meth c Q base tb dC dI F E H locs cells slots ls hH hS hL hc hs
  obtain ⟨i', rfl⟩ : ∃ i' : Nat, i = (i' : Int) := ⟨i.toNat, by omega⟩
  obtain ⟨cA, r1, r2, q1⟩ := hH.arr ho hk
  have hin := mI_in (n := n) hi.1 hi.2.1 ⟨by omega, hi.2.2⟩
  have hnn : (Int32.ofInt (i' : Int)).toNatClampNeg = i' := mI_nat ⟨by omega, hi.2.2⟩ hi.1
  refine W.zald (j := Int32.ofInt (i' : Int)) (v := mC base tb (vI z)) F.1 F.2.1 q1 (r1 n _) (fun q => by cases q) (by rw [arrV_size]; exact hin) ?_ rfl rfl (F.dec hd) (kk p l e R s m args below meth c Q base tb dC dI F E H locs cells slots ls hH hS hL hc hs)
  rw [hnn, arrV_read _ _ (by omega)]
  show some (mVal base 0 g o i') = _; rw [mVal0, hz]; rfl
theorem x_lald (j : Nat) {o n : Nat} {i : Int} {z : BitVec 64} (hd : (mTab M)[j]? = some (pc, .laload, 1)) (ho : o < sN g) (hk : sK g o = .inr (1, n)) (hi : 0 ≤ i ∧ i < n ∧ i < 2147483648) (hz : sL g o i = z) (kk : mX M d Qa cb sb (pc + 1) L (vL z :: S) g) : mX M d Qa cb sb pc L (vI i :: vR (some o) :: S) g := by
  intro p l e R s m args below meth c Q base tb dC dI F E H locs cells slots ls hH hS hL hc hs
  obtain ⟨i', rfl⟩ : ∃ i' : Nat, i = (i' : Int) := ⟨i.toNat, by omega⟩
  obtain ⟨cA, r1, r2, q1⟩ := hH.arr ho hk
  have hin := mI_in (n := n) hi.1 hi.2.1 ⟨by omega, hi.2.2⟩
  have hnn : (Int32.ofInt (i' : Int)).toNatClampNeg = i' := mI_nat ⟨by omega, hi.2.2⟩ hi.1
  refine W.lald (j := Int32.ofInt (i' : Int)) (v := mC base tb (vL z)) F.1 F.2.1 q1 (r1 n _) (fun q => by cases q) (by rw [arrV_size]; exact hin) ?_ rfl rfl (F.dec hd) (kk p l e R s m args below meth c Q base tb dC dI F E H locs cells slots ls hH hS hL hc hs)
  rw [hnn, arrV_read _ _ (by omega)]
  show some (mVal base 1 g o i') = _; rw [mVal1, hz]; rfl
theorem x_aald (j : Nat) {o n : Nat} {i : Int} {t z : Nat} (hd : (mTab M)[j]? = some (pc, .aaload, 1)) (ho : o < sN g) (hk : sK g o = .inr (t, n)) (hi : 0 ≤ i ∧ i < n ∧ i < 2147483648) (ht : (mAT t).isReference = true ∧ mTc (mAT t) = 2) (hz : sR g o i = some z) (kk : mX M d Qa cb sb (pc + 1) L (vR (some z) :: S) g) : mX M d Qa cb sb pc L (vI i :: vR (some o) :: S) g := by
  intro p l e R s m args below meth c Q base tb dC dI F E H locs cells slots ls hH hS hL hc hs
  obtain ⟨i', rfl⟩ : ∃ i' : Nat, i = (i' : Int) := ⟨i.toNat, by omega⟩
  obtain ⟨cA, r1, r2, q1⟩ := hH.arr ho hk
  have hin := mI_in (n := n) hi.1 hi.2.1 ⟨by omega, hi.2.2⟩
  have hnn : (Int32.ofInt (i' : Int)).toNatClampNeg = i' := mI_nat ⟨by omega, hi.2.2⟩ hi.1
  refine W.aald (j := Int32.ofInt (i' : Int)) (v := mC base tb (vR (some z))) F.1 F.2.1 q1 (r1 n _) ht.1 (fun q => by cases q) (by rw [arrV_size]; exact hin) ?_ rfl rfl (F.dec hd) (kk p l e R s m args below meth c Q base tb dC dI F E H locs cells slots ls hH hS hL hc hs)
  rw [hnn, arrV_read _ _ (by omega)]
  rw [ht.2, mVal2, hz]; rfl
theorem x_iast (j : Nat) {o n : Nat} {i : Int} {z : Int} (hd : (mTab M)[j]? = some (pc, .iastore, 1)) (ho : o < sN g) (hk : sK g o = .inr (0, n)) (hi : 0 ≤ i ∧ i < n ∧ i < 2147483648) {g' : mS} (hg : sPutI g o i z = g') (kk : mX M d Qa cb sb (pc + 1) L S g') : mX M d Qa cb sb pc L (vI z :: vI i :: vR (some o) :: S) g := by
  intro p l e R s m args below meth c Q base tb dC dI F E H locs cells slots ls hH hS hL hc hs
  subst hg
  obtain ⟨i', rfl⟩ : ∃ i' : Nat, i = (i' : Int) := ⟨i.toNat, by omega⟩
  obtain ⟨cA, r1, r2, q1⟩ := hH.arr ho hk
  have hin := mI_in (n := n) hi.1 hi.2.1 ⟨by omega, hi.2.2⟩
  have hnn : (Int32.ofInt (i' : Int)).toNatClampNeg = i' := mI_nat ⟨by omega, hi.2.2⟩ hi.1
  refine W.iast (j := Int32.ofInt (i' : Int)) F.1 F.2.1 q1 (r1 n _) (fun q => by cases q) (by rw [arrV_size]; exact hin) rfl rfl (F.dec hd) fun H' e1 e2 e3 => ?_
  rw [hnn] at e1 ⊢
  
  exact kk p l e R s m args below meth c Q base tb dC dI F E H' _ cells slots ls (hH.putA ho hk (mBut_I g o i' z) r1 r2 (mPut_I base g o i' z) e1 e2 e3) (hS.put e2 e3 (Nat.le_add_right _ _)) hL hc hs
theorem x_last (j : Nat) {o n : Nat} {i : Int} {z : BitVec 64} (hd : (mTab M)[j]? = some (pc, .lastore, 1)) (ho : o < sN g) (hk : sK g o = .inr (1, n)) (hi : 0 ≤ i ∧ i < n ∧ i < 2147483648) {g' : mS} (hg : sPutL g o i z = g') (kk : mX M d Qa cb sb (pc + 1) L S g') : mX M d Qa cb sb pc L (vL z :: vI i :: vR (some o) :: S) g := by
  intro p l e R s m args below meth c Q base tb dC dI F E H locs cells slots ls hH hS hL hc hs
  subst hg
  obtain ⟨i', rfl⟩ : ∃ i' : Nat, i = (i' : Int) := ⟨i.toNat, by omega⟩
  obtain ⟨cA, r1, r2, q1⟩ := hH.arr ho hk
  have hin := mI_in (n := n) hi.1 hi.2.1 ⟨by omega, hi.2.2⟩
  have hnn : (Int32.ofInt (i' : Int)).toNatClampNeg = i' := mI_nat ⟨by omega, hi.2.2⟩ hi.1
  refine W.last (j := Int32.ofInt (i' : Int)) F.1 F.2.1 q1 (r1 n _) (fun q => by cases q) (by rw [arrV_size]; exact hin) rfl rfl (F.dec hd) fun H' e1 e2 e3 => ?_
  rw [hnn] at e1 ⊢
  
  exact kk p l e R s m args below meth c Q base tb dC dI F E H' _ cells slots ls (hH.putA ho hk (mBut_L g o i' z) r1 r2 (mPut_L base g o i' z) e1 e2 e3) (hS.put e2 e3 (Nat.le_add_right _ _)) hL hc hs
theorem x_zast (j : Nat) {o n : Nat} {i : Int} {z : Int} (hd : (mTab M)[j]? = some (pc, .bastore, 1)) (ho : o < sN g) (hk : sK g o = .inr (2, n)) (hi : 0 ≤ i ∧ i < n ∧ i < 2147483648) (hb : z = 0 ∨ z = 1) {g' : mS} (hg : sPutI g o i z = g') (kk : mX M d Qa cb sb (pc + 1) L S g') : mX M d Qa cb sb pc L (vI z :: vI i :: vR (some o) :: S) g := by
  intro p l e R s m args below meth c Q base tb dC dI F E H locs cells slots ls hH hS hL hc hs
  subst hg
  obtain ⟨i', rfl⟩ : ∃ i' : Nat, i = (i' : Int) := ⟨i.toNat, by omega⟩
  obtain ⟨cA, r1, r2, q1⟩ := hH.arr ho hk
  have hin := mI_in (n := n) hi.1 hi.2.1 ⟨by omega, hi.2.2⟩
  have hnn : (Int32.ofInt (i' : Int)).toNatClampNeg = i' := mI_nat ⟨by omega, hi.2.2⟩ hi.1
  refine W.zast (j := Int32.ofInt (i' : Int)) F.1 F.2.1 q1 (r1 n _) (fun q => by cases q) (by rw [arrV_size]; exact hin) rfl rfl (F.dec hd) fun H' e1 e2 e3 => ?_
  rw [hnn] at e1 ⊢
  try rw [show narrow .boolean (.int (Int32.ofInt z)) = .int (Int32.ofInt z) from mNarZ hb] at e1
  exact kk p l e R s m args below meth c Q base tb dC dI F E H' _ cells slots ls (hH.putA ho hk (mBut_I g o i' z) r1 r2 (mPut_I base g o i' z) e1 e2 e3) (hS.put e2 e3 (Nat.le_add_right _ _)) hL hc hs
theorem x_aast (j : Nat) {o n t ci w : Nat} {i : Int} {r : vw_C} (hd : (mTab M)[j]? = some (pc, .aastore, 1)) (ho : o < sN g) (hk : sK g o = .inr (t, n)) (ht : mAT t = .object r.1) (hc' : vwCl[ci]? = some r) (hw : w < sN g) (hwk : sK g w = .inl ci) (hi : 0 ≤ i ∧ i < n ∧ i < 2147483648) {g' : mS} (hg : sPutR g o i (some w) = g') (kk : mX M d Qa cb sb (pc + 1) L S g') : mX M d Qa cb sb pc L (vR (some w) :: vI i :: vR (some o) :: S) g := by
  intro p l e R s m args below meth c Q base tb dC dI F E H locs cells slots ls hH hS hL hc hs
  subst hg
  obtain ⟨i', rfl⟩ : ∃ i' : Nat, i = (i' : Int) := ⟨i.toNat, by omega⟩
  obtain ⟨cA, r1, r2, q1⟩ := hH.arr ho hk
  obtain ⟨r', hr', cellV, g1, g2, g3, -⟩ := hH.obj hw hwk
  have hin := mI_in (n := n) hi.1 hi.2.1 ⟨by omega, hi.2.2⟩
  have hnn : (Int32.ofInt (i' : Int)).toNatClampNeg = i' := mI_nat ⟨by omega, hi.2.2⟩ hi.1
  have hcls := (F.2.2.2.2.2.2.2.1.1.1 ci r hc').2
  have r2' := r2
  rw [ht] at r2'
  obtain ⟨kA, comp, k1, k2, k3, -⟩ := r2'
  have hcomp : comp = dC ci := Option.some.inj (k3.symm.trans hcls.1)
  subst hcomp
  obtain ⟨kC, hkC, -⟩ := hcls.2
  refine W.aast (j := Int32.ofInt (i' : Int)) F.1 F.2.1 q1 (fun q h => by cases h) (fun h => by cases h) k1 k2 rfl hkC ⟨fun q => hin (Or.inl q), by rw [arrV_size, hnn]; omega⟩ g1 (fun q h => by rw [g3] at h; cases h) (by rw [g2]; exact hkC) (by rw [g2]; exact va_assign hcls) rfl rfl (F.dec hd) fun H' e1 e2 e3 => ?_
  rw [hnn] at e1 ⊢
  exact kk p l e R s m args below meth c Q base tb dC dI F E H' _ cells slots ls (hH.putA ho hk (mBut_R g o i' (some w)) r1 r2 (by rw [ht]; exact mPut_R base g o i' (some w)) e1 e2 e3) (hS.put e2 e3 (Nat.le_add_right _ _)) hL hc hs
theorem x_gets (j : Nat) {idx t : Nat} (hd : (mTab M)[j]? = some (pc, .getstatic idx, 3)) (ht : t < 4) (hw : Cond.fieldLink (mName M).cls idx (mTN t).1 (mTN t).2 "[I" ∈ mGood) (kk : mX M d Qa cb sb (pc + 3) L (vT t :: S) g) : mX M d Qa cb sb pc L S g := by
  intro p l e R s m args below meth c Q base tb dC dI F E H locs cells slots ls hH hS hL hc hs
  exact va_gets F.1 F.2.1 (F.2.2.2.2.2.2.2.1.2.1 t ht).1 hS F.2.2.2.1 (F.go hw) (fun _ h => h) (F.dec hd) (kk p l e R s m args below meth c Q base tb dC dI F E H locs cells slots ls hH hS hL hc hs)
theorem x_getsN (j : Nat) {idx t : Nat} (hd : (mTab M)[j]? = some (pc, .getstatic idx, 3)) (ht : t < 4) (hw : Cond.fieldLinkNest (mName M).cls idx (mTN t).1 (mTN t).2 "[I" "ChoirBook" ∈ mNest) (kk : mX M d Qa cb sb (pc + 3) L (vT t :: S) g) : mX M d Qa cb sb pc L S g := by
  intro p l e R s m args below meth c Q base tb dC dI F E H locs cells slots ls hH hS hL hc hs
  exact va_getsN F.1 F.2.1 (F.2.2.2.2.2.2.2.1.2.1 t ht).1 hS F.2.2.2.1 (va_Nw.use rfl (F.2.2.2.2.2.2.2.1.2.2.1 _ hw)) (fun _ h => h) (F.dec hd) (kk p l e R s m args below meth c Q base tb dC dI F E H locs cells slots ls hH hS hL hc hs)
theorem x_tald (j : Nat) {t : Nat} {i z : Int} (hd : (mTab M)[j]? = some (pc, .iaload, 1)) (ht : t < 4) (hi : 0 ≤ i ∧ i < 4) (hz : mTF t i.toNat = z) (kk : mX M d Qa cb sb (pc + 1) L (vI z :: S) g) : mX M d Qa cb sb pc L (vI i :: vT t :: S) g := by
  intro p l e R s m args below meth c Q base tb dC dI F E H locs cells slots ls hH hS hL hc hs
  have hin := mI_in (n := 4) hi.1 (by omega) ⟨by omega, by omega⟩
  have hnn := mI_nat (a := i) ⟨by omega, by omega⟩ hi.1
  exact va_ti F.1 F.2.1 (F.2.2.2.2.2.2.2.1.2.1 t ht).2 hS (i := Int32.ofInt i) hin (v := mI z) (by rw [hnn, hz]) (F.dec hd) (kk p l e R s m args below meth c Q base tb dC dI F E H locs cells slots ls hH hS hL hc hs)
end MO
