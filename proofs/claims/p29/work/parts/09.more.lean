/-! System.arraycopy of ints from the first place on; the script -/
theorem mAcN : Cond.native arraycopyName ∈ mGood := by decide +kernel
theorem mAcS : Cond.static arraycopyName ∈ mGood := by decide +kernel
theorem mAcI : Cond.initialized "java/lang/System" ∈ mGood := by decide +kernel
theorem mAcW : nativeFrameWords "java/lang/System" "arraycopy" 5 + 11 ≤ 20 := by decide +kernel
def mCp (f : Nat → Int → Int) (o0 o : Nat) (n : Int) : Nat → Int → Int := fun a b => if a = o ∧ 0 ≤ b ∧ b < n then f o0 b else f a b
section MCP
variable {M : mM} {d cb sb pc : Nat} {Qa : Option mV → mS → Prop} {L : List (Option mV)} {S : List mV} {g : mS}
set_option maxHeartbeats 4000000 in
theorem x_copyi (j : Nat) {idx o0 o n0 n1 : Nat} {n : Int} (hd : (mTab M)[j]? = some (pc, .invokestatic idx, 3)) (hl : Cond.methodLink (mName M).cls idx arraycopyName ∈ mGood) (ho0 : o0 < sN g) (hk0 : sK g o0 = .inr (0, n0)) (ho : o < sN g) (hk1 : sK g o = .inr (0, n1)) (hn : 0 ≤ n ∧ n ≤ n0 ∧ n ≤ n1 ∧ n < 2147483648) (hd1 : 1 ≤ d) (h8 : (S.map mCat).sum ≤ 8)
    {g' : mS} (hg : ((sN g, sK g, mCp (sI g) o0 o n, sL g, sR g) : mS) = g') (kk : mX M d Qa cb sb (pc + 3) L S g') : mX M d Qa cb sb pc L (vI n :: vI 0 :: vR (some o) :: vI 0 :: vR (some o0) :: S) g := by
  intro p l e R s m args below meth c Q base tb dC dI F E H locs cells slots ls hH hS hL hc hs
  subst hg
  obtain ⟨n', rfl⟩ : ∃ n' : Nat, n = (n' : Int) := ⟨n.toNat, by omega⟩
  have hS8 : ((S.map (mC base tb)).map fun v => v.category).sum ≤ 8 := by rw [mCatS]; exact h8
  have hfr := F.2.2.2.2.2.1
  have hlo := F.2.2.2.2.2.2.1
  obtain ⟨c0, r1, r2, q0⟩ := hH.arr ho0 hk0
  obtain ⟨c1, s1, s2, q1⟩ := hH.arr ho hk1
  obtain ⟨-, k0, hk0', cm0, hkk0⟩ := r1 n0 (fun k => mVal base 0 g o0 k)
  obtain ⟨-, k1, hk1', cm1, hkk1⟩ := s1 n1 (fun k => mVal base 0 g o k)
  have hnn : (Int32.ofInt (n' : Int)).toNatClampNeg = n' := mI_nat ⟨by omega, hn.2.2.2⟩ (by omega)
  have hz0 : (Int32.ofInt 0).toNatClampNeg = 0 := rfl
  have hni : (Int32.ofInt (n' : Int)).toInt = (n' : Int) := mI_to ⟨by omega, hn.2.2.2⟩
  have hzi : (Int32.ofInt 0).toInt = 0 := rfl
  have hneg : ¬ Int32.ofInt (n' : Int) < 0 := by rw [show (0 : Int32) = Int32.ofInt 0 from rfl, mI_lt ⟨by omega, hn.2.2.2⟩ mR0]; omega
  have hneg0 : ¬ Int32.ofInt 0 < 0 := by decide
  intro T hT X
  obtain ⟨vm', X', step⟩ := X.arraycopy F.1 F.2.2.2.1 (F.go hl) (F.go mAcN) (F.go mAcS) (F.go mAcI) (src := base + o0) (dst := base + o) (cs := arrV c0 n0 (fun k => .int (Int32.ofInt (sI g o0 (k : Int))))) (cd := arrV c1 n1 (fun k => .int (Int32.ofInt (sI g o (k : Int))))) (srcPos := Int32.ofInt 0) (destPos := Int32.ofInt 0) (n := Int32.ofInt (n' : Int)) (by rw [hT]; exact q0) (by rw [hT]; exact q1)
    (fun _ h => by cases h) (fun _ h => by cases h) (fun h => by cases h) (fun h => by cases h) hk0' hk1' hkk0 hkk1 (by rfl) hneg0 hneg0 hneg
    (by rw [hzi, hni, arrV_size]; omega)
    (by rw [hzi, hni, arrV_size]; omega)
    (fun vm₁ _ i hi => by
      rw [hnn] at hi
      have e : (arrV c0 n0 (fun k => .int (Int32.ofInt (sI g o0 (k : Int))))).slots.getD ((Int32.ofInt 0).toNatClampNeg + i) .null = .int (Int32.ofInt (sI g o0 (i : Int))) := by
        rw [hz0, Nat.zero_add, Array.getD_eq_getD_getElem?, arrV_read _ _ (by omega)]
        rfl
      refine ⟨?_, ?_⟩
      · rw [e]
        rfl
      · rw [e]
        exact trivial)
    (g := F0 m pc ls ((vI (n' : Int) :: vI 0 :: vR (some o) :: vI 0 :: vR (some o0) :: S).map (mC base tb))) rfl (by rw [F.2.2.1]; exact hL.1) (rest := S.map (mC base tb)) rfl (by rw [F.2.1]; exact F.dec hd) (by omega) (by show 2 * 0 + _ + _ ≤ _; have := mAcW; omega)
  have e1 : copied (arrV c0 n0 (fun k => .int (Int32.ofInt (sI g o0 (k : Int))))) (arrV c1 n1 (fun k => .int (Int32.ofInt (sI g o (k : Int))))) (Int32.ofInt 0) (Int32.ofInt 0) (Int32.ofInt (n' : Int)) = arrV c1 n1 (fun k => .int (va_cpy (fun k : Nat => Int32.ofInt (sI g o0 (k : Int))) (fun k : Nat => Int32.ofInt (sI g o (k : Int))) 0 0 n' k)) := by
    have := va_copied (fun z => Value.int z) c0 c1 (sp := 0) (dp := 0) (n := n') (n0 := n0) (n1 := n1) (fun k : Nat => Int32.ofInt (sI g o0 (k : Int))) (fun k : Nat => Int32.ofInt (sI g o (k : Int))) (by omega)
    unfold copied
    rw [hnn, hz0]
    exact this
  rw [e1] at X' step
  have hl1 : base + o < H.size := hH.lt ho
  generalize hcell : arrV c1 n1 (fun k => Value.int (va_cpy (fun k : Nat => Int32.ofInt (sI g o0 (k : Int))) (fun k : Nat => Int32.ofInt (sI g o (k : Int))) 0 0 n' k)) = cell at X' step
  have hheap : ((T.setVm vm').setCell (base + o) cell).heap = H.setIfInBounds (base + o) cell := by rw [← hT]; rfl
  have oq : ∀ q : Nat, q ≠ base + o → (H.setIfInBounds (base + o) cell)[q]? = H[q]? := fun q hq => by simp [Array.getElem?_setIfInBounds, Ne.symm hq]
  have e2 : (H.setIfInBounds (base + o) cell)[base + o]? = some cell := by simp [Array.getElem?_setIfInBounds, hl1]
  have hHp : mHp base dC dI s ((sN g, sK g, mCp (sI g) o0 o (n' : Int), sL g, sR g) : mS) (H.setIfInBounds (base + o) cell) := by
    refine ⟨by simp; exact hH.1, fun a ha => ?_⟩
    by_cases hao : a = o
    · subst hao
      unfold mCell
      have hk2 : sK ((sN g, sK g, mCp (sI g) o0 a (n' : Int), sL g, sR g) : mS) a = .inr (0, n1) := hk1
      rw [hk2]
      refine ⟨c1, s1, s2, ?_⟩
      rw [e2, ← hcell]
      congr 2
      funext k
      show _ = mVal base 0 _ _ _
      rw [mVal0]
      simp only [sI, mCp, va_cpy, mI, Nat.zero_le, true_and, Nat.zero_add, Nat.sub_zero]
      by_cases hkn : k < n'
      · rw [if_pos hkn, if_pos ⟨by omega, by omega⟩]
      · rw [if_neg hkn, if_neg (by omega)]
    · refine (hH.2 a ha).kept rfl (oq _ (by omega)) (fun bs cc b => ?_)
      match cc with
      | 0 => rw [mVal0, mVal0]; simp only [sI, mCp]; rw [if_neg (fun q => hao q.1)]
      | 1 => rfl
      | cc + 2 => rfl
  obtain ⟨t, a1, b1⟩ := kk p l e R s m args below meth c Q base tb dC dI F E (H.setIfInBounds (base + o) cell) _ cells slots ls hHp ⟨by simp; exact hS.1, fun q g1 g2 => by
      rw [oq q (fun e => g2 (by rw [e]; exact Nat.le_add_right _ _))]
      exact hS.2.1 q g1 g2, fun q hq => by
      rcases List.mem_append.mp hq with h | h
      · exact hS.2.2 q h
      · obtain ⟨z, -, hz⟩ := List.mem_map.mp h
        rw [← hz]
        exact Nat.le_add_right _ _⟩ hL hc hs _ hheap X'
  exact ⟨t, step t a1, b1⟩
theorem x_sld (j : Nat) {q : Nat × (Nat → Int32)} {i z : Int} (hsc : mScr M = some q) (hd : (mTab M)[j]? = some (pc, .iaload, 1)) (hi : 0 ≤ i ∧ i < q.1 ∧ i < 2147483648) (hz : (q.2 i.toNat).toInt = z) (kk : mX M d Qa cb sb (pc + 1) L (vI z :: S) g) : mX M d Qa cb sb pc L (vI i :: vT 4 :: S) g := by
  intro p l e R s m args below meth c Q base tb dC dI F E H locs cells slots ls hH hS hL hc hs
  have hX := F.2.2.2.2.2.2.2.2.2.2.2 q hsc
  have hin := mI_in (n := q.1) hi.1 hi.2.1 ⟨by omega, hi.2.2⟩
  have hnn := mI_nat (a := i) ⟨by omega, hi.2.2⟩ hi.1
  refine va_sld (i := Int32.ofInt i) F.1 F.2.1 hX.1 hX.2.1 hX.2.2 hS hin (F.dec hd) ?_
  rw [hnn, ← mI_of (q.2 i.toNat), hz]
  exact kk p l e R s m args below meth c Q base tb dC dI F E H locs cells slots ls hH hS hL hc hs
theorem x_slen (j : Nat) {q : Nat × (Nat → Int32)} (hsc : mScr M = some q) (hd : (mTab M)[j]? = some (pc, .arraylength, 1)) (kk : mX M d Qa cb sb (pc + 1) L (vI (q.1 : Int) :: S) g) : mX M d Qa cb sb pc L (vT 4 :: S) g := by
  intro p l e R s m args below meth c Q base tb dC dI F E H locs cells slots ls hH hS hL hc hs
  have hX := F.2.2.2.2.2.2.2.2.2.2.2 q hsc
  exact va_slen F.1 F.2.1 hX.1 hX.2.1 hX.2.2 hS (F.dec hd) (kk p l e R s m args below meth c Q base tb dC dI F E H locs cells slots ls hH hS hL hc hs)
end MCP
