/-! the two books side by side: what holds between calls -/
def okT (B : bT) : Prop := okB B.1 B.2.1 B.2.2.1 B.2.2.2.1 B.2.2.2.2.1 B.2.2.2.2.2.1 B.2.2.2.2.2.2.1
theorem okW_cv {W W' : Int → Int} (hW : okW W) (h : ∀ x, 0 ≤ x → x < 652 → W' x = W x) : okW W' := by
  have hN := hW.n
  obtain ⟨h1, h2, h3, h4, h5⟩ := hW
  unfold okW
  rw [h 11 (by omega) (by omega), h 4 (by omega) (by omega), h 9 (by omega) (by omega), h 10 (by omega) (by omega), h 0 (by omega) (by omega), h 1 (by omega) (by omega), h 2 (by omega) (by omega), h 3 (by omega) (by omega)]
  refine ⟨h1, fun p p0 p1 => ?_, fun x x0 x1 => ?_, fun s s0 s1 => ?_, fun s s0 s1 => ?_⟩
  · rw [h _ (by omega) (by omega)]; exact h2 p p0 p1
  · rw [h _ (by omega) (by omega)]; exact h3 x x0 x1
  · exact (h4 s s0 s1).cv (fun k k0 k1 => h _ (by omega) (by omega))
  · have e : ∀ k, 0 ≤ k → k < 48 → sV W' s k = sV W s k := fun k k0 k1 => h _ (by omega) (by omega)
    rw [e 4 (by omega) (by omega), e 6 (by omega) (by omega), e 5 (by omega) (by omega)]
    exact h5 s s0 s1
theorem relC_cv {i : Nat → Int → Int} {l : Nat → Int → BitVec 64} {c : Nat} {W W' : Int → Int} (hr : relC i l c W) (hW : okW W) (h : ∀ x, 0 ≤ x → x < 652 → W' x = W x) : relC i l c W' := by
  have hN := hW.n
  obtain ⟨h1, h2, h3, h4, h5⟩ := hr
  unfold relC
  rw [h 11 (by omega) (by omega), h 4 (by omega) (by omega), h 9 (by omega) (by omega), h 10 (by omega) (by omega), h 0 (by omega) (by omega), h 1 (by omega) (by omega), h 2 (by omega) (by omega), h 3 (by omega) (by omega)]
  refine ⟨h1, h2, fun p p0 p1 => ?_, fun x x0 x1 => ?_, fun s s0 s1 => ?_⟩
  · rw [h _ (by omega) (by omega)]; exact h3 p p0 p1
  · rw [h _ (by omega) (by omega)]; exact h4 x x0 x1
  · exact (h5 s s0 s1).cv (fun k k0 k1 => h _ (by omega) (by omega))
theorem okT_eq {A B : bT} (hB : okT B) (he : eqB A B) : okT A := by
  obtain ⟨b1, b2, b3, b4, b5, b6⟩ := hB
  obtain ⟨e1, e2, e3, e4, e5, e6, e7, e8⟩ := he
  refine ⟨okW_cv b1 e1, by rw [e2]; exact b2, fun j j0 j1 => ?_, fun m m0 m1 hk => ?_, by rw [e5]; exact b5, fun k k0 k1 => ?_⟩
  · rw [e2] at j1
    exact okW_cv (b3 j j0 j1) (e3 j j0 j1)
  · obtain ⟨q1, q2⟩ := e4 m m0 m1
    rw [q1] at hk
    exact okW_cv (b4 m m0 m1 hk) (q2 hk)
  · rw [e5] at k1
    rw [e6 k k0 k1]
    exact b6 k k0 k1
theorem RelT_eq {i : Nat → Int → Int} {l : Nat → Int → BitVec 64} {A B : bT} (hR : RelT i l B) (hB : okT B) (he : eqB A B) : RelT i l A := by
  obtain ⟨b1, b2, b3, b4, b5, b6⟩ := hB
  obtain ⟨e1, e2, e3, e4, e5, e6, e7, e8⟩ := he
  obtain ⟨r1, r2, r3, r4, r5, r6, r7⟩ := hR
  refine ⟨relC_cv r1 b1 e1, by rw [e2]; exact r2, fun j j0 j1 => ?_, fun m m0 m1 => ⟨?_, fun hk => ?_⟩, ⟨by rw [e5]; exact r5.1, fun k k0 k1 => ?_⟩, by rw [e7, e8]; exact r6, r7⟩
  · rw [e2] at j1
    exact relC_cv (r3 j j0 j1) (b3 j j0 j1) (e3 j j0 j1)
  · rw [(e4 m m0 m1).1]
    exact (r4 m m0 m1).1
  · obtain ⟨q1, q2⟩ := e4 m m0 m1
    rw [q1] at hk
    exact relC_cv ((r4 m m0 m1).2 hk) (b4 m m0 m1 hk) (q2 hk)
  · rw [e5] at k1
    rw [e6 k k0 k1]
    exact r5.2 k k0 k1
/-- what holds between calls -/
def jB (i : Nat → Int → Int) (l : Nat → Int → BitVec 64) : Prop := RelT i l (abB i) ∧ okT (abB i) ∧ 0 ≤ i 189 4 ∧ i 189 4 ≤ 3
theorem jB.B {i : Nat → Int → Int} {l : Nat → Int → BitVec 64} (h : jB i l) : okB (i 190) (i 189 2) (AP i) (AM i) (AK i) (i 193) (i 189 6) := h.2.1
theorem jB.R {i : Nat → Int → Int} {l : Nat → Int → BitVec 64} (h : jB i l) : RelB i l (i 190) (i 189 2) (AP i) (AM i) (AK i) (i 193) (i 189 6) (i 189 7) (i 189 8) := h.1
theorem jB_next {i1 i2 : Nat → Int → Int} {l1 : Nat → Int → BitVec 64} {B : bT} (hok : okT B) (hR : RelT i1 l1 B) (hf : ∀ a b, a < 189 → i2 a b = i1 a b) (he : eqB (abB i2) B) (hF : 0 ≤ i2 189 4 ∧ i2 189 4 ≤ 3) : jB i2 l1 := by
  have hR2 : RelT i2 l1 B := RelB_same hR hok (fun a b ha => hf a b (by omega)) (fun a b _ => rfl) (hf _ _ (by omega)) (hf _ _ (by omega)) (by
    have hz := hR.2.2.2.2.2.2
    unfold PZ at hz ⊢
    rw [hf 184 0 (by omega)]
    exact hz)
  exact ⟨RelT_eq hR2 hok he, okT_eq hok he, hF⟩
theorem ab_eq {i i1 : Nat → Int → Int} (hf : ∀ a b, 189 ≤ a → i1 a b = i a b) : i1 190 = i 190 ∧ i1 189 2 = i 189 2 ∧ AP i1 = AP i ∧ AM i1 = AM i ∧ AK i1 = AK i ∧ i1 193 = i 193 ∧ i1 189 6 = i 189 6 ∧ i1 189 7 = i 189 7 ∧ i1 189 8 = i 189 8 ∧ i1 189 4 = i 189 4 := by
  refine ⟨?_, hf _ _ (by omega), ?_, ?_, ?_, ?_, hf _ _ (by omega), hf _ _ (by omega), hf _ _ (by omega), hf _ _ (by omega)⟩
  · funext b; exact hf _ _ (by omega)
  · funext j x; exact hf _ _ (by omega)
  · funext m x; exact hf _ _ (by omega)
  · funext m; unfold AK; rw [hf 189 4 (by omega)]
  · funext b; exact hf _ _ (by omega)
section OKS
variable {W : Int → Int} {PN : Int} {P M : Int → Int → Int} {K : Int → Bool} {T : Int → Int} {TN FK FP : Int}
theorem ok_add (hB : okB W PN P M K T TN) (s h : Int) : okT (spAdd s h W PN P M K T TN FK FP).2 := by
  unfold spAdd
  split
  · exact hB
  · split
    · exact hB
    · exact okB_rm hB (okW_add hB.1 (by omega) (by omega) (by omega))
theorem ok_remove (hB : okB W PN P M K T TN) (y : Int) : okT (spRemove y W PN P M K T TN FK FP).2 := by
  unfold spRemove
  split
  · exact hB
  · exact okB_rm hB (okW_rem hB.1 (by omega))
theorem ok_set (hB : okB W PN P M K T TN) (x v : Int) : okT (spSet x v W PN P M K T TN FK FP).2 := by
  unfold spSet
  split
  · exact hB
  · rename_i h
    refine okB_rm hB (okW_set hB.1 ?_)
    have h4 : 0 ≤ x ∧ x < 4 := by omega
    unfold sLo sHi at h
    rcases (show x = 0 ∨ x = 1 ∨ x = 2 ∨ x = 3 by omega) with e | e | e | e <;> subst e <;> simp at h <;> omega
theorem ok_test (hB : okB W PN P M K T TN) (y : Int) : okT (spTest y W PN P M K T TN FK FP).2 := by
  unfold spTest
  split
  · exact hB
  · split
    · exact hB
    · rename_i g hg
      exact okB_rm hB (okW_test hB.1 (by omega) (okG_read hg))
theorem ok_place (hB : okB W PN P M K T TN) (y p : Int) : okT (spPlace y p W PN P M K T TN FK FP).2 := by
  unfold spPlace
  split
  · exact hB
  · split
    · exact hB
    · exact okB_rm hB (okW_part hB.1 (by omega) (by omega))
theorem ok_placeAll (hB : okB W PN P M K T TN) : okT (spPlaceAll W PN P M K T TN FK FP).2 := okB_rm hB (okW_plc hB.1)
theorem ok_attendance (hB : okB W PN P M K T TN) : okT (spAtt W PN P M K T TN FK FP).2 := by
  unfold spAtt
  split
  · exact hB
  · exact okB_rm hB (okW_att hB.1)
theorem ok_hold (hB : okB W PN P M K T TN) : okT (spHold W PN P M K T TN FK FP).2 := by
  unfold spHold
  split
  · exact hB
  · split
    · exact hB
    · exact okB_rm hB (okW_hold hB.1 (by omega))
theorem ok_undo (hB : okB W PN P M K T TN) : okT (spUndo W PN P M K T TN FK FP).2 := by
  unfold spUndo
  split
  · exact hB
  · obtain ⟨b1, b2, b3, b4, b5⟩ := hB
    exact ⟨b3 (PN - 1) (by omega) (by omega), (show 0 ≤ PN - 1 ∧ PN - 1 ≤ 8 by omega), fun j j0 j1 => b3 j j0 (by have : j < PN - 1 := j1; omega), b4, b5⟩
theorem ok_write (hB : okB W PN P M K T TN) (c : Int) : okT (spWrite c W PN P M K T TN FK FP).2 := by
  unfold spWrite
  split
  · exact hB
  · split
    · exact hB
    · obtain ⟨b1, b2, b3, b4, b5, b6⟩ := hB
      refine ⟨b1, b2, b3, b4, (show 0 ≤ TN + 1 ∧ TN + 1 ≤ 60 by omega), fun k k0 k1 => ?_⟩
      have k2 : k < TN + 1 := k1
      show 32 ≤ fU T TN c k ∧ fU T TN c k ≤ 126
      unfold fU
      split
      · omega
      · exact b6 k k0 (by omega)
theorem ok_wipe (hB : okB W PN P M K T TN) : okT (spWipe W PN P M K T TN FK FP).2 := by
  obtain ⟨b1, b2, b3, b4, b5, b6⟩ := hB
  exact ⟨b1, b2, b3, b4, (show (0 : Int) ≤ 0 ∧ (0 : Int) ≤ 60 by omega), fun k k0 k1 => absurd (show k < 0 from k1) (by omega)⟩
theorem ok_ask (hB : okB W PN P M K T TN) (z : Int) : okT (spAsk z W PN P M K T TN FK FP).2 := hB
theorem ok_keep (hB : okB W PN P M K T TN) (m : Int) : okT (spKeep m W PN P M K T TN FK FP).2 := by
  unfold spKeep
  split
  · exact hB
  · obtain ⟨b1, b2, b3, b4, b5⟩ := hB
    refine ⟨b1, b2, b3, fun j j0 j1 hj => ?_, b5⟩
    have hj2 : (if j = m then true else K j) = true := hj
    show okW (if j = m then W else M j)
    by_cases e : j = m
    · rw [if_pos e]; exact b1
    · rw [if_neg e]
      rw [if_neg e] at hj2
      exact b4 j j0 j1 hj2
theorem ok_back (hB : okB W PN P M K T TN) (m : Int) : okT (spBack m W PN P M K T TN FK FP).2 := by
  unfold spBack
  split
  · exact hB
  · split
    · exact hB
    · rename_i h1 h2
      exact okB_rm hB (hB.2.2.2.1 m (by omega) (by omega) (by simpa using h2))
end OKS
