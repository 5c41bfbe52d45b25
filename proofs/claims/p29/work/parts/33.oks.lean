/-! what holds between calls, kept by every call -/
theorem okW.v {W : Int → Int} (h : okW W) {s : Int} (h0 : 0 ≤ s) (h1 : s < W 11) : okV (sV W s) := h.2.2.2.1 s h0 h1
def okT (B : bT) : Prop := okB B.1 B.2.1 B.2.2.1 B.2.2.2.1 B.2.2.2.2.1 B.2.2.2.2.2.1 B.2.2.2.2.2.2.1
section OKS
variable {W : Int → Int} {PN : Int} {P M : Int → Int → Int} {K : Int → Bool} {T : Int → Int} {TN FK FP : Int}
theorem ok_add (hB : okB W PN P M K T TN) (s h : Int) : okT (spAdd s h W PN P M K T TN FK FP).2 := by
  unfold spAdd
  split
  · exact hB
  · split
    · exact hB
    · exact okB_rm hB (okW_add hB.1 (by omega) (by omega) (by omega))
theorem ok_remove (hB : okB W PN P M K T TN) (y : Int) : okT (spRemove y W PN P M K T TN FK FP).2 := by
  unfold spRemove
  split
  · exact hB
  · exact okB_rm hB (okW_rem hB.1 (by omega))
theorem ok_set (hB : okB W PN P M K T TN) (x v : Int) : okT (spSet x v W PN P M K T TN FK FP).2 := by
  unfold spSet
  split
  · exact hB
  · rename_i h
    refine okB_rm hB (okW_set hB.1 ?_)
    have h4 : 0 ≤ x ∧ x < 4 := by omega
    unfold sLo sHi at h
    rcases (show x = 0 ∨ x = 1 ∨ x = 2 ∨ x = 3 by omega) with e | e | e | e <;> subst e <;> simp at h <;> omega
theorem ok_test (hB : okB W PN P M K T TN) (y : Int) : okT (spTest y W PN P M K T TN FK FP).2 := by
  unfold spTest
  split
  · exact hB
  · split
    · exact hB
    · rename_i g hg
      exact okB_rm hB (okW_test hB.1 (by omega) (okG_read hg))
theorem ok_place (hB : okB W PN P M K T TN) (y p : Int) : okT (spPlace y p W PN P M K T TN FK FP).2 := by
  unfold spPlace
  split
  · exact hB
  · split
    · exact hB
    · exact okB_rm hB (okW_part hB.1 (by omega) (by omega))
theorem ok_placeAll (hB : okB W PN P M K T TN) : okT (spPlaceAll W PN P M K T TN FK FP).2 := okB_rm hB (okW_plc hB.1)
theorem ok_attendance (hB : okB W PN P M K T TN) : okT (spAtt W PN P M K T TN FK FP).2 := by
  unfold spAtt
  split
  · exact hB
  · exact okB_rm hB (okW_att hB.1)
theorem ok_hold (hB : okB W PN P M K T TN) : okT (spHold W PN P M K T TN FK FP).2 := by
  unfold spHold
  split
  · exact hB
  · split
    · exact hB
    · exact okB_rm hB (okW_hold hB.1 (by omega))
theorem ok_undo (hB : okB W PN P M K T TN) : okT (spUndo W PN P M K T TN FK FP).2 := by
  unfold spUndo
  split
  · exact hB
  · obtain ⟨b1, b2, b3, b4, b5⟩ := hB
    exact ⟨b3 (PN - 1) (by omega) (by omega), (show 0 ≤ PN - 1 ∧ PN - 1 ≤ 8 by omega), fun j j0 j1 => b3 j j0 (by have : j < PN - 1 := j1; omega), b4, b5⟩
theorem ok_write (hB : okB W PN P M K T TN) (c : Int) : okT (spWrite c W PN P M K T TN FK FP).2 := by
  unfold spWrite
  split
  · exact hB
  · split
    · exact hB
    · obtain ⟨b1, b2, b3, b4, b5, b6⟩ := hB
      refine ⟨b1, b2, b3, b4, (show 0 ≤ TN + 1 ∧ TN + 1 ≤ 60 by omega), fun k k0 k1 => ?_⟩
      have k2 : k < TN + 1 := k1
      show 32 ≤ fU T TN c k ∧ fU T TN c k ≤ 126
      unfold fU
      split
      · omega
      · exact b6 k k0 (by omega)
theorem ok_wipe (hB : okB W PN P M K T TN) : okT (spWipe W PN P M K T TN FK FP).2 := by
  obtain ⟨b1, b2, b3, b4, b5, b6⟩ := hB
  exact ⟨b1, b2, b3, b4, (show (0 : Int) ≤ 0 ∧ (0 : Int) ≤ 60 by omega), fun k k0 k1 => absurd (show k < 0 from k1) (by omega)⟩
theorem ok_ask (hB : okB W PN P M K T TN) (z : Int) : okT (spAsk z W PN P M K T TN FK FP).2 := hB
theorem ok_keep (hB : okB W PN P M K T TN) (m : Int) : okT (spKeep m W PN P M K T TN FK FP).2 := by
  unfold spKeep
  split
  · exact hB
  · obtain ⟨b1, b2, b3, b4, b5⟩ := hB
    refine ⟨b1, b2, b3, fun j j0 j1 hj => ?_, b5⟩
    have hj2 : (if j = m then true else K j) = true := hj
    show okW (if j = m then W else M j)
    by_cases e : j = m
    · rw [if_pos e]; exact b1
    · rw [if_neg e]
      rw [if_neg e] at hj2
      exact b4 j j0 j1 hj2
theorem ok_back (hB : okB W PN P M K T TN) (m : Int) : okT (spBack m W PN P M K T TN FK FP).2 := by
  unfold spBack
  split
  · exact hB
  · split
    · exact hB
    · rename_i h1 h2
      exact okB_rm hB (hB.2.2.2.1 m (by omega) (by omega) (by simpa using h2))
end OKS

