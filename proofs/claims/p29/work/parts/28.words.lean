variable {nn : Nat} {bb : Bool}
/-! reading a text, in words -/
/-- where, value, digits, start, first, words (the last one first) -/
abbrev gT : Type := Int × Int × Int × Int × Int × List wT
def gClose (can : Int) (s : gT) : gT := (s.1, s.2.1, s.2.2.1, s.2.2.2.1, s.2.2.2.2.1, (if s.1 = 3 then s.2.2.2.2.1 else s.2.1, s.2.1, can) :: s.2.2.2.2.2)
def gWhere (w : Int) (s : gT) : gT := (w, s.2)
def gStands (hi : Int) (s : gT) : Prop := s.2.1 ≤ hi ∧ (s.1 = 1 ∨ s.2.2.2.2.1 ≤ s.2.1)
noncomputable def gStep (sg hi code pos : Int) (s : gT) : gT ⊕ (Int × Int) := by
  classical exact
  (if s.1 = 1 ∨ s.1 = 3 then
    (if 48 ≤ code ∧ code ≤ 57 then (if s.2.2.1 = 2 then .inr (1, pos) else .inl (s.1, s.2.1 * 10 + code - 48, 2, s.2.2.2))
    else if ¬ gStands hi s then .inr (2, s.2.2.2.1)
    else if code = 32 then .inl (gWhere 0 (gClose 1 s))
    else if code = 33 ∧ sg ≠ 0 then .inl (gWhere 4 (gClose 0 s))
    else if code = 45 ∧ sg ≠ 0 ∧ s.1 = 1 then .inl (2, s.2.1, s.2.2.1, s.2.2.2.1, s.2.1, s.2.2.2.2.2)
    else .inr (1, pos))
  else if (48 ≤ code ∧ code ≤ 57) ∧ s.1 ≠ 4 then .inl (if s.1 = 2 then 3 else 1, code - 48, 1, pos, s.2.2.2.2)
  else if code = 32 ∧ s.1 ≠ 2 then .inl (gWhere 0 s)
  else .inr (1, pos))
noncomputable def gEnd (hi len : Int) (s : gT) : gT ⊕ (Int × Int) := by
  classical exact
  (if s.1 = 2 then .inr (3, len) else if ¬ (s.1 = 1 ∨ s.1 = 3) then .inl s else if ¬ gStands hi s then .inr (2, s.2.2.2.1) else .inl (gClose 1 s))
noncomputable def gRun (sg hi : Int) (f : Int → Int) : Nat → gT ⊕ (Int × Int)
  | 0 => .inl (0, 0, 0, 0, 0, [])
  | n + 1 => match gRun sg hi f n with
    | .inl s => gStep sg hi (f n) n s
    | .inr e => .inr e
noncomputable def gRead (sg hi : Int) (f : Int → Int) (len : Int) : gT ⊕ (Int × Int) := match gRun sg hi f len.toNat with
  | .inl s => gEnd hi len s
  | .inr e => .inr e
def okG (hi : Int) (s : gT) : Prop := (0 ≤ s.1 ∧ s.1 ≤ 4) ∧ ((s.1 = 1 ∨ s.1 = 3) → 0 ≤ s.2.1 ∧ s.2.1 ≤ 99 ∧ 1 ≤ s.2.2.1 ∧ s.2.2.1 ≤ 2 ∧ (s.2.2.1 = 1 → s.2.1 ≤ 9)) ∧ ((s.1 = 2 ∨ s.1 = 3) → 0 ≤ s.2.2.2.2.1 ∧ s.2.2.2.2.1 ≤ hi) ∧ okWs hi s.2.2.2.2.2
theorem okWs_c {hi : Int} {w : wT} {r : List wT} (hw : 0 ≤ w.1 ∧ w.1 ≤ w.2.1 ∧ w.2.1 ≤ hi ∧ (w.2.2 = 0 ∨ w.2.2 = 1)) (hr : okWs hi r) : okWs hi (w :: r) := by
  intro v hv
  rcases List.mem_cons.mp hv with rfl | hv
  · exact hw
  · exact hr v hv
theorem okG_step {sg hi code pos : Int} {s s' : gT} (h : okG hi s) (hs : gStep sg hi code pos s = .inl s') : okG hi s' := by
  obtain ⟨w, v, d, st, f, ws⟩ := s
  unfold okG at h
  simp only at h
  obtain ⟨h1, h2, h3, h4⟩ := h
  unfold gStep gStands gWhere gClose at hs
  simp only at hs
  unfold okG
  split at hs
  · rename_i q0
    have h2 := h2 q0
    split at hs
    · split at hs
      · cases hs
      · cases hs; simp only; exact ⟨h1, fun _ => by omega, h3, h4⟩
    · split at hs
      · cases hs
      · rename_i q1
        have q1 := Classical.not_not.mp q1
        have hc : ∀ can : Int, can = 0 ∨ can = 1 → okWs hi ((if w = 3 then f else v, v, can) :: ws) := by
          intro can hcan
          refine okWs_c ?_ h4
          simp only
          split
          · have := h3 (by omega); omega
          · omega
        split at hs
        · cases hs; simp only; exact ⟨by omega, fun q => by omega, fun q => by omega, hc 1 (Or.inr rfl)⟩
        · split at hs
          · cases hs; simp only; exact ⟨by omega, fun q => by omega, fun q => by omega, hc 0 (Or.inl rfl)⟩
          · split at hs
            · cases hs; simp only; exact ⟨by omega, fun q => by omega, fun q => by omega, h4⟩
            · cases hs
  · split at hs
    · cases hs
      simp only
      refine ⟨by split <;> omega, fun _ => by omega, fun q => ?_, h4⟩
      by_cases q2 : w = 2
      · exact h3 (Or.inl q2)
      · rw [if_neg q2] at q; omega
    · split at hs
      · cases hs; simp only; exact ⟨by omega, fun q => by omega, fun q => by omega, h4⟩
      · cases hs
theorem okG_run {sg hi : Int} {f : Int → Int} {n : Nat} {s : gT} (h : gRun sg hi f n = .inl s) : okG hi s := by
  induction n generalizing s with
  | zero =>
    cases h
    refine ⟨by simp only; omega, fun q => by simp only at q; omega, fun q => by simp only at q; omega, fun v hv => absurd hv List.not_mem_nil⟩
  | succ n ih =>
    cases hr : gRun sg hi f n with
    | inl s0 =>
      have : gRun sg hi f (n + 1) = gStep sg hi (f n) n s0 := by unfold gRun; rw [hr]
      rw [this] at h
      exact okG_step (ih hr) h
    | inr e =>
      have : gRun sg hi f (n + 1) = .inr e := by unfold gRun; rw [hr]
      rw [this] at h
      cases h
theorem okG_read {sg hi : Int} {f : Int → Int} {len : Int} {s : gT} (h : gRead sg hi f len = .inl s) : okWs hi s.2.2.2.2.2 := by
  unfold gRead at h
  cases hr : gRun sg hi f len.toNat with
  | inr e => rw [hr] at h; cases h
  | inl s0 =>
    rw [hr] at h
    obtain ⟨w, v, d, st, f, ws⟩ := s0
    obtain ⟨h1, h2, h3, h4⟩ := okG_run hr
    simp only at h1 h2 h3 h4 h
    unfold gEnd gStands gClose at h
    simp only at h
    split at h
    · cases h
    · split at h
      · cases h; exact h4
      · rename_i q0
        have q0 := Classical.not_not.mp q0
        have h2 := h2 q0
        split at h
        · cases h
        · rename_i q1
          have q1 := Classical.not_not.mp q1
          cases h
          refine okWs_c ?_ h4
          by_cases q3 : w = 3
          · have := h3 (by omega)
            simp only [if_pos q3]
            exact ⟨by omega, by omega, by omega, Or.inr trivial⟩
          · simp only [if_neg q3]
            exact ⟨by omega, by omega, by omega, Or.inr trivial⟩
/-- the class's reader does the same, with sets of bits -/
def simG (T0 S0 : BitVec 64) (s : cS) (g : gT) : Prop := s.1 = g.1 ∧ ((g.1 = 1 ∨ g.1 = 3) → s.2.1 = g.2.1 ∧ s.2.2.1 = g.2.2.1 ∧ s.2.2.2.1 = g.2.2.2.1) ∧ ((g.1 = 2 ∨ g.1 = 3) → s.2.2.2.2.1 = g.2.2.2.2.1) ∧ s.2.2.2.2.2.1 = tT T0 g.2.2.2.2.2 ∧ s.2.2.2.2.2.2 = tS S0 g.2.2.2.2.2
def simR (T0 S0 : BitVec 64) : cS ⊕ (Int × Int) → gT ⊕ (Int × Int) → Prop
  | .inl s, .inl g => simG T0 S0 s g
  | .inr e, .inr e' => e = e'
  | _, _ => False
theorem sim_step {T0 S0 : BitVec 64} {sg hi code pos : Int} {s : cS} {g : gT} (h : simG T0 S0 s g) : simR T0 S0 (cStep sg hi code pos s) (gStep sg hi code pos g) := by
  obtain ⟨w, v, d, st, f, T, S⟩ := s
  obtain ⟨w', v', d', st', f', ws⟩ := g
  obtain ⟨h1, h2, h3, h4, h5⟩ := h
  simp only at h1 h2 h3 h4 h5
  subst h1 h4 h5
  unfold cStep gStep cStands gStands cWhere gWhere cClose gClose
  simp only
  by_cases q0 : w = 1 ∨ w = 3
  · obtain ⟨rfl, rfl, rfl⟩ := h2 q0
    simp only [if_pos q0]
    by_cases q1 : 48 ≤ code ∧ code ≤ 57
    · simp only [if_pos q1]
      by_cases q2 : d = 2
      · simp only [if_pos q2]; rfl
      · simp only [if_neg q2]; exact ⟨rfl, fun _ => ⟨rfl, rfl, rfl⟩, h3, rfl, rfl⟩
    · simp only [if_neg q1]
      have e : (v ≤ hi ∧ (w = 1 ∨ f ≤ v)) ↔ (v ≤ hi ∧ (w = 1 ∨ f' ≤ v)) := by
        rcases q0 with rfl | rfl
        · simp
        · rw [h3 (Or.inr rfl)]
      by_cases q2 : v ≤ hi ∧ (w = 1 ∨ f' ≤ v)
      · simp only [if_neg (Classical.not_not.mpr (e.mpr q2)), if_neg (Classical.not_not.mpr q2)]
        have ew : (if w = 3 then f else v) = (if w = 3 then f' else v) := by
          by_cases q3 : w = 3
          · rw [if_pos q3, if_pos q3]; exact h3 (Or.inr q3)
          · rw [if_neg q3, if_neg q3]
        by_cases q3 : code = 32
        · simp only [if_pos q3]
          refine ⟨rfl, fun q => by simp only at q; omega, fun q => by simp only at q; omega, ?_, ?_⟩
          · show _ ||| _ = tT T0 ws ||| _; simp only [ew]
          · show _ = (if (1 : Int) = 1 then tS S0 ws ||| wBits (if w = 3 then f' else v) v else tS S0 ws &&& (wBits (if w = 3 then f' else v) v ^^^ -1)); simp only [ew, if_true]
        · simp only [if_neg q3]
          by_cases q4 : code = 33 ∧ sg ≠ 0
          · simp only [if_pos q4]
            refine ⟨rfl, fun q => by simp only at q; omega, fun q => by simp only at q; omega, ?_, ?_⟩
            · show _ ||| _ = tT T0 ws ||| _; simp only [ew]
            · show _ = (if (0 : Int) = 1 then tS S0 ws ||| wBits (if w = 3 then f' else v) v else tS S0 ws &&& (wBits (if w = 3 then f' else v) v ^^^ -1)); simp only [ew]; simp
          · simp only [if_neg q4]
            by_cases q5 : code = 45 ∧ sg ≠ 0 ∧ w = 1
            · simp only [if_pos q5]; exact ⟨rfl, fun q => by simp only at q; omega, fun _ => rfl, rfl, rfl⟩
            · simp only [if_neg q5]; rfl
      · simp only [if_pos (fun q => q2 (e.mp q)), if_pos q2]; rfl
  · simp only [if_neg q0]
    by_cases q1 : (48 ≤ code ∧ code ≤ 57) ∧ w ≠ 4
    · simp only [if_pos q1]
      refine ⟨rfl, fun _ => ⟨rfl, rfl, rfl⟩, fun q => ?_, rfl, rfl⟩
      simp only at q ⊢
      by_cases q2 : w = 2
      · exact h3 (Or.inl q2)
      · rw [if_neg q2] at q; omega
    · simp only [if_neg q1]
      by_cases q2 : code = 32 ∧ w ≠ 2
      · simp only [if_pos q2]; exact ⟨rfl, fun q => by simp only at q; omega, fun q => by simp only at q; omega, rfl, rfl⟩
      · simp only [if_neg q2]; rfl
theorem sim_run {T0 S0 : BitVec 64} {sg hi : Int} {f : Int → Int} {s0 : cS} (h0 : s0.1 = 0) (hT : s0.2.2.2.2.2.1 = T0) (hS : s0.2.2.2.2.2.2 = S0) (n : Nat) : simR T0 S0 (cRun sg hi f s0 n) (gRun sg hi f n) := by
  induction n with
  | zero => exact ⟨h0, fun q => by simp only at q; omega, fun q => by simp only at q; omega, hT, hS⟩
  | succ n ih =>
    unfold cRun gRun
    cases hc : cRun sg hi f s0 n with
    | inl s =>
      cases hg : gRun sg hi f n with
      | inl g => rw [hc, hg] at ih; exact sim_step ih
      | inr e => rw [hc, hg] at ih; exact ih.elim
    | inr e =>
      cases hg : gRun sg hi f n with
      | inl g => rw [hc, hg] at ih; exact ih.elim
      | inr e' => rw [hc, hg] at ih; exact ih
theorem sim_read {T0 S0 : BitVec 64} {sg hi : Int} {f : Int → Int} {s0 : cS} {len : Int} (h0 : s0.1 = 0) (hT : s0.2.2.2.2.2.1 = T0) (hS : s0.2.2.2.2.2.2 = S0) : match cRead sg hi f s0 len with
    | .inl s => ∃ g, gRead sg hi f len = .inl g ∧ s.2.2.2.2.2.1 = tT T0 g.2.2.2.2.2 ∧ s.2.2.2.2.2.2 = tS S0 g.2.2.2.2.2
    | .inr e => gRead sg hi f len = .inr e := by
  have h := sim_run (sg := sg) (hi := hi) (f := f) h0 hT hS len.toNat
  unfold cRead gRead
  cases hc : cRun sg hi f s0 len.toNat with
  | inr e =>
    cases hg : gRun sg hi f len.toNat with
    | inl g => rw [hc, hg] at h; exact h.elim
    | inr e' => rw [hc, hg] at h; have h : e = e' := h; rw [h]
  | inl s =>
    cases hg : gRun sg hi f len.toNat with
    | inr e' => rw [hc, hg] at h; exact h.elim
    | inl g =>
      rw [hc, hg] at h
      obtain ⟨w, v, d, st, f, T, S⟩ := s
      obtain ⟨w', v', d', st', f', ws⟩ := g
      obtain ⟨h1, h2, h3, h4, h5⟩ := h
      simp only at h1 h2 h3 h4 h5
      subst h1 h4 h5
      show match cEnd hi len (w, v, d, st, f, tT T0 ws, tS S0 ws) with
        | .inl s => ∃ g, gEnd hi len (w, v', d', st', f', ws) = .inl g ∧ s.2.2.2.2.2.1 = tT T0 g.2.2.2.2.2 ∧ s.2.2.2.2.2.2 = tS S0 g.2.2.2.2.2
        | .inr e => gEnd hi len (w, v', d', st', f', ws) = .inr e
      unfold cEnd gEnd cStands gStands cClose gClose
      simp only
      by_cases q2 : w = 2
      · simp only [if_pos q2]
      · simp only [if_neg q2]
        by_cases q0 : w = 1 ∨ w = 3
        · obtain ⟨rfl, rfl, rfl⟩ := h2 q0
          simp only [if_neg (Classical.not_not.mpr q0)]
          have e : (v ≤ hi ∧ (w = 1 ∨ f ≤ v)) ↔ (v ≤ hi ∧ (w = 1 ∨ f' ≤ v)) := by
            rcases q0 with rfl | rfl
            · simp
            · rw [h3 (Or.inr rfl)]
          by_cases q3 : v ≤ hi ∧ (w = 1 ∨ f' ≤ v)
          · simp only [if_neg (Classical.not_not.mpr (e.mpr q3)), if_neg (Classical.not_not.mpr q3)]
            have ew : (if w = 3 then f else v) = (if w = 3 then f' else v) := by
              by_cases q3 : w = 3
              · rw [if_pos q3, if_pos q3]; exact h3 (Or.inr q3)
              · rw [if_neg q3, if_neg q3]
            refine ⟨_, rfl, ?_, ?_⟩
            · show _ ||| _ = tT T0 ws ||| _; simp only [ew]
            · show _ = (if (1 : Int) = 1 then tS S0 ws ||| wBits (if w = 3 then f' else v) v else tS S0 ws &&& (wBits (if w = 3 then f' else v) v ^^^ -1)); simp only [ew, if_true]
          · simp only [if_pos (fun q => q3 (e.mp q)), if_pos q3]
        · simp only [if_pos q0]
          exact ⟨_, rfl, rfl, rfl⟩
