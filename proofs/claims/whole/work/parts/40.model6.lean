/-! the other book reads: its methods -/
theorem gRun_s {sg hi : Int} {f : Int → Int} {s : gT} {x : Int} (h0 : 0 ≤ x) (h : gRun sg hi f x.toNat = .inl s) : gRun sg hi f (x + 1).toNat = gStep sg hi (f x) x s := by
  rw [show (x + 1).toNat = x.toNat + 1 by omega]
  show (match gRun sg hi f x.toNat with | .inl s => gStep sg hi (f (x.toNat : Nat)) (x.toNat : Nat) s | .inr e => .inr e) = _
  rw [h, Int.toNat_of_nonneg h0]
theorem gRun_e {sg hi : Int} {f : Int → Int} {e : Int × Int} {n : Nat} (h : gRun sg hi f n = .inr e) (k : Nat) : gRun sg hi f (n + k) = .inr e := by
  induction k with
  | zero => exact h
  | succ k ih =>
    show (match gRun sg hi f (n + k) with | .inl s => gStep sg hi (f (n + k : Nat)) (n + k : Nat) s | .inr e => .inr e) = _
    rw [ih]
theorem gRead_bad {sg hi : Int} {f : Int → Int} {x n : Int} {e : Int × Int} (h : gRun sg hi f x.toNat = .inr e) (hn : x ≤ n) : gRead sg hi f n = .inr e := by
  have h2 := gRun_e h (n.toNat - x.toNat)
  unfold gRead
  rw [show n.toNat = x.toNat + (n.toNat - x.toNat) by omega, h2]
theorem gRead_end {sg hi : Int} {f : Int → Int} {s : gT} {n : Int} (h : gRun sg hi f n.toNat = .inl s) : gRead sg hi f n = gEnd hi n s := by
  unfold gRead
  rw [h]
theorem simMR_ok {i : Nat → Int → Int} {n : Int} {r : gT ⊕ (Int × Int)} (h : simMR i n r) (hz : i 189 24 = -9) : ∃ s, r = .inl s ∧ simM i s ∧ lenM s n := by
  cases r with
  | inl s => exact ⟨s, rfl, h.2⟩
  | inr e => obtain ⟨h1, h2, h3, h4⟩ := h; omega
theorem simMR_bad {i : Nat → Int → Int} {n : Int} {r : gT ⊕ (Int × Int)} (h : simMR i n r) (hz : i 189 24 ≠ -9) : ∃ e, r = .inr e ∧ i 189 24 = e.1 ∧ i 189 25 = e.2 := by
  cases r with
  | inl s => exact absurd h.1 hz
  | inr e => exact ⟨e, rfl, h.1, h.2.1⟩
theorem simMR_24 {i : Nat → Int → Int} {n : Int} {r : gT ⊕ (Int × Int)} (h : simMR i n r) : -9 ≤ i 189 24 ∧ i 189 24 ≤ 3 := by
  cases r with
  | inl s => have := h.1; omega
  | inr e => obtain ⟨h1, h2, h3, h4⟩ := h; omega
theorem lenM_29 {s : gT} {n : Int} (h : lenM s n) (hn : n ≤ 60) : (s.1 = 1 ∨ s.1 = 3) → s.2.2.2.2.2.length ≤ 29 := by
  intro q
  unfold lenM at h
  rw [if_pos (by omega)] at h
  omega
theorem lenM_30 {s : gT} {n : Int} (h : lenM s n) (hn : n ≤ 60) : s.2.2.2.2.2.length ≤ 30 := by
  unfold lenM at h
  split at h <;> omega
def fH (i i' : Nat → Int → Int) : Prop := ∀ a b, a ≠ 201 → a ≠ 202 → a ≠ 203 → ¬ (a = 189 ∧ (b = 7 ∨ b = 8 ∨ b = 20 ∨ (24 ≤ b ∧ b ≤ 30))) → i' a b = i a b
theorem fH.of {i i' : Nat → Int → Int} (h : fM i i') : fH i i' := fun a b q1 q2 q3 q4 => h a b q1 q2 q3 (by omega)
theorem fH.tr {i i' i'' : Nat → Int → Int} (h : fH i i') (h2 : fH i' i'') : fH i i'' := fun a b q1 q2 q3 q4 => (h2 a b q1 q2 q3 q4).trans (h a b q1 q2 q3 q4)
/-- what a whole reading leaves -/
def hfR (i i' : Nat → Int → Int) (z : Int) : gT ⊕ (Int × Int) → Prop
  | .inl g => z = 0 ∧ i' 189 20 = g.2.2.2.2.2.length ∧ entM i' g.2.2.2.2.2 ∧ g.2.2.2.2.2.length ≤ 30 ∧ i' 189 7 = i 189 7 ∧ i' 189 8 = i 189 8
  | .inr e => z = 1 ∧ i' 189 7 = e.1 ∧ i' 189 8 = e.2
theorem he_res {i i1 i' : Nat → Int → Int} {s : gT} {hi n z : Int} (h : simM i s) (hg : okG hi s) (hl : lenM s n) (hn : n ≤ 60) (hw : i 189 24 = -9) (he : ewR i i1 hi z s)
    (hc : (z = 0 ∧ i' = i1) ∨ (z = 1 ∧ ((i 189 26 = 2 ∧ i' = mU (mU i1 189 24 3) 189 25 n) ∨ (i 189 26 ≠ 2 ∧ i' = mU i1 189 20 (i1 189 20 + (if i 189 26 = 0 then 0 else 1)))))) : match gEnd hi n s with
      | .inl g => i' 189 24 = -9 ∧ i' 189 20 = g.2.2.2.2.2.length ∧ entM i' g.2.2.2.2.2 ∧ g.2.2.2.2.2.length ≤ 30
      | .inr e => i' 189 24 = e.1 ∧ i' 189 25 = e.2 ∧ 1 ≤ e.1 ∧ e.1 ≤ 3 := by
  obtain ⟨w, v, d, st, f, ws⟩ := s
  obtain ⟨h1, h2, h3, h4, h5, h6⟩ := h
  simp only at h1 h2 h3 h4 h5 h6
  have h29 := lenM_29 hl hn
  have h30 := lenM_30 hl hn
  simp only at h29 h30
  rw [h1] at hc
  unfold ewR laid at he
  simp only at he
  unfold gEnd
  simp only
  by_cases q2 : w = 2
  · rw [if_pos q2]
    rcases he with ⟨hz, ⟨_, rfl⟩ | ⟨hq, _⟩⟩ | ⟨_, hq, _⟩
    · rcases hc with ⟨hc, _⟩ | ⟨_, ⟨c1, rfl⟩ | ⟨c1, _⟩⟩
      · omega
      · exact ⟨by simp [mU], by simp [mU], by simp, by simp⟩
      · exact absurd q2 c1
    · omega
    · omega
  · rw [if_neg q2]
    by_cases q0 : w = 1 ∨ w = 3
    · rw [if_neg (show ¬ w = 4 by omega)] at h4
      rw [if_neg (Classical.not_not.mpr q0)]
      rcases he with ⟨hz, ⟨hq, _⟩ | ⟨_, hS, hL1, hL2, hL3, hL4⟩⟩ | ⟨hz, _, hS, rfl⟩
      · exact absurd q0 hq
      · rw [if_neg (Classical.not_not.mpr hS)]
        have e20 : i1 189 20 = ws.length := by rw [hL1 189 20 (by omega)]; exact h4
        have e24 : i1 189 24 = -9 := by rw [hL1 189 24 (by omega)]; exact hw
        have hE1 : entM i1 ws := h6.c (fun a b _ _ hb => hL1 a b (by omega))
        rcases hc with ⟨hc, _⟩ | ⟨_, ⟨c1, _⟩ | ⟨c1, rfl⟩⟩
        · omega
        · exact absurd c1 q2
        · refine ⟨by rw [mUek _ _ _ _ (by omega)]; exact e24, ?_, ?_, ?_⟩
          · rw [mUs, e20, if_neg (show ¬ w = 0 by omega)]; simp [gClose]
          · refine entM.p (ws := ws) (hE1.c (fun a b ha _ hb => ?_)) ?_ ?_ ?_
            · rw [mUne _ _ _ _ _ (by omega)]
            · rw [mUne _ _ _ _ _ (by omega)]; exact hL2
            · rw [mUne _ _ _ _ _ (by omega)]; exact hL3
            · rw [mUne _ _ _ _ _ (by omega)]; exact hL4
          · have := h29 q0; simp [gClose]; omega
      · rw [if_pos hS]
        rcases hc with ⟨_, rfl⟩ | ⟨hc, _⟩
        · exact ⟨by simp [mU], by simp [mU], by simp, by simp⟩
        · omega
    · rw [if_pos q0]
      rcases he with ⟨hz, ⟨_, rfl⟩ | ⟨hq, _⟩⟩ | ⟨_, hq, _⟩
      · rcases hc with ⟨hc, _⟩ | ⟨_, ⟨c1, _⟩ | ⟨c1, rfl⟩⟩
        · omega
        · exact absurd c1 q2
        · refine ⟨by rw [mUek _ _ _ _ (by omega)]; exact hw, ?_, h6.c (fun a b ha _ _ => by rw [mUne _ _ _ _ _ (by omega)]), h30⟩
          rw [mUs, h4]
          simp only
          by_cases q4 : w = 4
          · rw [if_pos q4, if_neg (show ¬ w = 0 by omega)]; omega
          · rw [if_neg q4]
            by_cases q00 : w = 0
            · rw [if_pos q00]; omega
            · have hg1 := hg.1; simp only at hg1; omega
      · exact absurd hq q0
      · exact absurd hq q0
theorem ew_26 {i i' : Nat → Int → Int} {hi z : Int} {s : gT} (h : ewR i i' hi z s) : i' 189 26 = i 189 26 := by
  rcases h with ⟨_, ⟨_, rfl⟩ | ⟨_, _, hl⟩⟩ | ⟨_, _, _, rfl⟩
  · rfl
  · exact hl.1 _ _ (by omega)
  · rw [mUek _ _ _ _ (by omega), mUek _ _ _ _ (by omega)]
theorem ew_20 {i i' : Nat → Int → Int} {hi z : Int} {s : gT} (h : ewR i i' hi z s) (hs : simM i s) : i' 189 20 = i 189 20 ∧ ((s.1 = 1 ∨ s.1 = 3) → i 189 20 = s.2.2.2.2.2.length) ∧ 0 ≤ i 189 20 ∧ i 189 20 ≤ s.2.2.2.2.2.length := by
  obtain ⟨h1, h2, h3, h4, h5, h6⟩ := hs
  refine ⟨?_, fun q => ?_, ?_, ?_⟩
  · rcases h with ⟨_, ⟨_, rfl⟩ | ⟨_, _, hl⟩⟩ | ⟨_, _, _, rfl⟩
    · rfl
    · exact hl.1 _ _ (by omega)
    · rw [mUek _ _ _ _ (by omega), mUek _ _ _ _ (by omega)]
  · rw [h4, if_neg (by omega)]
  · rw [h4]; split
    · have := h5 (by assumption); omega
    · omega
  · rw [h4]; split <;> omega
set_option maxRecDepth 20000 in
set_option maxHeartbeats 2000000 in
theorem r_fails {i : Nat → Int → Int} {l : Nat → Int → BitVec 64} {k p : Int} : mCtr m_X9_fails 1 0 0 [vR (some 189), vI (k), vI (p)] (st i l) (qV (fun i' l' => l' = l ∧ i' = mU (mU i 189 24 k) 189 25 p)) := by
  refine mCtr_of pl_X9 dc_X9_fails (Nat.le_of_ble_eq_true rfl) rfl ?_
  show mX m_X9_fails 1 _ 0 0 0 [some (vR (some 189)), some (vI (k)), some (vI (p))] [] (st i l)
  refine x_aload_n 0 rfl rfl ?_
  refine x_iload_n 1 rfl rfl ?_
  obtain ⟨i1, hi1⟩ : ∃ f, f = mU i 189 24 (k) := ⟨_, rfl⟩
  refine x_putI 2 rfl fl_X9_139 (n_lt rfl) k_189 rfl rfl (g' := st i1 l) (by subst hi1; rfl) ?_
  refine x_aload_n 3 rfl rfl ?_
  refine x_iload_n 4 rfl rfl ?_
  obtain ⟨i2, hi2⟩ : ∃ f, f = mU i1 189 25 (p) := ⟨_, rfl⟩
  refine x_putI 5 rfl fl_X9_142 (n_lt rfl) k_189 rfl rfl (g' := st i2 l) (by subst hi2; rfl) ?_
  refine x_ret 6 none rfl ⟨rfl, rfl⟩ ⟨rfl, i2, l, rfl, ?_⟩
  subst_vars; exact ⟨rfl, rfl⟩
set_option maxRecDepth 20000 in
set_option maxHeartbeats 2000000 in
theorem r_endsWell {i : Nat → Int → Int} {l : Nat → Int → BitVec 64} {s : gT} (hs : simM i s) (hg : okG (i 189 30) s) (hh : -1 ≤ i 189 30 ∧ i 189 30 ≤ 40) (h29 : (s.1 = 1 ∨ s.1 = 3) → s.2.2.2.2.2.length ≤ 29) : mCtr m_X9_endsWell 2 0 0 [vR (some 189)] (st i l) (qW (fun z i' l' => (z = 0 ∨ z = 1) ∧ ewR i i' (i 189 30) z s ∧ l' = l)) := by
  refine mCtr_of pl_X9 dc_X9_endsWell (Nat.le_of_ble_eq_true rfl) rfl ?_
  show mX m_X9_endsWell 2 _ 0 0 0 [some (vR (some 189))] [] (st i l)
  obtain ⟨w, v, d, sta, f, ws⟩ := s
  have hs0 := hs
  obtain ⟨m1, m2, m3, m4, m5, m6⟩ := hs
  have hg0 := hg
  obtain ⟨n1, n2, n3, n4⟩ := hg
  simp only at m1 m2 m3 m4 m5 m6 n1 n2 n3 n4
  have m4w : w ≠ 4 → i 189 20 = ws.length := fun q => by rw [m4, if_neg q]
  have mfw : w = 3 → i 201 (i 189 20) = f := fun q => by rw [m4w (by omega)]; exact (m3 (Or.inr q)).1
  have mcw : w = 3 → i 203 (i 189 20) = 1 := fun q => by rw [m4w (by omega)]; exact (m3 (Or.inr q)).2
  simp only at h29
  refine x_aload_n 0 rfl rfl ?_
  refine x_getI 1 (z := i 189 26) rfl fl_X9_145 (n_lt rfl) k_189 rfl rfl ?_
  refine x_iconst 2 rfl ?_
  refine x_icmp_ne 3 (tgt := 58) rfl (by decide) (by omega) (fun h1 => ?_) (fun h1 => ?_)
  · refine x_aload_n 30 rfl rfl ?_
    refine x_getI 31 (z := i 189 26) rfl fl_X9_145 (n_lt rfl) k_189 rfl rfl ?_
    refine x_iconst 32 rfl ?_
    refine x_icmp_ne 33 (tgt := 109) rfl (by decide) (by omega) (fun h2 => ?_) (fun h2 => ?_)
    · refine x_aload_n 55 rfl rfl ?_
      refine x_getI 56 (z := i 189 26) rfl fl_X9_145 (n_lt rfl) k_189 rfl rfl ?_
      refine x_iconst 57 rfl ?_
      refine x_icmp_eq 58 (tgt := 125) rfl (by decide) (by omega) (fun h3 => absurd h3 (by omega)) (fun h3 => ?_)
      refine x_aload_n 59 rfl rfl ?_
      refine x_getI 60 (z := i 189 26) rfl fl_X9_145 (n_lt rfl) k_189 rfl rfl ?_
      refine x_iconst 61 rfl ?_
      refine x_icmp_ne 62 (tgt := 136) rfl (by decide) (by omega) (fun h4 => ?_) (fun h4 => absurd h4 (by omega))
      refine x_iconst 70 rfl ?_
      refine x_ret 71 (some (vI (1))) rfl ⟨rfl, Or.inr ⟨rfl, by omega⟩⟩ ⟨_, i, l, rfl, rfl, ?_⟩
      first
        | (exact ⟨Or.inr rfl, Or.inl ⟨rfl, Or.inl ⟨by simp only; omega, rfl⟩⟩, rfl⟩)
        | (have q1 : w = 1 := by omega
           have e20 := m4w (by omega)
           rw [e20] at g3
           refine ⟨Or.inr rfl, Or.inl ⟨rfl, Or.inr ⟨Or.inl q1, ?_, ?_, ?_, ?_, ?_⟩⟩, rfl⟩
           · unfold gStands; simp only; omega
           · intro a b q; simp only at q; rw [g3]; simp only [mU]; rw [if_neg (by omega), if_neg (by omega), if_neg (by omega)]
           · simp only; rw [g3, mUne _ _ _ _ _ (by omega), mUne _ _ _ _ _ (by omega), mUs, if_neg (by omega)]; exact (m2 (Or.inl q1)).1
           · simp only; rw [g3, mUne _ _ _ _ _ (by omega), mUs]; exact (m2 (Or.inl q1)).1
           · simp only; rw [g3, mUs])
        | (have q1 : w = 3 := by omega
           have e20 := m4w (by omega)
           have mf := mfw q1
           have mc := mcw q1
           rw [e20] at g4 mf mc
           refine ⟨Or.inr rfl, Or.inl ⟨rfl, Or.inr ⟨Or.inr q1, ?_, ?_, ?_, ?_, ?_⟩⟩, rfl⟩
           · unfold gStands; simp only; have := mfw q1; omega
           · intro a b q; simp only at q; rw [g4]; simp only [mU]; rw [if_neg (by omega)]
           · simp only; rw [g4, mUne _ _ _ _ _ (by omega), if_pos q1]; exact mf
           · simp only; rw [g4, mUs]; exact (m2 (Or.inr q1)).1
           · simp only; rw [g4, mUne _ _ _ _ _ (by omega)]; exact mc)
    · refine x_aload_n 34 rfl rfl ?_
      refine x_getI 35 (z := i 189 27) rfl fl_X9_148 (n_lt rfl) k_189 rfl rfl ?_
      refine x_aload_n 36 rfl rfl ?_
      refine x_getI 37 (z := i 189 30) rfl fl_X9_151 (n_lt rfl) k_189 rfl rfl ?_
      refine x_icmp_gt 38 (tgt := 109) rfl (by decide) (by omega) (fun h5 => ?_) (fun h5 => ?_)
      · refine x_aload_n 55 rfl rfl ?_
        refine x_getI 56 (z := i 189 26) rfl fl_X9_145 (n_lt rfl) k_189 rfl rfl ?_
        refine x_iconst 57 rfl ?_
        refine x_icmp_eq 58 (tgt := 125) rfl (by decide) (by omega) (fun h6 => absurd h6 (by omega)) (fun h6 => ?_)
        refine x_aload_n 59 rfl rfl ?_
        refine x_getI 60 (z := i 189 26) rfl fl_X9_145 (n_lt rfl) k_189 rfl rfl ?_
        refine x_iconst 61 rfl ?_
        refine x_icmp_ne 62 (tgt := 136) rfl (by decide) (by omega) (fun h7 => absurd h7 (by omega)) (fun h7 => ?_)
        refine x_aload_n 63 rfl rfl ?_
        refine x_iconst 64 rfl ?_
        refine x_aload_n 65 rfl rfl ?_
        refine x_getI 66 (z := i 189 29) rfl fl_X9_157 (n_lt rfl) k_189 rfl rfl ?_
        refine x_callV 67 m_X9_fails r_fails rfl ok_X9_fails (n_lt rfl) k_189 rfl rfl ml_X9_160 im_X9_fails se_X9_fails rfl (by decide) rfl (Nat.le_of_ble_eq_true rfl) rfl rfl (fun v g q8 => ?_)
        obtain ⟨rfl, i9, li9, rfl, hi9⟩ := q8
        obtain ⟨hEi9, hi9⟩ := hi9
        have hEi9 := hEi9.symm
        subst hEi9
        show mX m_X9_endsWell 2 _ 0 0 _ _ [] _
        have g5 := hi9
        refine x_iconst 68 rfl ?_
        refine x_ret 69 (some (vI (0))) rfl ⟨rfl, Or.inr ⟨rfl, by omega⟩⟩ ⟨_, i9, l, rfl, rfl, ?_⟩
        refine ⟨Or.inl rfl, Or.inr ⟨rfl, by simp only; omega, ?_, ?_⟩, rfl⟩
        · unfold gStands; simp only; omega
        · rw [g5]; simp only; rw [(m2 (by omega)).2.2]
      · refine x_aload_n 39 rfl rfl ?_
        refine x_getI 40 (z := i 189 27) rfl fl_X9_148 (n_lt rfl) k_189 rfl rfl ?_
        refine x_aload_n 41 rfl rfl ?_
        refine x_getR 42 (z := 201) rfl fl_X9_50 (n_lt rfl) k_189 rfl r_189_21 ?_
        refine x_aload_n 43 rfl rfl ?_
        refine x_getI 44 (z := i 189 20) rfl fl_X9_154 (n_lt rfl) k_189 rfl rfl ?_
        refine x_iald 45 (z := i 201 (i 189 20)) rfl (n_lt rfl) k_201 (by omega) rfl ?_
        refine x_icmp_lt 46 (tgt := 109) rfl (by decide) (by omega) (fun h10 => ?_) (fun h10 => ?_)
        · refine x_aload_n 55 rfl rfl ?_
          refine x_getI 56 (z := i 189 26) rfl fl_X9_145 (n_lt rfl) k_189 rfl rfl ?_
          refine x_iconst 57 rfl ?_
          refine x_icmp_eq 58 (tgt := 125) rfl (by decide) (by omega) (fun h11 => absurd h11 (by omega)) (fun h11 => ?_)
          refine x_aload_n 59 rfl rfl ?_
          refine x_getI 60 (z := i 189 26) rfl fl_X9_145 (n_lt rfl) k_189 rfl rfl ?_
          refine x_iconst 61 rfl ?_
          refine x_icmp_ne 62 (tgt := 136) rfl (by decide) (by omega) (fun h12 => absurd h12 (by omega)) (fun h12 => ?_)
          refine x_aload_n 63 rfl rfl ?_
          refine x_iconst 64 rfl ?_
          refine x_aload_n 65 rfl rfl ?_
          refine x_getI 66 (z := i 189 29) rfl fl_X9_157 (n_lt rfl) k_189 rfl rfl ?_
          refine x_callV 67 m_X9_fails r_fails rfl ok_X9_fails (n_lt rfl) k_189 rfl rfl ml_X9_160 im_X9_fails se_X9_fails rfl (by decide) rfl (Nat.le_of_ble_eq_true rfl) rfl rfl (fun v g q13 => ?_)
          obtain ⟨rfl, i14, li14, rfl, hi14⟩ := q13
          obtain ⟨hEi14, hi14⟩ := hi14
          have hEi14 := hEi14.symm
          subst hEi14
          show mX m_X9_endsWell 2 _ 0 0 _ _ [] _
          have g5 := hi14
          refine x_iconst 68 rfl ?_
          refine x_ret 69 (some (vI (0))) rfl ⟨rfl, Or.inr ⟨rfl, by omega⟩⟩ ⟨_, i14, l, rfl, rfl, ?_⟩
          refine ⟨Or.inl rfl, Or.inr ⟨rfl, by simp only; omega, ?_, ?_⟩, rfl⟩
          · unfold gStands; simp only; omega
          · rw [g5]; simp only; rw [(m2 (by omega)).2.2]
        · refine x_aload_n 47 rfl rfl ?_
          refine x_getR 48 (z := 202) rfl fl_X9_53 (n_lt rfl) k_189 rfl r_189_22 ?_
          refine x_aload_n 49 rfl rfl ?_
          refine x_getI 50 (z := i 189 20) rfl fl_X9_154 (n_lt rfl) k_189 rfl rfl ?_
          refine x_aload_n 51 rfl rfl ?_
          refine x_getI 52 (z := i 189 27) rfl fl_X9_148 (n_lt rfl) k_189 rfl rfl ?_
          obtain ⟨i15, hi15⟩ : ∃ f, f = mU i 202 (i 189 20) (i 189 27) := ⟨_, rfl⟩
          refine x_iast 53 rfl (n_lt rfl) k_202 (by omega) (g' := st i15 l) (by subst hi15; rfl) ?_
          have g4 := hi15
          refine x_goto 54 (tgt := 136) rfl (by decide) ?_
          refine x_iconst 70 rfl ?_
          refine x_ret 71 (some (vI (1))) rfl ⟨rfl, Or.inr ⟨rfl, by omega⟩⟩ ⟨_, i15, l, rfl, rfl, ?_⟩
          first
            | (exact ⟨Or.inr rfl, Or.inl ⟨rfl, Or.inl ⟨by simp only; omega, rfl⟩⟩, rfl⟩)
            | (have q1 : w = 1 := by omega
               have e20 := m4w (by omega)
               rw [e20] at g3
               refine ⟨Or.inr rfl, Or.inl ⟨rfl, Or.inr ⟨Or.inl q1, ?_, ?_, ?_, ?_, ?_⟩⟩, rfl⟩
               · unfold gStands; simp only; omega
               · intro a b q; simp only at q; rw [g3]; simp only [mU]; rw [if_neg (by omega), if_neg (by omega), if_neg (by omega)]
               · simp only; rw [g3, mUne _ _ _ _ _ (by omega), mUne _ _ _ _ _ (by omega), mUs, if_neg (by omega)]; exact (m2 (Or.inl q1)).1
               · simp only; rw [g3, mUne _ _ _ _ _ (by omega), mUs]; exact (m2 (Or.inl q1)).1
               · simp only; rw [g3, mUs])
            | (have q1 : w = 3 := by omega
               have e20 := m4w (by omega)
               have mf := mfw q1
               have mc := mcw q1
               rw [e20] at g4 mf mc
               refine ⟨Or.inr rfl, Or.inl ⟨rfl, Or.inr ⟨Or.inr q1, ?_, ?_, ?_, ?_, ?_⟩⟩, rfl⟩
               · unfold gStands; simp only; have := mfw q1; omega
               · intro a b q; simp only at q; rw [g4]; simp only [mU]; rw [if_neg (by omega)]
               · simp only; rw [g4, mUne _ _ _ _ _ (by omega), if_pos q1]; exact mf
               · simp only; rw [g4, mUs]; exact (m2 (Or.inr q1)).1
               · simp only; rw [g4, mUne _ _ _ _ _ (by omega)]; exact mc)
  · refine x_aload_n 4 rfl rfl ?_
    refine x_getI 5 (z := i 189 27) rfl fl_X9_148 (n_lt rfl) k_189 rfl rfl ?_
    refine x_aload_n 6 rfl rfl ?_
    refine x_getI 7 (z := i 189 30) rfl fl_X9_151 (n_lt rfl) k_189 rfl rfl ?_
    refine x_icmp_gt 8 (tgt := 58) rfl (by decide) (by omega) (fun h16 => ?_) (fun h16 => ?_)
    · refine x_aload_n 30 rfl rfl ?_
      refine x_getI 31 (z := i 189 26) rfl fl_X9_145 (n_lt rfl) k_189 rfl rfl ?_
      refine x_iconst 32 rfl ?_
      refine x_icmp_ne 33 (tgt := 109) rfl (by decide) (by omega) (fun h17 => ?_) (fun h17 => ?_)
      · refine x_aload_n 55 rfl rfl ?_
        refine x_getI 56 (z := i 189 26) rfl fl_X9_145 (n_lt rfl) k_189 rfl rfl ?_
        refine x_iconst 57 rfl ?_
        refine x_icmp_eq 58 (tgt := 125) rfl (by decide) (by omega) (fun h18 => ?_) (fun h18 => absurd h18 (by omega))
        refine x_aload_n 63 rfl rfl ?_
        refine x_iconst 64 rfl ?_
        refine x_aload_n 65 rfl rfl ?_
        refine x_getI 66 (z := i 189 29) rfl fl_X9_157 (n_lt rfl) k_189 rfl rfl ?_
        refine x_callV 67 m_X9_fails r_fails rfl ok_X9_fails (n_lt rfl) k_189 rfl rfl ml_X9_160 im_X9_fails se_X9_fails rfl (by decide) rfl (Nat.le_of_ble_eq_true rfl) rfl rfl (fun v g q19 => ?_)
        obtain ⟨rfl, i20, li20, rfl, hi20⟩ := q19
        obtain ⟨hEi20, hi20⟩ := hi20
        have hEi20 := hEi20.symm
        subst hEi20
        show mX m_X9_endsWell 2 _ 0 0 _ _ [] _
        have g5 := hi20
        refine x_iconst 68 rfl ?_
        refine x_ret 69 (some (vI (0))) rfl ⟨rfl, Or.inr ⟨rfl, by omega⟩⟩ ⟨_, i20, l, rfl, rfl, ?_⟩
        refine ⟨Or.inl rfl, Or.inr ⟨rfl, by simp only; omega, ?_, ?_⟩, rfl⟩
        · unfold gStands; simp only; omega
        · rw [g5]; simp only; rw [(m2 (by omega)).2.2]
      · refine x_aload_n 34 rfl rfl ?_
        refine x_getI 35 (z := i 189 27) rfl fl_X9_148 (n_lt rfl) k_189 rfl rfl ?_
        refine x_aload_n 36 rfl rfl ?_
        refine x_getI 37 (z := i 189 30) rfl fl_X9_151 (n_lt rfl) k_189 rfl rfl ?_
        refine x_icmp_gt 38 (tgt := 109) rfl (by decide) (by omega) (fun h21 => ?_) (fun h21 => absurd h21 (by omega))
        refine x_aload_n 55 rfl rfl ?_
        refine x_getI 56 (z := i 189 26) rfl fl_X9_145 (n_lt rfl) k_189 rfl rfl ?_
        refine x_iconst 57 rfl ?_
        refine x_icmp_eq 58 (tgt := 125) rfl (by decide) (by omega) (fun h22 => ?_) (fun h22 => absurd h22 (by omega))
        refine x_aload_n 63 rfl rfl ?_
        refine x_iconst 64 rfl ?_
        refine x_aload_n 65 rfl rfl ?_
        refine x_getI 66 (z := i 189 29) rfl fl_X9_157 (n_lt rfl) k_189 rfl rfl ?_
        refine x_callV 67 m_X9_fails r_fails rfl ok_X9_fails (n_lt rfl) k_189 rfl rfl ml_X9_160 im_X9_fails se_X9_fails rfl (by decide) rfl (Nat.le_of_ble_eq_true rfl) rfl rfl (fun v g q23 => ?_)
        obtain ⟨rfl, i24, li24, rfl, hi24⟩ := q23
        obtain ⟨hEi24, hi24⟩ := hi24
        have hEi24 := hEi24.symm
        subst hEi24
        show mX m_X9_endsWell 2 _ 0 0 _ _ [] _
        have g5 := hi24
        refine x_iconst 68 rfl ?_
        refine x_ret 69 (some (vI (0))) rfl ⟨rfl, Or.inr ⟨rfl, by omega⟩⟩ ⟨_, i24, l, rfl, rfl, ?_⟩
        refine ⟨Or.inl rfl, Or.inr ⟨rfl, by simp only; omega, ?_, ?_⟩, rfl⟩
        · unfold gStands; simp only; omega
        · rw [g5]; simp only; rw [(m2 (by omega)).2.2]
    · refine x_aload_n 9 rfl rfl ?_
      refine x_getR 10 (z := 201) rfl fl_X9_50 (n_lt rfl) k_189 rfl r_189_21 ?_
      refine x_aload_n 11 rfl rfl ?_
      refine x_getI 12 (z := i 189 20) rfl fl_X9_154 (n_lt rfl) k_189 rfl rfl ?_
      refine x_aload_n 13 rfl rfl ?_
      refine x_getI 14 (z := i 189 27) rfl fl_X9_148 (n_lt rfl) k_189 rfl rfl ?_
      obtain ⟨i25, hi25⟩ : ∃ f, f = mU i 201 (i 189 20) (i 189 27) := ⟨_, rfl⟩
      refine x_iast 15 rfl (n_lt rfl) k_201 (by omega) (g' := st i25 l) (by subst hi25; rfl) ?_
      have g1 := hi25
      have a20 : i25 189 20 = i 189 20 := by rw [g1, mUne _ _ _ _ _ (by omega)]
      have a27 : i25 189 27 = i 189 27 := by rw [g1, mUne _ _ _ _ _ (by omega)]
      refine x_aload_n 16 rfl rfl ?_
      refine x_getR 17 (z := 202) rfl fl_X9_53 (n_lt rfl) k_189 rfl r_189_22 ?_
      refine x_aload_n 18 rfl rfl ?_
      refine x_getI 19 (z := i25 189 20) rfl fl_X9_154 (n_lt rfl) k_189 rfl rfl ?_
      refine x_aload_n 20 rfl rfl ?_
      refine x_getI 21 (z := i25 189 27) rfl fl_X9_148 (n_lt rfl) k_189 rfl rfl ?_
      obtain ⟨i26, hi26⟩ : ∃ f, f = mU i25 202 (i25 189 20) (i25 189 27) := ⟨_, rfl⟩
      refine x_iast 22 rfl (n_lt rfl) k_202 (by omega) (g' := st i26 l) (by subst hi26; rfl) ?_
      have g2 := hi26
      rw [a20, a27] at g2
      have b20 : i26 189 20 = i 189 20 := by rw [g2, mUne _ _ _ _ _ (by omega)]; exact a20
      refine x_aload_n 23 rfl rfl ?_
      refine x_getR 24 (z := 203) rfl fl_X9_56 (n_lt rfl) k_189 rfl r_189_23 ?_
      refine x_aload_n 25 rfl rfl ?_
      refine x_getI 26 (z := i26 189 20) rfl fl_X9_154 (n_lt rfl) k_189 rfl rfl ?_
      refine x_iconst 27 rfl ?_
      obtain ⟨i27, hi27⟩ : ∃ f, f = mU i26 203 (i26 189 20) (1) := ⟨_, rfl⟩
      refine x_iast 28 rfl (n_lt rfl) k_203 (by omega) (g' := st i27 l) (by subst hi27; rfl) ?_
      have g3 := hi27
      rw [b20, g2, g1] at g3
      refine x_goto 29 (tgt := 136) rfl (by decide) ?_
      refine x_iconst 70 rfl ?_
      refine x_ret 71 (some (vI (1))) rfl ⟨rfl, Or.inr ⟨rfl, by omega⟩⟩ ⟨_, i27, l, rfl, rfl, ?_⟩
      first
        | (exact ⟨Or.inr rfl, Or.inl ⟨rfl, Or.inl ⟨by simp only; omega, rfl⟩⟩, rfl⟩)
        | (have q1 : w = 1 := by omega
           have e20 := m4w (by omega)
           rw [e20] at g3
           refine ⟨Or.inr rfl, Or.inl ⟨rfl, Or.inr ⟨Or.inl q1, ?_, ?_, ?_, ?_, ?_⟩⟩, rfl⟩
           · unfold gStands; simp only; omega
           · intro a b q; simp only at q; rw [g3]; simp only [mU]; rw [if_neg (by omega), if_neg (by omega), if_neg (by omega)]
           · simp only; rw [g3, mUne _ _ _ _ _ (by omega), mUne _ _ _ _ _ (by omega), mUs, if_neg (by omega)]; exact (m2 (Or.inl q1)).1
           · simp only; rw [g3, mUne _ _ _ _ _ (by omega), mUs]; exact (m2 (Or.inl q1)).1
           · simp only; rw [g3, mUs])
        | (have q1 : w = 3 := by omega
           have e20 := m4w (by omega)
           have mf := mfw q1
           have mc := mcw q1
           rw [e20] at g4 mf mc
           refine ⟨Or.inr rfl, Or.inl ⟨rfl, Or.inr ⟨Or.inr q1, ?_, ?_, ?_, ?_, ?_⟩⟩, rfl⟩
           · unfold gStands; simp only; have := mfw q1; omega
           · intro a b q; simp only at q; rw [g4]; simp only [mU]; rw [if_neg (by omega)]
           · simp only; rw [g4, mUne _ _ _ _ _ (by omega), if_pos q1]; exact mf
           · simp only; rw [g4, mUs]; exact (m2 (Or.inr q1)).1
           · simp only; rw [g4, mUne _ _ _ _ _ (by omega)]; exact mc)
set_option maxRecDepth 20000 in
set_option maxHeartbeats 2000000 in
theorem r_readDigit {i : Nat → Int → Int} {l : Nat → Int → BitVec 64} {s : gT} (hs : simM i s) (hg : okG (i 189 30) s) (hh : -1 ≤ i 189 30 ∧ i 189 30 ≤ 40) {x : Int} (hx : 0 ≤ x ∧ x < 60) (hl : lenM s x) (hn : i 189 24 = -9) {sg : Int} (hd : 48 ≤ i 193 x ∧ i 193 x ≤ 57) : mCtr m_X9_readDigit 2 0 0 [vR (some 189), vI (x)] (st i l) (qV (fun i' l' => l' = l ∧ fM i i' ∧ simMR i' (x + 1) (gStep sg (i 189 30) (i 193 x) x s))) := by
  refine mCtr_of pl_X9 dc_X9_readDigit (Nat.le_of_ble_eq_true rfl) rfl ?_
  show mX m_X9_readDigit 2 _ 0 0 0 [some (vR (some 189)), some (vI (x))] [] (st i l)
  have hs1 := hs.1
  have hs2 := hs.2.1
  have hg1 := hg.1
  have hg2 := hg.2.1
  refine x_aload_n 0 rfl rfl ?_
  refine x_getI 1 (z := i 189 26) rfl fl_X9_145 (n_lt rfl) k_189 rfl rfl ?_
  refine x_if_eq 2 (tgt := 15) rfl (by decide) (by omega) (fun h1 => ?_) (fun h1 => ?_)
  · refine x_aload_n 7 rfl rfl ?_
    refine x_dup 8 rfl rfl ?_
    refine x_getI 9 (z := i 189 26) rfl fl_X9_145 (n_lt rfl) k_189 rfl rfl ?_
    refine x_iconst 10 rfl ?_
    refine x_iadd 11 (r := (i 189 26) + 1) rfl rfl ?_
    obtain ⟨i2, hi2⟩ : ∃ f, f = mU i 189 26 ((i 189 26) + 1) := ⟨_, rfl⟩
    refine x_putI 12 rfl fl_X9_145 (n_lt rfl) k_189 rfl rfl (g' := st i2 l) (by subst hi2; rfl) ?_
    have g1 := hi2
    have a193 : i2 193 x = i 193 x := by rw [g1, mUne _ _ _ _ _ (by omega)]
    refine x_aload_n 13 rfl rfl ?_
    refine x_aload_n 14 rfl rfl ?_
    refine x_getR 15 (z := 193) rfl fl_X9_19 (n_lt rfl) k_189 rfl r_189_5 ?_
    refine x_iload_n 16 rfl rfl ?_
    refine x_iald 17 (z := i2 193 x) rfl (n_lt rfl) k_193 (by omega) rfl ?_
    refine x_bipush 18 rfl (by decide) ?_
    refine x_isub 19 (r := (i2 193 x) - 48) rfl rfl ?_
    obtain ⟨i3, hi3⟩ : ∃ f, f = mU i2 189 27 ((i2 193 x) - 48) := ⟨_, rfl⟩
    refine x_putI 20 rfl fl_X9_148 (n_lt rfl) k_189 rfl rfl (g' := st i3 l) (by subst hi3; rfl) ?_
    have g2 := hi3
    rw [a193] at g2
    refine x_aload_n 21 rfl rfl ?_
    refine x_iconst 22 rfl ?_
    obtain ⟨i4, hi4⟩ : ∃ f, f = mU i3 189 28 (1) := ⟨_, rfl⟩
    refine x_putI 23 rfl fl_X9_163 (n_lt rfl) k_189 rfl rfl (g' := st i4 l) (by subst hi4; rfl) ?_
    have g3 := hi4
    refine x_aload_n 24 rfl rfl ?_
    refine x_iload_n 25 rfl rfl ?_
    obtain ⟨i5, hi5⟩ : ∃ f, f = mU i4 189 29 (x) := ⟨_, rfl⟩
    refine x_putI 26 rfl fl_X9_157 (n_lt rfl) k_189 rfl rfl (g' := st i5 l) (by subst hi5; rfl) ?_
    have g4 := hi5
    rw [g3, g2, g1] at g4
    refine x_goto 27 (tgt := 115) rfl (by decide) ?_
    refine x_ret 64 none rfl ⟨rfl, rfl⟩ ⟨rfl, i5, l, rfl, ?_⟩
    first
      | (exact ⟨rfl, (fun a b q1 q2 q3 q4 => by rw [g4]; simp only [mU]; rw [if_neg (by omega), if_neg (by omega), if_neg (by omega), if_neg (by omega)]), dg_res hs hg hl hn hd (Or.inl ⟨by omega, g4⟩)⟩)
      | (exact ⟨rfl, (fun a b q1 q2 q3 q4 => by rw [g2]; simp only [mU]; rw [if_neg (by omega), if_neg (by omega)]), dg_res hs hg hl hn hd (Or.inr (Or.inl ⟨by omega, by omega, g2⟩))⟩)
      | (exact ⟨rfl, (fun a b q1 q2 q3 q4 => by rw [g5]; simp only [mU]; rw [if_neg (by omega), if_neg (by omega)]), dg_res hs hg hl hn hd (Or.inr (Or.inr ⟨by omega, g5⟩))⟩)
  · refine x_aload_n 3 rfl rfl ?_
    refine x_getI 4 (z := i 189 26) rfl fl_X9_145 (n_lt rfl) k_189 rfl rfl ?_
    refine x_iconst 5 rfl ?_
    refine x_icmp_ne 6 (tgt := 51) rfl (by decide) (by omega) (fun h6 => ?_) (fun h6 => ?_)
    · refine x_aload_n 28 rfl rfl ?_
      refine x_getI 29 (z := i 189 26) rfl fl_X9_145 (n_lt rfl) k_189 rfl rfl ?_
      refine x_iconst 30 rfl ?_
      refine x_icmp_eq 31 (tgt := 67) rfl (by decide) (by omega) (fun h7 => ?_) (fun h7 => ?_)
      · refine x_aload_n 36 rfl rfl ?_
        refine x_getI 37 (z := i 189 28) rfl fl_X9_163 (n_lt rfl) k_189 rfl rfl ?_
        refine x_iconst 38 rfl ?_
        refine x_icmp_ge 39 (tgt := 109) rfl (by decide) (by omega) (fun h8 => ?_) (fun h8 => ?_)
        · refine x_aload_n 60 rfl rfl ?_
          refine x_iconst 61 rfl ?_
          refine x_iload_n 62 rfl rfl ?_
          refine x_callV 63 m_X9_fails r_fails rfl ok_X9_fails (n_lt rfl) k_189 rfl rfl ml_X9_160 im_X9_fails se_X9_fails rfl (by decide) rfl (Nat.le_of_ble_eq_true rfl) rfl rfl (fun v g q9 => ?_)
          obtain ⟨rfl, i10, li10, rfl, hi10⟩ := q9
          obtain ⟨hEi10, hi10⟩ := hi10
          have hEi10 := hEi10.symm
          subst hEi10
          show mX m_X9_readDigit 2 _ 0 0 _ _ [] _
          have g5 := hi10
          refine x_ret 64 none rfl ⟨rfl, rfl⟩ ⟨rfl, i10, l, rfl, ?_⟩
          first
            | (exact ⟨rfl, (fun a b q1 q2 q3 q4 => by rw [g4]; simp only [mU]; rw [if_neg (by omega), if_neg (by omega), if_neg (by omega), if_neg (by omega)]), dg_res hs hg hl hn hd (Or.inl ⟨by omega, g4⟩)⟩)
            | (exact ⟨rfl, (fun a b q1 q2 q3 q4 => by rw [g2]; simp only [mU]; rw [if_neg (by omega), if_neg (by omega)]), dg_res hs hg hl hn hd (Or.inr (Or.inl ⟨by omega, by omega, g2⟩))⟩)
            | (exact ⟨rfl, (fun a b q1 q2 q3 q4 => by rw [g5]; simp only [mU]; rw [if_neg (by omega), if_neg (by omega)]), dg_res hs hg hl hn hd (Or.inr (Or.inr ⟨by omega, g5⟩))⟩)
        · refine x_aload_n 40 rfl rfl ?_
          refine x_bipush 41 rfl (by decide) ?_
          refine x_aload_n 42 rfl rfl ?_
          refine x_getI 43 (z := i 189 27) rfl fl_X9_148 (n_lt rfl) k_189 rfl rfl ?_
          refine x_imul 44 (r := 10 * (i 189 27)) rfl rfl ?_
          refine x_aload_n 45 rfl rfl ?_
          refine x_getR 46 (z := 193) rfl fl_X9_19 (n_lt rfl) k_189 rfl r_189_5 ?_
          refine x_iload_n 47 rfl rfl ?_
          refine x_iald 48 (z := i 193 x) rfl (n_lt rfl) k_193 (by omega) rfl ?_
          refine x_iadd 49 (r := (10 * (i 189 27)) + (i 193 x)) rfl rfl ?_
          refine x_bipush 50 rfl (by decide) ?_
          refine x_isub 51 (r := ((10 * (i 189 27)) + (i 193 x)) - 48) rfl rfl ?_
          obtain ⟨i11, hi11⟩ : ∃ f, f = mU i 189 27 (((10 * (i 189 27)) + (i 193 x)) - 48) := ⟨_, rfl⟩
          refine x_putI 52 rfl fl_X9_148 (n_lt rfl) k_189 rfl rfl (g' := st i11 l) (by subst hi11; rfl) ?_
          have g1 := hi11
          have b28 : i11 189 28 = i 189 28 := by rw [g1, mUek _ _ _ _ (by omega)]
          refine x_aload_n 53 rfl rfl ?_
          refine x_dup 54 rfl rfl ?_
          refine x_getI 55 (z := i11 189 28) rfl fl_X9_163 (n_lt rfl) k_189 rfl rfl ?_
          refine x_iconst 56 rfl ?_
          refine x_iadd 57 (r := (i11 189 28) + 1) rfl rfl ?_
          obtain ⟨i12, hi12⟩ : ∃ f, f = mU i11 189 28 ((i11 189 28) + 1) := ⟨_, rfl⟩
          refine x_putI 58 rfl fl_X9_163 (n_lt rfl) k_189 rfl rfl (g' := st i12 l) (by subst hi12; rfl) ?_
          have g2 := hi12
          rw [b28, g1] at g2
          refine x_goto 59 (tgt := 115) rfl (by decide) ?_
          refine x_ret 64 none rfl ⟨rfl, rfl⟩ ⟨rfl, i12, l, rfl, ?_⟩
          first
            | (exact ⟨rfl, (fun a b q1 q2 q3 q4 => by rw [g4]; simp only [mU]; rw [if_neg (by omega), if_neg (by omega), if_neg (by omega), if_neg (by omega)]), dg_res hs hg hl hn hd (Or.inl ⟨by omega, g4⟩)⟩)
            | (exact ⟨rfl, (fun a b q1 q2 q3 q4 => by rw [g2]; simp only [mU]; rw [if_neg (by omega), if_neg (by omega)]), dg_res hs hg hl hn hd (Or.inr (Or.inl ⟨by omega, by omega, g2⟩))⟩)
            | (exact ⟨rfl, (fun a b q1 q2 q3 q4 => by rw [g5]; simp only [mU]; rw [if_neg (by omega), if_neg (by omega)]), dg_res hs hg hl hn hd (Or.inr (Or.inr ⟨by omega, g5⟩))⟩)
      · refine x_aload_n 32 rfl rfl ?_
        refine x_getI 33 (z := i 189 26) rfl fl_X9_145 (n_lt rfl) k_189 rfl rfl ?_
        refine x_iconst 34 rfl ?_
        refine x_icmp_ne 35 (tgt := 109) rfl (by decide) (by omega) (fun h13 => ?_) (fun h13 => ?_)
        · refine x_aload_n 60 rfl rfl ?_
          refine x_iconst 61 rfl ?_
          refine x_iload_n 62 rfl rfl ?_
          refine x_callV 63 m_X9_fails r_fails rfl ok_X9_fails (n_lt rfl) k_189 rfl rfl ml_X9_160 im_X9_fails se_X9_fails rfl (by decide) rfl (Nat.le_of_ble_eq_true rfl) rfl rfl (fun v g q14 => ?_)
          obtain ⟨rfl, i15, li15, rfl, hi15⟩ := q14
          obtain ⟨hEi15, hi15⟩ := hi15
          have hEi15 := hEi15.symm
          subst hEi15
          show mX m_X9_readDigit 2 _ 0 0 _ _ [] _
          have g5 := hi15
          refine x_ret 64 none rfl ⟨rfl, rfl⟩ ⟨rfl, i15, l, rfl, ?_⟩
          first
            | (exact ⟨rfl, (fun a b q1 q2 q3 q4 => by rw [g4]; simp only [mU]; rw [if_neg (by omega), if_neg (by omega), if_neg (by omega), if_neg (by omega)]), dg_res hs hg hl hn hd (Or.inl ⟨by omega, g4⟩)⟩)
            | (exact ⟨rfl, (fun a b q1 q2 q3 q4 => by rw [g2]; simp only [mU]; rw [if_neg (by omega), if_neg (by omega)]), dg_res hs hg hl hn hd (Or.inr (Or.inl ⟨by omega, by omega, g2⟩))⟩)
            | (exact ⟨rfl, (fun a b q1 q2 q3 q4 => by rw [g5]; simp only [mU]; rw [if_neg (by omega), if_neg (by omega)]), dg_res hs hg hl hn hd (Or.inr (Or.inr ⟨by omega, g5⟩))⟩)
        · refine x_aload_n 36 rfl rfl ?_
          refine x_getI 37 (z := i 189 28) rfl fl_X9_163 (n_lt rfl) k_189 rfl rfl ?_
          refine x_iconst 38 rfl ?_
          refine x_icmp_ge 39 (tgt := 109) rfl (by decide) (by omega) (fun h16 => ?_) (fun h16 => ?_)
          · refine x_aload_n 60 rfl rfl ?_
            refine x_iconst 61 rfl ?_
            refine x_iload_n 62 rfl rfl ?_
            refine x_callV 63 m_X9_fails r_fails rfl ok_X9_fails (n_lt rfl) k_189 rfl rfl ml_X9_160 im_X9_fails se_X9_fails rfl (by decide) rfl (Nat.le_of_ble_eq_true rfl) rfl rfl (fun v g q17 => ?_)
            obtain ⟨rfl, i18, li18, rfl, hi18⟩ := q17
            obtain ⟨hEi18, hi18⟩ := hi18
            have hEi18 := hEi18.symm
            subst hEi18
            show mX m_X9_readDigit 2 _ 0 0 _ _ [] _
            have g5 := hi18
            refine x_ret 64 none rfl ⟨rfl, rfl⟩ ⟨rfl, i18, l, rfl, ?_⟩
            first
              | (exact ⟨rfl, (fun a b q1 q2 q3 q4 => by rw [g4]; simp only [mU]; rw [if_neg (by omega), if_neg (by omega), if_neg (by omega), if_neg (by omega)]), dg_res hs hg hl hn hd (Or.inl ⟨by omega, g4⟩)⟩)
              | (exact ⟨rfl, (fun a b q1 q2 q3 q4 => by rw [g2]; simp only [mU]; rw [if_neg (by omega), if_neg (by omega)]), dg_res hs hg hl hn hd (Or.inr (Or.inl ⟨by omega, by omega, g2⟩))⟩)
              | (exact ⟨rfl, (fun a b q1 q2 q3 q4 => by rw [g5]; simp only [mU]; rw [if_neg (by omega), if_neg (by omega)]), dg_res hs hg hl hn hd (Or.inr (Or.inr ⟨by omega, g5⟩))⟩)
          · refine x_aload_n 40 rfl rfl ?_
            refine x_bipush 41 rfl (by decide) ?_
            refine x_aload_n 42 rfl rfl ?_
            refine x_getI 43 (z := i 189 27) rfl fl_X9_148 (n_lt rfl) k_189 rfl rfl ?_
            refine x_imul 44 (r := 10 * (i 189 27)) rfl rfl ?_
            refine x_aload_n 45 rfl rfl ?_
            refine x_getR 46 (z := 193) rfl fl_X9_19 (n_lt rfl) k_189 rfl r_189_5 ?_
            refine x_iload_n 47 rfl rfl ?_
            refine x_iald 48 (z := i 193 x) rfl (n_lt rfl) k_193 (by omega) rfl ?_
            refine x_iadd 49 (r := (10 * (i 189 27)) + (i 193 x)) rfl rfl ?_
            refine x_bipush 50 rfl (by decide) ?_
            refine x_isub 51 (r := ((10 * (i 189 27)) + (i 193 x)) - 48) rfl rfl ?_
            obtain ⟨i19, hi19⟩ : ∃ f, f = mU i 189 27 (((10 * (i 189 27)) + (i 193 x)) - 48) := ⟨_, rfl⟩
            refine x_putI 52 rfl fl_X9_148 (n_lt rfl) k_189 rfl rfl (g' := st i19 l) (by subst hi19; rfl) ?_
            have g1 := hi19
            have b28 : i19 189 28 = i 189 28 := by rw [g1, mUek _ _ _ _ (by omega)]
            refine x_aload_n 53 rfl rfl ?_
            refine x_dup 54 rfl rfl ?_
            refine x_getI 55 (z := i19 189 28) rfl fl_X9_163 (n_lt rfl) k_189 rfl rfl ?_
            refine x_iconst 56 rfl ?_
            refine x_iadd 57 (r := (i19 189 28) + 1) rfl rfl ?_
            obtain ⟨i20, hi20⟩ : ∃ f, f = mU i19 189 28 ((i19 189 28) + 1) := ⟨_, rfl⟩
            refine x_putI 58 rfl fl_X9_163 (n_lt rfl) k_189 rfl rfl (g' := st i20 l) (by subst hi20; rfl) ?_
            have g2 := hi20
            rw [b28, g1] at g2
            refine x_goto 59 (tgt := 115) rfl (by decide) ?_
            refine x_ret 64 none rfl ⟨rfl, rfl⟩ ⟨rfl, i20, l, rfl, ?_⟩
            first
              | (exact ⟨rfl, (fun a b q1 q2 q3 q4 => by rw [g4]; simp only [mU]; rw [if_neg (by omega), if_neg (by omega), if_neg (by omega), if_neg (by omega)]), dg_res hs hg hl hn hd (Or.inl ⟨by omega, g4⟩)⟩)
              | (exact ⟨rfl, (fun a b q1 q2 q3 q4 => by rw [g2]; simp only [mU]; rw [if_neg (by omega), if_neg (by omega)]), dg_res hs hg hl hn hd (Or.inr (Or.inl ⟨by omega, by omega, g2⟩))⟩)
              | (exact ⟨rfl, (fun a b q1 q2 q3 q4 => by rw [g5]; simp only [mU]; rw [if_neg (by omega), if_neg (by omega)]), dg_res hs hg hl hn hd (Or.inr (Or.inr ⟨by omega, g5⟩))⟩)
    · refine x_aload_n 7 rfl rfl ?_
      refine x_dup 8 rfl rfl ?_
      refine x_getI 9 (z := i 189 26) rfl fl_X9_145 (n_lt rfl) k_189 rfl rfl ?_
      refine x_iconst 10 rfl ?_
      refine x_iadd 11 (r := (i 189 26) + 1) rfl rfl ?_
      obtain ⟨i21, hi21⟩ : ∃ f, f = mU i 189 26 ((i 189 26) + 1) := ⟨_, rfl⟩
      refine x_putI 12 rfl fl_X9_145 (n_lt rfl) k_189 rfl rfl (g' := st i21 l) (by subst hi21; rfl) ?_
      have g1 := hi21
      have a193 : i21 193 x = i 193 x := by rw [g1, mUne _ _ _ _ _ (by omega)]
      refine x_aload_n 13 rfl rfl ?_
      refine x_aload_n 14 rfl rfl ?_
      refine x_getR 15 (z := 193) rfl fl_X9_19 (n_lt rfl) k_189 rfl r_189_5 ?_
      refine x_iload_n 16 rfl rfl ?_
      refine x_iald 17 (z := i21 193 x) rfl (n_lt rfl) k_193 (by omega) rfl ?_
      refine x_bipush 18 rfl (by decide) ?_
      refine x_isub 19 (r := (i21 193 x) - 48) rfl rfl ?_
      obtain ⟨i22, hi22⟩ : ∃ f, f = mU i21 189 27 ((i21 193 x) - 48) := ⟨_, rfl⟩
      refine x_putI 20 rfl fl_X9_148 (n_lt rfl) k_189 rfl rfl (g' := st i22 l) (by subst hi22; rfl) ?_
      have g2 := hi22
      rw [a193] at g2
      refine x_aload_n 21 rfl rfl ?_
      refine x_iconst 22 rfl ?_
      obtain ⟨i23, hi23⟩ : ∃ f, f = mU i22 189 28 (1) := ⟨_, rfl⟩
      refine x_putI 23 rfl fl_X9_163 (n_lt rfl) k_189 rfl rfl (g' := st i23 l) (by subst hi23; rfl) ?_
      have g3 := hi23
      refine x_aload_n 24 rfl rfl ?_
      refine x_iload_n 25 rfl rfl ?_
      obtain ⟨i24, hi24⟩ : ∃ f, f = mU i23 189 29 (x) := ⟨_, rfl⟩
      refine x_putI 26 rfl fl_X9_157 (n_lt rfl) k_189 rfl rfl (g' := st i24 l) (by subst hi24; rfl) ?_
      have g4 := hi24
      rw [g3, g2, g1] at g4
      refine x_goto 27 (tgt := 115) rfl (by decide) ?_
      refine x_ret 64 none rfl ⟨rfl, rfl⟩ ⟨rfl, i24, l, rfl, ?_⟩
      first
        | (exact ⟨rfl, (fun a b q1 q2 q3 q4 => by rw [g4]; simp only [mU]; rw [if_neg (by omega), if_neg (by omega), if_neg (by omega), if_neg (by omega)]), dg_res hs hg hl hn hd (Or.inl ⟨by omega, g4⟩)⟩)
        | (exact ⟨rfl, (fun a b q1 q2 q3 q4 => by rw [g2]; simp only [mU]; rw [if_neg (by omega), if_neg (by omega)]), dg_res hs hg hl hn hd (Or.inr (Or.inl ⟨by omega, by omega, g2⟩))⟩)
        | (exact ⟨rfl, (fun a b q1 q2 q3 q4 => by rw [g5]; simp only [mU]; rw [if_neg (by omega), if_neg (by omega)]), dg_res hs hg hl hn hd (Or.inr (Or.inr ⟨by omega, g5⟩))⟩)
set_option maxRecDepth 20000 in
set_option maxHeartbeats 2000000 in
theorem r_readOther {i : Nat → Int → Int} {l : Nat → Int → BitVec 64} {s : gT} (hs : simM i s) (hg : okG (i 189 30) s) (hh : -1 ≤ i 189 30 ∧ i 189 30 ≤ 40) {x : Int} (hx : 0 ≤ x ∧ x < 60) (hl : lenM s x) (hn : i 189 24 = -9) {b : Int} (hb : b = 0 ∨ b = 1) (hc0 : 0 ≤ i 193 x ∧ i 193 x ≤ 127) (hd : ¬ (48 ≤ i 193 x ∧ i 193 x ≤ 57)) : mCtr m_X9_readOther 3 0 0 [vR (some 189), vI (x), vI (b)] (st i l) (qV (fun i' l' => l' = l ∧ fM i i' ∧ simMR i' (x + 1) (gStep b (i 189 30) (i 193 x) x s))) := by
  refine mCtr_of pl_X9 dc_X9_readOther (Nat.le_of_ble_eq_true rfl) rfl ?_
  show mX m_X9_readOther 3 _ 0 0 0 [some (vR (some 189)), some (vI (x)), some (vI (b)), none] [] (st i l)
  have hs1 := hs.1
  have hg1 := hg.1
  have h29 := lenM_29 hl (by omega)
  obtain ⟨code, hcd⟩ : ∃ c, c = i 193 x := ⟨_, rfl⟩
  refine x_aload_n 0 rfl rfl ?_
  refine x_getR 1 (z := 193) rfl fl_X9_19 (n_lt rfl) k_189 rfl r_189_5 ?_
  refine x_iload_n 2 rfl rfl ?_
  refine x_iald 3 (z := i 193 x) rfl (n_lt rfl) k_193 (by omega) rfl ?_
  refine x_istore_n 4 (L' := [some (vR (some 189)), some (vI (x)), some (vI (b)), some (vI (i 193 x))]) rfl (by decide) rfl rfl ?_
  refine x_aload_n 5 rfl rfl ?_
  refine x_callV 6 m_X9_endsWell (r_endsWell hs hg (by omega) h29) rfl ok_X9_endsWell (n_lt rfl) k_189 rfl rfl ml_X9_166 im_X9_endsWell se_X9_endsWell rfl (by decide) rfl (Nat.le_of_ble_eq_true rfl) rfl rfl (fun v g q1 => ?_)
  obtain ⟨z3, i2, li2, rfl, rfl, hi2⟩ := q1
  show mX m_X9_readOther 3 _ 0 0 _ _ [vI (z3)] _
  obtain ⟨hz, hew, rfl⟩ := hi2
  have hfm := ew_fM hew
  have w26 := ew_26 hew
  obtain ⟨i1, hi1_⟩ : ∃ f, f = i2 := ⟨_, rfl⟩
  have hewz := hew
  have hlen20 := ew_20 hew hs
  have h30 := lenM_30 hl (by omega)
  refine x_if_ne 7 (tgt := 15) rfl (by decide) (by omega) (fun h4 => ?_) (fun h4 => ?_)
  · refine x_iload_n 9 rfl rfl ?_
    refine x_if_eq 10 (tgt := 41) rfl (by decide) (by omega) (fun h5 => ?_) (fun h5 => ?_)
    · refine x_iload_n 22 rfl rfl ?_
      refine x_if_eq 23 (tgt := 85) rfl (by decide) (by omega) (fun h6 => ?_) (fun h6 => absurd h6 (by omega))
      refine x_iload_n 45 rfl rfl ?_
      refine x_bipush 46 rfl (by decide) ?_
      refine x_icmp_ne 47 (tgt := 128) rfl (by decide) (by omega) (fun h7 => ?_) (fun h7 => ?_)
      · refine x_aload_n 67 rfl rfl ?_
        refine x_iconst 68 rfl ?_
        refine x_iload_n 69 rfl rfl ?_
        refine x_callV 70 m_X9_fails r_fails rfl ok_X9_fails (n_lt rfl) k_189 rfl rfl ml_X9_160 im_X9_fails se_X9_fails rfl (by decide) rfl (Nat.le_of_ble_eq_true rfl) rfl rfl (fun v g q8 => ?_)
        obtain ⟨rfl, i9, li9, rfl, hi9⟩ := q8
        obtain ⟨hEi9, hi9⟩ := hi9
        have hEi9 := hEi9.symm
        subst hEi9
        show mX m_X9_readOther 3 _ 0 0 _ _ [] _
        have g6 := hi9
        rw [← hi1_] at g6
        refine x_ret 71 none rfl ⟨rfl, rfl⟩ ⟨rfl, i9, li2, rfl, ?_⟩
        have hz1 : z3 = 1 := by omega
        rw [← hi1_] at hew hfm
        first
          | (exact ⟨rfl, hfm.tr (fun a b q1 q2 q3 q4 => by rw [g1]; simp only [mU]; rw [if_neg (by omega)]), ot_res hs hg hl hn hd hew (Or.inr ⟨hz1, Or.inl ⟨by omega, by omega, by omega, g1⟩⟩)⟩)
          | (exact ⟨rfl, hfm.tr (fun a b q1 q2 q3 q4 => by rw [g3]; simp only [mU]; rw [if_neg (by omega), if_neg (by omega)]), ot_res hs hg hl hn hd hew (Or.inr ⟨hz1, Or.inr (Or.inl ⟨by omega, by omega, by omega, g3⟩)⟩)⟩)
          | (exact ⟨rfl, hfm.tr (fun a b q1 q2 q3 q4 => by rw [g5]; simp only [mU]; rw [if_neg (by omega), if_neg (by omega)]), ot_res hs hg hl hn hd hew (Or.inr ⟨hz1, Or.inr (Or.inr (Or.inl ⟨by omega, by omega, by rw [g5]; first | rw [if_pos (by omega)] | rw [if_neg (by omega)]⟩))⟩)⟩)
          | (exact ⟨rfl, hfm.tr (fun a b q1 q2 q3 q4 => by rw [g6]; simp only [mU]; rw [if_neg (by omega), if_neg (by omega)]), ot_res hs hg hl hn hd hew (Or.inr ⟨hz1, Or.inr (Or.inr (Or.inr ⟨by omega, by omega, by omega, g6⟩))⟩)⟩)
      · refine x_aload_n 48 rfl rfl ?_
        refine x_getI 49 (z := i2 189 26) rfl fl_X9_145 (n_lt rfl) k_189 rfl rfl ?_
        refine x_iconst 50 rfl ?_
        refine x_icmp_eq 51 (tgt := 128) rfl (by decide) (by omega) (fun h10 => ?_) (fun h10 => ?_)
        · refine x_aload_n 67 rfl rfl ?_
          refine x_iconst 68 rfl ?_
          refine x_iload_n 69 rfl rfl ?_
          refine x_callV 70 m_X9_fails r_fails rfl ok_X9_fails (n_lt rfl) k_189 rfl rfl ml_X9_160 im_X9_fails se_X9_fails rfl (by decide) rfl (Nat.le_of_ble_eq_true rfl) rfl rfl (fun v g q11 => ?_)
          obtain ⟨rfl, i12, li12, rfl, hi12⟩ := q11
          obtain ⟨hEi12, hi12⟩ := hi12
          have hEi12 := hEi12.symm
          subst hEi12
          show mX m_X9_readOther 3 _ 0 0 _ _ [] _
          have g6 := hi12
          rw [← hi1_] at g6
          refine x_ret 71 none rfl ⟨rfl, rfl⟩ ⟨rfl, i12, li2, rfl, ?_⟩
          have hz1 : z3 = 1 := by omega
          rw [← hi1_] at hew hfm
          first
            | (exact ⟨rfl, hfm.tr (fun a b q1 q2 q3 q4 => by rw [g1]; simp only [mU]; rw [if_neg (by omega)]), ot_res hs hg hl hn hd hew (Or.inr ⟨hz1, Or.inl ⟨by omega, by omega, by omega, g1⟩⟩)⟩)
            | (exact ⟨rfl, hfm.tr (fun a b q1 q2 q3 q4 => by rw [g3]; simp only [mU]; rw [if_neg (by omega), if_neg (by omega)]), ot_res hs hg hl hn hd hew (Or.inr ⟨hz1, Or.inr (Or.inl ⟨by omega, by omega, by omega, g3⟩)⟩)⟩)
            | (exact ⟨rfl, hfm.tr (fun a b q1 q2 q3 q4 => by rw [g5]; simp only [mU]; rw [if_neg (by omega), if_neg (by omega)]), ot_res hs hg hl hn hd hew (Or.inr ⟨hz1, Or.inr (Or.inr (Or.inl ⟨by omega, by omega, by rw [g5]; first | rw [if_pos (by omega)] | rw [if_neg (by omega)]⟩))⟩)⟩)
            | (exact ⟨rfl, hfm.tr (fun a b q1 q2 q3 q4 => by rw [g6]; simp only [mU]; rw [if_neg (by omega), if_neg (by omega)]), ot_res hs hg hl hn hd hew (Or.inr ⟨hz1, Or.inr (Or.inr (Or.inr ⟨by omega, by omega, by omega, g6⟩))⟩)⟩)
        · refine x_aload_n 52 rfl rfl ?_
          refine x_dup 53 rfl rfl ?_
          refine x_getI 54 (z := i2 189 20) rfl fl_X9_154 (n_lt rfl) k_189 rfl rfl ?_
          refine x_aload_n 55 rfl rfl ?_
          refine x_getI 56 (z := i2 189 26) rfl fl_X9_145 (n_lt rfl) k_189 rfl rfl ?_
          refine x_if_ne 57 (tgt := 115) rfl (by decide) (by omega) (fun h13 => ?_) (fun h13 => ?_)
          · refine x_iconst 60 rfl ?_
            refine x_iadd 61 (r := (i2 189 20) + 1) rfl rfl ?_
            obtain ⟨i14, hi14⟩ : ∃ f, f = mU i2 189 20 ((i2 189 20) + 1) := ⟨_, rfl⟩
            refine x_putI 62 rfl fl_X9_154 (n_lt rfl) k_189 rfl rfl (g' := st i14 li2) (by subst hi14; rfl) ?_
            have g4 := hi14
            refine x_aload_n 63 rfl rfl ?_
            refine x_iconst 64 rfl ?_
            obtain ⟨i15, hi15⟩ : ∃ f, f = mU i14 189 26 (0) := ⟨_, rfl⟩
            refine x_putI 65 rfl fl_X9_145 (n_lt rfl) k_189 rfl rfl (g' := st i15 li2) (by subst hi15; rfl) ?_
            have g5 := hi15
            rw [g4, ← hi1_] at g5
            refine x_goto 66 (tgt := 134) rfl (by decide) ?_
            refine x_ret 71 none rfl ⟨rfl, rfl⟩ ⟨rfl, i15, li2, rfl, ?_⟩
            have hz1 : z3 = 1 := by omega
            rw [← hi1_] at hew hfm
            first
              | (exact ⟨rfl, hfm.tr (fun a b q1 q2 q3 q4 => by rw [g1]; simp only [mU]; rw [if_neg (by omega)]), ot_res hs hg hl hn hd hew (Or.inr ⟨hz1, Or.inl ⟨by omega, by omega, by omega, g1⟩⟩)⟩)
              | (exact ⟨rfl, hfm.tr (fun a b q1 q2 q3 q4 => by rw [g3]; simp only [mU]; rw [if_neg (by omega), if_neg (by omega)]), ot_res hs hg hl hn hd hew (Or.inr ⟨hz1, Or.inr (Or.inl ⟨by omega, by omega, by omega, g3⟩)⟩)⟩)
              | (exact ⟨rfl, hfm.tr (fun a b q1 q2 q3 q4 => by rw [g5]; simp only [mU]; rw [if_neg (by omega), if_neg (by omega)]), ot_res hs hg hl hn hd hew (Or.inr ⟨hz1, Or.inr (Or.inr (Or.inl ⟨by omega, by omega, by rw [g5]; first | rw [if_pos (by omega)] | rw [if_neg (by omega)]⟩))⟩)⟩)
              | (exact ⟨rfl, hfm.tr (fun a b q1 q2 q3 q4 => by rw [g6]; simp only [mU]; rw [if_neg (by omega), if_neg (by omega)]), ot_res hs hg hl hn hd hew (Or.inr ⟨hz1, Or.inr (Or.inr (Or.inr ⟨by omega, by omega, by omega, g6⟩))⟩)⟩)
          · refine x_iconst 58 rfl ?_
            refine x_goto 59 (tgt := 116) rfl (by decide) ?_
            refine x_iadd 61 (r := (i2 189 20) + 0) rfl rfl ?_
            obtain ⟨i16, hi16⟩ : ∃ f, f = mU i2 189 20 ((i2 189 20) + 0) := ⟨_, rfl⟩
            refine x_putI 62 rfl fl_X9_154 (n_lt rfl) k_189 rfl rfl (g' := st i16 li2) (by subst hi16; rfl) ?_
            have g4 := hi16
            refine x_aload_n 63 rfl rfl ?_
            refine x_iconst 64 rfl ?_
            obtain ⟨i17, hi17⟩ : ∃ f, f = mU i16 189 26 (0) := ⟨_, rfl⟩
            refine x_putI 65 rfl fl_X9_145 (n_lt rfl) k_189 rfl rfl (g' := st i17 li2) (by subst hi17; rfl) ?_
            have g5 := hi17
            rw [g4, ← hi1_] at g5
            refine x_goto 66 (tgt := 134) rfl (by decide) ?_
            refine x_ret 71 none rfl ⟨rfl, rfl⟩ ⟨rfl, i17, li2, rfl, ?_⟩
            have hz1 : z3 = 1 := by omega
            rw [← hi1_] at hew hfm
            first
              | (exact ⟨rfl, hfm.tr (fun a b q1 q2 q3 q4 => by rw [g1]; simp only [mU]; rw [if_neg (by omega)]), ot_res hs hg hl hn hd hew (Or.inr ⟨hz1, Or.inl ⟨by omega, by omega, by omega, g1⟩⟩)⟩)
              | (exact ⟨rfl, hfm.tr (fun a b q1 q2 q3 q4 => by rw [g3]; simp only [mU]; rw [if_neg (by omega), if_neg (by omega)]), ot_res hs hg hl hn hd hew (Or.inr ⟨hz1, Or.inr (Or.inl ⟨by omega, by omega, by omega, g3⟩)⟩)⟩)
              | (exact ⟨rfl, hfm.tr (fun a b q1 q2 q3 q4 => by rw [g5]; simp only [mU]; rw [if_neg (by omega), if_neg (by omega)]), ot_res hs hg hl hn hd hew (Or.inr ⟨hz1, Or.inr (Or.inr (Or.inl ⟨by omega, by omega, by rw [g5]; first | rw [if_pos (by omega)] | rw [if_neg (by omega)]⟩))⟩)⟩)
              | (exact ⟨rfl, hfm.tr (fun a b q1 q2 q3 q4 => by rw [g6]; simp only [mU]; rw [if_neg (by omega), if_neg (by omega)]), ot_res hs hg hl hn hd hew (Or.inr ⟨hz1, Or.inr (Or.inr (Or.inr ⟨by omega, by omega, by omega, g6⟩))⟩)⟩)
    · refine x_aload_n 11 rfl rfl ?_
      refine x_getI 12 (z := i2 189 26) rfl fl_X9_145 (n_lt rfl) k_189 rfl rfl ?_
      refine x_iconst 13 rfl ?_
      refine x_icmp_ne 14 (tgt := 41) rfl (by decide) (by omega) (fun h18 => ?_) (fun h18 => ?_)
      · refine x_iload_n 22 rfl rfl ?_
        refine x_if_eq 23 (tgt := 85) rfl (by decide) (by omega) (fun h19 => absurd h19 (by omega)) (fun h19 => ?_)
        refine x_aload_n 24 rfl rfl ?_
        refine x_getI 25 (z := i2 189 26) rfl fl_X9_145 (n_lt rfl) k_189 rfl rfl ?_
        refine x_iconst 26 rfl ?_
        refine x_icmp_eq 27 (tgt := 61) rfl (by decide) (by omega) (fun h20 => absurd h20 (by omega)) (fun h20 => ?_)
        refine x_aload_n 28 rfl rfl ?_
        refine x_getI 29 (z := i2 189 26) rfl fl_X9_145 (n_lt rfl) k_189 rfl rfl ?_
        refine x_iconst 30 rfl ?_
        refine x_icmp_ne 31 (tgt := 85) rfl (by decide) (by omega) (fun h21 => ?_) (fun h21 => ?_)
        · refine x_iload_n 45 rfl rfl ?_
          refine x_bipush 46 rfl (by decide) ?_
          refine x_icmp_ne 47 (tgt := 128) rfl (by decide) (by omega) (fun h22 => ?_) (fun h22 => ?_)
          · refine x_aload_n 67 rfl rfl ?_
            refine x_iconst 68 rfl ?_
            refine x_iload_n 69 rfl rfl ?_
            refine x_callV 70 m_X9_fails r_fails rfl ok_X9_fails (n_lt rfl) k_189 rfl rfl ml_X9_160 im_X9_fails se_X9_fails rfl (by decide) rfl (Nat.le_of_ble_eq_true rfl) rfl rfl (fun v g q23 => ?_)
            obtain ⟨rfl, i24, li24, rfl, hi24⟩ := q23
            obtain ⟨hEi24, hi24⟩ := hi24
            have hEi24 := hEi24.symm
            subst hEi24
            show mX m_X9_readOther 3 _ 0 0 _ _ [] _
            have g6 := hi24
            rw [← hi1_] at g6
            refine x_ret 71 none rfl ⟨rfl, rfl⟩ ⟨rfl, i24, li2, rfl, ?_⟩
            have hz1 : z3 = 1 := by omega
            rw [← hi1_] at hew hfm
            first
              | (exact ⟨rfl, hfm.tr (fun a b q1 q2 q3 q4 => by rw [g1]; simp only [mU]; rw [if_neg (by omega)]), ot_res hs hg hl hn hd hew (Or.inr ⟨hz1, Or.inl ⟨by omega, by omega, by omega, g1⟩⟩)⟩)
              | (exact ⟨rfl, hfm.tr (fun a b q1 q2 q3 q4 => by rw [g3]; simp only [mU]; rw [if_neg (by omega), if_neg (by omega)]), ot_res hs hg hl hn hd hew (Or.inr ⟨hz1, Or.inr (Or.inl ⟨by omega, by omega, by omega, g3⟩)⟩)⟩)
              | (exact ⟨rfl, hfm.tr (fun a b q1 q2 q3 q4 => by rw [g5]; simp only [mU]; rw [if_neg (by omega), if_neg (by omega)]), ot_res hs hg hl hn hd hew (Or.inr ⟨hz1, Or.inr (Or.inr (Or.inl ⟨by omega, by omega, by rw [g5]; first | rw [if_pos (by omega)] | rw [if_neg (by omega)]⟩))⟩)⟩)
              | (exact ⟨rfl, hfm.tr (fun a b q1 q2 q3 q4 => by rw [g6]; simp only [mU]; rw [if_neg (by omega), if_neg (by omega)]), ot_res hs hg hl hn hd hew (Or.inr ⟨hz1, Or.inr (Or.inr (Or.inr ⟨by omega, by omega, by omega, g6⟩))⟩)⟩)
          · refine x_aload_n 48 rfl rfl ?_
            refine x_getI 49 (z := i2 189 26) rfl fl_X9_145 (n_lt rfl) k_189 rfl rfl ?_
            refine x_iconst 50 rfl ?_
            refine x_icmp_eq 51 (tgt := 128) rfl (by decide) (by omega) (fun h25 => ?_) (fun h25 => ?_)
            · refine x_aload_n 67 rfl rfl ?_
              refine x_iconst 68 rfl ?_
              refine x_iload_n 69 rfl rfl ?_
              refine x_callV 70 m_X9_fails r_fails rfl ok_X9_fails (n_lt rfl) k_189 rfl rfl ml_X9_160 im_X9_fails se_X9_fails rfl (by decide) rfl (Nat.le_of_ble_eq_true rfl) rfl rfl (fun v g q26 => ?_)
              obtain ⟨rfl, i27, li27, rfl, hi27⟩ := q26
              obtain ⟨hEi27, hi27⟩ := hi27
              have hEi27 := hEi27.symm
              subst hEi27
              show mX m_X9_readOther 3 _ 0 0 _ _ [] _
              have g6 := hi27
              rw [← hi1_] at g6
              refine x_ret 71 none rfl ⟨rfl, rfl⟩ ⟨rfl, i27, li2, rfl, ?_⟩
              have hz1 : z3 = 1 := by omega
              rw [← hi1_] at hew hfm
              first
                | (exact ⟨rfl, hfm.tr (fun a b q1 q2 q3 q4 => by rw [g1]; simp only [mU]; rw [if_neg (by omega)]), ot_res hs hg hl hn hd hew (Or.inr ⟨hz1, Or.inl ⟨by omega, by omega, by omega, g1⟩⟩)⟩)
                | (exact ⟨rfl, hfm.tr (fun a b q1 q2 q3 q4 => by rw [g3]; simp only [mU]; rw [if_neg (by omega), if_neg (by omega)]), ot_res hs hg hl hn hd hew (Or.inr ⟨hz1, Or.inr (Or.inl ⟨by omega, by omega, by omega, g3⟩)⟩)⟩)
                | (exact ⟨rfl, hfm.tr (fun a b q1 q2 q3 q4 => by rw [g5]; simp only [mU]; rw [if_neg (by omega), if_neg (by omega)]), ot_res hs hg hl hn hd hew (Or.inr ⟨hz1, Or.inr (Or.inr (Or.inl ⟨by omega, by omega, by rw [g5]; first | rw [if_pos (by omega)] | rw [if_neg (by omega)]⟩))⟩)⟩)
                | (exact ⟨rfl, hfm.tr (fun a b q1 q2 q3 q4 => by rw [g6]; simp only [mU]; rw [if_neg (by omega), if_neg (by omega)]), ot_res hs hg hl hn hd hew (Or.inr ⟨hz1, Or.inr (Or.inr (Or.inr ⟨by omega, by omega, by omega, g6⟩))⟩)⟩)
            · refine x_aload_n 52 rfl rfl ?_
              refine x_dup 53 rfl rfl ?_
              refine x_getI 54 (z := i2 189 20) rfl fl_X9_154 (n_lt rfl) k_189 rfl rfl ?_
              refine x_aload_n 55 rfl rfl ?_
              refine x_getI 56 (z := i2 189 26) rfl fl_X9_145 (n_lt rfl) k_189 rfl rfl ?_
              refine x_if_ne 57 (tgt := 115) rfl (by decide) (by omega) (fun h28 => ?_) (fun h28 => ?_)
              · refine x_iconst 60 rfl ?_
                refine x_iadd 61 (r := (i2 189 20) + 1) rfl rfl ?_
                obtain ⟨i29, hi29⟩ : ∃ f, f = mU i2 189 20 ((i2 189 20) + 1) := ⟨_, rfl⟩
                refine x_putI 62 rfl fl_X9_154 (n_lt rfl) k_189 rfl rfl (g' := st i29 li2) (by subst hi29; rfl) ?_
                have g4 := hi29
                refine x_aload_n 63 rfl rfl ?_
                refine x_iconst 64 rfl ?_
                obtain ⟨i30, hi30⟩ : ∃ f, f = mU i29 189 26 (0) := ⟨_, rfl⟩
                refine x_putI 65 rfl fl_X9_145 (n_lt rfl) k_189 rfl rfl (g' := st i30 li2) (by subst hi30; rfl) ?_
                have g5 := hi30
                rw [g4, ← hi1_] at g5
                refine x_goto 66 (tgt := 134) rfl (by decide) ?_
                refine x_ret 71 none rfl ⟨rfl, rfl⟩ ⟨rfl, i30, li2, rfl, ?_⟩
                have hz1 : z3 = 1 := by omega
                rw [← hi1_] at hew hfm
                first
                  | (exact ⟨rfl, hfm.tr (fun a b q1 q2 q3 q4 => by rw [g1]; simp only [mU]; rw [if_neg (by omega)]), ot_res hs hg hl hn hd hew (Or.inr ⟨hz1, Or.inl ⟨by omega, by omega, by omega, g1⟩⟩)⟩)
                  | (exact ⟨rfl, hfm.tr (fun a b q1 q2 q3 q4 => by rw [g3]; simp only [mU]; rw [if_neg (by omega), if_neg (by omega)]), ot_res hs hg hl hn hd hew (Or.inr ⟨hz1, Or.inr (Or.inl ⟨by omega, by omega, by omega, g3⟩)⟩)⟩)
                  | (exact ⟨rfl, hfm.tr (fun a b q1 q2 q3 q4 => by rw [g5]; simp only [mU]; rw [if_neg (by omega), if_neg (by omega)]), ot_res hs hg hl hn hd hew (Or.inr ⟨hz1, Or.inr (Or.inr (Or.inl ⟨by omega, by omega, by rw [g5]; first | rw [if_pos (by omega)] | rw [if_neg (by omega)]⟩))⟩)⟩)
                  | (exact ⟨rfl, hfm.tr (fun a b q1 q2 q3 q4 => by rw [g6]; simp only [mU]; rw [if_neg (by omega), if_neg (by omega)]), ot_res hs hg hl hn hd hew (Or.inr ⟨hz1, Or.inr (Or.inr (Or.inr ⟨by omega, by omega, by omega, g6⟩))⟩)⟩)
              · refine x_iconst 58 rfl ?_
                refine x_goto 59 (tgt := 116) rfl (by decide) ?_
                refine x_iadd 61 (r := (i2 189 20) + 0) rfl rfl ?_
                obtain ⟨i31, hi31⟩ : ∃ f, f = mU i2 189 20 ((i2 189 20) + 0) := ⟨_, rfl⟩
                refine x_putI 62 rfl fl_X9_154 (n_lt rfl) k_189 rfl rfl (g' := st i31 li2) (by subst hi31; rfl) ?_
                have g4 := hi31
                refine x_aload_n 63 rfl rfl ?_
                refine x_iconst 64 rfl ?_
                obtain ⟨i32, hi32⟩ : ∃ f, f = mU i31 189 26 (0) := ⟨_, rfl⟩
                refine x_putI 65 rfl fl_X9_145 (n_lt rfl) k_189 rfl rfl (g' := st i32 li2) (by subst hi32; rfl) ?_
                have g5 := hi32
                rw [g4, ← hi1_] at g5
                refine x_goto 66 (tgt := 134) rfl (by decide) ?_
                refine x_ret 71 none rfl ⟨rfl, rfl⟩ ⟨rfl, i32, li2, rfl, ?_⟩
                have hz1 : z3 = 1 := by omega
                rw [← hi1_] at hew hfm
                first
                  | (exact ⟨rfl, hfm.tr (fun a b q1 q2 q3 q4 => by rw [g1]; simp only [mU]; rw [if_neg (by omega)]), ot_res hs hg hl hn hd hew (Or.inr ⟨hz1, Or.inl ⟨by omega, by omega, by omega, g1⟩⟩)⟩)
                  | (exact ⟨rfl, hfm.tr (fun a b q1 q2 q3 q4 => by rw [g3]; simp only [mU]; rw [if_neg (by omega), if_neg (by omega)]), ot_res hs hg hl hn hd hew (Or.inr ⟨hz1, Or.inr (Or.inl ⟨by omega, by omega, by omega, g3⟩)⟩)⟩)
                  | (exact ⟨rfl, hfm.tr (fun a b q1 q2 q3 q4 => by rw [g5]; simp only [mU]; rw [if_neg (by omega), if_neg (by omega)]), ot_res hs hg hl hn hd hew (Or.inr ⟨hz1, Or.inr (Or.inr (Or.inl ⟨by omega, by omega, by rw [g5]; first | rw [if_pos (by omega)] | rw [if_neg (by omega)]⟩))⟩)⟩)
                  | (exact ⟨rfl, hfm.tr (fun a b q1 q2 q3 q4 => by rw [g6]; simp only [mU]; rw [if_neg (by omega), if_neg (by omega)]), ot_res hs hg hl hn hd hew (Or.inr ⟨hz1, Or.inr (Or.inr (Or.inr ⟨by omega, by omega, by omega, g6⟩))⟩)⟩)
        · refine x_iload_n 32 rfl rfl ?_
          refine x_bipush 33 rfl (by decide) ?_
          refine x_icmp_ne 34 (tgt := 85) rfl (by decide) (by omega) (fun h33 => ?_) (fun h33 => ?_)
          · refine x_iload_n 45 rfl rfl ?_
            refine x_bipush 46 rfl (by decide) ?_
            refine x_icmp_ne 47 (tgt := 128) rfl (by decide) (by omega) (fun h34 => ?_) (fun h34 => ?_)
            · refine x_aload_n 67 rfl rfl ?_
              refine x_iconst 68 rfl ?_
              refine x_iload_n 69 rfl rfl ?_
              refine x_callV 70 m_X9_fails r_fails rfl ok_X9_fails (n_lt rfl) k_189 rfl rfl ml_X9_160 im_X9_fails se_X9_fails rfl (by decide) rfl (Nat.le_of_ble_eq_true rfl) rfl rfl (fun v g q35 => ?_)
              obtain ⟨rfl, i36, li36, rfl, hi36⟩ := q35
              obtain ⟨hEi36, hi36⟩ := hi36
              have hEi36 := hEi36.symm
              subst hEi36
              show mX m_X9_readOther 3 _ 0 0 _ _ [] _
              have g6 := hi36
              rw [← hi1_] at g6
              refine x_ret 71 none rfl ⟨rfl, rfl⟩ ⟨rfl, i36, li2, rfl, ?_⟩
              have hz1 : z3 = 1 := by omega
              rw [← hi1_] at hew hfm
              first
                | (exact ⟨rfl, hfm.tr (fun a b q1 q2 q3 q4 => by rw [g1]; simp only [mU]; rw [if_neg (by omega)]), ot_res hs hg hl hn hd hew (Or.inr ⟨hz1, Or.inl ⟨by omega, by omega, by omega, g1⟩⟩)⟩)
                | (exact ⟨rfl, hfm.tr (fun a b q1 q2 q3 q4 => by rw [g3]; simp only [mU]; rw [if_neg (by omega), if_neg (by omega)]), ot_res hs hg hl hn hd hew (Or.inr ⟨hz1, Or.inr (Or.inl ⟨by omega, by omega, by omega, g3⟩)⟩)⟩)
                | (exact ⟨rfl, hfm.tr (fun a b q1 q2 q3 q4 => by rw [g5]; simp only [mU]; rw [if_neg (by omega), if_neg (by omega)]), ot_res hs hg hl hn hd hew (Or.inr ⟨hz1, Or.inr (Or.inr (Or.inl ⟨by omega, by omega, by rw [g5]; first | rw [if_pos (by omega)] | rw [if_neg (by omega)]⟩))⟩)⟩)
                | (exact ⟨rfl, hfm.tr (fun a b q1 q2 q3 q4 => by rw [g6]; simp only [mU]; rw [if_neg (by omega), if_neg (by omega)]), ot_res hs hg hl hn hd hew (Or.inr ⟨hz1, Or.inr (Or.inr (Or.inr ⟨by omega, by omega, by omega, g6⟩))⟩)⟩)
            · refine x_aload_n 48 rfl rfl ?_
              refine x_getI 49 (z := i2 189 26) rfl fl_X9_145 (n_lt rfl) k_189 rfl rfl ?_
              refine x_iconst 50 rfl ?_
              refine x_icmp_eq 51 (tgt := 128) rfl (by decide) (by omega) (fun h37 => ?_) (fun h37 => ?_)
              · refine x_aload_n 67 rfl rfl ?_
                refine x_iconst 68 rfl ?_
                refine x_iload_n 69 rfl rfl ?_
                refine x_callV 70 m_X9_fails r_fails rfl ok_X9_fails (n_lt rfl) k_189 rfl rfl ml_X9_160 im_X9_fails se_X9_fails rfl (by decide) rfl (Nat.le_of_ble_eq_true rfl) rfl rfl (fun v g q38 => ?_)
                obtain ⟨rfl, i39, li39, rfl, hi39⟩ := q38
                obtain ⟨hEi39, hi39⟩ := hi39
                have hEi39 := hEi39.symm
                subst hEi39
                show mX m_X9_readOther 3 _ 0 0 _ _ [] _
                have g6 := hi39
                rw [← hi1_] at g6
                refine x_ret 71 none rfl ⟨rfl, rfl⟩ ⟨rfl, i39, li2, rfl, ?_⟩
                have hz1 : z3 = 1 := by omega
                rw [← hi1_] at hew hfm
                first
                  | (exact ⟨rfl, hfm.tr (fun a b q1 q2 q3 q4 => by rw [g1]; simp only [mU]; rw [if_neg (by omega)]), ot_res hs hg hl hn hd hew (Or.inr ⟨hz1, Or.inl ⟨by omega, by omega, by omega, g1⟩⟩)⟩)
                  | (exact ⟨rfl, hfm.tr (fun a b q1 q2 q3 q4 => by rw [g3]; simp only [mU]; rw [if_neg (by omega), if_neg (by omega)]), ot_res hs hg hl hn hd hew (Or.inr ⟨hz1, Or.inr (Or.inl ⟨by omega, by omega, by omega, g3⟩)⟩)⟩)
                  | (exact ⟨rfl, hfm.tr (fun a b q1 q2 q3 q4 => by rw [g5]; simp only [mU]; rw [if_neg (by omega), if_neg (by omega)]), ot_res hs hg hl hn hd hew (Or.inr ⟨hz1, Or.inr (Or.inr (Or.inl ⟨by omega, by omega, by rw [g5]; first | rw [if_pos (by omega)] | rw [if_neg (by omega)]⟩))⟩)⟩)
                  | (exact ⟨rfl, hfm.tr (fun a b q1 q2 q3 q4 => by rw [g6]; simp only [mU]; rw [if_neg (by omega), if_neg (by omega)]), ot_res hs hg hl hn hd hew (Or.inr ⟨hz1, Or.inr (Or.inr (Or.inr ⟨by omega, by omega, by omega, g6⟩))⟩)⟩)
              · refine x_aload_n 52 rfl rfl ?_
                refine x_dup 53 rfl rfl ?_
                refine x_getI 54 (z := i2 189 20) rfl fl_X9_154 (n_lt rfl) k_189 rfl rfl ?_
                refine x_aload_n 55 rfl rfl ?_
                refine x_getI 56 (z := i2 189 26) rfl fl_X9_145 (n_lt rfl) k_189 rfl rfl ?_
                refine x_if_ne 57 (tgt := 115) rfl (by decide) (by omega) (fun h40 => ?_) (fun h40 => ?_)
                · refine x_iconst 60 rfl ?_
                  refine x_iadd 61 (r := (i2 189 20) + 1) rfl rfl ?_
                  obtain ⟨i41, hi41⟩ : ∃ f, f = mU i2 189 20 ((i2 189 20) + 1) := ⟨_, rfl⟩
                  refine x_putI 62 rfl fl_X9_154 (n_lt rfl) k_189 rfl rfl (g' := st i41 li2) (by subst hi41; rfl) ?_
                  have g4 := hi41
                  refine x_aload_n 63 rfl rfl ?_
                  refine x_iconst 64 rfl ?_
                  obtain ⟨i42, hi42⟩ : ∃ f, f = mU i41 189 26 (0) := ⟨_, rfl⟩
                  refine x_putI 65 rfl fl_X9_145 (n_lt rfl) k_189 rfl rfl (g' := st i42 li2) (by subst hi42; rfl) ?_
                  have g5 := hi42
                  rw [g4, ← hi1_] at g5
                  refine x_goto 66 (tgt := 134) rfl (by decide) ?_
                  refine x_ret 71 none rfl ⟨rfl, rfl⟩ ⟨rfl, i42, li2, rfl, ?_⟩
                  have hz1 : z3 = 1 := by omega
                  rw [← hi1_] at hew hfm
                  first
                    | (exact ⟨rfl, hfm.tr (fun a b q1 q2 q3 q4 => by rw [g1]; simp only [mU]; rw [if_neg (by omega)]), ot_res hs hg hl hn hd hew (Or.inr ⟨hz1, Or.inl ⟨by omega, by omega, by omega, g1⟩⟩)⟩)
                    | (exact ⟨rfl, hfm.tr (fun a b q1 q2 q3 q4 => by rw [g3]; simp only [mU]; rw [if_neg (by omega), if_neg (by omega)]), ot_res hs hg hl hn hd hew (Or.inr ⟨hz1, Or.inr (Or.inl ⟨by omega, by omega, by omega, g3⟩)⟩)⟩)
                    | (exact ⟨rfl, hfm.tr (fun a b q1 q2 q3 q4 => by rw [g5]; simp only [mU]; rw [if_neg (by omega), if_neg (by omega)]), ot_res hs hg hl hn hd hew (Or.inr ⟨hz1, Or.inr (Or.inr (Or.inl ⟨by omega, by omega, by rw [g5]; first | rw [if_pos (by omega)] | rw [if_neg (by omega)]⟩))⟩)⟩)
                    | (exact ⟨rfl, hfm.tr (fun a b q1 q2 q3 q4 => by rw [g6]; simp only [mU]; rw [if_neg (by omega), if_neg (by omega)]), ot_res hs hg hl hn hd hew (Or.inr ⟨hz1, Or.inr (Or.inr (Or.inr ⟨by omega, by omega, by omega, g6⟩))⟩)⟩)
                · refine x_iconst 58 rfl ?_
                  refine x_goto 59 (tgt := 116) rfl (by decide) ?_
                  refine x_iadd 61 (r := (i2 189 20) + 0) rfl rfl ?_
                  obtain ⟨i43, hi43⟩ : ∃ f, f = mU i2 189 20 ((i2 189 20) + 0) := ⟨_, rfl⟩
                  refine x_putI 62 rfl fl_X9_154 (n_lt rfl) k_189 rfl rfl (g' := st i43 li2) (by subst hi43; rfl) ?_
                  have g4 := hi43
                  refine x_aload_n 63 rfl rfl ?_
                  refine x_iconst 64 rfl ?_
                  obtain ⟨i44, hi44⟩ : ∃ f, f = mU i43 189 26 (0) := ⟨_, rfl⟩
                  refine x_putI 65 rfl fl_X9_145 (n_lt rfl) k_189 rfl rfl (g' := st i44 li2) (by subst hi44; rfl) ?_
                  have g5 := hi44
                  rw [g4, ← hi1_] at g5
                  refine x_goto 66 (tgt := 134) rfl (by decide) ?_
                  refine x_ret 71 none rfl ⟨rfl, rfl⟩ ⟨rfl, i44, li2, rfl, ?_⟩
                  have hz1 : z3 = 1 := by omega
                  rw [← hi1_] at hew hfm
                  first
                    | (exact ⟨rfl, hfm.tr (fun a b q1 q2 q3 q4 => by rw [g1]; simp only [mU]; rw [if_neg (by omega)]), ot_res hs hg hl hn hd hew (Or.inr ⟨hz1, Or.inl ⟨by omega, by omega, by omega, g1⟩⟩)⟩)
                    | (exact ⟨rfl, hfm.tr (fun a b q1 q2 q3 q4 => by rw [g3]; simp only [mU]; rw [if_neg (by omega), if_neg (by omega)]), ot_res hs hg hl hn hd hew (Or.inr ⟨hz1, Or.inr (Or.inl ⟨by omega, by omega, by omega, g3⟩)⟩)⟩)
                    | (exact ⟨rfl, hfm.tr (fun a b q1 q2 q3 q4 => by rw [g5]; simp only [mU]; rw [if_neg (by omega), if_neg (by omega)]), ot_res hs hg hl hn hd hew (Or.inr ⟨hz1, Or.inr (Or.inr (Or.inl ⟨by omega, by omega, by rw [g5]; first | rw [if_pos (by omega)] | rw [if_neg (by omega)]⟩))⟩)⟩)
                    | (exact ⟨rfl, hfm.tr (fun a b q1 q2 q3 q4 => by rw [g6]; simp only [mU]; rw [if_neg (by omega), if_neg (by omega)]), ot_res hs hg hl hn hd hew (Or.inr ⟨hz1, Or.inr (Or.inr (Or.inr ⟨by omega, by omega, by omega, g6⟩))⟩)⟩)
          · refine x_aload_n 35 rfl rfl ?_
            refine x_getR 36 (z := 203) rfl fl_X9_56 (n_lt rfl) k_189 rfl r_189_23 ?_
            refine x_aload_n 37 rfl rfl ?_
            refine x_getI 38 (z := i2 189 20) rfl fl_X9_154 (n_lt rfl) k_189 rfl rfl ?_
            refine x_iconst 39 rfl ?_
            obtain ⟨i45, hi45⟩ : ∃ f, f = mU i2 203 (i2 189 20) (0) := ⟨_, rfl⟩
            refine x_iast 40 rfl (n_lt rfl) k_203 (by omega) (g' := st i45 li2) (by subst hi45; rfl) ?_
            have g2 := hi45
            refine x_aload_n 41 rfl rfl ?_
            refine x_iconst 42 rfl ?_
            obtain ⟨i46, hi46⟩ : ∃ f, f = mU i45 189 26 (4) := ⟨_, rfl⟩
            refine x_putI 43 rfl fl_X9_145 (n_lt rfl) k_189 rfl rfl (g' := st i46 li2) (by subst hi46; rfl) ?_
            have g3 := hi46
            rw [g2, ← hi1_] at g3
            refine x_goto 44 (tgt := 134) rfl (by decide) ?_
            refine x_ret 71 none rfl ⟨rfl, rfl⟩ ⟨rfl, i46, li2, rfl, ?_⟩
            have hz1 : z3 = 1 := by omega
            rw [← hi1_] at hew hfm
            first
              | (exact ⟨rfl, hfm.tr (fun a b q1 q2 q3 q4 => by rw [g1]; simp only [mU]; rw [if_neg (by omega)]), ot_res hs hg hl hn hd hew (Or.inr ⟨hz1, Or.inl ⟨by omega, by omega, by omega, g1⟩⟩)⟩)
              | (exact ⟨rfl, hfm.tr (fun a b q1 q2 q3 q4 => by rw [g3]; simp only [mU]; rw [if_neg (by omega), if_neg (by omega)]), ot_res hs hg hl hn hd hew (Or.inr ⟨hz1, Or.inr (Or.inl ⟨by omega, by omega, by omega, g3⟩)⟩)⟩)
              | (exact ⟨rfl, hfm.tr (fun a b q1 q2 q3 q4 => by rw [g5]; simp only [mU]; rw [if_neg (by omega), if_neg (by omega)]), ot_res hs hg hl hn hd hew (Or.inr ⟨hz1, Or.inr (Or.inr (Or.inl ⟨by omega, by omega, by rw [g5]; first | rw [if_pos (by omega)] | rw [if_neg (by omega)]⟩))⟩)⟩)
              | (exact ⟨rfl, hfm.tr (fun a b q1 q2 q3 q4 => by rw [g6]; simp only [mU]; rw [if_neg (by omega), if_neg (by omega)]), ot_res hs hg hl hn hd hew (Or.inr ⟨hz1, Or.inr (Or.inr (Or.inr ⟨by omega, by omega, by omega, g6⟩))⟩)⟩)
      · refine x_iload_n 15 rfl rfl ?_
        refine x_bipush 16 rfl (by decide) ?_
        refine x_icmp_ne 17 (tgt := 41) rfl (by decide) (by omega) (fun h47 => ?_) (fun h47 => ?_)
        · refine x_iload_n 22 rfl rfl ?_
          refine x_if_eq 23 (tgt := 85) rfl (by decide) (by omega) (fun h48 => absurd h48 (by omega)) (fun h48 => ?_)
          refine x_aload_n 24 rfl rfl ?_
          refine x_getI 25 (z := i2 189 26) rfl fl_X9_145 (n_lt rfl) k_189 rfl rfl ?_
          refine x_iconst 26 rfl ?_
          refine x_icmp_eq 27 (tgt := 61) rfl (by decide) (by omega) (fun h49 => ?_) (fun h49 => absurd h49 (by omega))
          refine x_iload_n 32 rfl rfl ?_
          refine x_bipush 33 rfl (by decide) ?_
          refine x_icmp_ne 34 (tgt := 85) rfl (by decide) (by omega) (fun h50 => ?_) (fun h50 => ?_)
          · refine x_iload_n 45 rfl rfl ?_
            refine x_bipush 46 rfl (by decide) ?_
            refine x_icmp_ne 47 (tgt := 128) rfl (by decide) (by omega) (fun h51 => ?_) (fun h51 => ?_)
            · refine x_aload_n 67 rfl rfl ?_
              refine x_iconst 68 rfl ?_
              refine x_iload_n 69 rfl rfl ?_
              refine x_callV 70 m_X9_fails r_fails rfl ok_X9_fails (n_lt rfl) k_189 rfl rfl ml_X9_160 im_X9_fails se_X9_fails rfl (by decide) rfl (Nat.le_of_ble_eq_true rfl) rfl rfl (fun v g q52 => ?_)
              obtain ⟨rfl, i53, li53, rfl, hi53⟩ := q52
              obtain ⟨hEi53, hi53⟩ := hi53
              have hEi53 := hEi53.symm
              subst hEi53
              show mX m_X9_readOther 3 _ 0 0 _ _ [] _
              have g6 := hi53
              rw [← hi1_] at g6
              refine x_ret 71 none rfl ⟨rfl, rfl⟩ ⟨rfl, i53, li2, rfl, ?_⟩
              have hz1 : z3 = 1 := by omega
              rw [← hi1_] at hew hfm
              first
                | (exact ⟨rfl, hfm.tr (fun a b q1 q2 q3 q4 => by rw [g1]; simp only [mU]; rw [if_neg (by omega)]), ot_res hs hg hl hn hd hew (Or.inr ⟨hz1, Or.inl ⟨by omega, by omega, by omega, g1⟩⟩)⟩)
                | (exact ⟨rfl, hfm.tr (fun a b q1 q2 q3 q4 => by rw [g3]; simp only [mU]; rw [if_neg (by omega), if_neg (by omega)]), ot_res hs hg hl hn hd hew (Or.inr ⟨hz1, Or.inr (Or.inl ⟨by omega, by omega, by omega, g3⟩)⟩)⟩)
                | (exact ⟨rfl, hfm.tr (fun a b q1 q2 q3 q4 => by rw [g5]; simp only [mU]; rw [if_neg (by omega), if_neg (by omega)]), ot_res hs hg hl hn hd hew (Or.inr ⟨hz1, Or.inr (Or.inr (Or.inl ⟨by omega, by omega, by rw [g5]; first | rw [if_pos (by omega)] | rw [if_neg (by omega)]⟩))⟩)⟩)
                | (exact ⟨rfl, hfm.tr (fun a b q1 q2 q3 q4 => by rw [g6]; simp only [mU]; rw [if_neg (by omega), if_neg (by omega)]), ot_res hs hg hl hn hd hew (Or.inr ⟨hz1, Or.inr (Or.inr (Or.inr ⟨by omega, by omega, by omega, g6⟩))⟩)⟩)
            · refine x_aload_n 48 rfl rfl ?_
              refine x_getI 49 (z := i2 189 26) rfl fl_X9_145 (n_lt rfl) k_189 rfl rfl ?_
              refine x_iconst 50 rfl ?_
              refine x_icmp_eq 51 (tgt := 128) rfl (by decide) (by omega) (fun h54 => ?_) (fun h54 => ?_)
              · refine x_aload_n 67 rfl rfl ?_
                refine x_iconst 68 rfl ?_
                refine x_iload_n 69 rfl rfl ?_
                refine x_callV 70 m_X9_fails r_fails rfl ok_X9_fails (n_lt rfl) k_189 rfl rfl ml_X9_160 im_X9_fails se_X9_fails rfl (by decide) rfl (Nat.le_of_ble_eq_true rfl) rfl rfl (fun v g q55 => ?_)
                obtain ⟨rfl, i56, li56, rfl, hi56⟩ := q55
                obtain ⟨hEi56, hi56⟩ := hi56
                have hEi56 := hEi56.symm
                subst hEi56
                show mX m_X9_readOther 3 _ 0 0 _ _ [] _
                have g6 := hi56
                rw [← hi1_] at g6
                refine x_ret 71 none rfl ⟨rfl, rfl⟩ ⟨rfl, i56, li2, rfl, ?_⟩
                have hz1 : z3 = 1 := by omega
                rw [← hi1_] at hew hfm
                first
                  | (exact ⟨rfl, hfm.tr (fun a b q1 q2 q3 q4 => by rw [g1]; simp only [mU]; rw [if_neg (by omega)]), ot_res hs hg hl hn hd hew (Or.inr ⟨hz1, Or.inl ⟨by omega, by omega, by omega, g1⟩⟩)⟩)
                  | (exact ⟨rfl, hfm.tr (fun a b q1 q2 q3 q4 => by rw [g3]; simp only [mU]; rw [if_neg (by omega), if_neg (by omega)]), ot_res hs hg hl hn hd hew (Or.inr ⟨hz1, Or.inr (Or.inl ⟨by omega, by omega, by omega, g3⟩)⟩)⟩)
                  | (exact ⟨rfl, hfm.tr (fun a b q1 q2 q3 q4 => by rw [g5]; simp only [mU]; rw [if_neg (by omega), if_neg (by omega)]), ot_res hs hg hl hn hd hew (Or.inr ⟨hz1, Or.inr (Or.inr (Or.inl ⟨by omega, by omega, by rw [g5]; first | rw [if_pos (by omega)] | rw [if_neg (by omega)]⟩))⟩)⟩)
                  | (exact ⟨rfl, hfm.tr (fun a b q1 q2 q3 q4 => by rw [g6]; simp only [mU]; rw [if_neg (by omega), if_neg (by omega)]), ot_res hs hg hl hn hd hew (Or.inr ⟨hz1, Or.inr (Or.inr (Or.inr ⟨by omega, by omega, by omega, g6⟩))⟩)⟩)
              · refine x_aload_n 52 rfl rfl ?_
                refine x_dup 53 rfl rfl ?_
                refine x_getI 54 (z := i2 189 20) rfl fl_X9_154 (n_lt rfl) k_189 rfl rfl ?_
                refine x_aload_n 55 rfl rfl ?_
                refine x_getI 56 (z := i2 189 26) rfl fl_X9_145 (n_lt rfl) k_189 rfl rfl ?_
                refine x_if_ne 57 (tgt := 115) rfl (by decide) (by omega) (fun h57 => ?_) (fun h57 => ?_)
                · refine x_iconst 60 rfl ?_
                  refine x_iadd 61 (r := (i2 189 20) + 1) rfl rfl ?_
                  obtain ⟨i58, hi58⟩ : ∃ f, f = mU i2 189 20 ((i2 189 20) + 1) := ⟨_, rfl⟩
                  refine x_putI 62 rfl fl_X9_154 (n_lt rfl) k_189 rfl rfl (g' := st i58 li2) (by subst hi58; rfl) ?_
                  have g4 := hi58
                  refine x_aload_n 63 rfl rfl ?_
                  refine x_iconst 64 rfl ?_
                  obtain ⟨i59, hi59⟩ : ∃ f, f = mU i58 189 26 (0) := ⟨_, rfl⟩
                  refine x_putI 65 rfl fl_X9_145 (n_lt rfl) k_189 rfl rfl (g' := st i59 li2) (by subst hi59; rfl) ?_
                  have g5 := hi59
                  rw [g4, ← hi1_] at g5
                  refine x_goto 66 (tgt := 134) rfl (by decide) ?_
                  refine x_ret 71 none rfl ⟨rfl, rfl⟩ ⟨rfl, i59, li2, rfl, ?_⟩
                  have hz1 : z3 = 1 := by omega
                  rw [← hi1_] at hew hfm
                  first
                    | (exact ⟨rfl, hfm.tr (fun a b q1 q2 q3 q4 => by rw [g1]; simp only [mU]; rw [if_neg (by omega)]), ot_res hs hg hl hn hd hew (Or.inr ⟨hz1, Or.inl ⟨by omega, by omega, by omega, g1⟩⟩)⟩)
                    | (exact ⟨rfl, hfm.tr (fun a b q1 q2 q3 q4 => by rw [g3]; simp only [mU]; rw [if_neg (by omega), if_neg (by omega)]), ot_res hs hg hl hn hd hew (Or.inr ⟨hz1, Or.inr (Or.inl ⟨by omega, by omega, by omega, g3⟩)⟩)⟩)
                    | (exact ⟨rfl, hfm.tr (fun a b q1 q2 q3 q4 => by rw [g5]; simp only [mU]; rw [if_neg (by omega), if_neg (by omega)]), ot_res hs hg hl hn hd hew (Or.inr ⟨hz1, Or.inr (Or.inr (Or.inl ⟨by omega, by omega, by rw [g5]; first | rw [if_pos (by omega)] | rw [if_neg (by omega)]⟩))⟩)⟩)
                    | (exact ⟨rfl, hfm.tr (fun a b q1 q2 q3 q4 => by rw [g6]; simp only [mU]; rw [if_neg (by omega), if_neg (by omega)]), ot_res hs hg hl hn hd hew (Or.inr ⟨hz1, Or.inr (Or.inr (Or.inr ⟨by omega, by omega, by omega, g6⟩))⟩)⟩)
                · refine x_iconst 58 rfl ?_
                  refine x_goto 59 (tgt := 116) rfl (by decide) ?_
                  refine x_iadd 61 (r := (i2 189 20) + 0) rfl rfl ?_
                  obtain ⟨i60, hi60⟩ : ∃ f, f = mU i2 189 20 ((i2 189 20) + 0) := ⟨_, rfl⟩
                  refine x_putI 62 rfl fl_X9_154 (n_lt rfl) k_189 rfl rfl (g' := st i60 li2) (by subst hi60; rfl) ?_
                  have g4 := hi60
                  refine x_aload_n 63 rfl rfl ?_
                  refine x_iconst 64 rfl ?_
                  obtain ⟨i61, hi61⟩ : ∃ f, f = mU i60 189 26 (0) := ⟨_, rfl⟩
                  refine x_putI 65 rfl fl_X9_145 (n_lt rfl) k_189 rfl rfl (g' := st i61 li2) (by subst hi61; rfl) ?_
                  have g5 := hi61
                  rw [g4, ← hi1_] at g5
                  refine x_goto 66 (tgt := 134) rfl (by decide) ?_
                  refine x_ret 71 none rfl ⟨rfl, rfl⟩ ⟨rfl, i61, li2, rfl, ?_⟩
                  have hz1 : z3 = 1 := by omega
                  rw [← hi1_] at hew hfm
                  first
                    | (exact ⟨rfl, hfm.tr (fun a b q1 q2 q3 q4 => by rw [g1]; simp only [mU]; rw [if_neg (by omega)]), ot_res hs hg hl hn hd hew (Or.inr ⟨hz1, Or.inl ⟨by omega, by omega, by omega, g1⟩⟩)⟩)
                    | (exact ⟨rfl, hfm.tr (fun a b q1 q2 q3 q4 => by rw [g3]; simp only [mU]; rw [if_neg (by omega), if_neg (by omega)]), ot_res hs hg hl hn hd hew (Or.inr ⟨hz1, Or.inr (Or.inl ⟨by omega, by omega, by omega, g3⟩)⟩)⟩)
                    | (exact ⟨rfl, hfm.tr (fun a b q1 q2 q3 q4 => by rw [g5]; simp only [mU]; rw [if_neg (by omega), if_neg (by omega)]), ot_res hs hg hl hn hd hew (Or.inr ⟨hz1, Or.inr (Or.inr (Or.inl ⟨by omega, by omega, by rw [g5]; first | rw [if_pos (by omega)] | rw [if_neg (by omega)]⟩))⟩)⟩)
                    | (exact ⟨rfl, hfm.tr (fun a b q1 q2 q3 q4 => by rw [g6]; simp only [mU]; rw [if_neg (by omega), if_neg (by omega)]), ot_res hs hg hl hn hd hew (Or.inr ⟨hz1, Or.inr (Or.inr (Or.inr ⟨by omega, by omega, by omega, g6⟩))⟩)⟩)
          · refine x_aload_n 35 rfl rfl ?_
            refine x_getR 36 (z := 203) rfl fl_X9_56 (n_lt rfl) k_189 rfl r_189_23 ?_
            refine x_aload_n 37 rfl rfl ?_
            refine x_getI 38 (z := i2 189 20) rfl fl_X9_154 (n_lt rfl) k_189 rfl rfl ?_
            refine x_iconst 39 rfl ?_
            obtain ⟨i62, hi62⟩ : ∃ f, f = mU i2 203 (i2 189 20) (0) := ⟨_, rfl⟩
            refine x_iast 40 rfl (n_lt rfl) k_203 (by omega) (g' := st i62 li2) (by subst hi62; rfl) ?_
            have g2 := hi62
            refine x_aload_n 41 rfl rfl ?_
            refine x_iconst 42 rfl ?_
            obtain ⟨i63, hi63⟩ : ∃ f, f = mU i62 189 26 (4) := ⟨_, rfl⟩
            refine x_putI 43 rfl fl_X9_145 (n_lt rfl) k_189 rfl rfl (g' := st i63 li2) (by subst hi63; rfl) ?_
            have g3 := hi63
            rw [g2, ← hi1_] at g3
            refine x_goto 44 (tgt := 134) rfl (by decide) ?_
            refine x_ret 71 none rfl ⟨rfl, rfl⟩ ⟨rfl, i63, li2, rfl, ?_⟩
            have hz1 : z3 = 1 := by omega
            rw [← hi1_] at hew hfm
            first
              | (exact ⟨rfl, hfm.tr (fun a b q1 q2 q3 q4 => by rw [g1]; simp only [mU]; rw [if_neg (by omega)]), ot_res hs hg hl hn hd hew (Or.inr ⟨hz1, Or.inl ⟨by omega, by omega, by omega, g1⟩⟩)⟩)
              | (exact ⟨rfl, hfm.tr (fun a b q1 q2 q3 q4 => by rw [g3]; simp only [mU]; rw [if_neg (by omega), if_neg (by omega)]), ot_res hs hg hl hn hd hew (Or.inr ⟨hz1, Or.inr (Or.inl ⟨by omega, by omega, by omega, g3⟩)⟩)⟩)
              | (exact ⟨rfl, hfm.tr (fun a b q1 q2 q3 q4 => by rw [g5]; simp only [mU]; rw [if_neg (by omega), if_neg (by omega)]), ot_res hs hg hl hn hd hew (Or.inr ⟨hz1, Or.inr (Or.inr (Or.inl ⟨by omega, by omega, by rw [g5]; first | rw [if_pos (by omega)] | rw [if_neg (by omega)]⟩))⟩)⟩)
              | (exact ⟨rfl, hfm.tr (fun a b q1 q2 q3 q4 => by rw [g6]; simp only [mU]; rw [if_neg (by omega), if_neg (by omega)]), ot_res hs hg hl hn hd hew (Or.inr ⟨hz1, Or.inr (Or.inr (Or.inr ⟨by omega, by omega, by omega, g6⟩))⟩)⟩)
        · refine x_aload_n 18 rfl rfl ?_
          refine x_iconst 19 rfl ?_
          obtain ⟨i64, hi64⟩ : ∃ f, f = mU i2 189 26 (2) := ⟨_, rfl⟩
          refine x_putI 20 rfl fl_X9_145 (n_lt rfl) k_189 rfl rfl (g' := st i64 li2) (by subst hi64; rfl) ?_
          have g1 := hi64
          rw [← hi1_] at g1
          refine x_goto 21 (tgt := 134) rfl (by decide) ?_
          refine x_ret 71 none rfl ⟨rfl, rfl⟩ ⟨rfl, i64, li2, rfl, ?_⟩
          have hz1 : z3 = 1 := by omega
          rw [← hi1_] at hew hfm
          first
            | (exact ⟨rfl, hfm.tr (fun a b q1 q2 q3 q4 => by rw [g1]; simp only [mU]; rw [if_neg (by omega)]), ot_res hs hg hl hn hd hew (Or.inr ⟨hz1, Or.inl ⟨by omega, by omega, by omega, g1⟩⟩)⟩)
            | (exact ⟨rfl, hfm.tr (fun a b q1 q2 q3 q4 => by rw [g3]; simp only [mU]; rw [if_neg (by omega), if_neg (by omega)]), ot_res hs hg hl hn hd hew (Or.inr ⟨hz1, Or.inr (Or.inl ⟨by omega, by omega, by omega, g3⟩)⟩)⟩)
            | (exact ⟨rfl, hfm.tr (fun a b q1 q2 q3 q4 => by rw [g5]; simp only [mU]; rw [if_neg (by omega), if_neg (by omega)]), ot_res hs hg hl hn hd hew (Or.inr ⟨hz1, Or.inr (Or.inr (Or.inl ⟨by omega, by omega, by rw [g5]; first | rw [if_pos (by omega)] | rw [if_neg (by omega)]⟩))⟩)⟩)
            | (exact ⟨rfl, hfm.tr (fun a b q1 q2 q3 q4 => by rw [g6]; simp only [mU]; rw [if_neg (by omega), if_neg (by omega)]), ot_res hs hg hl hn hd hew (Or.inr ⟨hz1, Or.inr (Or.inr (Or.inr ⟨by omega, by omega, by omega, g6⟩))⟩)⟩)
  · refine x_ret 8 none rfl ⟨rfl, rfl⟩ ⟨rfl, i2, li2, rfl, ?_⟩
    exact ⟨rfl, hfm, ot_res hs hg hl hn hd hew (Or.inl ⟨by omega, rfl⟩)⟩
