/-! the other book's calls: changes -/
theorem ad_end {i i1 j1 jj : Nat → Int → Int} {s h : Int} (hn : 0 ≤ i 190 11 ∧ i 190 11 ≤ 10) (hA : ∀ a b, jj a b = if a = 190 ∧ 19 + 48 * i 190 11 ≤ b ∧ b < 19 + 48 * i 190 11 + 41 then -9 else j1 a b)
    (hj : ∀ a b, j1 a b = if a = 190 ∧ b = 12 + 48 * i 190 11 + 6 then 0 else if a = 190 ∧ b = 12 + 48 * i 190 11 + 5 then -9 else if a = 190 ∧ b = 12 + 48 * i 190 11 + 4 then 0 else if a = 190 ∧ b = 12 + 48 * i 190 11 + 3 then 1 else if a = 190 ∧ b = 12 + 48 * i 190 11 + 2 then -9 else if a = 190 ∧ b = 12 + 48 * i 190 11 + 1 then h else if a = 190 ∧ b = 12 + 48 * i 190 11 + 0 then s else i1 a b) (hw : i1 190 = i 190) (x : Int) : mU jj 190 11 (i 190 11 + 1) 190 x = addW (i 190) s h x := by
  simp only [mU, true_and]
  unfold addW
  by_cases q : x = 11
  · rw [if_pos q, if_pos q]
  · rw [if_neg q, if_neg q, hA, hj, hw]
    simp only [true_and]
    by_cases q1 : 12 + 48 * i 190 11 ≤ x ∧ x < 60 + 48 * i 190 11
    · rw [if_pos q1]
      by_cases a7 : 19 + 48 * i 190 11 ≤ x
      · rw [if_pos (by omega), if_neg (show ¬ (x = 12 + 48 * i 190 11) by omega), if_neg (show ¬ (x = 13 + 48 * i 190 11) by omega), if_neg (show ¬ (x = 15 + 48 * i 190 11) by omega), if_neg (show ¬ (x = 16 + 48 * i 190 11 ∨ x = 18 + 48 * i 190 11) by omega)]
      · rw [if_neg (by omega)]
        rcases (show x = 12 + 48 * i 190 11 + 6 ∨ x = 12 + 48 * i 190 11 + 5 ∨ x = 12 + 48 * i 190 11 + 4 ∨ x = 12 + 48 * i 190 11 + 3 ∨ x = 12 + 48 * i 190 11 + 2 ∨ x = 12 + 48 * i 190 11 + 1 ∨ x = 12 + 48 * i 190 11 by omega) with e | e | e | e | e | e | e
        · rw [if_pos e, if_neg (show ¬ (x = 12 + 48 * i 190 11) by omega), if_neg (show ¬ (x = 13 + 48 * i 190 11) by omega), if_neg (show ¬ (x = 15 + 48 * i 190 11) by omega), if_pos (show (x = 16 + 48 * i 190 11 ∨ x = 18 + 48 * i 190 11) by omega)]
        · rw [if_neg (by omega), if_pos e, if_neg (show ¬ (x = 12 + 48 * i 190 11) by omega), if_neg (show ¬ (x = 13 + 48 * i 190 11) by omega), if_neg (show ¬ (x = 15 + 48 * i 190 11) by omega), if_neg (show ¬ (x = 16 + 48 * i 190 11 ∨ x = 18 + 48 * i 190 11) by omega)]
        · rw [if_neg (by omega), if_neg (by omega), if_pos e, if_neg (show ¬ (x = 12 + 48 * i 190 11) by omega), if_neg (show ¬ (x = 13 + 48 * i 190 11) by omega), if_neg (show ¬ (x = 15 + 48 * i 190 11) by omega), if_pos (show (x = 16 + 48 * i 190 11 ∨ x = 18 + 48 * i 190 11) by omega)]
        · rw [if_neg (by omega), if_neg (by omega), if_neg (by omega), if_pos e, if_neg (show ¬ (x = 12 + 48 * i 190 11) by omega), if_neg (show ¬ (x = 13 + 48 * i 190 11) by omega), if_pos (show (x = 15 + 48 * i 190 11) by omega)]
        · rw [if_neg (by omega), if_neg (by omega), if_neg (by omega), if_neg (by omega), if_pos e, if_neg (show ¬ (x = 12 + 48 * i 190 11) by omega), if_neg (show ¬ (x = 13 + 48 * i 190 11) by omega), if_neg (show ¬ (x = 15 + 48 * i 190 11) by omega), if_neg (show ¬ (x = 16 + 48 * i 190 11 ∨ x = 18 + 48 * i 190 11) by omega)]
        · rw [if_neg (by omega), if_neg (by omega), if_neg (by omega), if_neg (by omega), if_neg (by omega), if_pos e, if_neg (show ¬ (x = 12 + 48 * i 190 11) by omega), if_pos (show (x = 13 + 48 * i 190 11) by omega)]
        · rw [if_neg (by omega), if_neg (by omega), if_neg (by omega), if_neg (by omega), if_neg (by omega), if_neg (by omega), if_pos (by omega), if_pos e]
    · rw [if_neg q1, if_neg (by omega), if_neg (by omega), if_neg (by omega), if_neg (by omega), if_neg (by omega), if_neg (by omega), if_neg (by omega), if_neg (by omega)]
theorem set_no {x v : Int} (h : (x = 0 ∧ 1 ≤ v ∧ v ≤ 15) ∨ (x = 1 ∧ 1 ≤ v ∧ v ≤ 50) ∨ (x = 2 ∧ 0 ≤ v ∧ v ≤ 10) ∨ (x = 3 ∧ 1 ≤ v ∧ v ≤ 6)) : ¬ (¬ (0 ≤ x ∧ x < 4) ∨ v < sLo x ∨ sHi x < v) := by
  unfold sLo sHi
  rcases h with ⟨rfl, h⟩ | ⟨rfl, h⟩ | ⟨rfl, h⟩ | ⟨rfl, h⟩ <;> simp <;> omega
/-- what is remembered, also where a range was looked for before -/
theorem rm_fr {i j i1 : Nat → Int → Int} (hp : 0 ≤ i 189 2 ∧ i 189 2 ≤ 8) (hf : fr9 i j) (hm : ∀ a b, i1 a b = rmI j a b) : ∃ i2 : Nat → Int → Int, (∀ a b, i2 a b = rmI i a b) ∧ kA i2 i1 := by
  refine ⟨fun a b => rmI i a b, fun _ _ => rfl, fun a b q => ?_⟩
  have e2 : j 189 2 = i 189 2 := hf 189 2 (by omega)
  have e0 := hf.w
  have e191 : ∀ b, j 191 b = i 191 b := fun b => hf 191 b (by omega)
  rw [hm]
  show rmI j a b = rmI i a b
  unfold rmI
  rw [e2, e0]
  simp only [e191]
  rw [hf a b (by omega)]
set_option maxRecDepth 20000 in
set_option maxHeartbeats 2000000 in
theorem r_b_add {i : Nat → Int → Int} {l : Nat → Int → BitVec 64} (hB : okB (i 190) (i 189 2) (AP i) (AM i) (AK i) (i 193) (i 189 6)) (hF : 0 ≤ i 189 4 ∧ i 189 4 ≤ 3) {s : Int} (hs : -2147483648 ≤ s ∧ s < 2147483648) {h : Int} (hh : -2147483648 ≤ h ∧ h < 2147483648) : mCtr m_X9_add 4 0 0 [vR (some 189), vI (s), vI (h)] (st i l) (qR i l (spAdd s h (i 190) (i 189 2) (AP i) (AM i) (AK i) (i 193) (i 189 6) (i 189 7) (i 189 8))) := by
  refine mCtr_of pl_X9 dc_X9_add (Nat.le_of_ble_eq_true rfl) rfl ?_
  show mX m_X9_add 4 _ 0 0 0 [some (vR (some 189)), some (vI (s)), some (vI (h)), none, none] [] (st i l)
  have hW := hB.1
  have hN := hW.n
  have hPN := hB.2.1
  have hTN := hB.2.2.2.2.1
  refine x_iload_n 0 rfl rfl ?_
  refine x_iconst 1 rfl ?_
  refine x_bipush 2 rfl (by decide) ?_
  refine x_callS 3 m_X9_isIn (r_isIn (by omega) (by omega) (by omega)) rfl ok_X9_isIn ml_X9_62 st_X9_isIn rfl (by decide) rfl (Nat.le_of_ble_eq_true rfl) rfl rfl (fun v g q1 => ?_)
  rcases q1 with ⟨rfl, ⟨h2, rfl⟩ | ⟨h2, rfl⟩⟩
  · show mX m_X9_add 4 _ 0 0 _ _ [vI (1)] _
    refine x_if_eq 4 (tgt := 22) rfl (by decide) (by decide) (fun h3 => absurd h3 (by decide)) (fun h3 => ?_)
    refine x_iload_n 5 rfl rfl ?_
    refine x_bipush 6 rfl (by decide) ?_
    refine x_sipush 7 rfl (by decide) ?_
    refine x_callS 8 m_X9_isIn (r_isIn (by omega) (by omega) (by omega)) rfl ok_X9_isIn ml_X9_62 st_X9_isIn rfl (by decide) rfl (Nat.le_of_ble_eq_true rfl) rfl rfl (fun v g q4 => ?_)
    rcases q4 with ⟨rfl, ⟨h5, rfl⟩ | ⟨h5, rfl⟩⟩
    · show mX m_X9_add 4 _ 0 0 _ _ [vI (1)] _
      refine x_if_ne 9 (tgt := 24) rfl (by decide) (by decide) (fun h6 => ?_) (fun h6 => absurd h6 (by decide))
      refine x_aload_n 12 rfl rfl ?_
      refine x_getR 13 (z := 190) rfl fl_X9_7 (n_lt rfl) k_189 rfl r_189_0 ?_
      refine x_bipush 14 rfl (by decide) ?_
      refine x_iald 15 (z := i 190 11) rfl (n_lt rfl) k_190 (by omega) rfl ?_
      refine x_bipush 16 rfl (by decide) ?_
      refine x_icmp_ne 17 (tgt := 39) rfl (by decide) (by omega) (fun h7 => ?_) (fun h7 => ?_)
      · refine x_aload_n 20 rfl rfl ?_
        refine x_callV 21 m_X9_remember (r_remember (by omega)) rfl ok_X9_remember (n_lt rfl) k_189 rfl rfl ml_X9_107 im_X9_remember se_X9_remember rfl (by decide) rfl (Nat.le_of_ble_eq_true rfl) rfl rfl (fun v g q8 => ?_)
        obtain ⟨rfl, i9, li9, rfl, hi9⟩ := q8
        obtain ⟨hEi9, hi9⟩ := hi9
        have hEi9 := hEi9.symm
        subst hEi9
        show mX m_X9_add 4 _ 0 0 _ _ [] _
        have hm := hi9
        have w190 := rmI_w i hm
        have hW1 : okW (i9 190) := by rw [w190]; exact hW
        have n11 : i9 190 11 = i 190 11 := by rw [w190]
        obtain ⟨i1, i1d⟩ : ∃ f, f = i9 := ⟨_, rfl⟩
        refine x_aload_n 22 rfl rfl ?_
        refine x_getR 23 (z := 190) rfl fl_X9_7 (n_lt rfl) k_189 rfl r_189_0 ?_
        refine x_bipush 24 rfl (by decide) ?_
        refine x_iald 25 (z := i9 190 11) rfl (n_lt rfl) k_190 (by omega) rfl ?_
        refine x_istore_n 26 (L' := [some (vR (some 189)), some (vI (s)), some (vI (h)), some (vI (i9 190 11)), none]) rfl (by decide) rfl rfl ?_
        refine x_aload_n 27 rfl rfl ?_
        refine x_iload_n 28 rfl rfl ?_
        refine x_iconst 29 rfl ?_
        refine x_iload_n 30 rfl rfl ?_
        refine x_callV 31 m_X9_put (r_put (by omega) (by omega)) rfl ok_X9_put (n_lt rfl) k_189 rfl rfl ml_X9_113 im_X9_put se_X9_put rfl (by decide) rfl (Nat.le_of_ble_eq_true rfl) rfl rfl (fun v g q10 => ?_)
        obtain ⟨rfl, i11, li11, rfl, hi11⟩ := q10
        obtain ⟨hEi11, hi11⟩ := hi11
        have hEi11 := hEi11.symm
        subst hEi11
        show mX m_X9_add 4 _ 0 0 _ _ [] _
        have g1 := hi11
        rw [← i1d] at g1
        refine x_aload_n 32 rfl rfl ?_
        refine x_iload_n 33 rfl rfl ?_
        refine x_iconst 34 rfl ?_
        refine x_iload_n 35 rfl rfl ?_
        refine x_callV 36 m_X9_put (r_put (by omega) (by omega)) rfl ok_X9_put (n_lt rfl) k_189 rfl rfl ml_X9_113 im_X9_put se_X9_put rfl (by decide) rfl (Nat.le_of_ble_eq_true rfl) rfl rfl (fun v g q12 => ?_)
        obtain ⟨rfl, i13, li13, rfl, hi13⟩ := q12
        obtain ⟨hEi13, hi13⟩ := hi13
        have hEi13 := hEi13.symm
        subst hEi13
        show mX m_X9_add 4 _ 0 0 _ _ [] _
        have g2 := hi13
        refine x_aload_n 37 rfl rfl ?_
        refine x_iload_n 38 rfl rfl ?_
        refine x_iconst 39 rfl ?_
        refine x_bipush 40 rfl (by decide) ?_
        refine x_callV 41 m_X9_put (r_put (by omega) (by omega)) rfl ok_X9_put (n_lt rfl) k_189 rfl rfl ml_X9_113 im_X9_put se_X9_put rfl (by decide) rfl (Nat.le_of_ble_eq_true rfl) rfl rfl (fun v g q14 => ?_)
        obtain ⟨rfl, i15, li15, rfl, hi15⟩ := q14
        obtain ⟨hEi15, hi15⟩ := hi15
        have hEi15 := hEi15.symm
        subst hEi15
        show mX m_X9_add 4 _ 0 0 _ _ [] _
        have g3 := hi15
        refine x_aload_n 42 rfl rfl ?_
        refine x_iload_n 43 rfl rfl ?_
        refine x_iconst 44 rfl ?_
        refine x_iconst 45 rfl ?_
        refine x_callV 46 m_X9_put (r_put (by omega) (by omega)) rfl ok_X9_put (n_lt rfl) k_189 rfl rfl ml_X9_113 im_X9_put se_X9_put rfl (by decide) rfl (Nat.le_of_ble_eq_true rfl) rfl rfl (fun v g q16 => ?_)
        obtain ⟨rfl, i17, li17, rfl, hi17⟩ := q16
        obtain ⟨hEi17, hi17⟩ := hi17
        have hEi17 := hEi17.symm
        subst hEi17
        show mX m_X9_add 4 _ 0 0 _ _ [] _
        have g4 := hi17
        refine x_aload_n 47 rfl rfl ?_
        refine x_iload_n 48 rfl rfl ?_
        refine x_iconst 49 rfl ?_
        refine x_iconst 50 rfl ?_
        refine x_callV 51 m_X9_put (r_put (by omega) (by omega)) rfl ok_X9_put (n_lt rfl) k_189 rfl rfl ml_X9_113 im_X9_put se_X9_put rfl (by decide) rfl (Nat.le_of_ble_eq_true rfl) rfl rfl (fun v g q18 => ?_)
        obtain ⟨rfl, i19, li19, rfl, hi19⟩ := q18
        obtain ⟨hEi19, hi19⟩ := hi19
        have hEi19 := hEi19.symm
        subst hEi19
        show mX m_X9_add 4 _ 0 0 _ _ [] _
        have g5 := hi19
        refine x_aload_n 52 rfl rfl ?_
        refine x_iload_n 53 rfl rfl ?_
        refine x_iconst 54 rfl ?_
        refine x_bipush 55 rfl (by decide) ?_
        refine x_callV 56 m_X9_put (r_put (by omega) (by omega)) rfl ok_X9_put (n_lt rfl) k_189 rfl rfl ml_X9_113 im_X9_put se_X9_put rfl (by decide) rfl (Nat.le_of_ble_eq_true rfl) rfl rfl (fun v g q20 => ?_)
        obtain ⟨rfl, i21, li21, rfl, hi21⟩ := q20
        obtain ⟨hEi21, hi21⟩ := hi21
        have hEi21 := hEi21.symm
        subst hEi21
        show mX m_X9_add 4 _ 0 0 _ _ [] _
        have g6 := hi21
        refine x_aload_n 57 rfl rfl ?_
        refine x_iload_n 58 rfl rfl ?_
        refine x_bipush 59 rfl (by decide) ?_
        refine x_iconst 60 rfl ?_
        refine x_callV 61 m_X9_put (r_put (by omega) (by omega)) rfl ok_X9_put (n_lt rfl) k_189 rfl rfl ml_X9_113 im_X9_put se_X9_put rfl (by decide) rfl (Nat.le_of_ble_eq_true rfl) rfl rfl (fun v g q22 => ?_)
        obtain ⟨rfl, i23, li23, rfl, hi23⟩ := q22
        obtain ⟨hEi23, hi23⟩ := hi23
        have hEi23 := hEi23.symm
        subst hEi23
        show mX m_X9_add 4 _ 0 0 _ _ [] _
        have g7 := hi23
        refine x_iconst 62 rfl ?_
        refine x_istore 63 (L' := [some (vR (some 189)), some (vI (s)), some (vI (h)), some (vI (i9 190 11)), some (vI (0))]) rfl (by decide) rfl rfl ?_
        obtain ⟨j1, hj1⟩ : ∃ f, f = i23 := ⟨_, rfl⟩
        have n11b : i1 190 11 = i 190 11 := by rw [i1d, n11]
        have hjw : ∀ a b, j1 a b = if a = 190 ∧ b = 12 + 48 * i 190 11 + 6 then 0 else if a = 190 ∧ b = 12 + 48 * i 190 11 + 5 then -9 else if a = 190 ∧ b = 12 + 48 * i 190 11 + 4 then 0 else if a = 190 ∧ b = 12 + 48 * i 190 11 + 3 then 1 else if a = 190 ∧ b = 12 + 48 * i 190 11 + 2 then -9 else if a = 190 ∧ b = 12 + 48 * i 190 11 + 1 then h else if a = 190 ∧ b = 12 + 48 * i 190 11 + 0 then s else i1 a b := by intro a b; rw [hj1, g7, g6, g5, g4, g3, g2, g1]; simp only [n11, n11b, mU]
        have loopL24 : ∀ (nz : Nat) (jj : Nat → Int → Int) (x : Int), (0 ≤ x ∧ x ≤ 41) → (∀ a b, jj a b = if a = 190 ∧ 19 + 48 * i 190 11 ≤ b ∧ b < 19 + 48 * i 190 11 + x then -9 else j1 a b) → (41 - x) < (nz : Int) → mX m_X9_add 4 (qR i l (spAdd s h (i 190) (i 189 2) (AP i) (AM i) (AK i) (i 193) (i 189 6) (i 189 7) (i 189 8))) 0 0 106 [some (vR (some 189)), some (vI (s)), some (vI (h)), some (vI (i9 190 11)), some (vI (x))] [] (st jj l) := by
          intro nz
          induction nz with
          | zero => intro jj x hx hA hz; exact absurd hz (by omega)
          | succ nz ihL24 =>
            intro jj x hx hA hzL24
            refine x_iload 64 rfl rfl ?_
            refine x_bipush 65 rfl (by decide) ?_
            refine x_icmp_ge 66 (tgt := 131) rfl (by decide) (by omega) (fun h25 => ?_) (fun h25 => ?_)
            · rw [show x = 41 by omega] at hA
              have j11 : jj 190 11 = i 190 11 := by rw [hA, if_neg (by omega), hjw, if_neg (by omega), if_neg (by omega), if_neg (by omega), if_neg (by omega), if_neg (by omega), if_neg (by omega), if_neg (by omega), i1d, n11]
              refine x_aload_n 76 rfl rfl ?_
              refine x_getR 77 (z := 190) rfl fl_X9_7 (n_lt rfl) k_189 rfl r_189_0 ?_
              refine x_bipush 78 rfl (by decide) ?_
              refine x_dup2 79 rfl rfl rfl ?_
              refine x_iald 80 (z := jj 190 11) rfl (n_lt rfl) k_190 (by omega) rfl ?_
              refine x_iconst 81 rfl ?_
              refine x_iadd 82 (r := (jj 190 11) + 1) rfl rfl ?_
              obtain ⟨i26, hi26⟩ : ∃ f, f = mU jj 190 (11) ((jj 190 11) + 1) := ⟨_, rfl⟩
              refine x_iast 83 rfl (n_lt rfl) k_190 (by omega) (g' := st i26 l) (by subst hi26; rfl) ?_
              refine x_iload_n 84 rfl rfl ?_
              refine x_ret 85 (some (vI (i9 190 11))) rfl ⟨rfl, Or.inl rfl⟩ ⟨_, i26, l, rfl, rfl, ?_⟩
              have hjk : kA i1 jj := fun a b q => by rw [hA, if_neg (by omega), hjw, if_neg (by omega), if_neg (by omega), if_neg (by omega), if_neg (by omega), if_neg (by omega), if_neg (by omega), if_neg (by omega)]
              rw [← i1d] at hm w190
              have hk_ : kA i1 i26 := hjk.tr (fun a b q => by rw [hi26, mUne _ _ _ _ _ (by omega)])
              have hw_ : ∀ x, 0 ≤ x → x < 652 → i26 190 x = addW (i 190) s h x := by
                intro x x0 x1
                rw [hi26, j11]
                exact ad_end hN.1 hA hjw w190 x
              exact rs_rem (z' := i 190 11) (W' := addW (i 190) s h) (by rw [n11]) (by omega) hm (hk_) (hw_) hF (by unfold spAdd; rw [if_neg (by omega), if_neg (by omega)])
            · refine x_aload_n 67 rfl rfl ?_
              refine x_iload_n 68 rfl rfl ?_
              refine x_bipush 69 rfl (by decide) ?_
              refine x_iload 70 rfl rfl ?_
              refine x_iadd 71 (r := 7 + x) rfl rfl ?_
              refine x_bipush 72 rfl (by decide) ?_
              refine x_callV 73 m_X9_put (r_put (by omega) (by omega)) rfl ok_X9_put (n_lt rfl) k_189 rfl rfl ml_X9_113 im_X9_put se_X9_put rfl (by decide) rfl (Nat.le_of_ble_eq_true rfl) rfl rfl (fun v g q27 => ?_)
              obtain ⟨rfl, i28, li28, rfl, hi28⟩ := q27
              obtain ⟨hEi28, hi28⟩ := hi28
              have hEi28 := hEi28.symm
              subst hEi28
              show mX m_X9_add 4 _ 0 0 _ _ [] _
              refine x_iinc 74 (L' := [some (vR (some 189)), some (vI (s)), some (vI (h)), some (vI (i9 190 11)), some (vI (x + 1))]) rfl (by decide) rfl rfl rfl rfl ?_
              refine x_goto 75 (tgt := 106) rfl (by decide) ?_
              exact ihL24 i28 (x + 1) (by omega) (ad_loop hx.1 hA (by rw [hi28, n11])) (by omega)
        exact loopL24 ((41 - ((0))) + 1 : Int).toNat i23 (0) (by omega) (by intro a b; rw [if_neg (by omega), hj1]) (by omega)
      · refine x_bipush 18 rfl (by decide) ?_
        refine x_ret 19 (some (vI ((-3)))) rfl ⟨rfl, Or.inl rfl⟩ ⟨_, i, l, rfl, rfl, ?_⟩
        exact rs_ask (rfl) (kA.rf i) rfl hF (by unfold spAdd; rw [if_neg (by omega), if_pos (by omega)])
    · show mX m_X9_add 4 _ 0 0 _ _ [vI (0)] _
      refine x_if_ne 9 (tgt := 24) rfl (by decide) (by decide) (fun h29 => absurd h29 (by decide)) (fun h29 => ?_)
      refine x_iconst 10 rfl ?_
      refine x_ret 11 (some (vI ((-1)))) rfl ⟨rfl, Or.inl rfl⟩ ⟨_, i, l, rfl, rfl, ?_⟩
      exact rs_ask (rfl) (kA.rf i) rfl hF (by unfold spAdd; rw [if_pos (by omega)])
  · show mX m_X9_add 4 _ 0 0 _ _ [vI (0)] _
    refine x_if_eq 4 (tgt := 22) rfl (by decide) (by decide) (fun h30 => ?_) (fun h30 => absurd h30 (by decide))
    refine x_iconst 10 rfl ?_
    refine x_ret 11 (some (vI ((-1)))) rfl ⟨rfl, Or.inl rfl⟩ ⟨_, i, l, rfl, rfl, ?_⟩
    exact rs_ask (rfl) (kA.rf i) rfl hF (by unfold spAdd; rw [if_pos (by omega)])
set_option maxRecDepth 20000 in
set_option maxHeartbeats 2000000 in
theorem r_b_remove {i : Nat → Int → Int} {l : Nat → Int → BitVec 64} (hB : okB (i 190) (i 189 2) (AP i) (AM i) (AK i) (i 193) (i 189 6)) (hF : 0 ≤ i 189 4 ∧ i 189 4 ≤ 3) {y : Int} (hy : -2147483648 ≤ y ∧ y < 2147483648) : mCtr m_X9_remove 4 0 0 [vR (some 189), vI (y)] (st i l) (qR i l (spRemove y (i 190) (i 189 2) (AP i) (AM i) (AK i) (i 193) (i 189 6) (i 189 7) (i 189 8))) := by
  refine mCtr_of pl_X9 dc_X9_remove (Nat.le_of_ble_eq_true rfl) rfl ?_
  show mX m_X9_remove 4 _ 0 0 0 [some (vR (some 189)), some (vI (y)), none] [] (st i l)
  have hW := hB.1
  have hN := hW.n
  have hPN := hB.2.1
  have hTN := hB.2.2.2.2.1
  refine x_aload_n 0 rfl rfl ?_
  refine x_iload_n 1 rfl rfl ?_
  refine x_callV 2 m_X9_isSinger (r_isSinger (by omega) (by omega)) rfl ok_X9_isSinger (n_lt rfl) k_189 rfl rfl ml_X9_117 im_X9_isSinger se_X9_isSinger rfl (by decide) rfl (Nat.le_of_ble_eq_true rfl) rfl rfl (fun v g q1 => ?_)
  rcases q1 with ⟨rfl, ⟨h2, rfl⟩ | ⟨h2, rfl⟩⟩
  · show mX m_X9_remove 4 _ 0 0 _ _ [vI (1)] _
    refine x_if_ne 3 (tgt := 10) rfl (by decide) (by decide) (fun h3 => ?_) (fun h3 => absurd h3 (by decide))
    refine x_aload_n 6 rfl rfl ?_
    refine x_callV 7 m_X9_remember (r_remember (by omega)) rfl ok_X9_remember (n_lt rfl) k_189 rfl rfl ml_X9_107 im_X9_remember se_X9_remember rfl (by decide) rfl (Nat.le_of_ble_eq_true rfl) rfl rfl (fun v g q4 => ?_)
    obtain ⟨rfl, i5, li5, rfl, hi5⟩ := q4
    obtain ⟨hEi5, hi5⟩ := hi5
    have hEi5 := hEi5.symm
    subst hEi5
    show mX m_X9_remove 4 _ 0 0 _ _ [] _
    have hm := hi5
    have w190 := rmI_w i hm
    have hW1 : okW (i5 190) := by rw [w190]; exact hW
    have n11 : i5 190 11 = i 190 11 := by rw [w190]
    obtain ⟨i1, i1d⟩ : ∃ f, f = i5 := ⟨_, rfl⟩
    rw [← i1d] at hm w190
    refine x_bipush 8 rfl (by decide) ?_
    refine x_bipush 9 rfl (by decide) ?_
    refine x_iload_n 10 rfl rfl ?_
    refine x_imul 11 (r := 48 * y) rfl rfl ?_
    refine x_iadd 12 (r := 12 + (48 * y)) rfl rfl ?_
    refine x_istore_n 13 (L' := [some (vR (some 189)), some (vI (y)), some (vI (12 + (48 * y)))]) rfl (by decide) rfl rfl ?_
    have loopL6 : ∀ (nz : Nat) (jj : Nat → Int → Int) (x : Int), (12 + 48 * y ≤ x ∧ x ≤ 12 + 48 * (i 190 11 - 1)) → (∀ a b, jj a b = if a = 190 ∧ 12 + 48 * y ≤ b ∧ b < x then i 190 (b + 48) else i1 a b) → (12 + 48 * (i 190 11 - 1) - x) < (nz : Int) → mX m_X9_remove 4 (qR i l (spRemove y (i 190) (i 189 2) (AP i) (AM i) (AK i) (i 193) (i 189 6) (i 189 7) (i 189 8))) 0 0 22 [some (vR (some 189)), some (vI (y)), some (vI (x))] [] (st jj l) := by
      intro nz
      induction nz with
      | zero => intro jj x hx hA hz; exact absurd hz (by omega)
      | succ nz ihL6 =>
        intro jj x hx hA hzL6
        have j11 : jj 190 11 = i 190 11 := by rw [hA, if_neg (by omega), i1d, n11]
        refine x_iload_n 14 rfl rfl ?_
        refine x_bipush 15 rfl (by decide) ?_
        refine x_bipush 16 rfl (by decide) ?_
        refine x_aload_n 17 rfl rfl ?_
        refine x_getR 18 (z := 190) rfl fl_X9_7 (n_lt rfl) k_189 rfl r_189_0 ?_
        refine x_bipush 19 rfl (by decide) ?_
        refine x_iald 20 (z := jj 190 11) rfl (n_lt rfl) k_190 (by omega) rfl ?_
        refine x_iconst 21 rfl ?_
        refine x_isub 22 (r := (jj 190 11) - 1) rfl rfl ?_
        refine x_imul 23 (r := 48 * ((jj 190 11) - 1)) rfl rfl ?_
        refine x_iadd 24 (r := 12 + (48 * ((jj 190 11) - 1))) rfl rfl ?_
        refine x_icmp_ge 25 (tgt := 62) rfl (by decide) (by omega) (fun h7 => ?_) (fun h7 => ?_)
        · rw [show x = 12 + 48 * (i 190 11 - 1) by omega] at hA
          refine x_aload_n 38 rfl rfl ?_
          refine x_getR 39 (z := 190) rfl fl_X9_7 (n_lt rfl) k_189 rfl r_189_0 ?_
          refine x_bipush 40 rfl (by decide) ?_
          refine x_dup2 41 rfl rfl rfl ?_
          refine x_iald 42 (z := jj 190 11) rfl (n_lt rfl) k_190 (by omega) rfl ?_
          refine x_iconst 43 rfl ?_
          refine x_isub 44 (r := (jj 190 11) - 1) rfl rfl ?_
          obtain ⟨i8, hi8⟩ : ∃ f, f = mU jj 190 (11) ((jj 190 11) - 1) := ⟨_, rfl⟩
          refine x_iast 45 rfl (n_lt rfl) k_190 (by omega) (g' := st i8 l) (by subst hi8; rfl) ?_
          refine x_aload_n 46 rfl rfl ?_
          refine x_getR 47 (z := 190) rfl fl_X9_7 (n_lt rfl) k_189 rfl r_189_0 ?_
          refine x_bipush 48 rfl (by decide) ?_
          refine x_iald 49 (z := i8 190 11) rfl (n_lt rfl) k_190 (by omega) rfl ?_
          refine x_ret 50 (some (vI (i8 190 11))) rfl ⟨rfl, Or.inl rfl⟩ ⟨_, i8, l, rfl, rfl, ?_⟩
          have hjk : kA i1 jj := fun a b q => by rw [hA, if_neg (by omega)]
          have hk_ : kA i1 i8 := hjk.tr (fun a b q => by rw [hi8, mUne _ _ _ _ _ (by omega)])
          have hw_ : ∀ x, 0 ≤ x → x < 652 → i8 190 x = remW (i 190) y x := by
            intro x x0 x1
            rw [hi8, j11]
            simp only [mU, true_and]
            unfold remW
            by_cases q : x = 11
            · rw [if_pos q, if_pos q]
            · rw [if_neg q, if_neg q, hA]
              by_cases q2 : 12 + 48 * y ≤ x ∧ x < 12 + 48 * (i 190 11 - 1)
              · rw [if_pos ⟨rfl, q2⟩, if_pos q2]
              · rw [if_neg (fun z => q2 z.2), if_neg q2, w190]
          exact rs_rem (z' := i 190 11 - 1) (W' := remW (i 190) y) (by rw [hi8, mUs, j11]) (by omega) hm (hk_) (hw_) hF (by unfold spRemove; rw [if_neg (by omega)])
        · refine x_aload_n 26 rfl rfl ?_
          refine x_getR 27 (z := 190) rfl fl_X9_7 (n_lt rfl) k_189 rfl r_189_0 ?_
          refine x_iload_n 28 rfl rfl ?_
          refine x_aload_n 29 rfl rfl ?_
          refine x_getR 30 (z := 190) rfl fl_X9_7 (n_lt rfl) k_189 rfl r_189_0 ?_
          refine x_iload_n 31 rfl rfl ?_
          refine x_bipush 32 rfl (by decide) ?_
          refine x_iadd 33 (r := x + 48) rfl rfl ?_
          refine x_iald 34 (z := jj 190 (x + 48)) rfl (n_lt rfl) k_190 (by omega) rfl ?_
          obtain ⟨i9, hi9⟩ : ∃ f, f = mU jj 190 (x) (jj 190 (x + 48)) := ⟨_, rfl⟩
          refine x_iast 35 rfl (n_lt rfl) k_190 (by omega) (g' := st i9 l) (by subst hi9; rfl) ?_
          refine x_iinc 36 (L' := [some (vR (some 189)), some (vI (y)), some (vI (x + 1))]) rfl (by decide) rfl rfl rfl rfl ?_
          refine x_goto 37 (tgt := 22) rfl (by decide) ?_
          exact ihL6 i9 (x + 1) (by omega) (rm_loop hx.1 hA w190 (by rw [hi9])) (by omega)
    exact loopL6 ((12 + 48 * (i 190 11 - 1) - ((12 + (48 * y)))) + 1 : Int).toNat i5 (12 + (48 * y)) (by omega) (by intro a b; rw [if_neg (by omega), i1d]) (by omega)
  · show mX m_X9_remove 4 _ 0 0 _ _ [vI (0)] _
    refine x_if_ne 3 (tgt := 10) rfl (by decide) (by decide) (fun h10 => absurd h10 (by decide)) (fun h10 => ?_)
    refine x_iconst 4 rfl ?_
    refine x_ret 5 (some (vI ((-1)))) rfl ⟨rfl, Or.inl rfl⟩ ⟨_, i, l, rfl, rfl, ?_⟩
    exact rs_ask (rfl) (kA.rf i) rfl hF (by unfold spRemove; rw [if_pos (by omega)])
set_option maxRecDepth 20000 in
set_option maxHeartbeats 2000000 in
theorem r_b_set {i : Nat → Int → Int} {l : Nat → Int → BitVec 64} (hB : okB (i 190) (i 189 2) (AP i) (AM i) (AK i) (i 193) (i 189 6)) (hF : 0 ≤ i 189 4 ∧ i 189 4 ≤ 3) {x : Int} (hx : -2147483648 ≤ x ∧ x < 2147483648) {v : Int} (hv : -2147483648 ≤ v ∧ v < 2147483648) : mCtr m_X9_set 4 0 0 [vR (some 189), vI (x), vI (v)] (st i l) (qR i l (spSet x v (i 190) (i 189 2) (AP i) (AM i) (AK i) (i 193) (i 189 6) (i 189 7) (i 189 8))) := by
  refine mCtr_of pl_X9 dc_X9_set (Nat.le_of_ble_eq_true rfl) rfl ?_
  show mX m_X9_set 4 _ 0 0 0 [some (vR (some 189)), some (vI (x)), some (vI (v)), none] [] (st i l)
  have hW := hB.1
  have hN := hW.n
  have hPN := hB.2.1
  have hTN := hB.2.2.2.2.1
  refine x_iload_n 0 rfl rfl ?_
  refine x_iload_n 1 rfl rfl ?_
  refine x_callS 2 m_X9_isOf (r_isOf (by omega) (by omega)) rfl ok_X9_isOf ml_X9_191 st_X9_isOf rfl (by decide) rfl (Nat.le_of_ble_eq_true rfl) rfl rfl (fun v g q1 => ?_)
  rcases q1 with ⟨rfl, ⟨h2, rfl⟩ | ⟨h2, rfl⟩⟩
  · show mX m_X9_set 4 _ 0 0 _ _ [vI (1)] _
    refine x_if_ne 3 (tgt := 10) rfl (by decide) (by decide) (fun h3 => ?_) (fun h3 => absurd h3 (by decide))
    refine x_aload_n 6 rfl rfl ?_
    refine x_callV 7 m_X9_remember (r_remember (by omega)) rfl ok_X9_remember (n_lt rfl) k_189 rfl rfl ml_X9_107 im_X9_remember se_X9_remember rfl (by decide) rfl (Nat.le_of_ble_eq_true rfl) rfl rfl (fun v g q4 => ?_)
    obtain ⟨rfl, i5, li5, rfl, hi5⟩ := q4
    obtain ⟨hEi5, hi5⟩ := hi5
    have hEi5 := hEi5.symm
    subst hEi5
    show mX m_X9_set 4 _ 0 0 _ _ [] _
    have hm := hi5
    have w190 := rmI_w i hm
    have hW1 : okW (i5 190) := by rw [w190]; exact hW
    have n11 : i5 190 11 = i 190 11 := by rw [w190]
    obtain ⟨i1, i1d⟩ : ∃ f, f = i5 := ⟨_, rfl⟩
    rw [← i1d] at hm w190
    refine x_aload_n 8 rfl rfl ?_
    refine x_getR 9 (z := 190) rfl fl_X9_7 (n_lt rfl) k_189 rfl r_189_0 ?_
    refine x_iload_n 10 rfl rfl ?_
    refine x_iald 11 (z := i5 190 x) rfl (n_lt rfl) k_190 (by omega) rfl ?_
    refine x_istore_n 12 (L' := [some (vR (some 189)), some (vI (x)), some (vI (v)), some (vI (i5 190 x))]) rfl (by decide) rfl rfl ?_
    refine x_aload_n 13 rfl rfl ?_
    refine x_getR 14 (z := 190) rfl fl_X9_7 (n_lt rfl) k_189 rfl r_189_0 ?_
    refine x_iload_n 15 rfl rfl ?_
    refine x_iload_n 16 rfl rfl ?_
    obtain ⟨i6, hi6⟩ : ∃ f, f = mU i5 190 (x) (v) := ⟨_, rfl⟩
    refine x_iast 17 rfl (n_lt rfl) k_190 (by omega) (g' := st i6 l) (by subst hi6; rfl) ?_
    have g1 := hi6
    rw [← i1d] at g1
    refine x_iload_n 18 rfl rfl ?_
    refine x_ret 19 (some (vI (i5 190 x))) rfl ⟨rfl, Or.inl rfl⟩ ⟨_, i6, l, rfl, rfl, ?_⟩
    have hk_ : kA i1 i6 := fun a b q => by rw [g1, mUne _ _ _ _ _ (by omega)]
    have hw_ : ∀ k, 0 ≤ k → k < 652 → i6 190 k = setW (i 190) x v k := by
      intro k x0 x1
      rw [g1]
      simp only [mU, true_and]
      unfold setW
      by_cases q : k = x
      · rw [if_pos q, if_pos q]
      · rw [if_neg q, if_neg q, w190]
    exact rs_rem (z' := i 190 x) (W' := setW (i 190) x v) (by rw [← i1d, w190]) (by omega) hm hk_ hw_ hF (by unfold spSet; rw [if_neg (set_no (by omega))])
  · show mX m_X9_set 4 _ 0 0 _ _ [vI (0)] _
    refine x_if_ne 3 (tgt := 10) rfl (by decide) (by decide) (fun h7 => absurd h7 (by decide)) (fun h7 => ?_)
    refine x_iconst 4 rfl ?_
    refine x_ret 5 (some (vI ((-1)))) rfl ⟨rfl, Or.inl rfl⟩ ⟨_, i, l, rfl, rfl, ?_⟩
    exact rs_ask rfl (kA.rf i) rfl hF (by unfold spSet sLo sHi; rw [if_pos (by first | omega | (split <;> omega) | (split <;> split <;> omega) | (split <;> split <;> split <;> omega) | (split <;> split <;> split <;> split <;> omega))])
set_option maxRecDepth 20000 in
set_option maxHeartbeats 2000000 in
theorem r_b_place {i : Nat → Int → Int} {l : Nat → Int → BitVec 64} (hB : okB (i 190) (i 189 2) (AP i) (AM i) (AK i) (i 193) (i 189 6)) (hF : 0 ≤ i 189 4 ∧ i 189 4 ≤ 3) {y : Int} (hy : -2147483648 ≤ y ∧ y < 2147483648) {p : Int} (hp : -2147483648 ≤ p ∧ p < 2147483648) : mCtr m_X9_place 6 0 0 [vR (some 189), vI (y), vI (p)] (st i l) (qR i l (spPlace y p (i 190) (i 189 2) (AP i) (AM i) (AK i) (i 193) (i 189 6) (i 189 7) (i 189 8))) := by
  refine mCtr_of pl_X9 dc_X9_place (Nat.le_of_ble_eq_true rfl) rfl ?_
  show mX m_X9_place 6 _ 0 0 0 [some (vR (some 189)), some (vI (y)), some (vI (p)), none] [] (st i l)
  have hW := hB.1
  have hN := hW.n
  have hPN := hB.2.1
  have hTN := hB.2.2.2.2.1
  refine x_aload_n 0 rfl rfl ?_
  refine x_iload_n 1 rfl rfl ?_
  refine x_callV 2 m_X9_isSinger (r_isSinger (by omega) (by omega)) rfl ok_X9_isSinger (n_lt rfl) k_189 rfl rfl ml_X9_117 im_X9_isSinger se_X9_isSinger rfl (by decide) rfl (Nat.le_of_ble_eq_true rfl) rfl rfl (fun v g q1 => ?_)
  rcases q1 with ⟨rfl, ⟨h2, rfl⟩ | ⟨h2, rfl⟩⟩
  · show mX m_X9_place 6 _ 0 0 _ _ [vI (1)] _
    refine x_if_eq 3 (tgt := 21) rfl (by decide) (by decide) (fun h3 => absurd h3 (by decide)) (fun h3 => ?_)
    refine x_iload_n 4 rfl rfl ?_
    refine x_callS 5 m_X9_isPart (r_isPart (by omega)) rfl ok_X9_isPart ml_X9_194 st_X9_isPart rfl (by decide) rfl (Nat.le_of_ble_eq_true rfl) rfl rfl (fun v g q4 => ?_)
    rcases q4 with ⟨rfl, ⟨h5, rfl⟩ | ⟨h5, rfl⟩⟩
    · show mX m_X9_place 6 _ 0 0 _ _ [vI (1)] _
      refine x_if_ne 6 (tgt := 23) rfl (by decide) (by decide) (fun h6 => ?_) (fun h6 => absurd h6 (by decide))
      refine x_iload_n 12 rfl rfl ?_
      refine x_bipush 13 rfl (by decide) ?_
      refine x_icmp_eq 14 (tgt := 41) rfl (by decide) (by omega) (fun h7 => ?_) (fun h7 => ?_)
      · refine x_aload_n 22 rfl rfl ?_
        refine x_callV 23 m_X9_remember (r_remember (by first | omega | (rw [hfr 189 2 (by omega)]; omega))) rfl ok_X9_remember (n_lt rfl) k_189 rfl rfl ml_X9_107 im_X9_remember se_X9_remember rfl (by decide) rfl (Nat.le_of_ble_eq_true rfl) rfl rfl (fun v g q8 => ?_)
        obtain ⟨rfl, i9, li9, rfl, hi9⟩ := q8
        obtain ⟨hEi9, hi9⟩ := hi9
        have hEi9 := hEi9.symm
        subst hEi9
        show mX m_X9_place 6 _ 0 0 _ _ [] _
        have hm0 := hi9
        obtain ⟨i1, i1d⟩ : ∃ f, f = i9 := ⟨_, rfl⟩
        refine x_aload_n 24 rfl rfl ?_
        refine x_iload_n 25 rfl rfl ?_
        refine x_iconst 26 rfl ?_
        refine x_callV 27 m_X9_of (r_of (by omega) (by omega)) rfl ok_X9_of (n_lt rfl) k_189 rfl rfl ml_X9_72 im_X9_of se_X9_of rfl (by decide) rfl (Nat.le_of_ble_eq_true rfl) rfl rfl (fun v g q10 => ?_)
        obtain ⟨rfl, rfl⟩ := q10
        show mX m_X9_place 6 _ 0 0 _ _ [vI (sV (i9 190) y 2)] _
        refine x_istore_n 28 (L' := [some (vR (some 189)), some (vI (y)), some (vI (p)), some (vI (sV (i9 190) y 2))]) rfl (by decide) rfl rfl ?_
        refine x_aload_n 29 rfl rfl ?_
        refine x_iload_n 30 rfl rfl ?_
        refine x_iconst 31 rfl ?_
        refine x_iload_n 32 rfl rfl ?_
        refine x_callV 33 m_X9_put (r_put (by omega) (by omega)) rfl ok_X9_put (n_lt rfl) k_189 rfl rfl ml_X9_113 im_X9_put se_X9_put rfl (by decide) rfl (Nat.le_of_ble_eq_true rfl) rfl rfl (fun v g q11 => ?_)
        obtain ⟨rfl, i12, li12, rfl, hi12⟩ := q11
        obtain ⟨hEi12, hi12⟩ := hi12
        have hEi12 := hEi12.symm
        subst hEi12
        show mX m_X9_place 6 _ 0 0 _ _ [] _
        have g1 := hi12
        rw [← i1d] at g1
        refine x_iload_n 34 rfl rfl ?_
        refine x_ret 35 (some (vI (sV (i9 190) y 2))) rfl ⟨rfl, Or.inl rfl⟩ ⟨_, i12, l, rfl, rfl, ?_⟩
        rw [← i1d] at hm0
        first
          | (have hm : ∀ a b, i1 a b = rmI i a b := hm0
             have w190 := rmI_w i hm
             have hk_ : kA i1 i12 := fun a b q => by rw [g1, mUne _ _ _ _ _ (by omega)]
             have hw_ : ∀ k, 0 ≤ k → k < 652 → i12 190 k = setW (i 190) (14 + 48 * y) p k := by
               intro k x0 x1
               rw [g1]
               simp only [mU, true_and]
               unfold setW
               by_cases q : k = 14 + 48 * y
               · rw [if_pos (by omega), if_pos q]
               · rw [if_neg (by omega), if_neg q, w190]
             exact rs_rem (z' := sV (i 190) y 2) (W' := setW (i 190) (14 + 48 * y) p) (by rw [← i1d, w190]) (by omega) hm hk_ hw_ hF (by unfold spPlace; rw [if_neg (by omega), if_neg (by omega)]))
          | (obtain ⟨i2, hm, hk2⟩ := rm_fr (by omega) hfr hm0
             have w190 := rmI_w i hm
             have w2 : i1 190 = i 190 := (rmI_w _ hm0).trans f190
             have hk_ : kA i2 i12 := fun a b q => by rw [g1, mUne _ _ _ _ _ (by omega)]; exact hk2 a b q
             have hw_ : ∀ k, 0 ≤ k → k < 652 → i12 190 k = setW (i 190) (14 + 48 * y) p k := by
               intro k x0 x1
               rw [g1]
               simp only [mU, true_and]
               unfold setW
               by_cases q : k = 14 + 48 * y
               · rw [if_pos (by omega), if_pos q]
               · rw [if_neg (by omega), if_neg q, w2]
             exact rs_rem (z' := sV (i 190) y 2) (W' := setW (i 190) (14 + 48 * y) p) (by rw [← i1d, w2]) (by omega) hm hk_ hw_ hF (by unfold spPlace; rw [if_neg (by omega), if_neg (by rintro ⟨_, q⟩; rcases hz with q2 | q2; exact q q2.1; exact absurd q2.2 (by omega))]))
      · refine x_aload_n 15 rfl rfl ?_
        refine x_iload_n 16 rfl rfl ?_
        refine x_iload_n 17 rfl rfl ?_
        refine x_callV 18 m_X9_isFit (r_isFit hW (by omega) (by omega)) rfl ok_X9_isFit (n_lt rfl) k_189 rfl rfl ml_X9_83 im_X9_isFit se_X9_isFit rfl (by decide) rfl (Nat.le_of_ble_eq_true rfl) rfl rfl (fun v g q13 => ?_)
        obtain ⟨z15, i14, li14, rfl, rfl, hi14⟩ := q13
        show mX m_X9_place 6 _ 0 0 _ _ [vI (z15)] _
        obtain ⟨hz, rfl, hfr⟩ := hi14
        have f190 := hfr.w
        have hkf := kA.of9 hfr
        refine x_if_ne 19 (tgt := 41) rfl (by decide) (by omega) (fun h16 => ?_) (fun h16 => ?_)
        · refine x_aload_n 22 rfl rfl ?_
          refine x_callV 23 m_X9_remember (r_remember (by first | omega | (rw [hfr 189 2 (by omega)]; omega))) rfl ok_X9_remember (n_lt rfl) k_189 rfl rfl ml_X9_107 im_X9_remember se_X9_remember rfl (by decide) rfl (Nat.le_of_ble_eq_true rfl) rfl rfl (fun v g q17 => ?_)
          obtain ⟨rfl, i18, li18, rfl, hi18⟩ := q17
          obtain ⟨hEi18, hi18⟩ := hi18
          have hEi18 := hEi18.symm
          subst hEi18
          show mX m_X9_place 6 _ 0 0 _ _ [] _
          have hm0 := hi18
          obtain ⟨i1, i1d⟩ : ∃ f, f = i18 := ⟨_, rfl⟩
          refine x_aload_n 24 rfl rfl ?_
          refine x_iload_n 25 rfl rfl ?_
          refine x_iconst 26 rfl ?_
          refine x_callV 27 m_X9_of (r_of (by omega) (by omega)) rfl ok_X9_of (n_lt rfl) k_189 rfl rfl ml_X9_72 im_X9_of se_X9_of rfl (by decide) rfl (Nat.le_of_ble_eq_true rfl) rfl rfl (fun v g q19 => ?_)
          obtain ⟨rfl, rfl⟩ := q19
          show mX m_X9_place 6 _ 0 0 _ _ [vI (sV (i18 190) y 2)] _
          refine x_istore_n 28 (L' := [some (vR (some 189)), some (vI (y)), some (vI (p)), some (vI (sV (i18 190) y 2))]) rfl (by decide) rfl rfl ?_
          refine x_aload_n 29 rfl rfl ?_
          refine x_iload_n 30 rfl rfl ?_
          refine x_iconst 31 rfl ?_
          refine x_iload_n 32 rfl rfl ?_
          refine x_callV 33 m_X9_put (r_put (by omega) (by omega)) rfl ok_X9_put (n_lt rfl) k_189 rfl rfl ml_X9_113 im_X9_put se_X9_put rfl (by decide) rfl (Nat.le_of_ble_eq_true rfl) rfl rfl (fun v g q20 => ?_)
          obtain ⟨rfl, i21, li21, rfl, hi21⟩ := q20
          obtain ⟨hEi21, hi21⟩ := hi21
          have hEi21 := hEi21.symm
          subst hEi21
          show mX m_X9_place 6 _ 0 0 _ _ [] _
          have g1 := hi21
          rw [← i1d] at g1
          refine x_iload_n 34 rfl rfl ?_
          refine x_ret 35 (some (vI (sV (i18 190) y 2))) rfl ⟨rfl, Or.inl rfl⟩ ⟨_, i21, li14, rfl, rfl, ?_⟩
          rw [← i1d] at hm0
          first
            | (have hm : ∀ a b, i1 a b = rmI i a b := hm0
               have w190 := rmI_w i hm
               have hk_ : kA i1 i21 := fun a b q => by rw [g1, mUne _ _ _ _ _ (by omega)]
               have hw_ : ∀ k, 0 ≤ k → k < 652 → i21 190 k = setW (i 190) (14 + 48 * y) p k := by
                 intro k x0 x1
                 rw [g1]
                 simp only [mU, true_and]
                 unfold setW
                 by_cases q : k = 14 + 48 * y
                 · rw [if_pos (by omega), if_pos q]
                 · rw [if_neg (by omega), if_neg q, w190]
               exact rs_rem (z' := sV (i 190) y 2) (W' := setW (i 190) (14 + 48 * y) p) (by rw [← i1d, w190]) (by omega) hm hk_ hw_ hF (by unfold spPlace; rw [if_neg (by omega), if_neg (by omega)]))
            | (obtain ⟨i2, hm, hk2⟩ := rm_fr (by omega) hfr hm0
               have w190 := rmI_w i hm
               have w2 : i1 190 = i 190 := (rmI_w _ hm0).trans f190
               have hk_ : kA i2 i21 := fun a b q => by rw [g1, mUne _ _ _ _ _ (by omega)]; exact hk2 a b q
               have hw_ : ∀ k, 0 ≤ k → k < 652 → i21 190 k = setW (i 190) (14 + 48 * y) p k := by
                 intro k x0 x1
                 rw [g1]
                 simp only [mU, true_and]
                 unfold setW
                 by_cases q : k = 14 + 48 * y
                 · rw [if_pos (by omega), if_pos q]
                 · rw [if_neg (by omega), if_neg q, w2]
               exact rs_rem (z' := sV (i 190) y 2) (W' := setW (i 190) (14 + 48 * y) p) (by rw [← i1d, w2]) (by omega) hm hk_ hw_ hF (by unfold spPlace; rw [if_neg (by omega), if_neg (by rintro ⟨_, q⟩; rcases hz with q2 | q2; exact q q2.1; exact absurd q2.2 (by omega))]))
        · refine x_bipush 20 rfl (by decide) ?_
          refine x_ret 21 (some (vI ((-2)))) rfl ⟨rfl, Or.inl rfl⟩ ⟨_, i14, li14, rfl, rfl, ?_⟩
          exact rs_ask rfl hkf f190 hF (by unfold spPlace; rw [if_neg (by omega), if_pos ⟨by omega, by rcases hz with q | q; exact absurd q.2 (by omega); exact q.1⟩])
    · show mX m_X9_place 6 _ 0 0 _ _ [vI (0)] _
      refine x_if_ne 6 (tgt := 23) rfl (by decide) (by decide) (fun h22 => absurd h22 (by decide)) (fun h22 => ?_)
      refine x_iload_n 7 rfl rfl ?_
      refine x_bipush 8 rfl (by decide) ?_
      refine x_icmp_eq 9 (tgt := 23) rfl (by decide) (by omega) (fun h23 => ?_) (fun h23 => ?_)
      · refine x_iload_n 12 rfl rfl ?_
        refine x_bipush 13 rfl (by decide) ?_
        refine x_icmp_eq 14 (tgt := 41) rfl (by decide) (by omega) (fun h24 => ?_) (fun h24 => absurd h24 (by omega))
        refine x_aload_n 22 rfl rfl ?_
        refine x_callV 23 m_X9_remember (r_remember (by first | omega | (rw [hfr 189 2 (by omega)]; omega))) rfl ok_X9_remember (n_lt rfl) k_189 rfl rfl ml_X9_107 im_X9_remember se_X9_remember rfl (by decide) rfl (Nat.le_of_ble_eq_true rfl) rfl rfl (fun v g q25 => ?_)
        obtain ⟨rfl, i26, li26, rfl, hi26⟩ := q25
        obtain ⟨hEi26, hi26⟩ := hi26
        have hEi26 := hEi26.symm
        subst hEi26
        show mX m_X9_place 6 _ 0 0 _ _ [] _
        have hm0 := hi26
        obtain ⟨i1, i1d⟩ : ∃ f, f = i26 := ⟨_, rfl⟩
        refine x_aload_n 24 rfl rfl ?_
        refine x_iload_n 25 rfl rfl ?_
        refine x_iconst 26 rfl ?_
        refine x_callV 27 m_X9_of (r_of (by omega) (by omega)) rfl ok_X9_of (n_lt rfl) k_189 rfl rfl ml_X9_72 im_X9_of se_X9_of rfl (by decide) rfl (Nat.le_of_ble_eq_true rfl) rfl rfl (fun v g q27 => ?_)
        obtain ⟨rfl, rfl⟩ := q27
        show mX m_X9_place 6 _ 0 0 _ _ [vI (sV (i26 190) y 2)] _
        refine x_istore_n 28 (L' := [some (vR (some 189)), some (vI (y)), some (vI (p)), some (vI (sV (i26 190) y 2))]) rfl (by decide) rfl rfl ?_
        refine x_aload_n 29 rfl rfl ?_
        refine x_iload_n 30 rfl rfl ?_
        refine x_iconst 31 rfl ?_
        refine x_iload_n 32 rfl rfl ?_
        refine x_callV 33 m_X9_put (r_put (by omega) (by omega)) rfl ok_X9_put (n_lt rfl) k_189 rfl rfl ml_X9_113 im_X9_put se_X9_put rfl (by decide) rfl (Nat.le_of_ble_eq_true rfl) rfl rfl (fun v g q28 => ?_)
        obtain ⟨rfl, i29, li29, rfl, hi29⟩ := q28
        obtain ⟨hEi29, hi29⟩ := hi29
        have hEi29 := hEi29.symm
        subst hEi29
        show mX m_X9_place 6 _ 0 0 _ _ [] _
        have g1 := hi29
        rw [← i1d] at g1
        refine x_iload_n 34 rfl rfl ?_
        refine x_ret 35 (some (vI (sV (i26 190) y 2))) rfl ⟨rfl, Or.inl rfl⟩ ⟨_, i29, l, rfl, rfl, ?_⟩
        rw [← i1d] at hm0
        first
          | (have hm : ∀ a b, i1 a b = rmI i a b := hm0
             have w190 := rmI_w i hm
             have hk_ : kA i1 i29 := fun a b q => by rw [g1, mUne _ _ _ _ _ (by omega)]
             have hw_ : ∀ k, 0 ≤ k → k < 652 → i29 190 k = setW (i 190) (14 + 48 * y) p k := by
               intro k x0 x1
               rw [g1]
               simp only [mU, true_and]
               unfold setW
               by_cases q : k = 14 + 48 * y
               · rw [if_pos (by omega), if_pos q]
               · rw [if_neg (by omega), if_neg q, w190]
             exact rs_rem (z' := sV (i 190) y 2) (W' := setW (i 190) (14 + 48 * y) p) (by rw [← i1d, w190]) (by omega) hm hk_ hw_ hF (by unfold spPlace; rw [if_neg (by omega), if_neg (by omega)]))
          | (obtain ⟨i2, hm, hk2⟩ := rm_fr (by omega) hfr hm0
             have w190 := rmI_w i hm
             have w2 : i1 190 = i 190 := (rmI_w _ hm0).trans f190
             have hk_ : kA i2 i29 := fun a b q => by rw [g1, mUne _ _ _ _ _ (by omega)]; exact hk2 a b q
             have hw_ : ∀ k, 0 ≤ k → k < 652 → i29 190 k = setW (i 190) (14 + 48 * y) p k := by
               intro k x0 x1
               rw [g1]
               simp only [mU, true_and]
               unfold setW
               by_cases q : k = 14 + 48 * y
               · rw [if_pos (by omega), if_pos q]
               · rw [if_neg (by omega), if_neg q, w2]
             exact rs_rem (z' := sV (i 190) y 2) (W' := setW (i 190) (14 + 48 * y) p) (by rw [← i1d, w2]) (by omega) hm hk_ hw_ hF (by unfold spPlace; rw [if_neg (by omega), if_neg (by rintro ⟨_, q⟩; rcases hz with q2 | q2; exact q q2.1; exact absurd q2.2 (by omega))]))
      · refine x_iconst 10 rfl ?_
        refine x_ret 11 (some (vI ((-1)))) rfl ⟨rfl, Or.inl rfl⟩ ⟨_, i, l, rfl, rfl, ?_⟩
        exact rs_ask (rfl) (kA.rf i) rfl hF (by unfold spPlace; rw [if_pos (by omega)])
  · show mX m_X9_place 6 _ 0 0 _ _ [vI (0)] _
    refine x_if_eq 3 (tgt := 21) rfl (by decide) (by decide) (fun h30 => ?_) (fun h30 => absurd h30 (by decide))
    refine x_iconst 10 rfl ?_
    refine x_ret 11 (some (vI ((-1)))) rfl ⟨rfl, Or.inl rfl⟩ ⟨_, i, l, rfl, rfl, ?_⟩
    exact rs_ask (rfl) (kA.rf i) rfl hF (by unfold spPlace; rw [if_pos (by omega)])
set_option maxRecDepth 20000 in
set_option maxHeartbeats 2000000 in
theorem r_b_undo {i : Nat → Int → Int} {l : Nat → Int → BitVec 64} (hB : okB (i 190) (i 189 2) (AP i) (AM i) (AK i) (i 193) (i 189 6)) (hF : 0 ≤ i 189 4 ∧ i 189 4 ≤ 3)  : mCtr m_X9_undo 4 0 0 [vR (some 189)] (st i l) (qR i l (spUndo (i 190) (i 189 2) (AP i) (AM i) (AK i) (i 193) (i 189 6) (i 189 7) (i 189 8))) := by
  refine mCtr_of pl_X9 dc_X9_undo (Nat.le_of_ble_eq_true rfl) rfl ?_
  show mX m_X9_undo 4 _ 0 0 0 [some (vR (some 189)), none] [] (st i l)
  have hW := hB.1
  have hN := hW.n
  have hPN := hB.2.1
  have hTN := hB.2.2.2.2.1
  refine x_aload_n 0 rfl rfl ?_
  refine x_getI 1 (z := i 189 2) rfl fl_X9_59 (n_lt rfl) k_189 rfl rfl ?_
  refine x_if_ne 2 (tgt := 10) rfl (by decide) (by omega) (fun h1 => ?_) (fun h1 => ?_)
  · refine x_aload_n 5 rfl rfl ?_
    refine x_dup 6 rfl rfl ?_
    refine x_getI 7 (z := i 189 2) rfl fl_X9_59 (n_lt rfl) k_189 rfl rfl ?_
    refine x_iconst 8 rfl ?_
    refine x_isub 9 (r := (i 189 2) - 1) rfl rfl ?_
    obtain ⟨i2, hi2⟩ : ∃ f, f = mU i 189 2 ((i 189 2) - 1) := ⟨_, rfl⟩
    refine x_putI 10 rfl fl_X9_59 (n_lt rfl) k_189 rfl rfl (g' := st i2 l) (by subst hi2; rfl) ?_
    obtain ⟨i1, i1d⟩ : ∃ f, f = i2 := ⟨_, rfl⟩
    have p2 : i2 189 2 = i 189 2 - 1 := by rw [hi2, mUs]
    have pe : ∀ a b, a ≠ 189 → i1 a b = i a b := fun a b q => by rw [i1d, hi2, mUne _ _ _ _ _ q]
    have pe2 : ∀ b, b ≠ 2 → i1 189 b = i 189 b := fun b q => by rw [i1d, hi2, mUek _ _ _ _ q]
    refine x_iconst 11 rfl ?_
    refine x_istore_n 12 (L' := [some (vR (some 189)), some (vI (0))]) rfl (by decide) rfl rfl ?_
    have loopL3 : ∀ (nz : Nat) (jj : Nat → Int → Int) (x : Int), (0 ≤ x ∧ x ≤ 652) → (∀ a b, jj a b = if a = 190 ∧ 0 ≤ b ∧ b < 0 + x then i1 191 (652 * (i 189 2 - 1) + (b - 0)) else i1 a b) → (652 - x) < (nz : Int) → mX m_X9_undo 4 (qR i l (spUndo (i 190) (i 189 2) (AP i) (AM i) (AK i) (i 193) (i 189 6) (i 189 7) (i 189 8))) 0 0 22 [some (vR (some 189)), some (vI (x))] [] (st jj l) := by
      intro nz
      induction nz with
      | zero => intro jj x hx hA hz; exact absurd hz (by omega)
      | succ nz ihL3 =>
        intro jj x hx hA hzL3
        have j2 : jj 189 2 = i 189 2 - 1 := by rw [hA, if_neg (by omega), i1d]; exact p2
        refine x_iload_n 13 rfl rfl ?_
        refine x_sipush 14 rfl (by decide) ?_
        refine x_icmp_ge 15 (tgt := 56) rfl (by decide) (by omega) (fun h4 => ?_) (fun h4 => ?_)
        · refine x_aload_n 31 rfl rfl ?_
          refine x_getI 32 (z := jj 189 2) rfl fl_X9_59 (n_lt rfl) k_189 rfl rfl ?_
          refine x_ret 33 (some (vI (jj 189 2))) rfl ⟨rfl, Or.inl rfl⟩ ⟨_, jj, l, rfl, rfl, ?_⟩
          rw [show x = 652 by omega] at hA
          have ej : ∀ a b, a ≠ 190 → jj a b = i1 a b := fun a b q => by rw [hA, if_neg (fun z => q z.1)]
          have e4 : jj 189 4 = i 189 4 := by rw [ej _ _ (by omega), pe2 _ (by omega)]
          refine ⟨?_, rfl, ?_, by rw [e4]; exact hF, fun a b ha => by rw [ej _ _ (by omega), pe _ _ (by omega)]⟩
          · unfold spUndo; rw [if_neg (by omega)]; exact j2
          · unfold spUndo
            rw [if_neg (by omega)]
            refine ⟨fun x x0 x1 => ?_, j2, fun j j0 j1 x x0 x1 => ?_, fun m m0 m1 => ⟨?_, fun _ x x0 x1 => ?_⟩, ?_, fun k k0 k1 => ?_, ?_, ?_⟩
            · show jj 190 x = i 191 (652 * (i 189 2 - 1) + x)
              rw [hA, if_pos ⟨rfl, x0, by omega⟩, pe _ _ (by omega), Int.sub_zero]
            · show jj 191 _ = i 191 _
              rw [ej _ _ (by omega), pe _ _ (by omega)]
            · show AK jj m = AK i m
              unfold AK; rw [e4]
            · show jj 192 _ = i 192 _
              rw [ej _ _ (by omega), pe _ _ (by omega)]
            · show jj 189 6 = i 189 6
              rw [ej _ _ (by omega), pe2 _ (by omega)]
            · show jj 193 k = i 193 k
              rw [ej _ _ (by omega), pe _ _ (by omega)]
            · show jj 189 7 = i 189 7
              rw [ej _ _ (by omega), pe2 _ (by omega)]
            · show jj 189 8 = i 189 8
              rw [ej _ _ (by omega), pe2 _ (by omega)]
        · refine x_aload_n 16 rfl rfl ?_
          refine x_getR 17 (z := 190) rfl fl_X9_7 (n_lt rfl) k_189 rfl r_189_0 ?_
          refine x_iload_n 18 rfl rfl ?_
          refine x_aload_n 19 rfl rfl ?_
          refine x_getR 20 (z := 191) rfl fl_X9_13 (n_lt rfl) k_189 rfl r_189_1 ?_
          refine x_sipush 21 rfl (by decide) ?_
          refine x_aload_n 22 rfl rfl ?_
          refine x_getI 23 (z := jj 189 2) rfl fl_X9_59 (n_lt rfl) k_189 rfl rfl ?_
          refine x_imul 24 (r := 652 * (jj 189 2)) rfl rfl ?_
          refine x_iload_n 25 rfl rfl ?_
          refine x_iadd 26 (r := (652 * (jj 189 2)) + x) rfl rfl ?_
          refine x_iald 27 (z := jj 191 ((652 * (jj 189 2)) + x)) rfl (n_lt rfl) k_191 (by omega) rfl ?_
          obtain ⟨i5, hi5⟩ : ∃ f, f = mU jj 190 (x) (jj 191 ((652 * (jj 189 2)) + x)) := ⟨_, rfl⟩
          refine x_iast 28 rfl (n_lt rfl) k_190 (by omega) (g' := st i5 l) (by subst hi5; rfl) ?_
          refine x_iinc 29 (L' := [some (vR (some 189)), some (vI (x + 1))]) rfl (by decide) rfl rfl rfl rfl ?_
          refine x_goto 30 (tgt := 22) rfl (by decide) ?_
          exact ihL3 i5 (x + 1) (by omega) (cp_loop (v := jj 191 (652 * jj 189 2 + x)) hx.1 hA (by rw [j2, hA, if_neg (by omega)]) (by rw [hi5, Int.zero_add])) (by omega)
    exact loopL3 ((652 - ((0))) + 1 : Int).toNat i2 (0) (by omega) (by intro a b; rw [if_neg (by omega), i1d]) (by omega)
  · refine x_bipush 3 rfl (by decide) ?_
    refine x_ret 4 (some (vI ((-2)))) rfl ⟨rfl, Or.inl rfl⟩ ⟨_, i, l, rfl, rfl, ?_⟩
    exact rs_ask (rfl) (kA.rf i) rfl hF (by unfold spUndo; rw [if_pos (by omega)])
