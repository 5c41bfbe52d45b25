/-! the other book: sums, rehearsals, what is remembered -/
def SRm (i : Nat → Int → Int) : sT := (fun k => if 0 ≤ k ∧ k < 10 then i 198 k else -9, fun q => if 0 ≤ q ∧ q < 4 then i 199 q else 0)
theorem SRm_congr {i i' : Nat → Int → Int} (h1 : ∀ b, i' 198 b = i 198 b) (h2 : ∀ b, i' 199 b = i 199 b) : SRm i' = SRm i := by unfold SRm; simp only [h1, h2]
theorem siOk_wD {i : Nat → Int → Int} {W : Int → Int} {p x : Int} (hx : 0 ≤ x ∧ x < 10) : siOk (wD W) p x (SRm i) ↔ (sV W x 3 ≠ 0 ∧ (0 ≤ sV W x 2 ∧ sV W x 2 < 4) ∧ sV W x 2 ≠ p ∧ i 198 x = -9 ∧ W 0 ≤ gIn (sV W x) p ∧ W 1 ≤ i 199 (sV W x 2) - sV W x 0) := by
  unfold wD SRm
  simp only [siOk, dN, dC, dP, dR, dG, dS, dL, dF, dZ, decide_eq_true_eq, if_pos hx]
  constructor
  · rintro ⟨h1, h2, h3, h4, h5, h6⟩
    rw [if_pos h2] at h6
    exact ⟨h1, h2, h3, h4, h5, h6⟩
  · rintro ⟨h1, h2, h3, h4, h5, h6⟩
    rw [if_pos h2]
    exact ⟨h1, h2, h3, h4, h5, h6⟩
theorem siDo_wD {i i' : Nat → Int → Int} {W : Int → Int} {p x : Int} (hx : 0 ≤ x ∧ x < 10) (hp : 0 ≤ p ∧ p < 4) (hP : 0 ≤ sV W x 2 ∧ sV W x 2 < 4)
    (hi : ∀ a b, (a = 198 ∨ a = 199) → i' a b = mU (mU (mU i 198 x p) 199 (sV W x 2) (i 199 (sV W x 2) - sV W x 0)) 199 p (mU (mU i 198 x p) 199 (sV W x 2) (i 199 (sV W x 2) - sV W x 0) 199 p + sV W x 0) a b) : SRm i' = siDo (wD W) p x (SRm i) := by
  unfold SRm siDo wD
  simp only [dN, dC, dP, dR, dG, dS, dL, dF, dZ]
  simp only [hi _ _ (Or.inl rfl), hi _ _ (Or.inr rfl)]
  refine Prod.ext ?_ ?_
  · funext k
    simp only [fU, mU]
    grind
  · funext q
    simp only [fU, mU]
    grind
theorem soOk_wD {i : Nat → Int → Int} {W : Int → Int} {p x : Int} (hx : 0 ≤ x ∧ x < 10) : soOk (wD W) (SRm i).1 p x ↔ (sV W x 2 = p ∧ sV W x 3 ≠ 0 ∧ i 198 x = -9 ∧ gRest W x) := by
  unfold wD SRm gRest
  simp only [soOk, dN, dC, dP, dR, dG, dS, dL, dF, dZ, decide_eq_true_eq, if_pos hx]
theorem soBf_wD {W : Int → Int} {x y : Int} : soBf (wD W) x y ↔ (sV W x 4 < sV W y 4 ∨ (sV W x 4 = sV W y 4 ∧ sV W x 5 < sV W y 5)) := by
  unfold wD
  simp only [soBf, dN, dC, dP, dR, dG, dS, dL, dF, dZ]
theorem gPres_bd {W : Int → Int} (h : okW W) (p : Int) : 0 ≤ gPres W p ∧ gPres W p ≤ 90 := by
  have hN := h.n
  have := sumZ_bd (f := fun k => if sV W k 2 = p ∧ sV W k 3 ≠ 0 then sV W k 0 else 0) (x := W 11) (a := 0) (b := 9) hN.1.1 (fun k h0 h1 => by have := (h.v h0 h1).1; split <;> omega)
  unfold gPres
  omega
theorem gMem_bd {W : Int → Int} (h : okW W) (p : Int) : 0 ≤ gMem W p ∧ gMem W p ≤ 10 := by
  have hN := h.n
  have := sumZ_bd (f := fun k => if sV W k 2 = p then 1 else 0) (x := W 11) (a := 0) (b := 1) hN.1.1 (fun k _ _ => by split <;> omega)
  unfold gMem
  omega
theorem rm1_step {i ii i' : Nat → Int → Int} {x : Int} (h0 : 0 ≤ x) (hA : ∀ a b, ii a b = if a = 191 ∧ 0 ≤ b ∧ b < x then i 191 (b + 652) else i a b) (hi : i' = mU ii 191 x (ii 191 (x + 652))) : ∀ a b, i' a b = if a = 191 ∧ 0 ≤ b ∧ b < x + 1 then i 191 (b + 652) else i a b := by
  intro a b
  have e : ii 191 (x + 652) = i 191 (x + 652) := by rw [hA, if_neg (by omega)]
  rw [hi, e]
  simp only [mU]
  by_cases q : a = 191 ∧ b = x
  · rw [if_pos q, if_pos (by omega), q.2]
  · rw [if_neg q, hA]
    by_cases q2 : a = 191 ∧ 0 ≤ b ∧ b < x
    · rw [if_pos q2, if_pos (by omega)]
    · rw [if_neg q2, if_neg (by omega)]
theorem rm2_step {kk jj i' : Nat → Int → Int} {x Q : Int} (h0 : 0 ≤ x) (hA : ∀ a b, jj a b = if a = 191 ∧ 652 * Q ≤ b ∧ b < 652 * Q + x then kk 190 (b - 652 * Q) else kk a b) (hi : i' = mU jj 191 (652 * Q + x) (jj 190 x)) : ∀ a b, i' a b = if a = 191 ∧ 652 * Q ≤ b ∧ b < 652 * Q + (x + 1) then kk 190 (b - 652 * Q) else kk a b := by
  intro a b
  have e : jj 190 x = kk 190 x := by rw [hA, if_neg (by omega)]
  rw [hi, e]
  simp only [mU]
  by_cases q : a = 191 ∧ b = 652 * Q + x
  · rw [if_pos q, if_pos (by omega), show b - 652 * Q = x by omega]
  · rw [if_neg q, hA]
    by_cases q2 : a = 191 ∧ 652 * Q ≤ b ∧ b < 652 * Q + x
    · rw [if_pos q2, if_pos (by omega)]
    · rw [if_neg q2, if_neg (by omega)]
theorem rm_end {i ii kk jj i' : Nat → Int → Int} {Q : Int} (hp : 0 ≤ i 189 2 ∧ i 189 2 ≤ 8)
    (h1 : (i 189 2 < 8 ∧ Q = i 189 2 ∧ kk = i) ∨ (i 189 2 = 8 ∧ Q = 7 ∧ (∀ a b, ii a b = if a = 191 ∧ 0 ≤ b ∧ b < 4564 then i 191 (b + 652) else i a b) ∧ kk = mU ii 189 2 7))
    (h2 : ∀ a b, jj a b = if a = 191 ∧ 652 * Q ≤ b ∧ b < 652 * Q + 652 then kk 190 (b - 652 * Q) else kk a b) (h3 : i' = mU jj 189 2 (Q + 1)) : ∀ a b, i' a b = rmI i a b := by
  intro a b
  rw [h3]
  simp only [mU]
  unfold rmI rmN
  by_cases q1 : a = 189 ∧ b = 2
  · rw [if_pos q1, if_pos q1]
    rcases h1 with ⟨a1, a2, _⟩ | ⟨a1, a2, _⟩
    · rw [if_pos a1, a2]
    · rw [if_neg (by omega)]; omega
  · rw [if_neg q1, if_neg q1, h2]
    rcases h1 with ⟨a1, a2, a3⟩ | ⟨a1, a2, a3, a4⟩
    · rw [a2, a3]
      by_cases q2 : a = 191 ∧ 652 * i 189 2 ≤ b ∧ b < 652 * i 189 2 + 652
      · rw [if_pos q2, if_pos ⟨q2.1, a1, q2.2⟩]
      · rw [if_neg q2, if_neg (by omega), if_neg (by omega)]
    · have ek : ∀ a b, ¬ (a = 189 ∧ b = 2) → kk a b = ii a b := fun a b q => by rw [a4]; simp only [mU]; rw [if_neg q]
      rw [a2, if_neg (show ¬ (a = 191 ∧ i 189 2 < 8 ∧ _) by omega)]
      by_cases q2 : a = 191 ∧ 652 * 7 ≤ b ∧ b < 652 * 7 + 652
      · rw [if_pos q2, if_pos (by omega), if_neg (by omega), ek _ _ (by omega), a3, if_neg (by omega)]
        exact congrS (by omega)
      · rw [if_neg q2, ek _ _ q1, a3]
        by_cases q3 : a = 191 ∧ 0 ≤ b ∧ b < 4564
        · rw [if_pos q3, if_pos (by omega), if_pos (by omega)]
        · rw [if_neg q3, if_neg (by omega)]
set_option maxRecDepth 20000 in
set_option maxHeartbeats 2000000 in
theorem r_remember {i : Nat → Int → Int} {l : Nat → Int → BitVec 64} (hp : 0 ≤ i 189 2 ∧ i 189 2 ≤ 8) : mCtr m_X9_remember 1 0 0 [vR (some 189)] (st i l) (qV (fun i' l' => l' = l ∧ ∀ a b, i' a b = rmI i a b)) := by
  refine mCtr_of pl_X9 dc_X9_remember (Nat.le_of_ble_eq_true rfl) rfl ?_
  show mX m_X9_remember 1 _ 0 0 0 [some (vR (some 189)), none] [] (st i l)
  refine x_aload_n 0 rfl rfl ?_
  refine x_getI 1 (z := i 189 2) rfl fl_X9_59 (n_lt rfl) k_189 rfl rfl ?_
  refine x_bipush 2 rfl (by decide) ?_
  refine x_icmp_ne 3 (tgt := 50) rfl (by decide) (by omega) (fun h1 => ?_) (fun h1 => ?_)
  · refine x_iconst 27 rfl ?_
    refine x_istore_n 28 (L' := [some (vR (some 189)), some (vI (0))]) rfl (by decide) rfl rfl ?_
    obtain ⟨kk, hkk⟩ : ∃ f, f = i := ⟨_, rfl⟩
    obtain ⟨Q, hQ⟩ : ∃ z, z = i 189 2 := ⟨_, rfl⟩
    have hcase : (i 189 2 < 8 ∧ Q = i 189 2 ∧ kk = i) ∨ (i 189 2 = 8 ∧ Q = 7 ∧ (∃ ii : Nat → Int → Int, (∀ a b, ii a b = if a = 191 ∧ 0 ≤ b ∧ b < 4564 then i 191 (b + 652) else i a b) ∧ kk = mU ii 189 2 7)) := by first | exact Or.inl ⟨by omega, hQ, hkk⟩ | exact Or.inr ⟨by omega, by rw [hQ, hi, mUs, e2]; omega, _, hA8, by rw [hkk, hi, e2]; congr 1; omega⟩
    have hQ8 : 0 ≤ Q ∧ Q ≤ 7 := by omega
    have kQ : kk 189 2 = Q := by rw [hkk, hQ]
    have loopL2 : ∀ (nz : Nat) (jj : Nat → Int → Int) (y : Int), (0 ≤ y ∧ y ≤ 652) → (∀ a b, jj a b = if a = 191 ∧ 652 * Q ≤ b ∧ b < 652 * Q + y then kk 190 (b - 652 * Q) else kk a b) → (652 - y) < (nz : Int) → mX m_X9_remember 1 (qV (fun i' l' => l' = l ∧ ∀ a b, i' a b = rmI i a b)) 0 0 52 [some (vR (some 189)), some (vI (y))] [] (st jj l) := by
      intro nz
      induction nz with
      | zero => intro jj y hy hB hz; exact absurd hz (by omega)
      | succ nz ihL2 =>
        intro jj y hy hB hzL2
        refine x_iload_n 29 rfl rfl ?_
        refine x_sipush 30 rfl (by decide) ?_
        refine x_icmp_ge 31 (tgt := 86) rfl (by decide) (by omega) (fun h3 => ?_) (fun h3 => ?_)
        · have jQ : jj 189 2 = Q := by rw [hB, if_neg (by omega)]; exact kQ
          refine x_aload_n 47 rfl rfl ?_
          refine x_dup 48 rfl rfl ?_
          refine x_getI 49 (z := jj 189 2) rfl fl_X9_59 (n_lt rfl) k_189 rfl rfl ?_
          refine x_iconst 50 rfl ?_
          refine x_iadd 51 (r := (jj 189 2) + 1) rfl rfl ?_
          obtain ⟨i4, hi4⟩ : ∃ f, f = mU jj 189 2 ((jj 189 2) + 1) := ⟨_, rfl⟩
          refine x_putI 52 rfl fl_X9_59 (n_lt rfl) k_189 rfl rfl (g' := st i4 l) (by subst hi4; rfl) ?_
          refine x_ret 53 none rfl ⟨rfl, rfl⟩ ⟨rfl, i4, l, rfl, ?_⟩
          rw [show y = 652 by omega] at hB
          refine ⟨rfl, ?_⟩
          rcases hcase with ⟨q1, q2, q3⟩ | ⟨q1, q2, jx, q3, q4⟩
          · exact rm_end (ii := i) hp (Or.inl ⟨q1, q2, q3⟩) hB (by rw [hi4, jQ])
          · exact rm_end hp (Or.inr ⟨q1, q2, q3, q4⟩) hB (by rw [hi4, jQ])
        · have jQ : jj 189 2 = Q := by rw [hB, if_neg (by omega)]; exact kQ
          refine x_aload_n 32 rfl rfl ?_
          refine x_getR 33 (z := 191) rfl fl_X9_13 (n_lt rfl) k_189 rfl r_189_1 ?_
          refine x_sipush 34 rfl (by decide) ?_
          refine x_aload_n 35 rfl rfl ?_
          refine x_getI 36 (z := jj 189 2) rfl fl_X9_59 (n_lt rfl) k_189 rfl rfl ?_
          refine x_imul 37 (r := 652 * (jj 189 2)) rfl rfl ?_
          refine x_iload_n 38 rfl rfl ?_
          refine x_iadd 39 (r := (652 * (jj 189 2)) + y) rfl rfl ?_
          refine x_aload_n 40 rfl rfl ?_
          refine x_getR 41 (z := 190) rfl fl_X9_7 (n_lt rfl) k_189 rfl r_189_0 ?_
          refine x_iload_n 42 rfl rfl ?_
          refine x_iald 43 (z := jj 190 y) rfl (n_lt rfl) k_190 (by omega) rfl ?_
          obtain ⟨i5, hi5⟩ : ∃ f, f = mU jj 191 ((652 * (jj 189 2)) + y) (jj 190 y) := ⟨_, rfl⟩
          refine x_iast 44 rfl (n_lt rfl) k_191 (by omega) (g' := st i5 l) (by subst hi5; rfl) ?_
          refine x_iinc 45 (L' := [some (vR (some 189)), some (vI (y + 1))]) rfl (by decide) rfl rfl rfl rfl ?_
          refine x_goto 46 (tgt := 52) rfl (by decide) ?_
          exact ihL2 i5 (y + 1) (by omega) (rm2_step hy.1 hB (by subst_vars; first | rfl | (rw [jQ]))) (by omega)
    exact loopL2 ((652 - ((0))) + 1 : Int).toNat i (0) (by omega) (by intro a b; rw [if_neg (by omega), hkk]) (by omega)
  · refine x_iconst 4 rfl ?_
    refine x_istore_n 5 (L' := [some (vR (some 189)), some (vI (0))]) rfl (by decide) rfl rfl ?_
    have loopL6 : ∀ (nz : Nat) (ii : Nat → Int → Int) (x : Int), (0 ≤ x ∧ x ≤ 4564) → (∀ a b, ii a b = if a = 191 ∧ 0 ≤ b ∧ b < x then i 191 (b + 652) else i a b) → (4564 - x) < (nz : Int) → mX m_X9_remember 1 (qV (fun i' l' => l' = l ∧ ∀ a b, i' a b = rmI i a b)) 0 0 11 [some (vR (some 189)), some (vI (x))] [] (st ii l) := by
      intro nz
      induction nz with
      | zero => intro ii x hx hA hz; exact absurd hz (by omega)
      | succ nz ihL6 =>
        intro ii x hx hA hzL6
        refine x_iload_n 6 rfl rfl ?_
        refine x_sipush 7 rfl (by decide) ?_
        refine x_icmp_ge 8 (tgt := 40) rfl (by decide) (by omega) (fun h7 => ?_) (fun h7 => ?_)
        · have hA8 := hA
          rw [show x = 4564 by omega] at hA8
          have e2 : ii 189 2 = i 189 2 := by rw [hA8, if_neg (by omega)]
          refine x_aload_n 21 rfl rfl ?_
          refine x_dup 22 rfl rfl ?_
          refine x_getI 23 (z := ii 189 2) rfl fl_X9_59 (n_lt rfl) k_189 rfl rfl ?_
          refine x_iconst 24 rfl ?_
          refine x_isub 25 (r := (ii 189 2) - 1) rfl rfl ?_
          obtain ⟨i8, hi8⟩ : ∃ f, f = mU ii 189 2 ((ii 189 2) - 1) := ⟨_, rfl⟩
          refine x_putI 26 rfl fl_X9_59 (n_lt rfl) k_189 rfl rfl (g' := st i8 l) (by subst hi8; rfl) ?_
          refine x_iconst 27 rfl ?_
          refine x_istore_n 28 (L' := [some (vR (some 189)), some (vI (0))]) rfl (by decide) rfl rfl ?_
          obtain ⟨kk, hkk⟩ : ∃ f, f = i8 := ⟨_, rfl⟩
          obtain ⟨Q, hQ⟩ : ∃ z, z = i8 189 2 := ⟨_, rfl⟩
          have hcase : (i 189 2 < 8 ∧ Q = i 189 2 ∧ kk = i) ∨ (i 189 2 = 8 ∧ Q = 7 ∧ (∃ ii : Nat → Int → Int, (∀ a b, ii a b = if a = 191 ∧ 0 ≤ b ∧ b < 4564 then i 191 (b + 652) else i a b) ∧ kk = mU ii 189 2 7)) := by first | exact Or.inl ⟨by omega, hQ, hkk⟩ | exact Or.inr ⟨by omega, by rw [hQ, hi8, mUs, e2]; omega, _, hA8, by rw [hkk, hi8, e2]; congr 1; omega⟩
          have hQ8 : 0 ≤ Q ∧ Q ≤ 7 := by omega
          have kQ : kk 189 2 = Q := by rw [hkk, hQ]
          have loopL9 : ∀ (nz : Nat) (jj : Nat → Int → Int) (y : Int), (0 ≤ y ∧ y ≤ 652) → (∀ a b, jj a b = if a = 191 ∧ 652 * Q ≤ b ∧ b < 652 * Q + y then kk 190 (b - 652 * Q) else kk a b) → (652 - y) < (nz : Int) → mX m_X9_remember 1 (qV (fun i' l' => l' = l ∧ ∀ a b, i' a b = rmI i a b)) 0 0 52 [some (vR (some 189)), some (vI (y))] [] (st jj l) := by
            intro nz
            induction nz with
            | zero => intro jj y hy hB hz; exact absurd hz (by omega)
            | succ nz ihL9 =>
              intro jj y hy hB hzL9
              refine x_iload_n 29 rfl rfl ?_
              refine x_sipush 30 rfl (by decide) ?_
              refine x_icmp_ge 31 (tgt := 86) rfl (by decide) (by omega) (fun h10 => ?_) (fun h10 => ?_)
              · have jQ : jj 189 2 = Q := by rw [hB, if_neg (by omega)]; exact kQ
                refine x_aload_n 47 rfl rfl ?_
                refine x_dup 48 rfl rfl ?_
                refine x_getI 49 (z := jj 189 2) rfl fl_X9_59 (n_lt rfl) k_189 rfl rfl ?_
                refine x_iconst 50 rfl ?_
                refine x_iadd 51 (r := (jj 189 2) + 1) rfl rfl ?_
                obtain ⟨i11, hi11⟩ : ∃ f, f = mU jj 189 2 ((jj 189 2) + 1) := ⟨_, rfl⟩
                refine x_putI 52 rfl fl_X9_59 (n_lt rfl) k_189 rfl rfl (g' := st i11 l) (by subst hi11; rfl) ?_
                refine x_ret 53 none rfl ⟨rfl, rfl⟩ ⟨rfl, i11, l, rfl, ?_⟩
                rw [show y = 652 by omega] at hB
                refine ⟨rfl, ?_⟩
                rcases hcase with ⟨q1, q2, q3⟩ | ⟨q1, q2, jx, q3, q4⟩
                · exact rm_end (ii := i) hp (Or.inl ⟨q1, q2, q3⟩) hB (by rw [hi11, jQ])
                · exact rm_end hp (Or.inr ⟨q1, q2, q3, q4⟩) hB (by rw [hi11, jQ])
              · have jQ : jj 189 2 = Q := by rw [hB, if_neg (by omega)]; exact kQ
                refine x_aload_n 32 rfl rfl ?_
                refine x_getR 33 (z := 191) rfl fl_X9_13 (n_lt rfl) k_189 rfl r_189_1 ?_
                refine x_sipush 34 rfl (by decide) ?_
                refine x_aload_n 35 rfl rfl ?_
                refine x_getI 36 (z := jj 189 2) rfl fl_X9_59 (n_lt rfl) k_189 rfl rfl ?_
                refine x_imul 37 (r := 652 * (jj 189 2)) rfl rfl ?_
                refine x_iload_n 38 rfl rfl ?_
                refine x_iadd 39 (r := (652 * (jj 189 2)) + y) rfl rfl ?_
                refine x_aload_n 40 rfl rfl ?_
                refine x_getR 41 (z := 190) rfl fl_X9_7 (n_lt rfl) k_189 rfl r_189_0 ?_
                refine x_iload_n 42 rfl rfl ?_
                refine x_iald 43 (z := jj 190 y) rfl (n_lt rfl) k_190 (by omega) rfl ?_
                obtain ⟨i12, hi12⟩ : ∃ f, f = mU jj 191 ((652 * (jj 189 2)) + y) (jj 190 y) := ⟨_, rfl⟩
                refine x_iast 44 rfl (n_lt rfl) k_191 (by omega) (g' := st i12 l) (by subst hi12; rfl) ?_
                refine x_iinc 45 (L' := [some (vR (some 189)), some (vI (y + 1))]) rfl (by decide) rfl rfl rfl rfl ?_
                refine x_goto 46 (tgt := 52) rfl (by decide) ?_
                exact ihL9 i12 (y + 1) (by omega) (rm2_step hy.1 hB (by subst_vars; first | rfl | (rw [jQ]))) (by omega)
          exact loopL9 ((652 - ((0))) + 1 : Int).toNat i8 (0) (by omega) (by intro a b; rw [if_neg (by omega), hkk]) (by omega)
        · refine x_aload_n 9 rfl rfl ?_
          refine x_getR 10 (z := 191) rfl fl_X9_13 (n_lt rfl) k_189 rfl r_189_1 ?_
          refine x_iload_n 11 rfl rfl ?_
          refine x_aload_n 12 rfl rfl ?_
          refine x_getR 13 (z := 191) rfl fl_X9_13 (n_lt rfl) k_189 rfl r_189_1 ?_
          refine x_iload_n 14 rfl rfl ?_
          refine x_sipush 15 rfl (by decide) ?_
          refine x_iadd 16 (r := x + 652) rfl rfl ?_
          refine x_iald 17 (z := ii 191 (x + 652)) rfl (n_lt rfl) k_191 (by omega) rfl ?_
          obtain ⟨i13, hi13⟩ : ∃ f, f = mU ii 191 (x) (ii 191 (x + 652)) := ⟨_, rfl⟩
          refine x_iast 18 rfl (n_lt rfl) k_191 (by omega) (g' := st i13 l) (by subst hi13; rfl) ?_
          refine x_iinc 19 (L' := [some (vR (some 189)), some (vI (x + 1))]) rfl (by decide) rfl rfl rfl rfl ?_
          refine x_goto 20 (tgt := 11) rfl (by decide) ?_
          exact ihL6 i13 (x + 1) (by omega) (rm1_step hx.1 hA (by subst_vars; rfl)) (by omega)
    exact loopL6 ((4564 - ((0))) + 1 : Int).toNat i (0) (by omega) (by intro a b; rw [if_neg (by omega)]) (by omega)
set_option maxRecDepth 20000 in
set_option maxHeartbeats 2000000 in
theorem r_placedIn {i : Nat → Int → Int} {l : Nat → Int → BitVec 64} (hW : okW (i 190)) {p : Int} (hp : -2147483648 ≤ p ∧ p < 2147483648) : mCtr m_X9_placedIn 2 0 0 [vR (some 189), vI (p)] (st i l) (qI (gMem (i 190) p) (st i l)) := by
  refine mCtr_of pl_X9 dc_X9_placedIn (Nat.le_of_ble_eq_true rfl) rfl ?_
  show mX m_X9_placedIn 2 _ 0 0 0 [some (vR (some 189)), some (vI (p)), none, none] [] (st i l)
  have hN := hW.n
  obtain ⟨f, hf⟩ : ∃ f : Int → Int, f = fun k => if sV (i 190) k 2 = p then 1 else 0 := ⟨_, rfl⟩
  refine x_iconst 0 rfl ?_
  refine x_istore_n 1 (L' := [some (vR (some 189)), some (vI (p)), some (vI (0)), none]) rfl (by decide) rfl rfl ?_
  refine x_iconst 2 rfl ?_
  refine x_istore_n 3 (L' := [some (vR (some 189)), some (vI (p)), some (vI (0)), some (vI (0))]) rfl (by decide) rfl rfl ?_
  have loopL1 : ∀ (nz : Nat) (x : Int) (s : Int), (0 ≤ x ∧ x ≤ i 190 11) → (s = sumZ f x) → (i 190 11 - x) < (nz : Int) → mX m_X9_placedIn 2 (qI (gMem (i 190) p) (st i l)) 0 0 4 [some (vR (some 189)), some (vI (p)), some (vI (s)), some (vI (x))] [] (st i l) := by
    intro nz
    induction nz with
    | zero => intro x s hx hs hz; exact absurd hz (by omega)
    | succ nz ihL1 =>
      intro x s hx hs hzL1
      refine x_iload_n 4 rfl rfl ?_
      refine x_aload_n 5 rfl rfl ?_
      refine x_getR 6 (z := 190) rfl fl_X9_7 (n_lt rfl) k_189 rfl r_189_0 ?_
      refine x_bipush 7 rfl (by decide) ?_
      refine x_iald 8 (z := i 190 11) rfl (n_lt rfl) k_190 (by omega) rfl ?_
      refine x_icmp_ge 9 (tgt := 39) rfl (by decide) (by omega) (fun h2 => ?_) (fun h2 => ?_)
      · refine x_iload_n 24 rfl rfl ?_
        refine x_ret 25 (some (vI (s))) rfl ⟨rfl, Or.inl rfl⟩ ⟨congrArg (fun z => some (vI z)) ?_, rfl⟩
        rw [hs, hf, show x = i 190 11 by omega]; rfl
      · have hfx : f x = (if sV (i 190) x 2 = p then 1 else 0) := by rw [hf]
        have hvx := hW.v hx.1 (show x < i 190 11 by omega)
        have hv0 := hvx.1
        have hv2 := hvx.2.2.1
        have hv3 := hvx.2.2.2.1
        refine x_iload_n 10 rfl rfl ?_
        refine x_aload_n 11 rfl rfl ?_
        refine x_iload_n 12 rfl rfl ?_
        refine x_iconst 13 rfl ?_
        refine x_callV 14 m_X9_of (r_of (by omega) (by omega)) rfl ok_X9_of (n_lt rfl) k_189 rfl rfl ml_X9_72 im_X9_of se_X9_of rfl (by decide) rfl (Nat.le_of_ble_eq_true rfl) rfl rfl (fun v g q3 => ?_)
        obtain ⟨rfl, rfl⟩ := q3
        show mX m_X9_placedIn 2 _ 0 0 _ _ [vI (sV (i 190) x 2), vI (s)] _
        refine x_iload_n 15 rfl rfl ?_
        refine x_icmp_ne 16 (tgt := 30) rfl (by decide) (by omega) (fun h4 => ?_) (fun h4 => ?_)
        · refine x_iconst 19 rfl ?_
          refine x_iadd 20 (r := s + 0) rfl rfl ?_
          refine x_istore_n 21 (L' := [some (vR (some 189)), some (vI (p)), some (vI (s + 0)), some (vI (x))]) rfl (by decide) rfl rfl ?_
          refine x_iinc 22 (L' := [some (vR (some 189)), some (vI (p)), some (vI (s + 0)), some (vI (x + 1))]) rfl (by decide) rfl rfl rfl rfl ?_
          refine x_goto 23 (tgt := 4) rfl (by decide) ?_
          exact ihL1 (x + 1) (s + 0) (by omega) (by rw [sumZ_s f hx.1, hfx]; grind) (by omega)
        · refine x_iconst 17 rfl ?_
          refine x_goto 18 (tgt := 31) rfl (by decide) ?_
          refine x_iadd 20 (r := s + 1) rfl rfl ?_
          refine x_istore_n 21 (L' := [some (vR (some 189)), some (vI (p)), some (vI (s + 1)), some (vI (x))]) rfl (by decide) rfl rfl ?_
          refine x_iinc 22 (L' := [some (vR (some 189)), some (vI (p)), some (vI (s + 1)), some (vI (x + 1))]) rfl (by decide) rfl rfl rfl rfl ?_
          refine x_goto 23 (tgt := 4) rfl (by decide) ?_
          exact ihL1 (x + 1) (s + 1) (by omega) (by rw [sumZ_s f hx.1, hfx]; grind) (by omega)
  exact loopL1 ((i 190 11 - ((0))) + 1 : Int).toNat (0) (0) (by omega) (rfl) (by omega)
set_option maxRecDepth 20000 in
set_option maxHeartbeats 2000000 in
theorem r_strengthOf {i : Nat → Int → Int} {l : Nat → Int → BitVec 64} (hW : okW (i 190)) {p : Int} (hp : -2147483648 ≤ p ∧ p < 2147483648) : mCtr m_X9_strengthOf 2 0 0 [vR (some 189), vI (p)] (st i l) (qI (gStr (i 190) p) (st i l)) := by
  refine mCtr_of pl_X9 dc_X9_strengthOf (Nat.le_of_ble_eq_true rfl) rfl ?_
  show mX m_X9_strengthOf 2 _ 0 0 0 [some (vR (some 189)), some (vI (p)), none, none] [] (st i l)
  have hN := hW.n
  obtain ⟨f, hf⟩ : ∃ f : Int → Int, f = fun k => if sV (i 190) k 2 = p then sV (i 190) k 0 else 0 := ⟨_, rfl⟩
  refine x_iconst 0 rfl ?_
  refine x_istore_n 1 (L' := [some (vR (some 189)), some (vI (p)), some (vI (0)), none]) rfl (by decide) rfl rfl ?_
  refine x_iconst 2 rfl ?_
  refine x_istore_n 3 (L' := [some (vR (some 189)), some (vI (p)), some (vI (0)), some (vI (0))]) rfl (by decide) rfl rfl ?_
  have loopL1 : ∀ (nz : Nat) (x : Int) (s : Int), (0 ≤ x ∧ x ≤ i 190 11) → (s = sumZ f x) → (i 190 11 - x) < (nz : Int) → mX m_X9_strengthOf 2 (qI (gStr (i 190) p) (st i l)) 0 0 4 [some (vR (some 189)), some (vI (p)), some (vI (s)), some (vI (x))] [] (st i l) := by
    intro nz
    induction nz with
    | zero => intro x s hx hs hz; exact absurd hz (by omega)
    | succ nz ihL1 =>
      intro x s hx hs hzL1
      refine x_iload_n 4 rfl rfl ?_
      refine x_aload_n 5 rfl rfl ?_
      refine x_getR 6 (z := 190) rfl fl_X9_7 (n_lt rfl) k_189 rfl r_189_0 ?_
      refine x_bipush 7 rfl (by decide) ?_
      refine x_iald 8 (z := i 190 11) rfl (n_lt rfl) k_190 (by omega) rfl ?_
      refine x_icmp_ge 9 (tgt := 44) rfl (by decide) (by omega) (fun h2 => ?_) (fun h2 => ?_)
      · refine x_iload_n 27 rfl rfl ?_
        refine x_ret 28 (some (vI (s))) rfl ⟨rfl, Or.inl rfl⟩ ⟨congrArg (fun z => some (vI z)) ?_, rfl⟩
        rw [hs, hf, show x = i 190 11 by omega]; rfl
      · have hfx : f x = (if sV (i 190) x 2 = p then sV (i 190) x 0 else 0) := by rw [hf]
        have hvx := hW.v hx.1 (show x < i 190 11 by omega)
        have hv0 := hvx.1
        have hv2 := hvx.2.2.1
        have hv3 := hvx.2.2.2.1
        refine x_iload_n 10 rfl rfl ?_
        refine x_aload_n 11 rfl rfl ?_
        refine x_iload_n 12 rfl rfl ?_
        refine x_iconst 13 rfl ?_
        refine x_callV 14 m_X9_of (r_of (by omega) (by omega)) rfl ok_X9_of (n_lt rfl) k_189 rfl rfl ml_X9_72 im_X9_of se_X9_of rfl (by decide) rfl (Nat.le_of_ble_eq_true rfl) rfl rfl (fun v g q3 => ?_)
        obtain ⟨rfl, rfl⟩ := q3
        show mX m_X9_strengthOf 2 _ 0 0 _ _ [vI (sV (i 190) x 2), vI (s)] _
        refine x_iload_n 15 rfl rfl ?_
        refine x_icmp_ne 16 (tgt := 35) rfl (by decide) (by omega) (fun h4 => ?_) (fun h4 => ?_)
        · refine x_iconst 22 rfl ?_
          refine x_iadd 23 (r := s + 0) rfl rfl ?_
          refine x_istore_n 24 (L' := [some (vR (some 189)), some (vI (p)), some (vI (s + 0)), some (vI (x))]) rfl (by decide) rfl rfl ?_
          refine x_iinc 25 (L' := [some (vR (some 189)), some (vI (p)), some (vI (s + 0)), some (vI (x + 1))]) rfl (by decide) rfl rfl rfl rfl ?_
          refine x_goto 26 (tgt := 4) rfl (by decide) ?_
          exact ihL1 (x + 1) (s + 0) (by omega) (by rw [sumZ_s f hx.1, hfx]; grind) (by omega)
        · refine x_aload_n 17 rfl rfl ?_
          refine x_iload_n 18 rfl rfl ?_
          refine x_iconst 19 rfl ?_
          refine x_callV 20 m_X9_of (r_of (by omega) (by omega)) rfl ok_X9_of (n_lt rfl) k_189 rfl rfl ml_X9_72 im_X9_of se_X9_of rfl (by decide) rfl (Nat.le_of_ble_eq_true rfl) rfl rfl (fun v g q5 => ?_)
          obtain ⟨rfl, rfl⟩ := q5
          show mX m_X9_strengthOf 2 _ 0 0 _ _ [vI (sV (i 190) x 0), vI (s)] _
          refine x_goto 21 (tgt := 36) rfl (by decide) ?_
          refine x_iadd 23 (r := s + (sV (i 190) x 0)) rfl rfl ?_
          refine x_istore_n 24 (L' := [some (vR (some 189)), some (vI (p)), some (vI (s + (sV (i 190) x 0))), some (vI (x))]) rfl (by decide) rfl rfl ?_
          refine x_iinc 25 (L' := [some (vR (some 189)), some (vI (p)), some (vI (s + (sV (i 190) x 0))), some (vI (x + 1))]) rfl (by decide) rfl rfl rfl rfl ?_
          refine x_goto 26 (tgt := 4) rfl (by decide) ?_
          exact ihL1 (x + 1) (s + (sV (i 190) x 0)) (by omega) (by rw [sumZ_s f hx.1, hfx]; grind) (by omega)
  exact loopL1 ((i 190 11 - ((0))) + 1 : Int).toNat (0) (0) (by omega) (rfl) (by omega)
set_option maxRecDepth 20000 in
set_option maxHeartbeats 2000000 in
theorem r_presentStrength {i : Nat → Int → Int} {l : Nat → Int → BitVec 64} (hW : okW (i 190)) {p : Int} (hp : -2147483648 ≤ p ∧ p < 2147483648) : mCtr m_X9_presentStrength 2 0 0 [vR (some 189), vI (p)] (st i l) (qI (gPres (i 190) p) (st i l)) := by
  refine mCtr_of pl_X9 dc_X9_presentStrength (Nat.le_of_ble_eq_true rfl) rfl ?_
  show mX m_X9_presentStrength 2 _ 0 0 0 [some (vR (some 189)), some (vI (p)), none, none] [] (st i l)
  have hN := hW.n
  obtain ⟨f, hf⟩ : ∃ f : Int → Int, f = fun k => if sV (i 190) k 2 = p ∧ sV (i 190) k 3 ≠ 0 then sV (i 190) k 0 else 0 := ⟨_, rfl⟩
  refine x_iconst 0 rfl ?_
  refine x_istore_n 1 (L' := [some (vR (some 189)), some (vI (p)), some (vI (0)), none]) rfl (by decide) rfl rfl ?_
  refine x_iconst 2 rfl ?_
  refine x_istore_n 3 (L' := [some (vR (some 189)), some (vI (p)), some (vI (0)), some (vI (0))]) rfl (by decide) rfl rfl ?_
  have loopL1 : ∀ (nz : Nat) (x : Int) (s : Int), (0 ≤ x ∧ x ≤ i 190 11) → (s = sumZ f x) → (i 190 11 - x) < (nz : Int) → mX m_X9_presentStrength 2 (qI (gPres (i 190) p) (st i l)) 0 0 4 [some (vR (some 189)), some (vI (p)), some (vI (s)), some (vI (x))] [] (st i l) := by
    intro nz
    induction nz with
    | zero => intro x s hx hs hz; exact absurd hz (by omega)
    | succ nz ihL1 =>
      intro x s hx hs hzL1
      refine x_iload_n 4 rfl rfl ?_
      refine x_aload_n 5 rfl rfl ?_
      refine x_getR 6 (z := 190) rfl fl_X9_7 (n_lt rfl) k_189 rfl r_189_0 ?_
      refine x_bipush 7 rfl (by decide) ?_
      refine x_iald 8 (z := i 190 11) rfl (n_lt rfl) k_190 (by omega) rfl ?_
      refine x_icmp_ge 9 (tgt := 54) rfl (by decide) (by omega) (fun h2 => ?_) (fun h2 => ?_)
      · refine x_iload_n 33 rfl rfl ?_
        refine x_ret 34 (some (vI (s))) rfl ⟨rfl, Or.inl rfl⟩ ⟨congrArg (fun z => some (vI z)) ?_, rfl⟩
        rw [hs, hf, show x = i 190 11 by omega]; rfl
      · have hfx : f x = (if sV (i 190) x 2 = p ∧ sV (i 190) x 3 ≠ 0 then sV (i 190) x 0 else 0) := by rw [hf]
        have hvx := hW.v hx.1 (show x < i 190 11 by omega)
        have hv0 := hvx.1
        have hv2 := hvx.2.2.1
        have hv3 := hvx.2.2.2.1
        refine x_iload_n 10 rfl rfl ?_
        refine x_aload_n 11 rfl rfl ?_
        refine x_iload_n 12 rfl rfl ?_
        refine x_iconst 13 rfl ?_
        refine x_callV 14 m_X9_of (r_of (by omega) (by omega)) rfl ok_X9_of (n_lt rfl) k_189 rfl rfl ml_X9_72 im_X9_of se_X9_of rfl (by decide) rfl (Nat.le_of_ble_eq_true rfl) rfl rfl (fun v g q3 => ?_)
        obtain ⟨rfl, rfl⟩ := q3
        show mX m_X9_presentStrength 2 _ 0 0 _ _ [vI (sV (i 190) x 2), vI (s)] _
        refine x_iload_n 15 rfl rfl ?_
        refine x_icmp_ne 16 (tgt := 45) rfl (by decide) (by omega) (fun h4 => ?_) (fun h4 => ?_)
        · refine x_iconst 28 rfl ?_
          refine x_iadd 29 (r := s + 0) rfl rfl ?_
          refine x_istore_n 30 (L' := [some (vR (some 189)), some (vI (p)), some (vI (s + 0)), some (vI (x))]) rfl (by decide) rfl rfl ?_
          refine x_iinc 31 (L' := [some (vR (some 189)), some (vI (p)), some (vI (s + 0)), some (vI (x + 1))]) rfl (by decide) rfl rfl rfl rfl ?_
          refine x_goto 32 (tgt := 4) rfl (by decide) ?_
          exact ihL1 (x + 1) (s + 0) (by omega) (by rw [sumZ_s f hx.1, hfx]; grind) (by omega)
        · refine x_aload_n 17 rfl rfl ?_
          refine x_iload_n 18 rfl rfl ?_
          refine x_iconst 19 rfl ?_
          refine x_callV 20 m_X9_of (r_of (by omega) (by omega)) rfl ok_X9_of (n_lt rfl) k_189 rfl rfl ml_X9_72 im_X9_of se_X9_of rfl (by decide) rfl (Nat.le_of_ble_eq_true rfl) rfl rfl (fun v g q5 => ?_)
          obtain ⟨rfl, rfl⟩ := q5
          show mX m_X9_presentStrength 2 _ 0 0 _ _ [vI (sV (i 190) x 3), vI (s)] _
          refine x_iconst 21 rfl ?_
          refine x_icmp_ne 22 (tgt := 45) rfl (by decide) (by omega) (fun h6 => ?_) (fun h6 => ?_)
          · refine x_iconst 28 rfl ?_
            refine x_iadd 29 (r := s + 0) rfl rfl ?_
            refine x_istore_n 30 (L' := [some (vR (some 189)), some (vI (p)), some (vI (s + 0)), some (vI (x))]) rfl (by decide) rfl rfl ?_
            refine x_iinc 31 (L' := [some (vR (some 189)), some (vI (p)), some (vI (s + 0)), some (vI (x + 1))]) rfl (by decide) rfl rfl rfl rfl ?_
            refine x_goto 32 (tgt := 4) rfl (by decide) ?_
            exact ihL1 (x + 1) (s + 0) (by omega) (by rw [sumZ_s f hx.1, hfx]; grind) (by omega)
          · refine x_aload_n 23 rfl rfl ?_
            refine x_iload_n 24 rfl rfl ?_
            refine x_iconst 25 rfl ?_
            refine x_callV 26 m_X9_of (r_of (by omega) (by omega)) rfl ok_X9_of (n_lt rfl) k_189 rfl rfl ml_X9_72 im_X9_of se_X9_of rfl (by decide) rfl (Nat.le_of_ble_eq_true rfl) rfl rfl (fun v g q7 => ?_)
            obtain ⟨rfl, rfl⟩ := q7
            show mX m_X9_presentStrength 2 _ 0 0 _ _ [vI (sV (i 190) x 0), vI (s)] _
            refine x_goto 27 (tgt := 46) rfl (by decide) ?_
            refine x_iadd 29 (r := s + (sV (i 190) x 0)) rfl rfl ?_
            refine x_istore_n 30 (L' := [some (vR (some 189)), some (vI (p)), some (vI (s + (sV (i 190) x 0))), some (vI (x))]) rfl (by decide) rfl rfl ?_
            refine x_iinc 31 (L' := [some (vR (some 189)), some (vI (p)), some (vI (s + (sV (i 190) x 0))), some (vI (x + 1))]) rfl (by decide) rfl rfl rfl rfl ?_
            refine x_goto 32 (tgt := 4) rfl (by decide) ?_
            exact ihL1 (x + 1) (s + (sV (i 190) x 0)) (by omega) (by rw [sumZ_s f hx.1, hfx]; grind) (by omega)
  exact loopL1 ((i 190 11 - ((0))) + 1 : Int).toNat (0) (0) (by omega) (rfl) (by omega)
set_option maxRecDepth 20000 in
set_option maxHeartbeats 2000000 in
theorem r_absent {i : Nat → Int → Int} {l : Nat → Int → BitVec 64} (hW : okW (i 190)) : mCtr m_X9_absent 2 0 0 [vR (some 189)] (st i l) (qI (gAbs (i 190)) (st i l)) := by
  refine mCtr_of pl_X9 dc_X9_absent (Nat.le_of_ble_eq_true rfl) rfl ?_
  show mX m_X9_absent 2 _ 0 0 0 [some (vR (some 189)), none, none] [] (st i l)
  have hN := hW.n
  obtain ⟨f, hf⟩ : ∃ f : Int → Int, f = fun k => if sV (i 190) k 3 = 0 then 1 else 0 := ⟨_, rfl⟩
  refine x_iconst 0 rfl ?_
  refine x_istore_n 1 (L' := [some (vR (some 189)), some (vI (0)), none]) rfl (by decide) rfl rfl ?_
  refine x_iconst 2 rfl ?_
  refine x_istore_n 3 (L' := [some (vR (some 189)), some (vI (0)), some (vI (0))]) rfl (by decide) rfl rfl ?_
  have loopL1 : ∀ (nz : Nat) (x : Int) (s : Int), (0 ≤ x ∧ x ≤ i 190 11) → (s = sumZ f x) → (i 190 11 - x) < (nz : Int) → mX m_X9_absent 2 (qI (gAbs (i 190)) (st i l)) 0 0 4 [some (vR (some 189)), some (vI (s)), some (vI (x))] [] (st i l) := by
    intro nz
    induction nz with
    | zero => intro x s hx hs hz; exact absurd hz (by omega)
    | succ nz ihL1 =>
      intro x s hx hs hzL1
      refine x_iload_n 4 rfl rfl ?_
      refine x_aload_n 5 rfl rfl ?_
      refine x_getR 6 (z := 190) rfl fl_X9_7 (n_lt rfl) k_189 rfl r_189_0 ?_
      refine x_bipush 7 rfl (by decide) ?_
      refine x_iald 8 (z := i 190 11) rfl (n_lt rfl) k_190 (by omega) rfl ?_
      refine x_icmp_ge 9 (tgt := 39) rfl (by decide) (by omega) (fun h2 => ?_) (fun h2 => ?_)
      · refine x_iload_n 24 rfl rfl ?_
        refine x_ret 25 (some (vI (s))) rfl ⟨rfl, Or.inl rfl⟩ ⟨congrArg (fun z => some (vI z)) ?_, rfl⟩
        rw [hs, hf, show x = i 190 11 by omega]; rfl
      · have hfx : f x = (if sV (i 190) x 3 = 0 then 1 else 0) := by rw [hf]
        have hvx := hW.v hx.1 (show x < i 190 11 by omega)
        have hv0 := hvx.1
        have hv2 := hvx.2.2.1
        have hv3 := hvx.2.2.2.1
        refine x_iload_n 10 rfl rfl ?_
        refine x_aload_n 11 rfl rfl ?_
        refine x_iload_n 12 rfl rfl ?_
        refine x_iconst 13 rfl ?_
        refine x_callV 14 m_X9_of (r_of (by omega) (by omega)) rfl ok_X9_of (n_lt rfl) k_189 rfl rfl ml_X9_72 im_X9_of se_X9_of rfl (by decide) rfl (Nat.le_of_ble_eq_true rfl) rfl rfl (fun v g q3 => ?_)
        obtain ⟨rfl, rfl⟩ := q3
        show mX m_X9_absent 2 _ 0 0 _ _ [vI (sV (i 190) x 3), vI (s)] _
        refine x_iconst 15 rfl ?_
        refine x_icmp_ne 16 (tgt := 30) rfl (by decide) (by omega) (fun h4 => ?_) (fun h4 => ?_)
        · refine x_iconst 19 rfl ?_
          refine x_iadd 20 (r := s + 1) rfl rfl ?_
          refine x_istore_n 21 (L' := [some (vR (some 189)), some (vI (s + 1)), some (vI (x))]) rfl (by decide) rfl rfl ?_
          refine x_iinc 22 (L' := [some (vR (some 189)), some (vI (s + 1)), some (vI (x + 1))]) rfl (by decide) rfl rfl rfl rfl ?_
          refine x_goto 23 (tgt := 4) rfl (by decide) ?_
          exact ihL1 (x + 1) (s + 1) (by omega) (by rw [sumZ_s f hx.1, hfx]; grind) (by omega)
        · refine x_iconst 17 rfl ?_
          refine x_goto 18 (tgt := 31) rfl (by decide) ?_
          refine x_iadd 20 (r := s + 0) rfl rfl ?_
          refine x_istore_n 21 (L' := [some (vR (some 189)), some (vI (s + 0)), some (vI (x))]) rfl (by decide) rfl rfl ?_
          refine x_iinc 22 (L' := [some (vR (some 189)), some (vI (s + 0)), some (vI (x + 1))]) rfl (by decide) rfl rfl rfl rfl ?_
          refine x_goto 23 (tgt := 4) rfl (by decide) ?_
          exact ihL1 (x + 1) (s + 0) (by omega) (by rw [sumZ_s f hx.1, hfx]; grind) (by omega)
  exact loopL1 ((i 190 11 - ((0))) + 1 : Int).toNat (0) (0) (by omega) (rfl) (by omega)
set_option maxRecDepth 20000 in
set_option maxHeartbeats 2000000 in
theorem r_rows {i : Nat → Int → Int} {l : Nat → Int → BitVec 64} (hW : okW (i 190)) {p : Int} (hp : -2147483648 ≤ p ∧ p < 2147483648) : mCtr m_X9_rows 3 0 0 [vR (some 189), vI (p)] (st i l) (qI (gRows (i 190) p) (st i l)) := by
  refine mCtr_of pl_X9 dc_X9_rows (Nat.le_of_ble_eq_true rfl) rfl ?_
  show mX m_X9_rows 3 _ 0 0 0 [some (vR (some 189)), some (vI (p))] [] (st i l)
  have hN := hW.n
  have hM := gMem_bd hW p
  refine x_aload_n 0 rfl rfl ?_
  refine x_iload_n 1 rfl rfl ?_
  refine x_callV 2 m_X9_placedIn (r_placedIn hW (by omega)) rfl ok_X9_placedIn (n_lt rfl) k_189 rfl rfl ml_X9_197 im_X9_placedIn se_X9_placedIn rfl (by decide) rfl (Nat.le_of_ble_eq_true rfl) rfl rfl (fun v g q1 => ?_)
  obtain ⟨rfl, rfl⟩ := q1
  show mX m_X9_rows 3 _ 0 0 _ _ [vI (gMem (i 190) p)] _
  refine x_aload_n 3 rfl rfl ?_
  refine x_getR 4 (z := 190) rfl fl_X9_7 (n_lt rfl) k_189 rfl r_189_0 ?_
  refine x_iconst 5 rfl ?_
  refine x_iald 6 (z := i 190 3) rfl (n_lt rfl) k_190 (by omega) rfl ?_
  refine x_iadd 7 (r := (gMem (i 190) p) + (i 190 3)) rfl rfl ?_
  refine x_iconst 8 rfl ?_
  refine x_isub 9 (r := ((gMem (i 190) p) + (i 190 3)) - 1) rfl rfl ?_
  refine x_aload_n 10 rfl rfl ?_
  refine x_getR 11 (z := 190) rfl fl_X9_7 (n_lt rfl) k_189 rfl r_189_0 ?_
  refine x_iconst 12 rfl ?_
  refine x_iald 13 (z := i 190 3) rfl (n_lt rfl) k_190 (by omega) rfl ?_
  refine x_idiv 14 (r := (((gMem (i 190) p) + (i 190 3)) - 1) / (i 190 3)) rfl (by omega) rfl ?_
  refine x_ret 15 (some (vI ((((gMem (i 190) p) + (i 190 3)) - 1) / (i 190 3)))) rfl ⟨rfl, Or.inl rfl⟩ ⟨congrArg (fun z => some (vI z)) ?_, rfl⟩
  rfl
set_option maxRecDepth 20000 in
set_option maxHeartbeats 2000000 in
theorem r_covered {i : Nat → Int → Int} {l : Nat → Int → BitVec 64} (hW : okW (i 190)) : mCtr m_X9_covered 3 0 0 [vR (some 189)] (st i l) (qI (gCov (i 190)) (st i l)) := by
  refine mCtr_of pl_X9 dc_X9_covered (Nat.le_of_ble_eq_true rfl) rfl ?_
  show mX m_X9_covered 3 _ 0 0 0 [some (vR (some 189)), none, none] [] (st i l)
  have hN := hW.n
  obtain ⟨f, hf⟩ : ∃ f : Int → Bool, f = fun p => decide (i 190 1 ≤ gPres (i 190) p) := ⟨_, rfl⟩
  refine x_iconst 0 rfl ?_
  refine x_istore_n 1 (L' := [some (vR (some 189)), some (vI (0)), none]) rfl (by decide) rfl rfl ?_
  refine x_iconst 2 rfl ?_
  refine x_istore_n 3 (L' := [some (vR (some 189)), some (vI (0)), some (vI (0))]) rfl (by decide) rfl rfl ?_
  have loopL1 : ∀ (nz : Nat) (x : Int) (s : Int), (0 ≤ x ∧ x ≤ 4) → (s = orZ f x) → (4 - x) < (nz : Int) → mX m_X9_covered 3 (qI (gCov (i 190)) (st i l)) 0 0 4 [some (vR (some 189)), some (vI (s)), some (vI (x))] [] (st i l) := by
    intro nz
    induction nz with
    | zero => intro x s hx hs hz; exact absurd hz (by omega)
    | succ nz ihL1 =>
      intro x s hx hs hzL1
      refine x_iload_n 4 rfl rfl ?_
      refine x_iconst 5 rfl ?_
      refine x_icmp_ge 6 (tgt := 39) rfl (by decide) (by omega) (fun h2 => ?_) (fun h2 => ?_)
      · refine x_iload_n 25 rfl rfl ?_
        refine x_ret 26 (some (vI (s))) rfl ⟨rfl, Or.inl rfl⟩ ⟨congrArg (fun z => some (vI z)) ?_, rfl⟩
        rw [hs, hf, show x = 4 by omega]; rfl
      · have hpb := gPres_bd hW x
        have hob := orZ_bd f (x := x) (by omega)
        refine x_iload_n 7 rfl rfl ?_
        refine x_aload_n 8 rfl rfl ?_
        refine x_iload_n 9 rfl rfl ?_
        refine x_callV 10 m_X9_presentStrength (r_presentStrength hW (by omega)) rfl ok_X9_presentStrength (n_lt rfl) k_189 rfl rfl ml_X9_121 im_X9_presentStrength se_X9_presentStrength rfl (by decide) rfl (Nat.le_of_ble_eq_true rfl) rfl rfl (fun v g q3 => ?_)
        obtain ⟨rfl, rfl⟩ := q3
        show mX m_X9_covered 3 _ 0 0 _ _ [vI (gPres (i 190) x), vI (s)] _
        refine x_aload_n 11 rfl rfl ?_
        refine x_getR 12 (z := 190) rfl fl_X9_7 (n_lt rfl) k_189 rfl r_189_0 ?_
        refine x_iconst 13 rfl ?_
        refine x_iald 14 (z := i 190 1) rfl (n_lt rfl) k_190 (by omega) rfl ?_
        refine x_icmp_lt 15 (tgt := 30) rfl (by decide) (by omega) (fun h4 => ?_) (fun h4 => ?_)
        · have hfx : f x = false := by rw [hf]; simp only; rw [decide_eq_false_iff_not]; omega
          refine x_iconst 20 rfl ?_
          refine x_ior 21 (r := (s : Int).toNat ||| (0 : Int).toNat) rfl (by omega) rfl ?_
          refine x_istore_n 22 (L' := [some (vR (some 189)), some (vI ((((s : Int).toNat ||| (0 : Int).toNat : Nat) : Int))), some (vI (x))]) rfl (by decide) rfl rfl ?_
          refine x_iinc 23 (L' := [some (vR (some 189)), some (vI ((((s : Int).toNat ||| (0 : Int).toNat : Nat) : Int))), some (vI (x + 1))]) rfl (by decide) rfl rfl rfl rfl ?_
          refine x_goto 24 (tgt := 4) rfl (by decide) ?_
          exact ihL1 (x + 1) ((((s : Int).toNat ||| (0 : Int).toNat : Nat) : Int)) (by omega) (by rw [orZ_s f hx.1, hs, hfx]; first | (rw [if_neg (by decide)]; simp only [Int.toNat_zero, Nat.or_zero]; omega) | (rw [if_pos rfl, mOne])) (by omega)
        · have hfx : f x = true := by rw [hf]; simp only; rw [decide_eq_true_eq]; omega
          have hp2 := mPow4 (show 0 ≤ x ∧ x < 4 by omega)
          refine x_iconst 16 rfl ?_
          refine x_iload_n 17 rfl rfl ?_
          refine x_ishl 18 (r := 1 * 2 ^ (x).toNat) rfl (by have := Nat.pow_le_pow_right (n := 2) (by decide) (show x.toNat ≤ 4 by omega); omega) rfl ?_
          refine x_goto 19 (tgt := 31) rfl (by decide) ?_
          refine x_ior 21 (r := (s : Int).toNat ||| (1 * 2 ^ (x).toNat : Int).toNat) rfl (by omega) rfl ?_
          refine x_istore_n 22 (L' := [some (vR (some 189)), some (vI ((((s : Int).toNat ||| (1 * 2 ^ (x).toNat : Int).toNat : Nat) : Int))), some (vI (x))]) rfl (by decide) rfl rfl ?_
          refine x_iinc 23 (L' := [some (vR (some 189)), some (vI ((((s : Int).toNat ||| (1 * 2 ^ (x).toNat : Int).toNat : Nat) : Int))), some (vI (x + 1))]) rfl (by decide) rfl rfl rfl rfl ?_
          refine x_goto 24 (tgt := 4) rfl (by decide) ?_
          exact ihL1 (x + 1) ((((s : Int).toNat ||| (1 * 2 ^ (x).toNat : Int).toNat : Nat) : Int)) (by omega) (by rw [orZ_s f hx.1, hs, hfx]; first | (rw [if_neg (by decide)]; simp only [Int.toNat_zero, Nat.or_zero]; omega) | (rw [if_pos rfl, mOne])) (by omega)
  exact loopL1 ((4 - ((0))) + 1 : Int).toNat (0) (0) (by omega) (rfl) (by omega)
set_option maxRecDepth 20000 in
set_option maxHeartbeats 2000000 in
theorem r_isRested {i : Nat → Int → Int} {l : Nat → Int → BitVec 64} (hW : okW (i 190)) {s : Int} (hs : 0 ≤ s ∧ s < i 190 11) : mCtr m_X9_isRested 2 0 0 [vR (some 189), vI (s)] (st i l) (qB (gRest (i 190) s) (st i l)) := by
  refine mCtr_of pl_X9 dc_X9_isRested (Nat.le_of_ble_eq_true rfl) rfl ?_
  show mX m_X9_isRested 2 _ 0 0 0 [some (vR (some 189)), some (vI (s))] [] (st i l)
  have hN := hW.n
  have hv := hW.v hs.1 hs.2
  have hv5 := hv.2.2.2.2.2.1
  refine x_aload_n 0 rfl rfl ?_
  refine x_iload_n 1 rfl rfl ?_
  refine x_iconst 2 rfl ?_
  refine x_callV 3 m_X9_of (r_of (by omega) (by omega)) rfl ok_X9_of (n_lt rfl) k_189 rfl rfl ml_X9_72 im_X9_of se_X9_of rfl (by decide) rfl (Nat.le_of_ble_eq_true rfl) rfl rfl (fun v g q1 => ?_)
  obtain ⟨rfl, rfl⟩ := q1
  show mX m_X9_isRested 2 _ 0 0 _ _ [vI (sV (i 190) s 5)] _
  refine x_bipush 4 rfl (by decide) ?_
  refine x_icmp_eq 5 (tgt := 33) rfl (by decide) (by omega) (fun h2 => ?_) (fun h2 => ?_)
  · refine x_iconst 20 rfl ?_
    refine x_goto 21 (tgt := 38) rfl (by decide) ?_
    refine x_ret 23 (some (vI (1))) rfl ⟨rfl, Or.inr ⟨rfl, by omega⟩⟩ ⟨rfl, Or.inl ⟨?_, rfl⟩⟩
    unfold gRest; omega
  · refine x_aload_n 6 rfl rfl ?_
    refine x_getR 7 (z := 190) rfl fl_X9_7 (n_lt rfl) k_189 rfl r_189_0 ?_
    refine x_iconst 8 rfl ?_
    refine x_iald 9 (z := i 190 4) rfl (n_lt rfl) k_190 (by omega) rfl ?_
    refine x_aload_n 10 rfl rfl ?_
    refine x_iload_n 11 rfl rfl ?_
    refine x_iconst 12 rfl ?_
    refine x_callV 13 m_X9_of (r_of (by omega) (by omega)) rfl ok_X9_of (n_lt rfl) k_189 rfl rfl ml_X9_72 im_X9_of se_X9_of rfl (by decide) rfl (Nat.le_of_ble_eq_true rfl) rfl rfl (fun v g q3 => ?_)
    obtain ⟨rfl, rfl⟩ := q3
    show mX m_X9_isRested 2 _ 0 0 _ _ [vI (sV (i 190) s 5), vI (i 190 4)] _
    refine x_isub 14 (r := (i 190 4) - (sV (i 190) s 5)) rfl rfl ?_
    refine x_aload_n 15 rfl rfl ?_
    refine x_getR 16 (z := 190) rfl fl_X9_7 (n_lt rfl) k_189 rfl r_189_0 ?_
    refine x_iconst 17 rfl ?_
    refine x_iald 18 (z := i 190 2) rfl (n_lt rfl) k_190 (by omega) rfl ?_
    refine x_icmp_le 19 (tgt := 37) rfl (by decide) (by omega) (fun h4 => ?_) (fun h4 => ?_)
    · refine x_iconst 22 rfl ?_
      refine x_ret 23 (some (vI (0))) rfl ⟨rfl, Or.inr ⟨rfl, by omega⟩⟩ ⟨rfl, Or.inr ⟨?_, rfl⟩⟩
      unfold gRest; omega
    · refine x_iconst 20 rfl ?_
      refine x_goto 21 (tgt := 38) rfl (by decide) ?_
      refine x_ret 23 (some (vI (1))) rfl ⟨rfl, Or.inr ⟨rfl, by omega⟩⟩ ⟨rfl, Or.inl ⟨?_, rfl⟩⟩
      unfold gRest; omega
set_option maxRecDepth 20000 in
set_option maxHeartbeats 2000000 in
theorem r_isBefore {i : Nat → Int → Int} {l : Nat → Int → BitVec 64} (hW : okW (i 190)) {s : Int} (hs : 0 ≤ s ∧ s < i 190 11) {t : Int} (ht : 0 ≤ t ∧ t < i 190 11) : mCtr m_X9_isBefore 2 0 0 [vR (some 189), vI (s), vI (t)] (st i l) (qB (soBf (wD (i 190)) s t) (st i l)) := by
  refine mCtr_of pl_X9 dc_X9_isBefore (Nat.le_of_ble_eq_true rfl) rfl ?_
  show mX m_X9_isBefore 2 _ 0 0 0 [some (vR (some 189)), some (vI (s)), some (vI (t))] [] (st i l)
  have hN := hW.n
  have hv := hW.v hs.1 hs.2
  have hv5 := hv.2.2.2.2.2.1
  have hv4 := hv.2.2.2.2.1
  have hu := hW.v ht.1 ht.2
  have hu5 := hu.2.2.2.2.2.1
  have hu4 := hu.2.2.2.2.1
  rw [show (soBf (wD (i 190)) s t) = _ from propext soBf_wD]
  refine x_aload_n 0 rfl rfl ?_
  refine x_iload_n 1 rfl rfl ?_
  refine x_iconst 2 rfl ?_
  refine x_callV 3 m_X9_of (r_of (by omega) (by omega)) rfl ok_X9_of (n_lt rfl) k_189 rfl rfl ml_X9_72 im_X9_of se_X9_of rfl (by decide) rfl (Nat.le_of_ble_eq_true rfl) rfl rfl (fun v g q1 => ?_)
  obtain ⟨rfl, rfl⟩ := q1
  show mX m_X9_isBefore 2 _ 0 0 _ _ [vI (sV (i 190) s 4)] _
  refine x_aload_n 4 rfl rfl ?_
  refine x_iload_n 5 rfl rfl ?_
  refine x_iconst 6 rfl ?_
  refine x_callV 7 m_X9_of (r_of (by omega) (by omega)) rfl ok_X9_of (n_lt rfl) k_189 rfl rfl ml_X9_72 im_X9_of se_X9_of rfl (by decide) rfl (Nat.le_of_ble_eq_true rfl) rfl rfl (fun v g q2 => ?_)
  obtain ⟨rfl, rfl⟩ := q2
  show mX m_X9_isBefore 2 _ 0 0 _ _ [vI (sV (i 190) t 4), vI (sV (i 190) s 4)] _
  refine x_icmp_eq 8 (tgt := 36) rfl (by decide) (by omega) (fun h3 => ?_) (fun h3 => ?_)
  · refine x_aload_n 22 rfl rfl ?_
    refine x_iload_n 23 rfl rfl ?_
    refine x_iconst 24 rfl ?_
    refine x_callV 25 m_X9_of (r_of (by omega) (by omega)) rfl ok_X9_of (n_lt rfl) k_189 rfl rfl ml_X9_72 im_X9_of se_X9_of rfl (by decide) rfl (Nat.le_of_ble_eq_true rfl) rfl rfl (fun v g q4 => ?_)
    obtain ⟨rfl, rfl⟩ := q4
    show mX m_X9_isBefore 2 _ 0 0 _ _ [vI (sV (i 190) s 5)] _
    refine x_aload_n 26 rfl rfl ?_
    refine x_iload_n 27 rfl rfl ?_
    refine x_iconst 28 rfl ?_
    refine x_callV 29 m_X9_of (r_of (by omega) (by omega)) rfl ok_X9_of (n_lt rfl) k_189 rfl rfl ml_X9_72 im_X9_of se_X9_of rfl (by decide) rfl (Nat.le_of_ble_eq_true rfl) rfl rfl (fun v g q5 => ?_)
    obtain ⟨rfl, rfl⟩ := q5
    show mX m_X9_isBefore 2 _ 0 0 _ _ [vI (sV (i 190) t 5), vI (sV (i 190) s 5)] _
    refine x_icmp_ge 30 (tgt := 55) rfl (by decide) (by omega) (fun h6 => ?_) (fun h6 => ?_)
    · refine x_iconst 33 rfl ?_
      refine x_ret 34 (some (vI (0))) rfl ⟨rfl, Or.inr ⟨rfl, by omega⟩⟩ ⟨rfl, Or.inr ⟨?_, rfl⟩⟩
      omega
    · refine x_iconst 31 rfl ?_
      refine x_goto 32 (tgt := 56) rfl (by decide) ?_
      refine x_ret 34 (some (vI (1))) rfl ⟨rfl, Or.inr ⟨rfl, by omega⟩⟩ ⟨rfl, Or.inl ⟨?_, rfl⟩⟩
      omega
  · refine x_aload_n 9 rfl rfl ?_
    refine x_iload_n 10 rfl rfl ?_
    refine x_iconst 11 rfl ?_
    refine x_callV 12 m_X9_of (r_of (by omega) (by omega)) rfl ok_X9_of (n_lt rfl) k_189 rfl rfl ml_X9_72 im_X9_of se_X9_of rfl (by decide) rfl (Nat.le_of_ble_eq_true rfl) rfl rfl (fun v g q7 => ?_)
    obtain ⟨rfl, rfl⟩ := q7
    show mX m_X9_isBefore 2 _ 0 0 _ _ [vI (sV (i 190) s 4)] _
    refine x_aload_n 13 rfl rfl ?_
    refine x_iload_n 14 rfl rfl ?_
    refine x_iconst 15 rfl ?_
    refine x_callV 16 m_X9_of (r_of (by omega) (by omega)) rfl ok_X9_of (n_lt rfl) k_189 rfl rfl ml_X9_72 im_X9_of se_X9_of rfl (by decide) rfl (Nat.le_of_ble_eq_true rfl) rfl rfl (fun v g q8 => ?_)
    obtain ⟨rfl, rfl⟩ := q8
    show mX m_X9_isBefore 2 _ 0 0 _ _ [vI (sV (i 190) t 4), vI (sV (i 190) s 4)] _
    refine x_icmp_ge 17 (tgt := 34) rfl (by decide) (by omega) (fun h9 => ?_) (fun h9 => ?_)
    · refine x_iconst 20 rfl ?_
      refine x_ret 21 (some (vI (0))) rfl ⟨rfl, Or.inr ⟨rfl, by omega⟩⟩ ⟨rfl, Or.inr ⟨?_, rfl⟩⟩
      omega
    · refine x_iconst 18 rfl ?_
      refine x_goto 19 (tgt := 35) rfl (by decide) ?_
      refine x_ret 21 (some (vI (1))) rfl ⟨rfl, Or.inr ⟨rfl, by omega⟩⟩ ⟨rfl, Or.inl ⟨?_, rfl⟩⟩
      omega
set_option maxRecDepth 20000 in
set_option maxHeartbeats 2000000 in
theorem r_isFree {i : Nat → Int → Int} {l : Nat → Int → BitVec 64} (hW : okW (i 190)) {s : Int} (hs : 0 ≤ s ∧ s < i 190 11) {p : Int} (hp : 0 ≤ p ∧ p < 4) (hst : ∀ k, -9 ≤ (SRm i).1 k ∧ (SRm i).1 k ≤ 3) (hB : ∀ q, -2000 ≤ (SRm i).2 q ∧ (SRm i).2 q ≤ 2000) : mCtr m_X9_isFree 5 0 0 [vR (some 189), vI (s), vI (p)] (st i l) (qW (fun z i' l' => ((siOk (wD (i 190)) p s (SRm i) ∧ z = 1) ∨ (¬ siOk (wD (i 190)) p s (SRm i) ∧ z = 0)) ∧ l' = l ∧ fr9 i i')) := by
  refine mCtr_of pl_X9 dc_X9_isFree (Nat.le_of_ble_eq_true rfl) rfl ?_
  show mX m_X9_isFree 5 _ 0 0 0 [some (vR (some 189)), some (vI (s)), some (vI (p)), none] [] (st i l)
  have hN := hW.n
  have hv := hW.v hs.1 hs.2
  have hv0 := hv.1
  have hv2 := hv.2.2.1
  have hv3 := hv.2.2.2.1
  rw [show (siOk (wD (i 190)) p s (SRm i)) = _ from propext (siOk_wD (by omega))]
  have hs198 : -9 ≤ i 198 s ∧ i 198 s ≤ 3 := by have := hst s; unfold SRm at this; simp only at this; rw [if_pos (by omega)] at this; exact this
  have h199 : ∀ q, 0 ≤ q → q < 4 → -2000 ≤ i 199 q ∧ i 199 q ≤ 2000 := fun q h0 h1 => by have := hB q; unfold SRm at this; simp only at this; rw [if_pos (by omega)] at this; exact this
  have hfr0 := fr9.rf i
  refine x_aload_n 0 rfl rfl ?_
  refine x_iload_n 1 rfl rfl ?_
  refine x_iconst 2 rfl ?_
  refine x_callV 3 m_X9_of (r_of (by omega) (by omega)) rfl ok_X9_of (n_lt rfl) k_189 rfl rfl ml_X9_72 im_X9_of se_X9_of rfl (by decide) rfl (Nat.le_of_ble_eq_true rfl) rfl rfl (fun v g q1 => ?_)
  obtain ⟨rfl, rfl⟩ := q1
  show mX m_X9_isFree 5 _ 0 0 _ _ [vI (sV (i 190) s 2)] _
  refine x_istore_n 4 (L' := [some (vR (some 189)), some (vI (s)), some (vI (p)), some (vI (sV (i 190) s 2))]) rfl (by decide) rfl rfl ?_
  refine x_aload_n 5 rfl rfl ?_
  refine x_iload_n 6 rfl rfl ?_
  refine x_iconst 7 rfl ?_
  refine x_callV 8 m_X9_of (r_of (by omega) (by omega)) rfl ok_X9_of (n_lt rfl) k_189 rfl rfl ml_X9_72 im_X9_of se_X9_of rfl (by decide) rfl (Nat.le_of_ble_eq_true rfl) rfl rfl (fun v g q2 => ?_)
  obtain ⟨rfl, rfl⟩ := q2
  show mX m_X9_isFree 5 _ 0 0 _ _ [vI (sV (i 190) s 3)] _
  refine x_iconst 9 rfl ?_
  refine x_icmp_ne 10 (tgt := 72) rfl (by decide) (by omega) (fun h3 => ?_) (fun h3 => ?_)
  · refine x_iconst 43 rfl ?_
    refine x_ret 44 (some (vI (0))) rfl ⟨rfl, Or.inr ⟨rfl, by omega⟩⟩ ⟨_, i, l, rfl, rfl, ?_⟩
    refine ⟨?_, rfl, hfr0⟩
    omega
  · refine x_iload_n 11 rfl rfl ?_
    refine x_if_lt 12 (tgt := 72) rfl (by decide) (by omega) (fun h4 => ?_) (fun h4 => ?_)
    · refine x_iconst 43 rfl ?_
      refine x_ret 44 (some (vI (0))) rfl ⟨rfl, Or.inr ⟨rfl, by omega⟩⟩ ⟨_, i, l, rfl, rfl, ?_⟩
      refine ⟨?_, rfl, hfr0⟩
      omega
    · refine x_iload_n 13 rfl rfl ?_
      refine x_iload_n 14 rfl rfl ?_
      refine x_icmp_eq 15 (tgt := 72) rfl (by decide) (by omega) (fun h5 => ?_) (fun h5 => ?_)
      · refine x_iconst 43 rfl ?_
        refine x_ret 44 (some (vI (0))) rfl ⟨rfl, Or.inr ⟨rfl, by omega⟩⟩ ⟨_, i, l, rfl, rfl, ?_⟩
        refine ⟨?_, rfl, hfr0⟩
        omega
      · refine x_aload_n 16 rfl rfl ?_
        refine x_getR 17 (z := 198) rfl fl_X9_41 (n_lt rfl) k_189 rfl r_189_17 ?_
        refine x_iload_n 18 rfl rfl ?_
        refine x_iald 19 (z := i 198 s) rfl (n_lt rfl) k_198 (by omega) rfl ?_
        refine x_bipush 20 rfl (by decide) ?_
        refine x_icmp_ne 21 (tgt := 72) rfl (by decide) (by omega) (fun h6 => ?_) (fun h6 => ?_)
        · refine x_iconst 43 rfl ?_
          refine x_ret 44 (some (vI (0))) rfl ⟨rfl, Or.inr ⟨rfl, by omega⟩⟩ ⟨_, i, l, rfl, rfl, ?_⟩
          refine ⟨?_, rfl, hfr0⟩
          omega
        · refine x_aload_n 22 rfl rfl ?_
          refine x_iload_n 23 rfl rfl ?_
          refine x_iload_n 24 rfl rfl ?_
          refine x_callV 25 m_X9_isFit (r_isFit hW (by omega) (by omega)) rfl ok_X9_isFit (n_lt rfl) k_189 rfl rfl ml_X9_83 im_X9_isFit se_X9_isFit rfl (by decide) rfl (Nat.le_of_ble_eq_true rfl) rfl rfl (fun v g q7 => ?_)
          obtain ⟨z9, i8, li8, rfl, rfl, hi8⟩ := q7
          show mX m_X9_isFree 5 _ 0 0 _ _ [vI (z9)] _
          obtain ⟨hz, rfl, hfr0⟩ := hi8
          have e190 : i8 190 = i 190 := hfr0.w
          have e199 : ∀ q, i8 199 q = i 199 q := fun q => hfr0 199 q (by omega)
          have h199q := h199 (sV (i 190) s 2) (by omega) (by omega)
          have e199q := e199 (sV (i 190) s 2)
          have es0 : sV (i8 190) s 0 = sV (i 190) s 0 := by rw [e190]
          have e1901 : i8 190 1 = i 190 1 := by rw [e190]
          refine x_if_eq 26 (tgt := 72) rfl (by decide) (by omega) (fun h10 => ?_) (fun h10 => ?_)
          · refine x_iconst 43 rfl ?_
            refine x_ret 44 (some (vI (0))) rfl ⟨rfl, Or.inr ⟨rfl, by omega⟩⟩ ⟨_, i8, li8, rfl, rfl, ?_⟩
            refine ⟨?_, rfl, hfr0⟩
            omega
          · refine x_aload_n 27 rfl rfl ?_
            refine x_getR 28 (z := 199) rfl fl_X9_44 (n_lt rfl) k_189 rfl r_189_18 ?_
            refine x_iload_n 29 rfl rfl ?_
            refine x_iald 30 (z := i8 199 (sV (i 190) s 2)) rfl (n_lt rfl) k_199 (by omega) rfl ?_
            refine x_aload_n 31 rfl rfl ?_
            refine x_iload_n 32 rfl rfl ?_
            refine x_iconst 33 rfl ?_
            refine x_callV 34 m_X9_of (r_of (by omega) (by omega)) rfl ok_X9_of (n_lt rfl) k_189 rfl rfl ml_X9_72 im_X9_of se_X9_of rfl (by decide) rfl (Nat.le_of_ble_eq_true rfl) rfl rfl (fun v g q11 => ?_)
            obtain ⟨rfl, rfl⟩ := q11
            show mX m_X9_isFree 5 _ 0 0 _ _ [vI (sV (i8 190) s 0), vI (i8 199 (sV (i 190) s 2))] _
            refine x_isub 35 (r := (i8 199 (sV (i 190) s 2)) - (sV (i8 190) s 0)) rfl rfl ?_
            refine x_aload_n 36 rfl rfl ?_
            refine x_getR 37 (z := 190) rfl fl_X9_7 (n_lt rfl) k_189 rfl r_189_0 ?_
            refine x_iconst 38 rfl ?_
            refine x_iald 39 (z := i8 190 1) rfl (n_lt rfl) k_190 (by omega) rfl ?_
            refine x_icmp_lt 40 (tgt := 72) rfl (by decide) (by omega) (fun h12 => ?_) (fun h12 => ?_)
            · refine x_iconst 43 rfl ?_
              refine x_ret 44 (some (vI (0))) rfl ⟨rfl, Or.inr ⟨rfl, by omega⟩⟩ ⟨_, i8, li8, rfl, rfl, ?_⟩
              refine ⟨?_, rfl, hfr0⟩
              omega
            · refine x_iconst 41 rfl ?_
              refine x_goto 42 (tgt := 73) rfl (by decide) ?_
              refine x_ret 44 (some (vI (1))) rfl ⟨rfl, Or.inr ⟨rfl, by omega⟩⟩ ⟨_, i8, li8, rfl, rfl, ?_⟩
              refine ⟨?_, rfl, hfr0⟩
              omega
set_option maxRecDepth 20000 in
set_option maxHeartbeats 2000000 in
theorem r_findStandIns {i : Nat → Int → Int} {l : Nat → Int → BitVec 64} (hW : okW (i 190)) : mCtr m_X9_findStandIns 6 0 0 [vR (some 189)] (st i l) (qV (fun i' l' => l' = l ∧ (∀ a b, a ≠ 198 → a ≠ 199 → ¬ (a = 189 ∧ (b = 9 ∨ b = 10)) → i' a b = i a b) ∧ SRm i' = plT (i 190))) := by
  refine mCtr_of pl_X9 dc_X9_findStandIns (Nat.le_of_ble_eq_true rfl) rfl ?_
  show mX m_X9_findStandIns 6 _ 0 0 0 [some (vR (some 189)), none, none] [] (st i l)
  have hN := hW.n
  have hS01 : ∀ k, -9 ≤ (S0w (i 190)).1 k ∧ (S0w (i 190)).1 k ≤ 3 := fun k => by show -9 ≤ (-9 : Int) ∧ (-9 : Int) ≤ 3; omega
  have hS02 : ∀ q, -100 ≤ (S0w (i 190)).2 q ∧ (S0w (i 190)).2 q ≤ 100 := fun q => by have := gPres_bd hW q; show -100 ≤ (if 0 ≤ q ∧ q < 4 then gPres (i 190) q else 0) ∧ (if 0 ≤ q ∧ q < 4 then gPres (i 190) q else 0) ≤ 100; split <;> omega
  refine x_iconst 0 rfl ?_
  refine x_istore_n 1 (L' := [some (vR (some 189)), some (vI (0)), none]) rfl (by decide) rfl rfl ?_
  have loopL1 : ∀ (nz : Nat) (ii : Nat → Int → Int) (x : Int), (0 ≤ x ∧ x ≤ 10) → (∀ a b, ii a b = if a = 198 ∧ 0 ≤ b ∧ b < x then -9 else i a b) → (10 - x) < (nz : Int) → mX m_X9_findStandIns 6 (qV (fun i' l' => l' = l ∧ (∀ a b, a ≠ 198 → a ≠ 199 → ¬ (a = 189 ∧ (b = 9 ∨ b = 10)) → i' a b = i a b) ∧ SRm i' = plT (i 190))) 0 0 2 [some (vR (some 189)), some (vI (x)), none] [] (st ii l) := by
    intro nz
    induction nz with
    | zero => intro ii x hx hA hz; exact absurd hz (by omega)
    | succ nz ihL1 =>
      intro ii x hx hA hzL1
      refine x_iload_n 2 rfl rfl ?_
      refine x_bipush 3 rfl (by decide) ?_
      refine x_icmp_ge 4 (tgt := 22) rfl (by decide) (by omega) (fun h2 => ?_) (fun h2 => ?_)
      · refine x_iconst 12 rfl ?_
        refine x_istore_n 13 (L' := [some (vR (some 189)), some (vI (0)), none]) rfl (by decide) rfl rfl ?_
        have loopL3 : ∀ (nz : Nat) (jj : Nat → Int → Int) (x2 : Int), (0 ≤ x2 ∧ x2 ≤ 4) → (∀ a b, jj a b = if a = 198 ∧ 0 ≤ b ∧ b < 10 then -9 else if a = 199 ∧ 0 ≤ b ∧ b < x2 then gPres (i 190) b else i a b) → (4 - x2) < (nz : Int) → mX m_X9_findStandIns 6 (qV (fun i' l' => l' = l ∧ (∀ a b, a ≠ 198 → a ≠ 199 → ¬ (a = 189 ∧ (b = 9 ∨ b = 10)) → i' a b = i a b) ∧ SRm i' = plT (i 190))) 0 0 24 [some (vR (some 189)), some (vI (x2)), none] [] (st jj l) := by
          intro nz
          induction nz with
          | zero => intro jj x2 hx2 hA2 hz; exact absurd hz (by omega)
          | succ nz ihL3 =>
            intro jj x2 hx2 hA2 hzL3
            refine x_iload_n 14 rfl rfl ?_
            refine x_iconst 15 rfl ?_
            refine x_icmp_ge 16 (tgt := 46) rfl (by decide) (by omega) (fun h4 => ?_) (fun h4 => ?_)
            · refine x_iconst 26 rfl ?_
              refine x_istore_n 27 (L' := [some (vR (some 189)), some (vI (0)), none]) rfl (by decide) rfl rfl ?_
              have loopL5 : ∀ (nz : Nat) (kk : Nat → Int → Int) (x3 : Int), (0 ≤ x3 ∧ x3 ≤ 4) → (∀ a b, a ≠ 198 → a ≠ 199 → ¬ (a = 189 ∧ (b = 9 ∨ b = 10)) → kk a b = i a b) → (SRm kk = siAZ (wD (i 190)) (S0w (i 190)) x3) → (4 - x3) < (nz : Int) → mX m_X9_findStandIns 6 (qV (fun i' l' => l' = l ∧ (∀ a b, a ≠ 198 → a ≠ 199 → ¬ (a = 189 ∧ (b = 9 ∨ b = 10)) → i' a b = i a b) ∧ SRm i' = plT (i 190))) 0 0 48 [some (vR (some 189)), some (vI (x3)), none] [] (st kk l) := by
                intro nz
                induction nz with
                | zero => intro kk x3 hx3 hf3 hs3 hz; exact absurd hz (by omega)
                | succ nz ihL5 =>
                  intro kk x3 hx3 hf3 hs3 hzL5
                  refine x_iload_n 28 rfl rfl ?_
                  refine x_iconst 29 rfl ?_
                  refine x_icmp_ge 30 (tgt := 144) rfl (by decide) (by omega) (fun h6 => ?_) (fun h6 => ?_)
                  · refine x_ret 87 none rfl ⟨rfl, rfl⟩ ⟨rfl, kk, l, rfl, ?_⟩
                    refine ⟨rfl, hf3, ?_⟩
                    rw [hs3, show x3 = 4 by omega]
                    rfl
                  · refine x_iconst 31 rfl ?_
                    refine x_istore_n 32 (L' := [some (vR (some 189)), some (vI (x3)), some (vI (0))]) rfl (by decide) rfl rfl ?_
                    have loopL7 : ∀ (nz : Nat) (mm : Nat → Int → Int) (k : Int), (0 ≤ k ∧ k ≤ i 190 11) → (∀ a b, a ≠ 198 → a ≠ 199 → ¬ (a = 189 ∧ (b = 9 ∨ b = 10)) → mm a b = i a b) → (SRm mm = siZ (wD (i 190)) x3 (SRm kk) k) → (i 190 11 - k) < (nz : Int) → mX m_X9_findStandIns 6 (qV (fun i' l' => l' = l ∧ (∀ a b, a ≠ 198 → a ≠ 199 → ¬ (a = 189 ∧ (b = 9 ∨ b = 10)) → i' a b = i a b) ∧ SRm i' = plT (i 190))) 0 0 55 [some (vR (some 189)), some (vI (x3)), some (vI (k))] [] (st mm l) := by
                      intro nz
                      induction nz with
                      | zero => intro mm k hk hf4 hs4 hz; exact absurd hz (by omega)
                      | succ nz ihL7 =>
                        intro mm k hk hf4 hs4 hzL7
                        have m190 : mm 190 = i 190 := by funext b; exact hf4 190 b (by decide) (by decide) (by omega)
                        have m11 : mm 190 11 = i 190 11 := by rw [m190]
                        have m1 : mm 190 1 = i 190 1 := by rw [m190]
                        have hWm : okW (mm 190) := by rw [m190]; exact hW
                        have hst0 : ∀ k, -9 ≤ (SRm kk).1 k ∧ (SRm kk).1 k ≤ 3 := by rw [hs3]; exact siAZ_sb _ _ (by omega) hS01
                        have hB0 : ∀ q, -1500 ≤ (SRm kk).2 q ∧ (SRm kk).2 q ≤ 1500 := by rw [hs3]; exact siAZ_bd _ _ (by omega) hN.1 (wD_g hW) hS02
                        have hstw : ∀ k, -9 ≤ (SRm mm).1 k ∧ (SRm mm).1 k ≤ 3 := by rw [hs4]; exact siZ_sb _ _ _ (by omega) hst0
                        have hBw : ∀ q, -2000 ≤ (SRm mm).2 q ∧ (SRm mm).2 q ≤ 2000 := by intro q; rw [hs4]; have := siZ_bd (wD (i 190)) x3 (SRm kk) (x := k) (B := 1500) hk.1 (fun k h0 h1 => wD_g hW k h0 (by show k < i 190 11; omega)) hB0 q; omega
                        have e199 : mm 199 x3 = (SRm mm).2 x3 := by unfold SRm; simp only; rw [if_pos (by omega)]
                        have hBp := hBw x3
                        refine x_iload_n 33 rfl rfl ?_
                        refine x_aload_n 34 rfl rfl ?_
                        refine x_getR 35 (z := 190) rfl fl_X9_7 (n_lt rfl) k_189 rfl r_189_0 ?_
                        refine x_bipush 36 rfl (by decide) ?_
                        refine x_iald 37 (z := mm 190 11) rfl (n_lt rfl) k_190 (by omega) rfl ?_
                        refine x_icmp_ge 38 (tgt := 138) rfl (by decide) (by omega) (fun h8 => ?_) (fun h8 => ?_)
                        · have hsE : SRm mm = siZ (wD (i 190)) x3 (SRm kk) (dN (wD (i 190))) := by
                            rw [hs4]
                            show _ = siZ (wD (i 190)) x3 (SRm kk) (i 190 11)
                            first
                              | (rw [show k = i 190 11 by omega]; done)
                              | (refine (siZ_stop _ _ _ hk.1 ?_ hk.2).symm; rw [← hs4]; show i 190 1 ≤ _; omega)
                          refine x_iinc 85 (L' := [some (vR (some 189)), some (vI (x3 + 1)), some (vI (k))]) rfl (by decide) rfl rfl rfl rfl ?_
                          refine x_goto 86 (tgt := 48) rfl (by decide) ?_
                          refine x_dropL (L' := [some (vR (some 189)), some (vI (x3 + 1)), none]) ⟨rfl, ⟨rfl, True.intro⟩⟩ ?_
                          exact ihL5 mm (x3 + 1) (by omega) (hf4) (by rw [siAZ_s _ _ hx3.1, ← hs3]; exact hsE) (by omega)
                        · refine x_aload_n 39 rfl rfl ?_
                          refine x_getR 40 (z := 199) rfl fl_X9_44 (n_lt rfl) k_189 rfl r_189_18 ?_
                          refine x_iload_n 41 rfl rfl ?_
                          refine x_iald 42 (z := mm 199 x3) rfl (n_lt rfl) k_199 (by omega) rfl ?_
                          refine x_aload_n 43 rfl rfl ?_
                          refine x_getR 44 (z := 190) rfl fl_X9_7 (n_lt rfl) k_189 rfl r_189_0 ?_
                          refine x_iconst 45 rfl ?_
                          refine x_iald 46 (z := mm 190 1) rfl (n_lt rfl) k_190 (by omega) rfl ?_
                          refine x_icmp_ge 47 (tgt := 138) rfl (by decide) (by omega) (fun h9 => ?_) (fun h9 => ?_)
                          · have hsE : SRm mm = siZ (wD (i 190)) x3 (SRm kk) (dN (wD (i 190))) := by
                              rw [hs4]
                              show _ = siZ (wD (i 190)) x3 (SRm kk) (i 190 11)
                              first
                                | (rw [show k = i 190 11 by omega]; done)
                                | (refine (siZ_stop _ _ _ hk.1 ?_ hk.2).symm; rw [← hs4]; show i 190 1 ≤ _; omega)
                            refine x_iinc 85 (L' := [some (vR (some 189)), some (vI (x3 + 1)), some (vI (k))]) rfl (by decide) rfl rfl rfl rfl ?_
                            refine x_goto 86 (tgt := 48) rfl (by decide) ?_
                            refine x_dropL (L' := [some (vR (some 189)), some (vI (x3 + 1)), none]) ⟨rfl, ⟨rfl, True.intro⟩⟩ ?_
                            exact ihL5 mm (x3 + 1) (by omega) (hf4) (by rw [siAZ_s _ _ hx3.1, ← hs3]; exact hsE) (by omega)
                          · have hnc : (SRm mm).2 x3 < dC (wD (i 190)) := by show _ < i 190 1; omega
                            refine x_aload_n 48 rfl rfl ?_
                            refine x_iload_n 49 rfl rfl ?_
                            refine x_iload_n 50 rfl rfl ?_
                            refine x_callV 51 m_X9_isFree (r_isFree hWm (by omega) (by omega) hstw hBw) rfl ok_X9_isFree (n_lt rfl) k_189 rfl rfl ml_X9_124 im_X9_isFree se_X9_isFree rfl (by decide) rfl (Nat.le_of_ble_eq_true rfl) rfl rfl (fun v g q10 => ?_)
                            obtain ⟨z12, i11, li11, rfl, rfl, hi11⟩ := q10
                            show mX m_X9_findStandIns 6 _ 0 0 _ _ [vI (z12)] _
                            obtain ⟨hz, rfl, hfr⟩ := hi11
                            have hsR : SRm i11 = SRm mm := SRm_congr (fun b => hfr 198 b (by omega)) (fun b => hfr 199 b (by omega))
                            have hfR : ∀ a b, a ≠ 198 → a ≠ 199 → ¬ (a = 189 ∧ (b = 9 ∨ b = 10)) → i11 a b = i a b := fun a b h1 h2 h3 => (hfr a b h3).trans (hf4 a b h1 h2 h3)
                            have r190 : i11 190 = i 190 := hfr.w.trans m190
                            obtain ⟨ir, hir⟩ : ∃ f, f = i11 := ⟨_, rfl⟩
                            refine x_if_eq 52 (tgt := 132) rfl (by decide) (by omega) (fun h13 => ?_) (fun h13 => ?_)
                            · have hnok : ¬ siOk (wD (i 190)) x3 k (SRm mm) := by rw [← m190]; exact hz.elim (fun q => absurd q.2 (by omega)) (fun q => q.1)
                              refine x_iinc 83 (L' := [some (vR (some 189)), some (vI (x3)), some (vI (k + 1))]) rfl (by decide) rfl rfl rfl rfl ?_
                              refine x_goto 84 (tgt := 55) rfl (by decide) ?_
                              exact ihL7 i11 (k + 1) (by omega) (by first | exact hfS | exact hfR) (by first | exact hsS | (rw [siZ_no _ _ _ hk.1 (by rw [← hs4]; exact hnc) (by rw [← hs4]; exact hnok)]; rw [← hs4]; exact hsR)) (by omega)
                            · have hok : siOk (wD (i 190)) x3 k (SRm mm) := by rw [← m190]; exact hz.elim (fun q => q.1) (fun q => absurd q.2 (by omega))
                              have hex := (siOk_wD (show 0 ≤ k ∧ k < 10 by omega)).mp hok
                              refine x_aload_n 53 rfl rfl ?_
                              refine x_getR 54 (z := 198) rfl fl_X9_41 (n_lt rfl) k_189 rfl r_189_17 ?_
                              refine x_iload_n 55 rfl rfl ?_
                              refine x_iload_n 56 rfl rfl ?_
                              obtain ⟨i14, hi14⟩ : ∃ f, f = mU i11 198 (k) (x3) := ⟨_, rfl⟩
                              refine x_iast 57 rfl (n_lt rfl) k_198 (by omega) (g' := st i14 li11) (by subst hi14; rfl) ?_
                              have w1 := hi14
                              have v1 : i14 190 = i 190 := by funext b; rw [hi14, mUne _ _ _ _ _ (by omega), r190]
                              have u2 : sV (i14 190) k 2 = sV (i 190) k 2 := by rw [v1]
                              have u0 : sV (i14 190) k 0 = sV (i 190) k 0 := by rw [v1]
                              refine x_aload_n 58 rfl rfl ?_
                              refine x_getR 59 (z := 199) rfl fl_X9_44 (n_lt rfl) k_189 rfl r_189_18 ?_
                              refine x_aload_n 60 rfl rfl ?_
                              refine x_iload_n 61 rfl rfl ?_
                              refine x_iconst 62 rfl ?_
                              refine x_callV 63 m_X9_of (r_of (by omega) (by omega)) rfl ok_X9_of (n_lt rfl) k_189 rfl rfl ml_X9_72 im_X9_of se_X9_of rfl (by decide) rfl (Nat.le_of_ble_eq_true rfl) rfl rfl (fun v g q15 => ?_)
                              obtain ⟨rfl, rfl⟩ := q15
                              show mX m_X9_findStandIns 6 _ 0 0 _ _ [vI (sV (i14 190) k 2), vR (some 199)] _
                              refine x_dup2 64 rfl rfl rfl ?_
                              refine x_iald 65 (z := i14 199 (sV (i14 190) k 2)) rfl (n_lt rfl) k_199 (by omega) rfl ?_
                              refine x_aload_n 66 rfl rfl ?_
                              refine x_iload_n 67 rfl rfl ?_
                              refine x_iconst 68 rfl ?_
                              refine x_callV 69 m_X9_of (r_of (by omega) (by omega)) rfl ok_X9_of (n_lt rfl) k_189 rfl rfl ml_X9_72 im_X9_of se_X9_of rfl (by decide) rfl (Nat.le_of_ble_eq_true rfl) rfl rfl (fun v g q16 => ?_)
                              obtain ⟨rfl, rfl⟩ := q16
                              show mX m_X9_findStandIns 6 _ 0 0 _ _ [vI (sV (i14 190) k 0), vI (i14 199 (sV (i14 190) k 2)), vI (sV (i14 190) k 2), vR (some 199)] _
                              refine x_isub 70 (r := (i14 199 (sV (i14 190) k 2)) - (sV (i14 190) k 0)) rfl rfl ?_
                              obtain ⟨i17, hi17⟩ : ∃ f, f = mU i14 199 (sV (i14 190) k 2) ((i14 199 (sV (i14 190) k 2)) - (sV (i14 190) k 0)) := ⟨_, rfl⟩
                              refine x_iast 71 rfl (n_lt rfl) k_199 (by omega) (g' := st i17 li11) (by subst hi17; rfl) ?_
                              have w2 := hi17
                              rw [u2, u0] at w2
                              have v2 : i17 190 = i 190 := by funext b; rw [hi17, mUne _ _ _ _ _ (by omega), v1]
                              have u02 : sV (i17 190) k 0 = sV (i 190) k 0 := by rw [v2]
                              refine x_aload_n 72 rfl rfl ?_
                              refine x_getR 73 (z := 199) rfl fl_X9_44 (n_lt rfl) k_189 rfl r_189_18 ?_
                              refine x_iload_n 74 rfl rfl ?_
                              refine x_dup2 75 rfl rfl rfl ?_
                              refine x_iald 76 (z := i17 199 x3) rfl (n_lt rfl) k_199 (by omega) rfl ?_
                              refine x_aload_n 77 rfl rfl ?_
                              refine x_iload_n 78 rfl rfl ?_
                              refine x_iconst 79 rfl ?_
                              refine x_callV 80 m_X9_of (r_of (by omega) (by omega)) rfl ok_X9_of (n_lt rfl) k_189 rfl rfl ml_X9_72 im_X9_of se_X9_of rfl (by decide) rfl (Nat.le_of_ble_eq_true rfl) rfl rfl (fun v g q18 => ?_)
                              obtain ⟨rfl, rfl⟩ := q18
                              show mX m_X9_findStandIns 6 _ 0 0 _ _ [vI (sV (i17 190) k 0), vI (i17 199 x3), vI (x3), vR (some 199)] _
                              refine x_iadd 81 (r := (i17 199 x3) + (sV (i17 190) k 0)) rfl rfl ?_
                              obtain ⟨i19, hi19⟩ : ∃ f, f = mU i17 199 (x3) ((i17 199 x3) + (sV (i17 190) k 0)) := ⟨_, rfl⟩
                              refine x_iast 82 rfl (n_lt rfl) k_199 (by omega) (g' := st i19 li11) (by subst hi19; rfl) ?_
                              have w3 := hi19
                              rw [u02] at w3
                              have hall : i19 = mU (mU (mU ir 198 k x3) 199 (sV (i 190) k 2) (ir 199 (sV (i 190) k 2) - sV (i 190) k 0)) 199 x3 (mU (mU ir 198 k x3) 199 (sV (i 190) k 2) (ir 199 (sV (i 190) k 2) - sV (i 190) k 0) 199 x3 + sV (i 190) k 0) := by rw [w3, w2, w1, hir, mUne _ _ _ _ _ (show (199 : Nat) ≠ 198 by decide)]
                              have hfS : ∀ a b, a ≠ 198 → a ≠ 199 → ¬ (a = 189 ∧ (b = 9 ∨ b = 10)) → i19 a b = i a b := fun a b h1 h2 h3 => by rw [hall, mUne _ _ _ _ _ h2, mUne _ _ _ _ _ h2, mUne _ _ _ _ _ h1, hir]; exact hfR a b h1 h2 h3
                              have hsS : SRm i19 = siZ (wD (i 190)) x3 (SRm kk) (k + 1) := by rw [siZ_do _ _ _ hk.1 (by rw [← hs4]; exact hnc) (by rw [← hs4]; exact hok), ← hs4, ← hsR, ← hir]; exact siDo_wD (by omega) (by omega) hex.2.1 (fun a b _ => by rw [hall])
                              refine x_iinc 83 (L' := [some (vR (some 189)), some (vI (x3)), some (vI (k + 1))]) rfl (by decide) rfl rfl rfl rfl ?_
                              refine x_goto 84 (tgt := 55) rfl (by decide) ?_
                              exact ihL7 i19 (k + 1) (by omega) (by first | exact hfS | exact hfR) (by first | exact hsS | (rw [siZ_no _ _ _ hk.1 (by rw [← hs4]; exact hnc) (by rw [← hs4]; exact hnok)]; rw [← hs4]; exact hsR)) (by omega)
                    exact loopL7 ((i 190 11 - ((0))) + 1 : Int).toNat kk (0) (by omega) (hf3) (rfl) (by omega)
              exact loopL5 ((4 - ((0))) + 1 : Int).toNat jj (0) (by omega) (by intro a b h1 h2 h3; rw [hA2, if_neg (by omega), if_neg (by omega)]) (by show SRm jj = S0w (i 190); rw [show x2 = 4 by omega] at hA2; unfold SRm S0w; simp only [hA2]; refine Prod.ext ?_ ?_ <;> funext k <;> grind) (by omega)
            · have j190 : jj 190 = i 190 := by funext b; rw [hA2, if_neg (by omega), if_neg (by omega)]
              have hWj : okW (jj 190) := by rw [j190]; exact hW
              refine x_aload_n 17 rfl rfl ?_
              refine x_getR 18 (z := 199) rfl fl_X9_44 (n_lt rfl) k_189 rfl r_189_18 ?_
              refine x_iload_n 19 rfl rfl ?_
              refine x_aload_n 20 rfl rfl ?_
              refine x_iload_n 21 rfl rfl ?_
              refine x_callV 22 m_X9_presentStrength (r_presentStrength hWj (by omega)) rfl ok_X9_presentStrength (n_lt rfl) k_189 rfl rfl ml_X9_121 im_X9_presentStrength se_X9_presentStrength rfl (by decide) rfl (Nat.le_of_ble_eq_true rfl) rfl rfl (fun v g q20 => ?_)
              obtain ⟨rfl, rfl⟩ := q20
              show mX m_X9_findStandIns 6 _ 0 0 _ _ [vI (gPres (jj 190) x2), vI (x2), vR (some 199)] _
              obtain ⟨i21, hi21⟩ : ∃ f, f = mU jj 199 (x2) (gPres (jj 190) x2) := ⟨_, rfl⟩
              refine x_iast 23 rfl (n_lt rfl) k_199 (by omega) (g' := st i21 l) (by subst hi21; rfl) ?_
              refine x_iinc 24 (L' := [some (vR (some 189)), some (vI (x2 + 1)), none]) rfl (by decide) rfl rfl rfl rfl ?_
              refine x_goto 25 (tgt := 24) rfl (by decide) ?_
              exact ihL3 i21 (x2 + 1) (by omega) (by intro a b; subst_vars; simp only [mU, hA2, j190]; grind) (by omega)
        exact loopL3 ((4 - ((0))) + 1 : Int).toNat ii (0) (by omega) (by intro a b; rw [hA, show x = 10 by omega]; grind) (by omega)
      · refine x_aload_n 5 rfl rfl ?_
        refine x_getR 6 (z := 198) rfl fl_X9_41 (n_lt rfl) k_189 rfl r_189_17 ?_
        refine x_iload_n 7 rfl rfl ?_
        refine x_bipush 8 rfl (by decide) ?_
        obtain ⟨i22, hi22⟩ : ∃ f, f = mU ii 198 (x) ((-9)) := ⟨_, rfl⟩
        refine x_iast 9 rfl (n_lt rfl) k_198 (by omega) (g' := st i22 l) (by subst hi22; rfl) ?_
        refine x_iinc 10 (L' := [some (vR (some 189)), some (vI (x + 1)), none]) rfl (by decide) rfl rfl rfl rfl ?_
        refine x_goto 11 (tgt := 2) rfl (by decide) ?_
        exact ihL1 i22 (x + 1) (by omega) (by intro a b; subst_vars; simp only [mU, hA]; grind) (by omega)
  exact loopL1 ((10 - ((0))) + 1 : Int).toNat i (0) (by omega) (by intro a b; rw [if_neg (by omega)]) (by omega)
