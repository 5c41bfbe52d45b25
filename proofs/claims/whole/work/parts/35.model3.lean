/-! the other book's calls: what it holds -/
def AP (i : Nat → Int → Int) : Int → Int → Int := fun j x => i 191 (652 * j + x)
def AM (i : Nat → Int → Int) : Int → Int → Int := fun m x => i 192 (652 * m + x)
def AK (i : Nat → Int → Int) : Int → Bool := fun m => decide (if m = 0 then i 189 4 % 2 = 1 else i 189 4 / 2 = 1)
def abB (i : Nat → Int → Int) : bT := (i 190, i 189 2, AP i, AM i, AK i, i 193, i 189 6, i 189 7, i 189 8)
def eqB (A B : bT) : Prop := (∀ x, 0 ≤ x → x < 652 → A.1 x = B.1 x) ∧ A.2.1 = B.2.1 ∧ (∀ j, 0 ≤ j → j < B.2.1 → ∀ x, 0 ≤ x → x < 652 → A.2.2.1 j x = B.2.2.1 j x) ∧ (∀ m, 0 ≤ m → m < 2 → A.2.2.2.2.1 m = B.2.2.2.2.1 m ∧ (B.2.2.2.2.1 m = true → ∀ x, 0 ≤ x → x < 652 → A.2.2.2.1 m x = B.2.2.2.1 m x)) ∧ A.2.2.2.2.2.2.1 = B.2.2.2.2.2.2.1 ∧ (∀ k, 0 ≤ k → k < B.2.2.2.2.2.2.1 → A.2.2.2.2.2.1 k = B.2.2.2.2.2.1 k) ∧ A.2.2.2.2.2.2.2.1 = B.2.2.2.2.2.2.2.1 ∧ A.2.2.2.2.2.2.2.2 = B.2.2.2.2.2.2.2.2
abbrev qR (i : Nat → Int → Int) (l : Nat → Int → BitVec 64) (r : Int × bT) : Option mV → mS → Prop := qW (fun z i' l' => z = r.1 ∧ l' = l ∧ eqB (abB i') r.2 ∧ (0 ≤ i' 189 4 ∧ i' 189 4 ≤ 3) ∧ ∀ a b, a < 189 → i' a b = i a b)
def kA (i i' : Nat → Int → Int) : Prop := ∀ a b, (a < 189 ∨ (191 ≤ a ∧ a ≤ 193) ∨ (a = 189 ∧ (b = 2 ∨ b = 4 ∨ b = 6 ∨ b = 7 ∨ b = 8))) → i' a b = i a b
theorem kA.rf (i : Nat → Int → Int) : kA i i := fun _ _ _ => rfl
theorem kA.tr {i i' i'' : Nat → Int → Int} (h : kA i i') (h2 : kA i' i'') : kA i i'' := fun a b q => (h2 a b q).trans (h a b q)
theorem kA.of9 {i i' : Nat → Int → Int} (h : fr9 i i') : kA i i' := fun a b q => h a b (by omega)
theorem rs_ask {i i' : Nat → Int → Int} {l : Nat → Int → BitVec 64} {z z' : Int} {r : Int × bT} (hz : z = z') (hk : kA i i') (hw : i' 190 = i 190) (hF : 0 ≤ i 189 4 ∧ i 189 4 ≤ 3) (h : r = (z', i 190, i 189 2, AP i, AM i, AK i, i 193, i 189 6, i 189 7, i 189 8)) : z = r.1 ∧ l = l ∧ eqB (abB i') r.2 ∧ (0 ≤ i' 189 4 ∧ i' 189 4 ≤ 3) ∧ ∀ a b, a < 189 → i' a b = i a b := by
  subst h
  have e4 := hk 189 4 (by omega)
  refine ⟨hz, rfl, ⟨fun x _ _ => congrFun hw x, hk 189 2 (by omega), fun j _ _ x _ _ => hk 191 _ (by omega), fun m _ _ => ⟨by show AK i' m = AK i m; unfold AK; rw [e4], fun _ x _ _ => hk 192 _ (by omega)⟩, hk 189 6 (by omega), fun k _ _ => hk 193 k (by omega), hk 189 7 (by omega), hk 189 8 (by omega)⟩, by rw [e4]; exact hF, fun a b ha => hk a b (by omega)⟩
theorem rmI_w (i : Nat → Int → Int) {i1 : Nat → Int → Int} (hm : ∀ a b, i1 a b = rmI i a b) : i1 190 = i 190 := by
  funext b
  rw [hm]
  unfold rmI
  rw [if_neg (by omega), if_neg (by omega), if_neg (by omega)]
theorem rmI_e {i i1 : Nat → Int → Int} (hm : ∀ a b, i1 a b = rmI i a b) {a : Nat} {b : Int} (h : ¬ (a = 189 ∧ b = 2) ∧ a ≠ 191) : i1 a b = i a b := by
  rw [hm]
  unfold rmI
  rw [if_neg h.1, if_neg (fun q => h.2 q.1), if_neg (fun q => h.2 q.1)]
theorem rmI_P {i i1 : Nat → Int → Int} (hp : 0 ≤ i 189 2 ∧ i 189 2 ≤ 8) (hm : ∀ a b, i1 a b = rmI i a b) : i1 189 2 = rmN (i 189 2) ∧ ∀ j, 0 ≤ j → j < rmN (i 189 2) → ∀ x, 0 ≤ x → x < 652 → i1 191 (652 * j + x) = rmP (i 190) (i 189 2) (AP i) j x := by
  refine ⟨by rw [hm]; unfold rmI; rw [if_pos ⟨rfl, rfl⟩], fun j h0 hj x x0 x1 => ?_⟩
  rw [hm]
  unfold rmI rmP
  unfold rmN at hj
  rw [if_neg (by omega)]
  by_cases hq : i 189 2 < 8
  · rw [if_pos hq] at hj ⊢
    by_cases hj2 : j = i 189 2
    · rw [if_pos hj2, if_pos ⟨rfl, hq, by omega, by omega⟩]
      exact congrS (by omega)
    · rw [if_neg hj2, if_neg (by omega), if_neg (by omega)]
      rfl
  · rw [if_neg hq] at hj ⊢
    rw [if_neg (by omega), if_pos ⟨rfl, by omega, by omega, by omega⟩]
    by_cases hj2 : j = 7
    · rw [if_pos hj2, if_neg (by omega)]
      exact congrS (by omega)
    · rw [if_neg hj2, if_pos (by omega)]
      exact congrS (by omega)
theorem rs_rem {i i1 i' : Nat → Int → Int} {l : Nat → Int → BitVec 64} {z z' : Int} {r : Int × bT} {W' : Int → Int} (hz : z = z') (hp : 0 ≤ i 189 2 ∧ i 189 2 ≤ 8) (hm : ∀ a b, i1 a b = rmI i a b) (hk : kA i1 i') (hw : ∀ x, 0 ≤ x → x < 652 → i' 190 x = W' x) (hF : 0 ≤ i 189 4 ∧ i 189 4 ≤ 3) (h : r = (z', W', rmN (i 189 2), rmP (i 190) (i 189 2) (AP i), AM i, AK i, i 193, i 189 6, i 189 7, i 189 8)) : z = r.1 ∧ l = l ∧ eqB (abB i') r.2 ∧ (0 ≤ i' 189 4 ∧ i' 189 4 ≤ 3) ∧ ∀ a b, a < 189 → i' a b = i a b := by
  subst h
  obtain ⟨p1, p2⟩ := rmI_P hp hm
  have e4 : i' 189 4 = i 189 4 := (hk 189 4 (by omega)).trans (rmI_e hm (by omega))
  refine ⟨hz, rfl, ⟨hw, (hk 189 2 (by omega)).trans p1, fun j h0 hj x x0 x1 => (hk 191 _ (by omega)).trans (p2 j h0 hj x x0 x1), fun m _ _ => ⟨by show AK i' m = AK i m; unfold AK; rw [e4], fun _ x _ _ => (hk 192 _ (by omega)).trans (rmI_e hm (by omega))⟩, (hk 189 6 (by omega)).trans (rmI_e hm (by omega)), fun k _ _ => (hk 193 k (by omega)).trans (rmI_e hm (by omega)), (hk 189 7 (by omega)).trans (rmI_e hm (by omega)), (hk 189 8 (by omega)).trans (rmI_e hm (by omega))⟩, by rw [e4]; exact hF, fun a b ha => (hk a b (by omega)).trans (rmI_e hm (by omega))⟩
theorem ad_loop {j1 jj i' : Nat → Int → Int} {n x : Int} (h0 : 0 ≤ x) (hA : ∀ a b, jj a b = if a = 190 ∧ 19 + 48 * n ≤ b ∧ b < 19 + 48 * n + x then -9 else j1 a b) (hi : i' = mU jj 190 (12 + 48 * n + (7 + x)) (-9)) : ∀ a b, i' a b = if a = 190 ∧ 19 + 48 * n ≤ b ∧ b < 19 + 48 * n + (x + 1) then -9 else j1 a b := by
  intro a b
  rw [hi]
  simp only [mU]
  by_cases q : a = 190 ∧ b = 12 + 48 * n + (7 + x)
  · rw [if_pos q, if_pos (by omega)]
  · rw [if_neg q, hA]
    by_cases q2 : a = 190 ∧ 19 + 48 * n ≤ b ∧ b < 19 + 48 * n + x
    · rw [if_pos q2, if_pos (by omega)]
    · rw [if_neg q2, if_neg (by omega)]
theorem rm_loop {W : Int → Int} {jj i' i1 : Nat → Int → Int} {y x : Int} (hx : y ≤ x) (hA : ∀ a b, jj a b = if a = 190 ∧ y ≤ b ∧ b < x then W (b + 48) else i1 a b) (hW : i1 190 = W) (hi : i' = mU jj 190 x (jj 190 (x + 48))) : ∀ a b, i' a b = if a = 190 ∧ y ≤ b ∧ b < x + 1 then W (b + 48) else i1 a b := by
  intro a b
  have e : jj 190 (x + 48) = W (x + 48) := by rw [hA, if_neg (by omega), hW]
  rw [hi, e]
  simp only [mU]
  by_cases q : a = 190 ∧ b = x
  · rw [if_pos q, if_pos (by omega), q.2]
  · rw [if_neg q, hA]
    by_cases q2 : a = 190 ∧ y ≤ b ∧ b < x
    · rw [if_pos q2, if_pos (by omega)]
    · rw [if_neg q2, if_neg (by omega)]
theorem cp_loop {jj i' i1 : Nat → Int → Int} {o o2 : Nat} {F G x v : Int} (h0 : 0 ≤ x) (hA : ∀ a b, jj a b = if a = o ∧ F ≤ b ∧ b < F + x then i1 o2 (G + (b - F)) else i1 a b) (hv : v = i1 o2 (G + x)) (hi : i' = mU jj o (F + x) v) : ∀ a b, i' a b = if a = o ∧ F ≤ b ∧ b < F + (x + 1) then i1 o2 (G + (b - F)) else i1 a b := by
  intro a b
  rw [hi, hv]
  simp only [mU]
  by_cases q : a = o ∧ b = F + x
  · rw [if_pos q, if_pos (by omega), show G + (b - F) = G + x by omega]
  · rw [if_neg q, hA]
    by_cases q2 : a = o ∧ F ≤ b ∧ b < F + x
    · rw [if_pos q2, if_pos (by omega)]
    · rw [if_neg q2, if_neg (by omega)]
theorem part4 {W : Int → Int} (hW : okW W) : W 11 - gMem W (-9) = sumZ (fun p => gMem W p) 4 := by
  have hN := hW.n
  rw [sumZ4]
  unfold gMem
  have key : ∀ n : Nat, (n : Int) ≤ W 11 → (n : Int) - sumN (fun k => if sV W k 2 = -9 then 1 else 0) n = sumN (fun k => if sV W k 2 = 0 then 1 else 0) n + sumN (fun k => if sV W k 2 = 1 then 1 else 0) n + sumN (fun k => if sV W k 2 = 2 then 1 else 0) n + sumN (fun k => if sV W k 2 = 3 then 1 else 0) n := by
    intro n
    induction n with
    | zero => intro _; rfl
    | succ n ih =>
      intro hn
      have i1 := ih (by omega)
      have h2 := (hW.v (show 0 ≤ (n : Int) by omega) (by omega)).2.2.1
      have es : ∀ q, sumN (fun k => if sV W k 2 = q then 1 else 0) (n + 1) = sumN (fun k => if sV W k 2 = q then 1 else 0) n + if sV W n 2 = q then 1 else 0 := fun q => rfl
      rw [es, es, es, es, es]
      rcases (show sV W n 2 = -9 ∨ sV W n 2 = 0 ∨ sV W n 2 = 1 ∨ sV W n 2 = 2 ∨ sV W n 2 = 3 by omega) with h | h | h | h | h <;> rw [h] <;> simp <;> omega
  have := key (W 11).toNat (by omega)
  rw [Int.toNat_of_nonneg hN.1.1] at this
  exact this
theorem AK_t {i : Nat → Int → Int} {m : Int} (hF : 0 ≤ i 189 4 ∧ i 189 4 ≤ 3) (hm : 0 ≤ m ∧ m < 2) : AK i m = true ↔ (i 189 4 / 2 ^ m.toNat) % 2 = 1 := by
  unfold AK
  rw [decide_eq_true_eq]
  rcases (show m = 0 ∨ m = 1 by omega) with rfl | rfl
  · rw [if_pos rfl]
    show _ ↔ (i 189 4 / 2 ^ 0) % 2 = 1
    rw [Int.pow_zero, Int.ediv_one]
  · rw [if_neg (by decide)]
    show _ ↔ (i 189 4 / 2 ^ 1) % 2 = 1
    rw [show (2 : Int) ^ 1 = 2 from rfl]
    omega
set_option maxRecDepth 20000 in
set_option maxHeartbeats 2000000 in
theorem r_findSolos {i : Nat → Int → Int} {l : Nat → Int → BitVec 64} (hW : okW (i 190)) : mCtr m_X9_findSolos 7 0 0 [vR (some 189)] (st i l) (qV (fun i' l' => l' = l ∧ (∀ a b, a ≠ 198 → a ≠ 199 → a ≠ 200 → ¬ (a = 189 ∧ (b = 9 ∨ b = 10)) → i' a b = i a b) ∧ SRm i' = plT (i 190) ∧ ∀ p, 0 ≤ p → p < 4 → i' 200 p = plS (i 190) p)) := by
  refine mCtr_of pl_X9 dc_X9_findSolos (Nat.le_of_ble_eq_true rfl) rfl ?_
  show mX m_X9_findSolos 7 _ 0 0 0 [some (vR (some 189)), none, none] [] (st i l)
  have hN := hW.n
  refine x_aload_n 0 rfl rfl ?_
  refine x_callV 1 m_X9_findStandIns (r_findStandIns hW) rfl ok_X9_findStandIns (n_lt rfl) k_189 rfl rfl ml_X9_127 im_X9_findStandIns se_X9_findStandIns rfl (by decide) rfl (Nat.le_of_ble_eq_true rfl) rfl rfl (fun v g q1 => ?_)
  obtain ⟨rfl, i2, li2, rfl, hi2⟩ := q1
  obtain ⟨hEi2, hi2⟩ := hi2
  have hEi2 := hEi2.symm
  subst hEi2
  show mX m_X9_findSolos 7 _ 0 0 _ _ [] _
  obtain ⟨hf1, hs1⟩ := hi2
  obtain ⟨i1, hi1_⟩ : ∃ f, f = i2 := ⟨_, rfl⟩
  rw [← hi1_] at hf1 hs1
  have hsb := plT_sb (i 190)
  refine x_iconst 2 rfl ?_
  refine x_istore_n 3 (L' := [some (vR (some 189)), some (vI (0)), none]) rfl (by decide) rfl rfl ?_
  have loopL3 : ∀ (nz : Nat) (mm : Nat → Int → Int) (p : Int), (0 ≤ p ∧ p ≤ 4) → (∀ a b, a ≠ 200 → mm a b = i1 a b) → (∀ q, 0 ≤ q → q < p → mm 200 q = plS (i 190) q) → (4 - p) < (nz : Int) → mX m_X9_findSolos 7 (qV (fun i' l' => l' = l ∧ (∀ a b, a ≠ 198 → a ≠ 199 → a ≠ 200 → ¬ (a = 189 ∧ (b = 9 ∨ b = 10)) → i' a b = i a b) ∧ SRm i' = plT (i 190) ∧ ∀ p, 0 ≤ p → p < 4 → i' 200 p = plS (i 190) p)) 0 0 6 [some (vR (some 189)), some (vI (p)), none] [] (st mm l) := by
    intro nz
    induction nz with
    | zero => intro mm p hp hA hs hz; exact absurd hz (by omega)
    | succ nz ihL3 =>
      intro mm p hp hA hs hzL3
      refine x_iload_n 4 rfl rfl ?_
      refine x_iconst 5 rfl ?_
      refine x_icmp_ge 6 (tgt := 124) rfl (by decide) (by omega) (fun h4 => ?_) (fun h4 => ?_)
      · refine x_ret 70 none rfl ⟨rfl, rfl⟩ ⟨rfl, mm, l, rfl, ?_⟩
        refine ⟨rfl, fun a b h1 h2 h3 h4 => by rw [hA a b h3]; exact hf1 a b h1 h2 h4, ?_, ?_⟩
        · rw [SRm_congr (fun b => hA 198 b (by decide)) (fun b => hA 199 b (by decide))]; exact hs1
        · intro q h0 h1; exact hs q h0 (by omega)
      · refine x_aload_n 7 rfl rfl ?_
        refine x_getR 8 (z := 200) rfl fl_X9_47 (n_lt rfl) k_189 rfl r_189_19 ?_
        refine x_iload_n 9 rfl rfl ?_
        refine x_bipush 10 rfl (by decide) ?_
        obtain ⟨i5, hi5⟩ : ∃ f, f = mU mm 200 (p) ((-9)) := ⟨_, rfl⟩
        refine x_iast 11 rfl (n_lt rfl) k_200 (by omega) (g' := st i5 l) (by subst hi5; rfl) ?_
        refine x_iconst 12 rfl ?_
        refine x_istore_n 13 (L' := [some (vR (some 189)), some (vI (p)), some (vI (0))]) rfl (by decide) rfl rfl ?_
        have loopL6 : ∀ (nz : Nat) (nn : Nat → Int → Int) (k : Int), (0 ≤ k ∧ k ≤ i 190 11) → (∀ a b, a ≠ 200 → nn a b = i1 a b) → (∀ q, 0 ≤ q → q < p → nn 200 q = plS (i 190) q) → (nn 200 p = soZ (wD (i 190)) (plT (i 190)).1 p k) → (i 190 11 - k) < (nz : Int) → mX m_X9_findSolos 7 (qV (fun i' l' => l' = l ∧ (∀ a b, a ≠ 198 → a ≠ 199 → a ≠ 200 → ¬ (a = 189 ∧ (b = 9 ∨ b = 10)) → i' a b = i a b) ∧ SRm i' = plT (i 190) ∧ ∀ p, 0 ≤ p → p < 4 → i' 200 p = plS (i 190) p)) 0 0 21 [some (vR (some 189)), some (vI (p)), some (vI (k))] [] (st nn l) := by
          intro nz
          induction nz with
          | zero => intro nn k hk hA2 hs2 hk2 hz; exact absurd hz (by omega)
          | succ nz ihL6 =>
            intro nn k hk hA2 hs2 hk2 hzL6
            have n190 : nn 190 = i 190 := by funext b; rw [hA2 190 b (by decide)]; exact hf1 190 b (by decide) (by decide) (by omega)
            have n11 : nn 190 11 = i 190 11 := by rw [n190]
            have hWn : okW (nn 190) := by rw [n190]; exact hW
            refine x_iload_n 14 rfl rfl ?_
            refine x_aload_n 15 rfl rfl ?_
            refine x_getR 16 (z := 190) rfl fl_X9_7 (n_lt rfl) k_189 rfl r_189_0 ?_
            refine x_bipush 17 rfl (by decide) ?_
            refine x_iald 18 (z := nn 190 11) rfl (n_lt rfl) k_190 (by omega) rfl ?_
            refine x_icmp_ge 19 (tgt := 118) rfl (by decide) (by omega) (fun h7 => ?_) (fun h7 => ?_)
            · refine x_iinc 68 (L' := [some (vR (some 189)), some (vI (p + 1)), some (vI (k))]) rfl (by decide) rfl rfl rfl rfl ?_
              refine x_goto 69 (tgt := 6) rfl (by decide) ?_
              refine x_dropL (L' := [some (vR (some 189)), some (vI (p + 1)), none]) ⟨rfl, ⟨rfl, True.intro⟩⟩ ?_
              exact ihL3 nn (p + 1) (by omega) (hA2) (by intro q h0 h1; by_cases e : q = p; (rw [e, hk2, show k = i 190 11 by omega]; rfl); exact hs2 q h0 (by omega)) (by omega)
            · have hv := hW.v hk.1 (show k < i 190 11 by omega)
              have hv2 := hv.2.2.1
              have hv3 := hv.2.2.2.1
              have ev2 : sV (nn 190) k 2 = sV (i 190) k 2 := by rw [n190]
              have ev3 : sV (nn 190) k 3 = sV (i 190) k 3 := by rw [n190]
              have e198 : nn 198 k = (plT (i 190)).1 k := by rw [hA2 198 k (by decide), ← hs1]; show _ = (if 0 ≤ k ∧ k < 10 then i1 198 k else -9); rw [if_pos (by omega)]
              have hbk := hsb k
              have hzb := soZ_bd (wD (i 190)) (plT (i 190)).1 p hk.1
              rw [← hk2] at hzb
              have hok : soOk (wD (i 190)) (plT (i 190)).1 p k ↔ (sV (i 190) k 2 = p ∧ sV (i 190) k 3 ≠ 0 ∧ (plT (i 190)).1 k = -9 ∧ gRest (i 190) k) := by have := soOk_wD (i := i1) (W := i 190) (p := p) (x := k) (by omega); rw [hs1] at this; rw [this]; have e : i1 198 k = (plT (i 190)).1 k := (hA2 198 k (by decide)).symm.trans e198; rw [e]
              refine x_aload_n 20 rfl rfl ?_
              refine x_iload_n 21 rfl rfl ?_
              refine x_iconst 22 rfl ?_
              refine x_callV 23 m_X9_of (r_of (by omega) (by omega)) rfl ok_X9_of (n_lt rfl) k_189 rfl rfl ml_X9_72 im_X9_of se_X9_of rfl (by decide) rfl (Nat.le_of_ble_eq_true rfl) rfl rfl (fun v g q8 => ?_)
              obtain ⟨rfl, rfl⟩ := q8
              show mX m_X9_findSolos 7 _ 0 0 _ _ [vI (sV (nn 190) k 2)] _
              refine x_iload_n 24 rfl rfl ?_
              refine x_icmp_ne 25 (tgt := 112) rfl (by decide) (by omega) (fun h9 => ?_) (fun h9 => ?_)
              · have hno : ¬ soOk (wD (i 190)) (plT (i 190)).1 p k := by rw [hok]; omega
                refine x_iinc 66 (L' := [some (vR (some 189)), some (vI (p)), some (vI (k + 1))]) rfl (by decide) rfl rfl rfl rfl ?_
                refine x_goto 67 (tgt := 21) rfl (by decide) ?_
                exact ihL6 nn (k + 1) (by omega) (by first | exact hA2 | (intro a b h1; subst_vars; rw [mUne _ _ _ _ _ h1]; exact hA2 a b h1)) (by first | exact hs2 | (intro q h0 h1; subst_vars; rw [mUek _ _ _ _ (by omega)]; exact hs2 q h0 h1)) (by first | (rw [soZ_n _ _ _ hk.1 (fun hh => hno hh.1)]; exact hk2) | (subst_vars; rw [mUs, soZ_y _ _ _ hk.1 hyes (by rw [← hk2]; first | (left; assumption) | (right; assumption))]) | (subst_vars; rw [mUs, soZ_n _ _ _ hk.1 (fun hh => hh.2.elim (fun q => absurd (hk2.trans q) (by assumption)) (fun q => hnb (by rw [hk2]; exact q)))]; exact hk2)) (by omega)
              · refine x_aload_n 26 rfl rfl ?_
                refine x_iload_n 27 rfl rfl ?_
                refine x_iconst 28 rfl ?_
                refine x_callV 29 m_X9_of (r_of (by omega) (by omega)) rfl ok_X9_of (n_lt rfl) k_189 rfl rfl ml_X9_72 im_X9_of se_X9_of rfl (by decide) rfl (Nat.le_of_ble_eq_true rfl) rfl rfl (fun v g q10 => ?_)
                obtain ⟨rfl, rfl⟩ := q10
                show mX m_X9_findSolos 7 _ 0 0 _ _ [vI (sV (nn 190) k 3)] _
                refine x_iconst 30 rfl ?_
                refine x_icmp_ne 31 (tgt := 112) rfl (by decide) (by omega) (fun h11 => ?_) (fun h11 => ?_)
                · have hno : ¬ soOk (wD (i 190)) (plT (i 190)).1 p k := by rw [hok]; omega
                  refine x_iinc 66 (L' := [some (vR (some 189)), some (vI (p)), some (vI (k + 1))]) rfl (by decide) rfl rfl rfl rfl ?_
                  refine x_goto 67 (tgt := 21) rfl (by decide) ?_
                  exact ihL6 nn (k + 1) (by omega) (by first | exact hA2 | (intro a b h1; subst_vars; rw [mUne _ _ _ _ _ h1]; exact hA2 a b h1)) (by first | exact hs2 | (intro q h0 h1; subst_vars; rw [mUek _ _ _ _ (by omega)]; exact hs2 q h0 h1)) (by first | (rw [soZ_n _ _ _ hk.1 (fun hh => hno hh.1)]; exact hk2) | (subst_vars; rw [mUs, soZ_y _ _ _ hk.1 hyes (by rw [← hk2]; first | (left; assumption) | (right; assumption))]) | (subst_vars; rw [mUs, soZ_n _ _ _ hk.1 (fun hh => hh.2.elim (fun q => absurd (hk2.trans q) (by assumption)) (fun q => hnb (by rw [hk2]; exact q)))]; exact hk2)) (by omega)
                · refine x_aload_n 32 rfl rfl ?_
                  refine x_getR 33 (z := 198) rfl fl_X9_41 (n_lt rfl) k_189 rfl r_189_17 ?_
                  refine x_iload_n 34 rfl rfl ?_
                  refine x_iald 35 (z := nn 198 k) rfl (n_lt rfl) k_198 (by omega) rfl ?_
                  refine x_bipush 36 rfl (by decide) ?_
                  refine x_icmp_ne 37 (tgt := 112) rfl (by decide) (by omega) (fun h12 => ?_) (fun h12 => ?_)
                  · have hno : ¬ soOk (wD (i 190)) (plT (i 190)).1 p k := by rw [hok]; omega
                    refine x_iinc 66 (L' := [some (vR (some 189)), some (vI (p)), some (vI (k + 1))]) rfl (by decide) rfl rfl rfl rfl ?_
                    refine x_goto 67 (tgt := 21) rfl (by decide) ?_
                    exact ihL6 nn (k + 1) (by omega) (by first | exact hA2 | (intro a b h1; subst_vars; rw [mUne _ _ _ _ _ h1]; exact hA2 a b h1)) (by first | exact hs2 | (intro q h0 h1; subst_vars; rw [mUek _ _ _ _ (by omega)]; exact hs2 q h0 h1)) (by first | (rw [soZ_n _ _ _ hk.1 (fun hh => hno hh.1)]; exact hk2) | (subst_vars; rw [mUs, soZ_y _ _ _ hk.1 hyes (by rw [← hk2]; first | (left; assumption) | (right; assumption))]) | (subst_vars; rw [mUs, soZ_n _ _ _ hk.1 (fun hh => hh.2.elim (fun q => absurd (hk2.trans q) (by assumption)) (fun q => hnb (by rw [hk2]; exact q)))]; exact hk2)) (by omega)
                  · refine x_aload_n 38 rfl rfl ?_
                    refine x_iload_n 39 rfl rfl ?_
                    refine x_callV 40 m_X9_isRested (r_isRested hWn (by omega)) rfl ok_X9_isRested (n_lt rfl) k_189 rfl rfl ml_X9_130 im_X9_isRested se_X9_isRested rfl (by decide) rfl (Nat.le_of_ble_eq_true rfl) rfl rfl (fun v g q13 => ?_)
                    rcases q13 with ⟨rfl, ⟨h14, rfl⟩ | ⟨h14, rfl⟩⟩
                    · show mX m_X9_findSolos 7 _ 0 0 _ _ [vI (1)] _
                      have hr := h14
                      rw [n190] at hr
                      have hyes : soOk (wD (i 190)) (plT (i 190)).1 p k := by rw [hok]; exact ⟨by omega, by omega, by omega, hr⟩
                      refine x_if_eq 41 (tgt := 112) rfl (by decide) (by decide) (fun h15 => absurd h15 (by decide)) (fun h15 => ?_)
                      refine x_aload_n 42 rfl rfl ?_
                      refine x_getR 43 (z := 200) rfl fl_X9_47 (n_lt rfl) k_189 rfl r_189_19 ?_
                      refine x_iload_n 44 rfl rfl ?_
                      refine x_aload_n 45 rfl rfl ?_
                      refine x_getR 46 (z := 200) rfl fl_X9_47 (n_lt rfl) k_189 rfl r_189_19 ?_
                      refine x_iload_n 47 rfl rfl ?_
                      refine x_iald 48 (z := nn 200 p) rfl (n_lt rfl) k_200 (by omega) rfl ?_
                      refine x_bipush 49 rfl (by decide) ?_
                      refine x_icmp_eq 50 (tgt := 101) rfl (by decide) (by omega) (fun h16 => ?_) (fun h16 => ?_)
                      · refine x_iload_n 59 rfl rfl ?_
                        refine x_goto 60 (tgt := 111) rfl (by decide) ?_
                        obtain ⟨i17, hi17⟩ : ∃ f, f = mU nn 200 (p) (k) := ⟨_, rfl⟩
                        refine x_iast 65 rfl (n_lt rfl) k_200 (by omega) (g' := st i17 l) (by subst hi17; rfl) ?_
                        refine x_iinc 66 (L' := [some (vR (some 189)), some (vI (p)), some (vI (k + 1))]) rfl (by decide) rfl rfl rfl rfl ?_
                        refine x_goto 67 (tgt := 21) rfl (by decide) ?_
                        exact ihL6 i17 (k + 1) (by omega) (by first | exact hA2 | (intro a b h1; subst_vars; rw [mUne _ _ _ _ _ h1]; exact hA2 a b h1)) (by first | exact hs2 | (intro q h0 h1; subst_vars; rw [mUek _ _ _ _ (by omega)]; exact hs2 q h0 h1)) (by first | (rw [soZ_n _ _ _ hk.1 (fun hh => hno hh.1)]; exact hk2) | (subst_vars; rw [mUs, soZ_y _ _ _ hk.1 hyes (by rw [← hk2]; first | (left; assumption) | (right; assumption))]) | (subst_vars; rw [mUs, soZ_n _ _ _ hk.1 (fun hh => hh.2.elim (fun q => absurd (hk2.trans q) (by assumption)) (fun q => hnb (by rw [hk2]; exact q)))]; exact hk2)) (by omega)
                      · refine x_aload_n 51 rfl rfl ?_
                        refine x_iload_n 52 rfl rfl ?_
                        refine x_aload_n 53 rfl rfl ?_
                        refine x_getR 54 (z := 200) rfl fl_X9_47 (n_lt rfl) k_189 rfl r_189_19 ?_
                        refine x_iload_n 55 rfl rfl ?_
                        refine x_iald 56 (z := nn 200 p) rfl (n_lt rfl) k_200 (by omega) rfl ?_
                        refine x_callV 57 m_X9_isBefore (r_isBefore hWn (by omega) (by omega)) rfl ok_X9_isBefore (n_lt rfl) k_189 rfl rfl ml_X9_133 im_X9_isBefore se_X9_isBefore rfl (by decide) rfl (Nat.le_of_ble_eq_true rfl) rfl rfl (fun v g q18 => ?_)
                        rcases q18 with ⟨rfl, ⟨h19, rfl⟩ | ⟨h19, rfl⟩⟩
                        · show mX m_X9_findSolos 7 _ 0 0 _ _ [vI (1), vI (p), vR (some 200)] _
                          have hbf := h19
                          rw [n190] at hbf
                          refine x_if_eq 58 (tgt := 105) rfl (by decide) (by decide) (fun h20 => absurd h20 (by decide)) (fun h20 => ?_)
                          refine x_iload_n 59 rfl rfl ?_
                          refine x_goto 60 (tgt := 111) rfl (by decide) ?_
                          obtain ⟨i21, hi21⟩ : ∃ f, f = mU nn 200 (p) (k) := ⟨_, rfl⟩
                          refine x_iast 65 rfl (n_lt rfl) k_200 (by omega) (g' := st i21 l) (by subst hi21; rfl) ?_
                          refine x_iinc 66 (L' := [some (vR (some 189)), some (vI (p)), some (vI (k + 1))]) rfl (by decide) rfl rfl rfl rfl ?_
                          refine x_goto 67 (tgt := 21) rfl (by decide) ?_
                          exact ihL6 i21 (k + 1) (by omega) (by first | exact hA2 | (intro a b h1; subst_vars; rw [mUne _ _ _ _ _ h1]; exact hA2 a b h1)) (by first | exact hs2 | (intro q h0 h1; subst_vars; rw [mUek _ _ _ _ (by omega)]; exact hs2 q h0 h1)) (by first | (rw [soZ_n _ _ _ hk.1 (fun hh => hno hh.1)]; exact hk2) | (subst_vars; rw [mUs, soZ_y _ _ _ hk.1 hyes (by rw [← hk2]; first | (left; assumption) | (right; assumption))]) | (subst_vars; rw [mUs, soZ_n _ _ _ hk.1 (fun hh => hh.2.elim (fun q => absurd (hk2.trans q) (by assumption)) (fun q => hnb (by rw [hk2]; exact q)))]; exact hk2)) (by omega)
                        · show mX m_X9_findSolos 7 _ 0 0 _ _ [vI (0), vI (p), vR (some 200)] _
                          have hnb := h19
                          rw [n190] at hnb
                          refine x_if_eq 58 (tgt := 105) rfl (by decide) (by decide) (fun h22 => ?_) (fun h22 => absurd h22 (by decide))
                          refine x_aload_n 61 rfl rfl ?_
                          refine x_getR 62 (z := 200) rfl fl_X9_47 (n_lt rfl) k_189 rfl r_189_19 ?_
                          refine x_iload_n 63 rfl rfl ?_
                          refine x_iald 64 (z := nn 200 p) rfl (n_lt rfl) k_200 (by omega) rfl ?_
                          obtain ⟨i23, hi23⟩ : ∃ f, f = mU nn 200 (p) (nn 200 p) := ⟨_, rfl⟩
                          refine x_iast 65 rfl (n_lt rfl) k_200 (by omega) (g' := st i23 l) (by subst hi23; rfl) ?_
                          refine x_iinc 66 (L' := [some (vR (some 189)), some (vI (p)), some (vI (k + 1))]) rfl (by decide) rfl rfl rfl rfl ?_
                          refine x_goto 67 (tgt := 21) rfl (by decide) ?_
                          exact ihL6 i23 (k + 1) (by omega) (by first | exact hA2 | (intro a b h1; subst_vars; rw [mUne _ _ _ _ _ h1]; exact hA2 a b h1)) (by first | exact hs2 | (intro q h0 h1; subst_vars; rw [mUek _ _ _ _ (by omega)]; exact hs2 q h0 h1)) (by first | (rw [soZ_n _ _ _ hk.1 (fun hh => hno hh.1)]; exact hk2) | (subst_vars; rw [mUs, soZ_y _ _ _ hk.1 hyes (by rw [← hk2]; first | (left; assumption) | (right; assumption))]) | (subst_vars; rw [mUs, soZ_n _ _ _ hk.1 (fun hh => hh.2.elim (fun q => absurd (hk2.trans q) (by assumption)) (fun q => hnb (by rw [hk2]; exact q)))]; exact hk2)) (by omega)
                    · show mX m_X9_findSolos 7 _ 0 0 _ _ [vI (0)] _
                      have hnr := h14
                      rw [n190] at hnr
                      have hno : ¬ soOk (wD (i 190)) (plT (i 190)).1 p k := by rw [hok]; exact fun q => hnr q.2.2.2
                      refine x_if_eq 41 (tgt := 112) rfl (by decide) (by decide) (fun h24 => ?_) (fun h24 => absurd h24 (by decide))
                      refine x_iinc 66 (L' := [some (vR (some 189)), some (vI (p)), some (vI (k + 1))]) rfl (by decide) rfl rfl rfl rfl ?_
                      refine x_goto 67 (tgt := 21) rfl (by decide) ?_
                      exact ihL6 nn (k + 1) (by omega) (by first | exact hA2 | (intro a b h1; subst_vars; rw [mUne _ _ _ _ _ h1]; exact hA2 a b h1)) (by first | exact hs2 | (intro q h0 h1; subst_vars; rw [mUek _ _ _ _ (by omega)]; exact hs2 q h0 h1)) (by first | (rw [soZ_n _ _ _ hk.1 (fun hh => hno hh.1)]; exact hk2) | (subst_vars; rw [mUs, soZ_y _ _ _ hk.1 hyes (by rw [← hk2]; first | (left; assumption) | (right; assumption))]) | (subst_vars; rw [mUs, soZ_n _ _ _ hk.1 (fun hh => hh.2.elim (fun q => absurd (hk2.trans q) (by assumption)) (fun q => hnb (by rw [hk2]; exact q)))]; exact hk2)) (by omega)
        exact loopL6 ((i 190 11 - ((0))) + 1 : Int).toNat i5 (0) (by omega) (by intro a b h1; subst_vars; rw [mUne _ _ _ _ _ h1]; exact hA a b h1) (by intro q h0 h1; subst_vars; rw [mUek _ _ _ _ (by omega)]; exact hs q h0 h1) (by subst_vars; rw [mUs]; rfl) (by omega)
  exact loopL3 ((4 - ((0))) + 1 : Int).toNat i2 (0) (by omega) (fun a b _ => by rw [hi1_]) (fun q h0 h1 => by omega) (by omega)
set_option maxRecDepth 20000 in
set_option maxHeartbeats 2000000 in
theorem r_rangeSize {i : Nat → Int → Int} {l : Nat → Int → BitVec 64} (hW : okW (i 190)) {s : Int} (hs : 0 ≤ s ∧ s < i 190 11) : mCtr m_X9_rangeSize 3 0 0 [vR (some 189), vI (s)] (st i l) (qW (fun z i' l' => z = (rgZ (sV (i 190) s)).2.1 ∧ l' = l ∧ fr9 i i')) := by
  refine mCtr_of pl_X9 dc_X9_rangeSize (Nat.le_of_ble_eq_true rfl) rfl ?_
  show mX m_X9_rangeSize 3 _ 0 0 0 [some (vR (some 189)), some (vI (s))] [] (st i l)
  have hN := hW.n
  refine x_aload_n 0 rfl rfl ?_
  refine x_iload_n 1 rfl rfl ?_
  refine x_callV 2 m_X9_findRange (r_findRange hW (by omega)) rfl ok_X9_findRange (n_lt rfl) k_189 rfl rfl ml_X9_76 im_X9_findRange se_X9_findRange rfl (by decide) rfl (Nat.le_of_ble_eq_true rfl) rfl rfl (fun v g q1 => ?_)
  obtain ⟨rfl, i2, li2, rfl, hi2⟩ := q1
  obtain ⟨hEi2, hi2⟩ := hi2
  have hEi2 := hEi2.symm
  subst hEi2
  show mX m_X9_rangeSize 3 _ 0 0 _ _ [] _
  obtain ⟨h9, h10, hfr⟩ := hi2
  have hrg := rgZ_bd (sV (i 190) s)
  have hb9 : ((rgZ (sV (i 190) s)).2.1 = 0 ∧ i2 189 9 = -9 ∧ i2 189 10 = -9) ∨ ((rgZ (sV (i 190) s)).2.1 ≠ 0 ∧ i2 189 9 = (rgZ (sV (i 190) s)).2.2 ∧ i2 189 10 = (rgZ (sV (i 190) s)).2.2 + (rgZ (sV (i 190) s)).2.1 - 1) := by rw [h9, h10]; unfold rgLo rgHi; by_cases q : (rgZ (sV (i 190) s)).2.1 = 0; (left; rw [if_pos q, if_pos q]; exact ⟨q, rfl, rfl⟩); (right; rw [if_neg q, if_neg q]; exact ⟨q, rfl, rfl⟩)
  refine x_aload_n 3 rfl rfl ?_
  refine x_getI 4 (z := i2 189 9) rfl fl_X9_66 (n_lt rfl) k_189 rfl rfl ?_
  refine x_bipush 5 rfl (by decide) ?_
  refine x_icmp_ne 6 (tgt := 18) rfl (by decide) (by omega) (fun h3 => ?_) (fun h3 => ?_)
  · refine x_aload_n 9 rfl rfl ?_
    refine x_getI 10 (z := i2 189 10) rfl fl_X9_69 (n_lt rfl) k_189 rfl rfl ?_
    refine x_aload_n 11 rfl rfl ?_
    refine x_getI 12 (z := i2 189 9) rfl fl_X9_66 (n_lt rfl) k_189 rfl rfl ?_
    refine x_isub 13 (r := (i2 189 10) - (i2 189 9)) rfl rfl ?_
    refine x_iconst 14 rfl ?_
    refine x_iadd 15 (r := ((i2 189 10) - (i2 189 9)) + 1) rfl rfl ?_
    refine x_ret 16 (some (vI (((i2 189 10) - (i2 189 9)) + 1))) rfl ⟨rfl, Or.inl rfl⟩ ⟨_, i2, l, rfl, rfl, ?_⟩
    refine ⟨?_, rfl, hfr⟩
    omega
  · refine x_iconst 7 rfl ?_
    refine x_goto 8 (tgt := 29) rfl (by decide) ?_
    refine x_ret 16 (some (vI (0))) rfl ⟨rfl, Or.inl rfl⟩ ⟨_, i2, l, rfl, rfl, ?_⟩
    refine ⟨?_, rfl, hfr⟩
    omega
set_option maxRecDepth 20000 in
set_option maxHeartbeats 2000000 in
theorem r_isOf {i : Nat → Int → Int} {l : Nat → Int → BitVec 64} {x : Int} (hx : -2147483648 ≤ x ∧ x < 2147483648) {v : Int} (hv : -2147483648 ≤ v ∧ v < 2147483648) : mCtr m_X9_isOf 2 0 0 [vI (x), vI (v)] (st i l) (qB ((x = 0 ∧ 1 ≤ v ∧ v ≤ 15) ∨ (x = 1 ∧ 1 ≤ v ∧ v ≤ 50) ∨ (x = 2 ∧ 0 ≤ v ∧ v ≤ 10) ∨ (x = 3 ∧ 1 ≤ v ∧ v ≤ 6)) (st i l)) := by
  refine mCtr_of pl_X9 dc_X9_isOf (Nat.le_of_ble_eq_true rfl) rfl ?_
  show mX m_X9_isOf 2 _ 0 0 0 [some (vI (x)), some (vI (v))] [] (st i l)
  refine x_iload_n 0 rfl rfl ?_
  rcases (show (x < 0 ∨ 2 < x) ∨ x = 0 ∨ x = 1 ∨ x = 2 by omega) with h1 | h1 | h1 | h1
  · refine x_tabOut 1 (tgt := 52) rfl (by omega) h1 (by decide) ?_
    refine x_iload_n 17 rfl rfl ?_
    refine x_iconst 18 rfl ?_
    refine x_icmp_ne 19 (tgt := 71) rfl (by decide) (by omega) (fun h2 => ?_) (fun h2 => ?_)
    · refine x_iconst 27 rfl ?_
      refine x_ret 28 (some (vI (0))) rfl ⟨rfl, Or.inr ⟨rfl, by omega⟩⟩ ⟨rfl, Or.inr ⟨?_, rfl⟩⟩
      omega
    · refine x_iload_n 20 rfl rfl ?_
      refine x_iconst 21 rfl ?_
      refine x_bipush 22 rfl (by decide) ?_
      refine x_callS 23 m_X9_isIn (r_isIn (by omega) (by omega) (by omega)) rfl ok_X9_isIn ml_X9_62 st_X9_isIn rfl (by decide) rfl (Nat.le_of_ble_eq_true rfl) rfl rfl (fun v g q3 => ?_)
      rcases q3 with ⟨rfl, ⟨h4, rfl⟩ | ⟨h4, rfl⟩⟩
      · show mX m_X9_isOf 2 _ 0 0 _ _ [vI (1)] _
        refine x_if_eq 24 (tgt := 71) rfl (by decide) (by decide) (fun h5 => absurd h5 (by decide)) (fun h5 => ?_)
        refine x_iconst 25 rfl ?_
        refine x_goto 26 (tgt := 72) rfl (by decide) ?_
        refine x_ret 28 (some (vI (1))) rfl ⟨rfl, Or.inr ⟨rfl, by omega⟩⟩ ⟨rfl, Or.inl ⟨?_, rfl⟩⟩
        omega
      · show mX m_X9_isOf 2 _ 0 0 _ _ [vI (0)] _
        refine x_if_eq 24 (tgt := 71) rfl (by decide) (by decide) (fun h6 => ?_) (fun h6 => absurd h6 (by decide))
        refine x_iconst 27 rfl ?_
        refine x_ret 28 (some (vI (0))) rfl ⟨rfl, Or.inr ⟨rfl, by omega⟩⟩ ⟨rfl, Or.inr ⟨?_, rfl⟩⟩
        omega
  · refine x_tabIn 1 (off := 27) (tgt := 28) rfl (by omega) (by omega) (by rw [h1]; rfl) (by decide) ?_
    refine x_iload_n 2 rfl rfl ?_
    refine x_iconst 3 rfl ?_
    refine x_bipush 4 rfl (by decide) ?_
    refine x_callS 5 m_X9_isIn (r_isIn (by omega) (by omega) (by omega)) rfl ok_X9_isIn ml_X9_62 st_X9_isIn rfl (by decide) rfl (Nat.le_of_ble_eq_true rfl) rfl rfl (fun v g q7 => ?_)
    rcases q7 with ⟨rfl, ⟨h8, rfl⟩ | ⟨h8, rfl⟩⟩
    · show mX m_X9_isOf 2 _ 0 0 _ _ [vI (1)] _
      refine x_ret 6 (some (vI (1))) rfl ⟨rfl, Or.inr ⟨rfl, by omega⟩⟩ ⟨rfl, Or.inl ⟨?_, rfl⟩⟩
      omega
    · show mX m_X9_isOf 2 _ 0 0 _ _ [vI (0)] _
      refine x_ret 6 (some (vI (0))) rfl ⟨rfl, Or.inr ⟨rfl, by omega⟩⟩ ⟨rfl, Or.inr ⟨?_, rfl⟩⟩
      omega
  · refine x_tabIn 1 (off := 35) (tgt := 36) rfl (by omega) (by omega) (by rw [h1]; rfl) (by decide) ?_
    refine x_iload_n 7 rfl rfl ?_
    refine x_iconst 8 rfl ?_
    refine x_bipush 9 rfl (by decide) ?_
    refine x_callS 10 m_X9_isIn (r_isIn (by omega) (by omega) (by omega)) rfl ok_X9_isIn ml_X9_62 st_X9_isIn rfl (by decide) rfl (Nat.le_of_ble_eq_true rfl) rfl rfl (fun v g q9 => ?_)
    rcases q9 with ⟨rfl, ⟨h10, rfl⟩ | ⟨h10, rfl⟩⟩
    · show mX m_X9_isOf 2 _ 0 0 _ _ [vI (1)] _
      refine x_ret 11 (some (vI (1))) rfl ⟨rfl, Or.inr ⟨rfl, by omega⟩⟩ ⟨rfl, Or.inl ⟨?_, rfl⟩⟩
      omega
    · show mX m_X9_isOf 2 _ 0 0 _ _ [vI (0)] _
      refine x_ret 11 (some (vI (0))) rfl ⟨rfl, Or.inr ⟨rfl, by omega⟩⟩ ⟨rfl, Or.inr ⟨?_, rfl⟩⟩
      omega
  · refine x_tabIn 1 (off := 43) (tgt := 44) rfl (by omega) (by omega) (by rw [h1]; rfl) (by decide) ?_
    refine x_iload_n 12 rfl rfl ?_
    refine x_iconst 13 rfl ?_
    refine x_bipush 14 rfl (by decide) ?_
    refine x_callS 15 m_X9_isIn (r_isIn (by omega) (by omega) (by omega)) rfl ok_X9_isIn ml_X9_62 st_X9_isIn rfl (by decide) rfl (Nat.le_of_ble_eq_true rfl) rfl rfl (fun v g q11 => ?_)
    rcases q11 with ⟨rfl, ⟨h12, rfl⟩ | ⟨h12, rfl⟩⟩
    · show mX m_X9_isOf 2 _ 0 0 _ _ [vI (1)] _
      refine x_ret 16 (some (vI (1))) rfl ⟨rfl, Or.inr ⟨rfl, by omega⟩⟩ ⟨rfl, Or.inl ⟨?_, rfl⟩⟩
      omega
    · show mX m_X9_isOf 2 _ 0 0 _ _ [vI (0)] _
      refine x_ret 16 (some (vI (0))) rfl ⟨rfl, Or.inr ⟨rfl, by omega⟩⟩ ⟨rfl, Or.inr ⟨?_, rfl⟩⟩
      omega
