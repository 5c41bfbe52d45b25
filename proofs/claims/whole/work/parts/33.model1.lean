/-! the other book -/
def rgLo (V : Int → Int) : Int := if (rgZ V).2.1 = 0 then -9 else (rgZ V).2.2
def rgHi (V : Int → Int) : Int := if (rgZ V).2.1 = 0 then -9 else (rgZ V).2.2 + (rgZ V).2.1 - 1
/-- all but the found range is as it was -/
def fr9 (i i' : Nat → Int → Int) : Prop := ∀ a b, ¬ (a = 189 ∧ (b = 9 ∨ b = 10)) → i' a b = i a b
theorem fr9.w {i i' : Nat → Int → Int} (h : fr9 i i') : i' 190 = i 190 := by funext b; exact h 190 b (by omega)
theorem fr9.tr {i i' i'' : Nat → Int → Int} (h : fr9 i i') (h2 : fr9 i' i'') : fr9 i i'' := fun a b q => (h2 a b q).trans (h a b q)
theorem fr9.rf (i : Nat → Int → Int) : fr9 i i := fun _ _ _ => rfl
theorem okW.v {W : Int → Int} (h : okW W) {s : Int} (h0 : 0 ≤ s) (h1 : s < W 11) : okV (sV W s) := h.2.2.2.1 s h0 h1
theorem rg_step {f : Int → Bool} {x : Int} {ii i i' : Nat → Int → Int} (hx : 0 ≤ x) (hA : ∀ a c, ii a c = if a = 189 ∧ c = 9 then (if (rwZ f x).2.1 = 0 then -9 else (rwZ f x).2.2) else if a = 189 ∧ c = 10 then (if (rwZ f x).2.1 = 0 then -9 else (rwZ f x).2.2 + (rwZ f x).2.1 - 1) else i a c)
    (h : (f x = false ∧ i' = ii) ∨ (f x = true ∧ ((rwZ f x).1 + 1 ≤ (rwZ f x).2.1 ∧ i' = ii)) ∨ (f x = true ∧ (rwZ f x).1 + 1 > (rwZ f x).2.1 ∧ i' = mU (mU ii 189 9 (x - (rwZ f x).1)) 189 10 x)) : ∀ a c, i' a c = if a = 189 ∧ c = 9 then (if (rwZ f (x + 1)).2.1 = 0 then -9 else (rwZ f (x + 1)).2.2) else if a = 189 ∧ c = 10 then (if (rwZ f (x + 1)).2.1 = 0 then -9 else (rwZ f (x + 1)).2.2 + (rwZ f (x + 1)).2.1 - 1) else i a c := by
  intro a c
  have hb := rwZ_bd f hx
  rcases h with ⟨h1, rfl⟩ | ⟨h1, h2, rfl⟩ | ⟨h1, h2, rfl⟩
  · have e : rwZ f (x + 1) = (0, (rwZ f x).2.1, (rwZ f x).2.2) := by rw [rwZ_s f hx, if_neg (by rw [h1]; decide)]
    rw [e, hA]
  · have e : rwZ f (x + 1) = ((rwZ f x).1 + 1, (rwZ f x).2.1, (rwZ f x).2.2) := by rw [rwZ_s f hx, if_pos h1, if_neg (show ¬ ((rwZ f x).1 + 1 > (rwZ f x).2.1) by omega)]
    rw [e, hA]
  · have e : rwZ f (x + 1) = ((rwZ f x).1 + 1, (rwZ f x).1 + 1, x - ((rwZ f x).1 + 1) + 1) := by rw [rwZ_s f hx, if_pos h1, if_pos h2]
    rw [e]
    simp only [mU, hA]
    by_cases q9 : a = 189 ∧ c = 9
    · rw [if_neg (by omega), if_pos q9, if_pos q9, if_neg (by omega)]; omega
    · by_cases q10 : a = 189 ∧ c = 10
      · rw [if_pos q10, if_neg q9, if_pos q10, if_neg (by omega)]; omega
      · rw [if_neg q10, if_neg q9, if_neg q9, if_neg q10, if_neg q9, if_neg q10]
theorem gIn_0 {V : Int → Int} {p : Int} (hp : 0 ≤ p ∧ p < 4) (h : (rgZ V).2.1 = 0) : gIn V p = 0 := by
  have hb : (rgZ V).2.2 = 0 ∨ True := Or.inr trivial
  unfold gIn
  have := rgZ_bd V
  omega
/-- what remember leaves -/
def rmI (i : Nat → Int → Int) (a : Nat) (b : Int) : Int :=
  if a = 189 ∧ b = 2 then rmN (i 189 2)
  else if a = 191 ∧ i 189 2 < 8 ∧ 652 * i 189 2 ≤ b ∧ b < 652 * i 189 2 + 652 then i 190 (b - 652 * i 189 2)
  else if a = 191 ∧ 8 ≤ i 189 2 ∧ 0 ≤ b ∧ b < 5216 then (if b < 4564 then i 191 (b + 652) else i 190 (b - 4564))
  else i a b
set_option maxRecDepth 20000 in
set_option maxHeartbeats 2000000 in
theorem r_isIn {i : Nat → Int → Int} {l : Nat → Int → BitVec 64} {v x y : Int} (hv : -2147483648 ≤ v ∧ v < 2147483648) (hx : -2147483648 ≤ x ∧ x < 2147483648) (hy : -2147483648 ≤ y ∧ y < 2147483648) : mCtr m_X9_isIn 1 0 0 [vI (v), vI (x), vI (y)] (st i l) (qB (x ≤ v ∧ v ≤ y) (st i l)) := by
  refine mCtr_of pl_X9 dc_X9_isIn (Nat.le_of_ble_eq_true rfl) rfl ?_
  show mX m_X9_isIn 1 _ 0 0 0 [some (vI (v)), some (vI (x)), some (vI (y))] [] (st i l)
  refine x_iload_n 0 rfl rfl ?_
  refine x_iload_n 1 rfl rfl ?_
  refine x_icmp_lt 2 (tgt := 14) rfl (by decide) (by omega) (fun h1 => ?_) (fun h1 => ?_)
  · refine x_iconst 8 rfl ?_
    refine x_ret 9 (some (vI (0))) rfl ⟨rfl, Or.inr ⟨rfl, by omega⟩⟩ ⟨rfl, Or.inr ⟨?_, rfl⟩⟩
    omega
  · refine x_iload_n 3 rfl rfl ?_
    refine x_iload_n 4 rfl rfl ?_
    refine x_icmp_gt 5 (tgt := 14) rfl (by decide) (by omega) (fun h2 => ?_) (fun h2 => ?_)
    · refine x_iconst 8 rfl ?_
      refine x_ret 9 (some (vI (0))) rfl ⟨rfl, Or.inr ⟨rfl, by omega⟩⟩ ⟨rfl, Or.inr ⟨?_, rfl⟩⟩
      omega
    · refine x_iconst 6 rfl ?_
      refine x_goto 7 (tgt := 15) rfl (by decide) ?_
      refine x_ret 9 (some (vI (1))) rfl ⟨rfl, Or.inr ⟨rfl, by omega⟩⟩ ⟨rfl, Or.inl ⟨?_, rfl⟩⟩
      omega
set_option maxRecDepth 20000 in
set_option maxHeartbeats 2000000 in
theorem r_of {i : Nat → Int → Int} {l : Nat → Int → BitVec 64} {s w : Int} (hs : 0 ≤ s ∧ s < 10) (hw : 0 ≤ w ∧ w < 48) : mCtr m_X9_of 1 0 0 [vR (some 189), vI (s), vI (w)] (st i l) (qI (sV (i 190) s w) (st i l)) := by
  refine mCtr_of pl_X9 dc_X9_of (Nat.le_of_ble_eq_true rfl) rfl ?_
  show mX m_X9_of 1 _ 0 0 0 [some (vR (some 189)), some (vI (s)), some (vI (w))] [] (st i l)
  refine x_aload_n 0 rfl rfl ?_
  refine x_getR 1 (z := 190) rfl fl_X9_7 (n_lt rfl) k_189 rfl r_189_0 ?_
  refine x_bipush 2 rfl (by decide) ?_
  refine x_bipush 3 rfl (by decide) ?_
  refine x_iload_n 4 rfl rfl ?_
  refine x_imul 5 (r := 48 * s) rfl rfl ?_
  refine x_iadd 6 (r := 12 + (48 * s)) rfl rfl ?_
  refine x_iload_n 7 rfl rfl ?_
  refine x_iadd 8 (r := (12 + (48 * s)) + w) rfl rfl ?_
  refine x_iald 9 (z := i 190 ((12 + (48 * s)) + w)) rfl (n_lt rfl) k_190 (by omega) rfl ?_
  refine x_ret 10 (some (vI (i 190 ((12 + (48 * s)) + w)))) rfl ⟨rfl, Or.inl rfl⟩ ⟨congrArg (fun z => some (vI z)) ?_, rfl⟩
  rfl
set_option maxRecDepth 20000 in
set_option maxHeartbeats 2000000 in
theorem r_put {i : Nat → Int → Int} {l : Nat → Int → BitVec 64} {s w v : Int} (hs : 0 ≤ s ∧ s < 10) (hw : 0 ≤ w ∧ w < 48) : mCtr m_X9_put 1 0 0 [vR (some 189), vI (s), vI (w), vI (v)] (st i l) (qV (fun i' l' => l' = l ∧ i' = mU i 190 (12 + 48 * s + w) v)) := by
  refine mCtr_of pl_X9 dc_X9_put (Nat.le_of_ble_eq_true rfl) rfl ?_
  show mX m_X9_put 1 _ 0 0 0 [some (vR (some 189)), some (vI (s)), some (vI (w)), some (vI (v))] [] (st i l)
  refine x_aload_n 0 rfl rfl ?_
  refine x_getR 1 (z := 190) rfl fl_X9_7 (n_lt rfl) k_189 rfl r_189_0 ?_
  refine x_bipush 2 rfl (by decide) ?_
  refine x_bipush 3 rfl (by decide) ?_
  refine x_iload_n 4 rfl rfl ?_
  refine x_imul 5 (r := 48 * s) rfl rfl ?_
  refine x_iadd 6 (r := 12 + (48 * s)) rfl rfl ?_
  refine x_iload_n 7 rfl rfl ?_
  refine x_iadd 8 (r := (12 + (48 * s)) + w) rfl rfl ?_
  refine x_iload_n 9 rfl rfl ?_
  obtain ⟨i1, hi1⟩ : ∃ f, f = mU i 190 ((12 + (48 * s)) + w) (v) := ⟨_, rfl⟩
  refine x_iast 10 rfl (n_lt rfl) k_190 (by omega) (g' := st i1 l) (by subst hi1; rfl) ?_
  refine x_ret 11 none rfl ⟨rfl, rfl⟩ ⟨rfl, i1, l, rfl, ?_⟩
  subst_vars; exact ⟨rfl, rfl⟩
set_option maxRecDepth 20000 in
set_option maxHeartbeats 2000000 in
theorem r_isSinger {i : Nat → Int → Int} {l : Nat → Int → BitVec 64} {s : Int} (hs : -2147483648 ≤ s ∧ s < 2147483648) (hn : 0 ≤ i 190 11 ∧ i 190 11 ≤ 10) : mCtr m_X9_isSinger 2 0 0 [vR (some 189), vI (s)] (st i l) (qB (0 ≤ s ∧ s < i 190 11) (st i l)) := by
  refine mCtr_of pl_X9 dc_X9_isSinger (Nat.le_of_ble_eq_true rfl) rfl ?_
  show mX m_X9_isSinger 2 _ 0 0 0 [some (vR (some 189)), some (vI (s))] [] (st i l)
  refine x_iload_n 0 rfl rfl ?_
  refine x_iconst 1 rfl ?_
  refine x_aload_n 2 rfl rfl ?_
  refine x_getR 3 (z := 190) rfl fl_X9_7 (n_lt rfl) k_189 rfl r_189_0 ?_
  refine x_bipush 4 rfl (by decide) ?_
  refine x_iald 5 (z := i 190 11) rfl (n_lt rfl) k_190 (by omega) rfl ?_
  refine x_iconst 6 rfl ?_
  refine x_isub 7 (r := (i 190 11) - 1) rfl rfl ?_
  refine x_callS 8 m_X9_isIn (r_isIn (by omega) (by omega) (by omega)) rfl ok_X9_isIn ml_X9_62 st_X9_isIn rfl (by decide) rfl (Nat.le_of_ble_eq_true rfl) rfl rfl (fun v g q1 => ?_)
  rcases q1 with ⟨rfl, ⟨h2, rfl⟩ | ⟨h2, rfl⟩⟩
  · show mX m_X9_isSinger 2 _ 0 0 _ _ [vI (1)] _
    refine x_ret 9 (some (vI (1))) rfl ⟨rfl, Or.inr ⟨rfl, by omega⟩⟩ ⟨rfl, Or.inl ⟨?_, rfl⟩⟩
    omega
  · show mX m_X9_isSinger 2 _ 0 0 _ _ [vI (0)] _
    refine x_ret 9 (some (vI (0))) rfl ⟨rfl, Or.inr ⟨rfl, by omega⟩⟩ ⟨rfl, Or.inr ⟨?_, rfl⟩⟩
    omega
set_option maxRecDepth 20000 in
set_option maxHeartbeats 2000000 in
theorem r_isPart {i : Nat → Int → Int} {l : Nat → Int → BitVec 64} {p : Int} (hp : -2147483648 ≤ p ∧ p < 2147483648) : mCtr m_X9_isPart 2 0 0 [vI (p)] (st i l) (qB (0 ≤ p ∧ p < 4) (st i l)) := by
  refine mCtr_of pl_X9 dc_X9_isPart (Nat.le_of_ble_eq_true rfl) rfl ?_
  show mX m_X9_isPart 2 _ 0 0 0 [some (vI (p))] [] (st i l)
  refine x_iload_n 0 rfl rfl ?_
  refine x_iconst 1 rfl ?_
  refine x_iconst 2 rfl ?_
  refine x_callS 3 m_X9_isIn (r_isIn (by omega) (by omega) (by omega)) rfl ok_X9_isIn ml_X9_62 st_X9_isIn rfl (by decide) rfl (Nat.le_of_ble_eq_true rfl) rfl rfl (fun v g q1 => ?_)
  rcases q1 with ⟨rfl, ⟨h2, rfl⟩ | ⟨h2, rfl⟩⟩
  · show mX m_X9_isPart 2 _ 0 0 _ _ [vI (1)] _
    refine x_ret 4 (some (vI (1))) rfl ⟨rfl, Or.inr ⟨rfl, by omega⟩⟩ ⟨rfl, Or.inl ⟨?_, rfl⟩⟩
    omega
  · show mX m_X9_isPart 2 _ 0 0 _ _ [vI (0)] _
    refine x_ret 4 (some (vI (0))) rfl ⟨rfl, Or.inr ⟨rfl, by omega⟩⟩ ⟨rfl, Or.inr ⟨?_, rfl⟩⟩
    omega
set_option maxRecDepth 20000 in
set_option maxHeartbeats 2000000 in
theorem r_isImage {i : Nat → Int → Int} {l : Nat → Int → BitVec 64} {p : Int} (hp : -2147483648 ≤ p ∧ p < 2147483648) : mCtr m_X9_isImage 2 0 0 [vI (p)] (st i l) (qB (0 ≤ p ∧ p < 2) (st i l)) := by
  refine mCtr_of pl_X9 dc_X9_isImage (Nat.le_of_ble_eq_true rfl) rfl ?_
  show mX m_X9_isImage 2 _ 0 0 0 [some (vI (p))] [] (st i l)
  refine x_iload_n 0 rfl rfl ?_
  refine x_iconst 1 rfl ?_
  refine x_iconst 2 rfl ?_
  refine x_callS 3 m_X9_isIn (r_isIn (by omega) (by omega) (by omega)) rfl ok_X9_isIn ml_X9_62 st_X9_isIn rfl (by decide) rfl (Nat.le_of_ble_eq_true rfl) rfl rfl (fun v g q1 => ?_)
  rcases q1 with ⟨rfl, ⟨h2, rfl⟩ | ⟨h2, rfl⟩⟩
  · show mX m_X9_isImage 2 _ 0 0 _ _ [vI (1)] _
    refine x_ret 4 (some (vI (1))) rfl ⟨rfl, Or.inr ⟨rfl, by omega⟩⟩ ⟨rfl, Or.inl ⟨?_, rfl⟩⟩
    omega
  · show mX m_X9_isImage 2 _ 0 0 _ _ [vI (0)] _
    refine x_ret 4 (some (vI (0))) rfl ⟨rfl, Or.inr ⟨rfl, by omega⟩⟩ ⟨rfl, Or.inr ⟨?_, rfl⟩⟩
    omega
set_option maxRecDepth 20000 in
set_option maxHeartbeats 2000000 in
theorem r_findRange {i : Nat → Int → Int} {l : Nat → Int → BitVec 64} (hW : okW (i 190)) {s : Int} (hs : 0 ≤ s ∧ s < i 190 11) : mCtr m_X9_findRange 2 0 0 [vR (some 189), vI (s)] (st i l) (qV (fun i' l' => l' = l ∧ i' 189 9 = rgLo (sV (i 190) s) ∧ i' 189 10 = rgHi (sV (i 190) s) ∧ fr9 i i')) := by
  refine mCtr_of pl_X9 dc_X9_findRange (Nat.le_of_ble_eq_true rfl) rfl ?_
  show mX m_X9_findRange 2 _ 0 0 0 [some (vR (some 189)), some (vI (s)), none, none] [] (st i l)
  have hN := hW.n
  have hV := hW.v hs.1 hs.2
  obtain ⟨f, hf⟩ : ∃ f : Int → Bool, f = fun k => decide (sV (i 190) s (7 + k) = 1) := ⟨_, rfl⟩
  refine x_aload_n 0 rfl rfl ?_
  refine x_bipush 1 rfl (by decide) ?_
  obtain ⟨i1, hi1⟩ : ∃ f, f = mU i 189 9 ((-9)) := ⟨_, rfl⟩
  refine x_putI 2 rfl fl_X9_66 (n_lt rfl) k_189 rfl rfl (g' := st i1 l) (by subst hi1; rfl) ?_
  refine x_aload_n 3 rfl rfl ?_
  refine x_bipush 4 rfl (by decide) ?_
  obtain ⟨i2, hi2⟩ : ∃ f, f = mU i1 189 10 ((-9)) := ⟨_, rfl⟩
  refine x_putI 5 rfl fl_X9_69 (n_lt rfl) k_189 rfl rfl (g' := st i2 l) (by subst hi2; rfl) ?_
  refine x_iconst 6 rfl ?_
  refine x_istore_n 7 (L' := [some (vR (some 189)), some (vI (s)), some (vI (0)), none]) rfl (by decide) rfl rfl ?_
  refine x_iconst 8 rfl ?_
  refine x_istore_n 9 (L' := [some (vR (some 189)), some (vI (s)), some (vI (0)), some (vI (0))]) rfl (by decide) rfl rfl ?_
  have loopL3 : ∀ (nz : Nat) (ii : Nat → Int → Int) (x : Int) (b : Int), (0 ≤ x ∧ x ≤ 41) → (b = x - (rwZ f x).1) → (∀ a c, ii a c = if a = 189 ∧ c = 9 then (if (rwZ f x).2.1 = 0 then -9 else (rwZ f x).2.2) else if a = 189 ∧ c = 10 then (if (rwZ f x).2.1 = 0 then -9 else (rwZ f x).2.2 + (rwZ f x).2.1 - 1) else i a c) → (41 - x) < (nz : Int) → mX m_X9_findRange 2 (qV (fun i' l' => l' = l ∧ i' 189 9 = rgLo (sV (i 190) s) ∧ i' 189 10 = rgHi (sV (i 190) s) ∧ fr9 i i')) 0 0 16 [some (vR (some 189)), some (vI (s)), some (vI (b)), some (vI (x))] [] (st ii l) := by
    intro nz
    induction nz with
    | zero => intro ii x b hx hb hA hz; exact absurd hz (by omega)
    | succ nz ihL3 =>
      intro ii x b hx hb hA hzL3
      refine x_iload_n 10 rfl rfl ?_
      refine x_bipush 11 rfl (by decide) ?_
      refine x_icmp_ge 12 (tgt := 82) rfl (by decide) (by omega) (fun h4 => ?_) (fun h4 => ?_)
      · refine x_ret 47 none rfl ⟨rfl, rfl⟩ ⟨rfl, ii, l, rfl, ?_⟩
        rw [show x = 41 by omega] at hA
        subst hf
        refine ⟨rfl, ?_, ?_, fun a b q => ?_⟩
        · rw [hA, if_pos ⟨rfl, rfl⟩]; rfl
        · rw [hA, if_neg (by omega), if_pos ⟨rfl, rfl⟩]; rfl
        · rw [hA, if_neg (by omega), if_neg (by omega)]
      · have e190 : ii 190 = i 190 := by funext z; rw [hA, if_neg (by omega), if_neg (by omega)]
        have ew : sV (ii 190) s (7 + x) = sV (i 190) s (7 + x) := by rw [e190]
        have hvx := hV.2.2.2.2.2.2.2 x hx.1 (by omega)
        have hrb := rwZ_bd f hx.1
        have e9 : ii 189 9 = if (rwZ f x).2.1 = 0 then -9 else (rwZ f x).2.2 := by rw [hA, if_pos ⟨rfl, rfl⟩]
        have e10 : ii 189 10 = if (rwZ f x).2.1 = 0 then -9 else (rwZ f x).2.2 + (rwZ f x).2.1 - 1 := by rw [hA, if_neg (by omega), if_pos ⟨rfl, rfl⟩]
        have e9b : ((rwZ f x).2.1 = 0 ∧ ii 189 9 = -9 ∧ ii 189 10 = -9) ∨ ((rwZ f x).2.1 ≠ 0 ∧ ii 189 9 = (rwZ f x).2.2 ∧ ii 189 10 = (rwZ f x).2.2 + (rwZ f x).2.1 - 1) := by rw [e9, e10]; by_cases q : (rwZ f x).2.1 = 0; (left; rw [if_pos q, if_pos q]; exact ⟨q, rfl, rfl⟩); (right; rw [if_neg q, if_neg q]; exact ⟨q, rfl, rfl⟩)
        refine x_aload_n 13 rfl rfl ?_
        refine x_iload_n 14 rfl rfl ?_
        refine x_bipush 15 rfl (by decide) ?_
        refine x_iload_n 16 rfl rfl ?_
        refine x_iadd 17 (r := 7 + x) rfl rfl ?_
        refine x_callV 18 m_X9_of (r_of (by omega) (by omega)) rfl ok_X9_of (n_lt rfl) k_189 rfl rfl ml_X9_72 im_X9_of se_X9_of rfl (by decide) rfl (Nat.le_of_ble_eq_true rfl) rfl rfl (fun v g q5 => ?_)
        obtain ⟨rfl, rfl⟩ := q5
        show mX m_X9_findRange 2 _ 0 0 _ _ [vI (sV (ii 190) s (7 + x))] _
        refine x_iconst 19 rfl ?_
        refine x_icmp_eq 20 (tgt := 42) rfl (by decide) (by omega) (fun h6 => ?_) (fun h6 => ?_)
        · have hfx : f x = true := by rw [hf]; simp only; rw [← ew, decide_eq_true_eq]; exact h6
          refine x_aload_n 26 rfl rfl ?_
          refine x_getI 27 (z := ii 189 9) rfl fl_X9_66 (n_lt rfl) k_189 rfl rfl ?_
          refine x_bipush 28 rfl (by decide) ?_
          refine x_icmp_eq 29 (tgt := 66) rfl (by decide) (by omega) (fun h7 => ?_) (fun h7 => ?_)
          · refine x_aload_n 39 rfl rfl ?_
            refine x_iload_n 40 rfl rfl ?_
            obtain ⟨i8, hi8⟩ : ∃ f, f = mU ii 189 9 (b) := ⟨_, rfl⟩
            refine x_putI 41 rfl fl_X9_66 (n_lt rfl) k_189 rfl rfl (g' := st i8 l) (by subst hi8; rfl) ?_
            refine x_aload_n 42 rfl rfl ?_
            refine x_iload_n 43 rfl rfl ?_
            obtain ⟨i9, hi9⟩ : ∃ f, f = mU i8 189 10 (x) := ⟨_, rfl⟩
            refine x_putI 44 rfl fl_X9_69 (n_lt rfl) k_189 rfl rfl (g' := st i9 l) (by subst hi9; rfl) ?_
            refine x_iinc 45 (L' := [some (vR (some 189)), some (vI (s)), some (vI (b)), some (vI (x + 1))]) rfl (by decide) rfl rfl rfl rfl ?_
            refine x_goto 46 (tgt := 16) rfl (by decide) ?_
            exact ihL3 i9 (x + 1) (b) (by omega) (by rw [rwZ_s f hx.1, hfx]; first | (rw [if_neg (by decide)]; simp only; omega) | (rw [if_pos rfl]; split <;> simp only <;> omega)) (rg_step hx.1 hA (by first | exact Or.inl ⟨hfx, rfl⟩ | exact Or.inr (Or.inl ⟨hfx, by omega, rfl⟩) | exact Or.inr (Or.inr ⟨hfx, by omega, by subst_vars; rfl⟩))) (by omega)
          · refine x_iload_n 30 rfl rfl ?_
            refine x_iload_n 31 rfl rfl ?_
            refine x_isub 32 (r := x - b) rfl rfl ?_
            refine x_aload_n 33 rfl rfl ?_
            refine x_getI 34 (z := ii 189 10) rfl fl_X9_69 (n_lt rfl) k_189 rfl rfl ?_
            refine x_aload_n 35 rfl rfl ?_
            refine x_getI 36 (z := ii 189 9) rfl fl_X9_66 (n_lt rfl) k_189 rfl rfl ?_
            refine x_isub 37 (r := (ii 189 10) - (ii 189 9)) rfl rfl ?_
            refine x_icmp_le 38 (tgt := 76) rfl (by decide) (by omega) (fun h10 => ?_) (fun h10 => ?_)
            · refine x_iinc 45 (L' := [some (vR (some 189)), some (vI (s)), some (vI (b)), some (vI (x + 1))]) rfl (by decide) rfl rfl rfl rfl ?_
              refine x_goto 46 (tgt := 16) rfl (by decide) ?_
              exact ihL3 ii (x + 1) (b) (by omega) (by rw [rwZ_s f hx.1, hfx]; first | (rw [if_neg (by decide)]; simp only; omega) | (rw [if_pos rfl]; split <;> simp only <;> omega)) (rg_step hx.1 hA (by first | exact Or.inl ⟨hfx, rfl⟩ | exact Or.inr (Or.inl ⟨hfx, by omega, rfl⟩) | exact Or.inr (Or.inr ⟨hfx, by omega, by subst_vars; rfl⟩))) (by omega)
            · refine x_aload_n 39 rfl rfl ?_
              refine x_iload_n 40 rfl rfl ?_
              obtain ⟨i11, hi11⟩ : ∃ f, f = mU ii 189 9 (b) := ⟨_, rfl⟩
              refine x_putI 41 rfl fl_X9_66 (n_lt rfl) k_189 rfl rfl (g' := st i11 l) (by subst hi11; rfl) ?_
              refine x_aload_n 42 rfl rfl ?_
              refine x_iload_n 43 rfl rfl ?_
              obtain ⟨i12, hi12⟩ : ∃ f, f = mU i11 189 10 (x) := ⟨_, rfl⟩
              refine x_putI 44 rfl fl_X9_69 (n_lt rfl) k_189 rfl rfl (g' := st i12 l) (by subst hi12; rfl) ?_
              refine x_iinc 45 (L' := [some (vR (some 189)), some (vI (s)), some (vI (b)), some (vI (x + 1))]) rfl (by decide) rfl rfl rfl rfl ?_
              refine x_goto 46 (tgt := 16) rfl (by decide) ?_
              exact ihL3 i12 (x + 1) (b) (by omega) (by rw [rwZ_s f hx.1, hfx]; first | (rw [if_neg (by decide)]; simp only; omega) | (rw [if_pos rfl]; split <;> simp only <;> omega)) (rg_step hx.1 hA (by first | exact Or.inl ⟨hfx, rfl⟩ | exact Or.inr (Or.inl ⟨hfx, by omega, rfl⟩) | exact Or.inr (Or.inr ⟨hfx, by omega, by subst_vars; rfl⟩))) (by omega)
        · have hfx : f x = false := by rw [hf]; simp only; rw [← ew, decide_eq_false_iff_not]; exact h6
          refine x_iload_n 21 rfl rfl ?_
          refine x_iconst 22 rfl ?_
          refine x_iadd 23 (r := x + 1) rfl rfl ?_
          refine x_istore_n 24 (L' := [some (vR (some 189)), some (vI (s)), some (vI (x + 1)), some (vI (x))]) rfl (by decide) rfl rfl ?_
          refine x_goto 25 (tgt := 76) rfl (by decide) ?_
          refine x_iinc 45 (L' := [some (vR (some 189)), some (vI (s)), some (vI (x + 1)), some (vI (x + 1))]) rfl (by decide) rfl rfl rfl rfl ?_
          refine x_goto 46 (tgt := 16) rfl (by decide) ?_
          exact ihL3 ii (x + 1) (x + 1) (by omega) (by rw [rwZ_s f hx.1, hfx]; first | (rw [if_neg (by decide)]; simp only; omega) | (rw [if_pos rfl]; split <;> simp only <;> omega)) (rg_step hx.1 hA (by first | exact Or.inl ⟨hfx, rfl⟩ | exact Or.inr (Or.inl ⟨hfx, by omega, rfl⟩) | exact Or.inr (Or.inr ⟨hfx, by omega, by subst_vars; rfl⟩))) (by omega)
  exact loopL3 ((41 - ((0))) + 1 : Int).toNat i2 (0) (0) (by omega) (rfl) (by intro a c; subst_vars; simp only [mU]; show _ = if a = 189 ∧ c = 9 then -9 else if a = 189 ∧ c = 10 then -9 else _; grind) (by omega)
set_option maxRecDepth 20000 in
set_option maxHeartbeats 2000000 in
theorem r_overlapOf {i : Nat → Int → Int} {l : Nat → Int → BitVec 64} (hW : okW (i 190)) {s : Int} (hs : 0 ≤ s ∧ s < i 190 11) {p : Int} (hp : 0 ≤ p ∧ p < 4) : mCtr m_X9_overlapOf 3 0 0 [vR (some 189), vI (s), vI (p)] (st i l) (qW (fun z i' l' => z = gIn (sV (i 190) s) p ∧ l' = l ∧ fr9 i i')) := by
  refine mCtr_of pl_X9 dc_X9_overlapOf (Nat.le_of_ble_eq_true rfl) rfl ?_
  show mX m_X9_overlapOf 3 _ 0 0 0 [some (vR (some 189)), some (vI (s)), some (vI (p)), none, none, none] [] (st i l)
  have hN := hW.n
  have hV := hW.v hs.1 hs.2
  refine x_aload_n 0 rfl rfl ?_
  refine x_iload_n 1 rfl rfl ?_
  refine x_callV 2 m_X9_findRange (r_findRange hW (by omega)) rfl ok_X9_findRange (n_lt rfl) k_189 rfl rfl ml_X9_76 im_X9_findRange se_X9_findRange rfl (by decide) rfl (Nat.le_of_ble_eq_true rfl) rfl rfl (fun v g q1 => ?_)
  obtain ⟨rfl, i2, li2, rfl, hi2⟩ := q1
  obtain ⟨hEi2, hi2⟩ := hi2
  have hEi2 := hEi2.symm
  subst hEi2
  show mX m_X9_overlapOf 3 _ 0 0 _ _ [] _
  obtain ⟨h9, h10, hfr⟩ := hi2
  have hrg := rgZ_bd (sV (i 190) s)
  have hb9 : ((rgZ (sV (i 190) s)).2.1 = 0 ∧ i2 189 9 = -9 ∧ i2 189 10 = -9) ∨ ((rgZ (sV (i 190) s)).2.1 ≠ 0 ∧ i2 189 9 = (rgZ (sV (i 190) s)).2.2 ∧ i2 189 10 = (rgZ (sV (i 190) s)).2.2 + (rgZ (sV (i 190) s)).2.1 - 1) := by rw [h9, h10]; unfold rgLo rgHi; by_cases q : (rgZ (sV (i 190) s)).2.1 = 0; (left; rw [if_pos q, if_pos q]; exact ⟨q, rfl, rfl⟩); (right; rw [if_neg q, if_neg q]; exact ⟨q, rfl, rfl⟩)
  obtain ⟨lo, hlo⟩ : ∃ z, z = i2 189 9 := ⟨_, rfl⟩
  obtain ⟨hi_, hhi⟩ : ∃ z, z = i2 189 10 := ⟨_, rfl⟩
  refine x_bipush 3 rfl (by decide) ?_
  refine x_bipush 4 rfl (by decide) ?_
  refine x_iload_n 5 rfl rfl ?_
  refine x_imul 6 (r := 6 * p) rfl rfl ?_
  refine x_isub 7 (r := 22 - (6 * p)) rfl rfl ?_
  refine x_istore_n 8 (L' := [some (vR (some 189)), some (vI (s)), some (vI (p)), some (vI (22 - (6 * p))), none, none]) rfl (by decide) rfl rfl ?_
  refine x_iconst 9 rfl ?_
  refine x_istore 10 (L' := [some (vR (some 189)), some (vI (s)), some (vI (p)), some (vI (22 - (6 * p))), some (vI (0)), none]) rfl (by decide) rfl rfl ?_
  refine x_iload_n 11 rfl rfl ?_
  refine x_istore 12 (L' := [some (vR (some 189)), some (vI (s)), some (vI (p)), some (vI (22 - (6 * p))), some (vI (0)), some (vI (22 - (6 * p)))]) rfl (by decide) rfl rfl ?_
  have loopL3 : ∀ (nz : Nat) (x : Int) (n : Int), (22 - 6 * p ≤ x ∧ x ≤ 22 - 6 * p + 15) → ((lo = -9 ∧ n = 0) ∨ (lo ≠ -9 ∧ n = max 0 (min (hi_ + 1) x - max lo (22 - 6 * p)))) → (22 - 6 * p + 15 - x) < (nz : Int) → mX m_X9_overlapOf 3 (qW (fun z i' l' => z = gIn (sV (i 190) s) p ∧ l' = l ∧ fr9 i i')) 0 0 19 [some (vR (some 189)), some (vI (s)), some (vI (p)), some (vI (22 - (6 * p))), some (vI (n)), some (vI (x))] [] (st i2 l) := by
    intro nz
    induction nz with
    | zero => intro x n hx hn hz; exact absurd hz (by omega)
    | succ nz ihL3 =>
      intro x n hx hn hzL3
      refine x_iload 13 rfl rfl ?_
      refine x_iload_n 14 rfl rfl ?_
      refine x_bipush 15 rfl (by decide) ?_
      refine x_iadd 16 (r := (22 - (6 * p)) + 15) rfl rfl ?_
      refine x_icmp_ge 17 (tgt := 69) rfl (by decide) (by omega) (fun h4 => ?_) (fun h4 => ?_)
      · refine x_iload 37 rfl rfl ?_
        refine x_ret 38 (some (vI (n))) rfl ⟨rfl, Or.inl rfl⟩ ⟨_, i2, l, rfl, rfl, ?_⟩
        refine ⟨?_, rfl, hfr⟩
        rcases hb9 with ⟨q1, q2, q3⟩ | ⟨q1, q2, q3⟩
        · rw [gIn_0 hp q1]; omega
        · unfold gIn; omega
      · refine x_iload 18 rfl rfl ?_
        refine x_aload_n 19 rfl rfl ?_
        refine x_getI 20 (z := i2 189 9) rfl fl_X9_66 (n_lt rfl) k_189 rfl rfl ?_
        refine x_bipush 21 rfl (by decide) ?_
        refine x_icmp_eq 22 (tgt := 59) rfl (by decide) (by omega) (fun h5 => ?_) (fun h5 => ?_)
        · refine x_iconst 32 rfl ?_
          refine x_iadd 33 (r := n + 0) rfl rfl ?_
          refine x_istore 34 (L' := [some (vR (some 189)), some (vI (s)), some (vI (p)), some (vI (22 - (6 * p))), some (vI (n + 0)), some (vI (x))]) rfl (by decide) rfl rfl ?_
          refine x_iinc 35 (L' := [some (vR (some 189)), some (vI (s)), some (vI (p)), some (vI (22 - (6 * p))), some (vI (n + 0)), some (vI (x + 1))]) rfl (by decide) rfl rfl rfl rfl ?_
          refine x_goto 36 (tgt := 19) rfl (by decide) ?_
          exact ihL3 (x + 1) (n + 0) (by omega) (by omega) (by omega)
        · refine x_iload 23 rfl rfl ?_
          refine x_aload_n 24 rfl rfl ?_
          refine x_getI 25 (z := i2 189 9) rfl fl_X9_66 (n_lt rfl) k_189 rfl rfl ?_
          refine x_aload_n 26 rfl rfl ?_
          refine x_getI 27 (z := i2 189 10) rfl fl_X9_69 (n_lt rfl) k_189 rfl rfl ?_
          refine x_callS 28 m_X9_isIn (r_isIn (by omega) (by omega) (by omega)) rfl ok_X9_isIn ml_X9_62 st_X9_isIn rfl (by decide) rfl (Nat.le_of_ble_eq_true rfl) rfl rfl (fun v g q6 => ?_)
          rcases q6 with ⟨rfl, ⟨h7, rfl⟩ | ⟨h7, rfl⟩⟩
          · show mX m_X9_overlapOf 3 _ 0 0 _ _ [vI (1), vI (n)] _
            refine x_if_eq 29 (tgt := 59) rfl (by decide) (by decide) (fun h8 => absurd h8 (by decide)) (fun h8 => ?_)
            refine x_iconst 30 rfl ?_
            refine x_goto 31 (tgt := 60) rfl (by decide) ?_
            refine x_iadd 33 (r := n + 1) rfl rfl ?_
            refine x_istore 34 (L' := [some (vR (some 189)), some (vI (s)), some (vI (p)), some (vI (22 - (6 * p))), some (vI (n + 1)), some (vI (x))]) rfl (by decide) rfl rfl ?_
            refine x_iinc 35 (L' := [some (vR (some 189)), some (vI (s)), some (vI (p)), some (vI (22 - (6 * p))), some (vI (n + 1)), some (vI (x + 1))]) rfl (by decide) rfl rfl rfl rfl ?_
            refine x_goto 36 (tgt := 19) rfl (by decide) ?_
            exact ihL3 (x + 1) (n + 1) (by omega) (by omega) (by omega)
          · show mX m_X9_overlapOf 3 _ 0 0 _ _ [vI (0), vI (n)] _
            refine x_if_eq 29 (tgt := 59) rfl (by decide) (by decide) (fun h9 => ?_) (fun h9 => absurd h9 (by decide))
            refine x_iconst 32 rfl ?_
            refine x_iadd 33 (r := n + 0) rfl rfl ?_
            refine x_istore 34 (L' := [some (vR (some 189)), some (vI (s)), some (vI (p)), some (vI (22 - (6 * p))), some (vI (n + 0)), some (vI (x))]) rfl (by decide) rfl rfl ?_
            refine x_iinc 35 (L' := [some (vR (some 189)), some (vI (s)), some (vI (p)), some (vI (22 - (6 * p))), some (vI (n + 0)), some (vI (x + 1))]) rfl (by decide) rfl rfl rfl rfl ?_
            refine x_goto 36 (tgt := 19) rfl (by decide) ?_
            exact ihL3 (x + 1) (n + 0) (by omega) (by omega) (by omega)
  exact loopL3 ((22 - 6 * p + 15 - ((22 - (6 * p)))) + 1 : Int).toNat (22 - (6 * p)) (0) (by omega) (by omega) (by omega)
set_option maxRecDepth 20000 in
set_option maxHeartbeats 2000000 in
theorem r_isFit {i : Nat → Int → Int} {l : Nat → Int → BitVec 64} (hW : okW (i 190)) {s : Int} (hs : 0 ≤ s ∧ s < i 190 11) {p : Int} (hp : 0 ≤ p ∧ p < 4) : mCtr m_X9_isFit 4 0 0 [vR (some 189), vI (s), vI (p)] (st i l) (qW (fun z i' l' => ((i 190 0 ≤ gIn (sV (i 190) s) p ∧ z = 1) ∨ (¬ i 190 0 ≤ gIn (sV (i 190) s) p ∧ z = 0)) ∧ l' = l ∧ fr9 i i')) := by
  refine mCtr_of pl_X9 dc_X9_isFit (Nat.le_of_ble_eq_true rfl) rfl ?_
  show mX m_X9_isFit 4 _ 0 0 0 [some (vR (some 189)), some (vI (s)), some (vI (p))] [] (st i l)
  have hN := hW.n
  refine x_aload_n 0 rfl rfl ?_
  refine x_iload_n 1 rfl rfl ?_
  refine x_iload_n 2 rfl rfl ?_
  refine x_callV 3 m_X9_overlapOf (r_overlapOf hW (by omega) (by omega)) rfl ok_X9_overlapOf (n_lt rfl) k_189 rfl rfl ml_X9_80 im_X9_overlapOf se_X9_overlapOf rfl (by decide) rfl (Nat.le_of_ble_eq_true rfl) rfl rfl (fun v g q1 => ?_)
  obtain ⟨z3, i2, li2, rfl, rfl, hi2⟩ := q1
  show mX m_X9_isFit 4 _ 0 0 _ _ [vI (z3)] _
  obtain ⟨hz, rfl, hfr⟩ := hi2
  have e0 : i2 190 0 = i 190 0 := hfr 190 0 (by omega)
  have hgb : 0 ≤ gIn (sV (i 190) s) p ∧ gIn (sV (i 190) s) p ≤ 41 := by unfold gIn; have := rgZ_bd (sV (i 190) s); omega
  refine x_aload_n 4 rfl rfl ?_
  refine x_getR 5 (z := 190) rfl fl_X9_7 (n_lt rfl) k_189 rfl r_189_0 ?_
  refine x_iconst 6 rfl ?_
  refine x_iald 7 (z := i2 190 0) rfl (n_lt rfl) k_190 (by omega) rfl ?_
  refine x_icmp_lt 8 (tgt := 19) rfl (by decide) (by omega) (fun h4 => ?_) (fun h4 => ?_)
  · refine x_iconst 11 rfl ?_
    refine x_ret 12 (some (vI (0))) rfl ⟨rfl, Or.inr ⟨rfl, by omega⟩⟩ ⟨_, i2, li2, rfl, rfl, ?_⟩
    refine ⟨?_, rfl, hfr⟩
    first
      | (left; omega)
      | (right; omega)
  · refine x_iconst 9 rfl ?_
    refine x_goto 10 (tgt := 20) rfl (by decide) ?_
    refine x_ret 12 (some (vI (1))) rfl ⟨rfl, Or.inr ⟨rfl, by omega⟩⟩ ⟨_, i2, li2, rfl, rfl, ?_⟩
    refine ⟨?_, rfl, hfr⟩
    first
      | (left; omega)
      | (right; omega)
set_option maxRecDepth 20000 in
set_option maxHeartbeats 2000000 in
theorem r_fits {i : Nat → Int → Int} {l : Nat → Int → BitVec 64} (hW : okW (i 190)) {s : Int} (hs : 0 ≤ s ∧ s < i 190 11) : mCtr m_X9_fits 5 0 0 [vR (some 189), vI (s)] (st i l) (qW (fun z i' l' => z = gFits (i 190) s ∧ l' = l ∧ fr9 i i')) := by
  refine mCtr_of pl_X9 dc_X9_fits (Nat.le_of_ble_eq_true rfl) rfl ?_
  show mX m_X9_fits 5 _ 0 0 0 [some (vR (some 189)), some (vI (s)), none, none] [] (st i l)
  have hN := hW.n
  obtain ⟨f, hf⟩ : ∃ f : Int → Bool, f = fun p => decide (i 190 0 ≤ gIn (sV (i 190) s) p) := ⟨_, rfl⟩
  refine x_iconst 0 rfl ?_
  refine x_istore_n 1 (L' := [some (vR (some 189)), some (vI (s)), some (vI (0)), none]) rfl (by decide) rfl rfl ?_
  refine x_iconst 2 rfl ?_
  refine x_istore_n 3 (L' := [some (vR (some 189)), some (vI (s)), some (vI (0)), some (vI (0))]) rfl (by decide) rfl rfl ?_
  have loopL1 : ∀ (nz : Nat) (ii : Nat → Int → Int) (x : Int) (t : Int), (0 ≤ x ∧ x ≤ 4) → (t = orZ f x) → (fr9 i ii) → (4 - x) < (nz : Int) → mX m_X9_fits 5 (qW (fun z i' l' => z = gFits (i 190) s ∧ l' = l ∧ fr9 i i')) 0 0 4 [some (vR (some 189)), some (vI (s)), some (vI (t)), some (vI (x))] [] (st ii l) := by
    intro nz
    induction nz with
    | zero => intro ii x t hx ht hfr hz; exact absurd hz (by omega)
    | succ nz ihL1 =>
      intro ii x t hx ht hfr hzL1
      refine x_iload_n 4 rfl rfl ?_
      refine x_iconst 5 rfl ?_
      refine x_icmp_ge 6 (tgt := 34) rfl (by decide) (by omega) (fun h2 => ?_) (fun h2 => ?_)
      · refine x_iload_n 22 rfl rfl ?_
        refine x_ret 23 (some (vI (t))) rfl ⟨rfl, Or.inl rfl⟩ ⟨_, ii, l, rfl, rfl, ?_⟩
        refine ⟨?_, rfl, hfr⟩
        rw [ht, hf, show x = 4 by omega]
        rfl
      · have e190 : ii 190 = i 190 := hfr.w
        have hWw : okW (ii 190) := by rw [e190]; exact hW
        have e11 : ii 190 11 = i 190 11 := by rw [e190]
        have hob := orZ_bd f (x := x) (by omega)
        refine x_iload_n 7 rfl rfl ?_
        refine x_aload_n 8 rfl rfl ?_
        refine x_iload_n 9 rfl rfl ?_
        refine x_iload_n 10 rfl rfl ?_
        refine x_callV 11 m_X9_isFit (r_isFit hWw (by omega) (by omega)) rfl ok_X9_isFit (n_lt rfl) k_189 rfl rfl ml_X9_83 im_X9_isFit se_X9_isFit rfl (by decide) rfl (Nat.le_of_ble_eq_true rfl) rfl rfl (fun v g q3 => ?_)
        obtain ⟨z5, i4, li4, rfl, rfl, hi4⟩ := q3
        show mX m_X9_fits 5 _ 0 0 _ _ [vI (z5), vI (t)] _
        obtain ⟨hz, rfl, hq9⟩ := hi4
        rw [e190] at hz
        refine x_if_eq 12 (tgt := 25) rfl (by decide) (by omega) (fun h6 => ?_) (fun h6 => ?_)
        · have hfx : f x = false := by rw [hf]; simp only; rw [decide_eq_false_iff_not]; omega
          refine x_iconst 17 rfl ?_
          refine x_ior 18 (r := (t : Int).toNat ||| (0 : Int).toNat) rfl (by omega) rfl ?_
          refine x_istore_n 19 (L' := [some (vR (some 189)), some (vI (s)), some (vI ((((t : Int).toNat ||| (0 : Int).toNat : Nat) : Int))), some (vI (x))]) rfl (by decide) rfl rfl ?_
          refine x_iinc 20 (L' := [some (vR (some 189)), some (vI (s)), some (vI ((((t : Int).toNat ||| (0 : Int).toNat : Nat) : Int))), some (vI (x + 1))]) rfl (by decide) rfl rfl rfl rfl ?_
          refine x_goto 21 (tgt := 4) rfl (by decide) ?_
          exact ihL1 i4 (x + 1) ((((t : Int).toNat ||| (0 : Int).toNat : Nat) : Int)) (by omega) (by rw [orZ_s f hx.1, ht, hfx]; first | (rw [if_neg (by decide)]; simp only [Int.toNat_zero, Nat.or_zero]; omega) | (rw [if_pos rfl, mOne])) (hfr.tr hq9) (by omega)
        · have hfx : f x = true := by rw [hf]; simp only; rw [decide_eq_true_eq]; omega
          have hp2 := mPow4 (show 0 ≤ x ∧ x < 4 by omega)
          refine x_iconst 13 rfl ?_
          refine x_iload_n 14 rfl rfl ?_
          refine x_ishl 15 (r := 1 * 2 ^ (x).toNat) rfl (by have := Nat.pow_le_pow_right (n := 2) (by decide) (show x.toNat ≤ 4 by omega); omega) rfl ?_
          refine x_goto 16 (tgt := 26) rfl (by decide) ?_
          refine x_ior 18 (r := (t : Int).toNat ||| (1 * 2 ^ (x).toNat : Int).toNat) rfl (by omega) rfl ?_
          refine x_istore_n 19 (L' := [some (vR (some 189)), some (vI (s)), some (vI ((((t : Int).toNat ||| (1 * 2 ^ (x).toNat : Int).toNat : Nat) : Int))), some (vI (x))]) rfl (by decide) rfl rfl ?_
          refine x_iinc 20 (L' := [some (vR (some 189)), some (vI (s)), some (vI ((((t : Int).toNat ||| (1 * 2 ^ (x).toNat : Int).toNat : Nat) : Int))), some (vI (x + 1))]) rfl (by decide) rfl rfl rfl rfl ?_
          refine x_goto 21 (tgt := 4) rfl (by decide) ?_
          exact ihL1 i4 (x + 1) ((((t : Int).toNat ||| (1 * 2 ^ (x).toNat : Int).toNat : Nat) : Int)) (by omega) (by rw [orZ_s f hx.1, ht, hfx]; first | (rw [if_neg (by decide)]; simp only [Int.toNat_zero, Nat.or_zero]; omega) | (rw [if_pos rfl, mOne])) (hfr.tr hq9) (by omega)
  exact loopL1 ((4 - ((0))) + 1 : Int).toNat i (0) (0) (by omega) (rfl) (fr9.rf i) (by omega)
