variable {nn : Nat} {bb : Bool}
/-! placing: its methods -/
theorem x_eqS {M : mM} {d cb sb pc : Nat} {Qa : Option mV → mS → Prop} {L : List (Option mV)} {S S' : List mV} {g : mS} (h : S = S') (k : mX M d Qa cb sb pc L S' g) : mX M d Qa cb sb pc L S g := h ▸ k
theorem ad_step {i ii i' : Nat → Int → Int} {k g m x P : Int} (h0 : 0 ≤ x) (hA : ∀ a b, ii a b = if a = (ob bb + 184) ∧ P ≤ b ∧ b < P + x then i (ob bb + 184) (b - P) + g else if a = (ob bb + 186) ∧ b = i (ob bb + 177) 7 then k else if a = (ob bb + 187) ∧ b = i (ob bb + 177) 7 then g else if a = (ob bb + 188) ∧ b = i (ob bb + 177) 7 then m else i a b)
    (hi : i' = mU ii (ob bb + 184) (P + x) (i (ob bb + 184) x + g)) : ∀ a b, i' a b = if a = (ob bb + 184) ∧ P ≤ b ∧ b < P + (x + 1) then i (ob bb + 184) (b - P) + g else if a = (ob bb + 186) ∧ b = i (ob bb + 177) 7 then k else if a = (ob bb + 187) ∧ b = i (ob bb + 177) 7 then g else if a = (ob bb + 188) ∧ b = i (ob bb + 177) 7 then m else i a b := by
  intro a b
  subst hi
  simp only [mU]
  by_cases h1 : a = (ob bb + 184) ∧ b = P + x
  · obtain ⟨rfl, rfl⟩ := h1
    rw [if_pos ⟨rfl, rfl⟩, if_pos ⟨rfl, by omega, by omega⟩, show P + x - P = x by omega]
  · rw [if_neg h1, hA]
    have e1 : (a = (ob bb + 184) ∧ P ≤ b ∧ b < P + x) ↔ (a = (ob bb + 184) ∧ P ≤ b ∧ b < P + (x + 1)) := by
      constructor
      · rintro ⟨q1, q2, q3⟩; exact ⟨q1, q2, by omega⟩
      · rintro ⟨q1, q2, q3⟩; exact ⟨q1, q2, by have := fun e => h1 ⟨q1, e⟩; omega⟩
    simp only [e1]
theorem pow10 {n : Nat} (h : n ≤ 10) : (1 : Int) ≤ 2 ^ n ∧ (2 : Int) ^ n ≤ 1024 := by
  have h1 : 2 ^ n ≤ 2 ^ 10 := Nat.pow_le_pow_right (by decide) h
  have h2 : 0 < 2 ^ n := Nat.two_pow_pos n
  have e : ((2 ^ n : Nat) : Int) = 2 ^ n := by simp
  omega
noncomputable def evP (pa pb : Nat) (r : List vO) (x : Int) : Int := evZ (fun t => rch pa pb r x t ∨ rch pa pb r x (sumS r x - t)) (sumS r x / 2)
theorem evZ_congr {f f' : Int → Prop} {m : Int} (h : ∀ t, 0 ≤ t → t ≤ m → (f t ↔ f' t)) : evZ f m = evZ f' m := by
  classical
  unfold evZ
  have key : ∀ k : Nat, k ≤ (m + 1).toNat → evN f k = evN f' k := by
    intro k
    induction k with
    | zero => intro _; rfl
    | succ k ih =>
      intro hk
      show (if f ((k : Nat) : Int) then ((k : Nat) : Int) else evN f k) = (if f' ((k : Nat) : Int) then ((k : Nat) : Int) else evN f' k)
      rw [ih (by omega), show f ((k : Nat) : Int) = f' ((k : Nat) : Int) from propext (h _ (by omega) (by omega))]
  exact key _ (Nat.le_refl _)
theorem evZ_bd (f : Int → Prop) {m : Int} : evZ f m = -1 ∨ (0 ≤ evZ f m ∧ evZ f m ≤ m) := by
  classical
  unfold evZ
  have key : ∀ k : Nat, k ≤ (m + 1).toNat → evN f k = -1 ∨ (0 ≤ evN f k ∧ evN f k ≤ m) := by
    intro k
    induction k with
    | zero => intro _; left; rfl
    | succ k ih =>
      intro hk
      have := ih (by omega)
      show (if f ((k : Nat) : Int) then ((k : Nat) : Int) else evN f k) = -1 ∨ (0 ≤ (if f ((k : Nat) : Int) then ((k : Nat) : Int) else evN f k) ∧ (if f ((k : Nat) : Int) then ((k : Nat) : Int) else evN f k) ≤ m)
      split <;> omega
  exact key _ (Nat.le_refl _)
theorem evP_bd {pa pb : Nat} {r : List vO} (h : ∀ v ∈ r, 1 ≤ v.2.1 ∧ v.2.1 ≤ 9) (x : Int) : evP pa pb r x = -1 ∨ (0 ≤ evP pa pb r x ∧ evP pa pb r x ≤ sumS r x / 2) := evZ_bd _
theorem PL_sum {i : Nat → Int → Int} {l : Nat → Int → BitVec 64} {r : List vO} (h : PL bb i l r) {x : Int} (hx : 0 ≤ x ∧ x < 2 ^ r.length) : i (ob bb + 184) x = sumS r x ∧ 0 ≤ sumS r x ∧ sumS r x ≤ 90 := by
  have h1 := h.2.2.2.2.1 x hx.1 hx.2
  have h2 := sumS_bd h.2.2.1 x
  have h3 := h.2.1
  exact ⟨h1, by omega, by omega⟩
theorem PL_evU {i : Nat → Int → Int} {l : Nat → Int → BitVec 64} {r : List vO} (h : PL bb i l r) {x : Int} (hx : 0 ≤ x ∧ x < 2 ^ r.length) : evZ (fun t => spB l (ob bb + 178) x t ∨ spB l (ob bb + 178) x (sumS r x - t)) (sumS r x / 2) = evP 0 1 r x := by
  have hs := PL_sum h hx
  refine evZ_congr (fun t h0 h1 => ?_)
  exact or_congr (h.2.2.2.2.2 x t hx.1 hx.2 h0 (by omega)).1 (h.2.2.2.2.2 x _ hx.1 hx.2 (by omega) (by omega)).1
theorem PL_evL {i : Nat → Int → Int} {l : Nat → Int → BitVec 64} {r : List vO} (h : PL bb i l r) {x : Int} (hx : 0 ≤ x ∧ x < 2 ^ r.length) : evZ (fun t => spB l (ob bb + 181) x t ∨ spB l (ob bb + 181) x (sumS r x - t)) (sumS r x / 2) = evP 2 3 r x := by
  have hs := PL_sum h hx
  refine evZ_congr (fun t h0 h1 => ?_)
  exact or_congr (h.2.2.2.2.2 x t hx.1 hx.2 h0 (by omega)).2 (h.2.2.2.2.2 x _ hx.1 hx.2 (by omega) (by omega)).2
/-- the better of what is known and of the sets x above, y below -/
noncomputable def wpS (r : List vO) (x y : Int) (g : Int × Int) : Int × Int :=
  if evP 0 1 r x < 0 ∨ evP 2 3 r y < 0 then g
  else if g.1 < min (evP 0 1 r x) (evP 2 3 r y) ∨ (min (evP 0 1 r x) (evP 2 3 r y) = g.1 ∧ max (sumS r x - evP 0 1 r x) (sumS r y - evP 2 3 r y) < g.2) then (min (evP 0 1 r x) (evP 2 3 r y), max (sumS r x - evP 0 1 r x) (sumS r y - evP 2 3 r y)) else g
set_option maxRecDepth 20000 in
set_option maxHeartbeats 2000000 in
theorem c_containsI {i : Nat → Int → Int} {l : Nat → Int → BitVec 64} {b : BitVec 64} {x : Int} (hx : 0 ≤ x ∧ x < 64) : mCtr m_X8_contains 1 0 0 [vL (b), vI (x)] (st nn i l) (qI (if b.getLsbD x.toNat = true then 1 else 0) (st nn i l)) := by
  refine mCtr_of pl_X8 dc_X8_contains (Nat.le_of_ble_eq_true rfl) rfl ?_
  show mX m_X8_contains 1 _ 0 0 0 [some (vL (b)), none, some (vI (x))] [] (st nn i l)
  refine x_lload_n 0 rfl rfl ?_
  refine x_iload_n 1 rfl rfl ?_
  refine x_lushr 2 (r := b >>> (x : Int).toNat) rfl (by omega) rfl ?_
  refine x_lconst 3 (v := 1#64) rfl rfl ?_
  refine x_land 4 (r := (b >>> (x : Int).toNat) &&& (1#64)) rfl rfl ?_
  refine x_lconst 5 (v := 0#64) rfl rfl ?_
  refine x_lcmp 6 rfl (fun z1 hz1 gz1 fz1 => ?_)
  refine x_if_eq 7 (tgt := 14) rfl (by decide) (by omega) (fun h2 => ?_) (fun h2 => ?_)
  · refine x_iconst 10 rfl ?_
    refine x_ret 11 (some (vI (0))) rfl ⟨rfl, Or.inr ⟨rfl, by omega⟩⟩ ⟨congrArg (fun z => some (vI z)) ?_, rfl⟩
    have e2 : z1 = 0 ↔ b.getLsbD x.toNat = false := Iff.trans hz1 (mBit b x.toNat)
    cases hb : b.getLsbD x.toNat <;> simp_all
  · refine x_iconst 8 rfl ?_
    refine x_goto 9 (tgt := 15) rfl (by decide) ?_
    refine x_ret 11 (some (vI (1))) rfl ⟨rfl, Or.inr ⟨rfl, by omega⟩⟩ ⟨congrArg (fun z => some (vI z)) ?_, rfl⟩
    have e2 : z1 = 0 ↔ b.getLsbD x.toNat = false := Iff.trans hz1 (mBit b x.toNat)
    cases hb : b.getLsbD x.toNat <;> simp_all
set_option maxRecDepth 20000 in
set_option maxHeartbeats 2000000 in
theorem c_pl_addVoice {i : Nat → Int → Int} {l : Nat → Int → BitVec 64} {k g m : Int} (hV : 0 ≤ i (ob bb + 177) 7 ∧ i (ob bb + 177) 7 ≤ 9) (hg : 1 ≤ g ∧ g ≤ 9) (hm : 0 ≤ m ∧ m ≤ 15) (hsm : ∀ s, 0 ≤ s → s < 2 ^ (i (ob bb + 177) 7).toNat → 0 ≤ i (ob bb + 184) s ∧ i (ob bb + 184) s ≤ 100) : mCtr m_X2_addVoice 2 0 0 [vR (some (ob bb + 177)), vI (k), vI (g), vI (m)] (st nn i l) (qV nn (fun i' l' => adI bb i i' k g m ∧ adL bb l l' (i (ob bb + 177) 7) g m)) := by
  refine mCtr_of pl_X2 dc_X2_addVoice (Nat.le_of_ble_eq_true rfl) rfl ?_
  show mX m_X2_addVoice 2 _ 0 0 0 [some (vR (some (ob bb + 177))), some (vI (k)), some (vI (g)), some (vI (m)), none, none] [] (st nn i l)
  have hp := pow9 hV
  refine x_aload_n 0 rfl rfl ?_
  refine x_getR 1 (z := (ob bb + 186)) rfl fl_X2_28 (b_lt rfl) k_177 rfl r_177_4 ?_
  refine x_aload_n 2 rfl rfl ?_
  refine x_getI 3 (z := i (ob bb + 177) 7) rfl fl_X2_37 (b_lt rfl) k_177 rfl rfl ?_
  refine x_eqS (S' := [vI (i (ob bb + 177) 7), vR (some (ob bb + 186))]) (by rw [show i (ob bb + 177) 7 = i (ob bb + 177) 7 by subst_vars; simp [mU]]) ?_
  refine x_iload_n 4 rfl rfl ?_
  obtain ⟨i1, hi1⟩ : ∃ f, f = mU i (ob bb + 186) (i (ob bb + 177) 7) (k) := ⟨_, rfl⟩
  refine x_iast 5 rfl (b_lt rfl) k_186 (by omega) (g' := st nn i1 l) (by subst hi1; rfl) ?_
  refine x_aload_n 6 rfl rfl ?_
  refine x_getR 7 (z := (ob bb + 187)) rfl fl_X2_31 (b_lt rfl) k_177 rfl r_177_5 ?_
  refine x_aload_n 8 rfl rfl ?_
  refine x_getI 9 (z := i1 (ob bb + 177) 7) rfl fl_X2_37 (b_lt rfl) k_177 rfl rfl ?_
  refine x_eqS (S' := [vI (i (ob bb + 177) 7), vR (some (ob bb + 187))]) (by rw [show i1 (ob bb + 177) 7 = i (ob bb + 177) 7 by subst_vars; simp [mU]]) ?_
  refine x_iload_n 10 rfl rfl ?_
  obtain ⟨i2, hi2⟩ : ∃ f, f = mU i1 (ob bb + 187) (i (ob bb + 177) 7) (g) := ⟨_, rfl⟩
  refine x_iast 11 rfl (b_lt rfl) k_187 (by omega) (g' := st nn i2 l) (by subst hi2; rfl) ?_
  refine x_aload_n 12 rfl rfl ?_
  refine x_getR 13 (z := (ob bb + 188)) rfl fl_X2_34 (b_lt rfl) k_177 rfl r_177_6 ?_
  refine x_aload_n 14 rfl rfl ?_
  refine x_getI 15 (z := i2 (ob bb + 177) 7) rfl fl_X2_37 (b_lt rfl) k_177 rfl rfl ?_
  refine x_eqS (S' := [vI (i (ob bb + 177) 7), vR (some (ob bb + 188))]) (by rw [show i2 (ob bb + 177) 7 = i (ob bb + 177) 7 by subst_vars; simp [mU]]) ?_
  refine x_iload_n 16 rfl rfl ?_
  obtain ⟨i3, hi3⟩ : ∃ f, f = mU i2 (ob bb + 188) (i (ob bb + 177) 7) (m) := ⟨_, rfl⟩
  refine x_iast 17 rfl (b_lt rfl) k_188 (by omega) (g' := st nn i3 l) (by subst hi3; rfl) ?_
  refine x_iconst 18 rfl ?_
  refine x_aload_n 19 rfl rfl ?_
  refine x_getI 20 (z := i3 (ob bb + 177) 7) rfl fl_X2_37 (b_lt rfl) k_177 rfl rfl ?_
  refine x_eqS (S' := [vI (i (ob bb + 177) 7), vI (1)]) (by rw [show i3 (ob bb + 177) 7 = i (ob bb + 177) 7 by subst_vars; simp [mU]]) ?_
  refine x_ishl 21 (r := 1 * 2 ^ (i (ob bb + 177) 7).toNat) rfl (by omega) rfl ?_
  refine x_istore 22 (L' := [some (vR (some (ob bb + 177))), some (vI (k)), some (vI (g)), some (vI (m)), some (vI (1 * 2 ^ (i (ob bb + 177) 7).toNat)), none]) rfl (by decide) rfl rfl ?_
  refine x_iconst 23 rfl ?_
  refine x_istore 24 (L' := [some (vR (some (ob bb + 177))), some (vI (k)), some (vI (g)), some (vI (m)), some (vI (1 * 2 ^ (i (ob bb + 177) 7).toNat)), some (vI (0))]) rfl (by decide) rfl rfl ?_
  have loopL4 : ∀ (nz : Nat) (ii : Nat → Int → Int) (x : Int), (0 ≤ x ∧ x ≤ 2 ^ (i (ob bb + 177) 7).toNat) → (∀ a b, ii a b = if a = (ob bb + 184) ∧ 2 ^ (i (ob bb + 177) 7).toNat ≤ b ∧ b < 2 ^ (i (ob bb + 177) 7).toNat + x then i (ob bb + 184) (b - 2 ^ (i (ob bb + 177) 7).toNat) + g else if a = (ob bb + 186) ∧ b = i (ob bb + 177) 7 then k else if a = (ob bb + 187) ∧ b = i (ob bb + 177) 7 then g else if a = (ob bb + 188) ∧ b = i (ob bb + 177) 7 then m else i a b) → (2 ^ (i (ob bb + 177) 7).toNat - x) < (nz : Int) → mX m_X2_addVoice 2 (qV nn (fun i' l' => adI bb i i' k g m ∧ adL bb l l' (i (ob bb + 177) 7) g m)) 0 0 41 [some (vR (some (ob bb + 177))), some (vI (k)), some (vI (g)), some (vI (m)), some (vI (1 * 2 ^ (i (ob bb + 177) 7).toNat)), some (vI (x))] [] (st nn ii l) := by
    intro nz
    induction nz with
    | zero => intro ii x hx hA hz; exact absurd hz (by omega)
    | succ nz ihL4 =>
      intro ii x hx hA hzL4
      refine x_iload 25 rfl rfl ?_
      refine x_iload 26 rfl rfl ?_
      refine x_icmp_ge 27 (tgt := 73) rfl (by decide) (by omega) (fun h5 => ?_) (fun h5 => ?_)
      · have hxe : x = 2 ^ (i (ob bb + 177) 7).toNat := by omega
        refine x_aload_n 42 rfl rfl ?_
        refine x_getR 43 (z := (ob bb + 178)) rfl fl_X2_12 (b_lt rfl) k_177 rfl r_177_0 ?_
        refine x_aload_n 44 rfl rfl ?_
        refine x_getI 45 (z := ii (ob bb + 177) 7) rfl fl_X2_37 (b_lt rfl) k_177 rfl rfl ?_
        refine x_eqS (S' := [vI (i (ob bb + 177) 7), vR (some (ob bb + 178))]) (by rw [show ii (ob bb + 177) 7 = i (ob bb + 177) 7 by rw [hA, if_neg (by omega), if_neg (by omega), if_neg (by omega), if_neg (by omega)]]) ?_
        refine x_iload_n 46 rfl rfl ?_
        refine x_iload_n 47 rfl rfl ?_
        refine x_i2l 48 (r := BitVec.ofInt 64 m) rfl (by omega) rfl ?_
        refine x_iconst 49 rfl ?_
        refine x_callSN 50 m_X8_contains (c_containsI (by omega)) rfl ok_X8_contains (by decide +kernel) st_X8_contains rfl (by decide) rfl (Nat.le_of_ble_eq_true rfl) rfl rfl (fun v g q6 => ?_)
        obtain ⟨rfl, rfl⟩ := q6
        show mX m_X2_addVoice 2 _ 0 0 _ _ [vI (vZ m 0), vI (g), vI (i (ob bb + 177) 7), vR (some (ob bb + 178))] _
        have h03 := vZ_01 m 0
        refine x_iload_n 51 rfl rfl ?_
        refine x_i2l 52 (r := BitVec.ofInt 64 m) rfl (by omega) rfl ?_
        refine x_iconst 53 rfl ?_
        refine x_callSN 54 m_X8_contains (c_containsI (by omega)) rfl ok_X8_contains (by decide +kernel) st_X8_contains rfl (by decide) rfl (Nat.le_of_ble_eq_true rfl) rfl rfl (fun v g q7 => ?_)
        obtain ⟨rfl, rfl⟩ := q7
        show mX m_X2_addVoice 2 _ 0 0 _ _ [vI (vZ m 1), vI (vZ m 0), vI (g), vI (i (ob bb + 177) 7), vR (some (ob bb + 178))] _
        have h04 := vZ_01 m 1
        refine x_callV 55 m_X6_addVoice (c_sp_addVoice isP_178 (by omega) (by omega) (by omega) (by omega)) rfl ok_X6_addVoice (isP_0 isP_178) (kP isP_178) rfl rfl ml_X2_76 im_X6_addVoice se_X6_addVoice rfl (by decide) rfl (Nat.le_of_ble_eq_true rfl) rfl rfl (fun v g q8 => ?_)
        obtain ⟨rfl, i9, li9, rfl, hi9⟩ := q8
        obtain ⟨hEi9, hi9⟩ := hi9
        have hEi9 := hEi9.symm
        subst hEi9
        show mX m_X2_addVoice 2 _ 0 0 _ _ [] _
        have hv1 := hi9
        have h01 := vZ_01 m 2
        have h02 := vZ_01 m 3
        refine x_aload_n 56 rfl rfl ?_
        refine x_getR 57 (z := (ob bb + 181)) rfl fl_X2_18 (b_lt rfl) k_177 rfl r_177_1 ?_
        refine x_aload_n 58 rfl rfl ?_
        refine x_getI 59 (z := ii (ob bb + 177) 7) rfl fl_X2_37 (b_lt rfl) k_177 rfl rfl ?_
        refine x_eqS (S' := [vI (i (ob bb + 177) 7), vR (some (ob bb + 181))]) (by rw [show ii (ob bb + 177) 7 = i (ob bb + 177) 7 by rw [hA, if_neg (by omega), if_neg (by omega), if_neg (by omega), if_neg (by omega)]]) ?_
        refine x_iload_n 60 rfl rfl ?_
        refine x_iload_n 61 rfl rfl ?_
        refine x_i2l 62 (r := BitVec.ofInt 64 m) rfl (by omega) rfl ?_
        refine x_iconst 63 rfl ?_
        refine x_callSN 64 m_X8_contains (c_containsI (by omega)) rfl ok_X8_contains (by decide +kernel) st_X8_contains rfl (by decide) rfl (Nat.le_of_ble_eq_true rfl) rfl rfl (fun v g q10 => ?_)
        obtain ⟨rfl, rfl⟩ := q10
        show mX m_X2_addVoice 2 _ 0 0 _ _ [vI (vZ m 2), vI (g), vI (i (ob bb + 177) 7), vR (some (ob bb + 181))] _
        refine x_iload_n 65 rfl rfl ?_
        refine x_i2l 66 (r := BitVec.ofInt 64 m) rfl (by omega) rfl ?_
        refine x_iconst 67 rfl ?_
        refine x_callSN 68 m_X8_contains (c_containsI (by omega)) rfl ok_X8_contains (by decide +kernel) st_X8_contains rfl (by decide) rfl (Nat.le_of_ble_eq_true rfl) rfl rfl (fun v g q11 => ?_)
        obtain ⟨rfl, rfl⟩ := q11
        show mX m_X2_addVoice 2 _ 0 0 _ _ [vI (vZ m 3), vI (vZ m 2), vI (g), vI (i (ob bb + 177) 7), vR (some (ob bb + 181))] _
        refine x_callV 69 m_X6_addVoice (c_sp_addVoice isP_181 (by omega) (by omega) (by omega) (by omega)) rfl ok_X6_addVoice (isP_0 isP_181) (kP isP_181) rfl rfl ml_X2_76 im_X6_addVoice se_X6_addVoice rfl (by decide) rfl (Nat.le_of_ble_eq_true rfl) rfl rfl (fun v g q12 => ?_)
        obtain ⟨rfl, i13, li13, rfl, hi13⟩ := q12
        obtain ⟨hEi13, hi13⟩ := hi13
        have hEi13 := hEi13.symm
        subst hEi13
        show mX m_X2_addVoice 2 _ 0 0 _ _ [] _
        have hv2 := hi13
        refine x_aload_n 70 rfl rfl ?_
        refine x_dup 71 rfl rfl ?_
        refine x_getI 72 (z := ii (ob bb + 177) 7) rfl fl_X2_37 (b_lt rfl) k_177 rfl rfl ?_
        refine x_eqS (S' := [vI (i (ob bb + 177) 7), vR (some (ob bb + 177))]) (by rw [show ii (ob bb + 177) 7 = i (ob bb + 177) 7 by rw [hA, if_neg (by omega), if_neg (by omega), if_neg (by omega), if_neg (by omega)]]) ?_
        refine x_iconst 73 rfl ?_
        refine x_iadd 74 (r := (i (ob bb + 177) 7) + 1) rfl rfl ?_
        obtain ⟨i14, hi14⟩ : ∃ f, f = mU ii (ob bb + 177) 7 ((i (ob bb + 177) 7) + 1) := ⟨_, rfl⟩
        refine x_putI 75 rfl fl_X2_37 (b_lt rfl) k_177 rfl rfl (g' := st nn i14 li13) (by subst hi14; rfl) ?_
        refine x_ret 76 none rfl ⟨rfl, rfl⟩ ⟨rfl, i14, li13, rfl, ?_⟩
        subst hxe
        refine ⟨?_, _, hv1, hv2⟩
        intro a b
        subst_vars
        simp only [mU, hA]
      · have hor2 := two_or hV.1 hx.1 (show x < 2 ^ (i (ob bb + 177) 7).toNat by omega)
        have hor3 := hor2
        rw [Int.one_mul] at hor3
        have e84 : ii (ob bb + 184) x = i (ob bb + 184) x := by rw [hA, if_neg (by omega), if_neg (by omega), if_neg (by omega), if_neg (by omega)]
        refine x_aload_n 28 rfl rfl ?_
        refine x_getR 29 (z := (ob bb + 184)) rfl fl_X2_21 (b_lt rfl) k_177 rfl r_177_2 ?_
        refine x_iload 30 rfl rfl ?_
        refine x_iload 31 rfl rfl ?_
        refine x_ior 32 (r := (1 * 2 ^ (i (ob bb + 177) 7).toNat : Int).toNat ||| (x : Int).toNat) rfl (by omega) rfl ?_
        refine x_aload_n 33 rfl rfl ?_
        refine x_getR 34 (z := (ob bb + 184)) rfl fl_X2_21 (b_lt rfl) k_177 rfl r_177_2 ?_
        refine x_iload 35 rfl rfl ?_
        refine x_iald 36 (z := ii (ob bb + 184) x) rfl (b_lt rfl) k_184 (by omega) rfl ?_
        refine x_iload_n 37 rfl rfl ?_
        refine x_iadd 38 (r := (ii (ob bb + 184) x) + g) rfl rfl ?_
        obtain ⟨i15, hi15⟩ : ∃ f, f = mU ii (ob bb + 184) ((((1 * 2 ^ (i (ob bb + 177) 7).toNat : Int).toNat ||| (x : Int).toNat : Nat) : Int)) ((ii (ob bb + 184) x) + g) := ⟨_, rfl⟩
        refine x_iast 39 rfl (b_lt rfl) k_184 (by omega) (g' := st nn i15 l) (by subst hi15; rfl) ?_
        refine x_iinc 40 (L' := [some (vR (some (ob bb + 177))), some (vI (k)), some (vI (g)), some (vI (m)), some (vI (1 * 2 ^ (i (ob bb + 177) 7).toNat)), some (vI (x + 1))]) rfl (by decide) rfl rfl rfl rfl ?_
        refine x_goto 41 (tgt := 41) rfl (by decide) ?_
        exact ihL4 i15 (x + 1) (by omega) (ad_step hx.1 hA (by subst_vars; rw [hor2, e84])) (by omega)
  exact loopL4 ((2 ^ (i (ob bb + 177) 7).toNat - ((0))) + 1 : Int).toNat i3 (0) (by omega) (by intro a b; subst_vars; simp only [mU]; grind) (by omega)
set_option maxRecDepth 20000 in
set_option maxHeartbeats 2000000 in
theorem c_weighPairs {i : Nat → Int → Int} {l : Nat → Int → BitVec 64} {r : List vO} (hP : PL bb i l r) {x y : Int} (hx : 0 ≤ x ∧ x < 2 ^ r.length) (hy : 0 ≤ y ∧ y < 2 ^ r.length) (hL : -1 ≤ i (ob bb + 177) 8 ∧ i (ob bb + 177) 8 ≤ 100 ∧ 0 ≤ i (ob bb + 177) 9 ∧ i (ob bb + 177) 9 ≤ 100) : mCtr m_X2_weighPairs 4 0 0 [vR (some (ob bb + 177)), vI (x), vI (y)] (st nn i l) (qV nn (fun i' l' => l' = l ∧ ∀ a b, i' a b = if a = (ob bb + 177) ∧ b = 8 then (wpS r x y (i (ob bb + 177) 8, i (ob bb + 177) 9)).1 else if a = (ob bb + 177) ∧ b = 9 then (wpS r x y (i (ob bb + 177) 8, i (ob bb + 177) 9)).2 else i a b)) := by
  refine mCtr_of pl_X2 dc_X2_weighPairs (Nat.le_of_ble_eq_true rfl) rfl ?_
  show mX m_X2_weighPairs 4 _ 0 0 0 [some (vR (some (ob bb + 177))), some (vI (x)), some (vI (y)), none, none, none, none] [] (st nn i l)
  have hpw := pow10 hP.2.1
  have hsx := PL_sum hP hx
  have hsy := PL_sum hP hy
  have ex := PL_evU hP hx
  have ey := PL_evL hP hy
  have bx := evP_bd (pa := 0) (pb := 1) hP.2.2.1 x
  have by_ := evP_bd (pa := 2) (pb := 3) hP.2.2.1 y
  refine x_aload_n 0 rfl rfl ?_
  refine x_getR 1 (z := (ob bb + 178)) rfl fl_X2_12 (b_lt rfl) k_177 rfl r_177_0 ?_
  refine x_iload_n 2 rfl rfl ?_
  refine x_aload_n 3 rfl rfl ?_
  refine x_getR 4 (z := (ob bb + 184)) rfl fl_X2_21 (b_lt rfl) k_177 rfl r_177_2 ?_
  refine x_iload_n 5 rfl rfl ?_
  refine x_iald 6 (z := i (ob bb + 184) x) rfl (b_lt rfl) k_184 (by omega) rfl ?_
  refine x_eqS (S' := [vI (sumS r x), vI (x), vR (some (ob bb + 178))]) (by rw [← hsx.1]) ?_
  refine x_callV 7 m_X6_evenest (c_evenest isP_178 (by omega) (by omega)) rfl ok_X6_evenest (isP_0 isP_178) (kP isP_178) rfl rfl ml_X2_79 im_X6_evenest se_X6_evenest rfl (by decide) rfl (Nat.le_of_ble_eq_true rfl) rfl rfl (fun v g q1 => ?_)
  obtain ⟨rfl, rfl⟩ := q1
  show mX m_X2_weighPairs 4 _ 0 0 _ _ [vI (evZ (fun t => spB l (ob bb + 178) x t ∨ spB l (ob bb + 178) x ((sumS r x) - t)) ((sumS r x) / 2))] _
  refine x_istore_n 8 (L' := [some (vR (some (ob bb + 177))), some (vI (x)), some (vI (y)), some (vI (evZ (fun t => spB l (ob bb + 178) x t ∨ spB l (ob bb + 178) x ((sumS r x) - t)) ((sumS r x) / 2))), none, none, none]) rfl (by decide) rfl rfl ?_
  refine x_aload_n 9 rfl rfl ?_
  refine x_getR 10 (z := (ob bb + 181)) rfl fl_X2_18 (b_lt rfl) k_177 rfl r_177_1 ?_
  refine x_iload_n 11 rfl rfl ?_
  refine x_aload_n 12 rfl rfl ?_
  refine x_getR 13 (z := (ob bb + 184)) rfl fl_X2_21 (b_lt rfl) k_177 rfl r_177_2 ?_
  refine x_iload_n 14 rfl rfl ?_
  refine x_iald 15 (z := i (ob bb + 184) y) rfl (b_lt rfl) k_184 (by omega) rfl ?_
  refine x_eqS (S' := [vI (sumS r y), vI (y), vR (some (ob bb + 181))]) (by rw [← hsy.1]) ?_
  refine x_callV 16 m_X6_evenest (c_evenest isP_181 (by omega) (by omega)) rfl ok_X6_evenest (isP_0 isP_181) (kP isP_181) rfl rfl ml_X2_79 im_X6_evenest se_X6_evenest rfl (by decide) rfl (Nat.le_of_ble_eq_true rfl) rfl rfl (fun v g q2 => ?_)
  obtain ⟨rfl, rfl⟩ := q2
  show mX m_X2_weighPairs 4 _ 0 0 _ _ [vI (evZ (fun t => spB l (ob bb + 181) y t ∨ spB l (ob bb + 181) y ((sumS r y) - t)) ((sumS r y) / 2))] _
  refine x_istore 17 (L' := [some (vR (some (ob bb + 177))), some (vI (x)), some (vI (y)), some (vI (evZ (fun t => spB l (ob bb + 178) x t ∨ spB l (ob bb + 178) x ((sumS r x) - t)) ((sumS r x) / 2))), some (vI (evZ (fun t => spB l (ob bb + 181) y t ∨ spB l (ob bb + 181) y ((sumS r y) - t)) ((sumS r y) / 2))), none, none]) rfl (by decide) rfl rfl ?_
  refine x_iload_n 18 rfl rfl ?_
  refine x_if_lt 19 (tgt := 40) rfl (by decide) (by omega) (fun h3 => ?_) (fun h3 => ?_)
  · refine x_ret 22 none rfl ⟨rfl, rfl⟩ ⟨rfl, i, l, rfl, ?_⟩
    refine ⟨rfl, fun a b => ?_⟩
    rw [show wpS r x y (i (ob bb + 177) 8, i (ob bb + 177) 9) = (i (ob bb + 177) 8, i (ob bb + 177) 9) by unfold wpS; rw [if_pos (by omega)]]
    grind
  · refine x_iload 20 rfl rfl ?_
    refine x_if_ge 21 (tgt := 41) rfl (by decide) (by omega) (fun h4 => ?_) (fun h4 => ?_)
    · refine x_iload_n 23 rfl rfl ?_
      refine x_iload 24 rfl rfl ?_
      refine x_mmin 25 (r := min (evZ (fun t => spB l (ob bb + 178) x t ∨ spB l (ob bb + 178) x ((sumS r x) - t)) ((sumS r x) / 2)) (evZ (fun t => spB l (ob bb + 181) y t ∨ spB l (ob bb + 181) y ((sumS r y) - t)) ((sumS r y) / 2))) rfl ml_X2_83 (by omega) rfl (by decide) (Nat.le_of_ble_eq_true rfl) ?_
      refine x_istore 26 (L' := [some (vR (some (ob bb + 177))), some (vI (x)), some (vI (y)), some (vI (evZ (fun t => spB l (ob bb + 178) x t ∨ spB l (ob bb + 178) x ((sumS r x) - t)) ((sumS r x) / 2))), some (vI (evZ (fun t => spB l (ob bb + 181) y t ∨ spB l (ob bb + 181) y ((sumS r y) - t)) ((sumS r y) / 2))), some (vI (min (evZ (fun t => spB l (ob bb + 178) x t ∨ spB l (ob bb + 178) x ((sumS r x) - t)) ((sumS r x) / 2)) (evZ (fun t => spB l (ob bb + 181) y t ∨ spB l (ob bb + 181) y ((sumS r y) - t)) ((sumS r y) / 2)))), none]) rfl (by decide) rfl rfl ?_
      refine x_aload_n 27 rfl rfl ?_
      refine x_getR 28 (z := (ob bb + 184)) rfl fl_X2_21 (b_lt rfl) k_177 rfl r_177_2 ?_
      refine x_iload_n 29 rfl rfl ?_
      refine x_iald 30 (z := i (ob bb + 184) x) rfl (b_lt rfl) k_184 (by omega) rfl ?_
      refine x_eqS (S' := [vI (sumS r x)]) (by rw [← hsx.1]) ?_
      refine x_iload_n 31 rfl rfl ?_
      refine x_isub 32 (r := (sumS r x) - (evZ (fun t => spB l (ob bb + 178) x t ∨ spB l (ob bb + 178) x ((sumS r x) - t)) ((sumS r x) / 2))) rfl rfl ?_
      refine x_aload_n 33 rfl rfl ?_
      refine x_getR 34 (z := (ob bb + 184)) rfl fl_X2_21 (b_lt rfl) k_177 rfl r_177_2 ?_
      refine x_iload_n 35 rfl rfl ?_
      refine x_iald 36 (z := i (ob bb + 184) y) rfl (b_lt rfl) k_184 (by omega) rfl ?_
      refine x_eqS (S' := [vI (sumS r y), vI ((sumS r x) - (evZ (fun t => spB l (ob bb + 178) x t ∨ spB l (ob bb + 178) x ((sumS r x) - t)) ((sumS r x) / 2)))]) (by rw [← hsy.1]) ?_
      refine x_iload 37 rfl rfl ?_
      refine x_isub 38 (r := (sumS r y) - (evZ (fun t => spB l (ob bb + 181) y t ∨ spB l (ob bb + 181) y ((sumS r y) - t)) ((sumS r y) / 2))) rfl rfl ?_
      refine x_mmax 39 (r := max ((sumS r x) - (evZ (fun t => spB l (ob bb + 178) x t ∨ spB l (ob bb + 178) x ((sumS r x) - t)) ((sumS r x) / 2))) ((sumS r y) - (evZ (fun t => spB l (ob bb + 181) y t ∨ spB l (ob bb + 181) y ((sumS r y) - t)) ((sumS r y) / 2)))) rfl ml_X2_88 (by omega) rfl (by decide) (Nat.le_of_ble_eq_true rfl) ?_
      refine x_istore 40 (L' := [some (vR (some (ob bb + 177))), some (vI (x)), some (vI (y)), some (vI (evZ (fun t => spB l (ob bb + 178) x t ∨ spB l (ob bb + 178) x ((sumS r x) - t)) ((sumS r x) / 2))), some (vI (evZ (fun t => spB l (ob bb + 181) y t ∨ spB l (ob bb + 181) y ((sumS r y) - t)) ((sumS r y) / 2))), some (vI (min (evZ (fun t => spB l (ob bb + 178) x t ∨ spB l (ob bb + 178) x ((sumS r x) - t)) ((sumS r x) / 2)) (evZ (fun t => spB l (ob bb + 181) y t ∨ spB l (ob bb + 181) y ((sumS r y) - t)) ((sumS r y) / 2)))), some (vI (max ((sumS r x) - (evZ (fun t => spB l (ob bb + 178) x t ∨ spB l (ob bb + 178) x ((sumS r x) - t)) ((sumS r x) / 2))) ((sumS r y) - (evZ (fun t => spB l (ob bb + 181) y t ∨ spB l (ob bb + 181) y ((sumS r y) - t)) ((sumS r y) / 2)))))]) rfl (by decide) rfl rfl ?_
      refine x_iload 41 rfl rfl ?_
      refine x_aload_n 42 rfl rfl ?_
      refine x_getI 43 (z := i (ob bb + 177) 8) rfl fl_X2_62 (b_lt rfl) k_177 rfl rfl ?_
      refine x_icmp_gt 44 (tgt := 98) rfl (by decide) (by omega) (fun h5 => ?_) (fun h5 => ?_)
      · refine x_aload_n 53 rfl rfl ?_
        refine x_iload 54 rfl rfl ?_
        obtain ⟨i6, hi6⟩ : ∃ f, f = mU i (ob bb + 177) 8 (min (evZ (fun t => spB l (ob bb + 178) x t ∨ spB l (ob bb + 178) x ((sumS r x) - t)) ((sumS r x) / 2)) (evZ (fun t => spB l (ob bb + 181) y t ∨ spB l (ob bb + 181) y ((sumS r y) - t)) ((sumS r y) / 2))) := ⟨_, rfl⟩
        refine x_putI 55 rfl fl_X2_62 (b_lt rfl) k_177 rfl rfl (g' := st nn i6 l) (by subst hi6; rfl) ?_
        refine x_aload_n 56 rfl rfl ?_
        refine x_iload 57 rfl rfl ?_
        obtain ⟨i7, hi7⟩ : ∃ f, f = mU i6 (ob bb + 177) 9 (max ((sumS r x) - (evZ (fun t => spB l (ob bb + 178) x t ∨ spB l (ob bb + 178) x ((sumS r x) - t)) ((sumS r x) / 2))) ((sumS r y) - (evZ (fun t => spB l (ob bb + 181) y t ∨ spB l (ob bb + 181) y ((sumS r y) - t)) ((sumS r y) / 2)))) := ⟨_, rfl⟩
        refine x_putI 58 rfl fl_X2_65 (b_lt rfl) k_177 rfl rfl (g' := st nn i7 l) (by subst hi7; rfl) ?_
        refine x_ret 59 none rfl ⟨rfl, rfl⟩ ⟨rfl, i7, l, rfl, ?_⟩
        refine ⟨rfl, fun a b => ?_⟩
        subst_vars
        try simp only [mU]
        first
          | (rw [show wpS r x y (i (ob bb + 177) 8, i (ob bb + 177) 9) = (i (ob bb + 177) 8, i (ob bb + 177) 9) by unfold wpS; rw [if_neg (by omega), if_neg (by simp only; omega)]]; grind)
          | (rw [show wpS r x y (i (ob bb + 177) 8, i (ob bb + 177) 9) = (min (evP 0 1 r x) (evP 2 3 r y), max (sumS r x - evP 0 1 r x) (sumS r y - evP 2 3 r y)) by unfold wpS; rw [if_neg (by omega), if_pos (by simp only; omega)]]; grind)
      · refine x_iload 45 rfl rfl ?_
        refine x_aload_n 46 rfl rfl ?_
        refine x_getI 47 (z := i (ob bb + 177) 8) rfl fl_X2_62 (b_lt rfl) k_177 rfl rfl ?_
        refine x_icmp_ne 48 (tgt := 110) rfl (by decide) (by omega) (fun h8 => ?_) (fun h8 => ?_)
        · refine x_ret 59 none rfl ⟨rfl, rfl⟩ ⟨rfl, i, l, rfl, ?_⟩
          refine ⟨rfl, fun a b => ?_⟩
          subst_vars
          try simp only [mU]
          first
            | (rw [show wpS r x y (i (ob bb + 177) 8, i (ob bb + 177) 9) = (i (ob bb + 177) 8, i (ob bb + 177) 9) by unfold wpS; rw [if_neg (by omega), if_neg (by simp only; omega)]]; grind)
            | (rw [show wpS r x y (i (ob bb + 177) 8, i (ob bb + 177) 9) = (min (evP 0 1 r x) (evP 2 3 r y), max (sumS r x - evP 0 1 r x) (sumS r y - evP 2 3 r y)) by unfold wpS; rw [if_neg (by omega), if_pos (by simp only; omega)]]; grind)
        · refine x_iload 49 rfl rfl ?_
          refine x_aload_n 50 rfl rfl ?_
          refine x_getI 51 (z := i (ob bb + 177) 9) rfl fl_X2_65 (b_lt rfl) k_177 rfl rfl ?_
          refine x_icmp_ge 52 (tgt := 110) rfl (by decide) (by omega) (fun h9 => ?_) (fun h9 => ?_)
          · refine x_ret 59 none rfl ⟨rfl, rfl⟩ ⟨rfl, i, l, rfl, ?_⟩
            refine ⟨rfl, fun a b => ?_⟩
            subst_vars
            try simp only [mU]
            first
              | (rw [show wpS r x y (i (ob bb + 177) 8, i (ob bb + 177) 9) = (i (ob bb + 177) 8, i (ob bb + 177) 9) by unfold wpS; rw [if_neg (by omega), if_neg (by simp only; omega)]]; grind)
              | (rw [show wpS r x y (i (ob bb + 177) 8, i (ob bb + 177) 9) = (min (evP 0 1 r x) (evP 2 3 r y), max (sumS r x - evP 0 1 r x) (sumS r y - evP 2 3 r y)) by unfold wpS; rw [if_neg (by omega), if_pos (by simp only; omega)]]; grind)
          · refine x_aload_n 53 rfl rfl ?_
            refine x_iload 54 rfl rfl ?_
            obtain ⟨i10, hi10⟩ : ∃ f, f = mU i (ob bb + 177) 8 (min (evZ (fun t => spB l (ob bb + 178) x t ∨ spB l (ob bb + 178) x ((sumS r x) - t)) ((sumS r x) / 2)) (evZ (fun t => spB l (ob bb + 181) y t ∨ spB l (ob bb + 181) y ((sumS r y) - t)) ((sumS r y) / 2))) := ⟨_, rfl⟩
            refine x_putI 55 rfl fl_X2_62 (b_lt rfl) k_177 rfl rfl (g' := st nn i10 l) (by subst hi10; rfl) ?_
            refine x_aload_n 56 rfl rfl ?_
            refine x_iload 57 rfl rfl ?_
            obtain ⟨i11, hi11⟩ : ∃ f, f = mU i10 (ob bb + 177) 9 (max ((sumS r x) - (evZ (fun t => spB l (ob bb + 178) x t ∨ spB l (ob bb + 178) x ((sumS r x) - t)) ((sumS r x) / 2))) ((sumS r y) - (evZ (fun t => spB l (ob bb + 181) y t ∨ spB l (ob bb + 181) y ((sumS r y) - t)) ((sumS r y) / 2)))) := ⟨_, rfl⟩
            refine x_putI 58 rfl fl_X2_65 (b_lt rfl) k_177 rfl rfl (g' := st nn i11 l) (by subst hi11; rfl) ?_
            refine x_ret 59 none rfl ⟨rfl, rfl⟩ ⟨rfl, i11, l, rfl, ?_⟩
            refine ⟨rfl, fun a b => ?_⟩
            subst_vars
            try simp only [mU]
            first
              | (rw [show wpS r x y (i (ob bb + 177) 8, i (ob bb + 177) 9) = (i (ob bb + 177) 8, i (ob bb + 177) 9) by unfold wpS; rw [if_neg (by omega), if_neg (by simp only; omega)]]; grind)
              | (rw [show wpS r x y (i (ob bb + 177) 8, i (ob bb + 177) 9) = (min (evP 0 1 r x) (evP 2 3 r y), max (sumS r x - evP 0 1 r x) (sumS r y - evP 2 3 r y)) by unfold wpS; rw [if_neg (by omega), if_pos (by simp only; omega)]]; grind)
    · refine x_ret 22 none rfl ⟨rfl, rfl⟩ ⟨rfl, i, l, rfl, ?_⟩
      refine ⟨rfl, fun a b => ?_⟩
      rw [show wpS r x y (i (ob bb + 177) 8, i (ob bb + 177) 9) = (i (ob bb + 177) 8, i (ob bb + 177) 9) by unfold wpS; rw [if_pos (by omega)]]
      grind
