variable {nn : Nat} {bb : Bool}
/-! the shape that the makers leave is the one that the books are walked in -/
def rOk (o : Nat) : Bool := match K0 o with
  | .inl ci => (match vwCl[ci]? with
    | some q => (List.range q.2.2).all (fun k => mTc (mTy ci k) != 2 || (R0 o (k : Int)).isSome)
    | none => true)
  | .inr (t, n) => decide (t < 3) || (List.range n).all (fun k => (R0 o (k : Int)).isSome)
theorem rOk_all : ∀ o, o < 378 → rOk o = true := by decide +kernel
theorem arrV_cg {cA : ClassId} {n : Nat} {f f' : Nat → Value} (h : ∀ k, k < n → f k = f' k) : arrV cA n f = arrV cA n f' := by
  unfold arrV
  congr 2
  funext j
  exact h j.val j.isLt
theorem mVal_st {base c o k : Nat} {i : fI} {l : fL} {R : fR} (h : c ≠ 0 → c ≠ 1 → R o (k : Int) = R0 o (k : Int)) : mVal base c ((378, K0, i, l, R) : mS) o k = mVal base c (st 0 i l) o k := by
  match c, h with
  | 0, _ => rfl
  | 1, _ => rfl
  | c + 2, h =>
    show mRv base (R o (k : Int)) = mRv base (R0 o (k : Int))
    rw [h (by omega) (by omega)]
theorem mTc_le (t : FieldType) : mTc t = 0 ∨ mTc t = 1 ∨ mTc t = 2 := by
  cases t <;> simp [mTc]
theorem mHp_st {base : Nat} {dC : Nat → ClassId} {dI : Nat → Nat → Nat} {U : State} {i : fI} {l : fL} {R : fR} {H : Heap} (hd : rg 0 378 R) (h : mHp base dC dI U ((378, K0, i, l, R) : mS) H) : mHp base dC dI U (st 0 i l) H := by
  refine ⟨h.1, fun o ho => ?_⟩
  have hc := h.2 o ho
  have hr := hd o (Nat.zero_le _) ho
  have hk := rOk_all o ho
  have eR : ∀ k : Nat, (R0 o (k : Int)).isSome = true → R o (k : Int) = R0 o (k : Int) := fun k hs => by
    obtain ⟨z, hz⟩ := Option.isSome_iff_exists.mp hs
    rw [hr k z hz, hz]
  unfold mCell at hc ⊢
  have e1 : sK ((378, K0, i, l, R) : mS) o = K0 o := rfl
  have e2 : sK (st 0 i l) o = K0 o := rfl
  rw [e1] at hc
  rw [e2]
  unfold rOk at hk
  cases hK : K0 o with
  | inl ci =>
    rw [hK] at hc hk
    obtain ⟨q, hq, hob⟩ := hc
    refine ⟨q, hq, hob.to (fun k hkn => ?_)⟩
    simp only [hq] at hk
    have hkk := List.all_eq_true.mp hk k (List.mem_range.mpr hkn)
    refine mVal_st (fun c0 c1 => eR k ?_)
    rcases mTc_le (mTy ci k) with z | z | z
    · exact absurd z c0
    · exact absurd z c1
    · rw [z] at hkk
      simpa using hkk
  | inr tn =>
    obtain ⟨t, n⟩ := tn
    rw [hK] at hc hk
    obtain ⟨cA, c1, c2, c3⟩ := hc
    refine ⟨cA, c1, c2, ?_⟩
    rw [c3]
    congr 1
    refine arrV_cg (fun k hkn => mVal_st (fun d0 d1 => eR k ?_))
    match t, hk, d0, d1 with
    | 0, _, d0, _ => exact absurd rfl d0
    | 1, _, _, d1 => exact absurd rfl d1
    | 2, _, d0, _ => exact absurd rfl d0
    | t + 3, hk, _, _ =>
      have h3 : decide (t + 3 < 3) = false := decide_eq_false (by omega)
      simp only [h3, Bool.false_or] at hk
      exact List.all_eq_true.mp hk k (List.mem_range.mpr hkn)
theorem x_toSt {M : mM} {d cb sb pc : Nat} {Qa : Option mV → mS → Prop} {L : List (Option mV)} {S : List mV} {i : fI} {l : fL} {R : fR} (hd : rg 0 378 R) (k : mX M d Qa cb sb pc L S (st 0 i l)) : mX M d Qa cb sb pc L S ((378, K0, i, l, R) : mS) := by
  intro p l' e R' s m args below meth c Q base tb dC dI F E H locs cells slots ls hH hS hL hc hs
  exact k p l' e R' s m args below meth c Q base tb dC dI F E H locs cells slots ls (mHp_st hd hH) hS hL hc hs
/-- a new book -/
def W0 : Int → Int := fun k => if k = 0 then 12 else if k = 1 then 5 else if k = 2 then 1 else if k = 3 then 4 else 0
def B0 : bT := (W0, 0, fun _ => W0, fun _ => W0, fun _ => false, fun _ => 0, 0, -9, -9)
theorem okT_0 : okT B0 := by
  have e11 : W0 11 = 0 := rfl
  have e4 : W0 4 = 0 := rfl
  have hW : okW W0 := by
    refine ⟨by decide, fun p p0 p1 => ?_, fun x x0 x1 => ?_, fun s s0 s1 => ?_, fun s s0 s1 => ?_⟩
    · have : W0 (5 + p) = 0 := by unfold W0; rw [if_neg (by omega), if_neg (by omega), if_neg (by omega), if_neg (by omega)]
      omega
    · omega
    · omega
    · omega
  refine ⟨hW, ⟨Int.le_refl _, by show (0 : Int) ≤ 8; omega⟩, fun j j0 j1 => hW, fun m m0 m1 hk => ?_, ⟨Int.le_refl _, by show (0 : Int) ≤ 60; omega⟩, fun k k0 k1 => ?_⟩
  · cases hk
  · have : k < 0 := k1
    omega
theorem fresh {i : fI} {l : fL} (h1 : ∀ a b, ob bb ≤ a → (a < ob bb + 18 ∨ (ob bb + 169 ≤ a ∧ a < ob bb + 189)) → i a b = if a = ob bb + 13 ∧ 0 ≤ b ∧ b < 4 then mTF 2 b.toNat else if a = ob bb + 172 ∧ (b = 2 ∨ b = 3) then -9 else 0) (hl : ∀ a b, ob bb ≤ a → a < ob bb + 189 → l a b = if (a = ob bb + 179 ∨ a = ob bb + 182) ∧ b = 0 then 1#64 else 0#64) : RelT bb i l B0 := by
  have e11 : W0 11 = 0 := rfl
  have e4 : W0 4 = 0 := rfl
  have ez : ∀ a b, ob bb ≤ a → (a < ob bb + 18 ∨ (ob bb + 169 ≤ a ∧ a < ob bb + 189)) → a ≠ ob bb + 13 → a ≠ ob bb + 172 → i a b = 0 := fun a b q0 q q1 q2 => by
    rw [h1 a b q0 q, if_neg (by omega), if_neg (by omega)]
  refine ⟨?_, ?_, fun j j0 j1 => ?_, fun m m0 m1 => ⟨?_, fun hk => ?_⟩, ⟨?_, fun k k0 k1 => ?_⟩, ⟨?_, ?_⟩, ?_⟩
  · refine ⟨?_, ?_, fun p p0 p1 => ?_, fun x x0 x1 => ?_, fun s s0 s1 => ?_⟩
    · exact ⟨ez _ 4 (by omega) (by omega) (by omega) (by omega), ez _ 5 (by omega) (by omega) (by omega) (by omega), ez _ 6 (by omega) (by omega) (by omega) (by omega), ez _ 7 (by omega) (by omega) (by omega) (by omega)⟩
    · have es : ∀ b, 0 ≤ b ∧ b < 4 → i (ob bb + 1 + 12) b = mTF 2 b.toNat := fun b hb => by rw [h1 _ b (by omega) (by omega), if_pos ⟨by omega, hb⟩]
      exact ⟨es 0 (by omega), es 1 (by omega), es 2 (by omega), es 3 (by omega)⟩
    · show i (ob bb + 1 + 14) p = W0 (5 + p)
      rw [ez _ p (by omega) (by omega) (by omega) (by omega)]
      unfold W0
      rw [if_neg (by omega), if_neg (by omega), if_neg (by omega), if_neg (by omega)]
    · have : x < 4 * W0 4 := x1
      omega
    · have : s < W0 11 := s1
      omega
  · show 0 ≤ i (ob bb + 16) 1 ∧ i (ob bb + 16) 1 < 8 ∧ i (ob bb + 16) 2 = 0
    rw [ez _ 1 (by omega) (by omega) (by omega) (by omega), ez _ 2 (by omega) (by omega) (by omega) (by omega)]
    omega
  · have : j < 0 := j1
    omega
  · show i (ob bb + 169) m = if false = true then 1 else 0
    rw [ez _ m (by omega) (by omega) (by omega) (by omega)]
    rfl
  · cases hk
  · exact ez _ 1 (by omega) (by omega) (by omega) (by omega)
  · have : k < 0 := k1
    omega
  · show i (ob bb + 172) 2 = -9
    rw [h1 _ 2 (by omega) (by omega), if_neg (by omega), if_pos (by omega)]
  · show i (ob bb + 172) 3 = -9
    rw [h1 _ 3 (by omega) (by omega), if_neg (by omega), if_pos (by omega)]
  · unfold PZ
    rw [ez (ob bb + 184) 0 (by omega) (by omega) (by omega) (by omega), hl (ob bb + 179) 0 (by omega) (by omega), hl (ob bb + 180) 0 (by omega) (by omega), hl (ob bb + 182) 0 (by omega) (by omega), hl (ob bb + 183) 0 (by omega) (by omega), if_pos (by omega), if_neg (by omega), if_pos (by omega), if_neg (by omega)]
    exact ⟨rfl, rfl, rfl, rfl, rfl⟩
/-! the law's own -/
abbrev qOne : Option mV → mS → Prop := fun v _ => v = some (vI 1)
theorem c_l_cell {q : Nat × (Nat → Int32)} {i : Nat → Int → Int} {l : Nat → Int → BitVec 64} {x : Int} (hx : 0 ≤ x ∧ x < 80) (hq : q.1 ≤ 260) : mCtrS q (m_L_cell q) 1 0 0 [vT 4, vI x] (st nn i l) (fun v g => ∃ z : Int, (-2147483648 ≤ z ∧ z < 2147483648) ∧ v = some (vI z) ∧ g = st nn i l) := by
  refine mCtrS_of pl_L dc_L_cell (Nat.le_of_ble_eq_true rfl) rfl ?_
  show mX (m_L_cell q) 1 _ 0 0 0 [some (vT 4), some (vI x)] [] (st nn i l)
  refine x_iload_n 0 rfl rfl ?_
  refine x_tload_n 1 rfl rfl ?_
  refine x_slen 2 rfl rfl ?_
  refine x_icmp_ge 3 (tgt := 12) rfl (by decide) (by omega) (fun h => ?_) (fun h => ?_)
  · refine x_ldci 8 (z := 747796405) rfl cc_L_7 rfl ?_
    refine x_iload_n 9 rfl rfl ?_
    refine x_iconst 10 rfl ?_
    refine x_iadd 11 (r := x + 1) rfl rfl ?_
    refine x_imul 12 (r := 747796405 * (x + 1)) rfl rfl ?_
    refine x_normI (fun z hz => ?_)
    exact x_ret 13 (some (vI z)) rfl ⟨rfl, Or.inl rfl⟩ ⟨z, hz, rfl, rfl⟩
  · refine x_tload_n 4 rfl rfl ?_
    refine x_iload_n 5 rfl rfl ?_
    refine x_sld 6 rfl rfl (by omega) rfl ?_
    refine x_goto 7 (tgt := 18) rfl (by decide) ?_
    exact x_ret 13 (some (vI _)) rfl ⟨rfl, Or.inl rfl⟩ ⟨_, mI_rg _, rfl, rfl⟩
theorem k2_h {i : Nat → Int → Int} {l : Nat → Int → BitVec 64} {B C : bT} (hk : RelT false i l B ∧ RelT true i l C) (hC : okT C) {v : Option mV} {g : mS} (hq : qH false i l B v g) : v = some (vI 1) ∧ ∃ mm i' l' B', g = st mm i' l' ∧ mm % 2 = 0 ∧ (RelT false i' l' B' ∧ RelT true i' l' C) ∧ okT B' ∧ alk B' B := by
  obtain ⟨rfl, mm, i', l', B', rfl, hm, hR, hok, hal, hf⟩ := hq
  have e0 : ob false = 0 := rfl
  have e1 : ob true = 189 := rfl
  exact ⟨rfl, mm, i', l', B', rfl, hm, ⟨hR, RelT_fr hk.2 hC (fun a b h1 h2 => (hf a b (by omega) (by omega)).1) (fun a b h1 h2 => (hf a b (by omega) (by omega)).2)⟩, hok, hal⟩
theorem alk_tr {A B C : bT} (h : alk A B) (h2 : alk B C) : alk A C := ⟨h.1.trans h2.1, h.2.1.trans h2.2.1, h.2.2.1.trans h2.2.2.1, h.2.2.2.1.trans h2.2.2.2.1, h.2.2.2.2.trans h2.2.2.2.2⟩
abbrev lX (x : Int) : List (Option mV) := [some (vT 4), some (vR (some (ob false))), some (vR (some (ob true))), some (vI (x)), none, none, none, none, none]
set_option maxRecDepth 20000 in
set_option maxHeartbeats 4000000 in
theorem law_loop {q : Nat × (Nat → Int32)} (hq : q.1 ≤ 260) : ∀ (nz : Nat) (x : Int) (nn : Nat) (i : Nat → Int → Int) (l : Nat → Int → BitVec 64) (B C : bT), 0 ≤ x → x + nz = 40 → nn % 2 = 0 → (RelT false i l B ∧ RelT true i l C) → okT B → okT C → alk B C → mX (m_L_law q) 10 qOne (2 * nz) (44 * nz) 18 (lX x) [] (st nn i l) := by
  intro nz
  induction nz with
  | zero =>
    intro x nn i l B C hx0 hxe he hk hB hC hal
    refine x_iload_n 10 rfl rfl ?_
    refine x_bipush 11 rfl (by decide) ?_
    refine x_icmp_ge 12 (tgt := 225) rfl (by decide) (by omega) (fun h1 => ?_) (fun h1 => by exfalso; omega)
    refine x_aload_n 120 rfl rfl ?_
    refine x_aload_n 121 rfl rfl ?_
    refine x_callS 122 m_L_areAlike (c_l_areAlike hk hB hC hal.1) rfl ok_L_areAlike ml_L_125 st_L_areAlike rfl (by decide) rfl (Nat.le_of_ble_eq_true rfl) rfl rfl (fun w g q2 => ?_)
    have hw : w = some (vI 1) := q2
    subst hw
    show mX (m_L_law q) 10 _ _ _ _ _ [vI 1] g
    exact x_ret 123 (some (vI 1)) rfl ⟨rfl, Or.inr ⟨rfl, Or.inr rfl⟩⟩ rfl
  | succ nz ih =>
    intro x nn i l B C hx0 hxe he hk hB hC hal
    have hN := hB.1.n
    refine x_iload_n 10 rfl rfl ?_
    refine x_bipush 11 rfl (by decide) ?_
    refine x_icmp_ge 12 (tgt := 225) rfl (by decide) (by omega) (fun h1 => by exfalso; omega) (fun h1 => ?_)
    refine x_tload_n 13 rfl rfl ?_
    refine x_iconst 14 rfl ?_
    refine x_iload_n 15 rfl rfl ?_
    refine x_imul 16 (r := 2 * x) rfl rfl ?_
    refine x_callSS 17 (m_L_cell q) rfl (c_l_cell (by omega) hq) rfl ok_L_cell ml_L_106 st_L_cell rfl (by decide) rfl (Nat.le_of_ble_eq_true rfl) rfl rfl (fun w g q2 => ?_)
    obtain ⟨v, hv, rfl, rfl⟩ := q2
    show mX (m_L_law q) 10 _ (2 * (nz + 1)) (44 * (nz + 1)) _ _ [vI (v)] _
    refine x_istore 18 (L' := [some (vT 4), some (vR (some (ob false))), some (vR (some (ob true))), some (vI (x)), some (vI (v)), none, none, none, none]) rfl (Nat.le_of_ble_eq_true rfl) rfl rfl ?_
    refine x_tload_n 19 rfl rfl ?_
    refine x_iconst 20 rfl ?_
    refine x_iload_n 21 rfl rfl ?_
    refine x_imul 22 (r := 2 * x) rfl rfl ?_
    refine x_iconst 23 rfl ?_
    refine x_iadd 24 (r := (2 * x) + 1) rfl rfl ?_
    refine x_callSS 25 (m_L_cell q) rfl (c_l_cell (by omega) hq) rfl ok_L_cell ml_L_106 st_L_cell rfl (by decide) rfl (Nat.le_of_ble_eq_true rfl) rfl rfl (fun w g q4 => ?_)
    obtain ⟨m, hm, rfl, rfl⟩ := q4
    show mX (m_L_law q) 10 _ (2 * (nz + 1)) (44 * (nz + 1)) _ _ [vI (m)] _
    refine x_istore 26 (L' := [some (vT 4), some (vR (some (ob false))), some (vR (some (ob true))), some (vI (x)), some (vI (v)), some (vI (m)), none, none, none]) rfl (Nat.le_of_ble_eq_true rfl) rfl rfl ?_
    have h22 := lo_rg v (n := 22) (by omega)
    refine x_iload 27 rfl rfl ?_
    refine x_bipush 28 rfl (by decide) ?_
    refine x_callS 29 m_L_low (c_low (by omega)) rfl ok_L_low ml_L_19 st_L_low rfl (by decide) rfl (Nat.le_of_ble_eq_true rfl) rfl rfl (fun v g q6 => ?_)
    obtain ⟨rfl, rfl⟩ := q6
    show mX (m_L_law q) 10 _ (2 * (nz + 1)) (44 * (nz + 1)) _ _ [vI (lo v 22)] _
    refine x_bipush 30 rfl (by decide) ?_
    have joinJ7 : ∀ (i_1 : Nat → Int → Int) (l_1 : Nat → Int → BitVec 64) (B1 : bT) (C1 : bT), (RelT false i_1 l_1 B1 ∧ RelT true i_1 l_1 C1) → (okT B1) → (okT C1) → (alk B1 C1) → mX (m_L_law q) 10 (qOne) (2 * (nz + 1)) (44 * (nz + 1)) 77 [some (vT 4), some (vR (some (ob false))), some (vR (some (ob true))), some (vI (x)), some (vI (v)), some (vI (m)), none, none, none] [] (st nn i_1 l_1) := by
      intro i_1 l_1 B1 C1 hk hB hC hal
      have hN := hB.1.n
      refine x_aload_n 43 rfl rfl ?_
      refine x_iconst 44 rfl ?_
      refine x_callV 45 m_X8_told (c_b_told hk.1 hB (by omega)) rfl ok_X8_told (b_lt0 (bb := false)) (k_0 (bb := false)) rfl rfl ml_L_32 im_X8_told se_X8_told rfl (by decide) rfl (Nat.le_of_ble_eq_true rfl) rfl rfl (fun w g q8 => ?_)
      obtain ⟨rfl, i9, li9, rfl, hk⟩ := k2_o hk hB hC q8
      show mX (m_L_law q) 10 _ (2 * (nz + 1)) (44 * (nz + 1)) _ _ [vI (B1.1 11)] _
      have hk : RelT false i9 li9 B1 ∧ RelT true i9 li9 C1 := hk
      refine x_istore 46 (L' := [some (vT 4), some (vR (some (ob false))), some (vR (some (ob true))), some (vI (x)), some (vI (v)), some (vI (m)), some (vI (B1.1 11)), none, none]) rfl (Nat.le_of_ble_eq_true rfl) rfl rfl ?_
      refine x_iload 47 rfl rfl ?_
      have joinJ10 : ∀ (i_2 : Nat → Int → Int) (l_2 : Nat → Int → BitVec 64), (RelT false i_2 l_2 B1 ∧ RelT true i_2 l_2 C1) → mX (m_L_law q) 10 (qOne) (2 * (nz + 1)) (44 * (nz + 1)) 106 [some (vT 4), some (vR (some (ob false))), some (vR (some (ob true))), some (vI (x)), some (vI (v)), some (vI (m)), some (vI (B1.1 11)), none, none] [] (st nn i_2 l_2) := by
        intro i_2 l_2 hk
        have joinJ11 : ∀ (i_3 : Nat → Int → Int) (l_3 : Nat → Int → BitVec 64) (n3 : Nat) (B3_ : bT), (n3 % 2 = 0) → (RelT false i_3 l_3 B3_ ∧ RelT true i_3 l_3 C1) → (okT B3_) → (alk B3_ C1) → mX (m_L_law q) 10 (qOne) (2 * nz) (44 * nz) 129 [some (vT 4), some (vR (some (ob false))), some (vR (some (ob true))), some (vI (x)), some (vI (v)), some (vI (m)), some (vI (B1.1 11)), none, none] [] (st n3 i_3 l_3) := by
          intro i_3 l_3 n3 B3_ he hk hB hal
          refine x_iload_n 70 rfl rfl ?_
          refine x_bipush 71 rfl (by decide) ?_
          refine x_irem 72 (r := x % 10) rfl (by omega) rfl ?_
          refine x_bipush 73 rfl (by decide) ?_
          refine x_icmp_ne 74 (tgt := 219) rfl (by decide) (by omega) (fun h12 => ?_) (fun h12 => ?_)
          · refine x_iinc 118 (L' := [some (vT 4), some (vR (some (ob false))), some (vR (some (ob true))), some (vI (x + 1)), some (vI (v)), some (vI (m)), some (vI (B1.1 11)), none, none]) rfl (Nat.le_of_ble_eq_true rfl) rfl rfl rfl rfl ?_
            refine x_goto 119 (tgt := 18) rfl (by decide) ?_
            refine x_dropL (L' := [some (vT 4), some (vR (some (ob false))), some (vR (some (ob true))), some (vI (x + 1)), none, none, none, none, none]) ⟨rfl, ⟨rfl, ⟨rfl, ⟨rfl, True.intro⟩⟩⟩⟩ ?_
            exact ih (x + 1) n3 i_3 l_3 B3_ C1 (by omega) (by omega) he hk hB hC hal
          · have hwb0 := bsW_bd hB.1 (-1)
            refine x_aload_n 75 rfl rfl ?_
            refine x_iconst 76 rfl ?_
            refine x_callV 77 m_X8_without (c_b_without hk.1 hB (by omega)) rfl ok_X8_without (b_lt0 (bb := false)) (k_0 (bb := false)) rfl rfl ml_L_102 im_X8_without se_X8_without rfl (by decide) rfl (Nat.le_of_ble_eq_true rfl) rfl rfl (fun w g q13 => ?_)
            obtain ⟨rfl, i14, li14, rfl, hk⟩ := k2_o hk hB hC q13
            show mX (m_L_law q) 10 _ (2 * nz) (44 * nz) _ _ [vI (anWithout (-1) B3_.1)] _
            refine x_eqS (S' := [vI ((bsW B3_.1 (-1)).1)]) (by rw [an_wo]) ?_
            have hk : RelT false i14 li14 B3_ ∧ RelT true i14 li14 C1 := hk
            refine x_istore 78 (L' := [some (vT 4), some (vR (some (ob false))), some (vR (some (ob true))), some (vI (x)), some (vI (v)), some (vI (m)), some (vI (B1.1 11)), some (vI ((bsW B3_.1 (-1)).1)), none]) rfl (Nat.le_of_ble_eq_true rfl) rfl rfl ?_
            refine x_aload_n 79 rfl rfl ?_
            refine x_callV 80 m_X8_placeAll (c_b_placeAll hk.1 hB) rfl ok_X8_placeAll (b_lt0 (bb := false)) (k_0 (bb := false)) rfl rfl ml_L_56 im_X8_placeAll se_X8_placeAll rfl (by decide) rfl (Nat.le_of_ble_eq_true rfl) rfl rfl (fun w g q15 => ?_)
            obtain ⟨rfl, i16, li16, rfl, hk⟩ := k2_o hk hB hC q15
            show mX (m_L_law q) 10 _ (2 * nz) (44 * nz) _ _ [vI ((bsW B3_.1 (-1)).1)] _
            have hB0 := hB
            obtain ⟨B3, hB3⟩ : ∃ b, b = (on spPlaceAll B3_).2 := ⟨_, rfl⟩
            have hk : RelT false i16 li16 (on spPlaceAll B3_).2 ∧ RelT true i16 li16 C1 := hk
            have hB : okT (on spPlaceAll B3_).2 := ok_placeAll hB0
            rw [← hB3] at hk hB
            have hWp : B3.1 = plW B3_.1 := by rw [hB3]; rfl
            have hst0 := st_all hB0.1 (p := 0) (by omega)
            have hsb0 := gStr_bd (okW_plc hB0.1) 0
            have hst1 := st_all hB0.1 (p := 1) (by omega)
            have hsb1 := gStr_bd (okW_plc hB0.1) 1
            have hst2 := st_all hB0.1 (p := 2) (by omega)
            have hsb2 := gStr_bd (okW_plc hB0.1) 2
            have hst3 := st_all hB0.1 (p := 3) (by omega)
            have hsb3 := gStr_bd (okW_plc hB0.1) 3
            have hwb := bsW_bd hB0.1 (-1)
            refine x_iload 81 rfl rfl ?_
            refine x_icmp_ne 82 (tgt := 202) rfl (by decide) (by omega) (fun h17 => by exfalso; omega) (fun h17 => ?_)
            refine x_aload_n 83 rfl rfl ?_
            refine x_iconst 84 rfl ?_
            refine x_iconst 85 rfl ?_
            refine x_callV 86 m_X8_part (c_b_part hk.1 hB (by omega) (by omega)) rfl ok_X8_part (b_lt0 (bb := false)) (k_0 (bb := false)) rfl rfl ml_L_85 im_X8_part se_X8_part rfl (by decide) rfl (Nat.le_of_ble_eq_true rfl) rfl rfl (fun w g q18 => ?_)
            obtain ⟨rfl, i19, li19, rfl, hk⟩ := k2_o hk hB hC q18
            show mX (m_L_law q) 10 _ (2 * nz) (44 * nz) _ _ [vI (anPart 0 1 B3.1)] _
            refine x_eqS (S' := [vI (gStr (plW B3_.1) 0)]) (by rw [anP1 (by omega), hWp]) ?_
            have hk : RelT false i19 li19 B3 ∧ RelT true i19 li19 C1 := hk
            refine x_iload 87 rfl rfl ?_
            refine x_icmp_lt 88 (tgt := 202) rfl (by decide) (by omega) (fun h20 => by exfalso; omega) (fun h20 => ?_)
            refine x_aload_n 89 rfl rfl ?_
            refine x_iconst 90 rfl ?_
            refine x_iconst 91 rfl ?_
            refine x_callV 92 m_X8_part (c_b_part hk.1 hB (by omega) (by omega)) rfl ok_X8_part (b_lt0 (bb := false)) (k_0 (bb := false)) rfl rfl ml_L_85 im_X8_part se_X8_part rfl (by decide) rfl (Nat.le_of_ble_eq_true rfl) rfl rfl (fun w g q21 => ?_)
            obtain ⟨rfl, i22, li22, rfl, hk⟩ := k2_o hk hB hC q21
            show mX (m_L_law q) 10 _ (2 * nz) (44 * nz) _ _ [vI (anPart 1 1 B3.1)] _
            refine x_eqS (S' := [vI (gStr (plW B3_.1) 1)]) (by rw [anP1 (by omega), hWp]) ?_
            have hk : RelT false i22 li22 B3 ∧ RelT true i22 li22 C1 := hk
            refine x_iload 93 rfl rfl ?_
            refine x_icmp_lt 94 (tgt := 202) rfl (by decide) (by omega) (fun h23 => by exfalso; omega) (fun h23 => ?_)
            refine x_aload_n 95 rfl rfl ?_
            refine x_iconst 96 rfl ?_
            refine x_iconst 97 rfl ?_
            refine x_callV 98 m_X8_part (c_b_part hk.1 hB (by omega) (by omega)) rfl ok_X8_part (b_lt0 (bb := false)) (k_0 (bb := false)) rfl rfl ml_L_85 im_X8_part se_X8_part rfl (by decide) rfl (Nat.le_of_ble_eq_true rfl) rfl rfl (fun w g q24 => ?_)
            obtain ⟨rfl, i25, li25, rfl, hk⟩ := k2_o hk hB hC q24
            show mX (m_L_law q) 10 _ (2 * nz) (44 * nz) _ _ [vI (anPart 2 1 B3.1)] _
            refine x_eqS (S' := [vI (gStr (plW B3_.1) 2)]) (by rw [anP1 (by omega), hWp]) ?_
            have hk : RelT false i25 li25 B3 ∧ RelT true i25 li25 C1 := hk
            refine x_iload 99 rfl rfl ?_
            refine x_icmp_lt 100 (tgt := 202) rfl (by decide) (by omega) (fun h26 => by exfalso; omega) (fun h26 => ?_)
            refine x_aload_n 101 rfl rfl ?_
            refine x_iconst 102 rfl ?_
            refine x_iconst 103 rfl ?_
            refine x_callV 104 m_X8_part (c_b_part hk.1 hB (by omega) (by omega)) rfl ok_X8_part (b_lt0 (bb := false)) (k_0 (bb := false)) rfl rfl ml_L_85 im_X8_part se_X8_part rfl (by decide) rfl (Nat.le_of_ble_eq_true rfl) rfl rfl (fun w g q27 => ?_)
            obtain ⟨rfl, i28, li28, rfl, hk⟩ := k2_o hk hB hC q27
            show mX (m_L_law q) 10 _ (2 * nz) (44 * nz) _ _ [vI (anPart 3 1 B3.1)] _
            refine x_eqS (S' := [vI (gStr (plW B3_.1) 3)]) (by rw [anP1 (by omega), hWp]) ?_
            have hk : RelT false i28 li28 B3 ∧ RelT true i28 li28 C1 := hk
            refine x_iload 105 rfl rfl ?_
            refine x_icmp_lt 106 (tgt := 202) rfl (by decide) (by omega) (fun h29 => by exfalso; omega) (fun h29 => ?_)
            refine x_iconst 107 rfl ?_
            refine x_goto 108 (tgt := 203) rfl (by decide) ?_
            refine x_istore 110 (L' := [some (vT 4), some (vR (some (ob false))), some (vR (some (ob true))), some (vI (x)), some (vI (v)), some (vI (m)), some (vI (B1.1 11)), some (vI ((bsW B3_.1 (-1)).1)), some (vI (1))]) rfl (Nat.le_of_ble_eq_true rfl) rfl rfl ?_
            refine x_iload 111 rfl rfl ?_
            refine x_if_eq 112 (tgt := 217) rfl (by decide) (by decide) (fun h30 => absurd h30 (by decide)) (fun h30 => ?_)
            refine x_aload_n 113 rfl rfl ?_
            refine x_callV 114 m_X8_undo (c_b_undo hk.1 hB) rfl ok_X8_undo (b_lt0 (bb := false)) (k_0 (bb := false)) rfl rfl ml_L_61 im_X8_undo se_X8_undo rfl (by decide) rfl (Nat.le_of_ble_eq_true rfl) rfl rfl (fun w g q31 => ?_)
            obtain ⟨rfl, i32, li32, rfl, hk⟩ := k2_o hk hB hC q31
            show mX (m_L_law q) 10 _ (2 * nz) (44 * nz) _ _ [vI ((on spUndo B3).1)] _
            have hun := undo_all hB0
            rw [← hB3] at hun
            have hal := alk_tr hun.2.2 hal
            have hk : RelT false i32 li32 ((on spUndo B3).2) ∧ RelT true i32 li32 C1 := hk
            have hB : okT (on spUndo B3).2 := ok_undo hB
            refine x_if_ge 115 (tgt := 219) rfl (by decide) (by omega) (fun h33 => ?_) (fun h33 => by exfalso; omega)
            refine x_iinc 118 (L' := [some (vT 4), some (vR (some (ob false))), some (vR (some (ob true))), some (vI (x + 1)), some (vI (v)), some (vI (m)), some (vI (B1.1 11)), some (vI ((bsW B3_.1 (-1)).1)), some (vI (1))]) rfl (Nat.le_of_ble_eq_true rfl) rfl rfl rfl rfl ?_
            refine x_goto 119 (tgt := 18) rfl (by decide) ?_
            refine x_dropL (L' := [some (vT 4), some (vR (some (ob false))), some (vR (some (ob true))), some (vI (x + 1)), none, none, none, none, none]) ⟨rfl, ⟨rfl, ⟨rfl, ⟨rfl, True.intro⟩⟩⟩⟩ ?_
            exact ih (x + 1) n3 i32 li32 ((on spUndo B3).2) C1 (by omega) (by omega) he hk hB hC hal
        refine x_iload_n 57 rfl rfl ?_
        refine x_iconst 58 rfl ?_
        refine x_irem 59 (r := x % 3) rfl (by omega) rfl ?_
        refine x_iconst 60 rfl ?_
        refine x_icmp_ne 61 (tgt := 129) rfl (by decide) (by omega) (fun h34 => ?_) (fun h34 => ?_)
        · refine x_room (cb' := (2 * nz)) (sb' := (44 * nz)) (by omega) (by omega) ?_
          exact joinJ11 i_2 l_2 (nn) (B1) (by first | exact he2 | exact he) (by first | exact hk2 | exact hk) (by first | exact hB2 | exact hB) (by first | exact hal3 | exact hal)
        · refine x_aload_n 62 rfl rfl ?_
          refine x_callS 63 m_L_areParts (c_l_areParts hk.1 hB) rfl ok_L_areParts ml_L_118 st_L_areParts rfl (by decide) rfl (Nat.le_of_ble_eq_true rfl) rfl rfl (fun w g q35 => ?_)
          obtain ⟨rfl, i36, li36, rfl, hk⟩ := k2_o hk hB hC q35
          show mX (m_L_law q) 10 _ (2 * (nz + 1)) (44 * (nz + 1)) _ _ [vI (1)] _
          have hk : RelT false i36 li36 B1 ∧ RelT true i36 li36 C1 := hk
          refine x_if_eq 64 (tgt := 127) rfl (by decide) (by decide) (fun h37 => absurd h37 (by decide)) (fun h37 => ?_)
          refine x_aload_n 65 rfl rfl ?_
          refine x_callS 66 (cb' := 2 * nz) (sb' := 44 * nz) m_L_isHeld (c_l_isHeld hk.1 hB he) rfl ok_L_isHeld ml_L_122 st_L_isHeld rfl (by decide) rfl (Nat.le_of_ble_eq_true rfl) (by omega) (by omega) (fun w g q38 => ?_)
          obtain ⟨rfl, mm, i39, li39, B2, rfl, he2, hk2, hB2, hal2⟩ := k2_h hk hC q38
          have hal3 := alk_tr hal2 hal
          show mX (m_L_law q) 10 _ (2 * nz) (44 * nz) _ _ [vI (1)] _
          refine x_if_ne 67 (tgt := 129) rfl (by decide) (by decide) (fun h40 => ?_) (fun h40 => absurd h40 (by decide))
          exact joinJ11 i39 li39 (mm) (B2) (by first | exact he2 | exact he) (by first | exact hk2 | exact hk) (by first | exact hB2 | exact hB) (by first | exact hal3 | exact hal)
      refine x_if_le 48 (tgt := 106) rfl (by decide) (by omega) (fun h41 => ?_) (fun h41 => ?_)
      · exact joinJ10 i9 li9 (hk)
      · have hlr := lo_rg (shI m 7) (n := B1.1 11) (by omega)
        refine x_aload_n 49 rfl rfl ?_
        refine x_iload 50 rfl rfl ?_
        refine x_bipush 51 rfl (by decide) ?_
        refine x_ishrI 52 (r := shI m 7) rfl rfl ?_
        refine x_iload 53 rfl rfl ?_
        refine x_callS 54 m_L_low (c_low (by omega)) rfl ok_L_low ml_L_19 st_L_low rfl (by decide) rfl (Nat.le_of_ble_eq_true rfl) rfl rfl (fun v g q42 => ?_)
        obtain ⟨rfl, rfl⟩ := q42
        show mX (m_L_law q) 10 _ (2 * (nz + 1)) (44 * (nz + 1)) _ _ [vI (lo (shI m 7) (B1.1 11)), vR (some (ob false))] _
        refine x_callS 55 m_L_isRange (c_l_isRange hk.1 hB (by omega)) rfl ok_L_isRange ml_L_114 st_L_isRange rfl (by decide) rfl (Nat.le_of_ble_eq_true rfl) rfl rfl (fun w g q43 => ?_)
        obtain ⟨rfl, i44, li44, rfl, hk⟩ := k2_o hk hB hC q43
        show mX (m_L_law q) 10 _ (2 * (nz + 1)) (44 * (nz + 1)) _ _ [vI (1)] _
        have hk : RelT false i44 li44 B1 ∧ RelT true i44 li44 C1 := hk
        refine x_if_eq 56 (tgt := 127) rfl (by decide) (by decide) (fun h45 => absurd h45 (by decide)) (fun h45 => ?_)
        exact joinJ10 i44 li44 (hk)
    refine x_icmp_eq 31 (tgt := 77) rfl (by decide) (by omega) (fun h46 => ?_) (fun h46 => ?_)
    · exact joinJ7 i l (B) (C) (hk) (hB) (hC) (by first | exact hans.2 | exact hal)
    · have hans := al_ch hal v m (by omega)
      refine x_aload_n 32 rfl rfl ?_
      refine x_iload 33 rfl rfl ?_
      refine x_iload 34 rfl rfl ?_
      refine x_callS 35 m_L_change (c_l_change hk.1 hB) rfl ok_L_change ml_L_110 st_L_change rfl (by decide) rfl (Nat.le_of_ble_eq_true rfl) rfl rfl (fun w g q47 => ?_)
      obtain ⟨rfl, i48, li48, rfl, hk⟩ := k2_o hk hB hC q47
      have hB := ok_ch hB v m
      show mX (m_L_law q) 10 _ (2 * (nz + 1)) (44 * (nz + 1)) _ _ [vI ((chB v m B).1)] _
      have hk : RelT false i48 li48 ((chB v m B).2) ∧ RelT true i48 li48 C := hk
      refine x_aload_n 36 rfl rfl ?_
      refine x_iload 37 rfl rfl ?_
      refine x_iload 38 rfl rfl ?_
      refine x_callS 39 m_L_change (c_l_change hk.2 hC) rfl ok_L_change ml_L_110 st_L_change rfl (by decide) rfl (Nat.le_of_ble_eq_true rfl) rfl rfl (fun w g q49 => ?_)
      obtain ⟨rfl, i50, li50, rfl, hk⟩ := k2_q hk hB hC q49
      have hC := ok_ch hC v m
      show mX (m_L_law q) 10 _ (2 * (nz + 1)) (44 * (nz + 1)) _ _ [vI ((chB v m C).1), vI ((chB v m B).1)] _
      have hk : RelT false i50 li50 ((chB v m B).2) ∧ RelT true i50 li50 ((chB v m C).2) := hk
      refine x_icmp_eqT 40 (tgt := 77) rfl (by decide) hans.1 ?_
      exact joinJ7 i50 li50 ((chB v m B).2) ((chB v m C).2) (hk) (hB) (hC) (by first | exact hans.2 | exact hal)
set_option maxRecDepth 20000 in
set_option maxHeartbeats 4000000 in
theorem law_all {q : Nat × (Nat → Int32)} (hq : q.1 ≤ 260) : mX (m_L_law q) 10 qOne 458 18842 0 [some (vT 4), none, none, none, none, none, none, none, none] [] ((0, K0, fun _ _ => 0, fun _ _ => 0#64, fun _ _ => none) : mS) := by
  obtain ⟨i, hi⟩ : ∃ f : fI, f = fun _ _ => 0 := ⟨_, rfl⟩
  obtain ⟨l, hl⟩ : ∃ f : fL, f = fun _ _ => 0#64 := ⟨_, rfl⟩
  obtain ⟨R, hR⟩ : ∃ f : fR, f = fun _ _ => none := ⟨_, rfl⟩
  rw [← hi, ← hl, ← hR]
  have e0 : ob false = 0 := rfl
  have e1 : ob true = 189 := rfl
  have hz : cZ 0 i l R := fun a b _ => by subst hi; subst hl; subst hR; exact ⟨rfl, rfl, rfl⟩
  refine x_new 0 (ci := 8) (cb' := 457) (sb' := 18834) rfl rfl cl_L_10 ins_X8 ini_X8 rfl rfl (g' := ((1, K0, i, l, R) : mS)) (cNew (k_0 (bb := false)) hz) ?_
  show mX (m_L_law q) 10 _ 457 18834 _ _ [vR (some (ob false))] ((ob false + 1, K0, i, l, R) : mS)
  refine x_dup 1 rfl rfl ?_
  refine x_callI 2 (cb' := 269) (sb' := 10301) m_X8_init (n_book (bb := false) hz) rfl ok_X8_init rfl rfl ml_L_105 im_X8_init rfl (by decide) rfl (Nat.le_of_ble_eq_true rfl) rfl rfl (fun v g' q1 => ?_)
  obtain ⟨rfl, i1, l1, R1, rfl, hf1, hg1, hI1, hL1⟩ := q1
  show mX (m_L_law q) 10 _ 269 10301 _ _ [vR (some (ob false))] ((ob true, K0, i1, l1, R1) : mS)
  have hz1 : cZ (ob true) i1 l1 R1 := mkd_cZ (hz.up (Nat.zero_le 189)) (Nat.le_refl 189) hf1
  refine x_astore_n 3 (L' := [some (vT 4), some (vR (some (ob false))), none, none, none, none, none, none, none]) rfl (Nat.le_of_ble_eq_true rfl) rfl rfl ?_
  refine x_new 4 (ci := 8) (cb' := 268) (sb' := 10293) rfl rfl cl_L_10 ins_X8 ini_X8 rfl rfl (g' := ((ob true + 1, K0, i1, l1, R1) : mS)) (cNew (k_0 (bb := true)) hz1) ?_
  show mX (m_L_law q) 10 _ 268 10293 _ _ [vR (some (ob true))] ((ob true + 1, K0, i1, l1, R1) : mS)
  refine x_dup 5 rfl rfl ?_
  refine x_callI 6 (cb' := 80) (sb' := 1760) m_X8_init (n_book (bb := true) hz1) rfl ok_X8_init rfl rfl ml_L_105 im_X8_init rfl (by decide) rfl (Nat.le_of_ble_eq_true rfl) rfl rfl (fun v g' q2 => ?_)
  obtain ⟨rfl, i2, l2, R2, rfl, hf2, hg2, hI2, hL2⟩ := q2
  show mX (m_L_law q) 10 _ 80 1760 _ _ [vR (some (ob true))] ((378, K0, i2, l2, R2) : mS)
  refine x_astore_n 7 (L' := [some (vT 4), some (vR (some (ob false))), some (vR (some (ob true))), none, none, none, none, none, none]) rfl (Nat.le_of_ble_eq_true rfl) rfl rfl ?_
  refine x_iconst 8 rfl ?_
  refine x_istore_n 9 (L' := lX 0) rfl (Nat.le_of_ble_eq_true rfl) rfl rfl ?_
  have hd : rg 0 378 R2 := rg_join (rg_fr (c := 189) (M := 378) hg1 (fun x b q => (hf2 x b q).2.2) (Nat.le_refl _)) hg2
  refine x_toSt hd ?_
  refine law_loop hq 40 0 0 i2 l2 B0 B0 (by omega) (by omega) rfl ⟨?_, ?_⟩ okT_0 okT_0 (alk_rf _)
  · refine fresh (fun a b q0 q => ?_) (fun a b q0 q => ?_)
    · rw [(hf2 a b (by omega)).1, hI1 a b (by omega), hi]
    · rw [(hf2 a b (by omega)).2.1, hL1, hl]
  · refine fresh (fun a b q0 q => ?_) (fun a b q0 q => ?_)
    · rw [hI2 a b (by omega), (hz1 a b (by omega)).1]
    · rw [hL2, (hz1 a b (by omega)).2.1]
