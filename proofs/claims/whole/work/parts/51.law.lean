/-! the shape that the makers leave is the one that the books are walked in -/
def rOk (o : Nat) : Bool := match K0 o with
  | .inl ci => (match vwCl[ci]? with
    | some q => (List.range q.2.2).all (fun k => mTc (mTy ci k) != 2 || (R0 o (k : Int)).isSome)
    | none => true)
  | .inr (t, n) => decide (t < 3) || (List.range n).all (fun k => (R0 o (k : Int)).isSome)
theorem rOk_all : ∀ o, o < 204 → rOk o = true := by decide +kernel
theorem arrV_cg {cA : ClassId} {n : Nat} {f f' : Nat → Value} (h : ∀ k, k < n → f k = f' k) : arrV cA n f = arrV cA n f' := by
  unfold arrV
  congr 2
  funext j
  exact h j.val j.isLt
theorem mVal_st {base c o k : Nat} {i : fI} {l : fL} {R : fR} (h : c ≠ 0 → c ≠ 1 → R o (k : Int) = R0 o (k : Int)) : mVal base c ((204, K0, i, l, R) : mS) o k = mVal base c (st i l) o k := by
  match c, h with
  | 0, _ => rfl
  | 1, _ => rfl
  | c + 2, h =>
    show mRv base (R o (k : Int)) = mRv base (R0 o (k : Int))
    rw [h (by omega) (by omega)]
theorem mTc_le (t : FieldType) : mTc t = 0 ∨ mTc t = 1 ∨ mTc t = 2 := by
  cases t <;> simp [mTc]
theorem mHp_st {base : Nat} {dC : Nat → ClassId} {dI : Nat → Nat → Nat} {U : State} {i : fI} {l : fL} {R : fR} {H : Heap} (hd : rg 0 204 R) (h : mHp base dC dI U ((204, K0, i, l, R) : mS) H) : mHp base dC dI U (st i l) H := by
  refine ⟨h.1, fun o ho => ?_⟩
  have hc := h.2 o ho
  have hr := hd o (Nat.zero_le _) ho
  have hk := rOk_all o ho
  have eR : ∀ k : Nat, (R0 o (k : Int)).isSome = true → R o (k : Int) = R0 o (k : Int) := fun k hs => by
    obtain ⟨z, hz⟩ := Option.isSome_iff_exists.mp hs
    rw [hr k z hz, hz]
  unfold mCell at hc ⊢
  have e1 : sK ((204, K0, i, l, R) : mS) o = K0 o := rfl
  have e2 : sK (st i l) o = K0 o := rfl
  rw [e1] at hc
  rw [e2]
  unfold rOk at hk
  cases hK : K0 o with
  | inl ci =>
    rw [hK] at hc hk
    obtain ⟨q, hq, hob⟩ := hc
    refine ⟨q, hq, hob.to (fun k hkn => ?_)⟩
    simp only [hq] at hk
    have hkk := List.all_eq_true.mp hk k (List.mem_range.mpr hkn)
    refine mVal_st (fun c0 c1 => eR k ?_)
    rcases mTc_le (mTy ci k) with z | z | z
    · exact absurd z c0
    · exact absurd z c1
    · rw [z] at hkk
      simpa using hkk
  | inr tn =>
    obtain ⟨t, n⟩ := tn
    rw [hK] at hc hk
    obtain ⟨cA, c1, c2, c3⟩ := hc
    refine ⟨cA, c1, c2, ?_⟩
    rw [c3]
    congr 1
    refine arrV_cg (fun k hkn => mVal_st (fun d0 d1 => eR k ?_))
    match t, hk, d0, d1 with
    | 0, _, d0, _ => exact absurd rfl d0
    | 1, _, _, d1 => exact absurd rfl d1
    | 2, _, d0, _ => exact absurd rfl d0
    | t + 3, hk, _, _ =>
      have h3 : decide (t + 3 < 3) = false := decide_eq_false (by omega)
      simp only [h3, Bool.false_or] at hk
      exact List.all_eq_true.mp hk k (List.mem_range.mpr hkn)
theorem x_toSt {M : mM} {d cb sb pc : Nat} {Qa : Option mV → mS → Prop} {L : List (Option mV)} {S : List mV} {i : fI} {l : fL} {R : fR} (hd : rg 0 204 R) (k : mX M d Qa cb sb pc L S (st i l)) : mX M d Qa cb sb pc L S ((204, K0, i, l, R) : mS) := by
  intro p l' e R' s m args below meth c Q base tb dC dI F E H locs cells slots ls hH hS hL hc hs
  exact k p l' e R' s m args below meth c Q base tb dC dI F E H locs cells slots ls (mHp_st hd hH) hS hL hc hs
/-- how the two books begin -/
theorem jB_0 {i1 i2 : fI} {l1 : fL} (h1 : ∀ a b, (a < 18 ∨ 169 ≤ a) → i1 a b = if a = 13 ∧ 0 ≤ b ∧ b < 4 then mTF 2 b.toNat else if a = 172 ∧ (b = 2 ∨ b = 3) then -9 else 0) (hl : ∀ a b, l1 a b = if (a = 179 ∨ a = 182) ∧ b = 0 then 1#64 else 0#64)
    (h2 : ∀ a b, i2 a b = if a = 190 ∧ b = 3 then 4 else if a = 190 ∧ b = 2 then 1 else if a = 190 ∧ b = 1 then 5 else if a = 190 ∧ b = 0 then 12 else if a = 189 ∧ b = 8 then -9 else if a = 189 ∧ b = 7 then -9 else i1 a b) : jB i2 l1 := by
  have eo : ∀ a b, a ≠ 189 → a ≠ 190 → i2 a b = i1 a b := fun a b q1 q2 => by
    rw [h2, if_neg (by omega), if_neg (by omega), if_neg (by omega), if_neg (by omega), if_neg (by omega), if_neg (by omega)]
  have ez : ∀ a b, (a < 18 ∨ 169 ≤ a) → a ≠ 13 → a ≠ 172 → a ≠ 189 → a ≠ 190 → i2 a b = 0 := fun a b q q1 q2 q3 q4 => by
    rw [eo a b q3 q4, h1 a b q, if_neg (by omega), if_neg (by omega)]
  have w0 : i2 190 0 = 12 := by rw [h2, if_neg (by omega), if_neg (by omega), if_neg (by omega), if_pos ⟨rfl, rfl⟩]
  have w1 : i2 190 1 = 5 := by rw [h2, if_neg (by omega), if_neg (by omega), if_pos ⟨rfl, rfl⟩]
  have w2 : i2 190 2 = 1 := by rw [h2, if_neg (by omega), if_pos ⟨rfl, rfl⟩]
  have w3 : i2 190 3 = 4 := by rw [h2, if_pos ⟨rfl, rfl⟩]
  have wz : ∀ b, b ≠ 0 → b ≠ 1 → b ≠ 2 → b ≠ 3 → i2 190 b = 0 := fun b q0 q1 q2 q3 => by
    rw [h2, if_neg (by omega), if_neg (by omega), if_neg (by omega), if_neg (by omega), if_neg (by omega), if_neg (by omega), h1 190 b (by omega), if_neg (by omega), if_neg (by omega)]
  have mz : ∀ b, b ≠ 7 → b ≠ 8 → i2 189 b = 0 := fun b q0 q1 => by
    rw [h2, if_neg (by omega), if_neg (by omega), if_neg (by omega), if_neg (by omega), if_neg (by omega), if_neg (by omega), h1 189 b (by omega), if_neg (by omega), if_neg (by omega)]
  have m7 : i2 189 7 = -9 := by rw [h2, if_neg (by omega), if_neg (by omega), if_neg (by omega), if_neg (by omega), if_neg (by omega), if_pos ⟨rfl, rfl⟩]
  have m8 : i2 189 8 = -9 := by rw [h2, if_neg (by omega), if_neg (by omega), if_neg (by omega), if_neg (by omega), if_pos ⟨rfl, rfl⟩]
  have k0 : ∀ m, AK i2 m = false := fun m => by
    unfold AK
    rw [mz 4 (by omega) (by omega)]
    split <;> decide
  have a11 := wz 11 (by omega) (by omega) (by omega) (by omega)
  have a4 := wz 4 (by omega) (by omega) (by omega) (by omega)
  have a9 := wz 9 (by omega) (by omega) (by omega) (by omega)
  have a10 := wz 10 (by omega) (by omega) (by omega) (by omega)
  have hW : okW (i2 190) := by
    unfold okW
    rw [a11, a4, a9, a10, w0, w1, w2, w3]
    refine ⟨by omega, fun p p0 p1 => ?_, fun x x0 x1 => absurd x1 (by omega), fun s s0 s1 => absurd s1 (by omega), fun s s0 s1 => absurd s1 (by omega)⟩
    rw [wz (5 + p) (by omega) (by omega) (by omega) (by omega)]
    omega
  refine ⟨?_, ?_, by rw [mz 4 (by omega) (by omega)]; omega⟩
  · refine ⟨?_, ?_, fun j j0 j1 => ?_, fun m m0 m1 => ⟨?_, fun hk => ?_⟩, ⟨?_, fun k k0 k1 => ?_⟩, ⟨?_, ?_⟩, ?_⟩
    · refine ⟨?_, ?_, fun p p0 p1 => ?_, fun x x0 x1 => ?_, fun s s0 s1 => ?_⟩
      · show i2 1 4 = i2 190 11 ∧ i2 1 5 = i2 190 4 ∧ i2 1 6 = i2 190 9 ∧ i2 1 7 = i2 190 10
        rw [a11, a4, a9, a10, ez 1 4 (by omega) (by omega) (by omega) (by omega) (by omega), ez 1 5 (by omega) (by omega) (by omega) (by omega) (by omega), ez 1 6 (by omega) (by omega) (by omega) (by omega) (by omega), ez 1 7 (by omega) (by omega) (by omega) (by omega) (by omega)]
        exact ⟨rfl, rfl, rfl, rfl⟩
      · show i2 13 0 = i2 190 0 ∧ i2 13 1 = i2 190 1 ∧ i2 13 2 = i2 190 2 ∧ i2 13 3 = i2 190 3
        have es : ∀ b, 0 ≤ b ∧ b < 4 → i2 13 b = mTF 2 b.toNat := fun b hb => by rw [eo 13 b (by omega) (by omega), h1 13 b (by omega), if_pos ⟨rfl, hb⟩]
        rw [w0, w1, w2, w3, es 0 (by omega), es 1 (by omega), es 2 (by omega), es 3 (by omega)]
        exact ⟨rfl, rfl, rfl, rfl⟩
      · show i2 15 p = i2 190 (5 + p)
        rw [ez 15 p (by omega) (by omega) (by omega) (by omega) (by omega), wz (5 + p) (by omega) (by omega) (by omega) (by omega)]
      · have x2 : x < 4 * i2 190 4 := x1
        omega
      · have s2 : s < i2 190 11 := s1
        omega
    · show 0 ≤ i2 16 1 ∧ i2 16 1 < 8 ∧ i2 16 2 = i2 189 2
      rw [ez 16 1 (by omega) (by omega) (by omega) (by omega) (by omega), ez 16 2 (by omega) (by omega) (by omega) (by omega) (by omega), mz 2 (by omega) (by omega)]
      omega
    · have j2 : j < i2 189 2 := j1
      rw [mz 2 (by omega) (by omega)] at j2
      omega
    · show i2 169 m = if AK i2 m = true then 1 else 0
      rw [k0, ez 169 m (by omega) (by omega) (by omega) (by omega) (by omega)]
      rfl
    · have hk2 : AK i2 m = true := hk
      rw [k0] at hk2
      cases hk2
    · show i2 170 1 = i2 189 6
      rw [ez 170 1 (by omega) (by omega) (by omega) (by omega) (by omega), mz 6 (by omega) (by omega)]
    · have k2 : k < i2 189 6 := k1
      rw [mz 6 (by omega) (by omega)] at k2
      omega
    · show i2 172 2 = i2 189 7
      rw [m7, eo 172 2 (by omega) (by omega), h1 172 2 (by omega), if_neg (by omega), if_pos (by omega)]
    · show i2 172 3 = i2 189 8
      rw [m8, eo 172 3 (by omega) (by omega), h1 172 3 (by omega), if_neg (by omega), if_pos (by omega)]
    · unfold PZ
      rw [ez 184 0 (by omega) (by omega) (by omega) (by omega) (by omega), hl 179 0, hl 180 0, hl 182 0, hl 183 0]
      exact ⟨rfl, rfl, rfl, rfl, rfl⟩
  · refine ⟨hW, ?_, fun j j0 j1 => ?_, fun m m0 m1 hk => ?_, ?_, fun k k0 k1 => ?_⟩
    · show 0 ≤ i2 189 2 ∧ i2 189 2 ≤ 8
      rw [mz 2 (by omega) (by omega)]; omega
    · have j2 : j < i2 189 2 := j1
      rw [mz 2 (by omega) (by omega)] at j2
      omega
    · have hk2 : AK i2 m = true := hk
      rw [k0] at hk2
      cases hk2
    · show 0 ≤ i2 189 6 ∧ i2 189 6 ≤ 60
      rw [mz 6 (by omega) (by omega)]; omega
    · have k2 : k < i2 189 6 := k1
      rw [mz 6 (by omega) (by omega)] at k2
      omega
/-! the law: its loop, its start -/
set_option maxRecDepth 20000 in
set_option maxHeartbeats 4000000 in
theorem law_loop {q : Nat × (Nat → Int32)} (hq : q.1 ≤ 1536) : ∀ (nz : Nat) (x : Int) (i : Nat → Int → Int) (l : Nat → Int → BitVec 64), 0 ≤ x ∧ x ≤ q.1 → jB i l → (q.1 : Int) - x < (nz : Int) → mX (m_L_law q) 10 qOne 0 0 18 (lX x) [] (st i l) := by
  intro nz
  induction nz with
  | zero => intro x i l hx _ hz; exact absurd hz (by omega)
  | succ nz ih =>
    intro x i l hx hJ hz
    refine x_iload_n 10 rfl rfl ?_
    refine x_tload_n 11 rfl rfl ?_
    refine x_slen 12 rfl rfl ?_
    refine x_iconst 13 rfl ?_
    refine x_isub 14 (r := (q.1 : Int) - 3) rfl rfl ?_
    refine x_icmp_gt 15 (tgt := 816) rfl (by decide) (by omega) (fun h => ?_) (fun h => ?_)
    · refine x_iconst 512 rfl ?_
      exact x_ret 513 (some (vI 1)) rfl ⟨rfl, Or.inr ⟨rfl, Or.inr rfl⟩⟩ rfl
    · have hx3 : 0 ≤ x ∧ x + 3 ≤ q.1 ∧ q.1 ≤ 1536 := by omega
      have hgo : ∀ i2 l2, jB i2 l2 → mX (m_L_law q) 10 qOne 0 0 810 (lX x) [] (st i2 l2) := by
        intro i2 l2 hJ2
        refine x_iinc 510 (L' := lX (x + 3)) rfl (show 3 < 8 by decide) rfl rfl rfl rfl ?_
        refine x_goto 511 (tgt := 18) rfl (by decide) ?_
        exact ih (x + 3) i2 l2 (by omega) hJ2 (by omega)
      refine x_tload_n 16 rfl rfl ?_
      refine x_iload_n 17 rfl rfl ?_
      refine x_sld 18 rfl rfl (by omega) rfl ?_
      refine x_bipush 19 rfl (by decide) ?_
      obtain ⟨w, hw⟩ : ∃ w, w = (q.2 x.toNat).toInt % 32 := ⟨_, rfl⟩
      refine x_iandm 20 5 (r := w) rfl (by decide) (by decide) hw.symm ?_
      rcases (show (w < 0 ∨ 25 < w) ∨ w = 0 ∨ w = 1 ∨ w = 2 ∨ w = 3 ∨ w = 4 ∨ w = 5 ∨ w = 6 ∨ w = 7 ∨ w = 8 ∨ w = 9 ∨ w = 10 ∨ w = 11 ∨ w = 12 ∨ w = 13 ∨ w = 14 ∨ w = 15 ∨ w = 16 ∨ w = 17 ∨ w = 18 ∨ w = 19 ∨ w = 20 ∨ w = 21 ∨ w = 22 ∨ w = 23 ∨ w = 24 ∨ w = 25 by omega) with h1 | h1 | h1 | h1 | h1 | h1 | h1 | h1 | h1 | h1 | h1 | h1 | h1 | h1 | h1 | h1 | h1 | h1 | h1 | h1 | h1 | h1 | h1 | h1 | h1 | h1 | h1
      · refine x_tabOut 21 (tgt := 810) rfl (by omega) h1 (by decide) ?_
        exact hgo i l hJ
      · refine x_tabIn 21 (off := 120) (tgt := 152) rfl (by omega) (by omega) (by rw [h1]; rfl) (by decide) ?_
        exact lc_add hx3 hJ hgo
      · refine x_tabIn 21 (off := 153) (tgt := 185) rfl (by omega) (by omega) (by rw [h1]; rfl) (by decide) ?_
        exact lc_remove hx3 hJ hgo
      · refine x_tabIn 21 (off := 176) (tgt := 208) rfl (by omega) (by omega) (by rw [h1]; rfl) (by decide) ?_
        exact lc_set hx3 hJ hgo
      · refine x_tabIn 21 (off := 209) (tgt := 241) rfl (by omega) (by omega) (by rw [h1]; rfl) (by decide) ?_
        exact lc_test hx3 hJ hgo
      · refine x_tabIn 21 (off := 232) (tgt := 264) rfl (by omega) (by omega) (by rw [h1]; rfl) (by decide) ?_
        exact lc_place hx3 hJ hgo
      · refine x_tabIn 21 (off := 265) (tgt := 297) rfl (by omega) (by omega) (by rw [h1]; rfl) (by decide) ?_
        exact lc_placeAll hx3 hJ hgo
      · refine x_tabIn 21 (off := 278) (tgt := 310) rfl (by omega) (by omega) (by rw [h1]; rfl) (by decide) ?_
        exact lc_attendance hx3 hJ hgo
      · refine x_tabIn 21 (off := 291) (tgt := 323) rfl (by omega) (by omega) (by rw [h1]; rfl) (by decide) ?_
        exact lc_hold hx3 hJ hgo
      · refine x_tabIn 21 (off := 304) (tgt := 336) rfl (by omega) (by omega) (by rw [h1]; rfl) (by decide) ?_
        exact lc_undo hx3 hJ hgo
      · refine x_tabIn 21 (off := 317) (tgt := 349) rfl (by omega) (by omega) (by rw [h1]; rfl) (by decide) ?_
        exact lc_write hx3 hJ hgo
      · refine x_tabIn 21 (off := 340) (tgt := 372) rfl (by omega) (by omega) (by rw [h1]; rfl) (by decide) ?_
        exact lc_wipe hx3 hJ hgo
      · refine x_tabIn 21 (off := 353) (tgt := 385) rfl (by omega) (by omega) (by rw [h1]; rfl) (by decide) ?_
        exact lc_fault hx3 hJ hgo
      · refine x_tabIn 21 (off := 376) (tgt := 408) rfl (by omega) (by omega) (by rw [h1]; rfl) (by decide) ?_
        exact lc_told hx3 hJ hgo
      · refine x_tabIn 21 (off := 399) (tgt := 431) rfl (by omega) (by omega) (by rw [h1]; rfl) (by decide) ?_
        exact lc_setting hx3 hJ hgo
      · refine x_tabIn 21 (off := 422) (tgt := 454) rfl (by omega) (by omega) (by rw [h1]; rfl) (by decide) ?_
        exact lc_singer hx3 hJ hgo
      · refine x_tabIn 21 (off := 455) (tgt := 487) rfl (by omega) (by omega) (by rw [h1]; rfl) (by decide) ?_
        exact lc_note hx3 hJ hgo
      · refine x_tabIn 21 (off := 488) (tgt := 520) rfl (by omega) (by omega) (by rw [h1]; rfl) (by decide) ?_
        exact lc_overlap hx3 hJ hgo
      · refine x_tabIn 21 (off := 521) (tgt := 553) rfl (by omega) (by omega) (by rw [h1]; rfl) (by decide) ?_
        exact lc_part hx3 hJ hgo
      · refine x_tabIn 21 (off := 554) (tgt := 586) rfl (by omega) (by omega) (by rw [h1]; rfl) (by decide) ?_
        exact lc_seat hx3 hJ hgo
      · refine x_tabIn 21 (off := 587) (tgt := 619) rfl (by omega) (by omega) (by rw [h1]; rfl) (by decide) ?_
        exact lc_solo hx3 hJ hgo
      · refine x_tabIn 21 (off := 620) (tgt := 652) rfl (by omega) (by omega) (by rw [h1]; rfl) (by decide) ?_
        exact lc_mean hx3 hJ hgo
      · refine x_tabIn 21 (off := 663) (tgt := 695) rfl (by omega) (by omega) (by rw [h1]; rfl) (by decide) ?_
        exact lc_standIn hx3 hJ hgo
      · refine x_tabIn 21 (off := 686) (tgt := 718) rfl (by omega) (by omega) (by rw [h1]; rfl) (by decide) ?_
        exact lc_passedOver hx3 hJ hgo
      · refine x_tabIn 21 (off := 709) (tgt := 741) rfl (by omega) (by omega) (by rw [h1]; rfl) (by decide) ?_
        exact lc_without hx3 hJ hgo
      · refine x_tabIn 21 (off := 732) (tgt := 764) rfl (by omega) (by omega) (by rw [h1]; rfl) (by decide) ?_
        exact lc_keep hx3 hJ hgo
      · refine x_tabIn 21 (off := 755) (tgt := 787) rfl (by omega) (by omega) (by rw [h1]; rfl) (by decide) ?_
        exact lc_back hx3 hJ hgo
set_option maxRecDepth 20000 in
set_option maxHeartbeats 4000000 in
theorem law_all {q : Nat × (Nat → Int32)} (hq : q.1 ≤ 1536) : mX (m_L_law q) 10 qOne 204 15946 0 [some (vT 4), none, none, none, none, none, none, none] [] ((0, K0, fun _ _ => 0, fun _ _ => 0#64, fun _ _ => none) : mS) := by
  obtain ⟨i, hi⟩ : ∃ f : fI, f = fun _ _ => 0 := ⟨_, rfl⟩
  obtain ⟨l, hl⟩ : ∃ f : fL, f = fun _ _ => 0#64 := ⟨_, rfl⟩
  obtain ⟨R, hR⟩ : ∃ f : fR, f = fun _ _ => none := ⟨_, rfl⟩
  rw [← hi, ← hl, ← hR]
  have hz : cZ 0 i l R := fun a b _ => by subst hi; subst hl; subst hR; exact ⟨rfl, rfl, rfl⟩
  refine x_new 0 (ci := 8) (cb' := 203) (sb' := 15938) rfl rfl cl_L_7 ins_X8 ini_X8 rfl rfl (g' := ((1, K0, i, l, R) : mS)) (cNew k_0 hz) ?_
  show mX (m_L_law q) 10 _ 203 15938 _ _ [vR (some 0)] _
  refine x_dup 1 rfl rfl ?_
  refine x_callI 2 (cb' := 15) (sb' := 7405) m_X8_init (n_book hz) rfl ok_X8_init rfl rfl ml_L_9 im_X8_init rfl (by decide) rfl (Nat.le_of_ble_eq_true rfl) rfl rfl (fun v g' q1 => ?_)
  obtain ⟨rfl, i1, l1, R1, rfl, hf1, hg1, hI1, hL1⟩ := q1
  show mX (m_L_law q) 10 _ 15 7405 _ _ [vR (some 0)] _
  have hz1 : cZ 189 i1 l1 R1 := mkd_cZ (hz.up (Nat.zero_le 189)) (Nat.le_refl 189) hf1
  refine x_astore_n 3 (L' := [some (vT 4), some (vR (some 0)), none, none, none, none, none, none]) rfl (show 1 < 8 by decide) rfl rfl ?_
  refine x_new 4 (ci := 9) (cb' := 14) (sb' := 7374) rfl rfl cl_L_10 ins_X9 ini_X9 rfl rfl (g' := ((190, K0, i1, l1, R1) : mS)) (cNew k_189 hz1) ?_
  show mX (m_L_law q) 10 _ 14 7374 _ _ [vR (some 189)] _
  refine x_dup 5 rfl rfl ?_
  refine x_callI 6 (cb' := 0) (sb' := 0) m_X9_init (n_model hz1) rfl ok_X9_init rfl rfl ml_L_12 im_X9_init rfl (by decide) rfl (Nat.le_of_ble_eq_true rfl) rfl rfl (fun v g' q2 => ?_)
  obtain ⟨rfl, i2, l2, R2, rfl, hf2, hg2, hI2, hL2⟩ := q2
  show mX (m_L_law q) 10 _ 0 0 _ _ [vR (some 189)] _
  refine x_astore_n 7 (L' := [some (vT 4), some (vR (some 0)), some (vR (some 189)), none, none, none, none, none]) rfl (show 2 < 8 by decide) rfl rfl ?_
  refine x_iconst 8 rfl ?_
  refine x_istore_n 9 (L' := lX 0) rfl (show 3 < 8 by decide) rfl rfl ?_
  have hd : rg 0 204 R2 := rg_join (rg_fr (c := 189) (M := 204) hg1 (fun x b q => (hf2 x b q).2.2) (Nat.le_refl _)) hg2
  refine x_toSt hd ?_
  refine law_loop hq (q.1 + 1) 0 i2 l2 (by omega) ?_ (by omega)
  rw [hL2]
  refine jB_0 (fun a b q => ?_) (fun a b => ?_) hI2
  · rw [hI1 a b q, hi]
  · rw [hL1, hl]
