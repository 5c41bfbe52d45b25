/-! the law's cases: a call of the one book and of the other -/
def qOne : Option mV → mS → Prop := fun v _ => v = some (vI 1)
abbrev lX (x : Int) : List (Option mV) := [some (vT 4), some (vR (some 0)), some (vR (some 189)), some (vI x), none, none, none, none]
theorem x_icmp_eqT {M : mM} {d cb sb pc : Nat} {Qa : Option mV → mS → Prop} {L : List (Option mV)} {S : List mV} {g : mS} (j : Nat) {off : Int} {tgt : Nat} {a b : Int} (hd : (mTab M)[j]? = some (pc, .if_icmp .eq off, 3)) (ht : (pc : Int) + off = (tgt : Int)) (h : a = b) (k : mX M d Qa cb sb tgt L S g) : mX M d Qa cb sb pc L (vI b :: vI a :: S) g := by
  subst h
  intro p l e R s m args below meth c Q base tb dC dI F E H locs cells slots ls hH hS hL hc hs
  exact lv_icmp_eq (x := Int32.ofInt a) (y := Int32.ofInt a) F.1 F.2.1 (F.dec hd) ht (fun _ => k p l e R s m args below meth c Q base tb dC dI F E H locs cells slots ls hH hS hL hc hs) (fun h => absurd rfl h)
theorem mn_cmp {z : Int} (h : 0 ≤ z ∧ z ≤ 90) : Op.cmpValue (FP.dcmp (FP.f2d (mnF z)) (FP.f2d (mnF z))) .l = Int32.ofInt 0 := by
  have key : ∀ a : Nat, a < 91 → Op.cmpValue (FP.dcmp (FP.f2d (FP.fdiv (FP.i2f (Int32.ofInt (a : Int))) 1082130432)) (FP.f2d (FP.fdiv (FP.i2f (Int32.ofInt (a : Int))) 1082130432))) .l = Int32.ofInt 0 := by decide +kernel
  have := key z.toNat (by omega)
  rw [Int.toNat_of_nonneg h.1] at this
  exact this
set_option maxRecDepth 20000 in
theorem lc_add {q : Nat × (Nat → Int32)} {i : Nat → Int → Int} {l : Nat → Int → BitVec 64} {x : Int} (hx : 0 ≤ x ∧ x + 3 ≤ q.1 ∧ q.1 ≤ 1536) (hJ : jB i l) (hgo : ∀ i2 l2, jB i2 l2 → mX (m_L_law q) 10 qOne 0 0 810 (lX x) [] (st i2 l2)) : mX (m_L_law q) 10 qOne 0 0 152 (lX x) [] (st i l) := by
  obtain ⟨v1, hv1⟩ : ∃ z, z = (q.2 (x + 1).toNat).toInt := ⟨_, rfl⟩
  have r1 : -2147483648 ≤ v1 ∧ v1 < 2147483648 := by rw [hv1]; exact mI_rg _
  obtain ⟨v2, hv2⟩ : ∃ z, z = (q.2 (x + 2).toNat).toInt := ⟨_, rfl⟩
  have r2 : -2147483648 ≤ v2 ∧ v2 < 2147483648 := by rw [hv2]; exact mI_rg _
  refine x_aload_n 22 rfl rfl ?_
  refine x_tload_n 23 rfl rfl ?_
  refine x_iload_n 24 rfl rfl ?_
  refine x_iconst 25 rfl ?_
  refine x_iadd 26 (r := x + 1) rfl rfl ?_
  refine x_sld 27 rfl rfl (by omega) hv1.symm ?_
  refine x_tload_n 28 rfl rfl ?_
  refine x_iload_n 29 rfl rfl ?_
  refine x_iconst 30 rfl ?_
  refine x_iadd 31 (r := x + 2) rfl rfl ?_
  refine x_sld 32 rfl rfl (by omega) hv2.symm ?_
  refine x_callV 33 m_X8_add (c_b_add hJ.R hJ.B r1 r2) rfl ok_X8_add (n_lt rfl) k_0 rfl rfl ml_L_13 im_X8_add se_X8_add rfl (by decide) rfl (Nat.le_of_ble_eq_true rfl) rfl rfl (fun v g q1 => ?_)
  obtain ⟨z1, i1, l1, rfl, rfl, hz1, hR1, hf1⟩ := q1
  show mX (m_L_law q) 10 _ 0 0 _ _ [vI z1] _
  obtain ⟨a1, a2, a3, a4, a5, a6, a7, a8, a9, a10⟩ := ab_eq hf1
  have hc := r_b_add (i := i1) (l := l1) (by rw [a1, a2, a3, a4, a5, a6, a7]; exact hJ.B) (by rw [a10]; exact hJ.2.2) r1 r2
  rw [a1, a2, a3, a4, a5, a6, a7, a8, a9] at hc
  refine x_aload_n 34 rfl rfl ?_
  refine x_tload_n 35 rfl rfl ?_
  refine x_iload_n 36 rfl rfl ?_
  refine x_iconst 37 rfl ?_
  refine x_iadd 38 (r := x + 1) rfl rfl ?_
  refine x_sld 39 rfl rfl (by omega) hv1.symm ?_
  refine x_tload_n 40 rfl rfl ?_
  refine x_iload_n 41 rfl rfl ?_
  refine x_iconst 42 rfl ?_
  refine x_iadd 43 (r := x + 2) rfl rfl ?_
  refine x_sld 44 rfl rfl (by omega) hv2.symm ?_
  refine x_callV 45 m_X9_add hc rfl ok_X9_add (n_lt rfl) k_189 rfl rfl ml_L_17 im_X9_add se_X9_add rfl (by decide) rfl (Nat.le_of_ble_eq_true rfl) rfl rfl (fun v g q2 => ?_)
  obtain ⟨z2, i2, l2, rfl, rfl, hz2, hl2, he2, hF2, hf2⟩ := q2
  show mX (m_L_law q) 10 _ 0 0 _ _ [vI z2, vI z1] _
  have hJ2 : jB i2 l2 := by rw [hl2]; exact jB_next (ok_add hJ.B v1 v2) hR1 hf2 he2 hF2
  exact x_icmp_eqT 46 (tgt := 810) rfl (by decide) (hz1.trans hz2.symm) (hgo i2 l2 hJ2)
set_option maxRecDepth 20000 in
theorem lc_remove {q : Nat × (Nat → Int32)} {i : Nat → Int → Int} {l : Nat → Int → BitVec 64} {x : Int} (hx : 0 ≤ x ∧ x + 3 ≤ q.1 ∧ q.1 ≤ 1536) (hJ : jB i l) (hgo : ∀ i2 l2, jB i2 l2 → mX (m_L_law q) 10 qOne 0 0 810 (lX x) [] (st i2 l2)) : mX (m_L_law q) 10 qOne 0 0 185 (lX x) [] (st i l) := by
  obtain ⟨v1, hv1⟩ : ∃ z, z = (q.2 (x + 1).toNat).toInt := ⟨_, rfl⟩
  have r1 : -2147483648 ≤ v1 ∧ v1 < 2147483648 := by rw [hv1]; exact mI_rg _
  refine x_aload_n 49 rfl rfl ?_
  refine x_tload_n 50 rfl rfl ?_
  refine x_iload_n 51 rfl rfl ?_
  refine x_iconst 52 rfl ?_
  refine x_iadd 53 (r := x + 1) rfl rfl ?_
  refine x_sld 54 rfl rfl (by omega) hv1.symm ?_
  refine x_callV 55 m_X8_remove (c_b_remove hJ.R hJ.B r1) rfl ok_X8_remove (n_lt rfl) k_0 rfl rfl ml_L_18 im_X8_remove se_X8_remove rfl (by decide) rfl (Nat.le_of_ble_eq_true rfl) rfl rfl (fun v g q1 => ?_)
  obtain ⟨z1, i1, l1, rfl, rfl, hz1, hR1, hf1⟩ := q1
  show mX (m_L_law q) 10 _ 0 0 _ _ [vI z1] _
  obtain ⟨a1, a2, a3, a4, a5, a6, a7, a8, a9, a10⟩ := ab_eq hf1
  have hc := r_b_remove (i := i1) (l := l1) (by rw [a1, a2, a3, a4, a5, a6, a7]; exact hJ.B) (by rw [a10]; exact hJ.2.2) r1
  rw [a1, a2, a3, a4, a5, a6, a7, a8, a9] at hc
  refine x_aload_n 56 rfl rfl ?_
  refine x_tload_n 57 rfl rfl ?_
  refine x_iload_n 58 rfl rfl ?_
  refine x_iconst 59 rfl ?_
  refine x_iadd 60 (r := x + 1) rfl rfl ?_
  refine x_sld 61 rfl rfl (by omega) hv1.symm ?_
  refine x_callV 62 m_X9_remove hc rfl ok_X9_remove (n_lt rfl) k_189 rfl rfl ml_L_22 im_X9_remove se_X9_remove rfl (by decide) rfl (Nat.le_of_ble_eq_true rfl) rfl rfl (fun v g q2 => ?_)
  obtain ⟨z2, i2, l2, rfl, rfl, hz2, hl2, he2, hF2, hf2⟩ := q2
  show mX (m_L_law q) 10 _ 0 0 _ _ [vI z2, vI z1] _
  have hJ2 : jB i2 l2 := by rw [hl2]; exact jB_next (ok_remove hJ.B v1) hR1 hf2 he2 hF2
  exact x_icmp_eqT 63 (tgt := 810) rfl (by decide) (hz1.trans hz2.symm) (hgo i2 l2 hJ2)
set_option maxRecDepth 20000 in
theorem lc_set {q : Nat × (Nat → Int32)} {i : Nat → Int → Int} {l : Nat → Int → BitVec 64} {x : Int} (hx : 0 ≤ x ∧ x + 3 ≤ q.1 ∧ q.1 ≤ 1536) (hJ : jB i l) (hgo : ∀ i2 l2, jB i2 l2 → mX (m_L_law q) 10 qOne 0 0 810 (lX x) [] (st i2 l2)) : mX (m_L_law q) 10 qOne 0 0 208 (lX x) [] (st i l) := by
  obtain ⟨v1, hv1⟩ : ∃ z, z = (q.2 (x + 1).toNat).toInt := ⟨_, rfl⟩
  have r1 : -2147483648 ≤ v1 ∧ v1 < 2147483648 := by rw [hv1]; exact mI_rg _
  obtain ⟨v2, hv2⟩ : ∃ z, z = (q.2 (x + 2).toNat).toInt := ⟨_, rfl⟩
  have r2 : -2147483648 ≤ v2 ∧ v2 < 2147483648 := by rw [hv2]; exact mI_rg _
  refine x_aload_n 66 rfl rfl ?_
  refine x_tload_n 67 rfl rfl ?_
  refine x_iload_n 68 rfl rfl ?_
  refine x_iconst 69 rfl ?_
  refine x_iadd 70 (r := x + 1) rfl rfl ?_
  refine x_sld 71 rfl rfl (by omega) hv1.symm ?_
  refine x_tload_n 72 rfl rfl ?_
  refine x_iload_n 73 rfl rfl ?_
  refine x_iconst 74 rfl ?_
  refine x_iadd 75 (r := x + 2) rfl rfl ?_
  refine x_sld 76 rfl rfl (by omega) hv2.symm ?_
  refine x_callV 77 m_X8_set (c_b_set hJ.R hJ.B r1 r2) rfl ok_X8_set (n_lt rfl) k_0 rfl rfl ml_L_23 im_X8_set se_X8_set rfl (by decide) rfl (Nat.le_of_ble_eq_true rfl) rfl rfl (fun v g q1 => ?_)
  obtain ⟨z1, i1, l1, rfl, rfl, hz1, hR1, hf1⟩ := q1
  show mX (m_L_law q) 10 _ 0 0 _ _ [vI z1] _
  obtain ⟨a1, a2, a3, a4, a5, a6, a7, a8, a9, a10⟩ := ab_eq hf1
  have hc := r_b_set (i := i1) (l := l1) (by rw [a1, a2, a3, a4, a5, a6, a7]; exact hJ.B) (by rw [a10]; exact hJ.2.2) r1 r2
  rw [a1, a2, a3, a4, a5, a6, a7, a8, a9] at hc
  refine x_aload_n 78 rfl rfl ?_
  refine x_tload_n 79 rfl rfl ?_
  refine x_iload_n 80 rfl rfl ?_
  refine x_iconst 81 rfl ?_
  refine x_iadd 82 (r := x + 1) rfl rfl ?_
  refine x_sld 83 rfl rfl (by omega) hv1.symm ?_
  refine x_tload_n 84 rfl rfl ?_
  refine x_iload_n 85 rfl rfl ?_
  refine x_iconst 86 rfl ?_
  refine x_iadd 87 (r := x + 2) rfl rfl ?_
  refine x_sld 88 rfl rfl (by omega) hv2.symm ?_
  refine x_callV 89 m_X9_set hc rfl ok_X9_set (n_lt rfl) k_189 rfl rfl ml_L_26 im_X9_set se_X9_set rfl (by decide) rfl (Nat.le_of_ble_eq_true rfl) rfl rfl (fun v g q2 => ?_)
  obtain ⟨z2, i2, l2, rfl, rfl, hz2, hl2, he2, hF2, hf2⟩ := q2
  show mX (m_L_law q) 10 _ 0 0 _ _ [vI z2, vI z1] _
  have hJ2 : jB i2 l2 := by rw [hl2]; exact jB_next (ok_set hJ.B v1 v2) hR1 hf2 he2 hF2
  exact x_icmp_eqT 90 (tgt := 810) rfl (by decide) (hz1.trans hz2.symm) (hgo i2 l2 hJ2)
set_option maxRecDepth 20000 in
theorem lc_test {q : Nat × (Nat → Int32)} {i : Nat → Int → Int} {l : Nat → Int → BitVec 64} {x : Int} (hx : 0 ≤ x ∧ x + 3 ≤ q.1 ∧ q.1 ≤ 1536) (hJ : jB i l) (hgo : ∀ i2 l2, jB i2 l2 → mX (m_L_law q) 10 qOne 0 0 810 (lX x) [] (st i2 l2)) : mX (m_L_law q) 10 qOne 0 0 241 (lX x) [] (st i l) := by
  obtain ⟨v1, hv1⟩ : ∃ z, z = (q.2 (x + 1).toNat).toInt := ⟨_, rfl⟩
  have r1 : -2147483648 ≤ v1 ∧ v1 < 2147483648 := by rw [hv1]; exact mI_rg _
  refine x_aload_n 93 rfl rfl ?_
  refine x_tload_n 94 rfl rfl ?_
  refine x_iload_n 95 rfl rfl ?_
  refine x_iconst 96 rfl ?_
  refine x_iadd 97 (r := x + 1) rfl rfl ?_
  refine x_sld 98 rfl rfl (by omega) hv1.symm ?_
  refine x_callV 99 m_X8_test (c_b_test hJ.R hJ.B r1) rfl ok_X8_test (n_lt rfl) k_0 rfl rfl ml_L_27 im_X8_test se_X8_test rfl (by decide) rfl (Nat.le_of_ble_eq_true rfl) rfl rfl (fun v g q1 => ?_)
  obtain ⟨z1, i1, l1, rfl, rfl, hz1, hR1, hf1⟩ := q1
  show mX (m_L_law q) 10 _ 0 0 _ _ [vI z1] _
  obtain ⟨a1, a2, a3, a4, a5, a6, a7, a8, a9, a10⟩ := ab_eq hf1
  have hc := r_b_test (i := i1) (l := l1) (by rw [a1, a2, a3, a4, a5, a6, a7]; exact hJ.B) (by rw [a10]; exact hJ.2.2) r1
  rw [a1, a2, a3, a4, a5, a6, a7, a8, a9] at hc
  refine x_aload_n 100 rfl rfl ?_
  refine x_tload_n 101 rfl rfl ?_
  refine x_iload_n 102 rfl rfl ?_
  refine x_iconst 103 rfl ?_
  refine x_iadd 104 (r := x + 1) rfl rfl ?_
  refine x_sld 105 rfl rfl (by omega) hv1.symm ?_
  refine x_callV 106 m_X9_test hc rfl ok_X9_test (n_lt rfl) k_189 rfl rfl ml_L_30 im_X9_test se_X9_test rfl (by decide) rfl (Nat.le_of_ble_eq_true rfl) rfl rfl (fun v g q2 => ?_)
  obtain ⟨z2, i2, l2, rfl, rfl, hz2, hl2, he2, hF2, hf2⟩ := q2
  show mX (m_L_law q) 10 _ 0 0 _ _ [vI z2, vI z1] _
  have hJ2 : jB i2 l2 := by rw [hl2]; exact jB_next (ok_test hJ.B v1) hR1 hf2 he2 hF2
  exact x_icmp_eqT 107 (tgt := 810) rfl (by decide) (hz1.trans hz2.symm) (hgo i2 l2 hJ2)
set_option maxRecDepth 20000 in
theorem lc_place {q : Nat × (Nat → Int32)} {i : Nat → Int → Int} {l : Nat → Int → BitVec 64} {x : Int} (hx : 0 ≤ x ∧ x + 3 ≤ q.1 ∧ q.1 ≤ 1536) (hJ : jB i l) (hgo : ∀ i2 l2, jB i2 l2 → mX (m_L_law q) 10 qOne 0 0 810 (lX x) [] (st i2 l2)) : mX (m_L_law q) 10 qOne 0 0 264 (lX x) [] (st i l) := by
  obtain ⟨v1, hv1⟩ : ∃ z, z = (q.2 (x + 1).toNat).toInt := ⟨_, rfl⟩
  have r1 : -2147483648 ≤ v1 ∧ v1 < 2147483648 := by rw [hv1]; exact mI_rg _
  obtain ⟨v2, hv2⟩ : ∃ z, z = (q.2 (x + 2).toNat).toInt := ⟨_, rfl⟩
  have r2 : -2147483648 ≤ v2 ∧ v2 < 2147483648 := by rw [hv2]; exact mI_rg _
  refine x_aload_n 110 rfl rfl ?_
  refine x_tload_n 111 rfl rfl ?_
  refine x_iload_n 112 rfl rfl ?_
  refine x_iconst 113 rfl ?_
  refine x_iadd 114 (r := x + 1) rfl rfl ?_
  refine x_sld 115 rfl rfl (by omega) hv1.symm ?_
  refine x_tload_n 116 rfl rfl ?_
  refine x_iload_n 117 rfl rfl ?_
  refine x_iconst 118 rfl ?_
  refine x_iadd 119 (r := x + 2) rfl rfl ?_
  refine x_sld 120 rfl rfl (by omega) hv2.symm ?_
  refine x_callV 121 m_X8_place (c_b_place hJ.R hJ.B r1 r2) rfl ok_X8_place (n_lt rfl) k_0 rfl rfl ml_L_31 im_X8_place se_X8_place rfl (by decide) rfl (Nat.le_of_ble_eq_true rfl) rfl rfl (fun v g q1 => ?_)
  obtain ⟨z1, i1, l1, rfl, rfl, hz1, hR1, hf1⟩ := q1
  show mX (m_L_law q) 10 _ 0 0 _ _ [vI z1] _
  obtain ⟨a1, a2, a3, a4, a5, a6, a7, a8, a9, a10⟩ := ab_eq hf1
  have hc := r_b_place (i := i1) (l := l1) (by rw [a1, a2, a3, a4, a5, a6, a7]; exact hJ.B) (by rw [a10]; exact hJ.2.2) r1 r2
  rw [a1, a2, a3, a4, a5, a6, a7, a8, a9] at hc
  refine x_aload_n 122 rfl rfl ?_
  refine x_tload_n 123 rfl rfl ?_
  refine x_iload_n 124 rfl rfl ?_
  refine x_iconst 125 rfl ?_
  refine x_iadd 126 (r := x + 1) rfl rfl ?_
  refine x_sld 127 rfl rfl (by omega) hv1.symm ?_
  refine x_tload_n 128 rfl rfl ?_
  refine x_iload_n 129 rfl rfl ?_
  refine x_iconst 130 rfl ?_
  refine x_iadd 131 (r := x + 2) rfl rfl ?_
  refine x_sld 132 rfl rfl (by omega) hv2.symm ?_
  refine x_callV 133 m_X9_place hc rfl ok_X9_place (n_lt rfl) k_189 rfl rfl ml_L_34 im_X9_place se_X9_place rfl (by decide) rfl (Nat.le_of_ble_eq_true rfl) rfl rfl (fun v g q2 => ?_)
  obtain ⟨z2, i2, l2, rfl, rfl, hz2, hl2, he2, hF2, hf2⟩ := q2
  show mX (m_L_law q) 10 _ 0 0 _ _ [vI z2, vI z1] _
  have hJ2 : jB i2 l2 := by rw [hl2]; exact jB_next (ok_place hJ.B v1 v2) hR1 hf2 he2 hF2
  exact x_icmp_eqT 134 (tgt := 810) rfl (by decide) (hz1.trans hz2.symm) (hgo i2 l2 hJ2)
set_option maxRecDepth 20000 in
theorem lc_placeAll {q : Nat × (Nat → Int32)} {i : Nat → Int → Int} {l : Nat → Int → BitVec 64} {x : Int} (hx : 0 ≤ x ∧ x + 3 ≤ q.1 ∧ q.1 ≤ 1536) (hJ : jB i l) (hgo : ∀ i2 l2, jB i2 l2 → mX (m_L_law q) 10 qOne 0 0 810 (lX x) [] (st i2 l2)) : mX (m_L_law q) 10 qOne 0 0 297 (lX x) [] (st i l) := by
  refine x_aload_n 137 rfl rfl ?_
  refine x_callV 138 m_X8_placeAll (c_b_placeAll hJ.R hJ.B ) rfl ok_X8_placeAll (n_lt rfl) k_0 rfl rfl ml_L_35 im_X8_placeAll se_X8_placeAll rfl (by decide) rfl (Nat.le_of_ble_eq_true rfl) rfl rfl (fun v g q1 => ?_)
  obtain ⟨z1, i1, l1, rfl, rfl, hz1, hR1, hf1⟩ := q1
  show mX (m_L_law q) 10 _ 0 0 _ _ [vI z1] _
  obtain ⟨a1, a2, a3, a4, a5, a6, a7, a8, a9, a10⟩ := ab_eq hf1
  have hc := r_b_placeAll (i := i1) (l := l1) (by rw [a1, a2, a3, a4, a5, a6, a7]; exact hJ.B) (by rw [a10]; exact hJ.2.2) 
  rw [a1, a2, a3, a4, a5, a6, a7, a8, a9] at hc
  refine x_aload_n 139 rfl rfl ?_
  refine x_callV 140 m_X9_placeAll hc rfl ok_X9_placeAll (n_lt rfl) k_189 rfl rfl ml_L_39 im_X9_placeAll se_X9_placeAll rfl (by decide) rfl (Nat.le_of_ble_eq_true rfl) rfl rfl (fun v g q2 => ?_)
  obtain ⟨z2, i2, l2, rfl, rfl, hz2, hl2, he2, hF2, hf2⟩ := q2
  show mX (m_L_law q) 10 _ 0 0 _ _ [vI z2, vI z1] _
  have hJ2 : jB i2 l2 := by rw [hl2]; exact jB_next (ok_placeAll hJ.B) hR1 hf2 he2 hF2
  exact x_icmp_eqT 141 (tgt := 810) rfl (by decide) (hz1.trans hz2.symm) (hgo i2 l2 hJ2)
set_option maxRecDepth 20000 in
theorem lc_attendance {q : Nat × (Nat → Int32)} {i : Nat → Int → Int} {l : Nat → Int → BitVec 64} {x : Int} (hx : 0 ≤ x ∧ x + 3 ≤ q.1 ∧ q.1 ≤ 1536) (hJ : jB i l) (hgo : ∀ i2 l2, jB i2 l2 → mX (m_L_law q) 10 qOne 0 0 810 (lX x) [] (st i2 l2)) : mX (m_L_law q) 10 qOne 0 0 310 (lX x) [] (st i l) := by
  refine x_aload_n 144 rfl rfl ?_
  refine x_callV 145 m_X8_attendance (c_b_attendance hJ.R hJ.B ) rfl ok_X8_attendance (n_lt rfl) k_0 rfl rfl ml_L_40 im_X8_attendance se_X8_attendance rfl (by decide) rfl (Nat.le_of_ble_eq_true rfl) rfl rfl (fun v g q1 => ?_)
  obtain ⟨z1, i1, l1, rfl, rfl, hz1, hR1, hf1⟩ := q1
  show mX (m_L_law q) 10 _ 0 0 _ _ [vI z1] _
  obtain ⟨a1, a2, a3, a4, a5, a6, a7, a8, a9, a10⟩ := ab_eq hf1
  have hc := r_b_attendance (i := i1) (l := l1) (by rw [a1, a2, a3, a4, a5, a6, a7]; exact hJ.B) (by rw [a10]; exact hJ.2.2) 
  rw [a1, a2, a3, a4, a5, a6, a7, a8, a9] at hc
  refine x_aload_n 146 rfl rfl ?_
  refine x_callV 147 m_X9_attendance hc rfl ok_X9_attendance (n_lt rfl) k_189 rfl rfl ml_L_43 im_X9_attendance se_X9_attendance rfl (by decide) rfl (Nat.le_of_ble_eq_true rfl) rfl rfl (fun v g q2 => ?_)
  obtain ⟨z2, i2, l2, rfl, rfl, hz2, hl2, he2, hF2, hf2⟩ := q2
  show mX (m_L_law q) 10 _ 0 0 _ _ [vI z2, vI z1] _
  have hJ2 : jB i2 l2 := by rw [hl2]; exact jB_next (ok_attendance hJ.B) hR1 hf2 he2 hF2
  exact x_icmp_eqT 148 (tgt := 810) rfl (by decide) (hz1.trans hz2.symm) (hgo i2 l2 hJ2)
set_option maxRecDepth 20000 in
theorem lc_hold {q : Nat × (Nat → Int32)} {i : Nat → Int → Int} {l : Nat → Int → BitVec 64} {x : Int} (hx : 0 ≤ x ∧ x + 3 ≤ q.1 ∧ q.1 ≤ 1536) (hJ : jB i l) (hgo : ∀ i2 l2, jB i2 l2 → mX (m_L_law q) 10 qOne 0 0 810 (lX x) [] (st i2 l2)) : mX (m_L_law q) 10 qOne 0 0 323 (lX x) [] (st i l) := by
  refine x_aload_n 151 rfl rfl ?_
  refine x_callV 152 m_X8_hold (c_b_hold hJ.R hJ.B ) rfl ok_X8_hold (n_lt rfl) k_0 rfl rfl ml_L_44 im_X8_hold se_X8_hold rfl (by decide) rfl (Nat.le_of_ble_eq_true rfl) rfl rfl (fun v g q1 => ?_)
  obtain ⟨z1, i1, l1, rfl, rfl, hz1, hR1, hf1⟩ := q1
  show mX (m_L_law q) 10 _ 0 0 _ _ [vI z1] _
  obtain ⟨a1, a2, a3, a4, a5, a6, a7, a8, a9, a10⟩ := ab_eq hf1
  have hc := r_b_hold (i := i1) (l := l1) (by rw [a1, a2, a3, a4, a5, a6, a7]; exact hJ.B) (by rw [a10]; exact hJ.2.2) 
  rw [a1, a2, a3, a4, a5, a6, a7, a8, a9] at hc
  refine x_aload_n 153 rfl rfl ?_
  refine x_callV 154 m_X9_hold hc rfl ok_X9_hold (n_lt rfl) k_189 rfl rfl ml_L_47 im_X9_hold se_X9_hold rfl (by decide) rfl (Nat.le_of_ble_eq_true rfl) rfl rfl (fun v g q2 => ?_)
  obtain ⟨z2, i2, l2, rfl, rfl, hz2, hl2, he2, hF2, hf2⟩ := q2
  show mX (m_L_law q) 10 _ 0 0 _ _ [vI z2, vI z1] _
  have hJ2 : jB i2 l2 := by rw [hl2]; exact jB_next (ok_hold hJ.B) hR1 hf2 he2 hF2
  exact x_icmp_eqT 155 (tgt := 810) rfl (by decide) (hz1.trans hz2.symm) (hgo i2 l2 hJ2)
set_option maxRecDepth 20000 in
theorem lc_undo {q : Nat × (Nat → Int32)} {i : Nat → Int → Int} {l : Nat → Int → BitVec 64} {x : Int} (hx : 0 ≤ x ∧ x + 3 ≤ q.1 ∧ q.1 ≤ 1536) (hJ : jB i l) (hgo : ∀ i2 l2, jB i2 l2 → mX (m_L_law q) 10 qOne 0 0 810 (lX x) [] (st i2 l2)) : mX (m_L_law q) 10 qOne 0 0 336 (lX x) [] (st i l) := by
  refine x_aload_n 158 rfl rfl ?_
  refine x_callV 159 m_X8_undo (c_b_undo hJ.R hJ.B ) rfl ok_X8_undo (n_lt rfl) k_0 rfl rfl ml_L_48 im_X8_undo se_X8_undo rfl (by decide) rfl (Nat.le_of_ble_eq_true rfl) rfl rfl (fun v g q1 => ?_)
  obtain ⟨z1, i1, l1, rfl, rfl, hz1, hR1, hf1⟩ := q1
  show mX (m_L_law q) 10 _ 0 0 _ _ [vI z1] _
  obtain ⟨a1, a2, a3, a4, a5, a6, a7, a8, a9, a10⟩ := ab_eq hf1
  have hc := r_b_undo (i := i1) (l := l1) (by rw [a1, a2, a3, a4, a5, a6, a7]; exact hJ.B) (by rw [a10]; exact hJ.2.2) 
  rw [a1, a2, a3, a4, a5, a6, a7, a8, a9] at hc
  refine x_aload_n 160 rfl rfl ?_
  refine x_callV 161 m_X9_undo hc rfl ok_X9_undo (n_lt rfl) k_189 rfl rfl ml_L_51 im_X9_undo se_X9_undo rfl (by decide) rfl (Nat.le_of_ble_eq_true rfl) rfl rfl (fun v g q2 => ?_)
  obtain ⟨z2, i2, l2, rfl, rfl, hz2, hl2, he2, hF2, hf2⟩ := q2
  show mX (m_L_law q) 10 _ 0 0 _ _ [vI z2, vI z1] _
  have hJ2 : jB i2 l2 := by rw [hl2]; exact jB_next (ok_undo hJ.B) hR1 hf2 he2 hF2
  exact x_icmp_eqT 162 (tgt := 810) rfl (by decide) (hz1.trans hz2.symm) (hgo i2 l2 hJ2)
set_option maxRecDepth 20000 in
theorem lc_write {q : Nat × (Nat → Int32)} {i : Nat → Int → Int} {l : Nat → Int → BitVec 64} {x : Int} (hx : 0 ≤ x ∧ x + 3 ≤ q.1 ∧ q.1 ≤ 1536) (hJ : jB i l) (hgo : ∀ i2 l2, jB i2 l2 → mX (m_L_law q) 10 qOne 0 0 810 (lX x) [] (st i2 l2)) : mX (m_L_law q) 10 qOne 0 0 349 (lX x) [] (st i l) := by
  obtain ⟨v1, hv1⟩ : ∃ z, z = (q.2 (x + 1).toNat).toInt := ⟨_, rfl⟩
  have r1 : -2147483648 ≤ v1 ∧ v1 < 2147483648 := by rw [hv1]; exact mI_rg _
  refine x_aload_n 165 rfl rfl ?_
  refine x_tload_n 166 rfl rfl ?_
  refine x_iload_n 167 rfl rfl ?_
  refine x_iconst 168 rfl ?_
  refine x_iadd 169 (r := x + 1) rfl rfl ?_
  refine x_sld 170 rfl rfl (by omega) hv1.symm ?_
  refine x_callV 171 m_X8_write (c_b_write hJ.R hJ.B r1) rfl ok_X8_write (n_lt rfl) k_0 rfl rfl ml_L_52 im_X8_write se_X8_write rfl (by decide) rfl (Nat.le_of_ble_eq_true rfl) rfl rfl (fun v g q1 => ?_)
  obtain ⟨z1, i1, l1, rfl, rfl, hz1, hR1, hf1⟩ := q1
  show mX (m_L_law q) 10 _ 0 0 _ _ [vI z1] _
  obtain ⟨a1, a2, a3, a4, a5, a6, a7, a8, a9, a10⟩ := ab_eq hf1
  have hc := r_b_write (i := i1) (l := l1) (by rw [a1, a2, a3, a4, a5, a6, a7]; exact hJ.B) (by rw [a10]; exact hJ.2.2) r1
  rw [a1, a2, a3, a4, a5, a6, a7, a8, a9] at hc
  refine x_aload_n 172 rfl rfl ?_
  refine x_tload_n 173 rfl rfl ?_
  refine x_iload_n 174 rfl rfl ?_
  refine x_iconst 175 rfl ?_
  refine x_iadd 176 (r := x + 1) rfl rfl ?_
  refine x_sld 177 rfl rfl (by omega) hv1.symm ?_
  refine x_callV 178 m_X9_write hc rfl ok_X9_write (n_lt rfl) k_189 rfl rfl ml_L_55 im_X9_write se_X9_write rfl (by decide) rfl (Nat.le_of_ble_eq_true rfl) rfl rfl (fun v g q2 => ?_)
  obtain ⟨z2, i2, l2, rfl, rfl, hz2, hl2, he2, hF2, hf2⟩ := q2
  show mX (m_L_law q) 10 _ 0 0 _ _ [vI z2, vI z1] _
  have hJ2 : jB i2 l2 := by rw [hl2]; exact jB_next (ok_write hJ.B v1) hR1 hf2 he2 hF2
  exact x_icmp_eqT 179 (tgt := 810) rfl (by decide) (hz1.trans hz2.symm) (hgo i2 l2 hJ2)
set_option maxRecDepth 20000 in
theorem lc_wipe {q : Nat × (Nat → Int32)} {i : Nat → Int → Int} {l : Nat → Int → BitVec 64} {x : Int} (hx : 0 ≤ x ∧ x + 3 ≤ q.1 ∧ q.1 ≤ 1536) (hJ : jB i l) (hgo : ∀ i2 l2, jB i2 l2 → mX (m_L_law q) 10 qOne 0 0 810 (lX x) [] (st i2 l2)) : mX (m_L_law q) 10 qOne 0 0 372 (lX x) [] (st i l) := by
  refine x_aload_n 182 rfl rfl ?_
  refine x_callV 183 m_X8_wipe (c_b_wipe hJ.R hJ.B ) rfl ok_X8_wipe (n_lt rfl) k_0 rfl rfl ml_L_56 im_X8_wipe se_X8_wipe rfl (by decide) rfl (Nat.le_of_ble_eq_true rfl) rfl rfl (fun v g q1 => ?_)
  obtain ⟨z1, i1, l1, rfl, rfl, hz1, hR1, hf1⟩ := q1
  show mX (m_L_law q) 10 _ 0 0 _ _ [vI z1] _
  obtain ⟨a1, a2, a3, a4, a5, a6, a7, a8, a9, a10⟩ := ab_eq hf1
  have hc := r_b_wipe (i := i1) (l := l1) (by rw [a1, a2, a3, a4, a5, a6, a7]; exact hJ.B) (by rw [a10]; exact hJ.2.2) 
  rw [a1, a2, a3, a4, a5, a6, a7, a8, a9] at hc
  refine x_aload_n 184 rfl rfl ?_
  refine x_callV 185 m_X9_wipe hc rfl ok_X9_wipe (n_lt rfl) k_189 rfl rfl ml_L_59 im_X9_wipe se_X9_wipe rfl (by decide) rfl (Nat.le_of_ble_eq_true rfl) rfl rfl (fun v g q2 => ?_)
  obtain ⟨z2, i2, l2, rfl, rfl, hz2, hl2, he2, hF2, hf2⟩ := q2
  show mX (m_L_law q) 10 _ 0 0 _ _ [vI z2, vI z1] _
  have hJ2 : jB i2 l2 := by rw [hl2]; exact jB_next (ok_wipe hJ.B) hR1 hf2 he2 hF2
  exact x_icmp_eqT 186 (tgt := 810) rfl (by decide) (hz1.trans hz2.symm) (hgo i2 l2 hJ2)
set_option maxRecDepth 20000 in
theorem lc_fault {q : Nat × (Nat → Int32)} {i : Nat → Int → Int} {l : Nat → Int → BitVec 64} {x : Int} (hx : 0 ≤ x ∧ x + 3 ≤ q.1 ∧ q.1 ≤ 1536) (hJ : jB i l) (hgo : ∀ i2 l2, jB i2 l2 → mX (m_L_law q) 10 qOne 0 0 810 (lX x) [] (st i2 l2)) : mX (m_L_law q) 10 qOne 0 0 385 (lX x) [] (st i l) := by
  obtain ⟨v1, hv1⟩ : ∃ z, z = (q.2 (x + 1).toNat).toInt := ⟨_, rfl⟩
  have r1 : -2147483648 ≤ v1 ∧ v1 < 2147483648 := by rw [hv1]; exact mI_rg _
  refine x_aload_n 189 rfl rfl ?_
  refine x_tload_n 190 rfl rfl ?_
  refine x_iload_n 191 rfl rfl ?_
  refine x_iconst 192 rfl ?_
  refine x_iadd 193 (r := x + 1) rfl rfl ?_
  refine x_sld 194 rfl rfl (by omega) hv1.symm ?_
  refine x_callV 195 m_X8_fault (c_b_fault hJ.R hJ.B r1) rfl ok_X8_fault (n_lt rfl) k_0 rfl rfl ml_L_60 im_X8_fault se_X8_fault rfl (by decide) rfl (Nat.le_of_ble_eq_true rfl) rfl rfl (fun v g q1 => ?_)
  obtain ⟨z1, i1, l1, rfl, rfl, hz1, hR1, hf1⟩ := q1
  show mX (m_L_law q) 10 _ 0 0 _ _ [vI z1] _
  obtain ⟨a1, a2, a3, a4, a5, a6, a7, a8, a9, a10⟩ := ab_eq hf1
  have hc := r_b_fault (i := i1) (l := l1) (by rw [a1, a2, a3, a4, a5, a6, a7]; exact hJ.B) (by rw [a10]; exact hJ.2.2) r1
  rw [a1, a2, a3, a4, a5, a6, a7, a8, a9] at hc
  refine x_aload_n 196 rfl rfl ?_
  refine x_tload_n 197 rfl rfl ?_
  refine x_iload_n 198 rfl rfl ?_
  refine x_iconst 199 rfl ?_
  refine x_iadd 200 (r := x + 1) rfl rfl ?_
  refine x_sld 201 rfl rfl (by omega) hv1.symm ?_
  refine x_callV 202 m_X9_fault hc rfl ok_X9_fault (n_lt rfl) k_189 rfl rfl ml_L_63 im_X9_fault se_X9_fault rfl (by decide) rfl (Nat.le_of_ble_eq_true rfl) rfl rfl (fun v g q2 => ?_)
  obtain ⟨z2, i2, l2, rfl, rfl, hz2, hl2, he2, hF2, hf2⟩ := q2
  show mX (m_L_law q) 10 _ 0 0 _ _ [vI z2, vI z1] _
  have hJ2 : jB i2 l2 := by rw [hl2]; exact jB_next (ok_ask hJ.B _) hR1 hf2 he2 hF2
  exact x_icmp_eqT 203 (tgt := 810) rfl (by decide) (hz1.trans hz2.symm) (hgo i2 l2 hJ2)
set_option maxRecDepth 20000 in
theorem lc_told {q : Nat × (Nat → Int32)} {i : Nat → Int → Int} {l : Nat → Int → BitVec 64} {x : Int} (hx : 0 ≤ x ∧ x + 3 ≤ q.1 ∧ q.1 ≤ 1536) (hJ : jB i l) (hgo : ∀ i2 l2, jB i2 l2 → mX (m_L_law q) 10 qOne 0 0 810 (lX x) [] (st i2 l2)) : mX (m_L_law q) 10 qOne 0 0 408 (lX x) [] (st i l) := by
  obtain ⟨v1, hv1⟩ : ∃ z, z = (q.2 (x + 1).toNat).toInt := ⟨_, rfl⟩
  have r1 : -2147483648 ≤ v1 ∧ v1 < 2147483648 := by rw [hv1]; exact mI_rg _
  refine x_aload_n 206 rfl rfl ?_
  refine x_tload_n 207 rfl rfl ?_
  refine x_iload_n 208 rfl rfl ?_
  refine x_iconst 209 rfl ?_
  refine x_iadd 210 (r := x + 1) rfl rfl ?_
  refine x_sld 211 rfl rfl (by omega) hv1.symm ?_
  refine x_callV 212 m_X8_told (c_b_told hJ.R hJ.B r1) rfl ok_X8_told (n_lt rfl) k_0 rfl rfl ml_L_64 im_X8_told se_X8_told rfl (by decide) rfl (Nat.le_of_ble_eq_true rfl) rfl rfl (fun v g q1 => ?_)
  obtain ⟨z1, i1, l1, rfl, rfl, hz1, hR1, hf1⟩ := q1
  show mX (m_L_law q) 10 _ 0 0 _ _ [vI z1] _
  obtain ⟨a1, a2, a3, a4, a5, a6, a7, a8, a9, a10⟩ := ab_eq hf1
  have hc := r_b_told (i := i1) (l := l1) (by rw [a1, a2, a3, a4, a5, a6, a7]; exact hJ.B) (by rw [a10]; exact hJ.2.2) r1
  rw [a1, a2, a3, a4, a5, a6, a7, a8, a9] at hc
  refine x_aload_n 213 rfl rfl ?_
  refine x_tload_n 214 rfl rfl ?_
  refine x_iload_n 215 rfl rfl ?_
  refine x_iconst 216 rfl ?_
  refine x_iadd 217 (r := x + 1) rfl rfl ?_
  refine x_sld 218 rfl rfl (by omega) hv1.symm ?_
  refine x_callV 219 m_X9_told hc rfl ok_X9_told (n_lt rfl) k_189 rfl rfl ml_L_67 im_X9_told se_X9_told rfl (by decide) rfl (Nat.le_of_ble_eq_true rfl) rfl rfl (fun v g q2 => ?_)
  obtain ⟨z2, i2, l2, rfl, rfl, hz2, hl2, he2, hF2, hf2⟩ := q2
  show mX (m_L_law q) 10 _ 0 0 _ _ [vI z2, vI z1] _
  have hJ2 : jB i2 l2 := by rw [hl2]; exact jB_next (ok_ask hJ.B _) hR1 hf2 he2 hF2
  exact x_icmp_eqT 220 (tgt := 810) rfl (by decide) (hz1.trans hz2.symm) (hgo i2 l2 hJ2)
set_option maxRecDepth 20000 in
theorem lc_setting {q : Nat × (Nat → Int32)} {i : Nat → Int → Int} {l : Nat → Int → BitVec 64} {x : Int} (hx : 0 ≤ x ∧ x + 3 ≤ q.1 ∧ q.1 ≤ 1536) (hJ : jB i l) (hgo : ∀ i2 l2, jB i2 l2 → mX (m_L_law q) 10 qOne 0 0 810 (lX x) [] (st i2 l2)) : mX (m_L_law q) 10 qOne 0 0 431 (lX x) [] (st i l) := by
  obtain ⟨v1, hv1⟩ : ∃ z, z = (q.2 (x + 1).toNat).toInt := ⟨_, rfl⟩
  have r1 : -2147483648 ≤ v1 ∧ v1 < 2147483648 := by rw [hv1]; exact mI_rg _
  refine x_aload_n 223 rfl rfl ?_
  refine x_tload_n 224 rfl rfl ?_
  refine x_iload_n 225 rfl rfl ?_
  refine x_iconst 226 rfl ?_
  refine x_iadd 227 (r := x + 1) rfl rfl ?_
  refine x_sld 228 rfl rfl (by omega) hv1.symm ?_
  refine x_callV 229 m_X8_setting (c_b_setting hJ.R hJ.B r1) rfl ok_X8_setting (n_lt rfl) k_0 rfl rfl ml_L_68 im_X8_setting se_X8_setting rfl (by decide) rfl (Nat.le_of_ble_eq_true rfl) rfl rfl (fun v g q1 => ?_)
  obtain ⟨z1, i1, l1, rfl, rfl, hz1, hR1, hf1⟩ := q1
  show mX (m_L_law q) 10 _ 0 0 _ _ [vI z1] _
  obtain ⟨a1, a2, a3, a4, a5, a6, a7, a8, a9, a10⟩ := ab_eq hf1
  have hc := r_b_setting (i := i1) (l := l1) (by rw [a1, a2, a3, a4, a5, a6, a7]; exact hJ.B) (by rw [a10]; exact hJ.2.2) r1
  rw [a1, a2, a3, a4, a5, a6, a7, a8, a9] at hc
  refine x_aload_n 230 rfl rfl ?_
  refine x_tload_n 231 rfl rfl ?_
  refine x_iload_n 232 rfl rfl ?_
  refine x_iconst 233 rfl ?_
  refine x_iadd 234 (r := x + 1) rfl rfl ?_
  refine x_sld 235 rfl rfl (by omega) hv1.symm ?_
  refine x_callV 236 m_X9_setting hc rfl ok_X9_setting (n_lt rfl) k_189 rfl rfl ml_L_71 im_X9_setting se_X9_setting rfl (by decide) rfl (Nat.le_of_ble_eq_true rfl) rfl rfl (fun v g q2 => ?_)
  obtain ⟨z2, i2, l2, rfl, rfl, hz2, hl2, he2, hF2, hf2⟩ := q2
  show mX (m_L_law q) 10 _ 0 0 _ _ [vI z2, vI z1] _
  have hJ2 : jB i2 l2 := by rw [hl2]; exact jB_next (ok_ask hJ.B _) hR1 hf2 he2 hF2
  exact x_icmp_eqT 237 (tgt := 810) rfl (by decide) (hz1.trans hz2.symm) (hgo i2 l2 hJ2)
set_option maxRecDepth 20000 in
theorem lc_singer {q : Nat × (Nat → Int32)} {i : Nat → Int → Int} {l : Nat → Int → BitVec 64} {x : Int} (hx : 0 ≤ x ∧ x + 3 ≤ q.1 ∧ q.1 ≤ 1536) (hJ : jB i l) (hgo : ∀ i2 l2, jB i2 l2 → mX (m_L_law q) 10 qOne 0 0 810 (lX x) [] (st i2 l2)) : mX (m_L_law q) 10 qOne 0 0 454 (lX x) [] (st i l) := by
  obtain ⟨v1, hv1⟩ : ∃ z, z = (q.2 (x + 1).toNat).toInt := ⟨_, rfl⟩
  have r1 : -2147483648 ≤ v1 ∧ v1 < 2147483648 := by rw [hv1]; exact mI_rg _
  obtain ⟨v2, hv2⟩ : ∃ z, z = (q.2 (x + 2).toNat).toInt := ⟨_, rfl⟩
  have r2 : -2147483648 ≤ v2 ∧ v2 < 2147483648 := by rw [hv2]; exact mI_rg _
  refine x_aload_n 240 rfl rfl ?_
  refine x_tload_n 241 rfl rfl ?_
  refine x_iload_n 242 rfl rfl ?_
  refine x_iconst 243 rfl ?_
  refine x_iadd 244 (r := x + 1) rfl rfl ?_
  refine x_sld 245 rfl rfl (by omega) hv1.symm ?_
  refine x_tload_n 246 rfl rfl ?_
  refine x_iload_n 247 rfl rfl ?_
  refine x_iconst 248 rfl ?_
  refine x_iadd 249 (r := x + 2) rfl rfl ?_
  refine x_sld 250 rfl rfl (by omega) hv2.symm ?_
  refine x_callV 251 m_X8_singer (c_b_singer hJ.R hJ.B r1 r2) rfl ok_X8_singer (n_lt rfl) k_0 rfl rfl ml_L_72 im_X8_singer se_X8_singer rfl (by decide) rfl (Nat.le_of_ble_eq_true rfl) rfl rfl (fun v g q1 => ?_)
  obtain ⟨z1, i1, l1, rfl, rfl, hz1, hR1, hf1⟩ := q1
  show mX (m_L_law q) 10 _ 0 0 _ _ [vI z1] _
  obtain ⟨a1, a2, a3, a4, a5, a6, a7, a8, a9, a10⟩ := ab_eq hf1
  have hc := r_b_singer (i := i1) (l := l1) (by rw [a1, a2, a3, a4, a5, a6, a7]; exact hJ.B) (by rw [a10]; exact hJ.2.2) r1 r2
  rw [a1, a2, a3, a4, a5, a6, a7, a8, a9] at hc
  refine x_aload_n 252 rfl rfl ?_
  refine x_tload_n 253 rfl rfl ?_
  refine x_iload_n 254 rfl rfl ?_
  refine x_iconst 255 rfl ?_
  refine x_iadd 256 (r := x + 1) rfl rfl ?_
  refine x_sld 257 rfl rfl (by omega) hv1.symm ?_
  refine x_tload_n 258 rfl rfl ?_
  refine x_iload_n 259 rfl rfl ?_
  refine x_iconst 260 rfl ?_
  refine x_iadd 261 (r := x + 2) rfl rfl ?_
  refine x_sld 262 rfl rfl (by omega) hv2.symm ?_
  refine x_callV 263 m_X9_singer hc rfl ok_X9_singer (n_lt rfl) k_189 rfl rfl ml_L_75 im_X9_singer se_X9_singer rfl (by decide) rfl (Nat.le_of_ble_eq_true rfl) rfl rfl (fun v g q2 => ?_)
  obtain ⟨z2, i2, l2, rfl, rfl, hz2, hl2, he2, hF2, hf2⟩ := q2
  show mX (m_L_law q) 10 _ 0 0 _ _ [vI z2, vI z1] _
  have hJ2 : jB i2 l2 := by rw [hl2]; exact jB_next (ok_ask hJ.B _) hR1 hf2 he2 hF2
  exact x_icmp_eqT 264 (tgt := 810) rfl (by decide) (hz1.trans hz2.symm) (hgo i2 l2 hJ2)
set_option maxRecDepth 20000 in
theorem lc_note {q : Nat × (Nat → Int32)} {i : Nat → Int → Int} {l : Nat → Int → BitVec 64} {x : Int} (hx : 0 ≤ x ∧ x + 3 ≤ q.1 ∧ q.1 ≤ 1536) (hJ : jB i l) (hgo : ∀ i2 l2, jB i2 l2 → mX (m_L_law q) 10 qOne 0 0 810 (lX x) [] (st i2 l2)) : mX (m_L_law q) 10 qOne 0 0 487 (lX x) [] (st i l) := by
  obtain ⟨v1, hv1⟩ : ∃ z, z = (q.2 (x + 1).toNat).toInt := ⟨_, rfl⟩
  have r1 : -2147483648 ≤ v1 ∧ v1 < 2147483648 := by rw [hv1]; exact mI_rg _
  obtain ⟨v2, hv2⟩ : ∃ z, z = (q.2 (x + 2).toNat).toInt := ⟨_, rfl⟩
  have r2 : -2147483648 ≤ v2 ∧ v2 < 2147483648 := by rw [hv2]; exact mI_rg _
  refine x_aload_n 267 rfl rfl ?_
  refine x_tload_n 268 rfl rfl ?_
  refine x_iload_n 269 rfl rfl ?_
  refine x_iconst 270 rfl ?_
  refine x_iadd 271 (r := x + 1) rfl rfl ?_
  refine x_sld 272 rfl rfl (by omega) hv1.symm ?_
  refine x_tload_n 273 rfl rfl ?_
  refine x_iload_n 274 rfl rfl ?_
  refine x_iconst 275 rfl ?_
  refine x_iadd 276 (r := x + 2) rfl rfl ?_
  refine x_sld 277 rfl rfl (by omega) hv2.symm ?_
  refine x_callV 278 m_X8_note (c_b_note hJ.R hJ.B r1 r2) rfl ok_X8_note (n_lt rfl) k_0 rfl rfl ml_L_76 im_X8_note se_X8_note rfl (by decide) rfl (Nat.le_of_ble_eq_true rfl) rfl rfl (fun v g q1 => ?_)
  obtain ⟨z1, i1, l1, rfl, rfl, hz1, hR1, hf1⟩ := q1
  show mX (m_L_law q) 10 _ 0 0 _ _ [vI z1] _
  obtain ⟨a1, a2, a3, a4, a5, a6, a7, a8, a9, a10⟩ := ab_eq hf1
  have hc := r_b_note (i := i1) (l := l1) (by rw [a1, a2, a3, a4, a5, a6, a7]; exact hJ.B) (by rw [a10]; exact hJ.2.2) r1 r2
  rw [a1, a2, a3, a4, a5, a6, a7, a8, a9] at hc
  refine x_aload_n 279 rfl rfl ?_
  refine x_tload_n 280 rfl rfl ?_
  refine x_iload_n 281 rfl rfl ?_
  refine x_iconst 282 rfl ?_
  refine x_iadd 283 (r := x + 1) rfl rfl ?_
  refine x_sld 284 rfl rfl (by omega) hv1.symm ?_
  refine x_tload_n 285 rfl rfl ?_
  refine x_iload_n 286 rfl rfl ?_
  refine x_iconst 287 rfl ?_
  refine x_iadd 288 (r := x + 2) rfl rfl ?_
  refine x_sld 289 rfl rfl (by omega) hv2.symm ?_
  refine x_callV 290 m_X9_note hc rfl ok_X9_note (n_lt rfl) k_189 rfl rfl ml_L_79 im_X9_note se_X9_note rfl (by decide) rfl (Nat.le_of_ble_eq_true rfl) rfl rfl (fun v g q2 => ?_)
  obtain ⟨z2, i2, l2, rfl, rfl, hz2, hl2, he2, hF2, hf2⟩ := q2
  show mX (m_L_law q) 10 _ 0 0 _ _ [vI z2, vI z1] _
  have hJ2 : jB i2 l2 := by rw [hl2]; exact jB_next (ok_ask hJ.B _) hR1 hf2 he2 hF2
  exact x_icmp_eqT 291 (tgt := 810) rfl (by decide) (hz1.trans hz2.symm) (hgo i2 l2 hJ2)
set_option maxRecDepth 20000 in
theorem lc_overlap {q : Nat × (Nat → Int32)} {i : Nat → Int → Int} {l : Nat → Int → BitVec 64} {x : Int} (hx : 0 ≤ x ∧ x + 3 ≤ q.1 ∧ q.1 ≤ 1536) (hJ : jB i l) (hgo : ∀ i2 l2, jB i2 l2 → mX (m_L_law q) 10 qOne 0 0 810 (lX x) [] (st i2 l2)) : mX (m_L_law q) 10 qOne 0 0 520 (lX x) [] (st i l) := by
  obtain ⟨v1, hv1⟩ : ∃ z, z = (q.2 (x + 1).toNat).toInt := ⟨_, rfl⟩
  have r1 : -2147483648 ≤ v1 ∧ v1 < 2147483648 := by rw [hv1]; exact mI_rg _
  obtain ⟨v2, hv2⟩ : ∃ z, z = (q.2 (x + 2).toNat).toInt := ⟨_, rfl⟩
  have r2 : -2147483648 ≤ v2 ∧ v2 < 2147483648 := by rw [hv2]; exact mI_rg _
  refine x_aload_n 294 rfl rfl ?_
  refine x_tload_n 295 rfl rfl ?_
  refine x_iload_n 296 rfl rfl ?_
  refine x_iconst 297 rfl ?_
  refine x_iadd 298 (r := x + 1) rfl rfl ?_
  refine x_sld 299 rfl rfl (by omega) hv1.symm ?_
  refine x_tload_n 300 rfl rfl ?_
  refine x_iload_n 301 rfl rfl ?_
  refine x_iconst 302 rfl ?_
  refine x_iadd 303 (r := x + 2) rfl rfl ?_
  refine x_sld 304 rfl rfl (by omega) hv2.symm ?_
  refine x_callV 305 m_X8_overlap (c_b_overlap hJ.R hJ.B r1 r2) rfl ok_X8_overlap (n_lt rfl) k_0 rfl rfl ml_L_80 im_X8_overlap se_X8_overlap rfl (by decide) rfl (Nat.le_of_ble_eq_true rfl) rfl rfl (fun v g q1 => ?_)
  obtain ⟨z1, i1, l1, rfl, rfl, hz1, hR1, hf1⟩ := q1
  show mX (m_L_law q) 10 _ 0 0 _ _ [vI z1] _
  obtain ⟨a1, a2, a3, a4, a5, a6, a7, a8, a9, a10⟩ := ab_eq hf1
  have hc := r_b_overlap (i := i1) (l := l1) (by rw [a1, a2, a3, a4, a5, a6, a7]; exact hJ.B) (by rw [a10]; exact hJ.2.2) r1 r2
  rw [a1, a2, a3, a4, a5, a6, a7, a8, a9] at hc
  refine x_aload_n 306 rfl rfl ?_
  refine x_tload_n 307 rfl rfl ?_
  refine x_iload_n 308 rfl rfl ?_
  refine x_iconst 309 rfl ?_
  refine x_iadd 310 (r := x + 1) rfl rfl ?_
  refine x_sld 311 rfl rfl (by omega) hv1.symm ?_
  refine x_tload_n 312 rfl rfl ?_
  refine x_iload_n 313 rfl rfl ?_
  refine x_iconst 314 rfl ?_
  refine x_iadd 315 (r := x + 2) rfl rfl ?_
  refine x_sld 316 rfl rfl (by omega) hv2.symm ?_
  refine x_callV 317 m_X9_overlap hc rfl ok_X9_overlap (n_lt rfl) k_189 rfl rfl ml_L_83 im_X9_overlap se_X9_overlap rfl (by decide) rfl (Nat.le_of_ble_eq_true rfl) rfl rfl (fun v g q2 => ?_)
  obtain ⟨z2, i2, l2, rfl, rfl, hz2, hl2, he2, hF2, hf2⟩ := q2
  show mX (m_L_law q) 10 _ 0 0 _ _ [vI z2, vI z1] _
  have hJ2 : jB i2 l2 := by rw [hl2]; exact jB_next (ok_ask hJ.B _) hR1 hf2 he2 hF2
  exact x_icmp_eqT 318 (tgt := 810) rfl (by decide) (hz1.trans hz2.symm) (hgo i2 l2 hJ2)
set_option maxRecDepth 20000 in
theorem lc_part {q : Nat × (Nat → Int32)} {i : Nat → Int → Int} {l : Nat → Int → BitVec 64} {x : Int} (hx : 0 ≤ x ∧ x + 3 ≤ q.1 ∧ q.1 ≤ 1536) (hJ : jB i l) (hgo : ∀ i2 l2, jB i2 l2 → mX (m_L_law q) 10 qOne 0 0 810 (lX x) [] (st i2 l2)) : mX (m_L_law q) 10 qOne 0 0 553 (lX x) [] (st i l) := by
  obtain ⟨v1, hv1⟩ : ∃ z, z = (q.2 (x + 1).toNat).toInt := ⟨_, rfl⟩
  have r1 : -2147483648 ≤ v1 ∧ v1 < 2147483648 := by rw [hv1]; exact mI_rg _
  obtain ⟨v2, hv2⟩ : ∃ z, z = (q.2 (x + 2).toNat).toInt := ⟨_, rfl⟩
  have r2 : -2147483648 ≤ v2 ∧ v2 < 2147483648 := by rw [hv2]; exact mI_rg _
  refine x_aload_n 321 rfl rfl ?_
  refine x_tload_n 322 rfl rfl ?_
  refine x_iload_n 323 rfl rfl ?_
  refine x_iconst 324 rfl ?_
  refine x_iadd 325 (r := x + 1) rfl rfl ?_
  refine x_sld 326 rfl rfl (by omega) hv1.symm ?_
  refine x_tload_n 327 rfl rfl ?_
  refine x_iload_n 328 rfl rfl ?_
  refine x_iconst 329 rfl ?_
  refine x_iadd 330 (r := x + 2) rfl rfl ?_
  refine x_sld 331 rfl rfl (by omega) hv2.symm ?_
  refine x_callV 332 m_X8_part (c_b_part hJ.R hJ.B r1 r2) rfl ok_X8_part (n_lt rfl) k_0 rfl rfl ml_L_84 im_X8_part se_X8_part rfl (by decide) rfl (Nat.le_of_ble_eq_true rfl) rfl rfl (fun v g q1 => ?_)
  obtain ⟨z1, i1, l1, rfl, rfl, hz1, hR1, hf1⟩ := q1
  show mX (m_L_law q) 10 _ 0 0 _ _ [vI z1] _
  obtain ⟨a1, a2, a3, a4, a5, a6, a7, a8, a9, a10⟩ := ab_eq hf1
  have hc := r_b_part (i := i1) (l := l1) (by rw [a1, a2, a3, a4, a5, a6, a7]; exact hJ.B) (by rw [a10]; exact hJ.2.2) r1 r2
  rw [a1, a2, a3, a4, a5, a6, a7, a8, a9] at hc
  refine x_aload_n 333 rfl rfl ?_
  refine x_tload_n 334 rfl rfl ?_
  refine x_iload_n 335 rfl rfl ?_
  refine x_iconst 336 rfl ?_
  refine x_iadd 337 (r := x + 1) rfl rfl ?_
  refine x_sld 338 rfl rfl (by omega) hv1.symm ?_
  refine x_tload_n 339 rfl rfl ?_
  refine x_iload_n 340 rfl rfl ?_
  refine x_iconst 341 rfl ?_
  refine x_iadd 342 (r := x + 2) rfl rfl ?_
  refine x_sld 343 rfl rfl (by omega) hv2.symm ?_
  refine x_callV 344 m_X9_part hc rfl ok_X9_part (n_lt rfl) k_189 rfl rfl ml_L_87 im_X9_part se_X9_part rfl (by decide) rfl (Nat.le_of_ble_eq_true rfl) rfl rfl (fun v g q2 => ?_)
  obtain ⟨z2, i2, l2, rfl, rfl, hz2, hl2, he2, hF2, hf2⟩ := q2
  show mX (m_L_law q) 10 _ 0 0 _ _ [vI z2, vI z1] _
  have hJ2 : jB i2 l2 := by rw [hl2]; exact jB_next (ok_ask hJ.B _) hR1 hf2 he2 hF2
  exact x_icmp_eqT 345 (tgt := 810) rfl (by decide) (hz1.trans hz2.symm) (hgo i2 l2 hJ2)
set_option maxRecDepth 20000 in
theorem lc_seat {q : Nat × (Nat → Int32)} {i : Nat → Int → Int} {l : Nat → Int → BitVec 64} {x : Int} (hx : 0 ≤ x ∧ x + 3 ≤ q.1 ∧ q.1 ≤ 1536) (hJ : jB i l) (hgo : ∀ i2 l2, jB i2 l2 → mX (m_L_law q) 10 qOne 0 0 810 (lX x) [] (st i2 l2)) : mX (m_L_law q) 10 qOne 0 0 586 (lX x) [] (st i l) := by
  obtain ⟨v1, hv1⟩ : ∃ z, z = (q.2 (x + 1).toNat).toInt := ⟨_, rfl⟩
  have r1 : -2147483648 ≤ v1 ∧ v1 < 2147483648 := by rw [hv1]; exact mI_rg _
  obtain ⟨v2, hv2⟩ : ∃ z, z = (q.2 (x + 2).toNat).toInt := ⟨_, rfl⟩
  have r2 : -2147483648 ≤ v2 ∧ v2 < 2147483648 := by rw [hv2]; exact mI_rg _
  refine x_aload_n 348 rfl rfl ?_
  refine x_tload_n 349 rfl rfl ?_
  refine x_iload_n 350 rfl rfl ?_
  refine x_iconst 351 rfl ?_
  refine x_iadd 352 (r := x + 1) rfl rfl ?_
  refine x_sld 353 rfl rfl (by omega) hv1.symm ?_
  refine x_tload_n 354 rfl rfl ?_
  refine x_iload_n 355 rfl rfl ?_
  refine x_iconst 356 rfl ?_
  refine x_iadd 357 (r := x + 2) rfl rfl ?_
  refine x_sld 358 rfl rfl (by omega) hv2.symm ?_
  refine x_callV 359 m_X8_seat (c_b_seat hJ.R hJ.B r1 r2) rfl ok_X8_seat (n_lt rfl) k_0 rfl rfl ml_L_88 im_X8_seat se_X8_seat rfl (by decide) rfl (Nat.le_of_ble_eq_true rfl) rfl rfl (fun v g q1 => ?_)
  obtain ⟨z1, i1, l1, rfl, rfl, hz1, hR1, hf1⟩ := q1
  show mX (m_L_law q) 10 _ 0 0 _ _ [vI z1] _
  obtain ⟨a1, a2, a3, a4, a5, a6, a7, a8, a9, a10⟩ := ab_eq hf1
  have hc := r_b_seat (i := i1) (l := l1) (by rw [a1, a2, a3, a4, a5, a6, a7]; exact hJ.B) (by rw [a10]; exact hJ.2.2) r1 r2
  rw [a1, a2, a3, a4, a5, a6, a7, a8, a9] at hc
  refine x_aload_n 360 rfl rfl ?_
  refine x_tload_n 361 rfl rfl ?_
  refine x_iload_n 362 rfl rfl ?_
  refine x_iconst 363 rfl ?_
  refine x_iadd 364 (r := x + 1) rfl rfl ?_
  refine x_sld 365 rfl rfl (by omega) hv1.symm ?_
  refine x_tload_n 366 rfl rfl ?_
  refine x_iload_n 367 rfl rfl ?_
  refine x_iconst 368 rfl ?_
  refine x_iadd 369 (r := x + 2) rfl rfl ?_
  refine x_sld 370 rfl rfl (by omega) hv2.symm ?_
  refine x_callV 371 m_X9_seat hc rfl ok_X9_seat (n_lt rfl) k_189 rfl rfl ml_L_91 im_X9_seat se_X9_seat rfl (by decide) rfl (Nat.le_of_ble_eq_true rfl) rfl rfl (fun v g q2 => ?_)
  obtain ⟨z2, i2, l2, rfl, rfl, hz2, hl2, he2, hF2, hf2⟩ := q2
  show mX (m_L_law q) 10 _ 0 0 _ _ [vI z2, vI z1] _
  have hJ2 : jB i2 l2 := by rw [hl2]; exact jB_next (ok_ask hJ.B _) hR1 hf2 he2 hF2
  exact x_icmp_eqT 372 (tgt := 810) rfl (by decide) (hz1.trans hz2.symm) (hgo i2 l2 hJ2)
set_option maxRecDepth 20000 in
theorem lc_solo {q : Nat × (Nat → Int32)} {i : Nat → Int → Int} {l : Nat → Int → BitVec 64} {x : Int} (hx : 0 ≤ x ∧ x + 3 ≤ q.1 ∧ q.1 ≤ 1536) (hJ : jB i l) (hgo : ∀ i2 l2, jB i2 l2 → mX (m_L_law q) 10 qOne 0 0 810 (lX x) [] (st i2 l2)) : mX (m_L_law q) 10 qOne 0 0 619 (lX x) [] (st i l) := by
  obtain ⟨v1, hv1⟩ : ∃ z, z = (q.2 (x + 1).toNat).toInt := ⟨_, rfl⟩
  have r1 : -2147483648 ≤ v1 ∧ v1 < 2147483648 := by rw [hv1]; exact mI_rg _
  obtain ⟨v2, hv2⟩ : ∃ z, z = (q.2 (x + 2).toNat).toInt := ⟨_, rfl⟩
  have r2 : -2147483648 ≤ v2 ∧ v2 < 2147483648 := by rw [hv2]; exact mI_rg _
  refine x_aload_n 375 rfl rfl ?_
  refine x_tload_n 376 rfl rfl ?_
  refine x_iload_n 377 rfl rfl ?_
  refine x_iconst 378 rfl ?_
  refine x_iadd 379 (r := x + 1) rfl rfl ?_
  refine x_sld 380 rfl rfl (by omega) hv1.symm ?_
  refine x_tload_n 381 rfl rfl ?_
  refine x_iload_n 382 rfl rfl ?_
  refine x_iconst 383 rfl ?_
  refine x_iadd 384 (r := x + 2) rfl rfl ?_
  refine x_sld 385 rfl rfl (by omega) hv2.symm ?_
  refine x_callV 386 m_X8_solo (c_b_solo hJ.R hJ.B r1 r2) rfl ok_X8_solo (n_lt rfl) k_0 rfl rfl ml_L_92 im_X8_solo se_X8_solo rfl (by decide) rfl (Nat.le_of_ble_eq_true rfl) rfl rfl (fun v g q1 => ?_)
  obtain ⟨z1, i1, l1, rfl, rfl, hz1, hR1, hf1⟩ := q1
  show mX (m_L_law q) 10 _ 0 0 _ _ [vI z1] _
  obtain ⟨a1, a2, a3, a4, a5, a6, a7, a8, a9, a10⟩ := ab_eq hf1
  have hc := r_b_solo (i := i1) (l := l1) (by rw [a1, a2, a3, a4, a5, a6, a7]; exact hJ.B) (by rw [a10]; exact hJ.2.2) r1 r2
  rw [a1, a2, a3, a4, a5, a6, a7, a8, a9] at hc
  refine x_aload_n 387 rfl rfl ?_
  refine x_tload_n 388 rfl rfl ?_
  refine x_iload_n 389 rfl rfl ?_
  refine x_iconst 390 rfl ?_
  refine x_iadd 391 (r := x + 1) rfl rfl ?_
  refine x_sld 392 rfl rfl (by omega) hv1.symm ?_
  refine x_tload_n 393 rfl rfl ?_
  refine x_iload_n 394 rfl rfl ?_
  refine x_iconst 395 rfl ?_
  refine x_iadd 396 (r := x + 2) rfl rfl ?_
  refine x_sld 397 rfl rfl (by omega) hv2.symm ?_
  refine x_callV 398 m_X9_solo hc rfl ok_X9_solo (n_lt rfl) k_189 rfl rfl ml_L_95 im_X9_solo se_X9_solo rfl (by decide) rfl (Nat.le_of_ble_eq_true rfl) rfl rfl (fun v g q2 => ?_)
  obtain ⟨z2, i2, l2, rfl, rfl, hz2, hl2, he2, hF2, hf2⟩ := q2
  show mX (m_L_law q) 10 _ 0 0 _ _ [vI z2, vI z1] _
  have hJ2 : jB i2 l2 := by rw [hl2]; exact jB_next (ok_ask hJ.B _) hR1 hf2 he2 hF2
  exact x_icmp_eqT 399 (tgt := 810) rfl (by decide) (hz1.trans hz2.symm) (hgo i2 l2 hJ2)
set_option maxRecDepth 20000 in
theorem lc_mean {q : Nat × (Nat → Int32)} {i : Nat → Int → Int} {l : Nat → Int → BitVec 64} {x : Int} (hx : 0 ≤ x ∧ x + 3 ≤ q.1 ∧ q.1 ≤ 1536) (hJ : jB i l) (hgo : ∀ i2 l2, jB i2 l2 → mX (m_L_law q) 10 qOne 0 0 810 (lX x) [] (st i2 l2)) : mX (m_L_law q) 10 qOne 0 0 652 (lX x) [] (st i l) := by
  have hW : okW (i 190) := hJ.B.1
  have hb := gTot_bd hW
  obtain ⟨D, hD⟩ : ∃ D, D = FP.f2d (mnF (gTot (i 190))) := ⟨_, rfl⟩
  have hn : vf_n64 D := by rw [hD]; exact (mn_ok hb).2
  have hc : Op.cmpValue (FP.dcmp D D) .l = Int32.ofInt 0 := by rw [hD]; exact mn_cmp hb
  refine x_aload_n 402 rfl rfl ?_
  refine x_callV 403 m_X8_mean (c_b_mean hJ.R hJ.B) rfl ok_X8_mean (n_lt rfl) k_0 rfl rfl ml_L_96 im_X8_mean se_X8_mean rfl (by decide) rfl (Nat.le_of_ble_eq_true rfl) rfl rfl (fun v g q1 => ?_)
  obtain ⟨rfl, rfl⟩ := q1
  show mX (m_L_law q) 10 _ 0 0 _ _ [vF (mnF (gTot (i 190)))] _
  refine x_f2d 404 (r := D) rfl hD.symm hn ?_
  refine x_dstore 405 (L' := [some (vT 4), some (vR (some 0)), some (vR (some 189)), some (vI x), some (vD D), none, none, none]) rfl (show 4 + 1 < 8 by decide) rfl rfl ?_
  refine x_aload_n 406 rfl rfl ?_
  refine x_callV 407 m_X9_mean (r_b_mean hJ.B hJ.2.2) rfl ok_X9_mean (n_lt rfl) k_189 rfl rfl ml_L_100 im_X9_mean se_X9_mean rfl (by decide) rfl (Nat.le_of_ble_eq_true rfl) rfl rfl (fun v g q1 => ?_)
  obtain ⟨rfl, rfl⟩ := q1
  show mX (m_L_law q) 10 _ 0 0 _ _ [vF (mnF (gTot (i 190)))] _
  refine x_f2d 408 (r := D) rfl hD.symm hn ?_
  refine x_dstore 409 (L' := [some (vT 4), some (vR (some 0)), some (vR (some 189)), some (vI x), some (vD D), none, some (vD D), none]) rfl (show 6 + 1 < 8 by decide) rfl rfl ?_
  refine x_dload 410 rfl rfl ?_
  refine x_dload 411 rfl rfl ?_
  refine x_dcmp 412 (r := 0) rfl hc ?_
  refine x_if_eq 413 (tgt := 692) rfl (by decide) (by decide) (fun _ => ?_) (fun h => absurd h (by decide))
  refine x_goto 424 (tgt := 810) rfl (by decide) ?_
  refine x_dropL (L' := [some (vT 4), some (vR (some 0)), some (vR (some 189)), some (vI x), none, none, none, none]) ⟨rfl, ⟨rfl, ⟨rfl, ⟨rfl, True.intro⟩⟩⟩⟩ ?_
  exact hgo i l hJ
set_option maxRecDepth 20000 in
theorem lc_standIn {q : Nat × (Nat → Int32)} {i : Nat → Int → Int} {l : Nat → Int → BitVec 64} {x : Int} (hx : 0 ≤ x ∧ x + 3 ≤ q.1 ∧ q.1 ≤ 1536) (hJ : jB i l) (hgo : ∀ i2 l2, jB i2 l2 → mX (m_L_law q) 10 qOne 0 0 810 (lX x) [] (st i2 l2)) : mX (m_L_law q) 10 qOne 0 0 695 (lX x) [] (st i l) := by
  obtain ⟨v1, hv1⟩ : ∃ z, z = (q.2 (x + 1).toNat).toInt := ⟨_, rfl⟩
  have r1 : -2147483648 ≤ v1 ∧ v1 < 2147483648 := by rw [hv1]; exact mI_rg _
  refine x_aload_n 425 rfl rfl ?_
  refine x_tload_n 426 rfl rfl ?_
  refine x_iload_n 427 rfl rfl ?_
  refine x_iconst 428 rfl ?_
  refine x_iadd 429 (r := x + 1) rfl rfl ?_
  refine x_sld 430 rfl rfl (by omega) hv1.symm ?_
  refine x_callV 431 m_X8_standIn (c_b_standIn hJ.R hJ.B r1) rfl ok_X8_standIn (n_lt rfl) k_0 rfl rfl ml_L_101 im_X8_standIn se_X8_standIn rfl (by decide) rfl (Nat.le_of_ble_eq_true rfl) rfl rfl (fun v g q1 => ?_)
  obtain ⟨z1, i1, l1, rfl, rfl, hz1, hR1, hf1⟩ := q1
  show mX (m_L_law q) 10 _ 0 0 _ _ [vI z1] _
  obtain ⟨a1, a2, a3, a4, a5, a6, a7, a8, a9, a10⟩ := ab_eq hf1
  have hc := r_b_standIn (i := i1) (l := l1) (by rw [a1, a2, a3, a4, a5, a6, a7]; exact hJ.B) (by rw [a10]; exact hJ.2.2) r1
  rw [a1, a2, a3, a4, a5, a6, a7, a8, a9] at hc
  refine x_aload_n 432 rfl rfl ?_
  refine x_tload_n 433 rfl rfl ?_
  refine x_iload_n 434 rfl rfl ?_
  refine x_iconst 435 rfl ?_
  refine x_iadd 436 (r := x + 1) rfl rfl ?_
  refine x_sld 437 rfl rfl (by omega) hv1.symm ?_
  refine x_callV 438 m_X9_standIn hc rfl ok_X9_standIn (n_lt rfl) k_189 rfl rfl ml_L_104 im_X9_standIn se_X9_standIn rfl (by decide) rfl (Nat.le_of_ble_eq_true rfl) rfl rfl (fun v g q2 => ?_)
  obtain ⟨z2, i2, l2, rfl, rfl, hz2, hl2, he2, hF2, hf2⟩ := q2
  show mX (m_L_law q) 10 _ 0 0 _ _ [vI z2, vI z1] _
  have hJ2 : jB i2 l2 := by rw [hl2]; exact jB_next (ok_ask hJ.B _) hR1 hf2 he2 hF2
  exact x_icmp_eqT 439 (tgt := 810) rfl (by decide) (hz1.trans hz2.symm) (hgo i2 l2 hJ2)
set_option maxRecDepth 20000 in
theorem lc_passedOver {q : Nat × (Nat → Int32)} {i : Nat → Int → Int} {l : Nat → Int → BitVec 64} {x : Int} (hx : 0 ≤ x ∧ x + 3 ≤ q.1 ∧ q.1 ≤ 1536) (hJ : jB i l) (hgo : ∀ i2 l2, jB i2 l2 → mX (m_L_law q) 10 qOne 0 0 810 (lX x) [] (st i2 l2)) : mX (m_L_law q) 10 qOne 0 0 718 (lX x) [] (st i l) := by
  obtain ⟨v1, hv1⟩ : ∃ z, z = (q.2 (x + 1).toNat).toInt := ⟨_, rfl⟩
  have r1 : -2147483648 ≤ v1 ∧ v1 < 2147483648 := by rw [hv1]; exact mI_rg _
  refine x_aload_n 442 rfl rfl ?_
  refine x_tload_n 443 rfl rfl ?_
  refine x_iload_n 444 rfl rfl ?_
  refine x_iconst 445 rfl ?_
  refine x_iadd 446 (r := x + 1) rfl rfl ?_
  refine x_sld 447 rfl rfl (by omega) hv1.symm ?_
  refine x_callV 448 m_X8_passedOver (c_b_passedOver hJ.R hJ.B r1) rfl ok_X8_passedOver (n_lt rfl) k_0 rfl rfl ml_L_105 im_X8_passedOver se_X8_passedOver rfl (by decide) rfl (Nat.le_of_ble_eq_true rfl) rfl rfl (fun v g q1 => ?_)
  obtain ⟨z1, i1, l1, rfl, rfl, hz1, hR1, hf1⟩ := q1
  show mX (m_L_law q) 10 _ 0 0 _ _ [vI z1] _
  obtain ⟨a1, a2, a3, a4, a5, a6, a7, a8, a9, a10⟩ := ab_eq hf1
  have hc := r_b_passedOver (i := i1) (l := l1) (by rw [a1, a2, a3, a4, a5, a6, a7]; exact hJ.B) (by rw [a10]; exact hJ.2.2) r1
  rw [a1, a2, a3, a4, a5, a6, a7, a8, a9] at hc
  refine x_aload_n 449 rfl rfl ?_
  refine x_tload_n 450 rfl rfl ?_
  refine x_iload_n 451 rfl rfl ?_
  refine x_iconst 452 rfl ?_
  refine x_iadd 453 (r := x + 1) rfl rfl ?_
  refine x_sld 454 rfl rfl (by omega) hv1.symm ?_
  refine x_callV 455 m_X9_passedOver hc rfl ok_X9_passedOver (n_lt rfl) k_189 rfl rfl ml_L_108 im_X9_passedOver se_X9_passedOver rfl (by decide) rfl (Nat.le_of_ble_eq_true rfl) rfl rfl (fun v g q2 => ?_)
  obtain ⟨z2, i2, l2, rfl, rfl, hz2, hl2, he2, hF2, hf2⟩ := q2
  show mX (m_L_law q) 10 _ 0 0 _ _ [vI z2, vI z1] _
  have hJ2 : jB i2 l2 := by rw [hl2]; exact jB_next (ok_ask hJ.B _) hR1 hf2 he2 hF2
  exact x_icmp_eqT 456 (tgt := 810) rfl (by decide) (hz1.trans hz2.symm) (hgo i2 l2 hJ2)
set_option maxRecDepth 20000 in
theorem lc_without {q : Nat × (Nat → Int32)} {i : Nat → Int → Int} {l : Nat → Int → BitVec 64} {x : Int} (hx : 0 ≤ x ∧ x + 3 ≤ q.1 ∧ q.1 ≤ 1536) (hJ : jB i l) (hgo : ∀ i2 l2, jB i2 l2 → mX (m_L_law q) 10 qOne 0 0 810 (lX x) [] (st i2 l2)) : mX (m_L_law q) 10 qOne 0 0 741 (lX x) [] (st i l) := by
  obtain ⟨v1, hv1⟩ : ∃ z, z = (q.2 (x + 1).toNat).toInt := ⟨_, rfl⟩
  have r1 : -2147483648 ≤ v1 ∧ v1 < 2147483648 := by rw [hv1]; exact mI_rg _
  refine x_aload_n 459 rfl rfl ?_
  refine x_tload_n 460 rfl rfl ?_
  refine x_iload_n 461 rfl rfl ?_
  refine x_iconst 462 rfl ?_
  refine x_iadd 463 (r := x + 1) rfl rfl ?_
  refine x_sld 464 rfl rfl (by omega) hv1.symm ?_
  refine x_callV 465 m_X8_without (c_b_without hJ.R hJ.B r1) rfl ok_X8_without (n_lt rfl) k_0 rfl rfl ml_L_109 im_X8_without se_X8_without rfl (by decide) rfl (Nat.le_of_ble_eq_true rfl) rfl rfl (fun v g q1 => ?_)
  obtain ⟨z1, i1, l1, rfl, rfl, hz1, hR1, hf1⟩ := q1
  show mX (m_L_law q) 10 _ 0 0 _ _ [vI z1] _
  obtain ⟨a1, a2, a3, a4, a5, a6, a7, a8, a9, a10⟩ := ab_eq hf1
  have hc := r_b_without (i := i1) (l := l1) (by rw [a1, a2, a3, a4, a5, a6, a7]; exact hJ.B) (by rw [a10]; exact hJ.2.2) r1
  rw [a1, a2, a3, a4, a5, a6, a7, a8, a9] at hc
  refine x_aload_n 466 rfl rfl ?_
  refine x_tload_n 467 rfl rfl ?_
  refine x_iload_n 468 rfl rfl ?_
  refine x_iconst 469 rfl ?_
  refine x_iadd 470 (r := x + 1) rfl rfl ?_
  refine x_sld 471 rfl rfl (by omega) hv1.symm ?_
  refine x_callV 472 m_X9_without hc rfl ok_X9_without (n_lt rfl) k_189 rfl rfl ml_L_112 im_X9_without se_X9_without rfl (by decide) rfl (Nat.le_of_ble_eq_true rfl) rfl rfl (fun v g q2 => ?_)
  obtain ⟨z2, i2, l2, rfl, rfl, hz2, hl2, he2, hF2, hf2⟩ := q2
  show mX (m_L_law q) 10 _ 0 0 _ _ [vI z2, vI z1] _
  have hJ2 : jB i2 l2 := by rw [hl2]; exact jB_next (ok_ask hJ.B _) hR1 hf2 he2 hF2
  exact x_icmp_eqT 473 (tgt := 810) rfl (by decide) (hz1.trans hz2.symm) (hgo i2 l2 hJ2)
set_option maxRecDepth 20000 in
theorem lc_keep {q : Nat × (Nat → Int32)} {i : Nat → Int → Int} {l : Nat → Int → BitVec 64} {x : Int} (hx : 0 ≤ x ∧ x + 3 ≤ q.1 ∧ q.1 ≤ 1536) (hJ : jB i l) (hgo : ∀ i2 l2, jB i2 l2 → mX (m_L_law q) 10 qOne 0 0 810 (lX x) [] (st i2 l2)) : mX (m_L_law q) 10 qOne 0 0 764 (lX x) [] (st i l) := by
  obtain ⟨v1, hv1⟩ : ∃ z, z = (q.2 (x + 1).toNat).toInt := ⟨_, rfl⟩
  have r1 : -2147483648 ≤ v1 ∧ v1 < 2147483648 := by rw [hv1]; exact mI_rg _
  refine x_aload_n 476 rfl rfl ?_
  refine x_tload_n 477 rfl rfl ?_
  refine x_iload_n 478 rfl rfl ?_
  refine x_iconst 479 rfl ?_
  refine x_iadd 480 (r := x + 1) rfl rfl ?_
  refine x_sld 481 rfl rfl (by omega) hv1.symm ?_
  refine x_callV 482 m_X8_keep (c_b_keep hJ.R hJ.B r1) rfl ok_X8_keep (n_lt rfl) k_0 rfl rfl ml_L_113 im_X8_keep se_X8_keep rfl (by decide) rfl (Nat.le_of_ble_eq_true rfl) rfl rfl (fun v g q1 => ?_)
  obtain ⟨z1, i1, l1, rfl, rfl, hz1, hR1, hf1⟩ := q1
  show mX (m_L_law q) 10 _ 0 0 _ _ [vI z1] _
  obtain ⟨a1, a2, a3, a4, a5, a6, a7, a8, a9, a10⟩ := ab_eq hf1
  have hc := r_b_keep (i := i1) (l := l1) (by rw [a1, a2, a3, a4, a5, a6, a7]; exact hJ.B) (by rw [a10]; exact hJ.2.2) r1
  rw [a1, a2, a3, a4, a5, a6, a7, a8, a9] at hc
  refine x_aload_n 483 rfl rfl ?_
  refine x_tload_n 484 rfl rfl ?_
  refine x_iload_n 485 rfl rfl ?_
  refine x_iconst 486 rfl ?_
  refine x_iadd 487 (r := x + 1) rfl rfl ?_
  refine x_sld 488 rfl rfl (by omega) hv1.symm ?_
  refine x_callV 489 m_X9_keep hc rfl ok_X9_keep (n_lt rfl) k_189 rfl rfl ml_L_116 im_X9_keep se_X9_keep rfl (by decide) rfl (Nat.le_of_ble_eq_true rfl) rfl rfl (fun v g q2 => ?_)
  obtain ⟨z2, i2, l2, rfl, rfl, hz2, hl2, he2, hF2, hf2⟩ := q2
  show mX (m_L_law q) 10 _ 0 0 _ _ [vI z2, vI z1] _
  have hJ2 : jB i2 l2 := by rw [hl2]; exact jB_next (ok_keep hJ.B v1) hR1 hf2 he2 hF2
  exact x_icmp_eqT 490 (tgt := 810) rfl (by decide) (hz1.trans hz2.symm) (hgo i2 l2 hJ2)
set_option maxRecDepth 20000 in
theorem lc_back {q : Nat × (Nat → Int32)} {i : Nat → Int → Int} {l : Nat → Int → BitVec 64} {x : Int} (hx : 0 ≤ x ∧ x + 3 ≤ q.1 ∧ q.1 ≤ 1536) (hJ : jB i l) (hgo : ∀ i2 l2, jB i2 l2 → mX (m_L_law q) 10 qOne 0 0 810 (lX x) [] (st i2 l2)) : mX (m_L_law q) 10 qOne 0 0 787 (lX x) [] (st i l) := by
  obtain ⟨v1, hv1⟩ : ∃ z, z = (q.2 (x + 1).toNat).toInt := ⟨_, rfl⟩
  have r1 : -2147483648 ≤ v1 ∧ v1 < 2147483648 := by rw [hv1]; exact mI_rg _
  refine x_aload_n 493 rfl rfl ?_
  refine x_tload_n 494 rfl rfl ?_
  refine x_iload_n 495 rfl rfl ?_
  refine x_iconst 496 rfl ?_
  refine x_iadd 497 (r := x + 1) rfl rfl ?_
  refine x_sld 498 rfl rfl (by omega) hv1.symm ?_
  refine x_callV 499 m_X8_back (c_b_back hJ.R hJ.B r1) rfl ok_X8_back (n_lt rfl) k_0 rfl rfl ml_L_117 im_X8_back se_X8_back rfl (by decide) rfl (Nat.le_of_ble_eq_true rfl) rfl rfl (fun v g q1 => ?_)
  obtain ⟨z1, i1, l1, rfl, rfl, hz1, hR1, hf1⟩ := q1
  show mX (m_L_law q) 10 _ 0 0 _ _ [vI z1] _
  obtain ⟨a1, a2, a3, a4, a5, a6, a7, a8, a9, a10⟩ := ab_eq hf1
  have hc := r_b_back (i := i1) (l := l1) (by rw [a1, a2, a3, a4, a5, a6, a7]; exact hJ.B) (by rw [a10]; exact hJ.2.2) r1
  rw [a1, a2, a3, a4, a5, a6, a7, a8, a9] at hc
  refine x_aload_n 500 rfl rfl ?_
  refine x_tload_n 501 rfl rfl ?_
  refine x_iload_n 502 rfl rfl ?_
  refine x_iconst 503 rfl ?_
  refine x_iadd 504 (r := x + 1) rfl rfl ?_
  refine x_sld 505 rfl rfl (by omega) hv1.symm ?_
  refine x_callV 506 m_X9_back hc rfl ok_X9_back (n_lt rfl) k_189 rfl rfl ml_L_120 im_X9_back se_X9_back rfl (by decide) rfl (Nat.le_of_ble_eq_true rfl) rfl rfl (fun v g q2 => ?_)
  obtain ⟨z2, i2, l2, rfl, rfl, hz2, hl2, he2, hF2, hf2⟩ := q2
  show mX (m_L_law q) 10 _ 0 0 _ _ [vI z2, vI z1] _
  have hJ2 : jB i2 l2 := by rw [hl2]; exact jB_next (ok_back hJ.B v1) hR1 hf2 he2 hF2
  exact x_icmp_eqT 507 (tgt := 810) rfl (by decide) (hz1.trans hz2.symm) (hgo i2 l2 hJ2)
