/-! the other book finds the best way to place -/
set_option maxRecDepth 20000 in
set_option maxHeartbeats 2000000 in
theorem r_findBest {i : Nat → Int → Int} {l : Nat → Int → BitVec 64} (hW : okW (i 190)) {y : Int} (hy : -2147483648 ≤ y ∧ y < 2147483648) : mCtr m_X9_findBest 6 0 0 [vR (some 189), vI (y)] (st i l) (qV (fun i' l' => l' = l ∧ (∀ a b, a ≠ 194 → a ≠ 195 → a ≠ 196 → a ≠ 197 → ¬ (a = 189 ∧ (b = 9 ∨ b = 10 ∨ b = 15 ∨ b = 16)) → i' a b = i a b) ∧ opB (i 190) y (i' 189 15) (i' 189 16) (i' 196))) := by
  refine mCtr_of pl_X9 dc_X9_findBest (Nat.le_of_ble_eq_true rfl) rfl ?_
  show mX m_X9_findBest 6 _ 0 0 0 [some (vR (some 189)), some (vI (y)), none, none, none, none] [] (st i l)
  have hN := hW.n
  refine x_aload_n 0 rfl rfl ?_
  refine x_iconst 1 rfl ?_
  obtain ⟨i1, hi1⟩ : ∃ f, f = mU i 189 15 ((-1)) := ⟨_, rfl⟩
  refine x_putI 2 rfl fl_X9_87 (n_lt rfl) k_189 rfl rfl (g' := st i1 l) (by subst hi1; rfl) ?_
  refine x_aload_n 3 rfl rfl ?_
  refine x_iconst 4 rfl ?_
  obtain ⟨i2, hi2⟩ : ∃ f, f = mU i1 189 16 (0) := ⟨_, rfl⟩
  refine x_putI 5 rfl fl_X9_90 (n_lt rfl) k_189 rfl rfl (g' := st i2 l) (by subst hi2; rfl) ?_
  refine x_iconst 6 rfl ?_
  refine x_istore_n 7 (L' := [some (vR (some 189)), some (vI (y)), some (vI (0)), none, none, none]) rfl (by decide) rfl rfl ?_
  have loopL3 : ∀ (nz : Nat) (ii : Nat → Int → Int) (x : Int), (0 ≤ x ∧ x ≤ 4) → (∀ a b, ii a b = if a = 197 ∧ 0 ≤ b ∧ b < x then 0 else if a = 189 ∧ b = 16 then 0 else if a = 189 ∧ b = 15 then -1 else i a b) → (4 - x) < (nz : Int) → mX m_X9_findBest 6 (qV (fun i' l' => l' = l ∧ (∀ a b, a ≠ 194 → a ≠ 195 → a ≠ 196 → a ≠ 197 → ¬ (a = 189 ∧ (b = 9 ∨ b = 10 ∨ b = 15 ∨ b = 16)) → i' a b = i a b) ∧ opB (i 190) y (i' 189 15) (i' 189 16) (i' 196))) 0 0 12 [some (vR (some 189)), some (vI (y)), some (vI (x)), none, none, none] [] (st ii l) := by
    intro nz
    induction nz with
    | zero => intro ii x hx hA hz; exact absurd hz (by omega)
    | succ nz ihL3 =>
      intro ii x hx hA hzL3
      refine x_iload_n 8 rfl rfl ?_
      refine x_iconst 9 rfl ?_
      refine x_icmp_ge 10 (tgt := 30) rfl (by decide) (by omega) (fun h4 => ?_) (fun h4 => ?_)
      · refine x_aload_n 18 rfl rfl ?_
        refine x_getR 19 (z := 190) rfl fl_X9_7 (n_lt rfl) k_189 rfl r_189_0 ?_
        refine x_bipush 20 rfl (by decide) ?_
        refine x_iald 21 (z := ii 190 11) rfl (n_lt rfl) k_190 (by omega) rfl ?_
        refine x_eqS (S' := [vI (i 190 11)]) (by rw [hA, if_neg (by omega), if_neg (by omega), if_neg (by omega)]) ?_
        refine x_istore_n 22 (L' := [some (vR (some 189)), some (vI (y)), some (vI (i 190 11)), none, none, none]) rfl (by decide) rfl rfl ?_
        refine x_iconst 23 rfl ?_
        refine x_istore_n 24 (L' := [some (vR (some 189)), some (vI (y)), some (vI (i 190 11)), some (vI (0)), none, none]) rfl (by decide) rfl rfl ?_
        have loopL5 : ∀ (nz : Nat) (jj : Nat → Int → Int) (k : Int), (0 ≤ k ∧ k ≤ i 190 11) → (fbJ (i 190) y ii jj k) → (i 190 11 - k) < (nz : Int) → mX m_X9_findBest 6 (qV (fun i' l' => l' = l ∧ (∀ a b, a ≠ 194 → a ≠ 195 → a ≠ 196 → a ≠ 197 → ¬ (a = 189 ∧ (b = 9 ∨ b = 10 ∨ b = 15 ∨ b = 16)) → i' a b = i a b) ∧ opB (i 190) y (i' 189 15) (i' 189 16) (i' 196))) 0 0 40 [some (vR (some 189)), some (vI (y)), some (vI (i 190 11)), some (vI (k)), none, none] [] (st jj l) := by
          intro nz
          induction nz with
          | zero => intro jj k hk hJ hz; exact absurd hz (by omega)
          | succ nz ihL5 =>
            intro jj k hk hJ hzL5
            have j190 : jj 190 = i 190 := by funext b; rw [hJ.1 190 b (by omega) (by omega) (by omega) (by omega), hA, if_neg (by omega), if_neg (by omega), if_neg (by omega)]
            have hWj : okW (jj 190) := by rw [j190]; exact hW
            have j11 : jj 190 11 = i 190 11 := by rw [j190]
            refine x_iload_n 25 rfl rfl ?_
            refine x_iload_n 26 rfl rfl ?_
            refine x_icmp_ge 27 (tgt := 89) rfl (by decide) (by omega) (fun h6 => ?_) (fun h6 => ?_)
            · refine x_iconst 54 rfl ?_
              refine x_istore_n 55 (L' := [some (vR (some 189)), some (vI (y)), some (vI (i 190 11)), some (vI (0)), none, none]) rfl (by decide) rfl rfl ?_
              obtain ⟨hI0, hR0⟩ := fbJ_end (show k = i 190 11 by omega) hN.1.1 hJ
              have hM0 : 0 ≤ fbM (i 190) 0 (jj 195) := by unfold fbM; rw [if_neg (by omega)]; have := rkW_bd hN.1.2 hI0.2.2.1; omega
              have b15 : jj 189 15 = -1 := by rw [hJ.1 189 15 (by omega) (by omega) (by omega) (by omega), hA, if_neg (by omega), if_neg (by omega), if_pos ⟨rfl, rfl⟩]
              have b16 : jj 189 16 = 0 := by rw [hJ.1 189 16 (by omega) (by omega) (by omega) (by omega), hA, if_neg (by omega), if_pos ⟨rfl, rfl⟩]
              have loopL7 : ∀ (nz : Nat) (kk : Nat → Int → Int) (t : Int), (-1 ≤ t ∧ t < 10) → (fbI (i 190) y ii kk) → (0 ≤ fbM (i 190) t (kk 195)) → (0 ≤ t → opV (i 190) y (kk 189 15) (kk 189 16) (kk 196) (rkW (i 190) (kk 195))) → (t < 0 → opB (i 190) y (kk 189 15) (kk 189 16) (kk 196)) → ((-1 ≤ kk 189 15 ∧ kk 189 15 ≤ 90) ∧ 0 ≤ kk 189 16 ∧ kk 189 16 ≤ 90) → (fbM (i 190) t (kk 195)) < (nz : Int) → mX m_X9_findBest 6 (qV (fun i' l' => l' = l ∧ (∀ a b, a ≠ 194 → a ≠ 195 → a ≠ 196 → a ≠ 197 → ¬ (a = 189 ∧ (b = 9 ∨ b = 10 ∨ b = 15 ∨ b = 16)) → i' a b = i a b) ∧ opB (i 190) y (i' 189 15) (i' 189 16) (i' 196))) 0 0 91 [some (vR (some 189)), some (vI (y)), some (vI (i 190 11)), some (vI (t)), none, none] [] (st kk l) := by
                intro nz
                induction nz with
                | zero => intro kk t ht hI hM hO hE hbl hz; exact absurd hz (by omega)
                | succ nz ihL7 =>
                  intro kk t ht hI hM hO hE hbl hzL7
                  refine x_iload_n 56 rfl rfl ?_
                  refine x_if_lt 57 (tgt := 211) rfl (by decide) (by omega) (fun h8 => ?_) (fun h8 => ?_)
                  · refine x_ret 124 none rfl ⟨rfl, rfl⟩ ⟨rfl, kk, l, rfl, ?_⟩
                    refine ⟨rfl, fun a b q1 q2 q3 q4 q5 => ?_, hE (by omega)⟩
                    rw [hI.1 a b q1 q2 q3 q4 q5, hA, if_neg (by omega), if_neg (by omega), if_neg (by omega)]
                  · have hVk := hO (by omega)
                    have hsk : ∀ p, 0 ≤ p → p < 4 → -1000 ≤ kk 197 p ∧ kk 197 p ≤ 1000 := fun p p0 p1 => by rw [hI.2.2.2 p p0 p1]; have := gsZ_bd hW (kk 195) p; omega
                    refine x_aload_n 58 rfl rfl ?_
                    refine x_callV 59 m_X9_judge (r_judge hsk (by omega) (by omega)) rfl ok_X9_judge (n_lt rfl) k_189 rfl rfl ml_X9_104 im_X9_judge se_X9_judge rfl (by decide) rfl (Nat.le_of_ble_eq_true rfl) rfl rfl (fun v g q9 => ?_)
                    obtain ⟨rfl, i10, li10, rfl, hi10⟩ := q9
                    obtain ⟨hEi10, hi10⟩ := hi10
                    have hEi10 := hEi10.symm
                    subst hEi10
                    show mX m_X9_findBest 6 _ 0 0 _ _ [] _
                    have hjj := hi10
                    have ej : ∀ a b, a ≠ 196 → ¬ (a = 189 ∧ (b = 15 ∨ b = 16)) → i10 a b = kk a b := by intro a b q1 q2; rcases hjj with ⟨_, z⟩ | ⟨_, z⟩; (rw [z, if_neg (by omega), if_neg (by omega), if_neg (by omega)]); (rw [z])
                    have ej195 : i10 195 = kk 195 := by funext b; exact ej 195 b (by omega) (by omega)
                    have hIj : fbI (i 190) y ii i10 := ⟨fun a b q1 q2 q3 q4 q5 => (ej a b q3 (by omega)).trans (hI.1 a b q1 q2 q3 q4 q5), fun q q0 q1 => (ej 194 q (by omega) (by omega)).trans (hI.2.1 q q0 q1), by rw [ej195]; exact hI.2.2.1, fun p p0 p1 => by rw [ej195, ej 197 p (by omega) (by omega)]; exact hI.2.2.2 p p0 p1⟩
                    have el : loF (kk 197) = loF (gsZ (i 190) (kk 195)) := by unfold loF; rw [hI.2.2.2 0 (by omega) (by omega), hI.2.2.2 1 (by omega) (by omega), hI.2.2.2 2 (by omega) (by omega), hI.2.2.2 3 (by omega) (by omega)]
                    have eh : hiF (kk 197) = hiF (gsZ (i 190) (kk 195)) := by unfold hiF; rw [hI.2.2.2 0 (by omega) (by omega), hI.2.2.2 1 (by omega) (by omega), hI.2.2.2 2 (by omega) (by omega), hI.2.2.2 3 (by omega) (by omega)]
                    rw [el, eh] at hjj
                    have hVj : opV (i 190) y (i10 189 15) (i10 189 16) (i10 196) (rkW (i 190) (kk 195) + 1) := by refine opV_judge hW hI.2.2.1 hVk ?_ (fun c hc he => rk_inj _ hI.2.2.1 hc he); rcases hjj with ⟨z1, z⟩ | ⟨z1, z⟩; (refine Or.inl ⟨z1, ?_, ?_, fun q hq => ?_⟩; (rw [z, if_pos ⟨rfl, rfl⟩]); (rw [z, if_neg (by omega), if_pos ⟨rfl, rfl⟩]); (rw [z, if_neg (by omega), if_neg (by omega), if_pos (by omega)])); (rw [z]; exact Or.inr ⟨z1, rfl, rfl, rfl⟩)
                    have hblj : (-1 ≤ i10 189 15 ∧ i10 189 15 ≤ 90) ∧ 0 ≤ i10 189 16 ∧ i10 189 16 ≤ 90 := by have g0 := gsZ_bd hW (kk 195) 0; have g1 := gsZ_bd hW (kk 195) 1; have g2 := gsZ_bd hW (kk 195) 2; have g3 := gsZ_bd hW (kk 195) 3; rcases hjj with ⟨z1, z⟩ | ⟨z1, z⟩; (rw [z 189 15, z 189 16, if_pos ⟨rfl, rfl⟩, if_neg (by omega), if_pos ⟨rfl, rfl⟩]; unfold loF hiF; omega); (rw [z]; exact hbl)
                    refine x_iload_n 60 rfl rfl ?_
                    refine x_iconst 61 rfl ?_
                    refine x_isub 62 (r := (i 190 11) - 1) rfl rfl ?_
                    refine x_istore_n 63 (L' := [some (vR (some 189)), some (vI (y)), some (vI (i 190 11)), some (vI ((i 190 11) - 1)), none, none]) rfl (by decide) rfl rfl ?_
                    refine x_iconst 64 rfl ?_
                    refine x_istore 65 (L' := [some (vR (some 189)), some (vI (y)), some (vI (i 190 11)), some (vI ((i 190 11) - 1)), some (vI (0)), none]) rfl (by decide) rfl rfl ?_
                    have loopL11 : ∀ (nz : Nat) (mm : Nat → Int → Int) (u : Int) (f : Int), (-1 ≤ u ∧ u < i 190 11) → (f = 0 ∨ f = 1) → (fbI (i 190) y ii mm) → (fbP (i 190) y (kk 195) (mm 195) u f) → (opV (i 190) y (mm 189 15) (mm 189 16) (mm 196) (rkW (i 190) (kk 195) + 1)) → ((-1 ≤ mm 189 15 ∧ mm 189 15 ≤ 90) ∧ 0 ≤ mm 189 16 ∧ mm 189 16 ≤ 90) → (u + 1 + (1 - f)) < (nz : Int) → mX m_X9_findBest 6 (qV (fun i' l' => l' = l ∧ (∀ a b, a ≠ 194 → a ≠ 195 → a ≠ 196 → a ≠ 197 → ¬ (a = 189 ∧ (b = 9 ∨ b = 10 ∨ b = 15 ∨ b = 16)) → i' a b = i a b) ∧ opB (i 190) y (i' 189 15) (i' 189 16) (i' 196))) 0 0 106 [some (vR (some 189)), some (vI (y)), some (vI (i 190 11)), some (vI (u)), some (vI (f)), none] [] (st mm l) := by
                      intro nz
                      induction nz with
                      | zero => intro mm u f hu hf hI2 hP hV hbl2 hz; exact absurd hz (by omega)
                      | succ nz ihL11 =>
                        intro mm u f hu hf hI2 hP hV hbl2 hzL11
                        refine x_iload_n 66 rfl rfl ?_
                        refine x_if_lt 67 (tgt := 208) rfl (by decide) (by omega) (fun h12 => ?_) (fun h12 => ?_)
                        · have hf0 : u < 0 → f = 0 := fun q => by rcases hP with z | z; exact z.1; exact absurd z.2.1 (by omega)
                          have hlast : u < 0 → opB (i 190) y (mm 189 15) (mm 189 16) (mm 196) := fun q => by have e := hf0 q; rw [e] at hP; exact fb_last ⟨q, hu.1⟩ hP hI.2.2.1 hV
                          have hmore : 0 ≤ u → opV (i 190) y (mm 189 15) (mm 189 16) (mm 196) (rkW (i 190) (mm 195)) ∧ rkW (i 190) (kk 195) < rkW (i 190) (mm 195) := fun q => fb_more (by omega) hP hV
                          have hrb := rkW_bd hN.1.2 hI2.2.2.1
                          have hrb0 := rkW_bd hN.1.2 hI.2.2.1
                          have hM2 : 0 ≤ fbM (i 190) u (mm 195) := by unfold fbM; split <;> omega
                          have hO2 : 0 ≤ u → opV (i 190) y (mm 189 15) (mm 189 16) (mm 196) (rkW (i 190) (mm 195)) := fun q => (hmore q).1
                          have hE2 := hlast
                          have hdec : fbM (i 190) u (mm 195) < fbM (i 190) t (kk 195) := by unfold fbM; rw [if_neg (show ¬ t < 0 by omega)]; split; omega; (have := (hmore (by omega)).2; omega)
                          refine x_goto 123 (tgt := 91) rfl (by decide) ?_
                          refine x_dropL (L' := [some (vR (some 189)), some (vI (y)), some (vI (i 190 11)), some (vI (u)), none, none]) ⟨rfl, ⟨rfl, ⟨rfl, ⟨rfl, True.intro⟩⟩⟩⟩ ?_
                          exact ihL7 mm (u) (by omega) (hI2) (hM2) (hO2) (hE2) (hbl2) (by omega)
                        · refine x_iload 68 rfl rfl ?_
                          refine x_if_ne 69 (tgt := 208) rfl (by decide) (by omega) (fun h13 => ?_) (fun h13 => ?_)
                          · have hf0 : u < 0 → f = 0 := fun q => by rcases hP with z | z; exact z.1; exact absurd z.2.1 (by omega)
                            have hlast : u < 0 → opB (i 190) y (mm 189 15) (mm 189 16) (mm 196) := fun q => by have e := hf0 q; rw [e] at hP; exact fb_last ⟨q, hu.1⟩ hP hI.2.2.1 hV
                            have hmore : 0 ≤ u → opV (i 190) y (mm 189 15) (mm 189 16) (mm 196) (rkW (i 190) (mm 195)) ∧ rkW (i 190) (kk 195) < rkW (i 190) (mm 195) := fun q => fb_more (by omega) hP hV
                            have hrb := rkW_bd hN.1.2 hI2.2.2.1
                            have hrb0 := rkW_bd hN.1.2 hI.2.2.1
                            have hM2 : 0 ≤ fbM (i 190) u (mm 195) := by unfold fbM; split <;> omega
                            have hO2 : 0 ≤ u → opV (i 190) y (mm 189 15) (mm 189 16) (mm 196) (rkW (i 190) (mm 195)) := fun q => (hmore q).1
                            have hE2 := hlast
                            have hdec : fbM (i 190) u (mm 195) < fbM (i 190) t (kk 195) := by unfold fbM; rw [if_neg (show ¬ t < 0 by omega)]; split; omega; (have := (hmore (by omega)).2; omega)
                            refine x_goto 123 (tgt := 91) rfl (by decide) ?_
                            refine x_dropL (L' := [some (vR (some 189)), some (vI (y)), some (vI (i 190 11)), some (vI (u)), none, none]) ⟨rfl, ⟨rfl, ⟨rfl, ⟨rfl, True.intro⟩⟩⟩⟩ ?_
                            exact ihL7 mm (u) (by omega) (hI2) (hM2) (hO2) (hE2) (hbl2) (by omega)
                          · have hf0 : f = 0 := by omega
                            have hvu := hI2.2.2.1 u.toNat (by omega)
                            rw [Int.toNat_of_nonneg (by omega)] at hvu
                            have htu : mm 195 u = -9 ∨ (0 ≤ mm 195 u ∧ mm 195 u < 4) := by unfold vaK at hvu; omega
                            have hmu := hI2.2.1 u (by omega) (by omega)
                            have hnb := npZ_bd (mm 194 u) (mm 195 u + 1)
                            have hvb := vmk_bd (i 190) y u
                            have i190 : ii 190 = i 190 := by funext b; rw [hA, if_neg (by omega), if_neg (by omega), if_neg (by omega)]
                            refine x_aload_n 70 rfl rfl ?_
                            refine x_getR 71 (z := 195) rfl fl_X9_32 (n_lt rfl) k_189 rfl r_189_12 ?_
                            refine x_iload_n 72 rfl rfl ?_
                            refine x_iald 73 (z := mm 195 u) rfl (n_lt rfl) k_195 (by omega) rfl ?_
                            refine x_if_ge 74 (tgt := 129) rfl (by decide) (by omega) (fun h14 => ?_) (fun h14 => ?_)
                            · refine x_aload_n 77 rfl rfl ?_
                              refine x_iload_n 78 rfl rfl ?_
                              refine x_aload_n 79 rfl rfl ?_
                              refine x_getR 80 (z := 195) rfl fl_X9_32 (n_lt rfl) k_189 rfl r_189_12 ?_
                              refine x_iload_n 81 rfl rfl ?_
                              refine x_iald 82 (z := mm 195 u) rfl (n_lt rfl) k_195 (by omega) rfl ?_
                              refine x_iconst 83 rfl ?_
                              refine x_iadd 84 (r := (mm 195 u) + 1) rfl rfl ?_
                              refine x_callV 85 m_X9_nextPart (r_nextPart (by omega) (by rw [hmu]; exact hvb) (by omega)) rfl ok_X9_nextPart (n_lt rfl) k_189 rfl rfl ml_X9_97 im_X9_nextPart se_X9_nextPart rfl (by decide) rfl (Nat.le_of_ble_eq_true rfl) rfl rfl (fun v g q15 => ?_)
                              obtain ⟨rfl, rfl⟩ := q15
                              show mX m_X9_findBest 6 _ 0 0 _ _ [vI (npZ (mm 194 u) ((mm 195 u) + 1))] _
                              refine x_istore 86 (L' := [some (vR (some 189)), some (vI (y)), some (vI (i 190 11)), some (vI (u)), some (vI (f)), some (vI (npZ (mm 194 u) ((mm 195 u) + 1)))]) rfl (by decide) rfl rfl ?_
                              refine x_aload_n 87 rfl rfl ?_
                              refine x_iload_n 88 rfl rfl ?_
                              refine x_iconst 89 rfl ?_
                              refine x_callV 90 m_X9_change (r_change (by omega) htu) rfl ok_X9_change (n_lt rfl) k_189 rfl rfl ml_X9_100 im_X9_change se_X9_change rfl (by decide) rfl (Nat.le_of_ble_eq_true rfl) rfl rfl (fun v g q16 => ?_)
                              obtain ⟨rfl, i17, li17, rfl, hi17⟩ := q16
                              obtain ⟨hEi17, hi17⟩ := hi17
                              have hEi17 := hEi17.symm
                              subst hEi17
                              show mX m_X9_findBest 6 _ 0 0 _ _ [] _
                              have c1 := hi17
                              have cm195 : i17 195 = mm 195 := by funext b; rw [c1, if_neg (by omega)]
                              have cm194 : i17 194 = mm 194 := by funext b; rw [c1, if_neg (by omega)]
                              have hmk2 : 0 ≤ i17 194 u ∧ i17 194 u ≤ 15 := by rw [cm194, hmu]; exact hvb
                              refine x_iload 91 rfl rfl ?_
                              refine x_bipush 92 rfl (by decide) ?_
                              refine x_icmp_eq 93 (tgt := 161) rfl (by decide) (by omega) (fun h18 => ?_) (fun h18 => ?_)
                              · have h9 : mm 195 u < 0 ∨ npZ (vmk (i 190) y u) (mm 195 u + 1) = -9 := Or.inr (by rw [← hmu]; exact h18)
                                refine x_iconst 96 rfl ?_
                                refine x_istore 97 (L' := [some (vR (some 189)), some (vI (y)), some (vI (i 190 11)), some (vI (u)), some (vI (0)), some (vI (npZ (mm 194 u) ((mm 195 u) + 1)))]) rfl (by decide) rfl rfl ?_
                                refine x_aload_n 98 rfl rfl ?_
                                refine x_getR 99 (z := 195) rfl fl_X9_32 (n_lt rfl) k_189 rfl r_189_12 ?_
                                refine x_iload_n 100 rfl rfl ?_
                                refine x_iload 101 rfl rfl ?_
                                refine x_if_eq 102 (tgt := 179) rfl (by decide) (by decide) (fun h19 => ?_) (fun h19 => absurd h19 (by decide))
                                refine x_aload_n 105 rfl rfl ?_
                                refine x_iload_n 106 rfl rfl ?_
                                refine x_iconst 107 rfl ?_
                                refine x_callV 108 m_X9_nextPart (r_nextPart (by omega) hmk2 (by omega)) rfl ok_X9_nextPart (n_lt rfl) k_189 rfl rfl ml_X9_97 im_X9_nextPart se_X9_nextPart rfl (by decide) rfl (Nat.le_of_ble_eq_true rfl) rfl rfl (fun v g q20 => ?_)
                                obtain ⟨rfl, rfl⟩ := q20
                                show mX m_X9_findBest 6 _ 0 0 _ _ [vI (npZ (i17 194 u) 0), vI (u), vR (some 195)] _
                                obtain ⟨i21, hi21⟩ : ∃ f, f = mU i17 195 (u) (npZ (i17 194 u) 0) := ⟨_, rfl⟩
                                refine x_iast 109 rfl (n_lt rfl) k_195 (by omega) (g' := st i21 l) (by subst hi21; rfl) ?_
                                obtain ⟨vv, hvv⟩ : ∃ z, z = i21 195 u := ⟨_, rfl⟩
                                have c2 : i21 = mU i17 195 u vv := by rw [hvv]; rw [hi21, mUs]
                                have htc2 : i21 195 u = -9 ∨ (0 ≤ i21 195 u ∧ i21 195 u < 4) := by rw [hi21, mUs]; exact npZ_bd _ _
                                have hvn : vv = i21 195 u := hvv
                                have hvx := hvv
                                rw [hi21, mUs] at hvx
                                first
                                  | rw [cm194, hmu] at hvx
                                  | rw [hmu] at hvx
                                refine x_aload_n 110 rfl rfl ?_
                                refine x_iload_n 111 rfl rfl ?_
                                refine x_iconst 112 rfl ?_
                                refine x_callV 113 m_X9_change (r_change (by omega) htc2) rfl ok_X9_change (n_lt rfl) k_189 rfl rfl ml_X9_100 im_X9_change se_X9_change rfl (by decide) rfl (Nat.le_of_ble_eq_true rfl) rfl rfl (fun v g q22 => ?_)
                                obtain ⟨rfl, i23, li23, rfl, hi23⟩ := q22
                                obtain ⟨hEi23, hi23⟩ := hi23
                                have hEi23 := hEi23.symm
                                subst hEi23
                                show mX m_X9_findBest 6 _ 0 0 _ _ [] _
                                obtain ⟨c5, cf, cs⟩ := fbI_put (by omega) hI2 i190 c1 c2 hi23
                                subst hf0
                                first
                                  | (have hres := fb_found (b' := i23 195) (by omega) hP hI.2.2.1 hI2.2.2.1 hvx (by omega) (by rw [hvx]; exact hfd) (fun q => c5 q))
                                  | (have hres := fb_next (b' := i23 195) (by omega) hP hI.2.2.1 hI2.2.2.1 h9 (fun q => by rw [c5, hvx]))
                                have hI3 : fbI (i 190) y ii i23 := fbI_to hI2 hres.1 cf cs
                                have hP3 := hres.2
                                have e196 : i23 196 = mm 196 := by funext b; exact cf 196 b (by omega) (by omega)
                                have hV3 : opV (i 190) y (i23 189 15) (i23 189 16) (i23 196) (rkW (i 190) (kk 195) + 1) := by rw [cf 189 15 (by omega) (by omega), cf 189 16 (by omega) (by omega), e196]; exact hV
                                have hbl3 : (-1 ≤ i23 189 15 ∧ i23 189 15 ≤ 90) ∧ 0 ≤ i23 189 16 ∧ i23 189 16 ≤ 90 := by rw [cf 189 15 (by omega) (by omega), cf 189 16 (by omega) (by omega)]; exact hbl2
                                refine x_iload_n 114 rfl rfl ?_
                                refine x_iload 115 rfl rfl ?_
                                refine x_if_eq 116 (tgt := 202) rfl (by decide) (by decide) (fun h24 => ?_) (fun h24 => absurd h24 (by decide))
                                refine x_iconst 119 rfl ?_
                                refine x_isub 120 (r := u - 1) rfl rfl ?_
                                refine x_istore_n 121 (L' := [some (vR (some 189)), some (vI (y)), some (vI (i 190 11)), some (vI (u - 1)), some (vI (0)), some (vI (npZ (mm 194 u) ((mm 195 u) + 1)))]) rfl (by decide) rfl rfl ?_
                                refine x_goto 122 (tgt := 106) rfl (by decide) ?_
                                refine x_dropL (L' := [some (vR (some 189)), some (vI (y)), some (vI (i 190 11)), some (vI (u - 1)), some (vI (0)), none]) ⟨rfl, ⟨rfl, ⟨rfl, ⟨rfl, ⟨rfl, True.intro⟩⟩⟩⟩⟩ ?_
                                exact ihL11 i23 (u - 1) (0) (by omega) (by omega) (hI3) (by first | exact hP3 | (rw [Int.sub_zero]; exact hP3)) (hV3) (hbl3) (by omega)
                              · have hfd : npZ (vmk (i 190) y u) (mm 195 u + 1) ≠ -9 := by rw [← hmu]; exact h18
                                refine x_iconst 94 rfl ?_
                                refine x_goto 95 (tgt := 162) rfl (by decide) ?_
                                refine x_istore 97 (L' := [some (vR (some 189)), some (vI (y)), some (vI (i 190 11)), some (vI (u)), some (vI (1)), some (vI (npZ (mm 194 u) ((mm 195 u) + 1)))]) rfl (by decide) rfl rfl ?_
                                refine x_aload_n 98 rfl rfl ?_
                                refine x_getR 99 (z := 195) rfl fl_X9_32 (n_lt rfl) k_189 rfl r_189_12 ?_
                                refine x_iload_n 100 rfl rfl ?_
                                refine x_iload 101 rfl rfl ?_
                                refine x_if_eq 102 (tgt := 179) rfl (by decide) (by decide) (fun h25 => absurd h25 (by decide)) (fun h25 => ?_)
                                refine x_iload 103 rfl rfl ?_
                                refine x_goto 104 (tgt := 185) rfl (by decide) ?_
                                obtain ⟨i26, hi26⟩ : ∃ f, f = mU i17 195 (u) (npZ (mm 194 u) ((mm 195 u) + 1)) := ⟨_, rfl⟩
                                refine x_iast 109 rfl (n_lt rfl) k_195 (by omega) (g' := st i26 l) (by subst hi26; rfl) ?_
                                obtain ⟨vv, hvv⟩ : ∃ z, z = i26 195 u := ⟨_, rfl⟩
                                have c2 : i26 = mU i17 195 u vv := by rw [hvv]; rw [hi26, mUs]
                                have htc2 : i26 195 u = -9 ∨ (0 ≤ i26 195 u ∧ i26 195 u < 4) := by rw [hi26, mUs]; exact npZ_bd _ _
                                have hvn : vv = i26 195 u := hvv
                                have hvx := hvv
                                rw [hi26, mUs] at hvx
                                first
                                  | rw [cm194, hmu] at hvx
                                  | rw [hmu] at hvx
                                refine x_aload_n 110 rfl rfl ?_
                                refine x_iload_n 111 rfl rfl ?_
                                refine x_iconst 112 rfl ?_
                                refine x_callV 113 m_X9_change (r_change (by omega) htc2) rfl ok_X9_change (n_lt rfl) k_189 rfl rfl ml_X9_100 im_X9_change se_X9_change rfl (by decide) rfl (Nat.le_of_ble_eq_true rfl) rfl rfl (fun v g q27 => ?_)
                                obtain ⟨rfl, i28, li28, rfl, hi28⟩ := q27
                                obtain ⟨hEi28, hi28⟩ := hi28
                                have hEi28 := hEi28.symm
                                subst hEi28
                                show mX m_X9_findBest 6 _ 0 0 _ _ [] _
                                obtain ⟨c5, cf, cs⟩ := fbI_put (by omega) hI2 i190 c1 c2 hi28
                                subst hf0
                                first
                                  | (have hres := fb_found (b' := i28 195) (by omega) hP hI.2.2.1 hI2.2.2.1 hvx (by omega) (by rw [hvx]; exact hfd) (fun q => c5 q))
                                  | (have hres := fb_next (b' := i28 195) (by omega) hP hI.2.2.1 hI2.2.2.1 h9 (fun q => by rw [c5, hvx]))
                                have hI3 : fbI (i 190) y ii i28 := fbI_to hI2 hres.1 cf cs
                                have hP3 := hres.2
                                have e196 : i28 196 = mm 196 := by funext b; exact cf 196 b (by omega) (by omega)
                                have hV3 : opV (i 190) y (i28 189 15) (i28 189 16) (i28 196) (rkW (i 190) (kk 195) + 1) := by rw [cf 189 15 (by omega) (by omega), cf 189 16 (by omega) (by omega), e196]; exact hV
                                have hbl3 : (-1 ≤ i28 189 15 ∧ i28 189 15 ≤ 90) ∧ 0 ≤ i28 189 16 ∧ i28 189 16 ≤ 90 := by rw [cf 189 15 (by omega) (by omega), cf 189 16 (by omega) (by omega)]; exact hbl2
                                refine x_iload_n 114 rfl rfl ?_
                                refine x_iload 115 rfl rfl ?_
                                refine x_if_eq 116 (tgt := 202) rfl (by decide) (by decide) (fun h29 => absurd h29 (by decide)) (fun h29 => ?_)
                                refine x_iconst 117 rfl ?_
                                refine x_goto 118 (tgt := 203) rfl (by decide) ?_
                                refine x_isub 120 (r := u - 0) rfl rfl ?_
                                refine x_istore_n 121 (L' := [some (vR (some 189)), some (vI (y)), some (vI (i 190 11)), some (vI (u - 0)), some (vI (1)), some (vI (npZ (mm 194 u) ((mm 195 u) + 1)))]) rfl (by decide) rfl rfl ?_
                                refine x_goto 122 (tgt := 106) rfl (by decide) ?_
                                refine x_dropL (L' := [some (vR (some 189)), some (vI (y)), some (vI (i 190 11)), some (vI (u - 0)), some (vI (1)), none]) ⟨rfl, ⟨rfl, ⟨rfl, ⟨rfl, ⟨rfl, True.intro⟩⟩⟩⟩⟩ ?_
                                exact ihL11 i28 (u - 0) (1) (by omega) (by omega) (hI3) (by first | exact hP3 | (rw [Int.sub_zero]; exact hP3)) (hV3) (hbl3) (by omega)
                            · have h9 : mm 195 u < 0 ∨ npZ (vmk (i 190) y u) (mm 195 u + 1) = -9 := Or.inl (by omega)
                              refine x_bipush 75 rfl (by decide) ?_
                              refine x_goto 76 (tgt := 142) rfl (by decide) ?_
                              refine x_istore 86 (L' := [some (vR (some 189)), some (vI (y)), some (vI (i 190 11)), some (vI (u)), some (vI (f)), some (vI ((-9)))]) rfl (by decide) rfl rfl ?_
                              refine x_aload_n 87 rfl rfl ?_
                              refine x_iload_n 88 rfl rfl ?_
                              refine x_iconst 89 rfl ?_
                              refine x_callV 90 m_X9_change (r_change (by omega) htu) rfl ok_X9_change (n_lt rfl) k_189 rfl rfl ml_X9_100 im_X9_change se_X9_change rfl (by decide) rfl (Nat.le_of_ble_eq_true rfl) rfl rfl (fun v g q30 => ?_)
                              obtain ⟨rfl, i31, li31, rfl, hi31⟩ := q30
                              obtain ⟨hEi31, hi31⟩ := hi31
                              have hEi31 := hEi31.symm
                              subst hEi31
                              show mX m_X9_findBest 6 _ 0 0 _ _ [] _
                              have c1 := hi31
                              have cm195 : i31 195 = mm 195 := by funext b; rw [c1, if_neg (by omega)]
                              have cm194 : i31 194 = mm 194 := by funext b; rw [c1, if_neg (by omega)]
                              have hmk2 : 0 ≤ i31 194 u ∧ i31 194 u ≤ 15 := by rw [cm194, hmu]; exact hvb
                              refine x_iload 91 rfl rfl ?_
                              refine x_bipush 92 rfl (by decide) ?_
                              refine x_icmp_eq 93 (tgt := 161) rfl (by decide) (by decide) (fun h32 => ?_) (fun h32 => absurd h32 (by decide))
                              refine x_iconst 96 rfl ?_
                              refine x_istore 97 (L' := [some (vR (some 189)), some (vI (y)), some (vI (i 190 11)), some (vI (u)), some (vI (0)), some (vI ((-9)))]) rfl (by decide) rfl rfl ?_
                              refine x_aload_n 98 rfl rfl ?_
                              refine x_getR 99 (z := 195) rfl fl_X9_32 (n_lt rfl) k_189 rfl r_189_12 ?_
                              refine x_iload_n 100 rfl rfl ?_
                              refine x_iload 101 rfl rfl ?_
                              refine x_if_eq 102 (tgt := 179) rfl (by decide) (by decide) (fun h33 => ?_) (fun h33 => absurd h33 (by decide))
                              refine x_aload_n 105 rfl rfl ?_
                              refine x_iload_n 106 rfl rfl ?_
                              refine x_iconst 107 rfl ?_
                              refine x_callV 108 m_X9_nextPart (r_nextPart (by omega) hmk2 (by omega)) rfl ok_X9_nextPart (n_lt rfl) k_189 rfl rfl ml_X9_97 im_X9_nextPart se_X9_nextPart rfl (by decide) rfl (Nat.le_of_ble_eq_true rfl) rfl rfl (fun v g q34 => ?_)
                              obtain ⟨rfl, rfl⟩ := q34
                              show mX m_X9_findBest 6 _ 0 0 _ _ [vI (npZ (i31 194 u) 0), vI (u), vR (some 195)] _
                              obtain ⟨i35, hi35⟩ : ∃ f, f = mU i31 195 (u) (npZ (i31 194 u) 0) := ⟨_, rfl⟩
                              refine x_iast 109 rfl (n_lt rfl) k_195 (by omega) (g' := st i35 l) (by subst hi35; rfl) ?_
                              obtain ⟨vv, hvv⟩ : ∃ z, z = i35 195 u := ⟨_, rfl⟩
                              have c2 : i35 = mU i31 195 u vv := by rw [hvv]; rw [hi35, mUs]
                              have htc2 : i35 195 u = -9 ∨ (0 ≤ i35 195 u ∧ i35 195 u < 4) := by rw [hi35, mUs]; exact npZ_bd _ _
                              have hvn : vv = i35 195 u := hvv
                              have hvx := hvv
                              rw [hi35, mUs] at hvx
                              first
                                | rw [cm194, hmu] at hvx
                                | rw [hmu] at hvx
                              refine x_aload_n 110 rfl rfl ?_
                              refine x_iload_n 111 rfl rfl ?_
                              refine x_iconst 112 rfl ?_
                              refine x_callV 113 m_X9_change (r_change (by omega) htc2) rfl ok_X9_change (n_lt rfl) k_189 rfl rfl ml_X9_100 im_X9_change se_X9_change rfl (by decide) rfl (Nat.le_of_ble_eq_true rfl) rfl rfl (fun v g q36 => ?_)
                              obtain ⟨rfl, i37, li37, rfl, hi37⟩ := q36
                              obtain ⟨hEi37, hi37⟩ := hi37
                              have hEi37 := hEi37.symm
                              subst hEi37
                              show mX m_X9_findBest 6 _ 0 0 _ _ [] _
                              obtain ⟨c5, cf, cs⟩ := fbI_put (by omega) hI2 i190 c1 c2 hi37
                              subst hf0
                              first
                                | (have hres := fb_found (b' := i37 195) (by omega) hP hI.2.2.1 hI2.2.2.1 hvx (by omega) (by rw [hvx]; exact hfd) (fun q => c5 q))
                                | (have hres := fb_next (b' := i37 195) (by omega) hP hI.2.2.1 hI2.2.2.1 h9 (fun q => by rw [c5, hvx]))
                              have hI3 : fbI (i 190) y ii i37 := fbI_to hI2 hres.1 cf cs
                              have hP3 := hres.2
                              have e196 : i37 196 = mm 196 := by funext b; exact cf 196 b (by omega) (by omega)
                              have hV3 : opV (i 190) y (i37 189 15) (i37 189 16) (i37 196) (rkW (i 190) (kk 195) + 1) := by rw [cf 189 15 (by omega) (by omega), cf 189 16 (by omega) (by omega), e196]; exact hV
                              have hbl3 : (-1 ≤ i37 189 15 ∧ i37 189 15 ≤ 90) ∧ 0 ≤ i37 189 16 ∧ i37 189 16 ≤ 90 := by rw [cf 189 15 (by omega) (by omega), cf 189 16 (by omega) (by omega)]; exact hbl2
                              refine x_iload_n 114 rfl rfl ?_
                              refine x_iload 115 rfl rfl ?_
                              refine x_if_eq 116 (tgt := 202) rfl (by decide) (by decide) (fun h38 => ?_) (fun h38 => absurd h38 (by decide))
                              refine x_iconst 119 rfl ?_
                              refine x_isub 120 (r := u - 1) rfl rfl ?_
                              refine x_istore_n 121 (L' := [some (vR (some 189)), some (vI (y)), some (vI (i 190 11)), some (vI (u - 1)), some (vI (0)), some (vI ((-9)))]) rfl (by decide) rfl rfl ?_
                              refine x_goto 122 (tgt := 106) rfl (by decide) ?_
                              refine x_dropL (L' := [some (vR (some 189)), some (vI (y)), some (vI (i 190 11)), some (vI (u - 1)), some (vI (0)), none]) ⟨rfl, ⟨rfl, ⟨rfl, ⟨rfl, ⟨rfl, True.intro⟩⟩⟩⟩⟩ ?_
                              exact ihL11 i37 (u - 1) (0) (by omega) (by omega) (hI3) (by first | exact hP3 | (rw [Int.sub_zero]; exact hP3)) (hV3) (hbl3) (by omega)
                    exact loopL11 (((((i 190 11) - 1)) + 1 + (1 - ((0)))) + 1 : Int).toNat i10 ((i 190 11) - 1) (0) (by omega) (by omega) (hIj) (by rw [ej195]; exact fb_start hN.1.1) (hVj) (hblj) (by omega)
              exact loopL7 ((fbM (i 190) ((0)) ((jj) 195)) + 1 : Int).toNat jj (0) (by omega) (hI0) (hM0) (fun _ => ⟨Or.inl ⟨b15, b16, hR0⟩, fun c hc hr => absurd (hR0 c hc) (by omega)⟩) (fun q => absurd q (by omega)) (by rw [b15, b16]; omega) (by omega)
            · have hvb := vmk_bd (i 190) y k
              refine x_aload_n 28 rfl rfl ?_
              refine x_getR 29 (z := 194) rfl fl_X9_29 (n_lt rfl) k_189 rfl r_189_11 ?_
              refine x_iload_n 30 rfl rfl ?_
              refine x_iload_n 31 rfl rfl ?_
              refine x_iload_n 32 rfl rfl ?_
              refine x_icmp_ne 33 (tgt := 59) rfl (by decide) (by omega) (fun h39 => ?_) (fun h39 => ?_)
              · refine x_aload_n 36 rfl rfl ?_
                refine x_iload_n 37 rfl rfl ?_
                refine x_callV 38 m_X9_fits (r_fits hWj (by omega)) rfl ok_X9_fits (n_lt rfl) k_189 rfl rfl ml_X9_93 im_X9_fits se_X9_fits rfl (by decide) rfl (Nat.le_of_ble_eq_true rfl) rfl rfl (fun v g q40 => ?_)
                obtain ⟨z42, i41, li41, rfl, rfl, hi41⟩ := q40
                show mX m_X9_findBest 6 _ 0 0 _ _ [vI (z42), vI (k), vR (some 194)] _
                obtain ⟨hzf, rfl, hfrj⟩ := hi41
                obtain ⟨i43, hi43⟩ : ∃ f, f = mU i41 194 (k) (z42) := ⟨_, rfl⟩
                refine x_iast 39 rfl (n_lt rfl) k_194 (by omega) (g' := st i43 li41) (by subst hi43; rfl) ?_
                have w1 : i43 = mU i41 194 k (vmk (i 190) y k) := by rw [hi43]; congr 1; unfold vmk; first | (rw [if_pos (by omega)]; done) | (rw [if_neg (by omega), hzf, j190])
                have hm1 : i43 194 k = vmk (i 190) y k := by rw [w1, mUs]
                have hmk : 0 ≤ i43 194 k ∧ i43 194 k ≤ 15 := by rw [hm1]; exact hvb
                refine x_aload_n 40 rfl rfl ?_
                refine x_getR 41 (z := 195) rfl fl_X9_32 (n_lt rfl) k_189 rfl r_189_12 ?_
                refine x_iload_n 42 rfl rfl ?_
                refine x_aload_n 43 rfl rfl ?_
                refine x_iload_n 44 rfl rfl ?_
                refine x_iconst 45 rfl ?_
                refine x_callV 46 m_X9_nextPart (r_nextPart (by omega) hmk (by omega)) rfl ok_X9_nextPart (n_lt rfl) k_189 rfl rfl ml_X9_97 im_X9_nextPart se_X9_nextPart rfl (by decide) rfl (Nat.le_of_ble_eq_true rfl) rfl rfl (fun v g q44 => ?_)
                obtain ⟨rfl, rfl⟩ := q44
                show mX m_X9_findBest 6 _ 0 0 _ _ [vI (npZ (i43 194 k) 0), vI (k), vR (some 195)] _
                obtain ⟨i45, hi45⟩ : ∃ f, f = mU i43 195 (k) (npZ (i43 194 k) 0) := ⟨_, rfl⟩
                refine x_iast 47 rfl (n_lt rfl) k_195 (by omega) (g' := st i45 li41) (by subst hi45; rfl) ?_
                have w2 : i45 = mU i43 195 k (npZ (vmk (i 190) y k) 0) := by rw [hi45, hm1]
                have htc : i45 195 k = -9 ∨ (0 ≤ i45 195 k ∧ i45 195 k < 4) := by rw [w2, mUs]; exact npZ_bd _ _
                refine x_aload_n 48 rfl rfl ?_
                refine x_iload_n 49 rfl rfl ?_
                refine x_iconst 50 rfl ?_
                refine x_callV 51 m_X9_change (r_change (by omega) htc) rfl ok_X9_change (n_lt rfl) k_189 rfl rfl ml_X9_100 im_X9_change se_X9_change rfl (by decide) rfl (Nat.le_of_ble_eq_true rfl) rfl rfl (fun v g q46 => ?_)
                obtain ⟨rfl, i47, li47, rfl, hi47⟩ := q46
                obtain ⟨hEi47, hi47⟩ := hi47
                have hEi47 := hEi47.symm
                subst hEi47
                show mX m_X9_findBest 6 _ 0 0 _ _ [] _
                refine x_iinc 52 (L' := [some (vR (some 189)), some (vI (y)), some (vI (i 190 11)), some (vI (k + 1)), none, none]) rfl (by decide) rfl rfl rfl rfl ?_
                refine x_goto 53 (tgt := 40) rfl (by decide) ?_
                exact ihL5 i47 (k + 1) (by omega) (fbJ_step ⟨hk.1, by omega⟩ hfrj w1 w2 hi47 j190 hJ) (by omega)
              · have hfrj := fr9.rf jj
                refine x_iconst 34 rfl ?_
                refine x_goto 35 (tgt := 64) rfl (by decide) ?_
                obtain ⟨i48, hi48⟩ : ∃ f, f = mU jj 194 (k) (0) := ⟨_, rfl⟩
                refine x_iast 39 rfl (n_lt rfl) k_194 (by omega) (g' := st i48 l) (by subst hi48; rfl) ?_
                have w1 : i48 = mU jj 194 k (vmk (i 190) y k) := by rw [hi48]; congr 1; unfold vmk; first | (rw [if_pos (by omega)]; done) | (rw [if_neg (by omega), hzf, j190])
                have hm1 : i48 194 k = vmk (i 190) y k := by rw [w1, mUs]
                have hmk : 0 ≤ i48 194 k ∧ i48 194 k ≤ 15 := by rw [hm1]; exact hvb
                refine x_aload_n 40 rfl rfl ?_
                refine x_getR 41 (z := 195) rfl fl_X9_32 (n_lt rfl) k_189 rfl r_189_12 ?_
                refine x_iload_n 42 rfl rfl ?_
                refine x_aload_n 43 rfl rfl ?_
                refine x_iload_n 44 rfl rfl ?_
                refine x_iconst 45 rfl ?_
                refine x_callV 46 m_X9_nextPart (r_nextPart (by omega) hmk (by omega)) rfl ok_X9_nextPart (n_lt rfl) k_189 rfl rfl ml_X9_97 im_X9_nextPart se_X9_nextPart rfl (by decide) rfl (Nat.le_of_ble_eq_true rfl) rfl rfl (fun v g q49 => ?_)
                obtain ⟨rfl, rfl⟩ := q49
                show mX m_X9_findBest 6 _ 0 0 _ _ [vI (npZ (i48 194 k) 0), vI (k), vR (some 195)] _
                obtain ⟨i50, hi50⟩ : ∃ f, f = mU i48 195 (k) (npZ (i48 194 k) 0) := ⟨_, rfl⟩
                refine x_iast 47 rfl (n_lt rfl) k_195 (by omega) (g' := st i50 l) (by subst hi50; rfl) ?_
                have w2 : i50 = mU i48 195 k (npZ (vmk (i 190) y k) 0) := by rw [hi50, hm1]
                have htc : i50 195 k = -9 ∨ (0 ≤ i50 195 k ∧ i50 195 k < 4) := by rw [w2, mUs]; exact npZ_bd _ _
                refine x_aload_n 48 rfl rfl ?_
                refine x_iload_n 49 rfl rfl ?_
                refine x_iconst 50 rfl ?_
                refine x_callV 51 m_X9_change (r_change (by omega) htc) rfl ok_X9_change (n_lt rfl) k_189 rfl rfl ml_X9_100 im_X9_change se_X9_change rfl (by decide) rfl (Nat.le_of_ble_eq_true rfl) rfl rfl (fun v g q51 => ?_)
                obtain ⟨rfl, i52, li52, rfl, hi52⟩ := q51
                obtain ⟨hEi52, hi52⟩ := hi52
                have hEi52 := hEi52.symm
                subst hEi52
                show mX m_X9_findBest 6 _ 0 0 _ _ [] _
                refine x_iinc 52 (L' := [some (vR (some 189)), some (vI (y)), some (vI (i 190 11)), some (vI (k + 1)), none, none]) rfl (by decide) rfl rfl rfl rfl ?_
                refine x_goto 53 (tgt := 40) rfl (by decide) ?_
                exact ihL5 i52 (k + 1) (by omega) (fbJ_step ⟨hk.1, by omega⟩ hfrj w1 w2 hi52 j190 hJ) (by omega)
        exact loopL5 ((i 190 11 - ((0))) + 1 : Int).toNat ii (0) (by omega) (⟨fun _ _ _ _ _ _ => rfl, fun q h0 h1 => by omega, fun p p0 p1 => by rw [hA, if_pos ⟨rfl, p0, by omega⟩]; rfl⟩) (by omega)
      · refine x_aload_n 11 rfl rfl ?_
        refine x_getR 12 (z := 197) rfl fl_X9_38 (n_lt rfl) k_189 rfl r_189_14 ?_
        refine x_iload_n 13 rfl rfl ?_
        refine x_iconst 14 rfl ?_
        obtain ⟨i53, hi53⟩ : ∃ f, f = mU ii 197 (x) (0) := ⟨_, rfl⟩
        refine x_iast 15 rfl (n_lt rfl) k_197 (by omega) (g' := st i53 l) (by subst hi53; rfl) ?_
        refine x_iinc 16 (L' := [some (vR (some 189)), some (vI (y)), some (vI (x + 1)), none, none, none]) rfl (by decide) rfl rfl rfl rfl ?_
        refine x_goto 17 (tgt := 12) rfl (by decide) ?_
        exact ihL3 i53 (x + 1) (by omega) (by intro a b; rw [hi53]; simp only [mU, hA]; grind) (by omega)
  exact loopL3 ((4 - ((0))) + 1 : Int).toNat i2 (0) (by omega) (by intro a b; rw [if_neg (by omega)]; subst_vars; simp only [mU]) (by omega)
