variable {nn : Nat} {bb : Bool}
/-! parts hold who is placed in them; seats are all different -/
set_option maxRecDepth 20000 in
set_option maxHeartbeats 2000000 in
theorem c_l_areParts {i : Nat → Int → Int} {l : Nat → Int → BitVec 64} {B : bT} (hR : RelT bb i l B) (hB : okT B) : mCtr m_L_areParts 9 0 0 [vR (some (ob bb))] (st nn i l) (qT nn bb i l (1, B)) := by
  refine mCtr_of pl_L dc_L_areParts (Nat.le_of_ble_eq_true rfl) rfl ?_
  show mX m_L_areParts 9 _ 0 0 0 [some (vR (some (ob bb))), none, none, none, none, none, none, none, none, none, none, none, none, none, none] [] (st nn i l)
  have hk := kp_0 hR
  have hW := hB.1
  have hN := hW.n
  obtain ⟨f, hf⟩ : ∃ f : Int → Bool, f = fun q => decide (B.1 1 ≤ gPres B.1 q) := ⟨_, rfl⟩
  refine x_aload_n 0 rfl rfl ?_
  refine x_iconst 1 rfl ?_
  refine x_callV 2 m_X8_told (c_b_told hk.1 hB (by omega)) rfl ok_X8_told b_lt0 k_0 rfl rfl ml_L_32 im_X8_told se_X8_told rfl (by decide) rfl (Nat.le_of_ble_eq_true rfl) rfl rfl (fun v g q1 => ?_)
  obtain ⟨rfl, i2, li2, rfl, hk⟩ := kQ_of hk q1
  have hk : kp bb i i l (B) i2 li2 := hk
  show mX m_L_areParts 9 _ 0 0 _ _ [vI (B.1 11)] _
  refine x_istore_n 3 (L' := [some (vR (some (ob bb))), some (vI (B.1 11)), none, none, none, none, none, none, none, none, none, none, none, none, none]) rfl (by decide) rfl rfl ?_
  refine x_iconst 4 rfl ?_
  refine x_istore_n 5 (L' := [some (vR (some (ob bb))), some (vI (B.1 11)), some (vI (0)), none, none, none, none, none, none, none, none, none, none, none, none]) rfl (by decide) rfl rfl ?_
  refine x_iconst 6 rfl ?_
  refine x_istore_n 7 (L' := [some (vR (some (ob bb))), some (vI (B.1 11)), some (vI (0)), some (vI (0)), none, none, none, none, none, none, none, none, none, none, none]) rfl (by decide) rfl rfl ?_
  refine x_iconst 8 rfl ?_
  refine x_istore 9 (L' := [some (vR (some (ob bb))), some (vI (B.1 11)), some (vI (0)), some (vI (0)), some (vI (0)), none, none, none, none, none, none, none, none, none, none]) rfl (by decide) rfl rfl ?_
  refine x_iconst 10 rfl ?_
  refine x_istore 11 (L' := [some (vR (some (ob bb))), some (vI (B.1 11)), some (vI (0)), some (vI (0)), some (vI (0)), some (vI (0)), none, none, none, none, none, none, none, none, none]) rfl (by decide) rfl rfl ?_
  refine x_iconst 12 rfl ?_
  refine x_istore 13 (L' := [some (vR (some (ob bb))), some (vI (B.1 11)), some (vI (0)), some (vI (0)), some (vI (0)), some (vI (0)), some (vI (0)), none, none, none, none, none, none, none, none]) rfl (by decide) rfl rfl ?_
  refine x_iconst 14 rfl ?_
  refine x_istore 15 (L' := [some (vR (some (ob bb))), some (vI (B.1 11)), some (vI (0)), some (vI (0)), some (vI (0)), some (vI (0)), some (vI (0)), some (vI (0)), none, none, none, none, none, none, none]) rfl (by decide) rfl rfl ?_
  have loopL3 : ∀ (nz : Nat) (ii : Nat → Int → Int) (ll : Nat → Int → BitVec 64) (p : Int) (pl : Int) (su : Int) (co : Int) (ro : Int), (0 ≤ p ∧ p ≤ 4) → (pl = sumZ (fun q => gMem B.1 q) p ∧ 0 ≤ pl ∧ pl ≤ 10 * p) → (su = sumZ (fun q => gStr B.1 q) p ∧ 0 ≤ su ∧ su ≤ 90 * p) → (co = orZ f p) → (ro = sumZ (fun k => gRows B.1 k) p) → (kp bb i i l B ii ll) → (4 - p) < (nz : Int) → mX m_L_areParts 9 (qT nn bb i l (1, B)) 0 0 22 [some (vR (some (ob bb))), some (vI (B.1 11)), some (vI (pl)), some (vI (0)), some (vI (su)), some (vI (co)), some (vI (ro)), some (vI (p)), none, none, none, none, none, none, none] [] (st nn ii ll) := by
    intro nz
    induction nz with
    | zero => intro ii ll p pl su co ro hp hpl hsu hco hro hk hz; exact absurd hz (by omega)
    | succ nz ihL3 =>
      intro ii ll p pl su co ro hp hpl hsu hco hro hk hzL3
      refine x_iload 16 rfl rfl ?_
      refine x_iconst 17 rfl ?_
      refine x_icmp_ge 18 (tgt := 327) rfl (by decide) (by omega) (fun h4 => ?_) (fun h4 => ?_)
      · have hp4 : p = 4 := by omega
        have hcv : co = gCov B.1 := by rw [hco, hf, hp4]; rfl
        have hob := orZ_bd f (x := 4) (by omega)
        have hms : su = gTot B.1 := by rw [hsu.1, hp4]; exact part4s hW
        have htb := gTot_bd hW
        refine x_iconst 181 rfl ?_
        refine x_istore 182 (L' := [some (vR (some (ob bb))), some (vI (B.1 11)), some (vI (pl)), some (vI (0)), some (vI (su)), some (vI (co)), some (vI (ro)), some (vI (0)), none, none, none, none, none, none, none]) rfl (by decide) rfl rfl ?_
        obtain ⟨fa, hfa⟩ : ∃ f : Int → Int, f = fun k => if sV B.1 k 3 = 0 then 1 else 0 := ⟨_, rfl⟩
        have loopL5 : ∀ (nz : Nat) (ii3 : Nat → Int → Int) (ll3 : Nat → Int → BitVec 64) (x : Int) (ab : Int), (0 ≤ x ∧ x ≤ B.1 11) → (ab = sumZ fa x ∧ 0 ≤ ab ∧ ab ≤ x) → (kp bb i i l B ii3 ll3) → (B.1 11 - x) < (nz : Int) → mX m_L_areParts 9 (qT nn bb i l (1, B)) 0 0 330 [some (vR (some (ob bb))), some (vI (B.1 11)), some (vI (pl)), some (vI (ab)), some (vI (su)), some (vI (co)), some (vI (ro)), some (vI (x)), none, none, none, none, none, none, none] [] (st nn ii3 ll3) := by
          intro nz
          induction nz with
          | zero => intro ii3 ll3 x ab hx hab hk hz; exact absurd hz (by omega)
          | succ nz ihL5 =>
            intro ii3 ll3 x ab hx hab hk hzL5
            refine x_iload 183 rfl rfl ?_
            refine x_iload_n 184 rfl rfl ?_
            refine x_icmp_ge 185 (tgt := 400) rfl (by decide) (by omega) (fun h6 => ?_) (fun h6 => ?_)
            · have hxe : x = B.1 11 := by omega
              have habs : ab = gAbs B.1 := by rw [hab.1, hfa, hxe]; rfl
              have hpp : pl = sumZ (fun p => gMem B.1 p) 4 := by rw [hpl.1, hp4]
              have hgb := gAbs_bd hW
              refine x_aload_n 220 rfl rfl ?_
              refine x_iconst 221 rfl ?_
              refine x_callV 222 m_X8_told (c_b_told hk.1 hB (by omega)) rfl ok_X8_told b_lt0 k_0 rfl rfl ml_L_32 im_X8_told se_X8_told rfl (by decide) rfl (Nat.le_of_ble_eq_true rfl) rfl rfl (fun v g q7 => ?_)
              obtain ⟨rfl, i8, li8, rfl, hk⟩ := kQ_of hk q7
              have hk : kp bb i i l (B) i8 li8 := hk
              show mX m_L_areParts 9 _ 0 0 _ _ [vI (sumZ (fun p => gMem B.1 p) 4)] _
              refine x_iload_n 223 rfl rfl ?_
              refine x_icmp_ne 224 (tgt := 456) rfl (by decide) (by omega) (fun h9 => by exfalso; omega) (fun h9 => ?_)
              refine x_aload_n 225 rfl rfl ?_
              refine x_iconst 226 rfl ?_
              refine x_callV 227 m_X8_told (c_b_told hk.1 hB (by omega)) rfl ok_X8_told b_lt0 k_0 rfl rfl ml_L_32 im_X8_told se_X8_told rfl (by decide) rfl (Nat.le_of_ble_eq_true rfl) rfl rfl (fun v g q10 => ?_)
              obtain ⟨rfl, i11, li11, rfl, hk⟩ := kQ_of hk q10
              have hk : kp bb i i l (B) i11 li11 := hk
              show mX m_L_areParts 9 _ 0 0 _ _ [vI (gAbs B.1)] _
              refine x_iload_n 228 rfl rfl ?_
              refine x_icmp_ne 229 (tgt := 456) rfl (by decide) (by omega) (fun h12 => ?_) (fun h12 => ?_)
              · refine x_iconst 251 rfl ?_
                refine x_ret 252 (some (vI (0))) rfl ⟨rfl, Or.inr ⟨rfl, by omega⟩⟩ ⟨_, i11, li11, rfl, rfl, ?_⟩
                first | exact kp_fin hk rfl | (exfalso; omega)
              · have hcb : 0 ≤ gCov B.1 ∧ gCov B.1 < 1073741824 := by rw [← hcv, hco, hp4]; exact hob
                refine x_aload_n 230 rfl rfl ?_
                refine x_iconst 231 rfl ?_
                refine x_callV 232 m_X8_told (c_b_told hk.1 hB (by omega)) rfl ok_X8_told b_lt0 k_0 rfl rfl ml_L_32 im_X8_told se_X8_told rfl (by decide) rfl (Nat.le_of_ble_eq_true rfl) rfl rfl (fun v g q13 => ?_)
                obtain ⟨rfl, i14, li14, rfl, hk⟩ := kQ_of hk q13
                have hk : kp bb i i l (B) i14 li14 := hk
                show mX m_L_areParts 9 _ 0 0 _ _ [vI (gCov B.1)] _
                refine x_iload 233 rfl rfl ?_
                refine x_icmp_ne 234 (tgt := 456) rfl (by decide) (by omega) (fun h15 => ?_) (fun h15 => ?_)
                · refine x_iconst 251 rfl ?_
                  refine x_ret 252 (some (vI (0))) rfl ⟨rfl, Or.inr ⟨rfl, by omega⟩⟩ ⟨_, i14, li14, rfl, rfl, ?_⟩
                  first | exact kp_fin hk rfl | (exfalso; omega)
                · refine x_aload_n 235 rfl rfl ?_
                  refine x_callV 236 m_X8_mean (c_b_mean hk.1 hB) rfl ok_X8_mean b_lt0 k_0 rfl rfl ml_L_88 im_X8_mean se_X8_mean rfl (by decide) rfl (Nat.le_of_ble_eq_true rfl) rfl rfl (fun v g q16 => ?_)
                  obtain ⟨rfl, rfl⟩ := q16
                  show mX m_L_areParts 9 _ 0 0 _ _ [vF (mnF (gTot B.1))] _
                  refine x_iload 237 rfl rfl ?_
                  refine x_i2f 238 (r := FP.i2f (Int32.ofInt su)) rfl rfl ?_
                  refine x_ldcf 239 rfl cf_L_92 ?_
                  refine x_fdiv 240 (r := FP.fdiv (FP.i2f (Int32.ofInt su)) (1082130432)) rfl rfl (by rw [hms]; exact (mn_ok htb).1) ?_
                  refine x_fcmp 241 (r := 0) rfl (by rw [hms]; exact mn_fcmp htb) ?_
                  refine x_if_ne 242 (tgt := 456) rfl (by decide) (by decide) (fun h17 => absurd h17 (by decide)) (fun h17 => ?_)
                  refine x_aload_n 243 rfl rfl ?_
                  refine x_iconst 244 rfl ?_
                  refine x_iconst 245 rfl ?_
                  refine x_callV 246 m_X8_part (c_b_part hk.1 hB (by omega) (by omega)) rfl ok_X8_part b_lt0 k_0 rfl rfl ml_L_85 im_X8_part se_X8_part rfl (by decide) rfl (Nat.le_of_ble_eq_true rfl) rfl rfl (fun v g q18 => ?_)
                  obtain ⟨rfl, i19, li19, rfl, hk⟩ := kQ_of hk q18
                  have hk : kp bb i i l (B) i19 li19 := hk
                  show mX m_L_areParts 9 _ 0 0 _ _ [vI (anPart 4 0 B.1)] _
                  refine x_eqS (S' := [vI ((-1))]) (by rw [anP40]) ?_
                  refine x_iconst 247 rfl ?_
                  refine x_icmp_ne 248 (tgt := 456) rfl (by decide) (by decide) (fun h20 => absurd h20 (by decide)) (fun h20 => ?_)
                  refine x_iconst 249 rfl ?_
                  refine x_goto 250 (tgt := 457) rfl (by decide) ?_
                  refine x_ret 252 (some (vI (1))) rfl ⟨rfl, Or.inr ⟨rfl, by omega⟩⟩ ⟨_, i19, li19, rfl, rfl, ?_⟩
                  first | exact kp_fin hk rfl | (exfalso; omega)
            · have hv := hW.v hx.1 (show x < B.1 11 by omega)
              have hv2 := hv.2.2.1
              have hv3 := hv.2.2.2.1
              have hsb := an_seat_bd hW (y := x) (by omega)
              refine x_aload_n 186 rfl rfl ?_
              refine x_iload 187 rfl rfl ?_
              refine x_bipush 188 rfl (by decide) ?_
              refine x_callV 189 m_X8_singer (c_b_singer hk.1 hB (by omega) (by omega)) rfl ok_X8_singer b_lt0 k_0 rfl rfl ml_L_70 im_X8_singer se_X8_singer rfl (by decide) rfl (Nat.le_of_ble_eq_true rfl) rfl rfl (fun v g q21 => ?_)
              obtain ⟨rfl, i22, li22, rfl, hk⟩ := kQ_of hk q21
              have hk : kp bb i i l (B) i22 li22 := hk
              show mX m_L_areParts 9 _ 0 0 _ _ [vI (anSinger x 6 B.1)] _
              refine x_eqS (S' := [vI (sV B.1 x 3)]) (by rw [anS6 (by omega) (by omega)]) ?_
              refine x_if_ne 190 (tgt := 353) rfl (by decide) (by omega) (fun h23 => ?_) (fun h23 => ?_)
              · have fax : fa x = 0 := by rw [hfa]; exact if_neg (by omega)
                refine x_iload_n 195 rfl rfl ?_
                refine x_istore_n 196 (L' := [some (vR (some (ob bb))), some (vI (B.1 11)), some (vI (pl)), some (vI (ab)), some (vI (su)), some (vI (co)), some (vI (ro)), some (vI (x)), none, none, none, none, none, none, none]) rfl (by decide) rfl rfl ?_
                refine x_aload_n 197 rfl rfl ?_
                refine x_iload 198 rfl rfl ?_
                refine x_iconst 199 rfl ?_
                refine x_callV 200 m_X8_singer (c_b_singer hk.1 hB (by omega) (by omega)) rfl ok_X8_singer b_lt0 k_0 rfl rfl ml_L_70 im_X8_singer se_X8_singer rfl (by decide) rfl (Nat.le_of_ble_eq_true rfl) rfl rfl (fun v g q24 => ?_)
                obtain ⟨rfl, i25, li25, rfl, hk⟩ := kQ_of hk q24
                have hk : kp bb i i l (B) i25 li25 := hk
                show mX m_L_areParts 9 _ 0 0 _ _ [vI (anSinger x 5 B.1)] _
                refine x_eqS (S' := [vI (sV B.1 x 2)]) (by rw [anS5 (by omega) (by omega)]) ?_
                refine x_bipush 201 rfl (by decide) ?_
                refine x_icmp_ne 202 (tgt := 371) rfl (by decide) (by omega) (fun h26 => ?_) (fun h26 => ?_)
                · refine x_iconst 205 rfl ?_
                  refine x_aload_n 206 rfl rfl ?_
                  refine x_iload 207 rfl rfl ?_
                  refine x_iconst 208 rfl ?_
                  refine x_callV 209 m_X8_seat (c_b_seat hk.1 hB (by omega) (by omega)) rfl ok_X8_seat b_lt0 k_0 rfl rfl ml_L_82 im_X8_seat se_X8_seat rfl (by decide) rfl (Nat.le_of_ble_eq_true rfl) rfl rfl (fun v g q27 => ?_)
                  obtain ⟨rfl, i28, li28, rfl, hk⟩ := kQ_of hk q27
                  have hk : kp bb i i l (B) i28 li28 := hk
                  show mX m_L_areParts 9 _ 0 0 _ _ [vI (anSeat x 0 B.1), vI (0)] _
                  refine x_bipush 210 rfl (by decide) ?_
                  refine x_icmp_ne 211 (tgt := 388) rfl (by decide) (by omega) (fun h29 => ?_) (fun h29 => ?_)
                  · refine x_iconst 214 rfl ?_
                    refine x_icmp_eq 215 (tgt := 394) rfl (by decide) (by decide) (fun h30 => ?_) (fun h30 => absurd h30 (by decide))
                    refine x_iinc 218 (L' := [some (vR (some (ob bb))), some (vI (B.1 11)), some (vI (pl)), some (vI (ab)), some (vI (su)), some (vI (co)), some (vI (ro)), some (vI (x + 1)), none, none, none, none, none, none, none]) rfl (by decide) rfl rfl rfl rfl ?_
                    refine x_goto 219 (tgt := 330) rfl (by decide) ?_
                    exact ihL5 i28 li28 (x + 1) (ab) (by omega) (⟨by rw [sumZ_s fa hx.1, ← hab.1]; omega, by omega, by omega⟩) (hk) (by omega)
                  · refine x_iconst 212 rfl ?_
                    refine x_goto 213 (tgt := 389) rfl (by decide) ?_
                    refine x_icmp_eq 215 (tgt := 394) rfl (by decide) (by decide) (fun h31 => absurd h31 (by decide)) (fun h31 => ?_)
                    refine x_iconst 216 rfl ?_
                    refine x_ret 217 (some (vI (0))) rfl ⟨rfl, Or.inr ⟨rfl, by omega⟩⟩ ⟨_, i28, li28, rfl, rfl, ?_⟩
                    exfalso; omega
                · refine x_iconst 203 rfl ?_
                  refine x_goto 204 (tgt := 372) rfl (by decide) ?_
                  refine x_aload_n 206 rfl rfl ?_
                  refine x_iload 207 rfl rfl ?_
                  refine x_iconst 208 rfl ?_
                  refine x_callV 209 m_X8_seat (c_b_seat hk.1 hB (by omega) (by omega)) rfl ok_X8_seat b_lt0 k_0 rfl rfl ml_L_82 im_X8_seat se_X8_seat rfl (by decide) rfl (Nat.le_of_ble_eq_true rfl) rfl rfl (fun v g q32 => ?_)
                  obtain ⟨rfl, i33, li33, rfl, hk⟩ := kQ_of hk q32
                  have hk : kp bb i i l (B) i33 li33 := hk
                  show mX m_L_areParts 9 _ 0 0 _ _ [vI (anSeat x 0 B.1), vI (1)] _
                  refine x_bipush 210 rfl (by decide) ?_
                  refine x_icmp_ne 211 (tgt := 388) rfl (by decide) (by omega) (fun h34 => ?_) (fun h34 => ?_)
                  · refine x_iconst 214 rfl ?_
                    refine x_icmp_eq 215 (tgt := 394) rfl (by decide) (by decide) (fun h35 => absurd h35 (by decide)) (fun h35 => ?_)
                    refine x_iconst 216 rfl ?_
                    refine x_ret 217 (some (vI (0))) rfl ⟨rfl, Or.inr ⟨rfl, by omega⟩⟩ ⟨_, i33, li33, rfl, rfl, ?_⟩
                    exfalso; omega
                  · refine x_iconst 212 rfl ?_
                    refine x_goto 213 (tgt := 389) rfl (by decide) ?_
                    refine x_icmp_eq 215 (tgt := 394) rfl (by decide) (by decide) (fun h36 => ?_) (fun h36 => absurd h36 (by decide))
                    refine x_iinc 218 (L' := [some (vR (some (ob bb))), some (vI (B.1 11)), some (vI (pl)), some (vI (ab)), some (vI (su)), some (vI (co)), some (vI (ro)), some (vI (x + 1)), none, none, none, none, none, none, none]) rfl (by decide) rfl rfl rfl rfl ?_
                    refine x_goto 219 (tgt := 330) rfl (by decide) ?_
                    exact ihL5 i33 li33 (x + 1) (ab) (by omega) (⟨by rw [sumZ_s fa hx.1, ← hab.1]; omega, by omega, by omega⟩) (hk) (by omega)
              · have fax : fa x = 1 := by rw [hfa]; exact if_pos (by omega)
                refine x_iload_n 191 rfl rfl ?_
                refine x_iconst 192 rfl ?_
                refine x_iadd 193 (r := ab + 1) rfl rfl ?_
                refine x_goto 194 (tgt := 354) rfl (by decide) ?_
                refine x_istore_n 196 (L' := [some (vR (some (ob bb))), some (vI (B.1 11)), some (vI (pl)), some (vI (ab + 1)), some (vI (su)), some (vI (co)), some (vI (ro)), some (vI (x)), none, none, none, none, none, none, none]) rfl (by decide) rfl rfl ?_
                refine x_aload_n 197 rfl rfl ?_
                refine x_iload 198 rfl rfl ?_
                refine x_iconst 199 rfl ?_
                refine x_callV 200 m_X8_singer (c_b_singer hk.1 hB (by omega) (by omega)) rfl ok_X8_singer b_lt0 k_0 rfl rfl ml_L_70 im_X8_singer se_X8_singer rfl (by decide) rfl (Nat.le_of_ble_eq_true rfl) rfl rfl (fun v g q37 => ?_)
                obtain ⟨rfl, i38, li38, rfl, hk⟩ := kQ_of hk q37
                have hk : kp bb i i l (B) i38 li38 := hk
                show mX m_L_areParts 9 _ 0 0 _ _ [vI (anSinger x 5 B.1)] _
                refine x_eqS (S' := [vI (sV B.1 x 2)]) (by rw [anS5 (by omega) (by omega)]) ?_
                refine x_bipush 201 rfl (by decide) ?_
                refine x_icmp_ne 202 (tgt := 371) rfl (by decide) (by omega) (fun h39 => ?_) (fun h39 => ?_)
                · refine x_iconst 205 rfl ?_
                  refine x_aload_n 206 rfl rfl ?_
                  refine x_iload 207 rfl rfl ?_
                  refine x_iconst 208 rfl ?_
                  refine x_callV 209 m_X8_seat (c_b_seat hk.1 hB (by omega) (by omega)) rfl ok_X8_seat b_lt0 k_0 rfl rfl ml_L_82 im_X8_seat se_X8_seat rfl (by decide) rfl (Nat.le_of_ble_eq_true rfl) rfl rfl (fun v g q40 => ?_)
                  obtain ⟨rfl, i41, li41, rfl, hk⟩ := kQ_of hk q40
                  have hk : kp bb i i l (B) i41 li41 := hk
                  show mX m_L_areParts 9 _ 0 0 _ _ [vI (anSeat x 0 B.1), vI (0)] _
                  refine x_bipush 210 rfl (by decide) ?_
                  refine x_icmp_ne 211 (tgt := 388) rfl (by decide) (by omega) (fun h42 => ?_) (fun h42 => ?_)
                  · refine x_iconst 214 rfl ?_
                    refine x_icmp_eq 215 (tgt := 394) rfl (by decide) (by decide) (fun h43 => ?_) (fun h43 => absurd h43 (by decide))
                    refine x_iinc 218 (L' := [some (vR (some (ob bb))), some (vI (B.1 11)), some (vI (pl)), some (vI (ab + 1)), some (vI (su)), some (vI (co)), some (vI (ro)), some (vI (x + 1)), none, none, none, none, none, none, none]) rfl (by decide) rfl rfl rfl rfl ?_
                    refine x_goto 219 (tgt := 330) rfl (by decide) ?_
                    exact ihL5 i41 li41 (x + 1) (ab + 1) (by omega) (⟨by rw [sumZ_s fa hx.1, ← hab.1]; omega, by omega, by omega⟩) (hk) (by omega)
                  · refine x_iconst 212 rfl ?_
                    refine x_goto 213 (tgt := 389) rfl (by decide) ?_
                    refine x_icmp_eq 215 (tgt := 394) rfl (by decide) (by decide) (fun h44 => absurd h44 (by decide)) (fun h44 => ?_)
                    refine x_iconst 216 rfl ?_
                    refine x_ret 217 (some (vI (0))) rfl ⟨rfl, Or.inr ⟨rfl, by omega⟩⟩ ⟨_, i41, li41, rfl, rfl, ?_⟩
                    exfalso; omega
                · refine x_iconst 203 rfl ?_
                  refine x_goto 204 (tgt := 372) rfl (by decide) ?_
                  refine x_aload_n 206 rfl rfl ?_
                  refine x_iload 207 rfl rfl ?_
                  refine x_iconst 208 rfl ?_
                  refine x_callV 209 m_X8_seat (c_b_seat hk.1 hB (by omega) (by omega)) rfl ok_X8_seat b_lt0 k_0 rfl rfl ml_L_82 im_X8_seat se_X8_seat rfl (by decide) rfl (Nat.le_of_ble_eq_true rfl) rfl rfl (fun v g q45 => ?_)
                  obtain ⟨rfl, i46, li46, rfl, hk⟩ := kQ_of hk q45
                  have hk : kp bb i i l (B) i46 li46 := hk
                  show mX m_L_areParts 9 _ 0 0 _ _ [vI (anSeat x 0 B.1), vI (1)] _
                  refine x_bipush 210 rfl (by decide) ?_
                  refine x_icmp_ne 211 (tgt := 388) rfl (by decide) (by omega) (fun h47 => ?_) (fun h47 => ?_)
                  · refine x_iconst 214 rfl ?_
                    refine x_icmp_eq 215 (tgt := 394) rfl (by decide) (by decide) (fun h48 => absurd h48 (by decide)) (fun h48 => ?_)
                    refine x_iconst 216 rfl ?_
                    refine x_ret 217 (some (vI (0))) rfl ⟨rfl, Or.inr ⟨rfl, by omega⟩⟩ ⟨_, i46, li46, rfl, rfl, ?_⟩
                    exfalso; omega
                  · refine x_iconst 212 rfl ?_
                    refine x_goto 213 (tgt := 389) rfl (by decide) ?_
                    refine x_icmp_eq 215 (tgt := 394) rfl (by decide) (by decide) (fun h49 => ?_) (fun h49 => absurd h49 (by decide))
                    refine x_iinc 218 (L' := [some (vR (some (ob bb))), some (vI (B.1 11)), some (vI (pl)), some (vI (ab + 1)), some (vI (su)), some (vI (co)), some (vI (ro)), some (vI (x + 1)), none, none, none, none, none, none, none]) rfl (by decide) rfl rfl rfl rfl ?_
                    refine x_goto 219 (tgt := 330) rfl (by decide) ?_
                    exact ihL5 i46 li46 (x + 1) (ab + 1) (by omega) (⟨by rw [sumZ_s fa hx.1, ← hab.1]; omega, by omega, by omega⟩) (hk) (by omega)
        exact loopL5 ((B.1 11 - ((0))) + 1 : Int).toNat ii ll (0) (0) (by omega) (⟨rfl, by omega, by omega⟩) (hk) (by omega)
      · have hMb := gMem_bd hW p
        have hSb := gStr_bd hW p
        have hPb := gPres_bd hW p
        have hRb := gRows_bd hW p
        have hsR := sRows_bd hW (p := p) (by omega)
        have hob := orZ_bd f (x := p) (by omega)
        refine x_iconst 19 rfl ?_
        refine x_istore 20 (L' := [some (vR (some (ob bb))), some (vI (B.1 11)), some (vI (pl)), some (vI (0)), some (vI (su)), some (vI (co)), some (vI (ro)), some (vI (p)), some (vI (0)), none, none, none, none, none, none]) rfl (by decide) rfl rfl ?_
        refine x_iconst 21 rfl ?_
        refine x_istore 22 (L' := [some (vR (some (ob bb))), some (vI (B.1 11)), some (vI (pl)), some (vI (0)), some (vI (su)), some (vI (co)), some (vI (ro)), some (vI (p)), some (vI (0)), some (vI (0)), none, none, none, none, none]) rfl (by decide) rfl rfl ?_
        refine x_iconst 23 rfl ?_
        refine x_istore 24 (L' := [some (vR (some (ob bb))), some (vI (B.1 11)), some (vI (pl)), some (vI (0)), some (vI (su)), some (vI (co)), some (vI (ro)), some (vI (p)), some (vI (0)), some (vI (0)), some (vI (0)), none, none, none, none]) rfl (by decide) rfl rfl ?_
        refine x_iconst 25 rfl ?_
        refine x_istore 26 (L' := [some (vR (some (ob bb))), some (vI (B.1 11)), some (vI (pl)), some (vI (0)), some (vI (su)), some (vI (co)), some (vI (ro)), some (vI (p)), some (vI (0)), some (vI (0)), some (vI (0)), some (vI (0)), none, none, none]) rfl (by decide) rfl rfl ?_
        obtain ⟨fm, hfm⟩ : ∃ f : Int → Int, f = fun k => if sV B.1 k 2 = p then 1 else 0 := ⟨_, rfl⟩
        obtain ⟨fs, hfs⟩ : ∃ f : Int → Int, f = fun k => if sV B.1 k 2 = p then sV B.1 k 0 else 0 := ⟨_, rfl⟩
        obtain ⟨fp, hfpp⟩ : ∃ f : Int → Int, f = fun k => if sV B.1 k 2 = p ∧ sV B.1 k 3 ≠ 0 then sV B.1 k 0 else 0 := ⟨_, rfl⟩
        have loopL50 : ∀ (nz : Nat) (ii1 : Nat → Int → Int) (ll1 : Nat → Int → BitVec 64) (k : Int) (ma : Int) (sg : Int) (he : Int), (0 ≤ k ∧ k ≤ B.1 11) → (ma = sumZ fm k ∧ 0 ≤ ma ∧ ma ≤ k) → (sg = sumZ fs k ∧ 0 ≤ sg ∧ sg ≤ 9 * k) → (he = sumZ fp k ∧ 0 ≤ he ∧ he ≤ 9 * k) → (kp bb i i l B ii1 ll1) → (B.1 11 - k) < (nz : Int) → mX m_L_areParts 9 (qT nn bb i l (1, B)) 0 0 40 [some (vR (some (ob bb))), some (vI (B.1 11)), some (vI (pl)), some (vI (0)), some (vI (su)), some (vI (co)), some (vI (ro)), some (vI (p)), some (vI (ma)), some (vI (sg)), some (vI (he)), some (vI (k)), none, none, none] [] (st nn ii1 ll1) := by
          intro nz
          induction nz with
          | zero => intro ii1 ll1 k ma sg he hx hma hsg hhe hk hz; exact absurd hz (by omega)
          | succ nz ihL50 =>
            intro ii1 ll1 k ma sg he hx hma hsg hhe hk hzL50
            refine x_iload 27 rfl rfl ?_
            refine x_iload_n 28 rfl rfl ?_
            refine x_icmp_ge 29 (tgt := 220) rfl (by decide) (by omega) (fun h51 => ?_) (fun h51 => ?_)
            · have hke : k = B.1 11 := by omega
              have hme : gMem B.1 p = ma := by rw [hma.1, hfm, hke]; rfl
              have hse : gStr B.1 p = sg := by rw [hsg.1, hfs, hke]; rfl
              have hpe : gPres B.1 p = he := by rw [hhe.1, hfpp, hke]; rfl
              refine x_iload_n 123 rfl rfl ?_
              refine x_iload 124 rfl rfl ?_
              refine x_iadd 125 (r := pl + ma) rfl rfl ?_
              refine x_istore_n 126 (L' := [some (vR (some (ob bb))), some (vI (B.1 11)), some (vI (pl + ma)), some (vI (0)), some (vI (su)), some (vI (co)), some (vI (ro)), some (vI (p)), some (vI (ma)), some (vI (sg)), some (vI (he)), some (vI (k)), none, none, none]) rfl (by decide) rfl rfl ?_
              refine x_iload 127 rfl rfl ?_
              refine x_iload 128 rfl rfl ?_
              refine x_iadd 129 (r := su + sg) rfl rfl ?_
              refine x_istore 130 (L' := [some (vR (some (ob bb))), some (vI (B.1 11)), some (vI (pl + ma)), some (vI (0)), some (vI (su + sg)), some (vI (co)), some (vI (ro)), some (vI (p)), some (vI (ma)), some (vI (sg)), some (vI (he)), some (vI (k)), none, none, none]) rfl (by decide) rfl rfl ?_
              refine x_iload 131 rfl rfl ?_
              refine x_aload_n 132 rfl rfl ?_
              refine x_iconst 133 rfl ?_
              refine x_callV 134 m_X8_setting (c_b_setting hk.1 hB (by omega)) rfl ok_X8_setting b_lt0 k_0 rfl rfl ml_L_79 im_X8_setting se_X8_setting rfl (by decide) rfl (Nat.le_of_ble_eq_true rfl) rfl rfl (fun v g q52 => ?_)
              obtain ⟨rfl, i53, li53, rfl, hk⟩ := kQ_of hk q52
              have hk : kp bb i i l (B) i53 li53 := hk
              show mX m_L_areParts 9 _ 0 0 _ _ [vI (B.1 1), vI (he)] _
              refine x_icmp_lt 135 (tgt := 252) rfl (by decide) (by omega) (fun h54 => ?_) (fun h54 => ?_)
              · have hfp : f p = false := by rw [hf]; exact decide_eq_false (by omega)
                refine x_iload 142 rfl rfl ?_
                refine x_istore 143 (L' := [some (vR (some (ob bb))), some (vI (B.1 11)), some (vI (pl + ma)), some (vI (0)), some (vI (su + sg)), some (vI (co)), some (vI (ro)), some (vI (p)), some (vI (ma)), some (vI (sg)), some (vI (he)), some (vI (k)), none, none, none]) rfl (by decide) rfl rfl ?_
                refine x_iload 144 rfl rfl ?_
                refine x_aload_n 145 rfl rfl ?_
                refine x_iload 146 rfl rfl ?_
                refine x_iconst 147 rfl ?_
                refine x_callV 148 m_X8_part (c_b_part hk.1 hB (by omega) (by omega)) rfl ok_X8_part b_lt0 k_0 rfl rfl ml_L_85 im_X8_part se_X8_part rfl (by decide) rfl (Nat.le_of_ble_eq_true rfl) rfl rfl (fun v g q55 => ?_)
                obtain ⟨rfl, i56, li56, rfl, hk⟩ := kQ_of hk q55
                have hk : kp bb i i l (B) i56 li56 := hk
                show mX m_L_areParts 9 _ 0 0 _ _ [vI (anPart p 4 B.1), vI (ro)] _
                refine x_eqS (S' := [vI (gRows B.1 p), vI (ro)]) (by rw [anP4 (by omega)]) ?_
                refine x_iadd 149 (r := ro + (gRows B.1 p)) rfl rfl ?_
                refine x_istore 150 (L' := [some (vR (some (ob bb))), some (vI (B.1 11)), some (vI (pl + ma)), some (vI (0)), some (vI (su + sg)), some (vI (co)), some (vI (ro + (gRows B.1 p))), some (vI (p)), some (vI (ma)), some (vI (sg)), some (vI (he)), some (vI (k)), none, none, none]) rfl (by decide) rfl rfl ?_
                refine x_aload_n 151 rfl rfl ?_
                refine x_iload 152 rfl rfl ?_
                refine x_iconst 153 rfl ?_
                refine x_callV 154 m_X8_part (c_b_part hk.1 hB (by omega) (by omega)) rfl ok_X8_part b_lt0 k_0 rfl rfl ml_L_85 im_X8_part se_X8_part rfl (by decide) rfl (Nat.le_of_ble_eq_true rfl) rfl rfl (fun v g q57 => ?_)
                obtain ⟨rfl, i58, li58, rfl, hk⟩ := kQ_of hk q57
                have hk : kp bb i i l (B) i58 li58 := hk
                show mX m_L_areParts 9 _ 0 0 _ _ [vI (anPart p 0 B.1)] _
                refine x_eqS (S' := [vI (gMem B.1 p)]) (by rw [anP0 (by omega)]) ?_
                refine x_iload 155 rfl rfl ?_
                refine x_icmp_ne 156 (tgt := 319) rfl (by decide) (by omega) (fun h59 => by exfalso; omega) (fun h59 => ?_)
                refine x_aload_n 157 rfl rfl ?_
                refine x_iload 158 rfl rfl ?_
                refine x_iconst 159 rfl ?_
                refine x_callV 160 m_X8_part (c_b_part hk.1 hB (by omega) (by omega)) rfl ok_X8_part b_lt0 k_0 rfl rfl ml_L_85 im_X8_part se_X8_part rfl (by decide) rfl (Nat.le_of_ble_eq_true rfl) rfl rfl (fun v g q60 => ?_)
                obtain ⟨rfl, i61, li61, rfl, hk⟩ := kQ_of hk q60
                have hk : kp bb i i l (B) i61 li61 := hk
                show mX m_L_areParts 9 _ 0 0 _ _ [vI (anPart p 1 B.1)] _
                refine x_eqS (S' := [vI (gStr B.1 p)]) (by rw [anP1 (by omega)]) ?_
                refine x_iload 161 rfl rfl ?_
                refine x_icmp_ne 162 (tgt := 319) rfl (by decide) (by omega) (fun h62 => by exfalso; omega) (fun h62 => ?_)
                refine x_aload_n 163 rfl rfl ?_
                refine x_iload 164 rfl rfl ?_
                refine x_iconst 165 rfl ?_
                refine x_callV 166 m_X8_part (c_b_part hk.1 hB (by omega) (by omega)) rfl ok_X8_part b_lt0 k_0 rfl rfl ml_L_85 im_X8_part se_X8_part rfl (by decide) rfl (Nat.le_of_ble_eq_true rfl) rfl rfl (fun v g q63 => ?_)
                obtain ⟨rfl, i64, li64, rfl, hk⟩ := kQ_of hk q63
                have hk : kp bb i i l (B) i64 li64 := hk
                show mX m_L_areParts 9 _ 0 0 _ _ [vI (anPart p 2 B.1)] _
                refine x_eqS (S' := [vI (gPres B.1 p)]) (by rw [anP2 (by omega)]) ?_
                refine x_iload 167 rfl rfl ?_
                refine x_icmp_ne 168 (tgt := 319) rfl (by decide) (by omega) (fun h65 => by exfalso; omega) (fun h65 => ?_)
                refine x_aload_n 169 rfl rfl ?_
                refine x_iload 170 rfl rfl ?_
                refine x_iconst 171 rfl ?_
                have hwk := hW.2.1 p (by omega) (by omega)
                refine x_callV 172 m_X8_part (c_b_part hk.1 hB (by omega) (by omega)) rfl ok_X8_part b_lt0 k_0 rfl rfl ml_L_85 im_X8_part se_X8_part rfl (by decide) rfl (Nat.le_of_ble_eq_true rfl) rfl rfl (fun v g q66 => ?_)
                obtain ⟨rfl, i67, li67, rfl, hk⟩ := kQ_of hk q66
                have hk : kp bb i i l (B) i67 li67 := hk
                show mX m_L_areParts 9 _ 0 0 _ _ [vI (anPart p 3 B.1)] _
                refine x_eqS (S' := [vI (B.1 (5 + p))]) (by rw [anP3 (by omega)]) ?_
                refine x_aload_n 173 rfl rfl ?_
                refine x_iconst 174 rfl ?_
                refine x_callV 175 m_X8_told (c_b_told hk.1 hB (by omega)) rfl ok_X8_told b_lt0 k_0 rfl rfl ml_L_32 im_X8_told se_X8_told rfl (by decide) rfl (Nat.le_of_ble_eq_true rfl) rfl rfl (fun v g q68 => ?_)
                obtain ⟨rfl, i69, li69, rfl, hk⟩ := kQ_of hk q68
                have hk : kp bb i i l (B) i69 li69 := hk
                show mX m_L_areParts 9 _ 0 0 _ _ [vI (B.1 4), vI (B.1 (5 + p))] _
                refine x_icmp_le 176 (tgt := 321) rfl (by decide) (by omega) (fun h70 => ?_) (fun h70 => by exfalso; omega)
                refine x_iinc 179 (L' := [some (vR (some (ob bb))), some (vI (B.1 11)), some (vI (pl + ma)), some (vI (0)), some (vI (su + sg)), some (vI (co)), some (vI (ro + (gRows B.1 p))), some (vI (p + 1)), some (vI (ma)), some (vI (sg)), some (vI (he)), some (vI (k)), none, none, none]) rfl (by decide) rfl rfl rfl rfl ?_
                refine x_goto 180 (tgt := 22) rfl (by decide) ?_
                refine x_dropL (L' := [some (vR (some (ob bb))), some (vI (B.1 11)), some (vI (pl + ma)), some (vI (0)), some (vI (su + sg)), some (vI (co)), some (vI (ro + (gRows B.1 p))), some (vI (p + 1)), none, none, none, none, none, none, none]) ⟨rfl, ⟨rfl, ⟨rfl, ⟨rfl, ⟨rfl, ⟨rfl, ⟨rfl, ⟨rfl, True.intro⟩⟩⟩⟩⟩⟩⟩⟩ ?_
                exact ihL3 i69 li69 (p + 1) (pl + ma) (su + sg) (co) (ro + (gRows B.1 p)) (by omega) (by have e := sumZ_s (fun q => gMem B.1 q) hp.1; refine ⟨by rw [e, ← hpl.1, hme], by omega, by omega⟩) (by have e := sumZ_s (fun q => gStr B.1 q) hp.1; refine ⟨by rw [e, ← hsu.1, hse], by omega, by omega⟩) (by rw [orZ_s f hp.1, hco, hfp]; first | (rw [if_neg (by decide)]) | (rw [if_pos rfl, mOne])) (by rw [sumZ_s _ hp.1, ← hro]) (hk) (by omega)
              · have hfp : f p = true := by rw [hf]; exact decide_eq_true (by omega)
                have hp2 := mPow4 (show 0 ≤ p ∧ p < 4 by omega)
                refine x_iload 136 rfl rfl ?_
                refine x_iconst 137 rfl ?_
                refine x_iload 138 rfl rfl ?_
                refine x_ishl 139 (r := 1 * 2 ^ (p).toNat) rfl (by have := Nat.pow_le_pow_right (n := 2) (by decide) (show p.toNat ≤ 4 by omega); omega) rfl ?_
                refine x_ior 140 (r := (co : Int).toNat ||| (1 * 2 ^ (p).toNat : Int).toNat) rfl (by omega) rfl ?_
                refine x_goto 141 (tgt := 254) rfl (by decide) ?_
                refine x_istore 143 (L' := [some (vR (some (ob bb))), some (vI (B.1 11)), some (vI (pl + ma)), some (vI (0)), some (vI (su + sg)), some (vI ((((co : Int).toNat ||| (1 * 2 ^ (p).toNat : Int).toNat : Nat) : Int))), some (vI (ro)), some (vI (p)), some (vI (ma)), some (vI (sg)), some (vI (he)), some (vI (k)), none, none, none]) rfl (by decide) rfl rfl ?_
                refine x_iload 144 rfl rfl ?_
                refine x_aload_n 145 rfl rfl ?_
                refine x_iload 146 rfl rfl ?_
                refine x_iconst 147 rfl ?_
                refine x_callV 148 m_X8_part (c_b_part hk.1 hB (by omega) (by omega)) rfl ok_X8_part b_lt0 k_0 rfl rfl ml_L_85 im_X8_part se_X8_part rfl (by decide) rfl (Nat.le_of_ble_eq_true rfl) rfl rfl (fun v g q71 => ?_)
                obtain ⟨rfl, i72, li72, rfl, hk⟩ := kQ_of hk q71
                have hk : kp bb i i l (B) i72 li72 := hk
                show mX m_L_areParts 9 _ 0 0 _ _ [vI (anPart p 4 B.1), vI (ro)] _
                refine x_eqS (S' := [vI (gRows B.1 p), vI (ro)]) (by rw [anP4 (by omega)]) ?_
                refine x_iadd 149 (r := ro + (gRows B.1 p)) rfl rfl ?_
                refine x_istore 150 (L' := [some (vR (some (ob bb))), some (vI (B.1 11)), some (vI (pl + ma)), some (vI (0)), some (vI (su + sg)), some (vI ((((co : Int).toNat ||| (1 * 2 ^ (p).toNat : Int).toNat : Nat) : Int))), some (vI (ro + (gRows B.1 p))), some (vI (p)), some (vI (ma)), some (vI (sg)), some (vI (he)), some (vI (k)), none, none, none]) rfl (by decide) rfl rfl ?_
                refine x_aload_n 151 rfl rfl ?_
                refine x_iload 152 rfl rfl ?_
                refine x_iconst 153 rfl ?_
                refine x_callV 154 m_X8_part (c_b_part hk.1 hB (by omega) (by omega)) rfl ok_X8_part b_lt0 k_0 rfl rfl ml_L_85 im_X8_part se_X8_part rfl (by decide) rfl (Nat.le_of_ble_eq_true rfl) rfl rfl (fun v g q73 => ?_)
                obtain ⟨rfl, i74, li74, rfl, hk⟩ := kQ_of hk q73
                have hk : kp bb i i l (B) i74 li74 := hk
                show mX m_L_areParts 9 _ 0 0 _ _ [vI (anPart p 0 B.1)] _
                refine x_eqS (S' := [vI (gMem B.1 p)]) (by rw [anP0 (by omega)]) ?_
                refine x_iload 155 rfl rfl ?_
                refine x_icmp_ne 156 (tgt := 319) rfl (by decide) (by omega) (fun h75 => by exfalso; omega) (fun h75 => ?_)
                refine x_aload_n 157 rfl rfl ?_
                refine x_iload 158 rfl rfl ?_
                refine x_iconst 159 rfl ?_
                refine x_callV 160 m_X8_part (c_b_part hk.1 hB (by omega) (by omega)) rfl ok_X8_part b_lt0 k_0 rfl rfl ml_L_85 im_X8_part se_X8_part rfl (by decide) rfl (Nat.le_of_ble_eq_true rfl) rfl rfl (fun v g q76 => ?_)
                obtain ⟨rfl, i77, li77, rfl, hk⟩ := kQ_of hk q76
                have hk : kp bb i i l (B) i77 li77 := hk
                show mX m_L_areParts 9 _ 0 0 _ _ [vI (anPart p 1 B.1)] _
                refine x_eqS (S' := [vI (gStr B.1 p)]) (by rw [anP1 (by omega)]) ?_
                refine x_iload 161 rfl rfl ?_
                refine x_icmp_ne 162 (tgt := 319) rfl (by decide) (by omega) (fun h78 => by exfalso; omega) (fun h78 => ?_)
                refine x_aload_n 163 rfl rfl ?_
                refine x_iload 164 rfl rfl ?_
                refine x_iconst 165 rfl ?_
                refine x_callV 166 m_X8_part (c_b_part hk.1 hB (by omega) (by omega)) rfl ok_X8_part b_lt0 k_0 rfl rfl ml_L_85 im_X8_part se_X8_part rfl (by decide) rfl (Nat.le_of_ble_eq_true rfl) rfl rfl (fun v g q79 => ?_)
                obtain ⟨rfl, i80, li80, rfl, hk⟩ := kQ_of hk q79
                have hk : kp bb i i l (B) i80 li80 := hk
                show mX m_L_areParts 9 _ 0 0 _ _ [vI (anPart p 2 B.1)] _
                refine x_eqS (S' := [vI (gPres B.1 p)]) (by rw [anP2 (by omega)]) ?_
                refine x_iload 167 rfl rfl ?_
                refine x_icmp_ne 168 (tgt := 319) rfl (by decide) (by omega) (fun h81 => by exfalso; omega) (fun h81 => ?_)
                refine x_aload_n 169 rfl rfl ?_
                refine x_iload 170 rfl rfl ?_
                refine x_iconst 171 rfl ?_
                have hwk := hW.2.1 p (by omega) (by omega)
                refine x_callV 172 m_X8_part (c_b_part hk.1 hB (by omega) (by omega)) rfl ok_X8_part b_lt0 k_0 rfl rfl ml_L_85 im_X8_part se_X8_part rfl (by decide) rfl (Nat.le_of_ble_eq_true rfl) rfl rfl (fun v g q82 => ?_)
                obtain ⟨rfl, i83, li83, rfl, hk⟩ := kQ_of hk q82
                have hk : kp bb i i l (B) i83 li83 := hk
                show mX m_L_areParts 9 _ 0 0 _ _ [vI (anPart p 3 B.1)] _
                refine x_eqS (S' := [vI (B.1 (5 + p))]) (by rw [anP3 (by omega)]) ?_
                refine x_aload_n 173 rfl rfl ?_
                refine x_iconst 174 rfl ?_
                refine x_callV 175 m_X8_told (c_b_told hk.1 hB (by omega)) rfl ok_X8_told b_lt0 k_0 rfl rfl ml_L_32 im_X8_told se_X8_told rfl (by decide) rfl (Nat.le_of_ble_eq_true rfl) rfl rfl (fun v g q84 => ?_)
                obtain ⟨rfl, i85, li85, rfl, hk⟩ := kQ_of hk q84
                have hk : kp bb i i l (B) i85 li85 := hk
                show mX m_L_areParts 9 _ 0 0 _ _ [vI (B.1 4), vI (B.1 (5 + p))] _
                refine x_icmp_le 176 (tgt := 321) rfl (by decide) (by omega) (fun h86 => ?_) (fun h86 => by exfalso; omega)
                refine x_iinc 179 (L' := [some (vR (some (ob bb))), some (vI (B.1 11)), some (vI (pl + ma)), some (vI (0)), some (vI (su + sg)), some (vI ((((co : Int).toNat ||| (1 * 2 ^ (p).toNat : Int).toNat : Nat) : Int))), some (vI (ro + (gRows B.1 p))), some (vI (p + 1)), some (vI (ma)), some (vI (sg)), some (vI (he)), some (vI (k)), none, none, none]) rfl (by decide) rfl rfl rfl rfl ?_
                refine x_goto 180 (tgt := 22) rfl (by decide) ?_
                refine x_dropL (L' := [some (vR (some (ob bb))), some (vI (B.1 11)), some (vI (pl + ma)), some (vI (0)), some (vI (su + sg)), some (vI ((((co : Int).toNat ||| (1 * 2 ^ (p).toNat : Int).toNat : Nat) : Int))), some (vI (ro + (gRows B.1 p))), some (vI (p + 1)), none, none, none, none, none, none, none]) ⟨rfl, ⟨rfl, ⟨rfl, ⟨rfl, ⟨rfl, ⟨rfl, ⟨rfl, ⟨rfl, True.intro⟩⟩⟩⟩⟩⟩⟩⟩ ?_
                exact ihL3 i85 li85 (p + 1) (pl + ma) (su + sg) ((((co : Int).toNat ||| (1 * 2 ^ (p).toNat : Int).toNat : Nat) : Int)) (ro + (gRows B.1 p)) (by omega) (by have e := sumZ_s (fun q => gMem B.1 q) hp.1; refine ⟨by rw [e, ← hpl.1, hme], by omega, by omega⟩) (by have e := sumZ_s (fun q => gStr B.1 q) hp.1; refine ⟨by rw [e, ← hsu.1, hse], by omega, by omega⟩) (by rw [orZ_s f hp.1, hco, hfp]; first | (rw [if_neg (by decide)]) | (rw [if_pos rfl, mOne])) (by rw [sumZ_s _ hp.1, ← hro]) (hk) (by omega)
            · have hv := hW.v hx.1 (show k < B.1 11 by omega)
              have hv0 := hv.1
              have hv2 := hv.2.2.1
              have hv3 := hv.2.2.2.1
              refine x_aload_n 30 rfl rfl ?_
              refine x_iload 31 rfl rfl ?_
              refine x_iconst 32 rfl ?_
              refine x_callV 33 m_X8_singer (c_b_singer hk.1 hB (by omega) (by omega)) rfl ok_X8_singer b_lt0 k_0 rfl rfl ml_L_70 im_X8_singer se_X8_singer rfl (by decide) rfl (Nat.le_of_ble_eq_true rfl) rfl rfl (fun v g q87 => ?_)
              obtain ⟨rfl, i88, li88, rfl, hk⟩ := kQ_of hk q87
              have hk : kp bb i i l (B) i88 li88 := hk
              show mX m_L_areParts 9 _ 0 0 _ _ [vI (anSinger k 5 B.1)] _
              refine x_eqS (S' := [vI (sV B.1 k 2)]) (by rw [anS5 (by omega) (by omega)]) ?_
              refine x_iload 34 rfl rfl ?_
              refine x_icmp_ne 35 (tgt := 214) rfl (by decide) (by omega) (fun h89 => ?_) (fun h89 => ?_)
              · have fmx : fm k = 0 := by rw [hfm]; exact if_neg (by omega)
                have fsx : fs k = 0 := by rw [hfs]; exact if_neg (by omega)
                have fpx : fp k = 0 := by rw [hfpp]; exact if_neg (by omega)
                refine x_iinc 121 (L' := [some (vR (some (ob bb))), some (vI (B.1 11)), some (vI (pl)), some (vI (0)), some (vI (su)), some (vI (co)), some (vI (ro)), some (vI (p)), some (vI (ma)), some (vI (sg)), some (vI (he)), some (vI (k + 1)), none, none, none]) rfl (by decide) rfl rfl rfl rfl ?_
                refine x_goto 122 (tgt := 40) rfl (by decide) ?_
                exact ihL50 i88 li88 (k + 1) (ma) (sg) (he) (by omega) (⟨by rw [sumZ_s fm hx.1, ← hma.1]; omega, by omega, by omega⟩) (⟨by rw [sumZ_s fs hx.1, ← hsg.1]; omega, by omega, by omega⟩) (⟨by rw [sumZ_s fp hx.1, ← hhe.1]; omega, by omega, by omega⟩) (hk) (by omega)
              · have fmx : fm k = 1 := by rw [hfm]; exact if_pos (by omega)
                have fsx : fs k = sV B.1 k 0 := by rw [hfs]; exact if_pos (by omega)
                have hsa := an_seat hW (y := k) (by omega) (p := p) (by omega) (by omega)
                have hsb := an_seat_bd hW (y := k) (by omega)
                refine x_iload 36 rfl rfl ?_
                refine x_iconst 37 rfl ?_
                refine x_iadd 38 (r := ma + 1) rfl rfl ?_
                refine x_istore 39 (L' := [some (vR (some (ob bb))), some (vI (B.1 11)), some (vI (pl)), some (vI (0)), some (vI (su)), some (vI (co)), some (vI (ro)), some (vI (p)), some (vI (ma + 1)), some (vI (sg)), some (vI (he)), some (vI (k)), none, none, none]) rfl (by decide) rfl rfl ?_
                refine x_iload 40 rfl rfl ?_
                refine x_aload_n 41 rfl rfl ?_
                refine x_iload 42 rfl rfl ?_
                refine x_iconst 43 rfl ?_
                refine x_callV 44 m_X8_singer (c_b_singer hk.1 hB (by omega) (by omega)) rfl ok_X8_singer b_lt0 k_0 rfl rfl ml_L_70 im_X8_singer se_X8_singer rfl (by decide) rfl (Nat.le_of_ble_eq_true rfl) rfl rfl (fun v g q90 => ?_)
                obtain ⟨rfl, i91, li91, rfl, hk⟩ := kQ_of hk q90
                have hk : kp bb i i l (B) i91 li91 := hk
                show mX m_L_areParts 9 _ 0 0 _ _ [vI (anSinger k 0 B.1), vI (sg)] _
                refine x_eqS (S' := [vI (sV B.1 k 0), vI (sg)]) (by rw [anS0 (by omega) (by omega)]) ?_
                refine x_iadd 45 (r := sg + (sV B.1 k 0)) rfl rfl ?_
                refine x_istore 46 (L' := [some (vR (some (ob bb))), some (vI (B.1 11)), some (vI (pl)), some (vI (0)), some (vI (su)), some (vI (co)), some (vI (ro)), some (vI (p)), some (vI (ma + 1)), some (vI (sg + (sV B.1 k 0))), some (vI (he)), some (vI (k)), none, none, none]) rfl (by decide) rfl rfl ?_
                refine x_aload_n 47 rfl rfl ?_
                refine x_iload 48 rfl rfl ?_
                refine x_bipush 49 rfl (by decide) ?_
                refine x_callV 50 m_X8_singer (c_b_singer hk.1 hB (by omega) (by omega)) rfl ok_X8_singer b_lt0 k_0 rfl rfl ml_L_70 im_X8_singer se_X8_singer rfl (by decide) rfl (Nat.le_of_ble_eq_true rfl) rfl rfl (fun v g q92 => ?_)
                obtain ⟨rfl, i93, li93, rfl, hk⟩ := kQ_of hk q92
                have hk : kp bb i i l (B) i93 li93 := hk
                show mX m_L_areParts 9 _ 0 0 _ _ [vI (anSinger k 6 B.1)] _
                refine x_eqS (S' := [vI (sV B.1 k 3)]) (by rw [anS6 (by omega) (by omega)]) ?_
                refine x_iconst 51 rfl ?_
                refine x_icmp_ne 52 (tgt := 101) rfl (by decide) (by omega) (fun h94 => ?_) (fun h94 => ?_)
                · have fpx : fp k = 0 := by rw [hfpp]; exact if_neg (by omega)
                  refine x_iload 60 rfl rfl ?_
                  refine x_istore 61 (L' := [some (vR (some (ob bb))), some (vI (B.1 11)), some (vI (pl)), some (vI (0)), some (vI (su)), some (vI (co)), some (vI (ro)), some (vI (p)), some (vI (ma + 1)), some (vI (sg + (sV B.1 k 0))), some (vI (he)), some (vI (k)), none, none, none]) rfl (by decide) rfl rfl ?_
                  refine x_aload_n 62 rfl rfl ?_
                  refine x_iload 63 rfl rfl ?_
                  refine x_iconst 64 rfl ?_
                  refine x_callV 65 m_X8_seat (c_b_seat hk.1 hB (by omega) (by omega)) rfl ok_X8_seat b_lt0 k_0 rfl rfl ml_L_82 im_X8_seat se_X8_seat rfl (by decide) rfl (Nat.le_of_ble_eq_true rfl) rfl rfl (fun v g q95 => ?_)
                  obtain ⟨rfl, i96, li96, rfl, hk⟩ := kQ_of hk q95
                  have hk : kp bb i i l (B) i96 li96 := hk
                  show mX m_L_areParts 9 _ 0 0 _ _ [vI (anSeat k 0 B.1)] _
                  refine x_istore 66 (L' := [some (vR (some (ob bb))), some (vI (B.1 11)), some (vI (pl)), some (vI (0)), some (vI (su)), some (vI (co)), some (vI (ro)), some (vI (p)), some (vI (ma + 1)), some (vI (sg + (sV B.1 k 0))), some (vI (he)), some (vI (k)), some (vI (anSeat k 0 B.1)), none, none]) rfl (by decide) rfl rfl ?_
                  refine x_aload_n 67 rfl rfl ?_
                  refine x_iload 68 rfl rfl ?_
                  refine x_iconst 69 rfl ?_
                  refine x_callV 70 m_X8_seat (c_b_seat hk.1 hB (by omega) (by omega)) rfl ok_X8_seat b_lt0 k_0 rfl rfl ml_L_82 im_X8_seat se_X8_seat rfl (by decide) rfl (Nat.le_of_ble_eq_true rfl) rfl rfl (fun v g q97 => ?_)
                  obtain ⟨rfl, i98, li98, rfl, hk⟩ := kQ_of hk q97
                  have hk : kp bb i i l (B) i98 li98 := hk
                  show mX m_L_areParts 9 _ 0 0 _ _ [vI (anSeat k 1 B.1)] _
                  refine x_istore 71 (L' := [some (vR (some (ob bb))), some (vI (B.1 11)), some (vI (pl)), some (vI (0)), some (vI (su)), some (vI (co)), some (vI (ro)), some (vI (p)), some (vI (ma + 1)), some (vI (sg + (sV B.1 k 0))), some (vI (he)), some (vI (k)), some (vI (anSeat k 0 B.1)), some (vI (anSeat k 1 B.1)), none]) rfl (by decide) rfl rfl ?_
                  refine x_iload 72 rfl rfl ?_
                  refine x_iload 73 rfl rfl ?_
                  refine x_icmp_lt 74 (tgt := 170) rfl (by decide) (by omega) (fun h99 => by exfalso; omega) (fun h99 => ?_)
                  refine x_iload 75 rfl rfl ?_
                  refine x_iload 76 rfl rfl ?_
                  refine x_aload_n 77 rfl rfl ?_
                  refine x_iload 78 rfl rfl ?_
                  refine x_iconst 79 rfl ?_
                  refine x_callV 80 m_X8_part (c_b_part hk.1 hB (by omega) (by omega)) rfl ok_X8_part b_lt0 k_0 rfl rfl ml_L_85 im_X8_part se_X8_part rfl (by decide) rfl (Nat.le_of_ble_eq_true rfl) rfl rfl (fun v g q100 => ?_)
                  obtain ⟨rfl, i101, li101, rfl, hk⟩ := kQ_of hk q100
                  have hk : kp bb i i l (B) i101 li101 := hk
                  show mX m_L_areParts 9 _ 0 0 _ _ [vI (anPart p 4 B.1), vI (ro), vI (anSeat k 0 B.1)] _
                  refine x_eqS (S' := [vI (gRows B.1 p), vI (ro), vI (anSeat k 0 B.1)]) (by rw [anP4 (by omega)]) ?_
                  refine x_iadd 81 (r := ro + (gRows B.1 p)) rfl rfl ?_
                  refine x_icmp_ge 82 (tgt := 170) rfl (by decide) (by omega) (fun h102 => by exfalso; omega) (fun h102 => ?_)
                  refine x_iconst 83 rfl ?_
                  refine x_iload 84 rfl rfl ?_
                  refine x_imul 85 (r := 2 * (anSeat k 1 B.1)) rfl rfl ?_
                  refine x_aload_n 86 rfl rfl ?_
                  refine x_iconst 87 rfl ?_
                  refine x_callV 88 m_X8_setting (c_b_setting hk.1 hB (by omega)) rfl ok_X8_setting b_lt0 k_0 rfl rfl ml_L_79 im_X8_setting se_X8_setting rfl (by decide) rfl (Nat.le_of_ble_eq_true rfl) rfl rfl (fun v g q103 => ?_)
                  obtain ⟨rfl, i104, li104, rfl, hk⟩ := kQ_of hk q103
                  have hk : kp bb i i l (B) i104 li104 := hk
                  show mX m_L_areParts 9 _ 0 0 _ _ [vI (B.1 3), vI (2 * (anSeat k 1 B.1))] _
                  refine x_icmp_gt 89 (tgt := 170) rfl (by decide) (by omega) (fun h105 => by exfalso; omega) (fun h105 => ?_)
                  refine x_iconst 90 rfl ?_
                  refine x_iload 91 rfl rfl ?_
                  refine x_imul 92 (r := 2 * (anSeat k 1 B.1)) rfl rfl ?_
                  refine x_aload_n 93 rfl rfl ?_
                  refine x_iconst 94 rfl ?_
                  refine x_callV 95 m_X8_setting (c_b_setting hk.1 hB (by omega)) rfl ok_X8_setting b_lt0 k_0 rfl rfl ml_L_79 im_X8_setting se_X8_setting rfl (by decide) rfl (Nat.le_of_ble_eq_true rfl) rfl rfl (fun v g q106 => ?_)
                  obtain ⟨rfl, i107, li107, rfl, hk⟩ := kQ_of hk q106
                  have hk : kp bb i i l (B) i107 li107 := hk
                  show mX m_L_areParts 9 _ 0 0 _ _ [vI (B.1 3), vI (2 * (anSeat k 1 B.1))] _
                  refine x_ineg 96 (r := -(B.1 3)) rfl rfl ?_
                  refine x_icmp_gt 97 (tgt := 172) rfl (by decide) (by omega) (fun h108 => ?_) (fun h108 => by exfalso; omega)
                  refine x_iconst 100 rfl ?_
                  refine x_istore 101 (L' := [some (vR (some (ob bb))), some (vI (B.1 11)), some (vI (pl)), some (vI (0)), some (vI (su)), some (vI (co)), some (vI (ro)), some (vI (p)), some (vI (ma + 1)), some (vI (sg + (sV B.1 k 0))), some (vI (he)), some (vI (k)), some (vI (anSeat k 0 B.1)), some (vI (anSeat k 1 B.1)), some (vI (0))]) rfl (by decide) rfl rfl ?_
                  have loopL109 : ∀ (nz : Nat) (ii2 : Nat → Int → Int) (ll2 : Nat → Int → BitVec 64) (j : Int), (0 ≤ j ∧ j ≤ k) → (kp bb i i l B ii2 ll2) → (k - j) < (nz : Int) → mX m_L_areParts 9 (qT nn bb i l (1, B)) 0 0 175 [some (vR (some (ob bb))), some (vI (B.1 11)), some (vI (pl)), some (vI (0)), some (vI (su)), some (vI (co)), some (vI (ro)), some (vI (p)), some (vI (ma + 1)), some (vI (sg + (sV B.1 k 0))), some (vI (he)), some (vI (k)), some (vI (anSeat k 0 B.1)), some (vI (anSeat k 1 B.1)), some (vI (j))] [] (st nn ii2 ll2) := by
                    intro nz
                    induction nz with
                    | zero => intro ii2 ll2 j hj hk hz; exact absurd hz (by omega)
                    | succ nz ihL109 =>
                      intro ii2 ll2 j hj hk hzL109
                      refine x_iload 102 rfl rfl ?_
                      refine x_iload 103 rfl rfl ?_
                      refine x_icmp_ge 104 (tgt := 214) rfl (by decide) (by omega) (fun h110 => ?_) (fun h110 => ?_)
                      · refine x_iinc 121 (L' := [some (vR (some (ob bb))), some (vI (B.1 11)), some (vI (pl)), some (vI (0)), some (vI (su)), some (vI (co)), some (vI (ro)), some (vI (p)), some (vI (ma + 1)), some (vI (sg + (sV B.1 k 0))), some (vI (he)), some (vI (k + 1)), some (vI (anSeat k 0 B.1)), some (vI (anSeat k 1 B.1)), some (vI (j))]) rfl (by decide) rfl rfl rfl rfl ?_
                        refine x_goto 122 (tgt := 40) rfl (by decide) ?_
                        refine x_dropL (L' := [some (vR (some (ob bb))), some (vI (B.1 11)), some (vI (pl)), some (vI (0)), some (vI (su)), some (vI (co)), some (vI (ro)), some (vI (p)), some (vI (ma + 1)), some (vI (sg + (sV B.1 k 0))), some (vI (he)), some (vI (k + 1)), none, none, none]) ⟨rfl, ⟨rfl, ⟨rfl, ⟨rfl, ⟨rfl, ⟨rfl, ⟨rfl, ⟨rfl, ⟨rfl, ⟨rfl, ⟨rfl, ⟨rfl, True.intro⟩⟩⟩⟩⟩⟩⟩⟩⟩⟩⟩⟩ ?_
                        exact ihL50 ii2 ll2 (k + 1) (ma + 1) (sg + (sV B.1 k 0)) (he) (by omega) (⟨by rw [sumZ_s fm hx.1, ← hma.1]; omega, by omega, by omega⟩) (⟨by rw [sumZ_s fs hx.1, ← hsg.1]; omega, by omega, by omega⟩) (⟨by rw [sumZ_s fp hx.1, ← hhe.1]; omega, by omega, by omega⟩) (hk) (by omega)
                      · have hjs := an_seat_bd hW (y := j) (by omega)
                        have hji := an_seat_inj hW (x := j) (y := k) (by omega) (by omega) (by omega) (by omega)
                        refine x_aload_n 105 rfl rfl ?_
                        refine x_iload 106 rfl rfl ?_
                        refine x_iconst 107 rfl ?_
                        refine x_callV 108 m_X8_seat (c_b_seat hk.1 hB (by omega) (by omega)) rfl ok_X8_seat b_lt0 k_0 rfl rfl ml_L_82 im_X8_seat se_X8_seat rfl (by decide) rfl (Nat.le_of_ble_eq_true rfl) rfl rfl (fun v g q111 => ?_)
                        obtain ⟨rfl, i112, li112, rfl, hk⟩ := kQ_of hk q111
                        have hk : kp bb i i l (B) i112 li112 := hk
                        show mX m_L_areParts 9 _ 0 0 _ _ [vI (anSeat j 0 B.1)] _
                        refine x_iload 109 rfl rfl ?_
                        refine x_icmp_ne 110 (tgt := 208) rfl (by decide) (by omega) (fun h113 => ?_) (fun h113 => ?_)
                        · refine x_iinc 119 (L' := [some (vR (some (ob bb))), some (vI (B.1 11)), some (vI (pl)), some (vI (0)), some (vI (su)), some (vI (co)), some (vI (ro)), some (vI (p)), some (vI (ma + 1)), some (vI (sg + (sV B.1 k 0))), some (vI (he)), some (vI (k)), some (vI (anSeat k 0 B.1)), some (vI (anSeat k 1 B.1)), some (vI (j + 1))]) rfl (by decide) rfl rfl rfl rfl ?_
                          refine x_goto 120 (tgt := 175) rfl (by decide) ?_
                          exact ihL109 i112 li112 (j + 1) (by omega) (hk) (by omega)
                        · refine x_aload_n 111 rfl rfl ?_
                          refine x_iload 112 rfl rfl ?_
                          refine x_iconst 113 rfl ?_
                          refine x_callV 114 m_X8_seat (c_b_seat hk.1 hB (by omega) (by omega)) rfl ok_X8_seat b_lt0 k_0 rfl rfl ml_L_82 im_X8_seat se_X8_seat rfl (by decide) rfl (Nat.le_of_ble_eq_true rfl) rfl rfl (fun v g q114 => ?_)
                          obtain ⟨rfl, i115, li115, rfl, hk⟩ := kQ_of hk q114
                          have hk : kp bb i i l (B) i115 li115 := hk
                          show mX m_L_areParts 9 _ 0 0 _ _ [vI (anSeat j 1 B.1)] _
                          refine x_iload 115 rfl rfl ?_
                          refine x_icmp_ne 116 (tgt := 208) rfl (by decide) (by omega) (fun h116 => ?_) (fun h116 => by exfalso; omega)
                          refine x_iinc 119 (L' := [some (vR (some (ob bb))), some (vI (B.1 11)), some (vI (pl)), some (vI (0)), some (vI (su)), some (vI (co)), some (vI (ro)), some (vI (p)), some (vI (ma + 1)), some (vI (sg + (sV B.1 k 0))), some (vI (he)), some (vI (k)), some (vI (anSeat k 0 B.1)), some (vI (anSeat k 1 B.1)), some (vI (j + 1))]) rfl (by decide) rfl rfl rfl rfl ?_
                          refine x_goto 120 (tgt := 175) rfl (by decide) ?_
                          exact ihL109 i115 li115 (j + 1) (by omega) (hk) (by omega)
                  exact loopL109 ((k - ((0))) + 1 : Int).toNat i107 li107 (0) (by omega) (hk) (by omega)
                · have fpx : fp k = sV B.1 k 0 := by rw [hfpp]; exact if_pos (by omega)
                  refine x_iload 53 rfl rfl ?_
                  refine x_aload_n 54 rfl rfl ?_
                  refine x_iload 55 rfl rfl ?_
                  refine x_iconst 56 rfl ?_
                  refine x_callV 57 m_X8_singer (c_b_singer hk.1 hB (by omega) (by omega)) rfl ok_X8_singer b_lt0 k_0 rfl rfl ml_L_70 im_X8_singer se_X8_singer rfl (by decide) rfl (Nat.le_of_ble_eq_true rfl) rfl rfl (fun v g q117 => ?_)
                  obtain ⟨rfl, i118, li118, rfl, hk⟩ := kQ_of hk q117
                  have hk : kp bb i i l (B) i118 li118 := hk
                  show mX m_L_areParts 9 _ 0 0 _ _ [vI (anSinger k 0 B.1), vI (he)] _
                  refine x_eqS (S' := [vI (sV B.1 k 0), vI (he)]) (by rw [anS0 (by omega) (by omega)]) ?_
                  refine x_iadd 58 (r := he + (sV B.1 k 0)) rfl rfl ?_
                  refine x_goto 59 (tgt := 103) rfl (by decide) ?_
                  refine x_istore 61 (L' := [some (vR (some (ob bb))), some (vI (B.1 11)), some (vI (pl)), some (vI (0)), some (vI (su)), some (vI (co)), some (vI (ro)), some (vI (p)), some (vI (ma + 1)), some (vI (sg + (sV B.1 k 0))), some (vI (he + (sV B.1 k 0))), some (vI (k)), none, none, none]) rfl (by decide) rfl rfl ?_
                  refine x_aload_n 62 rfl rfl ?_
                  refine x_iload 63 rfl rfl ?_
                  refine x_iconst 64 rfl ?_
                  refine x_callV 65 m_X8_seat (c_b_seat hk.1 hB (by omega) (by omega)) rfl ok_X8_seat b_lt0 k_0 rfl rfl ml_L_82 im_X8_seat se_X8_seat rfl (by decide) rfl (Nat.le_of_ble_eq_true rfl) rfl rfl (fun v g q119 => ?_)
                  obtain ⟨rfl, i120, li120, rfl, hk⟩ := kQ_of hk q119
                  have hk : kp bb i i l (B) i120 li120 := hk
                  show mX m_L_areParts 9 _ 0 0 _ _ [vI (anSeat k 0 B.1)] _
                  refine x_istore 66 (L' := [some (vR (some (ob bb))), some (vI (B.1 11)), some (vI (pl)), some (vI (0)), some (vI (su)), some (vI (co)), some (vI (ro)), some (vI (p)), some (vI (ma + 1)), some (vI (sg + (sV B.1 k 0))), some (vI (he + (sV B.1 k 0))), some (vI (k)), some (vI (anSeat k 0 B.1)), none, none]) rfl (by decide) rfl rfl ?_
                  refine x_aload_n 67 rfl rfl ?_
                  refine x_iload 68 rfl rfl ?_
                  refine x_iconst 69 rfl ?_
                  refine x_callV 70 m_X8_seat (c_b_seat hk.1 hB (by omega) (by omega)) rfl ok_X8_seat b_lt0 k_0 rfl rfl ml_L_82 im_X8_seat se_X8_seat rfl (by decide) rfl (Nat.le_of_ble_eq_true rfl) rfl rfl (fun v g q121 => ?_)
                  obtain ⟨rfl, i122, li122, rfl, hk⟩ := kQ_of hk q121
                  have hk : kp bb i i l (B) i122 li122 := hk
                  show mX m_L_areParts 9 _ 0 0 _ _ [vI (anSeat k 1 B.1)] _
                  refine x_istore 71 (L' := [some (vR (some (ob bb))), some (vI (B.1 11)), some (vI (pl)), some (vI (0)), some (vI (su)), some (vI (co)), some (vI (ro)), some (vI (p)), some (vI (ma + 1)), some (vI (sg + (sV B.1 k 0))), some (vI (he + (sV B.1 k 0))), some (vI (k)), some (vI (anSeat k 0 B.1)), some (vI (anSeat k 1 B.1)), none]) rfl (by decide) rfl rfl ?_
                  refine x_iload 72 rfl rfl ?_
                  refine x_iload 73 rfl rfl ?_
                  refine x_icmp_lt 74 (tgt := 170) rfl (by decide) (by omega) (fun h123 => by exfalso; omega) (fun h123 => ?_)
                  refine x_iload 75 rfl rfl ?_
                  refine x_iload 76 rfl rfl ?_
                  refine x_aload_n 77 rfl rfl ?_
                  refine x_iload 78 rfl rfl ?_
                  refine x_iconst 79 rfl ?_
                  refine x_callV 80 m_X8_part (c_b_part hk.1 hB (by omega) (by omega)) rfl ok_X8_part b_lt0 k_0 rfl rfl ml_L_85 im_X8_part se_X8_part rfl (by decide) rfl (Nat.le_of_ble_eq_true rfl) rfl rfl (fun v g q124 => ?_)
                  obtain ⟨rfl, i125, li125, rfl, hk⟩ := kQ_of hk q124
                  have hk : kp bb i i l (B) i125 li125 := hk
                  show mX m_L_areParts 9 _ 0 0 _ _ [vI (anPart p 4 B.1), vI (ro), vI (anSeat k 0 B.1)] _
                  refine x_eqS (S' := [vI (gRows B.1 p), vI (ro), vI (anSeat k 0 B.1)]) (by rw [anP4 (by omega)]) ?_
                  refine x_iadd 81 (r := ro + (gRows B.1 p)) rfl rfl ?_
                  refine x_icmp_ge 82 (tgt := 170) rfl (by decide) (by omega) (fun h126 => by exfalso; omega) (fun h126 => ?_)
                  refine x_iconst 83 rfl ?_
                  refine x_iload 84 rfl rfl ?_
                  refine x_imul 85 (r := 2 * (anSeat k 1 B.1)) rfl rfl ?_
                  refine x_aload_n 86 rfl rfl ?_
                  refine x_iconst 87 rfl ?_
                  refine x_callV 88 m_X8_setting (c_b_setting hk.1 hB (by omega)) rfl ok_X8_setting b_lt0 k_0 rfl rfl ml_L_79 im_X8_setting se_X8_setting rfl (by decide) rfl (Nat.le_of_ble_eq_true rfl) rfl rfl (fun v g q127 => ?_)
                  obtain ⟨rfl, i128, li128, rfl, hk⟩ := kQ_of hk q127
                  have hk : kp bb i i l (B) i128 li128 := hk
                  show mX m_L_areParts 9 _ 0 0 _ _ [vI (B.1 3), vI (2 * (anSeat k 1 B.1))] _
                  refine x_icmp_gt 89 (tgt := 170) rfl (by decide) (by omega) (fun h129 => by exfalso; omega) (fun h129 => ?_)
                  refine x_iconst 90 rfl ?_
                  refine x_iload 91 rfl rfl ?_
                  refine x_imul 92 (r := 2 * (anSeat k 1 B.1)) rfl rfl ?_
                  refine x_aload_n 93 rfl rfl ?_
                  refine x_iconst 94 rfl ?_
                  refine x_callV 95 m_X8_setting (c_b_setting hk.1 hB (by omega)) rfl ok_X8_setting b_lt0 k_0 rfl rfl ml_L_79 im_X8_setting se_X8_setting rfl (by decide) rfl (Nat.le_of_ble_eq_true rfl) rfl rfl (fun v g q130 => ?_)
                  obtain ⟨rfl, i131, li131, rfl, hk⟩ := kQ_of hk q130
                  have hk : kp bb i i l (B) i131 li131 := hk
                  show mX m_L_areParts 9 _ 0 0 _ _ [vI (B.1 3), vI (2 * (anSeat k 1 B.1))] _
                  refine x_ineg 96 (r := -(B.1 3)) rfl rfl ?_
                  refine x_icmp_gt 97 (tgt := 172) rfl (by decide) (by omega) (fun h132 => ?_) (fun h132 => by exfalso; omega)
                  refine x_iconst 100 rfl ?_
                  refine x_istore 101 (L' := [some (vR (some (ob bb))), some (vI (B.1 11)), some (vI (pl)), some (vI (0)), some (vI (su)), some (vI (co)), some (vI (ro)), some (vI (p)), some (vI (ma + 1)), some (vI (sg + (sV B.1 k 0))), some (vI (he + (sV B.1 k 0))), some (vI (k)), some (vI (anSeat k 0 B.1)), some (vI (anSeat k 1 B.1)), some (vI (0))]) rfl (by decide) rfl rfl ?_
                  have loopL133 : ∀ (nz : Nat) (ii2 : Nat → Int → Int) (ll2 : Nat → Int → BitVec 64) (j : Int), (0 ≤ j ∧ j ≤ k) → (kp bb i i l B ii2 ll2) → (k - j) < (nz : Int) → mX m_L_areParts 9 (qT nn bb i l (1, B)) 0 0 175 [some (vR (some (ob bb))), some (vI (B.1 11)), some (vI (pl)), some (vI (0)), some (vI (su)), some (vI (co)), some (vI (ro)), some (vI (p)), some (vI (ma + 1)), some (vI (sg + (sV B.1 k 0))), some (vI (he + (sV B.1 k 0))), some (vI (k)), some (vI (anSeat k 0 B.1)), some (vI (anSeat k 1 B.1)), some (vI (j))] [] (st nn ii2 ll2) := by
                    intro nz
                    induction nz with
                    | zero => intro ii2 ll2 j hj hk hz; exact absurd hz (by omega)
                    | succ nz ihL133 =>
                      intro ii2 ll2 j hj hk hzL133
                      refine x_iload 102 rfl rfl ?_
                      refine x_iload 103 rfl rfl ?_
                      refine x_icmp_ge 104 (tgt := 214) rfl (by decide) (by omega) (fun h134 => ?_) (fun h134 => ?_)
                      · refine x_iinc 121 (L' := [some (vR (some (ob bb))), some (vI (B.1 11)), some (vI (pl)), some (vI (0)), some (vI (su)), some (vI (co)), some (vI (ro)), some (vI (p)), some (vI (ma + 1)), some (vI (sg + (sV B.1 k 0))), some (vI (he + (sV B.1 k 0))), some (vI (k + 1)), some (vI (anSeat k 0 B.1)), some (vI (anSeat k 1 B.1)), some (vI (j))]) rfl (by decide) rfl rfl rfl rfl ?_
                        refine x_goto 122 (tgt := 40) rfl (by decide) ?_
                        refine x_dropL (L' := [some (vR (some (ob bb))), some (vI (B.1 11)), some (vI (pl)), some (vI (0)), some (vI (su)), some (vI (co)), some (vI (ro)), some (vI (p)), some (vI (ma + 1)), some (vI (sg + (sV B.1 k 0))), some (vI (he + (sV B.1 k 0))), some (vI (k + 1)), none, none, none]) ⟨rfl, ⟨rfl, ⟨rfl, ⟨rfl, ⟨rfl, ⟨rfl, ⟨rfl, ⟨rfl, ⟨rfl, ⟨rfl, ⟨rfl, ⟨rfl, True.intro⟩⟩⟩⟩⟩⟩⟩⟩⟩⟩⟩⟩ ?_
                        exact ihL50 ii2 ll2 (k + 1) (ma + 1) (sg + (sV B.1 k 0)) (he + (sV B.1 k 0)) (by omega) (⟨by rw [sumZ_s fm hx.1, ← hma.1]; omega, by omega, by omega⟩) (⟨by rw [sumZ_s fs hx.1, ← hsg.1]; omega, by omega, by omega⟩) (⟨by rw [sumZ_s fp hx.1, ← hhe.1]; omega, by omega, by omega⟩) (hk) (by omega)
                      · have hjs := an_seat_bd hW (y := j) (by omega)
                        have hji := an_seat_inj hW (x := j) (y := k) (by omega) (by omega) (by omega) (by omega)
                        refine x_aload_n 105 rfl rfl ?_
                        refine x_iload 106 rfl rfl ?_
                        refine x_iconst 107 rfl ?_
                        refine x_callV 108 m_X8_seat (c_b_seat hk.1 hB (by omega) (by omega)) rfl ok_X8_seat b_lt0 k_0 rfl rfl ml_L_82 im_X8_seat se_X8_seat rfl (by decide) rfl (Nat.le_of_ble_eq_true rfl) rfl rfl (fun v g q135 => ?_)
                        obtain ⟨rfl, i136, li136, rfl, hk⟩ := kQ_of hk q135
                        have hk : kp bb i i l (B) i136 li136 := hk
                        show mX m_L_areParts 9 _ 0 0 _ _ [vI (anSeat j 0 B.1)] _
                        refine x_iload 109 rfl rfl ?_
                        refine x_icmp_ne 110 (tgt := 208) rfl (by decide) (by omega) (fun h137 => ?_) (fun h137 => ?_)
                        · refine x_iinc 119 (L' := [some (vR (some (ob bb))), some (vI (B.1 11)), some (vI (pl)), some (vI (0)), some (vI (su)), some (vI (co)), some (vI (ro)), some (vI (p)), some (vI (ma + 1)), some (vI (sg + (sV B.1 k 0))), some (vI (he + (sV B.1 k 0))), some (vI (k)), some (vI (anSeat k 0 B.1)), some (vI (anSeat k 1 B.1)), some (vI (j + 1))]) rfl (by decide) rfl rfl rfl rfl ?_
                          refine x_goto 120 (tgt := 175) rfl (by decide) ?_
                          exact ihL133 i136 li136 (j + 1) (by omega) (hk) (by omega)
                        · refine x_aload_n 111 rfl rfl ?_
                          refine x_iload 112 rfl rfl ?_
                          refine x_iconst 113 rfl ?_
                          refine x_callV 114 m_X8_seat (c_b_seat hk.1 hB (by omega) (by omega)) rfl ok_X8_seat b_lt0 k_0 rfl rfl ml_L_82 im_X8_seat se_X8_seat rfl (by decide) rfl (Nat.le_of_ble_eq_true rfl) rfl rfl (fun v g q138 => ?_)
                          obtain ⟨rfl, i139, li139, rfl, hk⟩ := kQ_of hk q138
                          have hk : kp bb i i l (B) i139 li139 := hk
                          show mX m_L_areParts 9 _ 0 0 _ _ [vI (anSeat j 1 B.1)] _
                          refine x_iload 115 rfl rfl ?_
                          refine x_icmp_ne 116 (tgt := 208) rfl (by decide) (by omega) (fun h140 => ?_) (fun h140 => by exfalso; omega)
                          refine x_iinc 119 (L' := [some (vR (some (ob bb))), some (vI (B.1 11)), some (vI (pl)), some (vI (0)), some (vI (su)), some (vI (co)), some (vI (ro)), some (vI (p)), some (vI (ma + 1)), some (vI (sg + (sV B.1 k 0))), some (vI (he + (sV B.1 k 0))), some (vI (k)), some (vI (anSeat k 0 B.1)), some (vI (anSeat k 1 B.1)), some (vI (j + 1))]) rfl (by decide) rfl rfl rfl rfl ?_
                          refine x_goto 120 (tgt := 175) rfl (by decide) ?_
                          exact ihL133 i139 li139 (j + 1) (by omega) (hk) (by omega)
                  exact loopL133 ((k - ((0))) + 1 : Int).toNat i131 li131 (0) (by omega) (hk) (by omega)
        exact loopL50 ((B.1 11 - ((0))) + 1 : Int).toNat ii ll (0) (0) (0) (0) (by omega) (⟨rfl, by omega, by omega⟩) (⟨rfl, by omega, by omega⟩) (⟨rfl, by omega, by omega⟩) (hk) (by omega)
  exact loopL3 ((4 - ((0))) + 1 : Int).toNat i2 li2 (0) (0) (0) (0) (0) (by omega) (⟨rfl, by omega, by omega⟩) (⟨rfl, by omega, by omega⟩) (rfl) (rfl) (hk) (by omega)
