/-! all placed: no part is weaker than the least that was foretold -/
theorem fgZ_sat {r : List vO} {k L G : Int} {g : Int → Int} (h : ∃ q, (0 ≤ q ∧ q < 4) ∧ fgO r k L G g q) : (0 ≤ fgZ r k L G g ∧ fgZ r k L G g < 4) ∧ fgO r k L G g (fgZ r k L G g) := by
  obtain ⟨q, hq, ho⟩ := h
  by_cases h0 : fgO r k L G g 0
  · rw [fgZ_hit (by omega) h0 (fun z z0 z1 => by omega)]; exact ⟨by omega, h0⟩
  · by_cases h1 : fgO r k L G g 1
    · rw [fgZ_hit (p := 1) (by omega) h1 (fun z z0 z1 => by rw [show z = 0 by omega]; exact h0)]; exact ⟨by omega, h1⟩
    · by_cases h2 : fgO r k L G g 2
      · rw [fgZ_hit (p := 2) (by omega) h2 (fun z z0 z1 => by rcases (show z = 0 ∨ z = 1 by omega) with e | e <;> rw [e] <;> assumption)]; exact ⟨by omega, h2⟩
      · by_cases h3 : fgO r k L G g 3
        · rw [fgZ_hit (p := 3) (by omega) h3 (fun z z0 z1 => by rcases (show z = 0 ∨ z = 1 ∨ z = 2 by omega) with e | e | e <;> rw [e] <;> assumption)]; exact ⟨by omega, h3⟩
        · rcases (show q = 0 ∨ q = 1 ∨ q = 2 ∨ q = 3 by omega) with e | e | e | e <;> subst e <;> contradiction
theorem ev_pcr {pa pb : Nat} {r : List vO} {x L G : Int} (h : 0 ≤ evP pa pb r x) (hb : evP pa pb r x ≤ sumS r x / 2) (hL : L ≤ evP pa pb r x) (hG : sumS r x - evP pa pb r x ≤ G) : pcr pa pb r x L G 0 0 := by
  obtain ⟨w, hw⟩ : ∃ w, w = evP pa pb r x := ⟨_, rfl⟩
  have hs : rch pa pb r x w ∨ rch pa pb r x (sumS r x - w) := by rw [hw]; exact evZ_sat (f := fun t => rch pa pb r x t ∨ rch pa pb r x (sumS r x - t)) h
  rw [← hw] at h hb hL hG
  unfold pcr
  rcases hs with q | q
  · exact ⟨w, by omega, by omega, q⟩
  · exact ⟨sumS r x - w, by omega, by omega, q⟩
theorem st_all {W : Int → Int} (hW : okW W) {p : Int} (hp : 0 ≤ p ∧ p < 4) : (bsW W (-1)).1 ≤ gStr (plW W) p := by
  have hWp := okW_plc hW
  have hN := hW.n
  have hst := vw_g hW (-1)
  obtain ⟨L, hL⟩ : ∃ L, L = (bsW W (-1)).1 := ⟨_, rfl⟩
  obtain ⟨G, hG⟩ : ∃ G, G = (bsW W (-1)).2 := ⟨_, rfl⟩
  rw [← hL]
  have hbs : bsW W (-1) = wpN (vwZ W (-1)) ((2 : Int) ^ (vwZ W (-1)).length).toNat := rfl
  rcases (wpN_opt (vwZ W (-1)) ((2 : Int) ^ (vwZ W (-1)).length).toNat).1 with ⟨e, -⟩ | ⟨x, x0, x1, ⟨f1, f2⟩, e⟩
  · rw [← hbs] at e
    have := gStr_bd hWp p
    rw [e] at hL
    have hL' : L = -1 := hL
    omega
  · rw [← hbs] at e
    have hLe : L = fv1 (vwZ W (-1)) x := by rw [hL, e]
    have hGe : G = fv2 (vwZ W (-1)) x := by rw [hG, e]
    have hx : x < 2 ^ (vwZ W (-1)).length := by
      have : (0 : Int) < 2 ^ (vwZ W (-1)).length := Int.pow_pos (by decide)
      omega
    have b1 := evP_bd (pa := 0) (pb := 1) hst x
    have b2 := evP_bd (pa := 2) (pb := 3) hst (2 ^ (vwZ W (-1)).length - 1 - x)
    have hc0 : cfP (vwZ W (-1)) 0 L G (fun _ => 0) := by
      refine ⟨x, ⟨x0, by rw [show (vwZ W (-1)).length - (0 : Int).toNat = (vwZ W (-1)).length from rfl]; exact hx⟩, ?_, ?_⟩
      · show pcr 0 1 _ (x * 2 ^ (0 : Int).toNat) L G 0 0
        rw [show x * 2 ^ (0 : Int).toNat = x by simp]
        refine ev_pcr f1 (by omega) ?_ ?_
        · rw [hLe]; exact Int.min_le_left _ _
        · rw [hGe]; exact Int.le_max_left _ _
      · show pcr 2 3 _ ((2 ^ ((vwZ W (-1)).length - (0 : Int).toNat) - 1 - x) * 2 ^ (0 : Int).toNat) L G 0 0
        rw [show ((2 : Int) ^ ((vwZ W (-1)).length - (0 : Int).toNat) - 1 - x) * 2 ^ (0 : Int).toNat = 2 ^ (vwZ W (-1)).length - 1 - x by simp]
        refine ev_pcr f2 (by omega) ?_ ?_
        · rw [hLe]; exact Int.min_le_right _ _
        · rw [hGe]; exact Int.le_max_right _ _
    have key : ∀ m : Nat, m ≤ (W 11).toNat → (∀ j : Nat, m ≤ j → (chN (vwZ W (-1)) L G (vwN W (-1) m).length).2 j = -9) ∧ (∀ q, 0 ≤ q → q < 4 → (chN (vwZ W (-1)) L G (vwN W (-1) m).length).1 q = gsN W (chN (vwZ W (-1)) L G (vwN W (-1) m).length).2 q m) ∧ cfP (vwZ W (-1)) ((vwN W (-1) m).length : Int) L G (chN (vwZ W (-1)) L G (vwN W (-1) m).length).1 := by
      intro m
      induction m with
      | zero => intro _; exact ⟨fun j _ => rfl, fun q _ _ => rfl, hc0⟩
      | succ m ih =>
        intro hm
        obtain ⟨i1, i2, i3⟩ := ih (by omega)
        by_cases hk : vmk W (-1) m = 0
        · rw [vwN_n hk]
          refine ⟨fun j hj => i1 j (by omega), fun q q0 q1 => ?_, i3⟩
          rw [i2 q q0 q1, gsN_s, i1 m (Nat.le_refl _), if_neg (by omega), Int.add_zero]
        · have hat := vAt_vw (W 11).toNat (show m < (W 11).toNat by omega) hk
          have hat' : vAt (vwZ W (-1)) ((vwN W (-1) m).length : Int) = ((m : Int), sV W m 0, gFits W m) := hat
          have hlen : (((vwN W (-1) m).length : Int) + 1) = ((vwN W (-1) (m + 1)).length : Int) := by rw [vwN_y hk, List.length_cons]; omega
          have hgm : vmk W (-1) m = gFits W m := vmk_g hk
          have hsat := fgZ_sat (r := vwZ W (-1)) (k := ((vwN W (-1) m).length : Int)) (L := L) (G := G) (g := (chN (vwZ W (-1)) L G (vwN W (-1) m).length).1) (by
            obtain ⟨a, a1, a2⟩ := (cf_iff hW (y := -1) (m := m) (by omega)).mp i3
            have am := a1 m (Nat.le_refl _) (by omega)
            obtain ⟨va1, va2⟩ : (0 ≤ a m ∧ a m < 4) ∧ vB (vmk W (-1) m) (a m).toNat := by
              unfold vaK at am
              rcases am with q | q
              · exact absurd q.1 hk
              · exact q.2
            refine ⟨a m, va1, ?_⟩
            unfold fgO
            rw [hat', hlen, cf_iff hW hm]
            refine ⟨by rw [hgm] at va2; exact va2, a, fun k h0 h1 => a1 k (by omega) h1, fun q h0 h4 => ?_⟩
            have ha := a2 q h0 h4
            have e2 : gAd (chN (vwZ W (-1)) L G (vwN W (-1) m).length).1 (a m) (sV W m 0) q = (chN (vwZ W (-1)) L G (vwN W (-1) m).length).1 q + (gsN W a q (m + 1) - gsN W a q m) := by
              unfold gAd
              rw [gsN_s]
              by_cases ep : q = a m
              · rw [if_pos ep, if_pos ep.symm]; omega
              · rw [if_neg ep, if_neg (fun z => ep z.symm)]; omega
            show L ≤ gAd _ (a m) (sV W m 0) q + _ ∧ gAd _ (a m) (sV W m 0) q + _ ≤ G
            rw [e2]
            omega)
          obtain ⟨z, hz⟩ : ∃ z, z = fgZ (vwZ W (-1)) ((vwN W (-1) m).length : Int) L G (chN (vwZ W (-1)) L G (vwN W (-1) m).length).1 := ⟨_, rfl⟩
          rw [← hz] at hsat
          obtain ⟨hz4, hzo⟩ := hsat
          rw [show (vwN W (-1) (m + 1)).length = (vwN W (-1) m).length + 1 by omega, chN_s, ← hz, hat']
          refine ⟨fun j hj => ?_, fun q q0 q1 => ?_, ?_⟩
          · show fU _ (m : Int) z j = -9
            unfold fU
            rw [if_neg (by omega)]; exact i1 j (by omega)
          · show (if q = z ∧ 0 ≤ q then _ + sV W m 0 else _) = gsN W (fU _ (m : Int) z) q (m + 1)
            rw [gsN_s, i2 q q0 q1]
            have e3 : gsN W (fU (chN (vwZ W (-1)) L G (vwN W (-1) m).length).2 (m : Int) z) q m = gsN W (chN (vwZ W (-1)) L G (vwN W (-1) m).length).2 q m := gsN_congr (fun k hk => by unfold fU; rw [if_neg (by omega)])
            rw [e3]
            have e4 : fU (chN (vwZ W (-1)) L G (vwN W (-1) m).length).2 (m : Int) z (m : Int) = z := by unfold fU; exact if_pos rfl
            rw [e4]
            by_cases ep : q = z
            · rw [if_pos ⟨ep, q0⟩, if_pos ep.symm]
            · rw [if_neg (fun w => ep w.1), if_neg (fun w => ep w.symm), Int.add_zero]
          · unfold fgO at hzo
            rw [hat'] at hzo
            rw [show (((vwN W (-1) m).length + 1 : Nat) : Int) = ((vwN W (-1) m).length : Int) + 1 by omega]
            refine (cfP_congr (fun b b0 b1 => ?_)).mp hzo.2
            show (if b = z then _ + sV W m 0 else _) = if b = z ∧ 0 ≤ b then _ + sV W m 0 else _
            by_cases ep : b = z
            · rw [if_pos ep, if_pos ⟨ep, b0⟩]
            · rw [if_neg ep, if_neg (fun w => ep w.1)]
    obtain ⟨-, k2, k3⟩ := key (W 11).toNat (Nat.le_refl _)
    obtain ⟨a, -, a2⟩ := (cf_iff hW (y := -1) (m := (W 11).toNat) (Nat.le_refl _)).mp k3
    have hfin := (a2 p hp.1 hp.2).1
    rw [k2 p hp.1 hp.2] at hfin
    have hch : ∀ s, chW W s = (chN (vwZ W (-1)) L G (vwN W (-1) (W 11).toNat).length).2 s := by
      intro s
      unfold chW chZ
      rw [← hL, ← hG, Int.toNat_natCast]
      rfl
    have e5 : gStr (plW W) p = gsN W (chN (vwZ W (-1)) L G (vwN W (-1) (W 11).toNat).length).2 p (W 11).toNat := by
      unfold gStr gsN
      rw [plW_else (k := 11) (by omega)]
      refine sumN_congr (fun k k0 k1 => ?_)
      have e6 : sV (plW W) k 2 = chW W k := by
        unfold sV plW
        rw [if_pos (by omega)]
        congr 1; omega
      have e7 : sV (plW W) k 0 = sV W k 0 := plW_else (by omega)
      rw [e6, e7, hch k]
    rw [e5]
    omega
