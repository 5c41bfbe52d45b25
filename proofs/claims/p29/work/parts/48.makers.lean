variable {nn : Nat} {bb : Bool}
/-! how the two books are made: what a new object is, which references are laid -/
abbrev fI : Type := Nat → Int → Int
abbrev fL : Type := Nat → Int → BitVec 64
abbrev fR : Type := Nat → Int → Option Nat
/-- from the object N on nothing is made yet -/
def cZ (N : Nat) (i : fI) (l : fL) (R : fR) : Prop := ∀ (a : Nat) (b : Int), N ≤ a → i a b = 0 ∧ l a b = 0#64 ∧ R a b = none
theorem cZ.up {N M : Nat} {i : fI} {l : fL} {R : fR} (h : cZ N i l R) (h2 : N ≤ M) : cZ M i l R := fun a b q => h a b (Nat.le_trans h2 q)
theorem cZ.pI {N : Nat} {i i' : fI} {l : fL} {R : fR} (h : cZ N i l R) {o : Nat} {k z : Int} (he : i' = mU i o k z) (ho : o < N) : cZ N i' l R := fun a b q => by
  rw [he, mUne _ _ _ _ _ (by omega)]
  exact h a b q
theorem cZ.pL {N : Nat} {i : fI} {l l' : fL} {R : fR} (h : cZ N i l R) {o : Nat} {k : Int} {z : BitVec 64} (he : l' = mU l o k z) (ho : o < N) : cZ N i l' R := fun a b q => by
  rw [he, mUne _ _ _ _ _ (by omega)]
  exact h a b q
theorem cZ.pR {N : Nat} {i : fI} {l : fL} {R R' : fR} (h : cZ N i l R) {o : Nat} {k : Int} {z : Option Nat} (he : R' = mU R o k z) (ho : o < N) : cZ N i l R' := fun a b q => by
  rw [he, mUne _ _ _ _ _ (by omega)]
  exact h a b q
theorem cNew {N : Nat} {i : fI} {l : fL} {R : fR} {kd : Nat ⊕ (Nat × Nat)} (hk : K0 N = kd) (hz : cZ N i l R) : sNew ((N, K0, i, l, R) : mS) kd = ((N + 1, K0, i, l, R) : mS) := by
  unfold sNew
  refine Prod.ext rfl (Prod.ext ?_ (Prod.ext ?_ (Prod.ext ?_ ?_)))
  · funext a
    show (if a = N then kd else K0 a) = K0 a
    by_cases e : a = N
    · rw [if_pos e, e, hk]
    · rw [if_neg e]
  · funext a b
    show (if a = N then 0 else i a b) = i a b
    by_cases e : a = N
    · rw [if_pos e, (hz a b (by omega)).1]
    · rw [if_neg e]
  · funext a b
    show (if a = N then 0 else l a b) = l a b
    by_cases e : a = N
    · rw [if_pos e, (hz a b (by omega)).2.1]
      rfl
    · rw [if_neg e]
  · funext a b
    show (if a = N then none else R a b) = R a b
    by_cases e : a = N
    · rw [if_pos e, (hz a b (by omega)).2.2]
    · rw [if_neg e]
/-- the first m references of the object o are laid -/
def yR (o m : Nat) (R : fR) : Prop := ∀ (k z : Nat), k < m → R0 o (k : Int) = some z → R o (k : Int) = some z
def zR (o : Nat) (R : fR) : Prop := ∀ (k z : Nat), R0 o (k : Int) = some z → R o (k : Int) = some z
theorem yR_0 (o : Nat) (R : fR) : yR o 0 R := fun k z h => absurd h (Nat.not_lt_zero k)
theorem yR_put {o m z : Nat} {R R' : fR} (h : yR o m R) (h0 : R0 o (m : Int) = some z) (he : R' = mU R o (m : Int) (some z)) : yR o (m + 1) R' := by
  intro k w hk hw
  rw [he]
  by_cases e : k = m
  · subst e
    rw [h0] at hw
    rw [mUs]
    exact hw
  · rw [mUek _ _ _ _ (by omega)]
    exact h k w (by omega) hw
theorem yR_skip {o m : Nat} {R : fR} (h : yR o m R) (h0 : R0 o (m : Int) = none) : yR o (m + 1) R := by
  intro k w hk hw
  by_cases e : k = m
  · subst e
    rw [h0] at hw
    cases hw
  · exact h k w (by omega) hw
theorem yR_oth {o o' m : Nat} {k : Int} {z : Option Nat} {R R' : fR} (h : yR o m R) (he : R' = mU R o' k z) (hne : o ≠ o') : yR o m R' := by
  intro k w hk hw
  rw [he, mUne _ _ _ _ _ hne]
  exact h k w hk hw
theorem yR_fr {o m : Nat} {R R' : fR} (h : yR o m R) (hf : ∀ b, R' o b = R o b) : yR o m R' := by
  intro k w hk hw
  rw [hf]
  exact h k w hk hw
/-- how many references an object has -/
def rLen (o : Nat) : Nat := if o < 189 then (rL.getD o []).length else if o < 378 then (rL.getD (o - 189) []).length else 0
theorem rlb {a : Nat} (h : a < 189) : rLen (ob bb + a) = (rL.getD a []).length := by
  unfold rLen
  cases bb
  · rw [show ob false + a = a from Nat.zero_add a, if_pos h]
  · rw [show ob true = 189 from rfl, if_neg (by omega), if_pos (by omega), show 189 + a - 189 = a by omega]
theorem rlle {a m : Nat} (h : a < 189) (h2 : (rL.getD a []).length ≤ m) : rLen (ob bb + a) ≤ m := by rw [rlb h]; exact h2
theorem zR_of {o m : Nat} {R : fR} (h : yR o m R) (hn : rLen o ≤ m) : zR o R := by
  intro k z hz
  by_cases hk : k < m
  · exact h k z hk hz
  · exfalso
    unfold R0 at hz
    unfold rLen at hn
    split at hz
    · rename_i q
      rw [if_pos q] at hn
      rw [Int.toNat_natCast, List.getD_eq_getElem?_getD, List.getElem?_eq_none (by omega)] at hz
      cases hz
    · rename_i q
      rw [if_neg q] at hn
      split at hz
      · rename_i q2
        rw [if_pos q2] at hn
        rw [Int.toNat_natCast, List.getD_eq_getElem?_getD, List.getElem?_eq_none (by omega)] at hz
        cases hz
      · cases hz
theorem zR_nil {o : Nat} {R : fR} (hn : rLen o = 0) : zR o R := zR_of (yR_0 o R) (by omega)
theorem zR_fr {o : Nat} {R R' : fR} (h : zR o R) (hf : ∀ b, R' o b = R o b) : zR o R' := by
  intro k w hw
  rw [hf]
  exact h k w hw
def rg (a N : Nat) (R : fR) : Prop := ∀ o, a ≤ o → o < N → zR o R
theorem rg_0 (a : Nat) (R : fR) : rg a a R := fun o h0 h1 => by omega
theorem rg_oth {a N o' : Nat} {k : Int} {z : Option Nat} {R R' : fR} (h : rg a N R) (he : R' = mU R o' k z) (ho : o' < a ∨ N ≤ o') : rg a N R' := fun o h0 h1 => zR_fr (h o h0 h1) (fun b => by rw [he, mUne _ _ _ _ _ (by omega)])
theorem rg_fr {a N c M : Nat} {R R' : fR} (h : rg a N R) (hf : ∀ x b, x < c ∨ M ≤ x → R' x b = R x b) (hc : N ≤ c) : rg a N R' := fun o h0 h1 => zR_fr (h o h0 h1) (fun b => hf o b (by omega))
theorem rg_join {a N M : Nat} {R : fR} (h : rg a N R) (h2 : rg N M R) : rg a M R := fun o h0 h1 => by
  by_cases e : o < N
  · exact h o h0 e
  · exact h2 o (by omega) h1
theorem rg_one {a N : Nat} {R : fR} (h : rg a N R) (h2 : rLen N = 0) : rg a (N + 1) R := rg_join h (fun o h0 h1 => by rw [show o = N by omega]; exact zR_nil h2)
theorem rg_zR {a N : Nat} {R : fR} (h : zR a R) (h2 : rg (a + 1) N R) : rg a N R := fun o h0 h1 => by
  by_cases e : o = a
  · rw [e]; exact h
  · exact h2 o (by omega) h1
theorem choir_len {c : Nat} (h : isC bb c) : rLen c = 4 ∧ rLen (c + 1) = 10 ∧ ∀ j, j < 13 → rLen (c + 2 + j) = 0 := by
  obtain ⟨d, hd, rfl⟩ := h
  have hl := cL_lt hd
  have key := (by decide +kernel : ∀ c ∈ cL, (rL.getD c []).length = 4 ∧ (rL.getD (c + 1) []).length = 10 ∧ ∀ j, j < 13 → (rL.getD (c + (2 + j)) []).length = 0) d hd
  refine ⟨(rlb (by omega)).trans key.1, by rw [Nat.add_assoc]; exact (rlb (by omega)).trans key.2.1, fun j hj => by rw [Nat.add_assoc, Nat.add_assoc]; exact (rlb (by omega)).trans (key.2.2 j hj)⟩
theorem split_len {q : Nat} (h : isP bb q) : rLen q = 2 ∧ rLen (q + 1) = 0 ∧ rLen (q + 2) = 0 := by
  rcases h with rfl | rfl
  · exact ⟨(rlb (a := 178) (by decide)).trans (by decide +kernel), (rlb (a := 179) (by decide)).trans (by decide +kernel), (rlb (a := 180) (by decide)).trans (by decide +kernel)⟩
  · exact ⟨(rlb (a := 181) (by decide)).trans (by decide +kernel), (rlb (a := 182) (by decide)).trans (by decide +kernel), (rlb (a := 183) (by decide)).trans (by decide +kernel)⟩
/-- what a maker leaves: its block of objects laid, all else as it was -/
def mkd (c M : Nat) (i : fI) (l : fL) (R : fR) (P : fI → fL → Prop) : Option mV → mS → Prop := fun v g' => v = none ∧ ∃ i' l' R', g' = ((M, K0, i', l', R') : mS) ∧ (∀ a b, a < c ∨ M ≤ a → i' a b = i a b ∧ l' a b = l a b ∧ R' a b = R a b) ∧ rg c M R' ∧ P i' l'
theorem mkd_cZ {c M N : Nat} {i i' : fI} {l l' : fL} {R R' : fR} (h : cZ N i l R) (hN : N ≤ M) (hf : ∀ a b, a < c ∨ M ≤ a → i' a b = i a b ∧ l' a b = l a b ∧ R' a b = R a b) : cZ M i' l' R' := fun a b q => by
  obtain ⟨h1, h2, h3⟩ := hf a b (Or.inr q)
  rw [h1, h2, h3]
  exact h a b (by omega)
theorem n_singer {g : mS} {o : Nat} : mCtr m_X5_init 1 0 0 [vR (some o)] g (fun v g' => v = none ∧ g' = g) := by
  refine mCtr_of pl_X5 dc_X5_init (Nat.le_of_ble_eq_true rfl) rfl ?_
  show mX m_X5_init 1 _ 0 0 0 [some (vR (some o))] [] g
  refine x_aload_n 0 rfl rfl ?_
  refine x_objInit 1 rfl ml_X5_3 (by decide) (Nat.le_of_ble_eq_true rfl) ?_
  exact x_ret 2 none rfl ⟨rfl, rfl⟩ ⟨rfl, rfl⟩
set_option maxRecDepth 20000 in
set_option maxHeartbeats 4000000 in
theorem n_choir {i : fI} {l : fL} {R : fR} {c : Nat} (hc : isC bb c) (hz : cZ (c) i l R) : mCtr m_X0_init 2 14 288 [vR (some (c))] ((c + 1, K0, i, l, R) : mS) (mkd (c) (c + 15) i l R (fun i' l' => (∀ a b, i' a b = if a = c + 12 ∧ 0 ≤ b ∧ b < 4 then mTF 2 b.toNat else i a b) ∧ l' = l)) := by
  refine mCtr_of pl_X0 dc_X0_init (Nat.le_of_ble_eq_true rfl) rfl ?_
  show mX m_X0_init 2 _ 14 288 0 [some (vR (some (c))), none] [] ((c + 1, K0, i, l, R) : mS)
  obtain ⟨len0, len1, len2⟩ := choir_len hc
  have hp0 := yR_0 (c) R
  have hg0 := rg_0 (c + 1) R
  have hz := hz.up (show c ≤ c + 1 by omega)
  have hfr : ∀ (a : Nat) (b : Int), (a < c ∨ c + 15 ≤ a) → R a b = R a b := fun _ _ _ => rfl
  have hfi : ∀ (a : Nat) (b : Int), (a < c ∨ c + 15 ≤ a) → i a b = i a b := fun _ _ _ => rfl
  have hfl : ∀ (a : Nat) (b : Int), (a < c ∨ c + 15 ≤ a) → l a b = l a b := fun _ _ _ => rfl
  refine x_aload_n 0 rfl rfl ?_
  refine x_objInit 1 rfl ml_X0_3 (by decide) (Nat.le_of_ble_eq_true rfl) ?_
  refine x_aload_n 2 rfl rfl ?_
  refine x_bipush 3 rfl (by decide) ?_
  refine x_newq5 4 (n := 10) (cb' := 13) (sb' := 278) rfl cl_X0_9 rfl (by decide) rfl rfl (g' := ((c + 2, K0, i, l, R) : mS)) (cNew (kCS hc) hz) ?_
  show mX m_X0_init 2 _ 13 278 _ _ [vR (some (c + 1)), vR (some (c))] _
  have hz := hz.up (show c + 1 ≤ c + 2 by omega)
  have hp1 := yR_0 (c + 1) R
  have hg0 := rg_0 (c + 2) R
  obtain ⟨R1, hR1⟩ : ∃ f, f = mU R (c) (0) (some (c + 1)) := ⟨_, rfl⟩
  refine x_putF 5 rfl fl_X0_11 (show c < c + 2 by omega) (kC hc) rfl (fun _ => ⟨rfl, rfl⟩) rfl (g' := (c + 2, K0, i, l, R1)) (by subst hR1; rfl) ?_
  have hz := hz.pR hR1 (show c < c + 2 by omega)
  have hp0 := yR_put hp0 (rC0 hc) hR1
  have hp1 := yR_oth hp1 hR1 (by omega)
  have hg0 := rg_oth hg0 hR1 (by omega)
  have hfr : ∀ (a : Nat) (b : Int), (a < c ∨ c + 15 ≤ a) → R1 a b = R a b := fun a b q => by rw [hR1]; exact (mUne _ _ _ _ _ (by omega)).trans (hfr a b q)
  refine x_iconst 6 rfl ?_
  refine x_istore_n 7 (L' := [some (vR (some (c))), some (vI 0)]) rfl (by decide) rfl rfl ?_
  refine x_iload_n 8 rfl rfl ?_
  refine x_bipush 9 rfl (by decide) ?_
  refine x_icmp_ge 10 (tgt := 40) rfl (by decide) (by decide) (fun h => absurd h (by decide)) (fun _ => ?_)
  refine x_aload_n 11 rfl rfl ?_
  refine x_getR 12 (z := (c + 1)) rfl fl_X0_11 (show c < c + 2 by omega) (kC hc) rfl (hp0 0 _ (by decide) (rC0 hc)) ?_
  refine x_iload_n 13 rfl rfl ?_
  refine x_new 14 (ci := 5) (cb' := 12) (sb' := 267) rfl rfl cl_X0_9 ins_X5 ini_X5 rfl rfl (g' := ((c + 3, K0, i, l, R1) : mS)) (cNew (show K0 (c + 2) = .inl 5 from kCs hc (k := 0) (by decide)) hz) ?_
  show mX m_X0_init 2 _ 12 267 _ _ [vR (some (c + 2)), vI (0), vR (some (c + 1))] _
  refine x_dup 15 rfl rfl ?_
  refine x_callIN 16 (cb' := 12) (sb' := 267) m_X5_init n_singer rfl ok_X5_init rfl rfl (by decide +kernel) im_X5_init rfl (by decide) rfl (Nat.le_of_ble_eq_true rfl) rfl rfl (fun v g' q2 => ?_)
  obtain ⟨rfl, rfl⟩ := q2
  show mX m_X0_init 2 _ 12 267 _ _ [vR (some (c + 2)), vI (0), vR (some (c + 1))] _
  have hz := hz.up (show c + 2 ≤ c + 3 by omega)
  have hg0 := rg_one hg0 (len2 0 (by decide))
  obtain ⟨R3, hR3⟩ : ∃ f, f = mU R1 (c + 1) (0) (some (c + 2)) := ⟨_, rfl⟩
  refine x_aast 17 (t := 3) (n := 10) (ci := 5) rfl (show c + 1 < c + 3 by omega) (kCS hc) rfl rfl (show c + 2 < c + 3 by omega) (show K0 (c + 2) = .inl 5 from kCs hc (k := 0) (by decide)) (by omega) (g' := (c + 3, K0, i, l, R3)) (by subst hR3; rfl) ?_
  have hz := hz.pR hR3 (show c + 1 < c + 3 by omega)
  have hp0 := yR_oth hp0 hR3 (by omega)
  have hp1 := yR_put hp1 (show R0 (c + 1) ((0 : Nat) : Int) = some (c + 2) from rCs hc (x := 0) (by decide)) hR3
  have hg0 := rg_oth hg0 hR3 (by omega)
  have hfr : ∀ (a : Nat) (b : Int), (a < c ∨ c + 15 ≤ a) → R3 a b = R a b := fun a b q => by rw [hR3]; exact (mUne _ _ _ _ _ (by omega)).trans (hfr a b q)
  refine x_iinc 18 (L' := [some (vR (some (c))), some (vI 1)]) rfl (by decide) rfl rfl rfl rfl ?_
  refine x_goto 19 (tgt := 15) rfl (by decide) ?_
  refine x_iload_n 8 rfl rfl ?_
  refine x_bipush 9 rfl (by decide) ?_
  refine x_icmp_ge 10 (tgt := 40) rfl (by decide) (by decide) (fun h => absurd h (by decide)) (fun _ => ?_)
  refine x_aload_n 11 rfl rfl ?_
  refine x_getR 12 (z := (c + 1)) rfl fl_X0_11 (show c < c + 3 by omega) (kC hc) rfl (hp0 0 _ (by decide) (rC0 hc)) ?_
  refine x_iload_n 13 rfl rfl ?_
  refine x_new 14 (ci := 5) (cb' := 11) (sb' := 256) rfl rfl cl_X0_9 ins_X5 ini_X5 rfl rfl (g' := ((c + 4, K0, i, l, R3) : mS)) (cNew (show K0 (c + 3) = .inl 5 from kCs hc (k := 1) (by decide)) hz) ?_
  show mX m_X0_init 2 _ 11 256 _ _ [vR (some (c + 3)), vI (1), vR (some (c + 1))] _
  refine x_dup 15 rfl rfl ?_
  refine x_callIN 16 (cb' := 11) (sb' := 256) m_X5_init n_singer rfl ok_X5_init rfl rfl (by decide +kernel) im_X5_init rfl (by decide) rfl (Nat.le_of_ble_eq_true rfl) rfl rfl (fun v g' q4 => ?_)
  obtain ⟨rfl, rfl⟩ := q4
  show mX m_X0_init 2 _ 11 256 _ _ [vR (some (c + 3)), vI (1), vR (some (c + 1))] _
  have hz := hz.up (show c + 3 ≤ c + 4 by omega)
  have hg0 := rg_one hg0 (len2 1 (by decide))
  obtain ⟨R5, hR5⟩ : ∃ f, f = mU R3 (c + 1) (1) (some (c + 3)) := ⟨_, rfl⟩
  refine x_aast 17 (t := 3) (n := 10) (ci := 5) rfl (show c + 1 < c + 4 by omega) (kCS hc) rfl rfl (show c + 3 < c + 4 by omega) (show K0 (c + 3) = .inl 5 from kCs hc (k := 1) (by decide)) (by omega) (g' := (c + 4, K0, i, l, R5)) (by subst hR5; rfl) ?_
  have hz := hz.pR hR5 (show c + 1 < c + 4 by omega)
  have hp0 := yR_oth hp0 hR5 (by omega)
  have hp1 := yR_put hp1 (show R0 (c + 1) ((1 : Nat) : Int) = some (c + 3) from rCs hc (x := 1) (by decide)) hR5
  have hg0 := rg_oth hg0 hR5 (by omega)
  have hfr : ∀ (a : Nat) (b : Int), (a < c ∨ c + 15 ≤ a) → R5 a b = R a b := fun a b q => by rw [hR5]; exact (mUne _ _ _ _ _ (by omega)).trans (hfr a b q)
  refine x_iinc 18 (L' := [some (vR (some (c))), some (vI 2)]) rfl (by decide) rfl rfl rfl rfl ?_
  refine x_goto 19 (tgt := 15) rfl (by decide) ?_
  refine x_iload_n 8 rfl rfl ?_
  refine x_bipush 9 rfl (by decide) ?_
  refine x_icmp_ge 10 (tgt := 40) rfl (by decide) (by decide) (fun h => absurd h (by decide)) (fun _ => ?_)
  refine x_aload_n 11 rfl rfl ?_
  refine x_getR 12 (z := (c + 1)) rfl fl_X0_11 (show c < c + 4 by omega) (kC hc) rfl (hp0 0 _ (by decide) (rC0 hc)) ?_
  refine x_iload_n 13 rfl rfl ?_
  refine x_new 14 (ci := 5) (cb' := 10) (sb' := 245) rfl rfl cl_X0_9 ins_X5 ini_X5 rfl rfl (g' := ((c + 5, K0, i, l, R5) : mS)) (cNew (show K0 (c + 4) = .inl 5 from kCs hc (k := 2) (by decide)) hz) ?_
  show mX m_X0_init 2 _ 10 245 _ _ [vR (some (c + 4)), vI (2), vR (some (c + 1))] _
  refine x_dup 15 rfl rfl ?_
  refine x_callIN 16 (cb' := 10) (sb' := 245) m_X5_init n_singer rfl ok_X5_init rfl rfl (by decide +kernel) im_X5_init rfl (by decide) rfl (Nat.le_of_ble_eq_true rfl) rfl rfl (fun v g' q6 => ?_)
  obtain ⟨rfl, rfl⟩ := q6
  show mX m_X0_init 2 _ 10 245 _ _ [vR (some (c + 4)), vI (2), vR (some (c + 1))] _
  have hz := hz.up (show c + 4 ≤ c + 5 by omega)
  have hg0 := rg_one hg0 (len2 2 (by decide))
  obtain ⟨R7, hR7⟩ : ∃ f, f = mU R5 (c + 1) (2) (some (c + 4)) := ⟨_, rfl⟩
  refine x_aast 17 (t := 3) (n := 10) (ci := 5) rfl (show c + 1 < c + 5 by omega) (kCS hc) rfl rfl (show c + 4 < c + 5 by omega) (show K0 (c + 4) = .inl 5 from kCs hc (k := 2) (by decide)) (by omega) (g' := (c + 5, K0, i, l, R7)) (by subst hR7; rfl) ?_
  have hz := hz.pR hR7 (show c + 1 < c + 5 by omega)
  have hp0 := yR_oth hp0 hR7 (by omega)
  have hp1 := yR_put hp1 (show R0 (c + 1) ((2 : Nat) : Int) = some (c + 4) from rCs hc (x := 2) (by decide)) hR7
  have hg0 := rg_oth hg0 hR7 (by omega)
  have hfr : ∀ (a : Nat) (b : Int), (a < c ∨ c + 15 ≤ a) → R7 a b = R a b := fun a b q => by rw [hR7]; exact (mUne _ _ _ _ _ (by omega)).trans (hfr a b q)
  refine x_iinc 18 (L' := [some (vR (some (c))), some (vI 3)]) rfl (by decide) rfl rfl rfl rfl ?_
  refine x_goto 19 (tgt := 15) rfl (by decide) ?_
  refine x_iload_n 8 rfl rfl ?_
  refine x_bipush 9 rfl (by decide) ?_
  refine x_icmp_ge 10 (tgt := 40) rfl (by decide) (by decide) (fun h => absurd h (by decide)) (fun _ => ?_)
  refine x_aload_n 11 rfl rfl ?_
  refine x_getR 12 (z := (c + 1)) rfl fl_X0_11 (show c < c + 5 by omega) (kC hc) rfl (hp0 0 _ (by decide) (rC0 hc)) ?_
  refine x_iload_n 13 rfl rfl ?_
  refine x_new 14 (ci := 5) (cb' := 9) (sb' := 234) rfl rfl cl_X0_9 ins_X5 ini_X5 rfl rfl (g' := ((c + 6, K0, i, l, R7) : mS)) (cNew (show K0 (c + 5) = .inl 5 from kCs hc (k := 3) (by decide)) hz) ?_
  show mX m_X0_init 2 _ 9 234 _ _ [vR (some (c + 5)), vI (3), vR (some (c + 1))] _
  refine x_dup 15 rfl rfl ?_
  refine x_callIN 16 (cb' := 9) (sb' := 234) m_X5_init n_singer rfl ok_X5_init rfl rfl (by decide +kernel) im_X5_init rfl (by decide) rfl (Nat.le_of_ble_eq_true rfl) rfl rfl (fun v g' q8 => ?_)
  obtain ⟨rfl, rfl⟩ := q8
  show mX m_X0_init 2 _ 9 234 _ _ [vR (some (c + 5)), vI (3), vR (some (c + 1))] _
  have hz := hz.up (show c + 5 ≤ c + 6 by omega)
  have hg0 := rg_one hg0 (len2 3 (by decide))
  obtain ⟨R9, hR9⟩ : ∃ f, f = mU R7 (c + 1) (3) (some (c + 5)) := ⟨_, rfl⟩
  refine x_aast 17 (t := 3) (n := 10) (ci := 5) rfl (show c + 1 < c + 6 by omega) (kCS hc) rfl rfl (show c + 5 < c + 6 by omega) (show K0 (c + 5) = .inl 5 from kCs hc (k := 3) (by decide)) (by omega) (g' := (c + 6, K0, i, l, R9)) (by subst hR9; rfl) ?_
  have hz := hz.pR hR9 (show c + 1 < c + 6 by omega)
  have hp0 := yR_oth hp0 hR9 (by omega)
  have hp1 := yR_put hp1 (show R0 (c + 1) ((3 : Nat) : Int) = some (c + 5) from rCs hc (x := 3) (by decide)) hR9
  have hg0 := rg_oth hg0 hR9 (by omega)
  have hfr : ∀ (a : Nat) (b : Int), (a < c ∨ c + 15 ≤ a) → R9 a b = R a b := fun a b q => by rw [hR9]; exact (mUne _ _ _ _ _ (by omega)).trans (hfr a b q)
  refine x_iinc 18 (L' := [some (vR (some (c))), some (vI 4)]) rfl (by decide) rfl rfl rfl rfl ?_
  refine x_goto 19 (tgt := 15) rfl (by decide) ?_
  refine x_iload_n 8 rfl rfl ?_
  refine x_bipush 9 rfl (by decide) ?_
  refine x_icmp_ge 10 (tgt := 40) rfl (by decide) (by decide) (fun h => absurd h (by decide)) (fun _ => ?_)
  refine x_aload_n 11 rfl rfl ?_
  refine x_getR 12 (z := (c + 1)) rfl fl_X0_11 (show c < c + 6 by omega) (kC hc) rfl (hp0 0 _ (by decide) (rC0 hc)) ?_
  refine x_iload_n 13 rfl rfl ?_
  refine x_new 14 (ci := 5) (cb' := 8) (sb' := 223) rfl rfl cl_X0_9 ins_X5 ini_X5 rfl rfl (g' := ((c + 7, K0, i, l, R9) : mS)) (cNew (show K0 (c + 6) = .inl 5 from kCs hc (k := 4) (by decide)) hz) ?_
  show mX m_X0_init 2 _ 8 223 _ _ [vR (some (c + 6)), vI (4), vR (some (c + 1))] _
  refine x_dup 15 rfl rfl ?_
  refine x_callIN 16 (cb' := 8) (sb' := 223) m_X5_init n_singer rfl ok_X5_init rfl rfl (by decide +kernel) im_X5_init rfl (by decide) rfl (Nat.le_of_ble_eq_true rfl) rfl rfl (fun v g' q10 => ?_)
  obtain ⟨rfl, rfl⟩ := q10
  show mX m_X0_init 2 _ 8 223 _ _ [vR (some (c + 6)), vI (4), vR (some (c + 1))] _
  have hz := hz.up (show c + 6 ≤ c + 7 by omega)
  have hg0 := rg_one hg0 (len2 4 (by decide))
  obtain ⟨R11, hR11⟩ : ∃ f, f = mU R9 (c + 1) (4) (some (c + 6)) := ⟨_, rfl⟩
  refine x_aast 17 (t := 3) (n := 10) (ci := 5) rfl (show c + 1 < c + 7 by omega) (kCS hc) rfl rfl (show c + 6 < c + 7 by omega) (show K0 (c + 6) = .inl 5 from kCs hc (k := 4) (by decide)) (by omega) (g' := (c + 7, K0, i, l, R11)) (by subst hR11; rfl) ?_
  have hz := hz.pR hR11 (show c + 1 < c + 7 by omega)
  have hp0 := yR_oth hp0 hR11 (by omega)
  have hp1 := yR_put hp1 (show R0 (c + 1) ((4 : Nat) : Int) = some (c + 6) from rCs hc (x := 4) (by decide)) hR11
  have hg0 := rg_oth hg0 hR11 (by omega)
  have hfr : ∀ (a : Nat) (b : Int), (a < c ∨ c + 15 ≤ a) → R11 a b = R a b := fun a b q => by rw [hR11]; exact (mUne _ _ _ _ _ (by omega)).trans (hfr a b q)
  refine x_iinc 18 (L' := [some (vR (some (c))), some (vI 5)]) rfl (by decide) rfl rfl rfl rfl ?_
  refine x_goto 19 (tgt := 15) rfl (by decide) ?_
  refine x_iload_n 8 rfl rfl ?_
  refine x_bipush 9 rfl (by decide) ?_
  refine x_icmp_ge 10 (tgt := 40) rfl (by decide) (by decide) (fun h => absurd h (by decide)) (fun _ => ?_)
  refine x_aload_n 11 rfl rfl ?_
  refine x_getR 12 (z := (c + 1)) rfl fl_X0_11 (show c < c + 7 by omega) (kC hc) rfl (hp0 0 _ (by decide) (rC0 hc)) ?_
  refine x_iload_n 13 rfl rfl ?_
  refine x_new 14 (ci := 5) (cb' := 7) (sb' := 212) rfl rfl cl_X0_9 ins_X5 ini_X5 rfl rfl (g' := ((c + 8, K0, i, l, R11) : mS)) (cNew (show K0 (c + 7) = .inl 5 from kCs hc (k := 5) (by decide)) hz) ?_
  show mX m_X0_init 2 _ 7 212 _ _ [vR (some (c + 7)), vI (5), vR (some (c + 1))] _
  refine x_dup 15 rfl rfl ?_
  refine x_callIN 16 (cb' := 7) (sb' := 212) m_X5_init n_singer rfl ok_X5_init rfl rfl (by decide +kernel) im_X5_init rfl (by decide) rfl (Nat.le_of_ble_eq_true rfl) rfl rfl (fun v g' q12 => ?_)
  obtain ⟨rfl, rfl⟩ := q12
  show mX m_X0_init 2 _ 7 212 _ _ [vR (some (c + 7)), vI (5), vR (some (c + 1))] _
  have hz := hz.up (show c + 7 ≤ c + 8 by omega)
  have hg0 := rg_one hg0 (len2 5 (by decide))
  obtain ⟨R13, hR13⟩ : ∃ f, f = mU R11 (c + 1) (5) (some (c + 7)) := ⟨_, rfl⟩
  refine x_aast 17 (t := 3) (n := 10) (ci := 5) rfl (show c + 1 < c + 8 by omega) (kCS hc) rfl rfl (show c + 7 < c + 8 by omega) (show K0 (c + 7) = .inl 5 from kCs hc (k := 5) (by decide)) (by omega) (g' := (c + 8, K0, i, l, R13)) (by subst hR13; rfl) ?_
  have hz := hz.pR hR13 (show c + 1 < c + 8 by omega)
  have hp0 := yR_oth hp0 hR13 (by omega)
  have hp1 := yR_put hp1 (show R0 (c + 1) ((5 : Nat) : Int) = some (c + 7) from rCs hc (x := 5) (by decide)) hR13
  have hg0 := rg_oth hg0 hR13 (by omega)
  have hfr : ∀ (a : Nat) (b : Int), (a < c ∨ c + 15 ≤ a) → R13 a b = R a b := fun a b q => by rw [hR13]; exact (mUne _ _ _ _ _ (by omega)).trans (hfr a b q)
  refine x_iinc 18 (L' := [some (vR (some (c))), some (vI 6)]) rfl (by decide) rfl rfl rfl rfl ?_
  refine x_goto 19 (tgt := 15) rfl (by decide) ?_
  refine x_iload_n 8 rfl rfl ?_
  refine x_bipush 9 rfl (by decide) ?_
  refine x_icmp_ge 10 (tgt := 40) rfl (by decide) (by decide) (fun h => absurd h (by decide)) (fun _ => ?_)
  refine x_aload_n 11 rfl rfl ?_
  refine x_getR 12 (z := (c + 1)) rfl fl_X0_11 (show c < c + 8 by omega) (kC hc) rfl (hp0 0 _ (by decide) (rC0 hc)) ?_
  refine x_iload_n 13 rfl rfl ?_
  refine x_new 14 (ci := 5) (cb' := 6) (sb' := 201) rfl rfl cl_X0_9 ins_X5 ini_X5 rfl rfl (g' := ((c + 9, K0, i, l, R13) : mS)) (cNew (show K0 (c + 8) = .inl 5 from kCs hc (k := 6) (by decide)) hz) ?_
  show mX m_X0_init 2 _ 6 201 _ _ [vR (some (c + 8)), vI (6), vR (some (c + 1))] _
  refine x_dup 15 rfl rfl ?_
  refine x_callIN 16 (cb' := 6) (sb' := 201) m_X5_init n_singer rfl ok_X5_init rfl rfl (by decide +kernel) im_X5_init rfl (by decide) rfl (Nat.le_of_ble_eq_true rfl) rfl rfl (fun v g' q14 => ?_)
  obtain ⟨rfl, rfl⟩ := q14
  show mX m_X0_init 2 _ 6 201 _ _ [vR (some (c + 8)), vI (6), vR (some (c + 1))] _
  have hz := hz.up (show c + 8 ≤ c + 9 by omega)
  have hg0 := rg_one hg0 (len2 6 (by decide))
  obtain ⟨R15, hR15⟩ : ∃ f, f = mU R13 (c + 1) (6) (some (c + 8)) := ⟨_, rfl⟩
  refine x_aast 17 (t := 3) (n := 10) (ci := 5) rfl (show c + 1 < c + 9 by omega) (kCS hc) rfl rfl (show c + 8 < c + 9 by omega) (show K0 (c + 8) = .inl 5 from kCs hc (k := 6) (by decide)) (by omega) (g' := (c + 9, K0, i, l, R15)) (by subst hR15; rfl) ?_
  have hz := hz.pR hR15 (show c + 1 < c + 9 by omega)
  have hp0 := yR_oth hp0 hR15 (by omega)
  have hp1 := yR_put hp1 (show R0 (c + 1) ((6 : Nat) : Int) = some (c + 8) from rCs hc (x := 6) (by decide)) hR15
  have hg0 := rg_oth hg0 hR15 (by omega)
  have hfr : ∀ (a : Nat) (b : Int), (a < c ∨ c + 15 ≤ a) → R15 a b = R a b := fun a b q => by rw [hR15]; exact (mUne _ _ _ _ _ (by omega)).trans (hfr a b q)
  refine x_iinc 18 (L' := [some (vR (some (c))), some (vI 7)]) rfl (by decide) rfl rfl rfl rfl ?_
  refine x_goto 19 (tgt := 15) rfl (by decide) ?_
  refine x_iload_n 8 rfl rfl ?_
  refine x_bipush 9 rfl (by decide) ?_
  refine x_icmp_ge 10 (tgt := 40) rfl (by decide) (by decide) (fun h => absurd h (by decide)) (fun _ => ?_)
  refine x_aload_n 11 rfl rfl ?_
  refine x_getR 12 (z := (c + 1)) rfl fl_X0_11 (show c < c + 9 by omega) (kC hc) rfl (hp0 0 _ (by decide) (rC0 hc)) ?_
  refine x_iload_n 13 rfl rfl ?_
  refine x_new 14 (ci := 5) (cb' := 5) (sb' := 190) rfl rfl cl_X0_9 ins_X5 ini_X5 rfl rfl (g' := ((c + 10, K0, i, l, R15) : mS)) (cNew (show K0 (c + 9) = .inl 5 from kCs hc (k := 7) (by decide)) hz) ?_
  show mX m_X0_init 2 _ 5 190 _ _ [vR (some (c + 9)), vI (7), vR (some (c + 1))] _
  refine x_dup 15 rfl rfl ?_
  refine x_callIN 16 (cb' := 5) (sb' := 190) m_X5_init n_singer rfl ok_X5_init rfl rfl (by decide +kernel) im_X5_init rfl (by decide) rfl (Nat.le_of_ble_eq_true rfl) rfl rfl (fun v g' q16 => ?_)
  obtain ⟨rfl, rfl⟩ := q16
  show mX m_X0_init 2 _ 5 190 _ _ [vR (some (c + 9)), vI (7), vR (some (c + 1))] _
  have hz := hz.up (show c + 9 ≤ c + 10 by omega)
  have hg0 := rg_one hg0 (len2 7 (by decide))
  obtain ⟨R17, hR17⟩ : ∃ f, f = mU R15 (c + 1) (7) (some (c + 9)) := ⟨_, rfl⟩
  refine x_aast 17 (t := 3) (n := 10) (ci := 5) rfl (show c + 1 < c + 10 by omega) (kCS hc) rfl rfl (show c + 9 < c + 10 by omega) (show K0 (c + 9) = .inl 5 from kCs hc (k := 7) (by decide)) (by omega) (g' := (c + 10, K0, i, l, R17)) (by subst hR17; rfl) ?_
  have hz := hz.pR hR17 (show c + 1 < c + 10 by omega)
  have hp0 := yR_oth hp0 hR17 (by omega)
  have hp1 := yR_put hp1 (show R0 (c + 1) ((7 : Nat) : Int) = some (c + 9) from rCs hc (x := 7) (by decide)) hR17
  have hg0 := rg_oth hg0 hR17 (by omega)
  have hfr : ∀ (a : Nat) (b : Int), (a < c ∨ c + 15 ≤ a) → R17 a b = R a b := fun a b q => by rw [hR17]; exact (mUne _ _ _ _ _ (by omega)).trans (hfr a b q)
  refine x_iinc 18 (L' := [some (vR (some (c))), some (vI 8)]) rfl (by decide) rfl rfl rfl rfl ?_
  refine x_goto 19 (tgt := 15) rfl (by decide) ?_
  refine x_iload_n 8 rfl rfl ?_
  refine x_bipush 9 rfl (by decide) ?_
  refine x_icmp_ge 10 (tgt := 40) rfl (by decide) (by decide) (fun h => absurd h (by decide)) (fun _ => ?_)
  refine x_aload_n 11 rfl rfl ?_
  refine x_getR 12 (z := (c + 1)) rfl fl_X0_11 (show c < c + 10 by omega) (kC hc) rfl (hp0 0 _ (by decide) (rC0 hc)) ?_
  refine x_iload_n 13 rfl rfl ?_
  refine x_new 14 (ci := 5) (cb' := 4) (sb' := 179) rfl rfl cl_X0_9 ins_X5 ini_X5 rfl rfl (g' := ((c + 11, K0, i, l, R17) : mS)) (cNew (show K0 (c + 10) = .inl 5 from kCs hc (k := 8) (by decide)) hz) ?_
  show mX m_X0_init 2 _ 4 179 _ _ [vR (some (c + 10)), vI (8), vR (some (c + 1))] _
  refine x_dup 15 rfl rfl ?_
  refine x_callIN 16 (cb' := 4) (sb' := 179) m_X5_init n_singer rfl ok_X5_init rfl rfl (by decide +kernel) im_X5_init rfl (by decide) rfl (Nat.le_of_ble_eq_true rfl) rfl rfl (fun v g' q18 => ?_)
  obtain ⟨rfl, rfl⟩ := q18
  show mX m_X0_init 2 _ 4 179 _ _ [vR (some (c + 10)), vI (8), vR (some (c + 1))] _
  have hz := hz.up (show c + 10 ≤ c + 11 by omega)
  have hg0 := rg_one hg0 (len2 8 (by decide))
  obtain ⟨R19, hR19⟩ : ∃ f, f = mU R17 (c + 1) (8) (some (c + 10)) := ⟨_, rfl⟩
  refine x_aast 17 (t := 3) (n := 10) (ci := 5) rfl (show c + 1 < c + 11 by omega) (kCS hc) rfl rfl (show c + 10 < c + 11 by omega) (show K0 (c + 10) = .inl 5 from kCs hc (k := 8) (by decide)) (by omega) (g' := (c + 11, K0, i, l, R19)) (by subst hR19; rfl) ?_
  have hz := hz.pR hR19 (show c + 1 < c + 11 by omega)
  have hp0 := yR_oth hp0 hR19 (by omega)
  have hp1 := yR_put hp1 (show R0 (c + 1) ((8 : Nat) : Int) = some (c + 10) from rCs hc (x := 8) (by decide)) hR19
  have hg0 := rg_oth hg0 hR19 (by omega)
  have hfr : ∀ (a : Nat) (b : Int), (a < c ∨ c + 15 ≤ a) → R19 a b = R a b := fun a b q => by rw [hR19]; exact (mUne _ _ _ _ _ (by omega)).trans (hfr a b q)
  refine x_iinc 18 (L' := [some (vR (some (c))), some (vI 9)]) rfl (by decide) rfl rfl rfl rfl ?_
  refine x_goto 19 (tgt := 15) rfl (by decide) ?_
  refine x_iload_n 8 rfl rfl ?_
  refine x_bipush 9 rfl (by decide) ?_
  refine x_icmp_ge 10 (tgt := 40) rfl (by decide) (by decide) (fun h => absurd h (by decide)) (fun _ => ?_)
  refine x_aload_n 11 rfl rfl ?_
  refine x_getR 12 (z := (c + 1)) rfl fl_X0_11 (show c < c + 11 by omega) (kC hc) rfl (hp0 0 _ (by decide) (rC0 hc)) ?_
  refine x_iload_n 13 rfl rfl ?_
  refine x_new 14 (ci := 5) (cb' := 3) (sb' := 168) rfl rfl cl_X0_9 ins_X5 ini_X5 rfl rfl (g' := ((c + 12, K0, i, l, R19) : mS)) (cNew (show K0 (c + 11) = .inl 5 from kCs hc (k := 9) (by decide)) hz) ?_
  show mX m_X0_init 2 _ 3 168 _ _ [vR (some (c + 11)), vI (9), vR (some (c + 1))] _
  refine x_dup 15 rfl rfl ?_
  refine x_callIN 16 (cb' := 3) (sb' := 168) m_X5_init n_singer rfl ok_X5_init rfl rfl (by decide +kernel) im_X5_init rfl (by decide) rfl (Nat.le_of_ble_eq_true rfl) rfl rfl (fun v g' q20 => ?_)
  obtain ⟨rfl, rfl⟩ := q20
  show mX m_X0_init 2 _ 3 168 _ _ [vR (some (c + 11)), vI (9), vR (some (c + 1))] _
  have hz := hz.up (show c + 11 ≤ c + 12 by omega)
  have hg0 := rg_one hg0 (len2 9 (by decide))
  obtain ⟨R21, hR21⟩ : ∃ f, f = mU R19 (c + 1) (9) (some (c + 11)) := ⟨_, rfl⟩
  refine x_aast 17 (t := 3) (n := 10) (ci := 5) rfl (show c + 1 < c + 12 by omega) (kCS hc) rfl rfl (show c + 11 < c + 12 by omega) (show K0 (c + 11) = .inl 5 from kCs hc (k := 9) (by decide)) (by omega) (g' := (c + 12, K0, i, l, R21)) (by subst hR21; rfl) ?_
  have hz := hz.pR hR21 (show c + 1 < c + 12 by omega)
  have hp0 := yR_oth hp0 hR21 (by omega)
  have hp1 := yR_put hp1 (show R0 (c + 1) ((9 : Nat) : Int) = some (c + 11) from rCs hc (x := 9) (by decide)) hR21
  have hg0 := rg_oth hg0 hR21 (by omega)
  have hfr : ∀ (a : Nat) (b : Int), (a < c ∨ c + 15 ≤ a) → R21 a b = R a b := fun a b q => by rw [hR21]; exact (mUne _ _ _ _ _ (by omega)).trans (hfr a b q)
  refine x_iinc 18 (L' := [some (vR (some (c))), some (vI 10)]) rfl (by decide) rfl rfl rfl rfl ?_
  refine x_goto 19 (tgt := 15) rfl (by decide) ?_
  refine x_iload_n 8 rfl rfl ?_
  refine x_bipush 9 rfl (by decide) ?_
  refine x_icmp_ge 10 (tgt := 40) rfl (by decide) (by decide) (fun _ => ?_) (fun h => absurd h (by decide))
  refine x_aload_n 20 rfl rfl ?_
  refine x_iconst 21 rfl ?_
  refine x_newa 22 (t := 0) (n := 4) (cb' := 2) (sb' := 164) rfl rfl (by decide) ac_int rfl (by decide) rfl rfl (g' := ((c + 13, K0, i, l, R21) : mS)) (cNew (kCT hc) hz) ?_
  show mX m_X0_init 2 _ 2 164 _ _ [vR (some (c + 12)), vR (some (c))] _
  have hz := hz.up (show c + 12 ≤ c + 13 by omega)
  have hg0 := rg_one hg0 (len2 10 (by decide))
  obtain ⟨R22, hR22⟩ : ∃ f, f = mU R21 (c) (1) (some (c + 12)) := ⟨_, rfl⟩
  refine x_putF 23 rfl fl_X0_18 (show c < c + 13 by omega) (kC hc) rfl (fun _ => ⟨rfl, rfl⟩) rfl (g' := (c + 13, K0, i, l, R22)) (by subst hR22; rfl) ?_
  have hz := hz.pR hR22 (show c < c + 13 by omega)
  have hp0 := yR_put hp0 (rC1 hc) hR22
  have hp1 := yR_oth hp1 hR22 (by omega)
  have hg0 := rg_oth hg0 hR22 (by omega)
  have hfr : ∀ (a : Nat) (b : Int), (a < c ∨ c + 15 ≤ a) → R22 a b = R a b := fun a b q => by rw [hR22]; exact (mUne _ _ _ _ _ (by omega)).trans (hfr a b q)
  refine x_iconst 24 rfl ?_
  refine x_istore_n 25 (L' := [some (vR (some (c))), some (vI 0)]) rfl (by decide) rfl rfl ?_
  refine x_iload_n 26 rfl rfl ?_
  refine x_iconst 27 rfl ?_
  refine x_icmp_ge 28 (tgt := 71) rfl (by decide) (by decide) (fun h => absurd h (by decide)) (fun _ => ?_)
  refine x_aload_n 29 rfl rfl ?_
  refine x_getR 30 (z := (c + 12)) rfl fl_X0_18 (show c < c + 13 by omega) (kC hc) rfl (hp0 1 _ (by decide) (rC1 hc)) ?_
  refine x_iload_n 31 rfl rfl ?_
  refine x_getsN 32 (t := 2) rfl (by decide) (by decide +kernel) ?_
  refine x_iload_n 33 rfl rfl ?_
  refine x_tald 34 (z := mTF 2 (0 : Int).toNat) rfl (by decide) (by decide) rfl ?_
  obtain ⟨i23, hi23⟩ : ∃ f, f = mU i (c + 12) 0 (mTF 2 (0 : Int).toNat) := ⟨_, rfl⟩
  refine x_iast 35 (n := 4) rfl (show c + 12 < c + 13 by omega) (kCT hc) (by omega) (g' := (c + 13, K0, i23, l, R22)) (by subst hi23; rfl) ?_
  have hz := hz.pI hi23 (show c + 12 < c + 13 by omega)
  have hfi : ∀ (a : Nat) (b : Int), (a < c ∨ c + 15 ≤ a) → i23 a b = i a b := fun a b q => by rw [hi23]; exact (mUne _ _ _ _ _ (by omega)).trans (hfi a b q)
  refine x_iinc 36 (L' := [some (vR (some (c))), some (vI 1)]) rfl (by decide) rfl rfl rfl rfl ?_
  refine x_goto 37 (tgt := 49) rfl (by decide) ?_
  refine x_iload_n 26 rfl rfl ?_
  refine x_iconst 27 rfl ?_
  refine x_icmp_ge 28 (tgt := 71) rfl (by decide) (by decide) (fun h => absurd h (by decide)) (fun _ => ?_)
  refine x_aload_n 29 rfl rfl ?_
  refine x_getR 30 (z := (c + 12)) rfl fl_X0_18 (show c < c + 13 by omega) (kC hc) rfl (hp0 1 _ (by decide) (rC1 hc)) ?_
  refine x_iload_n 31 rfl rfl ?_
  refine x_getsN 32 (t := 2) rfl (by decide) (by decide +kernel) ?_
  refine x_iload_n 33 rfl rfl ?_
  refine x_tald 34 (z := mTF 2 (1 : Int).toNat) rfl (by decide) (by decide) rfl ?_
  obtain ⟨i24, hi24⟩ : ∃ f, f = mU i23 (c + 12) 1 (mTF 2 (1 : Int).toNat) := ⟨_, rfl⟩
  refine x_iast 35 (n := 4) rfl (show c + 12 < c + 13 by omega) (kCT hc) (by omega) (g' := (c + 13, K0, i24, l, R22)) (by subst hi24; rfl) ?_
  have hz := hz.pI hi24 (show c + 12 < c + 13 by omega)
  have hfi : ∀ (a : Nat) (b : Int), (a < c ∨ c + 15 ≤ a) → i24 a b = i a b := fun a b q => by rw [hi24]; exact (mUne _ _ _ _ _ (by omega)).trans (hfi a b q)
  refine x_iinc 36 (L' := [some (vR (some (c))), some (vI 2)]) rfl (by decide) rfl rfl rfl rfl ?_
  refine x_goto 37 (tgt := 49) rfl (by decide) ?_
  refine x_iload_n 26 rfl rfl ?_
  refine x_iconst 27 rfl ?_
  refine x_icmp_ge 28 (tgt := 71) rfl (by decide) (by decide) (fun h => absurd h (by decide)) (fun _ => ?_)
  refine x_aload_n 29 rfl rfl ?_
  refine x_getR 30 (z := (c + 12)) rfl fl_X0_18 (show c < c + 13 by omega) (kC hc) rfl (hp0 1 _ (by decide) (rC1 hc)) ?_
  refine x_iload_n 31 rfl rfl ?_
  refine x_getsN 32 (t := 2) rfl (by decide) (by decide +kernel) ?_
  refine x_iload_n 33 rfl rfl ?_
  refine x_tald 34 (z := mTF 2 (2 : Int).toNat) rfl (by decide) (by decide) rfl ?_
  obtain ⟨i25, hi25⟩ : ∃ f, f = mU i24 (c + 12) 2 (mTF 2 (2 : Int).toNat) := ⟨_, rfl⟩
  refine x_iast 35 (n := 4) rfl (show c + 12 < c + 13 by omega) (kCT hc) (by omega) (g' := (c + 13, K0, i25, l, R22)) (by subst hi25; rfl) ?_
  have hz := hz.pI hi25 (show c + 12 < c + 13 by omega)
  have hfi : ∀ (a : Nat) (b : Int), (a < c ∨ c + 15 ≤ a) → i25 a b = i a b := fun a b q => by rw [hi25]; exact (mUne _ _ _ _ _ (by omega)).trans (hfi a b q)
  refine x_iinc 36 (L' := [some (vR (some (c))), some (vI 3)]) rfl (by decide) rfl rfl rfl rfl ?_
  refine x_goto 37 (tgt := 49) rfl (by decide) ?_
  refine x_iload_n 26 rfl rfl ?_
  refine x_iconst 27 rfl ?_
  refine x_icmp_ge 28 (tgt := 71) rfl (by decide) (by decide) (fun h => absurd h (by decide)) (fun _ => ?_)
  refine x_aload_n 29 rfl rfl ?_
  refine x_getR 30 (z := (c + 12)) rfl fl_X0_18 (show c < c + 13 by omega) (kC hc) rfl (hp0 1 _ (by decide) (rC1 hc)) ?_
  refine x_iload_n 31 rfl rfl ?_
  refine x_getsN 32 (t := 2) rfl (by decide) (by decide +kernel) ?_
  refine x_iload_n 33 rfl rfl ?_
  refine x_tald 34 (z := mTF 2 (3 : Int).toNat) rfl (by decide) (by decide) rfl ?_
  obtain ⟨i26, hi26⟩ : ∃ f, f = mU i25 (c + 12) 3 (mTF 2 (3 : Int).toNat) := ⟨_, rfl⟩
  refine x_iast 35 (n := 4) rfl (show c + 12 < c + 13 by omega) (kCT hc) (by omega) (g' := (c + 13, K0, i26, l, R22)) (by subst hi26; rfl) ?_
  have hz := hz.pI hi26 (show c + 12 < c + 13 by omega)
  have hfi : ∀ (a : Nat) (b : Int), (a < c ∨ c + 15 ≤ a) → i26 a b = i a b := fun a b q => by rw [hi26]; exact (mUne _ _ _ _ _ (by omega)).trans (hfi a b q)
  refine x_iinc 36 (L' := [some (vR (some (c))), some (vI 4)]) rfl (by decide) rfl rfl rfl rfl ?_
  refine x_goto 37 (tgt := 49) rfl (by decide) ?_
  refine x_iload_n 26 rfl rfl ?_
  refine x_iconst 27 rfl ?_
  refine x_icmp_ge 28 (tgt := 71) rfl (by decide) (by decide) (fun _ => ?_) (fun h => absurd h (by decide))
  refine x_aload_n 38 rfl rfl ?_
  refine x_sipush 39 rfl (by decide) ?_
  refine x_newa 40 (t := 0) (n := 160) (cb' := 1) (sb' := 4) rfl rfl (by decide) ac_int rfl (by decide) rfl rfl (g' := ((c + 14, K0, i26, l, R22) : mS)) (cNew (kCO hc) hz) ?_
  show mX m_X0_init 2 _ 1 4 _ _ [vR (some (c + 13)), vR (some (c))] _
  have hz := hz.up (show c + 13 ≤ c + 14 by omega)
  have hg0 := rg_one hg0 (len2 11 (by decide))
  obtain ⟨R27, hR27⟩ : ∃ f, f = mU R22 (c) (2) (some (c + 13)) := ⟨_, rfl⟩
  refine x_putF 41 rfl fl_X0_25 (show c < c + 14 by omega) (kC hc) rfl (fun _ => ⟨rfl, rfl⟩) rfl (g' := (c + 14, K0, i26, l, R27)) (by subst hR27; rfl) ?_
  have hz := hz.pR hR27 (show c < c + 14 by omega)
  have hp0 := yR_put hp0 (rC2 hc) hR27
  have hp1 := yR_oth hp1 hR27 (by omega)
  have hg0 := rg_oth hg0 hR27 (by omega)
  have hfr : ∀ (a : Nat) (b : Int), (a < c ∨ c + 15 ≤ a) → R27 a b = R a b := fun a b q => by rw [hR27]; exact (mUne _ _ _ _ _ (by omega)).trans (hfr a b q)
  refine x_aload_n 42 rfl rfl ?_
  refine x_iconst 43 rfl ?_
  refine x_newa 44 (t := 0) (n := 4) (cb' := 0) (sb' := 0) rfl rfl (by decide) ac_int rfl (by decide) rfl rfl (g' := ((c + 15, K0, i26, l, R27) : mS)) (cNew (kCW hc) hz) ?_
  show mX m_X0_init 2 _ 0 0 _ _ [vR (some (c + 14)), vR (some (c))] _
  have hz := hz.up (show c + 14 ≤ c + 15 by omega)
  have hg0 := rg_one hg0 (len2 12 (by decide))
  obtain ⟨R28, hR28⟩ : ∃ f, f = mU R27 (c) (3) (some (c + 14)) := ⟨_, rfl⟩
  refine x_putF 45 rfl fl_X0_28 (show c < c + 15 by omega) (kC hc) rfl (fun _ => ⟨rfl, rfl⟩) rfl (g' := (c + 15, K0, i26, l, R28)) (by subst hR28; rfl) ?_
  have hz := hz.pR hR28 (show c < c + 15 by omega)
  have hp0 := yR_put hp0 (rC3 hc) hR28
  have hp1 := yR_oth hp1 hR28 (by omega)
  have hg0 := rg_oth hg0 hR28 (by omega)
  have hfr : ∀ (a : Nat) (b : Int), (a < c ∨ c + 15 ≤ a) → R28 a b = R a b := fun a b q => by rw [hR28]; exact (mUne _ _ _ _ _ (by omega)).trans (hfr a b q)
  refine x_ret 46 none rfl ⟨rfl, rfl⟩ ⟨rfl, i26, l, R28, rfl, fun a b q => ⟨hfi a b q, hfl a b q, hfr a b q⟩, ?_, ?_⟩
  · exact rg_zR (zR_of hp0 (by omega)) (rg_zR (zR_of hp1 (by omega)) hg0)
  · refine ⟨fun a b => ?_, rfl⟩
    rw [hi26, hi25, hi24, hi23]
    simp only [mU]
    by_cases h : a = c + 12 ∧ 0 ≤ b ∧ b < 4
    · obtain ⟨h1, h2, h3⟩ := h
      rcases (show b = 0 ∨ b = 1 ∨ b = 2 ∨ b = 3 by omega) with rfl | rfl | rfl | rfl <;> simp [h1]
    · rw [if_neg h, if_neg (by omega), if_neg (by omega), if_neg (by omega), if_neg (by omega)]
set_option maxRecDepth 20000 in
set_option maxHeartbeats 4000000 in
theorem n_split {i : fI} {l : fL} {R : fR} {q : Nat} (hq : isP bb q) (hz : cZ (q) i l R) : mCtr m_X6_init 1 2 2048 [vR (some (q))] ((q + 1, K0, i, l, R) : mS) (mkd (q) (q + 3) i l R (fun i' l' => i' = i ∧ ∀ a b, l' a b = if a = q + 1 ∧ b = 0 then 1#64 else l a b)) := by
  refine mCtr_of pl_X6 dc_X6_init (Nat.le_of_ble_eq_true rfl) rfl ?_
  show mX m_X6_init 1 _ 2 2048 0 [some (vR (some (q)))] [] ((q + 1, K0, i, l, R) : mS)
  obtain ⟨len0, len1, len2⟩ := split_len hq
  have hp0 := yR_0 (q) R
  have hg0 := rg_0 (q + 1) R
  have hz := hz.up (show q ≤ q + 1 by omega)
  have hfr : ∀ (a : Nat) (b : Int), (a < q ∨ q + 3 ≤ a) → R a b = R a b := fun _ _ _ => rfl
  have hfi : ∀ (a : Nat) (b : Int), (a < q ∨ q + 3 ≤ a) → i a b = i a b := fun _ _ _ => rfl
  have hfl : ∀ (a : Nat) (b : Int), (a < q ∨ q + 3 ≤ a) → l a b = l a b := fun _ _ _ => rfl
  refine x_aload_n 0 rfl rfl ?_
  refine x_objInit 1 rfl ml_X6_3 (by decide) (Nat.le_of_ble_eq_true rfl) ?_
  refine x_aload_n 2 rfl rfl ?_
  refine x_sipush 3 rfl (by decide) ?_
  refine x_newa 4 (t := 1) (n := 1024) (cb' := 1) (sb' := 1024) rfl rfl (by decide) ac_long rfl (by decide) rfl rfl (g' := ((q + 2, K0, i, l, R) : mS)) (cNew (kPl hq) hz) ?_
  show mX m_X6_init 1 _ 1 1024 _ _ [vR (some (q + 1)), vR (some (q))] _
  have hz := hz.up (show q + 1 ≤ q + 2 by omega)
  have hg0 := rg_one hg0 len1
  obtain ⟨R1, hR1⟩ : ∃ f, f = mU R (q) (0) (some (q + 1)) := ⟨_, rfl⟩
  refine x_putF 5 rfl fl_X6_9 (show q < q + 2 by omega) (kP hq) rfl (fun _ => ⟨rfl, rfl⟩) rfl (g' := (q + 2, K0, i, l, R1)) (by subst hR1; rfl) ?_
  have hz := hz.pR hR1 (show q < q + 2 by omega)
  have hp0 := yR_put hp0 (rP0 hq) hR1
  have hg0 := rg_oth hg0 hR1 (by omega)
  have hfr : ∀ (a : Nat) (b : Int), (a < q ∨ q + 3 ≤ a) → R1 a b = R a b := fun a b q => by rw [hR1]; exact (mUne _ _ _ _ _ (by omega)).trans (hfr a b q)
  refine x_aload_n 6 rfl rfl ?_
  refine x_sipush 7 rfl (by decide) ?_
  refine x_newa 8 (t := 1) (n := 1024) (cb' := 0) (sb' := 0) rfl rfl (by decide) ac_long rfl (by decide) rfl rfl (g' := ((q + 3, K0, i, l, R1) : mS)) (cNew (kPh hq) hz) ?_
  show mX m_X6_init 1 _ 0 0 _ _ [vR (some (q + 2)), vR (some (q))] _
  have hz := hz.up (show q + 2 ≤ q + 3 by omega)
  have hg0 := rg_one hg0 len2
  obtain ⟨R2, hR2⟩ : ∃ f, f = mU R1 (q) (1) (some (q + 2)) := ⟨_, rfl⟩
  refine x_putF 9 rfl fl_X6_15 (show q < q + 3 by omega) (kP hq) rfl (fun _ => ⟨rfl, rfl⟩) rfl (g' := (q + 3, K0, i, l, R2)) (by subst hR2; rfl) ?_
  have hz := hz.pR hR2 (show q < q + 3 by omega)
  have hp0 := yR_put hp0 (rP1 hq) hR2
  have hg0 := rg_oth hg0 hR2 (by omega)
  have hfr : ∀ (a : Nat) (b : Int), (a < q ∨ q + 3 ≤ a) → R2 a b = R a b := fun a b q => by rw [hR2]; exact (mUne _ _ _ _ _ (by omega)).trans (hfr a b q)
  refine x_aload_n 10 rfl rfl ?_
  refine x_getR 11 (z := (q + 1)) rfl fl_X6_9 (show q < q + 3 by omega) (kP hq) rfl (hp0 0 _ (by decide) (rP0 hq)) ?_
  refine x_iconst 12 rfl ?_
  refine x_lconst 13 (v := 1#64) rfl rfl ?_
  obtain ⟨l3, hl3⟩ : ∃ f, f = mU l (q + 1) 0 (1#64) := ⟨_, rfl⟩
  refine x_last 14 (n := 1024) rfl (show q + 1 < q + 3 by omega) (kPl hq) (by omega) (g' := (q + 3, K0, i, l3, R2)) (by subst hl3; rfl) ?_
  have hz := hz.pL hl3 (show q + 1 < q + 3 by omega)
  have hfl : ∀ (a : Nat) (b : Int), (a < q ∨ q + 3 ≤ a) → l3 a b = l a b := fun a b q => by rw [hl3]; exact (mUne _ _ _ _ _ (by omega)).trans (hfl a b q)
  refine x_ret 15 none rfl ⟨rfl, rfl⟩ ⟨rfl, i, l3, R2, rfl, fun a b q => ⟨hfi a b q, hfl a b q, hfr a b q⟩, ?_, ?_⟩
  · exact rg_zR (zR_of hp0 (by omega)) hg0
  · refine ⟨rfl, fun a b => ?_⟩
    rw [hl3]
    rfl
set_option maxRecDepth 20000 in
set_option maxHeartbeats 4000000 in
theorem n_hist {i : fI} {l : fL} {R : fR}  (hz : cZ (ob bb + 16) i l R) : mCtr m_X1_init 3 121 2376 [vR (some (ob bb + 16))] ((ob bb + 17, K0, i, l, R) : mS) (mkd (ob bb + 16) (ob bb + 138) i l R (fun i' l' => (∀ a b, a < (ob bb + 18) → i' a b = i a b) ∧ l' = l)) := by
  refine mCtr_of pl_X1 dc_X1_init (Nat.le_of_ble_eq_true rfl) rfl ?_
  show mX m_X1_init 3 _ 121 2376 0 [some (vR (some (ob bb + 16))), none] [] ((ob bb + 17, K0, i, l, R) : mS)
  have hp16 := yR_0 (ob bb + 16) R
  have hg0 := rg_0 (ob bb + 17) R
  have hz := hz.up (show ob bb + 16 ≤ ob bb + 17 by omega)
  have hfr : ∀ (a : Nat) (b : Int), (a < ob bb + 16 ∨ ob bb + 138 ≤ a) → R a b = R a b := fun _ _ _ => rfl
  have hfi : ∀ (a : Nat) (b : Int), (a < ob bb + 16 ∨ ob bb + 138 ≤ a) → i a b = i a b := fun _ _ _ => rfl
  have hfl : ∀ (a : Nat) (b : Int), (a < ob bb + 16 ∨ ob bb + 138 ≤ a) → l a b = l a b := fun _ _ _ => rfl
  have hI : ∀ (a : Nat) (b : Int), a < (ob bb + 18) → i a b = i a b := fun _ _ _ => rfl
  have hLl : l = l := rfl
  refine x_aload_n 0 rfl rfl ?_
  refine x_objInit 1 rfl ml_X1_3 (by decide) (Nat.le_of_ble_eq_true rfl) ?_
  refine x_aload_n 2 rfl rfl ?_
  refine x_bipush 3 rfl (by decide) ?_
  refine x_newq0 4 (n := 8) (cb' := 120) (sb' := 2368) rfl cl_X1_9 rfl (by decide) rfl rfl (g' := ((ob bb + 18, K0, i, l, R) : mS)) (cNew (show K0 (ob bb + 17) = .inr (4, 8) from (K0b (a := 17) (by decide)).trans (by decide +kernel)) hz) ?_
  show mX m_X1_init 3 _ 120 2368 _ _ [vR (some (ob bb + 17)), vR (some (ob bb + 16))] _
  have hz := hz.up (show ob bb + 17 ≤ ob bb + 18 by omega)
  have hp17 := yR_0 (ob bb + 17) R
  have hg0 := rg_0 (ob bb + 18) R
  obtain ⟨R1, hR1⟩ : ∃ f, f = mU R (ob bb + 16) (0) (some (ob bb + 17)) := ⟨_, rfl⟩
  refine x_putF 5 rfl fl_X1_11 (show ob bb + 16 < ob bb + 18 by omega) (show K0 (ob bb + 16) = .inl 1 from (K0b (a := 16) (by decide)).trans (by decide +kernel)) rfl (fun _ => ⟨rfl, rfl⟩) rfl (g' := (ob bb + 18, K0, i, l, R1)) (by subst hR1; rfl) ?_
  have hz := hz.pR hR1 (show ob bb + 16 < ob bb + 18 by omega)
  have hp16 := yR_put hp16 (show R0 (ob bb + 16) ((0 : Nat) : Int) = some (ob bb + 17) from (R0b (a := 16) (by decide) _).trans (by rw [show (rL.getD 16 []).getD ((0 : Nat) : Int).toNat none = some 17 by decide +kernel]; rfl)) hR1
  have hp17 := yR_oth hp17 hR1 (by omega)
  have hg0 := rg_oth hg0 hR1 (by omega)
  have hfr : ∀ (a : Nat) (b : Int), (a < ob bb + 16 ∨ ob bb + 138 ≤ a) → R1 a b = R a b := fun a b q => by rw [hR1]; exact (mUne _ _ _ _ _ (by omega)).trans (hfr a b q)
  refine x_iconst 6 rfl ?_
  refine x_istore_n 7 (L' := [some (vR (some (ob bb + 16))), some (vI 0)]) rfl (by decide) rfl rfl ?_
  refine x_iload_n 8 rfl rfl ?_
  refine x_bipush 9 rfl (by decide) ?_
  refine x_icmp_ge 10 (tgt := 40) rfl (by decide) (by decide) (fun h => absurd h (by decide)) (fun _ => ?_)
  refine x_aload_n 11 rfl rfl ?_
  refine x_getR 12 (z := (ob bb + 17)) rfl fl_X1_11 (show ob bb + 16 < ob bb + 18 by omega) (show K0 (ob bb + 16) = .inl 1 from (K0b (a := 16) (by decide)).trans (by decide +kernel)) rfl (hp16 0 _ (by decide) (show R0 (ob bb + 16) ((0 : Nat) : Int) = some (ob bb + 17) from (R0b (a := 16) (by decide) _).trans (by rw [show (rL.getD 16 []).getD ((0 : Nat) : Int).toNat none = some 17 by decide +kernel]; rfl))) ?_
  refine x_iload_n 13 rfl rfl ?_
  refine x_new 14 (ci := 0) (cb' := 119) (sb' := 2360) rfl rfl cl_X1_9 ins_X0 ini_X0 rfl rfl (g' := ((ob bb + 19, K0, i, l, R1) : mS)) (cNew (show K0 (ob bb + 18) = .inl 0 from (K0b (a := 18) (by decide)).trans (by decide +kernel)) hz) ?_
  show mX m_X1_init 3 _ 119 2360 _ _ [vR (some (ob bb + 18)), vI (0), vR (some (ob bb + 17))] _
  refine x_dup 15 rfl rfl ?_
  refine x_callI 16 (cb' := 105) (sb' := 2072) m_X0_init (n_choir (show isC bb (ob bb + 18) from ⟨18, by decide, rfl⟩) hz) rfl ok_X0_init rfl rfl ml_X1_17 im_X0_init rfl (by decide) rfl (Nat.le_of_ble_eq_true rfl) rfl rfl (fun v g' q2 => ?_)
  obtain ⟨rfl, i3, l4, R5, rfl, hf6, hb7, hP8⟩ := q2
  show mX m_X1_init 3 _ 105 2072 _ _ [vR (some (ob bb + 18)), vI (0), vR (some (ob bb + 17))] _
  have hz := mkd_cZ hz (show ob bb + 18 ≤ ob bb + 33 by omega) hf6
  have hp16 := yR_fr hp16 (fun b => (hf6 (ob bb + 16) b (by omega)).2.2)
  have hp17 := yR_fr hp17 (fun b => (hf6 (ob bb + 17) b (by omega)).2.2)
  have hg0 := rg_fr hg0 (fun x b z => (hf6 x b z).2.2) (by omega)
  have hg0 := rg_join hg0 hb7
  have hfr : ∀ (a : Nat) (b : Int), (a < ob bb + 16 ∨ ob bb + 138 ≤ a) → R5 a b = R a b := fun a b q => ((hf6 a b (by omega)).2.2).trans (hfr a b q)
  have hfi : ∀ (a : Nat) (b : Int), (a < ob bb + 16 ∨ ob bb + 138 ≤ a) → i3 a b = i a b := fun a b q => ((hf6 a b (by omega)).1).trans (hfi a b q)
  have hfl : ∀ (a : Nat) (b : Int), (a < ob bb + 16 ∨ ob bb + 138 ≤ a) → l4 a b = l a b := fun a b q => ((hf6 a b (by omega)).2.1).trans (hfl a b q)
  have hI : ∀ (a : Nat) (b : Int), a < (ob bb + 18) → i3 a b = i a b := fun a b q => ((hf6 a b (by omega)).1).trans (hI a b q)
  have hLl : l4 = l := hP8.2.trans hLl
  obtain ⟨R9, hR9⟩ : ∃ f, f = mU R5 (ob bb + 17) (0) (some (ob bb + 18)) := ⟨_, rfl⟩
  refine x_aast 17 (t := 4) (n := 8) (ci := 0) rfl (show ob bb + 17 < ob bb + 33 by omega) (show K0 (ob bb + 17) = .inr (4, 8) from (K0b (a := 17) (by decide)).trans (by decide +kernel)) rfl rfl (show ob bb + 18 < ob bb + 33 by omega) (show K0 (ob bb + 18) = .inl 0 from (K0b (a := 18) (by decide)).trans (by decide +kernel)) (by omega) (g' := (ob bb + 33, K0, i3, l4, R9)) (by subst hR9; rfl) ?_
  have hz := hz.pR hR9 (show ob bb + 17 < ob bb + 33 by omega)
  have hp16 := yR_oth hp16 hR9 (by omega)
  have hp17 := yR_put hp17 (show R0 (ob bb + 17) ((0 : Nat) : Int) = some (ob bb + 18) from (R0b (a := 17) (by decide) _).trans (by rw [show (rL.getD 17 []).getD ((0 : Nat) : Int).toNat none = some 18 by decide +kernel]; rfl)) hR9
  have hg0 := rg_oth hg0 hR9 (by omega)
  have hfr : ∀ (a : Nat) (b : Int), (a < ob bb + 16 ∨ ob bb + 138 ≤ a) → R9 a b = R a b := fun a b q => by rw [hR9]; exact (mUne _ _ _ _ _ (by omega)).trans (hfr a b q)
  refine x_iinc 18 (L' := [some (vR (some (ob bb + 16))), some (vI 1)]) rfl (by decide) rfl rfl rfl rfl ?_
  refine x_goto 19 (tgt := 15) rfl (by decide) ?_
  refine x_iload_n 8 rfl rfl ?_
  refine x_bipush 9 rfl (by decide) ?_
  refine x_icmp_ge 10 (tgt := 40) rfl (by decide) (by decide) (fun h => absurd h (by decide)) (fun _ => ?_)
  refine x_aload_n 11 rfl rfl ?_
  refine x_getR 12 (z := (ob bb + 17)) rfl fl_X1_11 (show ob bb + 16 < ob bb + 33 by omega) (show K0 (ob bb + 16) = .inl 1 from (K0b (a := 16) (by decide)).trans (by decide +kernel)) rfl (hp16 0 _ (by decide) (show R0 (ob bb + 16) ((0 : Nat) : Int) = some (ob bb + 17) from (R0b (a := 16) (by decide) _).trans (by rw [show (rL.getD 16 []).getD ((0 : Nat) : Int).toNat none = some 17 by decide +kernel]; rfl))) ?_
  refine x_iload_n 13 rfl rfl ?_
  refine x_new 14 (ci := 0) (cb' := 104) (sb' := 2064) rfl rfl cl_X1_9 ins_X0 ini_X0 rfl rfl (g' := ((ob bb + 34, K0, i3, l4, R9) : mS)) (cNew (show K0 (ob bb + 33) = .inl 0 from (K0b (a := 33) (by decide)).trans (by decide +kernel)) hz) ?_
  show mX m_X1_init 3 _ 104 2064 _ _ [vR (some (ob bb + 33)), vI (1), vR (some (ob bb + 17))] _
  refine x_dup 15 rfl rfl ?_
  refine x_callI 16 (cb' := 90) (sb' := 1776) m_X0_init (n_choir (show isC bb (ob bb + 33) from ⟨33, by decide, rfl⟩) hz) rfl ok_X0_init rfl rfl ml_X1_17 im_X0_init rfl (by decide) rfl (Nat.le_of_ble_eq_true rfl) rfl rfl (fun v g' q10 => ?_)
  obtain ⟨rfl, i11, l12, R13, rfl, hf14, hb15, hP16⟩ := q10
  show mX m_X1_init 3 _ 90 1776 _ _ [vR (some (ob bb + 33)), vI (1), vR (some (ob bb + 17))] _
  have hz := mkd_cZ hz (show ob bb + 33 ≤ ob bb + 48 by omega) hf14
  have hp16 := yR_fr hp16 (fun b => (hf14 (ob bb + 16) b (by omega)).2.2)
  have hp17 := yR_fr hp17 (fun b => (hf14 (ob bb + 17) b (by omega)).2.2)
  have hg0 := rg_fr hg0 (fun x b z => (hf14 x b z).2.2) (by omega)
  have hg0 := rg_join hg0 hb15
  have hfr : ∀ (a : Nat) (b : Int), (a < ob bb + 16 ∨ ob bb + 138 ≤ a) → R13 a b = R a b := fun a b q => ((hf14 a b (by omega)).2.2).trans (hfr a b q)
  have hfi : ∀ (a : Nat) (b : Int), (a < ob bb + 16 ∨ ob bb + 138 ≤ a) → i11 a b = i a b := fun a b q => ((hf14 a b (by omega)).1).trans (hfi a b q)
  have hfl : ∀ (a : Nat) (b : Int), (a < ob bb + 16 ∨ ob bb + 138 ≤ a) → l12 a b = l a b := fun a b q => ((hf14 a b (by omega)).2.1).trans (hfl a b q)
  have hI : ∀ (a : Nat) (b : Int), a < (ob bb + 18) → i11 a b = i a b := fun a b q => ((hf14 a b (by omega)).1).trans (hI a b q)
  have hLl : l12 = l := hP16.2.trans hLl
  obtain ⟨R17, hR17⟩ : ∃ f, f = mU R13 (ob bb + 17) (1) (some (ob bb + 33)) := ⟨_, rfl⟩
  refine x_aast 17 (t := 4) (n := 8) (ci := 0) rfl (show ob bb + 17 < ob bb + 48 by omega) (show K0 (ob bb + 17) = .inr (4, 8) from (K0b (a := 17) (by decide)).trans (by decide +kernel)) rfl rfl (show ob bb + 33 < ob bb + 48 by omega) (show K0 (ob bb + 33) = .inl 0 from (K0b (a := 33) (by decide)).trans (by decide +kernel)) (by omega) (g' := (ob bb + 48, K0, i11, l12, R17)) (by subst hR17; rfl) ?_
  have hz := hz.pR hR17 (show ob bb + 17 < ob bb + 48 by omega)
  have hp16 := yR_oth hp16 hR17 (by omega)
  have hp17 := yR_put hp17 (show R0 (ob bb + 17) ((1 : Nat) : Int) = some (ob bb + 33) from (R0b (a := 17) (by decide) _).trans (by rw [show (rL.getD 17 []).getD ((1 : Nat) : Int).toNat none = some 33 by decide +kernel]; rfl)) hR17
  have hg0 := rg_oth hg0 hR17 (by omega)
  have hfr : ∀ (a : Nat) (b : Int), (a < ob bb + 16 ∨ ob bb + 138 ≤ a) → R17 a b = R a b := fun a b q => by rw [hR17]; exact (mUne _ _ _ _ _ (by omega)).trans (hfr a b q)
  refine x_iinc 18 (L' := [some (vR (some (ob bb + 16))), some (vI 2)]) rfl (by decide) rfl rfl rfl rfl ?_
  refine x_goto 19 (tgt := 15) rfl (by decide) ?_
  refine x_iload_n 8 rfl rfl ?_
  refine x_bipush 9 rfl (by decide) ?_
  refine x_icmp_ge 10 (tgt := 40) rfl (by decide) (by decide) (fun h => absurd h (by decide)) (fun _ => ?_)
  refine x_aload_n 11 rfl rfl ?_
  refine x_getR 12 (z := (ob bb + 17)) rfl fl_X1_11 (show ob bb + 16 < ob bb + 48 by omega) (show K0 (ob bb + 16) = .inl 1 from (K0b (a := 16) (by decide)).trans (by decide +kernel)) rfl (hp16 0 _ (by decide) (show R0 (ob bb + 16) ((0 : Nat) : Int) = some (ob bb + 17) from (R0b (a := 16) (by decide) _).trans (by rw [show (rL.getD 16 []).getD ((0 : Nat) : Int).toNat none = some 17 by decide +kernel]; rfl))) ?_
  refine x_iload_n 13 rfl rfl ?_
  refine x_new 14 (ci := 0) (cb' := 89) (sb' := 1768) rfl rfl cl_X1_9 ins_X0 ini_X0 rfl rfl (g' := ((ob bb + 49, K0, i11, l12, R17) : mS)) (cNew (show K0 (ob bb + 48) = .inl 0 from (K0b (a := 48) (by decide)).trans (by decide +kernel)) hz) ?_
  show mX m_X1_init 3 _ 89 1768 _ _ [vR (some (ob bb + 48)), vI (2), vR (some (ob bb + 17))] _
  refine x_dup 15 rfl rfl ?_
  refine x_callI 16 (cb' := 75) (sb' := 1480) m_X0_init (n_choir (show isC bb (ob bb + 48) from ⟨48, by decide, rfl⟩) hz) rfl ok_X0_init rfl rfl ml_X1_17 im_X0_init rfl (by decide) rfl (Nat.le_of_ble_eq_true rfl) rfl rfl (fun v g' q18 => ?_)
  obtain ⟨rfl, i19, l20, R21, rfl, hf22, hb23, hP24⟩ := q18
  show mX m_X1_init 3 _ 75 1480 _ _ [vR (some (ob bb + 48)), vI (2), vR (some (ob bb + 17))] _
  have hz := mkd_cZ hz (show ob bb + 48 ≤ ob bb + 63 by omega) hf22
  have hp16 := yR_fr hp16 (fun b => (hf22 (ob bb + 16) b (by omega)).2.2)
  have hp17 := yR_fr hp17 (fun b => (hf22 (ob bb + 17) b (by omega)).2.2)
  have hg0 := rg_fr hg0 (fun x b z => (hf22 x b z).2.2) (by omega)
  have hg0 := rg_join hg0 hb23
  have hfr : ∀ (a : Nat) (b : Int), (a < ob bb + 16 ∨ ob bb + 138 ≤ a) → R21 a b = R a b := fun a b q => ((hf22 a b (by omega)).2.2).trans (hfr a b q)
  have hfi : ∀ (a : Nat) (b : Int), (a < ob bb + 16 ∨ ob bb + 138 ≤ a) → i19 a b = i a b := fun a b q => ((hf22 a b (by omega)).1).trans (hfi a b q)
  have hfl : ∀ (a : Nat) (b : Int), (a < ob bb + 16 ∨ ob bb + 138 ≤ a) → l20 a b = l a b := fun a b q => ((hf22 a b (by omega)).2.1).trans (hfl a b q)
  have hI : ∀ (a : Nat) (b : Int), a < (ob bb + 18) → i19 a b = i a b := fun a b q => ((hf22 a b (by omega)).1).trans (hI a b q)
  have hLl : l20 = l := hP24.2.trans hLl
  obtain ⟨R25, hR25⟩ : ∃ f, f = mU R21 (ob bb + 17) (2) (some (ob bb + 48)) := ⟨_, rfl⟩
  refine x_aast 17 (t := 4) (n := 8) (ci := 0) rfl (show ob bb + 17 < ob bb + 63 by omega) (show K0 (ob bb + 17) = .inr (4, 8) from (K0b (a := 17) (by decide)).trans (by decide +kernel)) rfl rfl (show ob bb + 48 < ob bb + 63 by omega) (show K0 (ob bb + 48) = .inl 0 from (K0b (a := 48) (by decide)).trans (by decide +kernel)) (by omega) (g' := (ob bb + 63, K0, i19, l20, R25)) (by subst hR25; rfl) ?_
  have hz := hz.pR hR25 (show ob bb + 17 < ob bb + 63 by omega)
  have hp16 := yR_oth hp16 hR25 (by omega)
  have hp17 := yR_put hp17 (show R0 (ob bb + 17) ((2 : Nat) : Int) = some (ob bb + 48) from (R0b (a := 17) (by decide) _).trans (by rw [show (rL.getD 17 []).getD ((2 : Nat) : Int).toNat none = some 48 by decide +kernel]; rfl)) hR25
  have hg0 := rg_oth hg0 hR25 (by omega)
  have hfr : ∀ (a : Nat) (b : Int), (a < ob bb + 16 ∨ ob bb + 138 ≤ a) → R25 a b = R a b := fun a b q => by rw [hR25]; exact (mUne _ _ _ _ _ (by omega)).trans (hfr a b q)
  refine x_iinc 18 (L' := [some (vR (some (ob bb + 16))), some (vI 3)]) rfl (by decide) rfl rfl rfl rfl ?_
  refine x_goto 19 (tgt := 15) rfl (by decide) ?_
  refine x_iload_n 8 rfl rfl ?_
  refine x_bipush 9 rfl (by decide) ?_
  refine x_icmp_ge 10 (tgt := 40) rfl (by decide) (by decide) (fun h => absurd h (by decide)) (fun _ => ?_)
  refine x_aload_n 11 rfl rfl ?_
  refine x_getR 12 (z := (ob bb + 17)) rfl fl_X1_11 (show ob bb + 16 < ob bb + 63 by omega) (show K0 (ob bb + 16) = .inl 1 from (K0b (a := 16) (by decide)).trans (by decide +kernel)) rfl (hp16 0 _ (by decide) (show R0 (ob bb + 16) ((0 : Nat) : Int) = some (ob bb + 17) from (R0b (a := 16) (by decide) _).trans (by rw [show (rL.getD 16 []).getD ((0 : Nat) : Int).toNat none = some 17 by decide +kernel]; rfl))) ?_
  refine x_iload_n 13 rfl rfl ?_
  refine x_new 14 (ci := 0) (cb' := 74) (sb' := 1472) rfl rfl cl_X1_9 ins_X0 ini_X0 rfl rfl (g' := ((ob bb + 64, K0, i19, l20, R25) : mS)) (cNew (show K0 (ob bb + 63) = .inl 0 from (K0b (a := 63) (by decide)).trans (by decide +kernel)) hz) ?_
  show mX m_X1_init 3 _ 74 1472 _ _ [vR (some (ob bb + 63)), vI (3), vR (some (ob bb + 17))] _
  refine x_dup 15 rfl rfl ?_
  refine x_callI 16 (cb' := 60) (sb' := 1184) m_X0_init (n_choir (show isC bb (ob bb + 63) from ⟨63, by decide, rfl⟩) hz) rfl ok_X0_init rfl rfl ml_X1_17 im_X0_init rfl (by decide) rfl (Nat.le_of_ble_eq_true rfl) rfl rfl (fun v g' q26 => ?_)
  obtain ⟨rfl, i27, l28, R29, rfl, hf30, hb31, hP32⟩ := q26
  show mX m_X1_init 3 _ 60 1184 _ _ [vR (some (ob bb + 63)), vI (3), vR (some (ob bb + 17))] _
  have hz := mkd_cZ hz (show ob bb + 63 ≤ ob bb + 78 by omega) hf30
  have hp16 := yR_fr hp16 (fun b => (hf30 (ob bb + 16) b (by omega)).2.2)
  have hp17 := yR_fr hp17 (fun b => (hf30 (ob bb + 17) b (by omega)).2.2)
  have hg0 := rg_fr hg0 (fun x b z => (hf30 x b z).2.2) (by omega)
  have hg0 := rg_join hg0 hb31
  have hfr : ∀ (a : Nat) (b : Int), (a < ob bb + 16 ∨ ob bb + 138 ≤ a) → R29 a b = R a b := fun a b q => ((hf30 a b (by omega)).2.2).trans (hfr a b q)
  have hfi : ∀ (a : Nat) (b : Int), (a < ob bb + 16 ∨ ob bb + 138 ≤ a) → i27 a b = i a b := fun a b q => ((hf30 a b (by omega)).1).trans (hfi a b q)
  have hfl : ∀ (a : Nat) (b : Int), (a < ob bb + 16 ∨ ob bb + 138 ≤ a) → l28 a b = l a b := fun a b q => ((hf30 a b (by omega)).2.1).trans (hfl a b q)
  have hI : ∀ (a : Nat) (b : Int), a < (ob bb + 18) → i27 a b = i a b := fun a b q => ((hf30 a b (by omega)).1).trans (hI a b q)
  have hLl : l28 = l := hP32.2.trans hLl
  obtain ⟨R33, hR33⟩ : ∃ f, f = mU R29 (ob bb + 17) (3) (some (ob bb + 63)) := ⟨_, rfl⟩
  refine x_aast 17 (t := 4) (n := 8) (ci := 0) rfl (show ob bb + 17 < ob bb + 78 by omega) (show K0 (ob bb + 17) = .inr (4, 8) from (K0b (a := 17) (by decide)).trans (by decide +kernel)) rfl rfl (show ob bb + 63 < ob bb + 78 by omega) (show K0 (ob bb + 63) = .inl 0 from (K0b (a := 63) (by decide)).trans (by decide +kernel)) (by omega) (g' := (ob bb + 78, K0, i27, l28, R33)) (by subst hR33; rfl) ?_
  have hz := hz.pR hR33 (show ob bb + 17 < ob bb + 78 by omega)
  have hp16 := yR_oth hp16 hR33 (by omega)
  have hp17 := yR_put hp17 (show R0 (ob bb + 17) ((3 : Nat) : Int) = some (ob bb + 63) from (R0b (a := 17) (by decide) _).trans (by rw [show (rL.getD 17 []).getD ((3 : Nat) : Int).toNat none = some 63 by decide +kernel]; rfl)) hR33
  have hg0 := rg_oth hg0 hR33 (by omega)
  have hfr : ∀ (a : Nat) (b : Int), (a < ob bb + 16 ∨ ob bb + 138 ≤ a) → R33 a b = R a b := fun a b q => by rw [hR33]; exact (mUne _ _ _ _ _ (by omega)).trans (hfr a b q)
  refine x_iinc 18 (L' := [some (vR (some (ob bb + 16))), some (vI 4)]) rfl (by decide) rfl rfl rfl rfl ?_
  refine x_goto 19 (tgt := 15) rfl (by decide) ?_
  refine x_iload_n 8 rfl rfl ?_
  refine x_bipush 9 rfl (by decide) ?_
  refine x_icmp_ge 10 (tgt := 40) rfl (by decide) (by decide) (fun h => absurd h (by decide)) (fun _ => ?_)
  refine x_aload_n 11 rfl rfl ?_
  refine x_getR 12 (z := (ob bb + 17)) rfl fl_X1_11 (show ob bb + 16 < ob bb + 78 by omega) (show K0 (ob bb + 16) = .inl 1 from (K0b (a := 16) (by decide)).trans (by decide +kernel)) rfl (hp16 0 _ (by decide) (show R0 (ob bb + 16) ((0 : Nat) : Int) = some (ob bb + 17) from (R0b (a := 16) (by decide) _).trans (by rw [show (rL.getD 16 []).getD ((0 : Nat) : Int).toNat none = some 17 by decide +kernel]; rfl))) ?_
  refine x_iload_n 13 rfl rfl ?_
  refine x_new 14 (ci := 0) (cb' := 59) (sb' := 1176) rfl rfl cl_X1_9 ins_X0 ini_X0 rfl rfl (g' := ((ob bb + 79, K0, i27, l28, R33) : mS)) (cNew (show K0 (ob bb + 78) = .inl 0 from (K0b (a := 78) (by decide)).trans (by decide +kernel)) hz) ?_
  show mX m_X1_init 3 _ 59 1176 _ _ [vR (some (ob bb + 78)), vI (4), vR (some (ob bb + 17))] _
  refine x_dup 15 rfl rfl ?_
  refine x_callI 16 (cb' := 45) (sb' := 888) m_X0_init (n_choir (show isC bb (ob bb + 78) from ⟨78, by decide, rfl⟩) hz) rfl ok_X0_init rfl rfl ml_X1_17 im_X0_init rfl (by decide) rfl (Nat.le_of_ble_eq_true rfl) rfl rfl (fun v g' q34 => ?_)
  obtain ⟨rfl, i35, l36, R37, rfl, hf38, hb39, hP40⟩ := q34
  show mX m_X1_init 3 _ 45 888 _ _ [vR (some (ob bb + 78)), vI (4), vR (some (ob bb + 17))] _
  have hz := mkd_cZ hz (show ob bb + 78 ≤ ob bb + 93 by omega) hf38
  have hp16 := yR_fr hp16 (fun b => (hf38 (ob bb + 16) b (by omega)).2.2)
  have hp17 := yR_fr hp17 (fun b => (hf38 (ob bb + 17) b (by omega)).2.2)
  have hg0 := rg_fr hg0 (fun x b z => (hf38 x b z).2.2) (by omega)
  have hg0 := rg_join hg0 hb39
  have hfr : ∀ (a : Nat) (b : Int), (a < ob bb + 16 ∨ ob bb + 138 ≤ a) → R37 a b = R a b := fun a b q => ((hf38 a b (by omega)).2.2).trans (hfr a b q)
  have hfi : ∀ (a : Nat) (b : Int), (a < ob bb + 16 ∨ ob bb + 138 ≤ a) → i35 a b = i a b := fun a b q => ((hf38 a b (by omega)).1).trans (hfi a b q)
  have hfl : ∀ (a : Nat) (b : Int), (a < ob bb + 16 ∨ ob bb + 138 ≤ a) → l36 a b = l a b := fun a b q => ((hf38 a b (by omega)).2.1).trans (hfl a b q)
  have hI : ∀ (a : Nat) (b : Int), a < (ob bb + 18) → i35 a b = i a b := fun a b q => ((hf38 a b (by omega)).1).trans (hI a b q)
  have hLl : l36 = l := hP40.2.trans hLl
  obtain ⟨R41, hR41⟩ : ∃ f, f = mU R37 (ob bb + 17) (4) (some (ob bb + 78)) := ⟨_, rfl⟩
  refine x_aast 17 (t := 4) (n := 8) (ci := 0) rfl (show ob bb + 17 < ob bb + 93 by omega) (show K0 (ob bb + 17) = .inr (4, 8) from (K0b (a := 17) (by decide)).trans (by decide +kernel)) rfl rfl (show ob bb + 78 < ob bb + 93 by omega) (show K0 (ob bb + 78) = .inl 0 from (K0b (a := 78) (by decide)).trans (by decide +kernel)) (by omega) (g' := (ob bb + 93, K0, i35, l36, R41)) (by subst hR41; rfl) ?_
  have hz := hz.pR hR41 (show ob bb + 17 < ob bb + 93 by omega)
  have hp16 := yR_oth hp16 hR41 (by omega)
  have hp17 := yR_put hp17 (show R0 (ob bb + 17) ((4 : Nat) : Int) = some (ob bb + 78) from (R0b (a := 17) (by decide) _).trans (by rw [show (rL.getD 17 []).getD ((4 : Nat) : Int).toNat none = some 78 by decide +kernel]; rfl)) hR41
  have hg0 := rg_oth hg0 hR41 (by omega)
  have hfr : ∀ (a : Nat) (b : Int), (a < ob bb + 16 ∨ ob bb + 138 ≤ a) → R41 a b = R a b := fun a b q => by rw [hR41]; exact (mUne _ _ _ _ _ (by omega)).trans (hfr a b q)
  refine x_iinc 18 (L' := [some (vR (some (ob bb + 16))), some (vI 5)]) rfl (by decide) rfl rfl rfl rfl ?_
  refine x_goto 19 (tgt := 15) rfl (by decide) ?_
  refine x_iload_n 8 rfl rfl ?_
  refine x_bipush 9 rfl (by decide) ?_
  refine x_icmp_ge 10 (tgt := 40) rfl (by decide) (by decide) (fun h => absurd h (by decide)) (fun _ => ?_)
  refine x_aload_n 11 rfl rfl ?_
  refine x_getR 12 (z := (ob bb + 17)) rfl fl_X1_11 (show ob bb + 16 < ob bb + 93 by omega) (show K0 (ob bb + 16) = .inl 1 from (K0b (a := 16) (by decide)).trans (by decide +kernel)) rfl (hp16 0 _ (by decide) (show R0 (ob bb + 16) ((0 : Nat) : Int) = some (ob bb + 17) from (R0b (a := 16) (by decide) _).trans (by rw [show (rL.getD 16 []).getD ((0 : Nat) : Int).toNat none = some 17 by decide +kernel]; rfl))) ?_
  refine x_iload_n 13 rfl rfl ?_
  refine x_new 14 (ci := 0) (cb' := 44) (sb' := 880) rfl rfl cl_X1_9 ins_X0 ini_X0 rfl rfl (g' := ((ob bb + 94, K0, i35, l36, R41) : mS)) (cNew (show K0 (ob bb + 93) = .inl 0 from (K0b (a := 93) (by decide)).trans (by decide +kernel)) hz) ?_
  show mX m_X1_init 3 _ 44 880 _ _ [vR (some (ob bb + 93)), vI (5), vR (some (ob bb + 17))] _
  refine x_dup 15 rfl rfl ?_
  refine x_callI 16 (cb' := 30) (sb' := 592) m_X0_init (n_choir (show isC bb (ob bb + 93) from ⟨93, by decide, rfl⟩) hz) rfl ok_X0_init rfl rfl ml_X1_17 im_X0_init rfl (by decide) rfl (Nat.le_of_ble_eq_true rfl) rfl rfl (fun v g' q42 => ?_)
  obtain ⟨rfl, i43, l44, R45, rfl, hf46, hb47, hP48⟩ := q42
  show mX m_X1_init 3 _ 30 592 _ _ [vR (some (ob bb + 93)), vI (5), vR (some (ob bb + 17))] _
  have hz := mkd_cZ hz (show ob bb + 93 ≤ ob bb + 108 by omega) hf46
  have hp16 := yR_fr hp16 (fun b => (hf46 (ob bb + 16) b (by omega)).2.2)
  have hp17 := yR_fr hp17 (fun b => (hf46 (ob bb + 17) b (by omega)).2.2)
  have hg0 := rg_fr hg0 (fun x b z => (hf46 x b z).2.2) (by omega)
  have hg0 := rg_join hg0 hb47
  have hfr : ∀ (a : Nat) (b : Int), (a < ob bb + 16 ∨ ob bb + 138 ≤ a) → R45 a b = R a b := fun a b q => ((hf46 a b (by omega)).2.2).trans (hfr a b q)
  have hfi : ∀ (a : Nat) (b : Int), (a < ob bb + 16 ∨ ob bb + 138 ≤ a) → i43 a b = i a b := fun a b q => ((hf46 a b (by omega)).1).trans (hfi a b q)
  have hfl : ∀ (a : Nat) (b : Int), (a < ob bb + 16 ∨ ob bb + 138 ≤ a) → l44 a b = l a b := fun a b q => ((hf46 a b (by omega)).2.1).trans (hfl a b q)
  have hI : ∀ (a : Nat) (b : Int), a < (ob bb + 18) → i43 a b = i a b := fun a b q => ((hf46 a b (by omega)).1).trans (hI a b q)
  have hLl : l44 = l := hP48.2.trans hLl
  obtain ⟨R49, hR49⟩ : ∃ f, f = mU R45 (ob bb + 17) (5) (some (ob bb + 93)) := ⟨_, rfl⟩
  refine x_aast 17 (t := 4) (n := 8) (ci := 0) rfl (show ob bb + 17 < ob bb + 108 by omega) (show K0 (ob bb + 17) = .inr (4, 8) from (K0b (a := 17) (by decide)).trans (by decide +kernel)) rfl rfl (show ob bb + 93 < ob bb + 108 by omega) (show K0 (ob bb + 93) = .inl 0 from (K0b (a := 93) (by decide)).trans (by decide +kernel)) (by omega) (g' := (ob bb + 108, K0, i43, l44, R49)) (by subst hR49; rfl) ?_
  have hz := hz.pR hR49 (show ob bb + 17 < ob bb + 108 by omega)
  have hp16 := yR_oth hp16 hR49 (by omega)
  have hp17 := yR_put hp17 (show R0 (ob bb + 17) ((5 : Nat) : Int) = some (ob bb + 93) from (R0b (a := 17) (by decide) _).trans (by rw [show (rL.getD 17 []).getD ((5 : Nat) : Int).toNat none = some 93 by decide +kernel]; rfl)) hR49
  have hg0 := rg_oth hg0 hR49 (by omega)
  have hfr : ∀ (a : Nat) (b : Int), (a < ob bb + 16 ∨ ob bb + 138 ≤ a) → R49 a b = R a b := fun a b q => by rw [hR49]; exact (mUne _ _ _ _ _ (by omega)).trans (hfr a b q)
  refine x_iinc 18 (L' := [some (vR (some (ob bb + 16))), some (vI 6)]) rfl (by decide) rfl rfl rfl rfl ?_
  refine x_goto 19 (tgt := 15) rfl (by decide) ?_
  refine x_iload_n 8 rfl rfl ?_
  refine x_bipush 9 rfl (by decide) ?_
  refine x_icmp_ge 10 (tgt := 40) rfl (by decide) (by decide) (fun h => absurd h (by decide)) (fun _ => ?_)
  refine x_aload_n 11 rfl rfl ?_
  refine x_getR 12 (z := (ob bb + 17)) rfl fl_X1_11 (show ob bb + 16 < ob bb + 108 by omega) (show K0 (ob bb + 16) = .inl 1 from (K0b (a := 16) (by decide)).trans (by decide +kernel)) rfl (hp16 0 _ (by decide) (show R0 (ob bb + 16) ((0 : Nat) : Int) = some (ob bb + 17) from (R0b (a := 16) (by decide) _).trans (by rw [show (rL.getD 16 []).getD ((0 : Nat) : Int).toNat none = some 17 by decide +kernel]; rfl))) ?_
  refine x_iload_n 13 rfl rfl ?_
  refine x_new 14 (ci := 0) (cb' := 29) (sb' := 584) rfl rfl cl_X1_9 ins_X0 ini_X0 rfl rfl (g' := ((ob bb + 109, K0, i43, l44, R49) : mS)) (cNew (show K0 (ob bb + 108) = .inl 0 from (K0b (a := 108) (by decide)).trans (by decide +kernel)) hz) ?_
  show mX m_X1_init 3 _ 29 584 _ _ [vR (some (ob bb + 108)), vI (6), vR (some (ob bb + 17))] _
  refine x_dup 15 rfl rfl ?_
  refine x_callI 16 (cb' := 15) (sb' := 296) m_X0_init (n_choir (show isC bb (ob bb + 108) from ⟨108, by decide, rfl⟩) hz) rfl ok_X0_init rfl rfl ml_X1_17 im_X0_init rfl (by decide) rfl (Nat.le_of_ble_eq_true rfl) rfl rfl (fun v g' q50 => ?_)
  obtain ⟨rfl, i51, l52, R53, rfl, hf54, hb55, hP56⟩ := q50
  show mX m_X1_init 3 _ 15 296 _ _ [vR (some (ob bb + 108)), vI (6), vR (some (ob bb + 17))] _
  have hz := mkd_cZ hz (show ob bb + 108 ≤ ob bb + 123 by omega) hf54
  have hp16 := yR_fr hp16 (fun b => (hf54 (ob bb + 16) b (by omega)).2.2)
  have hp17 := yR_fr hp17 (fun b => (hf54 (ob bb + 17) b (by omega)).2.2)
  have hg0 := rg_fr hg0 (fun x b z => (hf54 x b z).2.2) (by omega)
  have hg0 := rg_join hg0 hb55
  have hfr : ∀ (a : Nat) (b : Int), (a < ob bb + 16 ∨ ob bb + 138 ≤ a) → R53 a b = R a b := fun a b q => ((hf54 a b (by omega)).2.2).trans (hfr a b q)
  have hfi : ∀ (a : Nat) (b : Int), (a < ob bb + 16 ∨ ob bb + 138 ≤ a) → i51 a b = i a b := fun a b q => ((hf54 a b (by omega)).1).trans (hfi a b q)
  have hfl : ∀ (a : Nat) (b : Int), (a < ob bb + 16 ∨ ob bb + 138 ≤ a) → l52 a b = l a b := fun a b q => ((hf54 a b (by omega)).2.1).trans (hfl a b q)
  have hI : ∀ (a : Nat) (b : Int), a < (ob bb + 18) → i51 a b = i a b := fun a b q => ((hf54 a b (by omega)).1).trans (hI a b q)
  have hLl : l52 = l := hP56.2.trans hLl
  obtain ⟨R57, hR57⟩ : ∃ f, f = mU R53 (ob bb + 17) (6) (some (ob bb + 108)) := ⟨_, rfl⟩
  refine x_aast 17 (t := 4) (n := 8) (ci := 0) rfl (show ob bb + 17 < ob bb + 123 by omega) (show K0 (ob bb + 17) = .inr (4, 8) from (K0b (a := 17) (by decide)).trans (by decide +kernel)) rfl rfl (show ob bb + 108 < ob bb + 123 by omega) (show K0 (ob bb + 108) = .inl 0 from (K0b (a := 108) (by decide)).trans (by decide +kernel)) (by omega) (g' := (ob bb + 123, K0, i51, l52, R57)) (by subst hR57; rfl) ?_
  have hz := hz.pR hR57 (show ob bb + 17 < ob bb + 123 by omega)
  have hp16 := yR_oth hp16 hR57 (by omega)
  have hp17 := yR_put hp17 (show R0 (ob bb + 17) ((6 : Nat) : Int) = some (ob bb + 108) from (R0b (a := 17) (by decide) _).trans (by rw [show (rL.getD 17 []).getD ((6 : Nat) : Int).toNat none = some 108 by decide +kernel]; rfl)) hR57
  have hg0 := rg_oth hg0 hR57 (by omega)
  have hfr : ∀ (a : Nat) (b : Int), (a < ob bb + 16 ∨ ob bb + 138 ≤ a) → R57 a b = R a b := fun a b q => by rw [hR57]; exact (mUne _ _ _ _ _ (by omega)).trans (hfr a b q)
  refine x_iinc 18 (L' := [some (vR (some (ob bb + 16))), some (vI 7)]) rfl (by decide) rfl rfl rfl rfl ?_
  refine x_goto 19 (tgt := 15) rfl (by decide) ?_
  refine x_iload_n 8 rfl rfl ?_
  refine x_bipush 9 rfl (by decide) ?_
  refine x_icmp_ge 10 (tgt := 40) rfl (by decide) (by decide) (fun h => absurd h (by decide)) (fun _ => ?_)
  refine x_aload_n 11 rfl rfl ?_
  refine x_getR 12 (z := (ob bb + 17)) rfl fl_X1_11 (show ob bb + 16 < ob bb + 123 by omega) (show K0 (ob bb + 16) = .inl 1 from (K0b (a := 16) (by decide)).trans (by decide +kernel)) rfl (hp16 0 _ (by decide) (show R0 (ob bb + 16) ((0 : Nat) : Int) = some (ob bb + 17) from (R0b (a := 16) (by decide) _).trans (by rw [show (rL.getD 16 []).getD ((0 : Nat) : Int).toNat none = some 17 by decide +kernel]; rfl))) ?_
  refine x_iload_n 13 rfl rfl ?_
  refine x_new 14 (ci := 0) (cb' := 14) (sb' := 288) rfl rfl cl_X1_9 ins_X0 ini_X0 rfl rfl (g' := ((ob bb + 124, K0, i51, l52, R57) : mS)) (cNew (show K0 (ob bb + 123) = .inl 0 from (K0b (a := 123) (by decide)).trans (by decide +kernel)) hz) ?_
  show mX m_X1_init 3 _ 14 288 _ _ [vR (some (ob bb + 123)), vI (7), vR (some (ob bb + 17))] _
  refine x_dup 15 rfl rfl ?_
  refine x_callI 16 (cb' := 0) (sb' := 0) m_X0_init (n_choir (show isC bb (ob bb + 123) from ⟨123, by decide, rfl⟩) hz) rfl ok_X0_init rfl rfl ml_X1_17 im_X0_init rfl (by decide) rfl (Nat.le_of_ble_eq_true rfl) rfl rfl (fun v g' q58 => ?_)
  obtain ⟨rfl, i59, l60, R61, rfl, hf62, hb63, hP64⟩ := q58
  show mX m_X1_init 3 _ 0 0 _ _ [vR (some (ob bb + 123)), vI (7), vR (some (ob bb + 17))] _
  have hz := mkd_cZ hz (show ob bb + 123 ≤ ob bb + 138 by omega) hf62
  have hp16 := yR_fr hp16 (fun b => (hf62 (ob bb + 16) b (by omega)).2.2)
  have hp17 := yR_fr hp17 (fun b => (hf62 (ob bb + 17) b (by omega)).2.2)
  have hg0 := rg_fr hg0 (fun x b z => (hf62 x b z).2.2) (by omega)
  have hg0 := rg_join hg0 hb63
  have hfr : ∀ (a : Nat) (b : Int), (a < ob bb + 16 ∨ ob bb + 138 ≤ a) → R61 a b = R a b := fun a b q => ((hf62 a b (by omega)).2.2).trans (hfr a b q)
  have hfi : ∀ (a : Nat) (b : Int), (a < ob bb + 16 ∨ ob bb + 138 ≤ a) → i59 a b = i a b := fun a b q => ((hf62 a b (by omega)).1).trans (hfi a b q)
  have hfl : ∀ (a : Nat) (b : Int), (a < ob bb + 16 ∨ ob bb + 138 ≤ a) → l60 a b = l a b := fun a b q => ((hf62 a b (by omega)).2.1).trans (hfl a b q)
  have hI : ∀ (a : Nat) (b : Int), a < (ob bb + 18) → i59 a b = i a b := fun a b q => ((hf62 a b (by omega)).1).trans (hI a b q)
  have hLl : l60 = l := hP64.2.trans hLl
  obtain ⟨R65, hR65⟩ : ∃ f, f = mU R61 (ob bb + 17) (7) (some (ob bb + 123)) := ⟨_, rfl⟩
  refine x_aast 17 (t := 4) (n := 8) (ci := 0) rfl (show ob bb + 17 < ob bb + 138 by omega) (show K0 (ob bb + 17) = .inr (4, 8) from (K0b (a := 17) (by decide)).trans (by decide +kernel)) rfl rfl (show ob bb + 123 < ob bb + 138 by omega) (show K0 (ob bb + 123) = .inl 0 from (K0b (a := 123) (by decide)).trans (by decide +kernel)) (by omega) (g' := (ob bb + 138, K0, i59, l60, R65)) (by subst hR65; rfl) ?_
  have hz := hz.pR hR65 (show ob bb + 17 < ob bb + 138 by omega)
  have hp16 := yR_oth hp16 hR65 (by omega)
  have hp17 := yR_put hp17 (show R0 (ob bb + 17) ((7 : Nat) : Int) = some (ob bb + 123) from (R0b (a := 17) (by decide) _).trans (by rw [show (rL.getD 17 []).getD ((7 : Nat) : Int).toNat none = some 123 by decide +kernel]; rfl)) hR65
  have hg0 := rg_oth hg0 hR65 (by omega)
  have hfr : ∀ (a : Nat) (b : Int), (a < ob bb + 16 ∨ ob bb + 138 ≤ a) → R65 a b = R a b := fun a b q => by rw [hR65]; exact (mUne _ _ _ _ _ (by omega)).trans (hfr a b q)
  refine x_iinc 18 (L' := [some (vR (some (ob bb + 16))), some (vI 8)]) rfl (by decide) rfl rfl rfl rfl ?_
  refine x_goto 19 (tgt := 15) rfl (by decide) ?_
  refine x_iload_n 8 rfl rfl ?_
  refine x_bipush 9 rfl (by decide) ?_
  refine x_icmp_ge 10 (tgt := 40) rfl (by decide) (by decide) (fun _ => ?_) (fun h => absurd h (by decide))
  refine x_ret 20 none rfl ⟨rfl, rfl⟩ ⟨rfl, i59, l60, R65, rfl, fun a b q => ⟨hfi a b q, hfl a b q, hfr a b q⟩, ?_, ?_⟩
  · exact rg_zR (zR_of hp16 (rlle (a := 16) (by decide) (by decide +kernel))) (rg_zR (zR_of hp17 (rlle (a := 17) (by decide) (by decide +kernel))) hg0)
  · exact ⟨hI, hLl⟩
set_option maxRecDepth 20000 in
set_option maxHeartbeats 4000000 in
theorem n_text {i : fI} {l : fL} {R : fR}  (hz : cZ (ob bb + 170) i l R) : mCtr m_X7_init 1 1 60 [vR (some (ob bb + 170))] ((ob bb + 171, K0, i, l, R) : mS) (mkd (ob bb + 170) (ob bb + 172) i l R (fun i' l' => i' = i ∧ l' = l)) := by
  refine mCtr_of pl_X7 dc_X7_init (Nat.le_of_ble_eq_true rfl) rfl ?_
  show mX m_X7_init 1 _ 1 60 0 [some (vR (some (ob bb + 170)))] [] ((ob bb + 171, K0, i, l, R) : mS)
  have hp170 := yR_0 (ob bb + 170) R
  have hg0 := rg_0 (ob bb + 171) R
  have hz := hz.up (show ob bb + 170 ≤ ob bb + 171 by omega)
  have hfr : ∀ (a : Nat) (b : Int), (a < ob bb + 170 ∨ ob bb + 172 ≤ a) → R a b = R a b := fun _ _ _ => rfl
  have hfi : ∀ (a : Nat) (b : Int), (a < ob bb + 170 ∨ ob bb + 172 ≤ a) → i a b = i a b := fun _ _ _ => rfl
  have hfl : ∀ (a : Nat) (b : Int), (a < ob bb + 170 ∨ ob bb + 172 ≤ a) → l a b = l a b := fun _ _ _ => rfl
  refine x_aload_n 0 rfl rfl ?_
  refine x_objInit 1 rfl ml_X7_3 (by decide) (Nat.le_of_ble_eq_true rfl) ?_
  refine x_aload_n 2 rfl rfl ?_
  refine x_bipush 3 rfl (by decide) ?_
  refine x_newa 4 (t := 0) (n := 60) (cb' := 0) (sb' := 0) rfl rfl (by decide) ac_int rfl (by decide) rfl rfl (g' := ((ob bb + 172, K0, i, l, R) : mS)) (cNew (show K0 (ob bb + 171) = .inr (0, 60) from (K0b (a := 171) (by decide)).trans (by decide +kernel)) hz) ?_
  show mX m_X7_init 1 _ 0 0 _ _ [vR (some (ob bb + 171)), vR (some (ob bb + 170))] _
  have hz := hz.up (show ob bb + 171 ≤ ob bb + 172 by omega)
  have hg0 := rg_one hg0 ((rlb (a := 171) (by decide)).trans (by decide +kernel))
  obtain ⟨R1, hR1⟩ : ∃ f, f = mU R (ob bb + 170) (0) (some (ob bb + 171)) := ⟨_, rfl⟩
  refine x_putF 5 rfl fl_X7_9 (show ob bb + 170 < ob bb + 172 by omega) (show K0 (ob bb + 170) = .inl 7 from (K0b (a := 170) (by decide)).trans (by decide +kernel)) rfl (fun _ => ⟨rfl, rfl⟩) rfl (g' := (ob bb + 172, K0, i, l, R1)) (by subst hR1; rfl) ?_
  have hz := hz.pR hR1 (show ob bb + 170 < ob bb + 172 by omega)
  have hp170 := yR_put hp170 (show R0 (ob bb + 170) ((0 : Nat) : Int) = some (ob bb + 171) from (R0b (a := 170) (by decide) _).trans (by rw [show (rL.getD 170 []).getD ((0 : Nat) : Int).toNat none = some 171 by decide +kernel]; rfl)) hR1
  have hg0 := rg_oth hg0 hR1 (by omega)
  have hfr : ∀ (a : Nat) (b : Int), (a < ob bb + 170 ∨ ob bb + 172 ≤ a) → R1 a b = R a b := fun a b q => by rw [hR1]; exact (mUne _ _ _ _ _ (by omega)).trans (hfr a b q)
  refine x_ret 6 none rfl ⟨rfl, rfl⟩ ⟨rfl, i, l, R1, rfl, fun a b q => ⟨hfi a b q, hfl a b q, hfr a b q⟩, ?_, ?_⟩
  · exact rg_zR (zR_of hp170 (rlle (a := 170) (by decide) (by decide +kernel))) hg0
  · exact ⟨rfl, rfl⟩
set_option maxRecDepth 20000 in
set_option maxHeartbeats 4000000 in
theorem n_reader {i : fI} {l : fL} {R : fR}  (hz : cZ (ob bb + 172) i l R) : mCtr m_X3_init 1 0 0 [vR (some (ob bb + 172))] ((ob bb + 173, K0, i, l, R) : mS) (mkd (ob bb + 172) (ob bb + 173) i l R (fun i' l' => (∀ a b, i' a b = if a = (ob bb + 172) ∧ (b = 2 ∨ b = 3) then -9 else i a b) ∧ l' = l)) := by
  refine mCtr_of pl_X3 dc_X3_init (Nat.le_of_ble_eq_true rfl) rfl ?_
  show mX m_X3_init 1 _ 0 0 0 [some (vR (some (ob bb + 172)))] [] ((ob bb + 173, K0, i, l, R) : mS)
  have hp172 := yR_0 (ob bb + 172) R
  have hg0 := rg_0 (ob bb + 173) R
  have hz := hz.up (show ob bb + 172 ≤ ob bb + 173 by omega)
  have hfr : ∀ (a : Nat) (b : Int), (a < ob bb + 172 ∨ ob bb + 173 ≤ a) → R a b = R a b := fun _ _ _ => rfl
  have hfi : ∀ (a : Nat) (b : Int), (a < ob bb + 172 ∨ ob bb + 173 ≤ a) → i a b = i a b := fun _ _ _ => rfl
  have hfl : ∀ (a : Nat) (b : Int), (a < ob bb + 172 ∨ ob bb + 173 ≤ a) → l a b = l a b := fun _ _ _ => rfl
  refine x_aload_n 0 rfl rfl ?_
  refine x_objInit 1 rfl ml_X3_3 (by decide) (Nat.le_of_ble_eq_true rfl) ?_
  refine x_aload_n 2 rfl rfl ?_
  refine x_bipush 3 rfl (by decide) ?_
  obtain ⟨i1, hi1⟩ : ∃ f, f = mU i (ob bb + 172) 2 (-9) := ⟨_, rfl⟩
  refine x_putI 4 rfl fl_X3_9 (show ob bb + 172 < ob bb + 173 by omega) (show K0 (ob bb + 172) = .inl 3 from (K0b (a := 172) (by decide)).trans (by decide +kernel)) rfl rfl (g' := (ob bb + 173, K0, i1, l, R)) (by subst hi1; rfl) ?_
  have hz := hz.pI hi1 (show ob bb + 172 < ob bb + 173 by omega)
  have hfi : ∀ (a : Nat) (b : Int), (a < ob bb + 172 ∨ ob bb + 173 ≤ a) → i1 a b = i a b := fun a b q => by rw [hi1]; exact (mUne _ _ _ _ _ (by omega)).trans (hfi a b q)
  refine x_aload_n 5 rfl rfl ?_
  refine x_bipush 6 rfl (by decide) ?_
  obtain ⟨i2, hi2⟩ : ∃ f, f = mU i1 (ob bb + 172) 3 (-9) := ⟨_, rfl⟩
  refine x_putI 7 rfl fl_X3_15 (show ob bb + 172 < ob bb + 173 by omega) (show K0 (ob bb + 172) = .inl 3 from (K0b (a := 172) (by decide)).trans (by decide +kernel)) rfl rfl (g' := (ob bb + 173, K0, i2, l, R)) (by subst hi2; rfl) ?_
  have hz := hz.pI hi2 (show ob bb + 172 < ob bb + 173 by omega)
  have hfi : ∀ (a : Nat) (b : Int), (a < ob bb + 172 ∨ ob bb + 173 ≤ a) → i2 a b = i a b := fun a b q => by rw [hi2]; exact (mUne _ _ _ _ _ (by omega)).trans (hfi a b q)
  refine x_ret 8 none rfl ⟨rfl, rfl⟩ ⟨rfl, i2, l, R, rfl, fun a b q => ⟨hfi a b q, hfl a b q, hfr a b q⟩, ?_, ?_⟩
  · exact rg_zR (zR_of hp172 (rlle (a := 172) (by decide) (by decide +kernel))) hg0
  · refine ⟨fun a b => ?_, rfl⟩
    rw [hi2, hi1]
    simp only [mU]
    by_cases h : a = (ob bb + 172) ∧ (b = 2 ∨ b = 3)
    · rw [if_pos h]; by_cases h2 : a = (ob bb + 172) ∧ b = 3
      · rw [if_pos h2]
      · rw [if_neg h2, if_pos (by omega)]
    · rw [if_neg h, if_neg (by omega), if_neg (by omega)]
set_option maxRecDepth 20000 in
set_option maxHeartbeats 4000000 in
theorem n_reh {i : fI} {l : fL} {R : fR}  (hz : cZ (ob bb + 173) i l R) : mCtr m_X4_init 1 3 18 [vR (some (ob bb + 173))] ((ob bb + 174, K0, i, l, R) : mS) (mkd (ob bb + 173) (ob bb + 177) i l R (fun i' l' => i' = i ∧ l' = l)) := by
  refine mCtr_of pl_X4 dc_X4_init (Nat.le_of_ble_eq_true rfl) rfl ?_
  show mX m_X4_init 1 _ 3 18 0 [some (vR (some (ob bb + 173)))] [] ((ob bb + 174, K0, i, l, R) : mS)
  have hp173 := yR_0 (ob bb + 173) R
  have hg0 := rg_0 (ob bb + 174) R
  have hz := hz.up (show ob bb + 173 ≤ ob bb + 174 by omega)
  have hfr : ∀ (a : Nat) (b : Int), (a < ob bb + 173 ∨ ob bb + 177 ≤ a) → R a b = R a b := fun _ _ _ => rfl
  have hfi : ∀ (a : Nat) (b : Int), (a < ob bb + 173 ∨ ob bb + 177 ≤ a) → i a b = i a b := fun _ _ _ => rfl
  have hfl : ∀ (a : Nat) (b : Int), (a < ob bb + 173 ∨ ob bb + 177 ≤ a) → l a b = l a b := fun _ _ _ => rfl
  refine x_aload_n 0 rfl rfl ?_
  refine x_objInit 1 rfl ml_X4_3 (by decide) (Nat.le_of_ble_eq_true rfl) ?_
  refine x_aload_n 2 rfl rfl ?_
  refine x_bipush 3 rfl (by decide) ?_
  refine x_newa 4 (t := 0) (n := 10) (cb' := 2) (sb' := 8) rfl rfl (by decide) ac_int rfl (by decide) rfl rfl (g' := ((ob bb + 175, K0, i, l, R) : mS)) (cNew (show K0 (ob bb + 174) = .inr (0, 10) from (K0b (a := 174) (by decide)).trans (by decide +kernel)) hz) ?_
  show mX m_X4_init 1 _ 2 8 _ _ [vR (some (ob bb + 174)), vR (some (ob bb + 173))] _
  have hz := hz.up (show ob bb + 174 ≤ ob bb + 175 by omega)
  have hg0 := rg_one hg0 ((rlb (a := 174) (by decide)).trans (by decide +kernel))
  obtain ⟨R1, hR1⟩ : ∃ f, f = mU R (ob bb + 173) (0) (some (ob bb + 174)) := ⟨_, rfl⟩
  refine x_putF 5 rfl fl_X4_9 (show ob bb + 173 < ob bb + 175 by omega) (show K0 (ob bb + 173) = .inl 4 from (K0b (a := 173) (by decide)).trans (by decide +kernel)) rfl (fun _ => ⟨rfl, rfl⟩) rfl (g' := (ob bb + 175, K0, i, l, R1)) (by subst hR1; rfl) ?_
  have hz := hz.pR hR1 (show ob bb + 173 < ob bb + 175 by omega)
  have hp173 := yR_put hp173 (show R0 (ob bb + 173) ((0 : Nat) : Int) = some (ob bb + 174) from (R0b (a := 173) (by decide) _).trans (by rw [show (rL.getD 173 []).getD ((0 : Nat) : Int).toNat none = some 174 by decide +kernel]; rfl)) hR1
  have hg0 := rg_oth hg0 hR1 (by omega)
  have hfr : ∀ (a : Nat) (b : Int), (a < ob bb + 173 ∨ ob bb + 177 ≤ a) → R1 a b = R a b := fun a b q => by rw [hR1]; exact (mUne _ _ _ _ _ (by omega)).trans (hfr a b q)
  refine x_aload_n 6 rfl rfl ?_
  refine x_iconst 7 rfl ?_
  refine x_newa 8 (t := 0) (n := 4) (cb' := 1) (sb' := 4) rfl rfl (by decide) ac_int rfl (by decide) rfl rfl (g' := ((ob bb + 176, K0, i, l, R1) : mS)) (cNew (show K0 (ob bb + 175) = .inr (0, 4) from (K0b (a := 175) (by decide)).trans (by decide +kernel)) hz) ?_
  show mX m_X4_init 1 _ 1 4 _ _ [vR (some (ob bb + 175)), vR (some (ob bb + 173))] _
  have hz := hz.up (show ob bb + 175 ≤ ob bb + 176 by omega)
  have hg0 := rg_one hg0 ((rlb (a := 175) (by decide)).trans (by decide +kernel))
  obtain ⟨R2, hR2⟩ : ∃ f, f = mU R1 (ob bb + 173) (1) (some (ob bb + 175)) := ⟨_, rfl⟩
  refine x_putF 9 rfl fl_X4_15 (show ob bb + 173 < ob bb + 176 by omega) (show K0 (ob bb + 173) = .inl 4 from (K0b (a := 173) (by decide)).trans (by decide +kernel)) rfl (fun _ => ⟨rfl, rfl⟩) rfl (g' := (ob bb + 176, K0, i, l, R2)) (by subst hR2; rfl) ?_
  have hz := hz.pR hR2 (show ob bb + 173 < ob bb + 176 by omega)
  have hp173 := yR_put hp173 (show R0 (ob bb + 173) ((1 : Nat) : Int) = some (ob bb + 175) from (R0b (a := 173) (by decide) _).trans (by rw [show (rL.getD 173 []).getD ((1 : Nat) : Int).toNat none = some 175 by decide +kernel]; rfl)) hR2
  have hg0 := rg_oth hg0 hR2 (by omega)
  have hfr : ∀ (a : Nat) (b : Int), (a < ob bb + 173 ∨ ob bb + 177 ≤ a) → R2 a b = R a b := fun a b q => by rw [hR2]; exact (mUne _ _ _ _ _ (by omega)).trans (hfr a b q)
  refine x_aload_n 10 rfl rfl ?_
  refine x_iconst 11 rfl ?_
  refine x_newa 12 (t := 0) (n := 4) (cb' := 0) (sb' := 0) rfl rfl (by decide) ac_int rfl (by decide) rfl rfl (g' := ((ob bb + 177, K0, i, l, R2) : mS)) (cNew (show K0 (ob bb + 176) = .inr (0, 4) from (K0b (a := 176) (by decide)).trans (by decide +kernel)) hz) ?_
  show mX m_X4_init 1 _ 0 0 _ _ [vR (some (ob bb + 176)), vR (some (ob bb + 173))] _
  have hz := hz.up (show ob bb + 176 ≤ ob bb + 177 by omega)
  have hg0 := rg_one hg0 ((rlb (a := 176) (by decide)).trans (by decide +kernel))
  obtain ⟨R3, hR3⟩ : ∃ f, f = mU R2 (ob bb + 173) (2) (some (ob bb + 176)) := ⟨_, rfl⟩
  refine x_putF 13 rfl fl_X4_18 (show ob bb + 173 < ob bb + 177 by omega) (show K0 (ob bb + 173) = .inl 4 from (K0b (a := 173) (by decide)).trans (by decide +kernel)) rfl (fun _ => ⟨rfl, rfl⟩) rfl (g' := (ob bb + 177, K0, i, l, R3)) (by subst hR3; rfl) ?_
  have hz := hz.pR hR3 (show ob bb + 173 < ob bb + 177 by omega)
  have hp173 := yR_put hp173 (show R0 (ob bb + 173) ((2 : Nat) : Int) = some (ob bb + 176) from (R0b (a := 173) (by decide) _).trans (by rw [show (rL.getD 173 []).getD ((2 : Nat) : Int).toNat none = some 176 by decide +kernel]; rfl)) hR3
  have hg0 := rg_oth hg0 hR3 (by omega)
  have hfr : ∀ (a : Nat) (b : Int), (a < ob bb + 173 ∨ ob bb + 177 ≤ a) → R3 a b = R a b := fun a b q => by rw [hR3]; exact (mUne _ _ _ _ _ (by omega)).trans (hfr a b q)
  refine x_ret 14 none rfl ⟨rfl, rfl⟩ ⟨rfl, i, l, R3, rfl, fun a b q => ⟨hfi a b q, hfl a b q, hfr a b q⟩, ?_, ?_⟩
  · exact rg_zR (zR_of hp173 (rlle (a := 173) (by decide) (by decide +kernel))) hg0
  · exact ⟨rfl, rfl⟩
set_option maxRecDepth 20000 in
set_option maxHeartbeats 4000000 in
theorem n_pl {i : fI} {l : fL} {R : fR}  (hz : cZ (ob bb + 177) i l R) : mCtr m_X2_init 2 11 5158 [vR (some (ob bb + 177))] ((ob bb + 178, K0, i, l, R) : mS) (mkd (ob bb + 177) (ob bb + 189) i l R (fun i' l' => i' = i ∧ ∀ a b, l' a b = if (a = (ob bb + 179) ∨ a = (ob bb + 182)) ∧ b = 0 then 1#64 else l a b)) := by
  refine mCtr_of pl_X2 dc_X2_init (Nat.le_of_ble_eq_true rfl) rfl ?_
  show mX m_X2_init 2 _ 11 5158 0 [some (vR (some (ob bb + 177)))] [] ((ob bb + 178, K0, i, l, R) : mS)
  have hp177 := yR_0 (ob bb + 177) R
  have hg0 := rg_0 (ob bb + 178) R
  have hz := hz.up (show ob bb + 177 ≤ ob bb + 178 by omega)
  have hfr : ∀ (a : Nat) (b : Int), (a < ob bb + 177 ∨ ob bb + 189 ≤ a) → R a b = R a b := fun _ _ _ => rfl
  have hfi : ∀ (a : Nat) (b : Int), (a < ob bb + 177 ∨ ob bb + 189 ≤ a) → i a b = i a b := fun _ _ _ => rfl
  have hfl : ∀ (a : Nat) (b : Int), (a < ob bb + 177 ∨ ob bb + 189 ≤ a) → l a b = l a b := fun _ _ _ => rfl
  refine x_aload_n 0 rfl rfl ?_
  refine x_objInit 1 rfl ml_X2_3 (by decide) (Nat.le_of_ble_eq_true rfl) ?_
  refine x_aload_n 2 rfl rfl ?_
  refine x_new 3 (ci := 6) (cb' := 10) (sb' := 5156) rfl rfl cl_X2_9 ins_X6 ini_X6 rfl rfl (g' := ((ob bb + 179, K0, i, l, R) : mS)) (cNew (show K0 (ob bb + 178) = .inl 6 from (K0b (a := 178) (by decide)).trans (by decide +kernel)) hz) ?_
  show mX m_X2_init 2 _ 10 5156 _ _ [vR (some (ob bb + 178)), vR (some (ob bb + 177))] _
  refine x_dup 4 rfl rfl ?_
  refine x_callI 5 (cb' := 8) (sb' := 3108) m_X6_init (n_split (show isP bb (ob bb + 178) by first | exact isP_178 | exact isP_181) hz) rfl ok_X6_init rfl rfl ml_X2_11 im_X6_init rfl (by decide) rfl (Nat.le_of_ble_eq_true rfl) rfl rfl (fun v g' q1 => ?_)
  obtain ⟨rfl, i2, l3, R4, rfl, hf5, hb6, hP7⟩ := q1
  show mX m_X2_init 2 _ 8 3108 _ _ [vR (some (ob bb + 178)), vR (some (ob bb + 177))] _
  have hz := mkd_cZ hz (show ob bb + 178 ≤ ob bb + 181 by omega) hf5
  have hp177 := yR_fr hp177 (fun b => (hf5 (ob bb + 177) b (by omega)).2.2)
  have hg0 := rg_fr hg0 (fun x b z => (hf5 x b z).2.2) (by omega)
  have hg0 := rg_join hg0 hb6
  have hfr : ∀ (a : Nat) (b : Int), (a < ob bb + 177 ∨ ob bb + 189 ≤ a) → R4 a b = R a b := fun a b q => ((hf5 a b (by omega)).2.2).trans (hfr a b q)
  have hfi : ∀ (a : Nat) (b : Int), (a < ob bb + 177 ∨ ob bb + 189 ≤ a) → i2 a b = i a b := fun a b q => ((hf5 a b (by omega)).1).trans (hfi a b q)
  have hfl : ∀ (a : Nat) (b : Int), (a < ob bb + 177 ∨ ob bb + 189 ≤ a) → l3 a b = l a b := fun a b q => ((hf5 a b (by omega)).2.1).trans (hfl a b q)
  have hIi : i2 = i := hP7.1
  have hL1 := hP7.2
  obtain ⟨R8, hR8⟩ : ∃ f, f = mU R4 (ob bb + 177) (0) (some (ob bb + 178)) := ⟨_, rfl⟩
  refine x_putF 6 rfl fl_X2_12 (show ob bb + 177 < ob bb + 181 by omega) (show K0 (ob bb + 177) = .inl 2 from (K0b (a := 177) (by decide)).trans (by decide +kernel)) rfl (fun _ => ⟨rfl, rfl⟩) rfl (g' := (ob bb + 181, K0, i2, l3, R8)) (by subst hR8; rfl) ?_
  have hz := hz.pR hR8 (show ob bb + 177 < ob bb + 181 by omega)
  have hp177 := yR_put hp177 (show R0 (ob bb + 177) ((0 : Nat) : Int) = some (ob bb + 178) from (R0b (a := 177) (by decide) _).trans (by rw [show (rL.getD 177 []).getD ((0 : Nat) : Int).toNat none = some 178 by decide +kernel]; rfl)) hR8
  have hg0 := rg_oth hg0 hR8 (by omega)
  have hfr : ∀ (a : Nat) (b : Int), (a < ob bb + 177 ∨ ob bb + 189 ≤ a) → R8 a b = R a b := fun a b q => by rw [hR8]; exact (mUne _ _ _ _ _ (by omega)).trans (hfr a b q)
  refine x_aload_n 7 rfl rfl ?_
  refine x_new 8 (ci := 6) (cb' := 7) (sb' := 3106) rfl rfl cl_X2_9 ins_X6 ini_X6 rfl rfl (g' := ((ob bb + 182, K0, i2, l3, R8) : mS)) (cNew (show K0 (ob bb + 181) = .inl 6 from (K0b (a := 181) (by decide)).trans (by decide +kernel)) hz) ?_
  show mX m_X2_init 2 _ 7 3106 _ _ [vR (some (ob bb + 181)), vR (some (ob bb + 177))] _
  refine x_dup 9 rfl rfl ?_
  refine x_callI 10 (cb' := 5) (sb' := 1058) m_X6_init (n_split (show isP bb (ob bb + 181) by first | exact isP_178 | exact isP_181) hz) rfl ok_X6_init rfl rfl ml_X2_11 im_X6_init rfl (by decide) rfl (Nat.le_of_ble_eq_true rfl) rfl rfl (fun v g' q9 => ?_)
  obtain ⟨rfl, i10, l11, R12, rfl, hf13, hb14, hP15⟩ := q9
  show mX m_X2_init 2 _ 5 1058 _ _ [vR (some (ob bb + 181)), vR (some (ob bb + 177))] _
  have hz := mkd_cZ hz (show ob bb + 181 ≤ ob bb + 184 by omega) hf13
  have hp177 := yR_fr hp177 (fun b => (hf13 (ob bb + 177) b (by omega)).2.2)
  have hg0 := rg_fr hg0 (fun x b z => (hf13 x b z).2.2) (by omega)
  have hg0 := rg_join hg0 hb14
  have hfr : ∀ (a : Nat) (b : Int), (a < ob bb + 177 ∨ ob bb + 189 ≤ a) → R12 a b = R a b := fun a b q => ((hf13 a b (by omega)).2.2).trans (hfr a b q)
  have hfi : ∀ (a : Nat) (b : Int), (a < ob bb + 177 ∨ ob bb + 189 ≤ a) → i10 a b = i a b := fun a b q => ((hf13 a b (by omega)).1).trans (hfi a b q)
  have hfl : ∀ (a : Nat) (b : Int), (a < ob bb + 177 ∨ ob bb + 189 ≤ a) → l11 a b = l a b := fun a b q => ((hf13 a b (by omega)).2.1).trans (hfl a b q)
  have hIi : i10 = i := hP15.1.trans hIi
  have hLl : ∀ a b, l11 a b = if (a = (ob bb + 179) ∨ a = (ob bb + 182)) ∧ b = 0 then 1#64 else l a b := by intro a b; rw [hP15.2, hL1]; by_cases h : (a = (ob bb + 179) ∨ a = (ob bb + 182)) ∧ b = 0; (rw [if_pos h]; by_cases h2 : a = (ob bb + 182) ∧ b = 0; (rw [if_pos (by omega)]); (rw [if_neg (by omega), if_pos (by omega)])); (rw [if_neg h, if_neg (by omega), if_neg (by omega)])
  obtain ⟨R16, hR16⟩ : ∃ f, f = mU R12 (ob bb + 177) (1) (some (ob bb + 181)) := ⟨_, rfl⟩
  refine x_putF 11 rfl fl_X2_18 (show ob bb + 177 < ob bb + 184 by omega) (show K0 (ob bb + 177) = .inl 2 from (K0b (a := 177) (by decide)).trans (by decide +kernel)) rfl (fun _ => ⟨rfl, rfl⟩) rfl (g' := (ob bb + 184, K0, i10, l11, R16)) (by subst hR16; rfl) ?_
  have hz := hz.pR hR16 (show ob bb + 177 < ob bb + 184 by omega)
  have hp177 := yR_put hp177 (show R0 (ob bb + 177) ((1 : Nat) : Int) = some (ob bb + 181) from (R0b (a := 177) (by decide) _).trans (by rw [show (rL.getD 177 []).getD ((1 : Nat) : Int).toNat none = some 181 by decide +kernel]; rfl)) hR16
  have hg0 := rg_oth hg0 hR16 (by omega)
  have hfr : ∀ (a : Nat) (b : Int), (a < ob bb + 177 ∨ ob bb + 189 ≤ a) → R16 a b = R a b := fun a b q => by rw [hR16]; exact (mUne _ _ _ _ _ (by omega)).trans (hfr a b q)
  refine x_aload_n 12 rfl rfl ?_
  refine x_sipush 13 rfl (by decide) ?_
  refine x_newa 14 (t := 0) (n := 1024) (cb' := 4) (sb' := 34) rfl rfl (by decide) ac_int rfl (by decide) rfl rfl (g' := ((ob bb + 185, K0, i10, l11, R16) : mS)) (cNew (show K0 (ob bb + 184) = .inr (0, 1024) from (K0b (a := 184) (by decide)).trans (by decide +kernel)) hz) ?_
  show mX m_X2_init 2 _ 4 34 _ _ [vR (some (ob bb + 184)), vR (some (ob bb + 177))] _
  have hz := hz.up (show ob bb + 184 ≤ ob bb + 185 by omega)
  have hg0 := rg_one hg0 ((rlb (a := 184) (by decide)).trans (by decide +kernel))
  obtain ⟨R17, hR17⟩ : ∃ f, f = mU R16 (ob bb + 177) (2) (some (ob bb + 184)) := ⟨_, rfl⟩
  refine x_putF 15 rfl fl_X2_21 (show ob bb + 177 < ob bb + 185 by omega) (show K0 (ob bb + 177) = .inl 2 from (K0b (a := 177) (by decide)).trans (by decide +kernel)) rfl (fun _ => ⟨rfl, rfl⟩) rfl (g' := (ob bb + 185, K0, i10, l11, R17)) (by subst hR17; rfl) ?_
  have hz := hz.pR hR17 (show ob bb + 177 < ob bb + 185 by omega)
  have hp177 := yR_put hp177 (show R0 (ob bb + 177) ((2 : Nat) : Int) = some (ob bb + 184) from (R0b (a := 177) (by decide) _).trans (by rw [show (rL.getD 177 []).getD ((2 : Nat) : Int).toNat none = some 184 by decide +kernel]; rfl)) hR17
  have hg0 := rg_oth hg0 hR17 (by omega)
  have hfr : ∀ (a : Nat) (b : Int), (a < ob bb + 177 ∨ ob bb + 189 ≤ a) → R17 a b = R a b := fun a b q => by rw [hR17]; exact (mUne _ _ _ _ _ (by omega)).trans (hfr a b q)
  refine x_aload_n 16 rfl rfl ?_
  refine x_iconst 17 rfl ?_
  refine x_newa 18 (t := 0) (n := 4) (cb' := 3) (sb' := 30) rfl rfl (by decide) ac_int rfl (by decide) rfl rfl (g' := ((ob bb + 186, K0, i10, l11, R17) : mS)) (cNew (show K0 (ob bb + 185) = .inr (0, 4) from (K0b (a := 185) (by decide)).trans (by decide +kernel)) hz) ?_
  show mX m_X2_init 2 _ 3 30 _ _ [vR (some (ob bb + 185)), vR (some (ob bb + 177))] _
  have hz := hz.up (show ob bb + 185 ≤ ob bb + 186 by omega)
  have hg0 := rg_one hg0 ((rlb (a := 185) (by decide)).trans (by decide +kernel))
  obtain ⟨R18, hR18⟩ : ∃ f, f = mU R17 (ob bb + 177) (3) (some (ob bb + 185)) := ⟨_, rfl⟩
  refine x_putF 19 rfl fl_X2_25 (show ob bb + 177 < ob bb + 186 by omega) (show K0 (ob bb + 177) = .inl 2 from (K0b (a := 177) (by decide)).trans (by decide +kernel)) rfl (fun _ => ⟨rfl, rfl⟩) rfl (g' := (ob bb + 186, K0, i10, l11, R18)) (by subst hR18; rfl) ?_
  have hz := hz.pR hR18 (show ob bb + 177 < ob bb + 186 by omega)
  have hp177 := yR_put hp177 (show R0 (ob bb + 177) ((3 : Nat) : Int) = some (ob bb + 185) from (R0b (a := 177) (by decide) _).trans (by rw [show (rL.getD 177 []).getD ((3 : Nat) : Int).toNat none = some 185 by decide +kernel]; rfl)) hR18
  have hg0 := rg_oth hg0 hR18 (by omega)
  have hfr : ∀ (a : Nat) (b : Int), (a < ob bb + 177 ∨ ob bb + 189 ≤ a) → R18 a b = R a b := fun a b q => by rw [hR18]; exact (mUne _ _ _ _ _ (by omega)).trans (hfr a b q)
  refine x_aload_n 20 rfl rfl ?_
  refine x_bipush 21 rfl (by decide) ?_
  refine x_newa 22 (t := 0) (n := 10) (cb' := 2) (sb' := 20) rfl rfl (by decide) ac_int rfl (by decide) rfl rfl (g' := ((ob bb + 187, K0, i10, l11, R18) : mS)) (cNew (show K0 (ob bb + 186) = .inr (0, 10) from (K0b (a := 186) (by decide)).trans (by decide +kernel)) hz) ?_
  show mX m_X2_init 2 _ 2 20 _ _ [vR (some (ob bb + 186)), vR (some (ob bb + 177))] _
  have hz := hz.up (show ob bb + 186 ≤ ob bb + 187 by omega)
  have hg0 := rg_one hg0 ((rlb (a := 186) (by decide)).trans (by decide +kernel))
  obtain ⟨R19, hR19⟩ : ∃ f, f = mU R18 (ob bb + 177) (4) (some (ob bb + 186)) := ⟨_, rfl⟩
  refine x_putF 23 rfl fl_X2_28 (show ob bb + 177 < ob bb + 187 by omega) (show K0 (ob bb + 177) = .inl 2 from (K0b (a := 177) (by decide)).trans (by decide +kernel)) rfl (fun _ => ⟨rfl, rfl⟩) rfl (g' := (ob bb + 187, K0, i10, l11, R19)) (by subst hR19; rfl) ?_
  have hz := hz.pR hR19 (show ob bb + 177 < ob bb + 187 by omega)
  have hp177 := yR_put hp177 (show R0 (ob bb + 177) ((4 : Nat) : Int) = some (ob bb + 186) from (R0b (a := 177) (by decide) _).trans (by rw [show (rL.getD 177 []).getD ((4 : Nat) : Int).toNat none = some 186 by decide +kernel]; rfl)) hR19
  have hg0 := rg_oth hg0 hR19 (by omega)
  have hfr : ∀ (a : Nat) (b : Int), (a < ob bb + 177 ∨ ob bb + 189 ≤ a) → R19 a b = R a b := fun a b q => by rw [hR19]; exact (mUne _ _ _ _ _ (by omega)).trans (hfr a b q)
  refine x_aload_n 24 rfl rfl ?_
  refine x_bipush 25 rfl (by decide) ?_
  refine x_newa 26 (t := 0) (n := 10) (cb' := 1) (sb' := 10) rfl rfl (by decide) ac_int rfl (by decide) rfl rfl (g' := ((ob bb + 188, K0, i10, l11, R19) : mS)) (cNew (show K0 (ob bb + 187) = .inr (0, 10) from (K0b (a := 187) (by decide)).trans (by decide +kernel)) hz) ?_
  show mX m_X2_init 2 _ 1 10 _ _ [vR (some (ob bb + 187)), vR (some (ob bb + 177))] _
  have hz := hz.up (show ob bb + 187 ≤ ob bb + 188 by omega)
  have hg0 := rg_one hg0 ((rlb (a := 187) (by decide)).trans (by decide +kernel))
  obtain ⟨R20, hR20⟩ : ∃ f, f = mU R19 (ob bb + 177) (5) (some (ob bb + 187)) := ⟨_, rfl⟩
  refine x_putF 27 rfl fl_X2_31 (show ob bb + 177 < ob bb + 188 by omega) (show K0 (ob bb + 177) = .inl 2 from (K0b (a := 177) (by decide)).trans (by decide +kernel)) rfl (fun _ => ⟨rfl, rfl⟩) rfl (g' := (ob bb + 188, K0, i10, l11, R20)) (by subst hR20; rfl) ?_
  have hz := hz.pR hR20 (show ob bb + 177 < ob bb + 188 by omega)
  have hp177 := yR_put hp177 (show R0 (ob bb + 177) ((5 : Nat) : Int) = some (ob bb + 187) from (R0b (a := 177) (by decide) _).trans (by rw [show (rL.getD 177 []).getD ((5 : Nat) : Int).toNat none = some 187 by decide +kernel]; rfl)) hR20
  have hg0 := rg_oth hg0 hR20 (by omega)
  have hfr : ∀ (a : Nat) (b : Int), (a < ob bb + 177 ∨ ob bb + 189 ≤ a) → R20 a b = R a b := fun a b q => by rw [hR20]; exact (mUne _ _ _ _ _ (by omega)).trans (hfr a b q)
  refine x_aload_n 28 rfl rfl ?_
  refine x_bipush 29 rfl (by decide) ?_
  refine x_newa 30 (t := 0) (n := 10) (cb' := 0) (sb' := 0) rfl rfl (by decide) ac_int rfl (by decide) rfl rfl (g' := ((ob bb + 189, K0, i10, l11, R20) : mS)) (cNew (show K0 (ob bb + 188) = .inr (0, 10) from (K0b (a := 188) (by decide)).trans (by decide +kernel)) hz) ?_
  show mX m_X2_init 2 _ 0 0 _ _ [vR (some (ob bb + 188)), vR (some (ob bb + 177))] _
  have hz := hz.up (show ob bb + 188 ≤ ob bb + 189 by omega)
  have hg0 := rg_one hg0 ((rlb (a := 188) (by decide)).trans (by decide +kernel))
  obtain ⟨R21, hR21⟩ : ∃ f, f = mU R20 (ob bb + 177) (6) (some (ob bb + 188)) := ⟨_, rfl⟩
  refine x_putF 31 rfl fl_X2_34 (show ob bb + 177 < ob bb + 189 by omega) (show K0 (ob bb + 177) = .inl 2 from (K0b (a := 177) (by decide)).trans (by decide +kernel)) rfl (fun _ => ⟨rfl, rfl⟩) rfl (g' := (ob bb + 189, K0, i10, l11, R21)) (by subst hR21; rfl) ?_
  have hz := hz.pR hR21 (show ob bb + 177 < ob bb + 189 by omega)
  have hp177 := yR_put hp177 (show R0 (ob bb + 177) ((6 : Nat) : Int) = some (ob bb + 188) from (R0b (a := 177) (by decide) _).trans (by rw [show (rL.getD 177 []).getD ((6 : Nat) : Int).toNat none = some 188 by decide +kernel]; rfl)) hR21
  have hg0 := rg_oth hg0 hR21 (by omega)
  have hfr : ∀ (a : Nat) (b : Int), (a < ob bb + 177 ∨ ob bb + 189 ≤ a) → R21 a b = R a b := fun a b q => by rw [hR21]; exact (mUne _ _ _ _ _ (by omega)).trans (hfr a b q)
  refine x_ret 32 none rfl ⟨rfl, rfl⟩ ⟨rfl, i10, l11, R21, rfl, fun a b q => ⟨hfi a b q, hfl a b q, hfr a b q⟩, ?_, ?_⟩
  · exact rg_zR (zR_of hp177 (rlle (a := 177) (by decide) (by decide +kernel))) hg0
  · refine ⟨hIi, hLl⟩
set_option maxRecDepth 20000 in
set_option maxHeartbeats 4000000 in
theorem n_book {i : fI} {l : fL} {R : fR}  (hz : cZ (ob bb) i l R) : mCtr m_X8_init 4 188 8533 [vR (some (ob bb))] ((ob bb + 1, K0, i, l, R) : mS) (mkd (ob bb) (ob bb + 189) i l R (fun i' l' => (∀ a b, (a < (ob bb + 18) ∨ (ob bb + 169) ≤ a) → i' a b = if a = (ob bb + 13) ∧ 0 ≤ b ∧ b < 4 then mTF 2 b.toNat else if a = (ob bb + 172) ∧ (b = 2 ∨ b = 3) then -9 else i a b) ∧ ∀ a b, l' a b = if (a = (ob bb + 179) ∨ a = (ob bb + 182)) ∧ b = 0 then 1#64 else l a b)) := by
  refine mCtr_of pl_X8 dc_X8_init (Nat.le_of_ble_eq_true rfl) rfl ?_
  show mX m_X8_init 4 _ 188 8533 0 [some (vR (some (ob bb))), none] [] ((ob bb + 1, K0, i, l, R) : mS)
  have hp0 := yR_0 (ob bb) R
  have hg0 := rg_0 (ob bb + 1) R
  have hz := hz.up (show ob bb ≤ ob bb + 1 by omega)
  have hfr : ∀ (a : Nat) (b : Int), (a < ob bb ∨ ob bb + 189 ≤ a) → R a b = R a b := fun _ _ _ => rfl
  have hfi : ∀ (a : Nat) (b : Int), (a < ob bb ∨ ob bb + 189 ≤ a) → i a b = i a b := fun _ _ _ => rfl
  have hfl : ∀ (a : Nat) (b : Int), (a < ob bb ∨ ob bb + 189 ≤ a) → l a b = l a b := fun _ _ _ => rfl
  refine x_aload_n 0 rfl rfl ?_
  refine x_objInit 1 rfl ml_X8_1 (by decide) (Nat.le_of_ble_eq_true rfl) ?_
  refine x_aload_n 2 rfl rfl ?_
  refine x_new 3 (ci := 0) (cb' := 187) (sb' := 8525) rfl rfl cl_X8_7 ins_X0 ini_X0 rfl rfl (g' := ((ob bb + 2, K0, i, l, R) : mS)) (cNew (show K0 (ob bb + 1) = .inl 0 from (K0b (a := 1) (by decide)).trans (by decide +kernel)) hz) ?_
  show mX m_X8_init 4 _ 187 8525 _ _ [vR (some (ob bb + 1)), vR (some (ob bb))] _
  refine x_dup 4 rfl rfl ?_
  refine x_callI 5 (cb' := 173) (sb' := 8237) m_X0_init (n_choir (show isC bb (ob bb + 1) from ⟨1, by decide, rfl⟩) hz) rfl ok_X0_init rfl rfl ml_X8_9 im_X0_init rfl (by decide) rfl (Nat.le_of_ble_eq_true rfl) rfl rfl (fun v g' q1 => ?_)
  obtain ⟨rfl, i2, l3, R4, rfl, hf5, hb6, hP7⟩ := q1
  show mX m_X8_init 4 _ 173 8237 _ _ [vR (some (ob bb + 1)), vR (some (ob bb))] _
  have hz := mkd_cZ hz (show ob bb + 1 ≤ ob bb + 16 by omega) hf5
  have hp0 := yR_fr hp0 (fun b => (hf5 (ob bb) b (by omega)).2.2)
  have hg0 := rg_fr hg0 (fun x b z => (hf5 x b z).2.2) (by omega)
  have hg0 := rg_join hg0 hb6
  have hfr : ∀ (a : Nat) (b : Int), (a < ob bb ∨ ob bb + 189 ≤ a) → R4 a b = R a b := fun a b q => ((hf5 a b (by omega)).2.2).trans (hfr a b q)
  have hfi : ∀ (a : Nat) (b : Int), (a < ob bb ∨ ob bb + 189 ≤ a) → i2 a b = i a b := fun a b q => ((hf5 a b (by omega)).1).trans (hfi a b q)
  have hfl : ∀ (a : Nat) (b : Int), (a < ob bb ∨ ob bb + 189 ≤ a) → l3 a b = l a b := fun a b q => ((hf5 a b (by omega)).2.1).trans (hfl a b q)
  have hI : ∀ (a : Nat) (b : Int), (a < (ob bb + 18) ∨ (ob bb + 169) ≤ a) → i2 a b = if a = (ob bb + 13) ∧ 0 ≤ b ∧ b < 4 then mTF 2 b.toNat else i a b := fun a b q => hP7.1 a b
  have hLl : l3 = l := hP7.2
  obtain ⟨R8, hR8⟩ : ∃ f, f = mU R4 (ob bb) (0) (some (ob bb + 1)) := ⟨_, rfl⟩
  refine x_putF 6 rfl fl_X8_10 (show ob bb < ob bb + 16 by omega) (show K0 (ob bb) = .inl 8 from (K0b (a := 0) (by decide)).trans (by decide +kernel)) rfl (fun _ => ⟨rfl, rfl⟩) rfl (g' := (ob bb + 16, K0, i2, l3, R8)) (by subst hR8; rfl) ?_
  have hz := hz.pR hR8 (show ob bb < ob bb + 16 by omega)
  have hp0 := yR_put hp0 (show R0 (ob bb) ((0 : Nat) : Int) = some (ob bb + 1) from (R0b (a := 0) (by decide) _).trans (by rw [show (rL.getD 0 []).getD ((0 : Nat) : Int).toNat none = some 1 by decide +kernel]; rfl)) hR8
  have hg0 := rg_oth hg0 hR8 (by omega)
  have hfr : ∀ (a : Nat) (b : Int), (a < ob bb ∨ ob bb + 189 ≤ a) → R8 a b = R a b := fun a b q => by rw [hR8]; exact (mUne _ _ _ _ _ (by omega)).trans (hfr a b q)
  refine x_aload_n 7 rfl rfl ?_
  refine x_new 8 (ci := 1) (cb' := 172) (sb' := 8234) rfl rfl cl_X8_16 ins_X1 ini_X1 rfl rfl (g' := ((ob bb + 17, K0, i2, l3, R8) : mS)) (cNew (show K0 (ob bb + 16) = .inl 1 from (K0b (a := 16) (by decide)).trans (by decide +kernel)) hz) ?_
  show mX m_X8_init 4 _ 172 8234 _ _ [vR (some (ob bb + 16)), vR (some (ob bb))] _
  refine x_dup 9 rfl rfl ?_
  refine x_callI 10 (cb' := 51) (sb' := 5858) m_X1_init (n_hist  hz) rfl ok_X1_init rfl rfl ml_X8_18 im_X1_init rfl (by decide) rfl (Nat.le_of_ble_eq_true rfl) rfl rfl (fun v g' q9 => ?_)
  obtain ⟨rfl, i10, l11, R12, rfl, hf13, hb14, hP15⟩ := q9
  show mX m_X8_init 4 _ 51 5858 _ _ [vR (some (ob bb + 16)), vR (some (ob bb))] _
  have hz := mkd_cZ hz (show ob bb + 16 ≤ ob bb + 138 by omega) hf13
  have hp0 := yR_fr hp0 (fun b => (hf13 (ob bb) b (by omega)).2.2)
  have hg0 := rg_fr hg0 (fun x b z => (hf13 x b z).2.2) (by omega)
  have hg0 := rg_join hg0 hb14
  have hfr : ∀ (a : Nat) (b : Int), (a < ob bb ∨ ob bb + 189 ≤ a) → R12 a b = R a b := fun a b q => ((hf13 a b (by omega)).2.2).trans (hfr a b q)
  have hfi : ∀ (a : Nat) (b : Int), (a < ob bb ∨ ob bb + 189 ≤ a) → i10 a b = i a b := fun a b q => ((hf13 a b (by omega)).1).trans (hfi a b q)
  have hfl : ∀ (a : Nat) (b : Int), (a < ob bb ∨ ob bb + 189 ≤ a) → l11 a b = l a b := fun a b q => ((hf13 a b (by omega)).2.1).trans (hfl a b q)
  have hI : ∀ (a : Nat) (b : Int), (a < (ob bb + 18) ∨ (ob bb + 169) ≤ a) → i10 a b = if a = (ob bb + 13) ∧ 0 ≤ b ∧ b < 4 then mTF 2 b.toNat else i a b := fun a b q => by rcases q with q | q; (rw [hP15.1 a b q]; exact hI a b (Or.inl q)); (rw [(hf13 a b (by omega)).1]; exact hI a b (Or.inr q))
  have hLl : l11 = l := hP15.2.trans hLl
  obtain ⟨R16, hR16⟩ : ∃ f, f = mU R12 (ob bb) (1) (some (ob bb + 16)) := ⟨_, rfl⟩
  refine x_putF 11 rfl fl_X8_19 (show ob bb < ob bb + 138 by omega) (show K0 (ob bb) = .inl 8 from (K0b (a := 0) (by decide)).trans (by decide +kernel)) rfl (fun _ => ⟨rfl, rfl⟩) rfl (g' := (ob bb + 138, K0, i10, l11, R16)) (by subst hR16; rfl) ?_
  have hz := hz.pR hR16 (show ob bb < ob bb + 138 by omega)
  have hp0 := yR_put hp0 (show R0 (ob bb) ((1 : Nat) : Int) = some (ob bb + 16) from (R0b (a := 0) (by decide) _).trans (by rw [show (rL.getD 0 []).getD ((1 : Nat) : Int).toNat none = some 16 by decide +kernel]; rfl)) hR16
  have hg0 := rg_oth hg0 hR16 (by omega)
  have hfr : ∀ (a : Nat) (b : Int), (a < ob bb ∨ ob bb + 189 ≤ a) → R16 a b = R a b := fun a b q => by rw [hR16]; exact (mUne _ _ _ _ _ (by omega)).trans (hfr a b q)
  refine x_aload_n 12 rfl rfl ?_
  refine x_iconst 13 rfl ?_
  refine x_newq0 14 (n := 2) (cb' := 50) (sb' := 5856) rfl cl_X8_7 rfl (by decide) rfl rfl (g' := ((ob bb + 139, K0, i10, l11, R16) : mS)) (cNew (show K0 (ob bb + 138) = .inr (4, 2) from (K0b (a := 138) (by decide)).trans (by decide +kernel)) hz) ?_
  show mX m_X8_init 4 _ 50 5856 _ _ [vR (some (ob bb + 138)), vR (some (ob bb))] _
  have hz := hz.up (show ob bb + 138 ≤ ob bb + 139 by omega)
  have hp138 := yR_0 (ob bb + 138) R16
  have hg1 := rg_0 (ob bb + 139) R16
  obtain ⟨R17, hR17⟩ : ∃ f, f = mU R16 (ob bb) (2) (some (ob bb + 138)) := ⟨_, rfl⟩
  refine x_putF 15 rfl fl_X8_23 (show ob bb < ob bb + 139 by omega) (show K0 (ob bb) = .inl 8 from (K0b (a := 0) (by decide)).trans (by decide +kernel)) rfl (fun _ => ⟨rfl, rfl⟩) rfl (g' := (ob bb + 139, K0, i10, l11, R17)) (by subst hR17; rfl) ?_
  have hz := hz.pR hR17 (show ob bb < ob bb + 139 by omega)
  have hp0 := yR_put hp0 (show R0 (ob bb) ((2 : Nat) : Int) = some (ob bb + 138) from (R0b (a := 0) (by decide) _).trans (by rw [show (rL.getD 0 []).getD ((2 : Nat) : Int).toNat none = some 138 by decide +kernel]; rfl)) hR17
  have hp138 := yR_oth hp138 hR17 (by omega)
  have hg0 := rg_oth hg0 hR17 (by omega)
  have hg1 := rg_oth hg1 hR17 (by omega)
  have hfr : ∀ (a : Nat) (b : Int), (a < ob bb ∨ ob bb + 189 ≤ a) → R17 a b = R a b := fun a b q => by rw [hR17]; exact (mUne _ _ _ _ _ (by omega)).trans (hfr a b q)
  refine x_iconst 16 rfl ?_
  refine x_istore_n 17 (L' := [some (vR (some (ob bb))), some (vI 0)]) rfl (by decide) rfl rfl ?_
  refine x_iload_n 18 rfl rfl ?_
  refine x_iconst 19 rfl ?_
  refine x_icmp_ge 20 (tgt := 60) rfl (by decide) (by decide) (fun h => absurd h (by decide)) (fun _ => ?_)
  refine x_aload_n 21 rfl rfl ?_
  refine x_getR 22 (z := (ob bb + 138)) rfl fl_X8_23 (show ob bb < ob bb + 139 by omega) (show K0 (ob bb) = .inl 8 from (K0b (a := 0) (by decide)).trans (by decide +kernel)) rfl (hp0 2 _ (by decide) (show R0 (ob bb) ((2 : Nat) : Int) = some (ob bb + 138) from (R0b (a := 0) (by decide) _).trans (by rw [show (rL.getD 0 []).getD ((2 : Nat) : Int).toNat none = some 138 by decide +kernel]; rfl))) ?_
  refine x_iload_n 23 rfl rfl ?_
  refine x_new 24 (ci := 0) (cb' := 49) (sb' := 5848) rfl rfl cl_X8_7 ins_X0 ini_X0 rfl rfl (g' := ((ob bb + 140, K0, i10, l11, R17) : mS)) (cNew (show K0 (ob bb + 139) = .inl 0 from (K0b (a := 139) (by decide)).trans (by decide +kernel)) hz) ?_
  show mX m_X8_init 4 _ 49 5848 _ _ [vR (some (ob bb + 139)), vI (0), vR (some (ob bb + 138))] _
  refine x_dup 25 rfl rfl ?_
  refine x_callI 26 (cb' := 35) (sb' := 5560) m_X0_init (n_choir (show isC bb (ob bb + 139) from ⟨139, by decide, rfl⟩) hz) rfl ok_X0_init rfl rfl ml_X8_9 im_X0_init rfl (by decide) rfl (Nat.le_of_ble_eq_true rfl) rfl rfl (fun v g' q18 => ?_)
  obtain ⟨rfl, i19, l20, R21, rfl, hf22, hb23, hP24⟩ := q18
  show mX m_X8_init 4 _ 35 5560 _ _ [vR (some (ob bb + 139)), vI (0), vR (some (ob bb + 138))] _
  have hz := mkd_cZ hz (show ob bb + 139 ≤ ob bb + 154 by omega) hf22
  have hp0 := yR_fr hp0 (fun b => (hf22 (ob bb) b (by omega)).2.2)
  have hp138 := yR_fr hp138 (fun b => (hf22 (ob bb + 138) b (by omega)).2.2)
  have hg0 := rg_fr hg0 (fun x b z => (hf22 x b z).2.2) (by omega)
  have hg1 := rg_fr hg1 (fun x b z => (hf22 x b z).2.2) (by omega)
  have hg1 := rg_join hg1 hb23
  have hfr : ∀ (a : Nat) (b : Int), (a < ob bb ∨ ob bb + 189 ≤ a) → R21 a b = R a b := fun a b q => ((hf22 a b (by omega)).2.2).trans (hfr a b q)
  have hfi : ∀ (a : Nat) (b : Int), (a < ob bb ∨ ob bb + 189 ≤ a) → i19 a b = i a b := fun a b q => ((hf22 a b (by omega)).1).trans (hfi a b q)
  have hfl : ∀ (a : Nat) (b : Int), (a < ob bb ∨ ob bb + 189 ≤ a) → l20 a b = l a b := fun a b q => ((hf22 a b (by omega)).2.1).trans (hfl a b q)
  have hI : ∀ (a : Nat) (b : Int), (a < (ob bb + 18) ∨ (ob bb + 169) ≤ a) → i19 a b = if a = (ob bb + 13) ∧ 0 ≤ b ∧ b < 4 then mTF 2 b.toNat else i a b := fun a b q => ((hf22 a b (by omega)).1).trans (hI a b q)
  have hLl : l20 = l := hP24.2.trans hLl
  obtain ⟨R25, hR25⟩ : ∃ f, f = mU R21 (ob bb + 138) (0) (some (ob bb + 139)) := ⟨_, rfl⟩
  refine x_aast 27 (t := 4) (n := 2) (ci := 0) rfl (show ob bb + 138 < ob bb + 154 by omega) (show K0 (ob bb + 138) = .inr (4, 2) from (K0b (a := 138) (by decide)).trans (by decide +kernel)) rfl rfl (show ob bb + 139 < ob bb + 154 by omega) (show K0 (ob bb + 139) = .inl 0 from (K0b (a := 139) (by decide)).trans (by decide +kernel)) (by omega) (g' := (ob bb + 154, K0, i19, l20, R25)) (by subst hR25; rfl) ?_
  have hz := hz.pR hR25 (show ob bb + 138 < ob bb + 154 by omega)
  have hp0 := yR_oth hp0 hR25 (by omega)
  have hp138 := yR_put hp138 (show R0 (ob bb + 138) ((0 : Nat) : Int) = some (ob bb + 139) from (R0b (a := 138) (by decide) _).trans (by rw [show (rL.getD 138 []).getD ((0 : Nat) : Int).toNat none = some 139 by decide +kernel]; rfl)) hR25
  have hg0 := rg_oth hg0 hR25 (by omega)
  have hg1 := rg_oth hg1 hR25 (by omega)
  have hfr : ∀ (a : Nat) (b : Int), (a < ob bb ∨ ob bb + 189 ≤ a) → R25 a b = R a b := fun a b q => by rw [hR25]; exact (mUne _ _ _ _ _ (by omega)).trans (hfr a b q)
  refine x_iinc 28 (L' := [some (vR (some (ob bb))), some (vI 1)]) rfl (by decide) rfl rfl rfl rfl ?_
  refine x_goto 29 (tgt := 36) rfl (by decide) ?_
  refine x_iload_n 18 rfl rfl ?_
  refine x_iconst 19 rfl ?_
  refine x_icmp_ge 20 (tgt := 60) rfl (by decide) (by decide) (fun h => absurd h (by decide)) (fun _ => ?_)
  refine x_aload_n 21 rfl rfl ?_
  refine x_getR 22 (z := (ob bb + 138)) rfl fl_X8_23 (show ob bb < ob bb + 154 by omega) (show K0 (ob bb) = .inl 8 from (K0b (a := 0) (by decide)).trans (by decide +kernel)) rfl (hp0 2 _ (by decide) (show R0 (ob bb) ((2 : Nat) : Int) = some (ob bb + 138) from (R0b (a := 0) (by decide) _).trans (by rw [show (rL.getD 0 []).getD ((2 : Nat) : Int).toNat none = some 138 by decide +kernel]; rfl))) ?_
  refine x_iload_n 23 rfl rfl ?_
  refine x_new 24 (ci := 0) (cb' := 34) (sb' := 5552) rfl rfl cl_X8_7 ins_X0 ini_X0 rfl rfl (g' := ((ob bb + 155, K0, i19, l20, R25) : mS)) (cNew (show K0 (ob bb + 154) = .inl 0 from (K0b (a := 154) (by decide)).trans (by decide +kernel)) hz) ?_
  show mX m_X8_init 4 _ 34 5552 _ _ [vR (some (ob bb + 154)), vI (1), vR (some (ob bb + 138))] _
  refine x_dup 25 rfl rfl ?_
  refine x_callI 26 (cb' := 20) (sb' := 5264) m_X0_init (n_choir (show isC bb (ob bb + 154) from ⟨154, by decide, rfl⟩) hz) rfl ok_X0_init rfl rfl ml_X8_9 im_X0_init rfl (by decide) rfl (Nat.le_of_ble_eq_true rfl) rfl rfl (fun v g' q26 => ?_)
  obtain ⟨rfl, i27, l28, R29, rfl, hf30, hb31, hP32⟩ := q26
  show mX m_X8_init 4 _ 20 5264 _ _ [vR (some (ob bb + 154)), vI (1), vR (some (ob bb + 138))] _
  have hz := mkd_cZ hz (show ob bb + 154 ≤ ob bb + 169 by omega) hf30
  have hp0 := yR_fr hp0 (fun b => (hf30 (ob bb) b (by omega)).2.2)
  have hp138 := yR_fr hp138 (fun b => (hf30 (ob bb + 138) b (by omega)).2.2)
  have hg0 := rg_fr hg0 (fun x b z => (hf30 x b z).2.2) (by omega)
  have hg1 := rg_fr hg1 (fun x b z => (hf30 x b z).2.2) (by omega)
  have hg1 := rg_join hg1 hb31
  have hfr : ∀ (a : Nat) (b : Int), (a < ob bb ∨ ob bb + 189 ≤ a) → R29 a b = R a b := fun a b q => ((hf30 a b (by omega)).2.2).trans (hfr a b q)
  have hfi : ∀ (a : Nat) (b : Int), (a < ob bb ∨ ob bb + 189 ≤ a) → i27 a b = i a b := fun a b q => ((hf30 a b (by omega)).1).trans (hfi a b q)
  have hfl : ∀ (a : Nat) (b : Int), (a < ob bb ∨ ob bb + 189 ≤ a) → l28 a b = l a b := fun a b q => ((hf30 a b (by omega)).2.1).trans (hfl a b q)
  have hI : ∀ (a : Nat) (b : Int), (a < (ob bb + 18) ∨ (ob bb + 169) ≤ a) → i27 a b = if a = (ob bb + 13) ∧ 0 ≤ b ∧ b < 4 then mTF 2 b.toNat else i a b := fun a b q => ((hf30 a b (by omega)).1).trans (hI a b q)
  have hLl : l28 = l := hP32.2.trans hLl
  obtain ⟨R33, hR33⟩ : ∃ f, f = mU R29 (ob bb + 138) (1) (some (ob bb + 154)) := ⟨_, rfl⟩
  refine x_aast 27 (t := 4) (n := 2) (ci := 0) rfl (show ob bb + 138 < ob bb + 169 by omega) (show K0 (ob bb + 138) = .inr (4, 2) from (K0b (a := 138) (by decide)).trans (by decide +kernel)) rfl rfl (show ob bb + 154 < ob bb + 169 by omega) (show K0 (ob bb + 154) = .inl 0 from (K0b (a := 154) (by decide)).trans (by decide +kernel)) (by omega) (g' := (ob bb + 169, K0, i27, l28, R33)) (by subst hR33; rfl) ?_
  have hz := hz.pR hR33 (show ob bb + 138 < ob bb + 169 by omega)
  have hp0 := yR_oth hp0 hR33 (by omega)
  have hp138 := yR_put hp138 (show R0 (ob bb + 138) ((1 : Nat) : Int) = some (ob bb + 154) from (R0b (a := 138) (by decide) _).trans (by rw [show (rL.getD 138 []).getD ((1 : Nat) : Int).toNat none = some 154 by decide +kernel]; rfl)) hR33
  have hg0 := rg_oth hg0 hR33 (by omega)
  have hg1 := rg_oth hg1 hR33 (by omega)
  have hfr : ∀ (a : Nat) (b : Int), (a < ob bb ∨ ob bb + 189 ≤ a) → R33 a b = R a b := fun a b q => by rw [hR33]; exact (mUne _ _ _ _ _ (by omega)).trans (hfr a b q)
  refine x_iinc 28 (L' := [some (vR (some (ob bb))), some (vI 2)]) rfl (by decide) rfl rfl rfl rfl ?_
  refine x_goto 29 (tgt := 36) rfl (by decide) ?_
  refine x_iload_n 18 rfl rfl ?_
  refine x_iconst 19 rfl ?_
  refine x_icmp_ge 20 (tgt := 60) rfl (by decide) (by decide) (fun _ => ?_) (fun h => absurd h (by decide))
  refine x_aload_n 30 rfl rfl ?_
  refine x_iconst 31 rfl ?_
  refine x_newa 32 (t := 2) (n := 2) (cb' := 19) (sb' := 5262) rfl rfl (by decide) ac_boolean rfl (by decide) rfl rfl (g' := ((ob bb + 170, K0, i27, l28, R33) : mS)) (cNew (show K0 (ob bb + 169) = .inr (2, 2) from (K0b (a := 169) (by decide)).trans (by decide +kernel)) hz) ?_
  show mX m_X8_init 4 _ 19 5262 _ _ [vR (some (ob bb + 169)), vR (some (ob bb))] _
  have hz := hz.up (show ob bb + 169 ≤ ob bb + 170 by omega)
  have hg1 := rg_one hg1 ((rlb (a := 169) (by decide)).trans (by decide +kernel))
  obtain ⟨R34, hR34⟩ : ∃ f, f = mU R33 (ob bb) (3) (some (ob bb + 169)) := ⟨_, rfl⟩
  refine x_putF 33 rfl fl_X8_27 (show ob bb < ob bb + 170 by omega) (show K0 (ob bb) = .inl 8 from (K0b (a := 0) (by decide)).trans (by decide +kernel)) rfl (fun _ => ⟨rfl, rfl⟩) rfl (g' := (ob bb + 170, K0, i27, l28, R34)) (by subst hR34; rfl) ?_
  have hz := hz.pR hR34 (show ob bb < ob bb + 170 by omega)
  have hp0 := yR_put hp0 (show R0 (ob bb) ((3 : Nat) : Int) = some (ob bb + 169) from (R0b (a := 0) (by decide) _).trans (by rw [show (rL.getD 0 []).getD ((3 : Nat) : Int).toNat none = some 169 by decide +kernel]; rfl)) hR34
  have hp138 := yR_oth hp138 hR34 (by omega)
  have hg0 := rg_oth hg0 hR34 (by omega)
  have hg1 := rg_oth hg1 hR34 (by omega)
  have hfr : ∀ (a : Nat) (b : Int), (a < ob bb ∨ ob bb + 189 ≤ a) → R34 a b = R a b := fun a b q => by rw [hR34]; exact (mUne _ _ _ _ _ (by omega)).trans (hfr a b q)
  refine x_aload_n 34 rfl rfl ?_
  refine x_new 35 (ci := 7) (cb' := 18) (sb' := 5260) rfl rfl cl_X8_31 ins_X7 ini_X7 rfl rfl (g' := ((ob bb + 171, K0, i27, l28, R34) : mS)) (cNew (show K0 (ob bb + 170) = .inl 7 from (K0b (a := 170) (by decide)).trans (by decide +kernel)) hz) ?_
  show mX m_X8_init 4 _ 18 5260 _ _ [vR (some (ob bb + 170)), vR (some (ob bb))] _
  refine x_dup 36 rfl rfl ?_
  refine x_callI 37 (cb' := 17) (sb' := 5200) m_X7_init (n_text  hz) rfl ok_X7_init rfl rfl ml_X8_33 im_X7_init rfl (by decide) rfl (Nat.le_of_ble_eq_true rfl) rfl rfl (fun v g' q35 => ?_)
  obtain ⟨rfl, i36, l37, R38, rfl, hf39, hb40, hP41⟩ := q35
  show mX m_X8_init 4 _ 17 5200 _ _ [vR (some (ob bb + 170)), vR (some (ob bb))] _
  have hz := mkd_cZ hz (show ob bb + 170 ≤ ob bb + 172 by omega) hf39
  have hp0 := yR_fr hp0 (fun b => (hf39 (ob bb) b (by omega)).2.2)
  have hp138 := yR_fr hp138 (fun b => (hf39 (ob bb + 138) b (by omega)).2.2)
  have hg0 := rg_fr hg0 (fun x b z => (hf39 x b z).2.2) (by omega)
  have hg1 := rg_fr hg1 (fun x b z => (hf39 x b z).2.2) (by omega)
  have hg1 := rg_join hg1 hb40
  have hfr : ∀ (a : Nat) (b : Int), (a < ob bb ∨ ob bb + 189 ≤ a) → R38 a b = R a b := fun a b q => ((hf39 a b (by omega)).2.2).trans (hfr a b q)
  have hfi : ∀ (a : Nat) (b : Int), (a < ob bb ∨ ob bb + 189 ≤ a) → i36 a b = i a b := fun a b q => ((hf39 a b (by omega)).1).trans (hfi a b q)
  have hfl : ∀ (a : Nat) (b : Int), (a < ob bb ∨ ob bb + 189 ≤ a) → l37 a b = l a b := fun a b q => ((hf39 a b (by omega)).2.1).trans (hfl a b q)
  have hI : ∀ (a : Nat) (b : Int), (a < (ob bb + 18) ∨ (ob bb + 169) ≤ a) → i36 a b = if a = (ob bb + 13) ∧ 0 ≤ b ∧ b < 4 then mTF 2 b.toNat else i a b := by rw [hP41.1]; exact hI
  have hLl : l37 = l := hP41.2.trans hLl
  obtain ⟨R42, hR42⟩ : ∃ f, f = mU R38 (ob bb) (4) (some (ob bb + 170)) := ⟨_, rfl⟩
  refine x_putF 38 rfl fl_X8_34 (show ob bb < ob bb + 172 by omega) (show K0 (ob bb) = .inl 8 from (K0b (a := 0) (by decide)).trans (by decide +kernel)) rfl (fun _ => ⟨rfl, rfl⟩) rfl (g' := (ob bb + 172, K0, i36, l37, R42)) (by subst hR42; rfl) ?_
  have hz := hz.pR hR42 (show ob bb < ob bb + 172 by omega)
  have hp0 := yR_put hp0 (show R0 (ob bb) ((4 : Nat) : Int) = some (ob bb + 170) from (R0b (a := 0) (by decide) _).trans (by rw [show (rL.getD 0 []).getD ((4 : Nat) : Int).toNat none = some 170 by decide +kernel]; rfl)) hR42
  have hp138 := yR_oth hp138 hR42 (by omega)
  have hg0 := rg_oth hg0 hR42 (by omega)
  have hg1 := rg_oth hg1 hR42 (by omega)
  have hfr : ∀ (a : Nat) (b : Int), (a < ob bb ∨ ob bb + 189 ≤ a) → R42 a b = R a b := fun a b q => by rw [hR42]; exact (mUne _ _ _ _ _ (by omega)).trans (hfr a b q)
  refine x_aload_n 39 rfl rfl ?_
  refine x_new 40 (ci := 3) (cb' := 16) (sb' := 5189) rfl rfl cl_X8_38 ins_X3 ini_X3 rfl rfl (g' := ((ob bb + 173, K0, i36, l37, R42) : mS)) (cNew (show K0 (ob bb + 172) = .inl 3 from (K0b (a := 172) (by decide)).trans (by decide +kernel)) hz) ?_
  show mX m_X8_init 4 _ 16 5189 _ _ [vR (some (ob bb + 172)), vR (some (ob bb))] _
  refine x_dup 41 rfl rfl ?_
  refine x_callI 42 (cb' := 16) (sb' := 5189) m_X3_init (n_reader  hz) rfl ok_X3_init rfl rfl ml_X8_40 im_X3_init rfl (by decide) rfl (Nat.le_of_ble_eq_true rfl) rfl rfl (fun v g' q43 => ?_)
  obtain ⟨rfl, i44, l45, R46, rfl, hf47, hb48, hP49⟩ := q43
  show mX m_X8_init 4 _ 16 5189 _ _ [vR (some (ob bb + 172)), vR (some (ob bb))] _
  have hz := mkd_cZ hz (show ob bb + 172 ≤ ob bb + 173 by omega) hf47
  have hp0 := yR_fr hp0 (fun b => (hf47 (ob bb) b (by omega)).2.2)
  have hp138 := yR_fr hp138 (fun b => (hf47 (ob bb + 138) b (by omega)).2.2)
  have hg0 := rg_fr hg0 (fun x b z => (hf47 x b z).2.2) (by omega)
  have hg1 := rg_fr hg1 (fun x b z => (hf47 x b z).2.2) (by omega)
  have hg1 := rg_join hg1 hb48
  have hfr : ∀ (a : Nat) (b : Int), (a < ob bb ∨ ob bb + 189 ≤ a) → R46 a b = R a b := fun a b q => ((hf47 a b (by omega)).2.2).trans (hfr a b q)
  have hfi : ∀ (a : Nat) (b : Int), (a < ob bb ∨ ob bb + 189 ≤ a) → i44 a b = i a b := fun a b q => ((hf47 a b (by omega)).1).trans (hfi a b q)
  have hfl : ∀ (a : Nat) (b : Int), (a < ob bb ∨ ob bb + 189 ≤ a) → l45 a b = l a b := fun a b q => ((hf47 a b (by omega)).2.1).trans (hfl a b q)
  have hI : ∀ (a : Nat) (b : Int), (a < (ob bb + 18) ∨ (ob bb + 169) ≤ a) → i44 a b = if a = (ob bb + 13) ∧ 0 ≤ b ∧ b < 4 then mTF 2 b.toNat else if a = (ob bb + 172) ∧ (b = 2 ∨ b = 3) then -9 else i a b := fun a b q => by rw [hP49.1, hI a b q]; by_cases h : a = (ob bb + 172) ∧ (b = 2 ∨ b = 3); (rw [if_pos h, if_neg (by omega), if_pos h]); (rw [if_neg h, if_neg h])
  have hLl : l45 = l := hP49.2.trans hLl
  obtain ⟨R50, hR50⟩ : ∃ f, f = mU R46 (ob bb) (5) (some (ob bb + 172)) := ⟨_, rfl⟩
  refine x_putF 43 rfl fl_X8_41 (show ob bb < ob bb + 173 by omega) (show K0 (ob bb) = .inl 8 from (K0b (a := 0) (by decide)).trans (by decide +kernel)) rfl (fun _ => ⟨rfl, rfl⟩) rfl (g' := (ob bb + 173, K0, i44, l45, R50)) (by subst hR50; rfl) ?_
  have hz := hz.pR hR50 (show ob bb < ob bb + 173 by omega)
  have hp0 := yR_put hp0 (show R0 (ob bb) ((5 : Nat) : Int) = some (ob bb + 172) from (R0b (a := 0) (by decide) _).trans (by rw [show (rL.getD 0 []).getD ((5 : Nat) : Int).toNat none = some 172 by decide +kernel]; rfl)) hR50
  have hp138 := yR_oth hp138 hR50 (by omega)
  have hg0 := rg_oth hg0 hR50 (by omega)
  have hg1 := rg_oth hg1 hR50 (by omega)
  have hfr : ∀ (a : Nat) (b : Int), (a < ob bb ∨ ob bb + 189 ≤ a) → R50 a b = R a b := fun a b q => by rw [hR50]; exact (mUne _ _ _ _ _ (by omega)).trans (hfr a b q)
  refine x_aload_n 44 rfl rfl ?_
  refine x_new 45 (ci := 4) (cb' := 15) (sb' := 5186) rfl rfl cl_X8_45 ins_X4 ini_X4 rfl rfl (g' := ((ob bb + 174, K0, i44, l45, R50) : mS)) (cNew (show K0 (ob bb + 173) = .inl 4 from (K0b (a := 173) (by decide)).trans (by decide +kernel)) hz) ?_
  show mX m_X8_init 4 _ 15 5186 _ _ [vR (some (ob bb + 173)), vR (some (ob bb))] _
  refine x_dup 46 rfl rfl ?_
  refine x_callI 47 (cb' := 12) (sb' := 5168) m_X4_init (n_reh  hz) rfl ok_X4_init rfl rfl ml_X8_47 im_X4_init rfl (by decide) rfl (Nat.le_of_ble_eq_true rfl) rfl rfl (fun v g' q51 => ?_)
  obtain ⟨rfl, i52, l53, R54, rfl, hf55, hb56, hP57⟩ := q51
  show mX m_X8_init 4 _ 12 5168 _ _ [vR (some (ob bb + 173)), vR (some (ob bb))] _
  have hz := mkd_cZ hz (show ob bb + 173 ≤ ob bb + 177 by omega) hf55
  have hp0 := yR_fr hp0 (fun b => (hf55 (ob bb) b (by omega)).2.2)
  have hp138 := yR_fr hp138 (fun b => (hf55 (ob bb + 138) b (by omega)).2.2)
  have hg0 := rg_fr hg0 (fun x b z => (hf55 x b z).2.2) (by omega)
  have hg1 := rg_fr hg1 (fun x b z => (hf55 x b z).2.2) (by omega)
  have hg1 := rg_join hg1 hb56
  have hfr : ∀ (a : Nat) (b : Int), (a < ob bb ∨ ob bb + 189 ≤ a) → R54 a b = R a b := fun a b q => ((hf55 a b (by omega)).2.2).trans (hfr a b q)
  have hfi : ∀ (a : Nat) (b : Int), (a < ob bb ∨ ob bb + 189 ≤ a) → i52 a b = i a b := fun a b q => ((hf55 a b (by omega)).1).trans (hfi a b q)
  have hfl : ∀ (a : Nat) (b : Int), (a < ob bb ∨ ob bb + 189 ≤ a) → l53 a b = l a b := fun a b q => ((hf55 a b (by omega)).2.1).trans (hfl a b q)
  have hI : ∀ (a : Nat) (b : Int), (a < (ob bb + 18) ∨ (ob bb + 169) ≤ a) → i52 a b = if a = (ob bb + 13) ∧ 0 ≤ b ∧ b < 4 then mTF 2 b.toNat else if a = (ob bb + 172) ∧ (b = 2 ∨ b = 3) then -9 else i a b := by rw [hP57.1]; exact hI
  have hLl : l53 = l := hP57.2.trans hLl
  obtain ⟨R58, hR58⟩ : ∃ f, f = mU R54 (ob bb) (6) (some (ob bb + 173)) := ⟨_, rfl⟩
  refine x_putF 48 rfl fl_X8_48 (show ob bb < ob bb + 177 by omega) (show K0 (ob bb) = .inl 8 from (K0b (a := 0) (by decide)).trans (by decide +kernel)) rfl (fun _ => ⟨rfl, rfl⟩) rfl (g' := (ob bb + 177, K0, i52, l53, R58)) (by subst hR58; rfl) ?_
  have hz := hz.pR hR58 (show ob bb < ob bb + 177 by omega)
  have hp0 := yR_put hp0 (show R0 (ob bb) ((6 : Nat) : Int) = some (ob bb + 173) from (R0b (a := 0) (by decide) _).trans (by rw [show (rL.getD 0 []).getD ((6 : Nat) : Int).toNat none = some 173 by decide +kernel]; rfl)) hR58
  have hp138 := yR_oth hp138 hR58 (by omega)
  have hg0 := rg_oth hg0 hR58 (by omega)
  have hg1 := rg_oth hg1 hR58 (by omega)
  have hfr : ∀ (a : Nat) (b : Int), (a < ob bb ∨ ob bb + 189 ≤ a) → R58 a b = R a b := fun a b q => by rw [hR58]; exact (mUne _ _ _ _ _ (by omega)).trans (hfr a b q)
  refine x_aload_n 49 rfl rfl ?_
  refine x_new 50 (ci := 2) (cb' := 11) (sb' := 5158) rfl rfl cl_X8_52 ins_X2 ini_X2 rfl rfl (g' := ((ob bb + 178, K0, i52, l53, R58) : mS)) (cNew (show K0 (ob bb + 177) = .inl 2 from (K0b (a := 177) (by decide)).trans (by decide +kernel)) hz) ?_
  show mX m_X8_init 4 _ 11 5158 _ _ [vR (some (ob bb + 177)), vR (some (ob bb))] _
  refine x_dup 51 rfl rfl ?_
  refine x_callI 52 (cb' := 0) (sb' := 0) m_X2_init (n_pl  hz) rfl ok_X2_init rfl rfl ml_X8_54 im_X2_init rfl (by decide) rfl (Nat.le_of_ble_eq_true rfl) rfl rfl (fun v g' q59 => ?_)
  obtain ⟨rfl, i60, l61, R62, rfl, hf63, hb64, hP65⟩ := q59
  show mX m_X8_init 4 _ 0 0 _ _ [vR (some (ob bb + 177)), vR (some (ob bb))] _
  have hz := mkd_cZ hz (show ob bb + 177 ≤ ob bb + 189 by omega) hf63
  have hp0 := yR_fr hp0 (fun b => (hf63 (ob bb) b (by omega)).2.2)
  have hp138 := yR_fr hp138 (fun b => (hf63 (ob bb + 138) b (by omega)).2.2)
  have hg0 := rg_fr hg0 (fun x b z => (hf63 x b z).2.2) (by omega)
  have hg1 := rg_fr hg1 (fun x b z => (hf63 x b z).2.2) (by omega)
  have hg1 := rg_join hg1 hb64
  have hfr : ∀ (a : Nat) (b : Int), (a < ob bb ∨ ob bb + 189 ≤ a) → R62 a b = R a b := fun a b q => ((hf63 a b (by omega)).2.2).trans (hfr a b q)
  have hfi : ∀ (a : Nat) (b : Int), (a < ob bb ∨ ob bb + 189 ≤ a) → i60 a b = i a b := fun a b q => ((hf63 a b (by omega)).1).trans (hfi a b q)
  have hfl : ∀ (a : Nat) (b : Int), (a < ob bb ∨ ob bb + 189 ≤ a) → l61 a b = l a b := fun a b q => ((hf63 a b (by omega)).2.1).trans (hfl a b q)
  have hI : ∀ (a : Nat) (b : Int), (a < (ob bb + 18) ∨ (ob bb + 169) ≤ a) → i60 a b = if a = (ob bb + 13) ∧ 0 ≤ b ∧ b < 4 then mTF 2 b.toNat else if a = (ob bb + 172) ∧ (b = 2 ∨ b = 3) then -9 else i a b := by rw [hP65.1]; exact hI
  have hLl : ∀ a b, l61 a b = if (a = (ob bb + 179) ∨ a = (ob bb + 182)) ∧ b = 0 then 1#64 else l a b := by intro a b; rw [hP65.2, hLl]
  obtain ⟨R66, hR66⟩ : ∃ f, f = mU R62 (ob bb) (7) (some (ob bb + 177)) := ⟨_, rfl⟩
  refine x_putF 53 rfl fl_X8_55 (show ob bb < ob bb + 189 by omega) (show K0 (ob bb) = .inl 8 from (K0b (a := 0) (by decide)).trans (by decide +kernel)) rfl (fun _ => ⟨rfl, rfl⟩) rfl (g' := (ob bb + 189, K0, i60, l61, R66)) (by subst hR66; rfl) ?_
  have hz := hz.pR hR66 (show ob bb < ob bb + 189 by omega)
  have hp0 := yR_put hp0 (show R0 (ob bb) ((7 : Nat) : Int) = some (ob bb + 177) from (R0b (a := 0) (by decide) _).trans (by rw [show (rL.getD 0 []).getD ((7 : Nat) : Int).toNat none = some 177 by decide +kernel]; rfl)) hR66
  have hp138 := yR_oth hp138 hR66 (by omega)
  have hg0 := rg_oth hg0 hR66 (by omega)
  have hg1 := rg_oth hg1 hR66 (by omega)
  have hfr : ∀ (a : Nat) (b : Int), (a < ob bb ∨ ob bb + 189 ≤ a) → R66 a b = R a b := fun a b q => by rw [hR66]; exact (mUne _ _ _ _ _ (by omega)).trans (hfr a b q)
  refine x_ret 54 none rfl ⟨rfl, rfl⟩ ⟨rfl, i60, l61, R66, rfl, fun a b q => ⟨hfi a b q, hfl a b q, hfr a b q⟩, ?_, ?_⟩
  · exact rg_zR (zR_of hp0 (rlle (a := 0) (by decide) (by decide +kernel))) (rg_join hg0 (rg_zR (zR_of hp138 (rlle (a := 138) (by decide) (by decide +kernel))) hg1))
  · exact ⟨hI, hLl⟩
