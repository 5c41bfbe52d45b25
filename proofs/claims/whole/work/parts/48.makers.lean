/-! how the two books are made: what a new object is, which references are laid -/
abbrev fI : Type := Nat → Int → Int
abbrev fL : Type := Nat → Int → BitVec 64
abbrev fR : Type := Nat → Int → Option Nat
/-- from the object N on nothing is made yet -/
def cZ (N : Nat) (i : fI) (l : fL) (R : fR) : Prop := ∀ (a : Nat) (b : Int), N ≤ a → i a b = 0 ∧ l a b = 0#64 ∧ R a b = none
theorem cZ.up {N M : Nat} {i : fI} {l : fL} {R : fR} (h : cZ N i l R) (h2 : N ≤ M) : cZ M i l R := fun a b q => h a b (Nat.le_trans h2 q)
theorem cZ.pI {N : Nat} {i i' : fI} {l : fL} {R : fR} (h : cZ N i l R) {o : Nat} {k z : Int} (he : i' = mU i o k z) (ho : o < N) : cZ N i' l R := fun a b q => by
  rw [he, mUne _ _ _ _ _ (by omega)]
  exact h a b q
theorem cZ.pL {N : Nat} {i : fI} {l l' : fL} {R : fR} (h : cZ N i l R) {o : Nat} {k : Int} {z : BitVec 64} (he : l' = mU l o k z) (ho : o < N) : cZ N i l' R := fun a b q => by
  rw [he, mUne _ _ _ _ _ (by omega)]
  exact h a b q
theorem cZ.pR {N : Nat} {i : fI} {l : fL} {R R' : fR} (h : cZ N i l R) {o : Nat} {k : Int} {z : Option Nat} (he : R' = mU R o k z) (ho : o < N) : cZ N i l R' := fun a b q => by
  rw [he, mUne _ _ _ _ _ (by omega)]
  exact h a b q
theorem cNew {N : Nat} {i : fI} {l : fL} {R : fR} {kd : Nat ⊕ (Nat × Nat)} (hk : K0 N = kd) (hz : cZ N i l R) : sNew ((N, K0, i, l, R) : mS) kd = ((N + 1, K0, i, l, R) : mS) := by
  unfold sNew
  refine Prod.ext rfl (Prod.ext ?_ (Prod.ext ?_ (Prod.ext ?_ ?_)))
  · funext a
    show (if a = N then kd else K0 a) = K0 a
    by_cases e : a = N
    · rw [if_pos e, e, hk]
    · rw [if_neg e]
  · funext a b
    show (if a = N then 0 else i a b) = i a b
    by_cases e : a = N
    · rw [if_pos e, (hz a b (by omega)).1]
    · rw [if_neg e]
  · funext a b
    show (if a = N then 0 else l a b) = l a b
    by_cases e : a = N
    · rw [if_pos e, (hz a b (by omega)).2.1]
      rfl
    · rw [if_neg e]
  · funext a b
    show (if a = N then none else R a b) = R a b
    by_cases e : a = N
    · rw [if_pos e, (hz a b (by omega)).2.2]
    · rw [if_neg e]
/-- the first m references of the object o are laid -/
def yR (o m : Nat) (R : fR) : Prop := ∀ (k z : Nat), k < m → R0 o (k : Int) = some z → R o (k : Int) = some z
def zR (o : Nat) (R : fR) : Prop := ∀ (k z : Nat), R0 o (k : Int) = some z → R o (k : Int) = some z
theorem yR_0 (o : Nat) (R : fR) : yR o 0 R := fun k z h => absurd h (Nat.not_lt_zero k)
theorem yR_put {o m z : Nat} {R R' : fR} (h : yR o m R) (h0 : R0 o (m : Int) = some z) (he : R' = mU R o (m : Int) (some z)) : yR o (m + 1) R' := by
  intro k w hk hw
  rw [he]
  by_cases e : k = m
  · subst e
    rw [h0] at hw
    rw [mUs]
    exact hw
  · rw [mUek _ _ _ _ (by omega)]
    exact h k w (by omega) hw
theorem yR_skip {o m : Nat} {R : fR} (h : yR o m R) (h0 : R0 o (m : Int) = none) : yR o (m + 1) R := by
  intro k w hk hw
  by_cases e : k = m
  · subst e
    rw [h0] at hw
    cases hw
  · exact h k w (by omega) hw
theorem yR_oth {o o' m : Nat} {k : Int} {z : Option Nat} {R R' : fR} (h : yR o m R) (he : R' = mU R o' k z) (hne : o ≠ o') : yR o m R' := by
  intro k w hk hw
  rw [he, mUne _ _ _ _ _ hne]
  exact h k w hk hw
theorem yR_fr {o m : Nat} {R R' : fR} (h : yR o m R) (hf : ∀ b, R' o b = R o b) : yR o m R' := by
  intro k w hk hw
  rw [hf]
  exact h k w hk hw
theorem zR_of {o m : Nat} {R : fR} (h : yR o m R) (hn : (rL.getD o []).length ≤ m) : zR o R := by
  intro k z hz
  by_cases hk : k < m
  · exact h k z hk hz
  · exfalso
    unfold R0 at hz
    rw [Int.toNat_natCast, List.getD_eq_getElem?_getD, List.getElem?_eq_none (by omega)] at hz
    cases hz
theorem zR_nil {o : Nat} {R : fR} (hn : (rL.getD o []).length = 0) : zR o R := zR_of (yR_0 o R) (by omega)
theorem zR_fr {o : Nat} {R R' : fR} (h : zR o R) (hf : ∀ b, R' o b = R o b) : zR o R' := by
  intro k w hw
  rw [hf]
  exact h k w hw
def rg (a N : Nat) (R : fR) : Prop := ∀ o, a ≤ o → o < N → zR o R
theorem rg_0 (a : Nat) (R : fR) : rg a a R := fun o h0 h1 => by omega
theorem rg_oth {a N o' : Nat} {k : Int} {z : Option Nat} {R R' : fR} (h : rg a N R) (he : R' = mU R o' k z) (ho : o' < a ∨ N ≤ o') : rg a N R' := fun o h0 h1 => zR_fr (h o h0 h1) (fun b => by rw [he, mUne _ _ _ _ _ (by omega)])
theorem rg_fr {a N c M : Nat} {R R' : fR} (h : rg a N R) (hf : ∀ x b, x < c ∨ M ≤ x → R' x b = R x b) (hc : N ≤ c) : rg a N R' := fun o h0 h1 => zR_fr (h o h0 h1) (fun b => hf o b (by omega))
theorem rg_join {a N M : Nat} {R : fR} (h : rg a N R) (h2 : rg N M R) : rg a M R := fun o h0 h1 => by
  by_cases e : o < N
  · exact h o h0 e
  · exact h2 o (by omega) h1
theorem rg_one {a N : Nat} {R : fR} (h : rg a N R) (h2 : (rL.getD N []).length = 0) : rg a (N + 1) R := rg_join h (fun o h0 h1 => by rw [show o = N by omega]; exact zR_nil h2)
theorem rg_zR {a N : Nat} {R : fR} (h : zR a R) (h2 : rg (a + 1) N R) : rg a N R := fun o h0 h1 => by
  by_cases e : o = a
  · rw [e]; exact h
  · exact h2 o (by omega) h1
theorem choir_len {c : Nat} (h : isC c) : (rL.getD c []).length = 4 ∧ (rL.getD (c + 1) []).length = 10 ∧ ∀ j, j < 13 → (rL.getD (c + 2 + j) []).length = 0 := (by decide +kernel : ∀ c ∈ cL, (rL.getD c []).length = 4 ∧ (rL.getD (c + 1) []).length = 10 ∧ ∀ j, j < 13 → (rL.getD (c + 2 + j) []).length = 0) c h
theorem split_len {q : Nat} (h : isP q) : (rL.getD q []).length = 2 ∧ (rL.getD (q + 1) []).length = 0 ∧ (rL.getD (q + 2) []).length = 0 := by
  rcases h with rfl | rfl <;> decide +kernel
/-- what a maker leaves: its block of objects laid, all else as it was -/
def mkd (c M : Nat) (i : fI) (l : fL) (R : fR) (P : fI → fL → Prop) : Option mV → mS → Prop := fun v g' => v = none ∧ ∃ i' l' R', g' = ((M, K0, i', l', R') : mS) ∧ (∀ a b, a < c ∨ M ≤ a → i' a b = i a b ∧ l' a b = l a b ∧ R' a b = R a b) ∧ rg c M R' ∧ P i' l'
theorem mkd_cZ {c M N : Nat} {i i' : fI} {l l' : fL} {R R' : fR} (h : cZ N i l R) (hN : N ≤ M) (hf : ∀ a b, a < c ∨ M ≤ a → i' a b = i a b ∧ l' a b = l a b ∧ R' a b = R a b) : cZ M i' l' R' := fun a b q => by
  obtain ⟨h1, h2, h3⟩ := hf a b (Or.inr q)
  rw [h1, h2, h3]
  exact h a b (by omega)
theorem n_singer {g : mS} {o : Nat} : mCtr m_X5_init 1 0 0 [vR (some o)] g (fun v g' => v = none ∧ g' = g) := by
  refine mCtr_of pl_X5 dc_X5_init (Nat.le_of_ble_eq_true rfl) rfl ?_
  show mX m_X5_init 1 _ 0 0 0 [some (vR (some o))] [] g
  refine x_aload_n 0 rfl rfl ?_
  refine x_objInit 1 rfl ml_X5_3 (by decide) (Nat.le_of_ble_eq_true rfl) ?_
  exact x_ret 2 none rfl ⟨rfl, rfl⟩ ⟨rfl, rfl⟩
set_option maxRecDepth 20000 in
set_option maxHeartbeats 4000000 in
theorem n_choir {i : fI} {l : fL} {R : fR} {c : Nat} (hc : isC c) (hz : cZ (c) i l R) : mCtr m_X0_init 2 14 288 [vR (some (c))] ((c + 1, K0, i, l, R) : mS) (mkd (c) (c + 15) i l R (fun i' l' => (∀ a b, i' a b = if a = c + 12 ∧ 0 ≤ b ∧ b < 4 then mTF 2 b.toNat else i a b) ∧ l' = l)) := by
  refine mCtr_of pl_X0 dc_X0_init (Nat.le_of_ble_eq_true rfl) rfl ?_
  show mX m_X0_init 2 _ 14 288 0 [some (vR (some (c))), none] [] ((c + 1, K0, i, l, R) : mS)
  obtain ⟨len0, len1, len2⟩ := choir_len hc
  have hp0 := yR_0 (c) R
  have hg0 := rg_0 (c + 1) R
  have hz := hz.up (show c ≤ c + 1 by omega)
  have hfr : ∀ (a : Nat) (b : Int), (a < c ∨ c + 15 ≤ a) → R a b = R a b := fun _ _ _ => rfl
  have hfi : ∀ (a : Nat) (b : Int), (a < c ∨ c + 15 ≤ a) → i a b = i a b := fun _ _ _ => rfl
  have hfl : ∀ (a : Nat) (b : Int), (a < c ∨ c + 15 ≤ a) → l a b = l a b := fun _ _ _ => rfl
  refine x_aload_n 0 rfl rfl ?_
  refine x_objInit 1 rfl ml_X0_3 (by decide) (Nat.le_of_ble_eq_true rfl) ?_
  refine x_aload_n 2 rfl rfl ?_
  refine x_bipush 3 rfl (by decide) ?_
  refine x_newq5 4 (n := 10) (cb' := 13) (sb' := 278) rfl cl_X0_9 rfl (by decide) rfl rfl (g' := ((c + 2, K0, i, l, R) : mS)) (cNew (kCS hc) hz) ?_
  show mX m_X0_init 2 _ 13 278 _ _ [vR (some (c + 1)), vR (some (c))] _
  have hz := hz.up (show c + 1 ≤ c + 2 by omega)
  have hp1 := yR_0 (c + 1) R
  have hg0 := rg_0 (c + 2) R
  obtain ⟨R1, hR1⟩ : ∃ f, f = mU R (c) (0) (some (c + 1)) := ⟨_, rfl⟩
  refine x_putF 5 rfl fl_X0_11 (show c < c + 2 by omega) (kC hc) rfl (fun _ => ⟨rfl, rfl⟩) rfl (g' := (c + 2, K0, i, l, R1)) (by subst hR1; rfl) ?_
  have hz := hz.pR hR1 (show c < c + 2 by omega)
  have hp0 := yR_put hp0 (rC0 hc) hR1
  have hp1 := yR_oth hp1 hR1 (by omega)
  have hg0 := rg_oth hg0 hR1 (by omega)
  have hfr : ∀ (a : Nat) (b : Int), (a < c ∨ c + 15 ≤ a) → R1 a b = R a b := fun a b q => by rw [hR1]; exact (mUne _ _ _ _ _ (by omega)).trans (hfr a b q)
  refine x_iconst 6 rfl ?_
  refine x_istore_n 7 (L' := [some (vR (some (c))), some (vI 0)]) rfl (by decide) rfl rfl ?_
  refine x_iload_n 8 rfl rfl ?_
  refine x_bipush 9 rfl (by decide) ?_
  refine x_icmp_ge 10 (tgt := 40) rfl (by decide) (by decide) (fun h => absurd h (by decide)) (fun _ => ?_)
  refine x_aload_n 11 rfl rfl ?_
  refine x_getR 12 (z := (c + 1)) rfl fl_X0_11 (show c < c + 2 by omega) (kC hc) rfl (hp0 0 _ (by decide) (rC0 hc)) ?_
  refine x_iload_n 13 rfl rfl ?_
  refine x_new 14 (ci := 5) (cb' := 12) (sb' := 267) rfl rfl cl_X0_9 ins_X5 ini_X5 rfl rfl (g' := ((c + 3, K0, i, l, R1) : mS)) (cNew (show K0 (c + 2) = .inl 5 from kCs hc (k := 0) (by decide)) hz) ?_
  show mX m_X0_init 2 _ 12 267 _ _ [vR (some (c + 2)), vI (0), vR (some (c + 1))] _
  refine x_dup 15 rfl rfl ?_
  refine x_callIN 16 (cb' := 12) (sb' := 267) m_X5_init n_singer rfl ok_X5_init rfl rfl (by decide +kernel) im_X5_init rfl (by decide) rfl (Nat.le_of_ble_eq_true rfl) rfl rfl (fun v g' q2 => ?_)
  obtain ⟨rfl, rfl⟩ := q2
  show mX m_X0_init 2 _ 12 267 _ _ [vR (some (c + 2)), vI (0), vR (some (c + 1))] _
  have hz := hz.up (show c + 2 ≤ c + 3 by omega)
  have hg0 := rg_one hg0 (len2 0 (by decide))
  obtain ⟨R3, hR3⟩ : ∃ f, f = mU R1 (c + 1) (0) (some (c + 2)) := ⟨_, rfl⟩
  refine x_aast 17 (t := 3) (n := 10) (ci := 5) rfl (show c + 1 < c + 3 by omega) (kCS hc) rfl rfl (show c + 2 < c + 3 by omega) (show K0 (c + 2) = .inl 5 from kCs hc (k := 0) (by decide)) (by omega) (g' := (c + 3, K0, i, l, R3)) (by subst hR3; rfl) ?_
  have hz := hz.pR hR3 (show c + 1 < c + 3 by omega)
  have hp0 := yR_oth hp0 hR3 (by omega)
  have hp1 := yR_put hp1 (show R0 (c + 1) ((0 : Nat) : Int) = some (c + 2) from rCs hc (x := 0) (by decide)) hR3
  have hg0 := rg_oth hg0 hR3 (by omega)
  have hfr : ∀ (a : Nat) (b : Int), (a < c ∨ c + 15 ≤ a) → R3 a b = R a b := fun a b q => by rw [hR3]; exact (mUne _ _ _ _ _ (by omega)).trans (hfr a b q)
  refine x_iinc 18 (L' := [some (vR (some (c))), some (vI 1)]) rfl (by decide) rfl rfl rfl rfl ?_
  refine x_goto 19 (tgt := 15) rfl (by decide) ?_
  refine x_iload_n 8 rfl rfl ?_
  refine x_bipush 9 rfl (by decide) ?_
  refine x_icmp_ge 10 (tgt := 40) rfl (by decide) (by decide) (fun h => absurd h (by decide)) (fun _ => ?_)
  refine x_aload_n 11 rfl rfl ?_
  refine x_getR 12 (z := (c + 1)) rfl fl_X0_11 (show c < c + 3 by omega) (kC hc) rfl (hp0 0 _ (by decide) (rC0 hc)) ?_
  refine x_iload_n 13 rfl rfl ?_
  refine x_new 14 (ci := 5) (cb' := 11) (sb' := 256) rfl rfl cl_X0_9 ins_X5 ini_X5 rfl rfl (g' := ((c + 4, K0, i, l, R3) : mS)) (cNew (show K0 (c + 3) = .inl 5 from kCs hc (k := 1) (by decide)) hz) ?_
  show mX m_X0_init 2 _ 11 256 _ _ [vR (some (c + 3)), vI (1), vR (some (c + 1))] _
  refine x_dup 15 rfl rfl ?_
  refine x_callIN 16 (cb' := 11) (sb' := 256) m_X5_init n_singer rfl ok_X5_init rfl rfl (by decide +kernel) im_X5_init rfl (by decide) rfl (Nat.le_of_ble_eq_true rfl) rfl rfl (fun v g' q4 => ?_)
  obtain ⟨rfl, rfl⟩ := q4
  show mX m_X0_init 2 _ 11 256 _ _ [vR (some (c + 3)), vI (1), vR (some (c + 1))] _
  have hz := hz.up (show c + 3 ≤ c + 4 by omega)
  have hg0 := rg_one hg0 (len2 1 (by decide))
  obtain ⟨R5, hR5⟩ : ∃ f, f = mU R3 (c + 1) (1) (some (c + 3)) := ⟨_, rfl⟩
  refine x_aast 17 (t := 3) (n := 10) (ci := 5) rfl (show c + 1 < c + 4 by omega) (kCS hc) rfl rfl (show c + 3 < c + 4 by omega) (show K0 (c + 3) = .inl 5 from kCs hc (k := 1) (by decide)) (by omega) (g' := (c + 4, K0, i, l, R5)) (by subst hR5; rfl) ?_
  have hz := hz.pR hR5 (show c + 1 < c + 4 by omega)
  have hp0 := yR_oth hp0 hR5 (by omega)
  have hp1 := yR_put hp1 (show R0 (c + 1) ((1 : Nat) : Int) = some (c + 3) from rCs hc (x := 1) (by decide)) hR5
  have hg0 := rg_oth hg0 hR5 (by omega)
  have hfr : ∀ (a : Nat) (b : Int), (a < c ∨ c + 15 ≤ a) → R5 a b = R a b := fun a b q => by rw [hR5]; exact (mUne _ _ _ _ _ (by omega)).trans (hfr a b q)
  refine x_iinc 18 (L' := [some (vR (some (c))), some (vI 2)]) rfl (by decide) rfl rfl rfl rfl ?_
  refine x_goto 19 (tgt := 15) rfl (by decide) ?_
  refine x_iload_n 8 rfl rfl ?_
  refine x_bipush 9 rfl (by decide) ?_
  refine x_icmp_ge 10 (tgt := 40) rfl (by decide) (by decide) (fun h => absurd h (by decide)) (fun _ => ?_)
  refine x_aload_n 11 rfl rfl ?_
  refine x_getR 12 (z := (c + 1)) rfl fl_X0_11 (show c < c + 4 by omega) (kC hc) rfl (hp0 0 _ (by decide) (rC0 hc)) ?_
  refine x_iload_n 13 rfl rfl ?_
  refine x_new 14 (ci := 5) (cb' := 10) (sb' := 245) rfl rfl cl_X0_9 ins_X5 ini_X5 rfl rfl (g' := ((c + 5, K0, i, l, R5) : mS)) (cNew (show K0 (c + 4) = .inl 5 from kCs hc (k := 2) (by decide)) hz) ?_
  show mX m_X0_init 2 _ 10 245 _ _ [vR (some (c + 4)), vI (2), vR (some (c + 1))] _
  refine x_dup 15 rfl rfl ?_
  refine x_callIN 16 (cb' := 10) (sb' := 245) m_X5_init n_singer rfl ok_X5_init rfl rfl (by decide +kernel) im_X5_init rfl (by decide) rfl (Nat.le_of_ble_eq_true rfl) rfl rfl (fun v g' q6 => ?_)
  obtain ⟨rfl, rfl⟩ := q6
  show mX m_X0_init 2 _ 10 245 _ _ [vR (some (c + 4)), vI (2), vR (some (c + 1))] _
  have hz := hz.up (show c + 4 ≤ c + 5 by omega)
  have hg0 := rg_one hg0 (len2 2 (by decide))
  obtain ⟨R7, hR7⟩ : ∃ f, f = mU R5 (c + 1) (2) (some (c + 4)) := ⟨_, rfl⟩
  refine x_aast 17 (t := 3) (n := 10) (ci := 5) rfl (show c + 1 < c + 5 by omega) (kCS hc) rfl rfl (show c + 4 < c + 5 by omega) (show K0 (c + 4) = .inl 5 from kCs hc (k := 2) (by decide)) (by omega) (g' := (c + 5, K0, i, l, R7)) (by subst hR7; rfl) ?_
  have hz := hz.pR hR7 (show c + 1 < c + 5 by omega)
  have hp0 := yR_oth hp0 hR7 (by omega)
  have hp1 := yR_put hp1 (show R0 (c + 1) ((2 : Nat) : Int) = some (c + 4) from rCs hc (x := 2) (by decide)) hR7
  have hg0 := rg_oth hg0 hR7 (by omega)
  have hfr : ∀ (a : Nat) (b : Int), (a < c ∨ c + 15 ≤ a) → R7 a b = R a b := fun a b q => by rw [hR7]; exact (mUne _ _ _ _ _ (by omega)).trans (hfr a b q)
  refine x_iinc 18 (L' := [some (vR (some (c))), some (vI 3)]) rfl (by decide) rfl rfl rfl rfl ?_
  refine x_goto 19 (tgt := 15) rfl (by decide) ?_
  refine x_iload_n 8 rfl rfl ?_
  refine x_bipush 9 rfl (by decide) ?_
  refine x_icmp_ge 10 (tgt := 40) rfl (by decide) (by decide) (fun h => absurd h (by decide)) (fun _ => ?_)
  refine x_aload_n 11 rfl rfl ?_
  refine x_getR 12 (z := (c + 1)) rfl fl_X0_11 (show c < c + 5 by omega) (kC hc) rfl (hp0 0 _ (by decide) (rC0 hc)) ?_
  refine x_iload_n 13 rfl rfl ?_
  refine x_new 14 (ci := 5) (cb' := 9) (sb' := 234) rfl rfl cl_X0_9 ins_X5 ini_X5 rfl rfl (g' := ((c + 6, K0, i, l, R7) : mS)) (cNew (show K0 (c + 5) = .inl 5 from kCs hc (k := 3) (by decide)) hz) ?_
  show mX m_X0_init 2 _ 9 234 _ _ [vR (some (c + 5)), vI (3), vR (some (c + 1))] _
  refine x_dup 15 rfl rfl ?_
  refine x_callIN 16 (cb' := 9) (sb' := 234) m_X5_init n_singer rfl ok_X5_init rfl rfl (by decide +kernel) im_X5_init rfl (by decide) rfl (Nat.le_of_ble_eq_true rfl) rfl rfl (fun v g' q8 => ?_)
  obtain ⟨rfl, rfl⟩ := q8
  show mX m_X0_init 2 _ 9 234 _ _ [vR (some (c + 5)), vI (3), vR (some (c + 1))] _
  have hz := hz.up (show c + 5 ≤ c + 6 by omega)
  have hg0 := rg_one hg0 (len2 3 (by decide))
  obtain ⟨R9, hR9⟩ : ∃ f, f = mU R7 (c + 1) (3) (some (c + 5)) := ⟨_, rfl⟩
  refine x_aast 17 (t := 3) (n := 10) (ci := 5) rfl (show c + 1 < c + 6 by omega) (kCS hc) rfl rfl (show c + 5 < c + 6 by omega) (show K0 (c + 5) = .inl 5 from kCs hc (k := 3) (by decide)) (by omega) (g' := (c + 6, K0, i, l, R9)) (by subst hR9; rfl) ?_
  have hz := hz.pR hR9 (show c + 1 < c + 6 by omega)
  have hp0 := yR_oth hp0 hR9 (by omega)
  have hp1 := yR_put hp1 (show R0 (c + 1) ((3 : Nat) : Int) = some (c + 5) from rCs hc (x := 3) (by decide)) hR9
  have hg0 := rg_oth hg0 hR9 (by omega)
  have hfr : ∀ (a : Nat) (b : Int), (a < c ∨ c + 15 ≤ a) → R9 a b = R a b := fun a b q => by rw [hR9]; exact (mUne _ _ _ _ _ (by omega)).trans (hfr a b q)
  refine x_iinc 18 (L' := [some (vR (some (c))), some (vI 4)]) rfl (by decide) rfl rfl rfl rfl ?_
  refine x_goto 19 (tgt := 15) rfl (by decide) ?_
  refine x_iload_n 8 rfl rfl ?_
  refine x_bipush 9 rfl (by decide) ?_
  refine x_icmp_ge 10 (tgt := 40) rfl (by decide) (by decide) (fun h => absurd h (by decide)) (fun _ => ?_)
  refine x_aload_n 11 rfl rfl ?_
  refine x_getR 12 (z := (c + 1)) rfl fl_X0_11 (show c < c + 6 by omega) (kC hc) rfl (hp0 0 _ (by decide) (rC0 hc)) ?_
  refine x_iload_n 13 rfl rfl ?_
  refine x_new 14 (ci := 5) (cb' := 8) (sb' := 223) rfl rfl cl_X0_9 ins_X5 ini_X5 rfl rfl (g' := ((c + 7, K0, i, l, R9) : mS)) (cNew (show K0 (c + 6) = .inl 5 from kCs hc (k := 4) (by decide)) hz) ?_
  show mX m_X0_init 2 _ 8 223 _ _ [vR (some (c + 6)), vI (4), vR (some (c + 1))] _
  refine x_dup 15 rfl rfl ?_
  refine x_callIN 16 (cb' := 8) (sb' := 223) m_X5_init n_singer rfl ok_X5_init rfl rfl (by decide +kernel) im_X5_init rfl (by decide) rfl (Nat.le_of_ble_eq_true rfl) rfl rfl (fun v g' q10 => ?_)
  obtain ⟨rfl, rfl⟩ := q10
  show mX m_X0_init 2 _ 8 223 _ _ [vR (some (c + 6)), vI (4), vR (some (c + 1))] _
  have hz := hz.up (show c + 6 ≤ c + 7 by omega)
  have hg0 := rg_one hg0 (len2 4 (by decide))
  obtain ⟨R11, hR11⟩ : ∃ f, f = mU R9 (c + 1) (4) (some (c + 6)) := ⟨_, rfl⟩
  refine x_aast 17 (t := 3) (n := 10) (ci := 5) rfl (show c + 1 < c + 7 by omega) (kCS hc) rfl rfl (show c + 6 < c + 7 by omega) (show K0 (c + 6) = .inl 5 from kCs hc (k := 4) (by decide)) (by omega) (g' := (c + 7, K0, i, l, R11)) (by subst hR11; rfl) ?_
  have hz := hz.pR hR11 (show c + 1 < c + 7 by omega)
  have hp0 := yR_oth hp0 hR11 (by omega)
  have hp1 := yR_put hp1 (show R0 (c + 1) ((4 : Nat) : Int) = some (c + 6) from rCs hc (x := 4) (by decide)) hR11
  have hg0 := rg_oth hg0 hR11 (by omega)
  have hfr : ∀ (a : Nat) (b : Int), (a < c ∨ c + 15 ≤ a) → R11 a b = R a b := fun a b q => by rw [hR11]; exact (mUne _ _ _ _ _ (by omega)).trans (hfr a b q)
  refine x_iinc 18 (L' := [some (vR (some (c))), some (vI 5)]) rfl (by decide) rfl rfl rfl rfl ?_
  refine x_goto 19 (tgt := 15) rfl (by decide) ?_
  refine x_iload_n 8 rfl rfl ?_
  refine x_bipush 9 rfl (by decide) ?_
  refine x_icmp_ge 10 (tgt := 40) rfl (by decide) (by decide) (fun h => absurd h (by decide)) (fun _ => ?_)
  refine x_aload_n 11 rfl rfl ?_
  refine x_getR 12 (z := (c + 1)) rfl fl_X0_11 (show c < c + 7 by omega) (kC hc) rfl (hp0 0 _ (by decide) (rC0 hc)) ?_
  refine x_iload_n 13 rfl rfl ?_
  refine x_new 14 (ci := 5) (cb' := 7) (sb' := 212) rfl rfl cl_X0_9 ins_X5 ini_X5 rfl rfl (g' := ((c + 8, K0, i, l, R11) : mS)) (cNew (show K0 (c + 7) = .inl 5 from kCs hc (k := 5) (by decide)) hz) ?_
  show mX m_X0_init 2 _ 7 212 _ _ [vR (some (c + 7)), vI (5), vR (some (c + 1))] _
  refine x_dup 15 rfl rfl ?_
  refine x_callIN 16 (cb' := 7) (sb' := 212) m_X5_init n_singer rfl ok_X5_init rfl rfl (by decide +kernel) im_X5_init rfl (by decide) rfl (Nat.le_of_ble_eq_true rfl) rfl rfl (fun v g' q12 => ?_)
  obtain ⟨rfl, rfl⟩ := q12
  show mX m_X0_init 2 _ 7 212 _ _ [vR (some (c + 7)), vI (5), vR (some (c + 1))] _
  have hz := hz.up (show c + 7 ≤ c + 8 by omega)
  have hg0 := rg_one hg0 (len2 5 (by decide))
  obtain ⟨R13, hR13⟩ : ∃ f, f = mU R11 (c + 1) (5) (some (c + 7)) := ⟨_, rfl⟩
  refine x_aast 17 (t := 3) (n := 10) (ci := 5) rfl (show c + 1 < c + 8 by omega) (kCS hc) rfl rfl (show c + 7 < c + 8 by omega) (show K0 (c + 7) = .inl 5 from kCs hc (k := 5) (by decide)) (by omega) (g' := (c + 8, K0, i, l, R13)) (by subst hR13; rfl) ?_
  have hz := hz.pR hR13 (show c + 1 < c + 8 by omega)
  have hp0 := yR_oth hp0 hR13 (by omega)
  have hp1 := yR_put hp1 (show R0 (c + 1) ((5 : Nat) : Int) = some (c + 7) from rCs hc (x := 5) (by decide)) hR13
  have hg0 := rg_oth hg0 hR13 (by omega)
  have hfr : ∀ (a : Nat) (b : Int), (a < c ∨ c + 15 ≤ a) → R13 a b = R a b := fun a b q => by rw [hR13]; exact (mUne _ _ _ _ _ (by omega)).trans (hfr a b q)
  refine x_iinc 18 (L' := [some (vR (some (c))), some (vI 6)]) rfl (by decide) rfl rfl rfl rfl ?_
  refine x_goto 19 (tgt := 15) rfl (by decide) ?_
  refine x_iload_n 8 rfl rfl ?_
  refine x_bipush 9 rfl (by decide) ?_
  refine x_icmp_ge 10 (tgt := 40) rfl (by decide) (by decide) (fun h => absurd h (by decide)) (fun _ => ?_)
  refine x_aload_n 11 rfl rfl ?_
  refine x_getR 12 (z := (c + 1)) rfl fl_X0_11 (show c < c + 8 by omega) (kC hc) rfl (hp0 0 _ (by decide) (rC0 hc)) ?_
  refine x_iload_n 13 rfl rfl ?_
  refine x_new 14 (ci := 5) (cb' := 6) (sb' := 201) rfl rfl cl_X0_9 ins_X5 ini_X5 rfl rfl (g' := ((c + 9, K0, i, l, R13) : mS)) (cNew (show K0 (c + 8) = .inl 5 from kCs hc (k := 6) (by decide)) hz) ?_
  show mX m_X0_init 2 _ 6 201 _ _ [vR (some (c + 8)), vI (6), vR (some (c + 1))] _
  refine x_dup 15 rfl rfl ?_
  refine x_callIN 16 (cb' := 6) (sb' := 201) m_X5_init n_singer rfl ok_X5_init rfl rfl (by decide +kernel) im_X5_init rfl (by decide) rfl (Nat.le_of_ble_eq_true rfl) rfl rfl (fun v g' q14 => ?_)
  obtain ⟨rfl, rfl⟩ := q14
  show mX m_X0_init 2 _ 6 201 _ _ [vR (some (c + 8)), vI (6), vR (some (c + 1))] _
  have hz := hz.up (show c + 8 ≤ c + 9 by omega)
  have hg0 := rg_one hg0 (len2 6 (by decide))
  obtain ⟨R15, hR15⟩ : ∃ f, f = mU R13 (c + 1) (6) (some (c + 8)) := ⟨_, rfl⟩
  refine x_aast 17 (t := 3) (n := 10) (ci := 5) rfl (show c + 1 < c + 9 by omega) (kCS hc) rfl rfl (show c + 8 < c + 9 by omega) (show K0 (c + 8) = .inl 5 from kCs hc (k := 6) (by decide)) (by omega) (g' := (c + 9, K0, i, l, R15)) (by subst hR15; rfl) ?_
  have hz := hz.pR hR15 (show c + 1 < c + 9 by omega)
  have hp0 := yR_oth hp0 hR15 (by omega)
  have hp1 := yR_put hp1 (show R0 (c + 1) ((6 : Nat) : Int) = some (c + 8) from rCs hc (x := 6) (by decide)) hR15
  have hg0 := rg_oth hg0 hR15 (by omega)
  have hfr : ∀ (a : Nat) (b : Int), (a < c ∨ c + 15 ≤ a) → R15 a b = R a b := fun a b q => by rw [hR15]; exact (mUne _ _ _ _ _ (by omega)).trans (hfr a b q)
  refine x_iinc 18 (L' := [some (vR (some (c))), some (vI 7)]) rfl (by decide) rfl rfl rfl rfl ?_
  refine x_goto 19 (tgt := 15) rfl (by decide) ?_
  refine x_iload_n 8 rfl rfl ?_
  refine x_bipush 9 rfl (by decide) ?_
  refine x_icmp_ge 10 (tgt := 40) rfl (by decide) (by decide) (fun h => absurd h (by decide)) (fun _ => ?_)
  refine x_aload_n 11 rfl rfl ?_
  refine x_getR 12 (z := (c + 1)) rfl fl_X0_11 (show c < c + 9 by omega) (kC hc) rfl (hp0 0 _ (by decide) (rC0 hc)) ?_
  refine x_iload_n 13 rfl rfl ?_
  refine x_new 14 (ci := 5) (cb' := 5) (sb' := 190) rfl rfl cl_X0_9 ins_X5 ini_X5 rfl rfl (g' := ((c + 10, K0, i, l, R15) : mS)) (cNew (show K0 (c + 9) = .inl 5 from kCs hc (k := 7) (by decide)) hz) ?_
  show mX m_X0_init 2 _ 5 190 _ _ [vR (some (c + 9)), vI (7), vR (some (c + 1))] _
  refine x_dup 15 rfl rfl ?_
  refine x_callIN 16 (cb' := 5) (sb' := 190) m_X5_init n_singer rfl ok_X5_init rfl rfl (by decide +kernel) im_X5_init rfl (by decide) rfl (Nat.le_of_ble_eq_true rfl) rfl rfl (fun v g' q16 => ?_)
  obtain ⟨rfl, rfl⟩ := q16
  show mX m_X0_init 2 _ 5 190 _ _ [vR (some (c + 9)), vI (7), vR (some (c + 1))] _
  have hz := hz.up (show c + 9 ≤ c + 10 by omega)
  have hg0 := rg_one hg0 (len2 7 (by decide))
  obtain ⟨R17, hR17⟩ : ∃ f, f = mU R15 (c + 1) (7) (some (c + 9)) := ⟨_, rfl⟩
  refine x_aast 17 (t := 3) (n := 10) (ci := 5) rfl (show c + 1 < c + 10 by omega) (kCS hc) rfl rfl (show c + 9 < c + 10 by omega) (show K0 (c + 9) = .inl 5 from kCs hc (k := 7) (by decide)) (by omega) (g' := (c + 10, K0, i, l, R17)) (by subst hR17; rfl) ?_
  have hz := hz.pR hR17 (show c + 1 < c + 10 by omega)
  have hp0 := yR_oth hp0 hR17 (by omega)
  have hp1 := yR_put hp1 (show R0 (c + 1) ((7 : Nat) : Int) = some (c + 9) from rCs hc (x := 7) (by decide)) hR17
  have hg0 := rg_oth hg0 hR17 (by omega)
  have hfr : ∀ (a : Nat) (b : Int), (a < c ∨ c + 15 ≤ a) → R17 a b = R a b := fun a b q => by rw [hR17]; exact (mUne _ _ _ _ _ (by omega)).trans (hfr a b q)
  refine x_iinc 18 (L' := [some (vR (some (c))), some (vI 8)]) rfl (by decide) rfl rfl rfl rfl ?_
  refine x_goto 19 (tgt := 15) rfl (by decide) ?_
  refine x_iload_n 8 rfl rfl ?_
  refine x_bipush 9 rfl (by decide) ?_
  refine x_icmp_ge 10 (tgt := 40) rfl (by decide) (by decide) (fun h => absurd h (by decide)) (fun _ => ?_)
  refine x_aload_n 11 rfl rfl ?_
  refine x_getR 12 (z := (c + 1)) rfl fl_X0_11 (show c < c + 10 by omega) (kC hc) rfl (hp0 0 _ (by decide) (rC0 hc)) ?_
  refine x_iload_n 13 rfl rfl ?_
  refine x_new 14 (ci := 5) (cb' := 4) (sb' := 179) rfl rfl cl_X0_9 ins_X5 ini_X5 rfl rfl (g' := ((c + 11, K0, i, l, R17) : mS)) (cNew (show K0 (c + 10) = .inl 5 from kCs hc (k := 8) (by decide)) hz) ?_
  show mX m_X0_init 2 _ 4 179 _ _ [vR (some (c + 10)), vI (8), vR (some (c + 1))] _
  refine x_dup 15 rfl rfl ?_
  refine x_callIN 16 (cb' := 4) (sb' := 179) m_X5_init n_singer rfl ok_X5_init rfl rfl (by decide +kernel) im_X5_init rfl (by decide) rfl (Nat.le_of_ble_eq_true rfl) rfl rfl (fun v g' q18 => ?_)
  obtain ⟨rfl, rfl⟩ := q18
  show mX m_X0_init 2 _ 4 179 _ _ [vR (some (c + 10)), vI (8), vR (some (c + 1))] _
  have hz := hz.up (show c + 10 ≤ c + 11 by omega)
  have hg0 := rg_one hg0 (len2 8 (by decide))
  obtain ⟨R19, hR19⟩ : ∃ f, f = mU R17 (c + 1) (8) (some (c + 10)) := ⟨_, rfl⟩
  refine x_aast 17 (t := 3) (n := 10) (ci := 5) rfl (show c + 1 < c + 11 by omega) (kCS hc) rfl rfl (show c + 10 < c + 11 by omega) (show K0 (c + 10) = .inl 5 from kCs hc (k := 8) (by decide)) (by omega) (g' := (c + 11, K0, i, l, R19)) (by subst hR19; rfl) ?_
  have hz := hz.pR hR19 (show c + 1 < c + 11 by omega)
  have hp0 := yR_oth hp0 hR19 (by omega)
  have hp1 := yR_put hp1 (show R0 (c + 1) ((8 : Nat) : Int) = some (c + 10) from rCs hc (x := 8) (by decide)) hR19
  have hg0 := rg_oth hg0 hR19 (by omega)
  have hfr : ∀ (a : Nat) (b : Int), (a < c ∨ c + 15 ≤ a) → R19 a b = R a b := fun a b q => by rw [hR19]; exact (mUne _ _ _ _ _ (by omega)).trans (hfr a b q)
  refine x_iinc 18 (L' := [some (vR (some (c))), some (vI 9)]) rfl (by decide) rfl rfl rfl rfl ?_
  refine x_goto 19 (tgt := 15) rfl (by decide) ?_
  refine x_iload_n 8 rfl rfl ?_
  refine x_bipush 9 rfl (by decide) ?_
  refine x_icmp_ge 10 (tgt := 40) rfl (by decide) (by decide) (fun h => absurd h (by decide)) (fun _ => ?_)
  refine x_aload_n 11 rfl rfl ?_
  refine x_getR 12 (z := (c + 1)) rfl fl_X0_11 (show c < c + 11 by omega) (kC hc) rfl (hp0 0 _ (by decide) (rC0 hc)) ?_
  refine x_iload_n 13 rfl rfl ?_
  refine x_new 14 (ci := 5) (cb' := 3) (sb' := 168) rfl rfl cl_X0_9 ins_X5 ini_X5 rfl rfl (g' := ((c + 12, K0, i, l, R19) : mS)) (cNew (show K0 (c + 11) = .inl 5 from kCs hc (k := 9) (by decide)) hz) ?_
  show mX m_X0_init 2 _ 3 168 _ _ [vR (some (c + 11)), vI (9), vR (some (c + 1))] _
  refine x_dup 15 rfl rfl ?_
  refine x_callIN 16 (cb' := 3) (sb' := 168) m_X5_init n_singer rfl ok_X5_init rfl rfl (by decide +kernel) im_X5_init rfl (by decide) rfl (Nat.le_of_ble_eq_true rfl) rfl rfl (fun v g' q20 => ?_)
  obtain ⟨rfl, rfl⟩ := q20
  show mX m_X0_init 2 _ 3 168 _ _ [vR (some (c + 11)), vI (9), vR (some (c + 1))] _
  have hz := hz.up (show c + 11 ≤ c + 12 by omega)
  have hg0 := rg_one hg0 (len2 9 (by decide))
  obtain ⟨R21, hR21⟩ : ∃ f, f = mU R19 (c + 1) (9) (some (c + 11)) := ⟨_, rfl⟩
  refine x_aast 17 (t := 3) (n := 10) (ci := 5) rfl (show c + 1 < c + 12 by omega) (kCS hc) rfl rfl (show c + 11 < c + 12 by omega) (show K0 (c + 11) = .inl 5 from kCs hc (k := 9) (by decide)) (by omega) (g' := (c + 12, K0, i, l, R21)) (by subst hR21; rfl) ?_
  have hz := hz.pR hR21 (show c + 1 < c + 12 by omega)
  have hp0 := yR_oth hp0 hR21 (by omega)
  have hp1 := yR_put hp1 (show R0 (c + 1) ((9 : Nat) : Int) = some (c + 11) from rCs hc (x := 9) (by decide)) hR21
  have hg0 := rg_oth hg0 hR21 (by omega)
  have hfr : ∀ (a : Nat) (b : Int), (a < c ∨ c + 15 ≤ a) → R21 a b = R a b := fun a b q => by rw [hR21]; exact (mUne _ _ _ _ _ (by omega)).trans (hfr a b q)
  refine x_iinc 18 (L' := [some (vR (some (c))), some (vI 10)]) rfl (by decide) rfl rfl rfl rfl ?_
  refine x_goto 19 (tgt := 15) rfl (by decide) ?_
  refine x_iload_n 8 rfl rfl ?_
  refine x_bipush 9 rfl (by decide) ?_
  refine x_icmp_ge 10 (tgt := 40) rfl (by decide) (by decide) (fun _ => ?_) (fun h => absurd h (by decide))
  refine x_aload_n 20 rfl rfl ?_
  refine x_iconst 21 rfl ?_
  refine x_newa 22 (t := 0) (n := 4) (cb' := 2) (sb' := 164) rfl rfl (by decide) ac_int rfl (by decide) rfl rfl (g' := ((c + 13, K0, i, l, R21) : mS)) (cNew (kCT hc) hz) ?_
  show mX m_X0_init 2 _ 2 164 _ _ [vR (some (c + 12)), vR (some (c))] _
  have hz := hz.up (show c + 12 ≤ c + 13 by omega)
  have hg0 := rg_one hg0 (len2 10 (by decide))
  obtain ⟨R22, hR22⟩ : ∃ f, f = mU R21 (c) (1) (some (c + 12)) := ⟨_, rfl⟩
  refine x_putF 23 rfl fl_X0_18 (show c < c + 13 by omega) (kC hc) rfl (fun _ => ⟨rfl, rfl⟩) rfl (g' := (c + 13, K0, i, l, R22)) (by subst hR22; rfl) ?_
  have hz := hz.pR hR22 (show c < c + 13 by omega)
  have hp0 := yR_put hp0 (rC1 hc) hR22
  have hp1 := yR_oth hp1 hR22 (by omega)
  have hg0 := rg_oth hg0 hR22 (by omega)
  have hfr : ∀ (a : Nat) (b : Int), (a < c ∨ c + 15 ≤ a) → R22 a b = R a b := fun a b q => by rw [hR22]; exact (mUne _ _ _ _ _ (by omega)).trans (hfr a b q)
  refine x_iconst 24 rfl ?_
  refine x_istore_n 25 (L' := [some (vR (some (c))), some (vI 0)]) rfl (by decide) rfl rfl ?_
  refine x_iload_n 26 rfl rfl ?_
  refine x_iconst 27 rfl ?_
  refine x_icmp_ge 28 (tgt := 71) rfl (by decide) (by decide) (fun h => absurd h (by decide)) (fun _ => ?_)
  refine x_aload_n 29 rfl rfl ?_
  refine x_getR 30 (z := (c + 12)) rfl fl_X0_18 (show c < c + 13 by omega) (kC hc) rfl (hp0 1 _ (by decide) (rC1 hc)) ?_
  refine x_iload_n 31 rfl rfl ?_
  refine x_getsN 32 (t := 2) rfl (by decide) (by decide +kernel) ?_
  refine x_iload_n 33 rfl rfl ?_
  refine x_tald 34 (z := mTF 2 (0 : Int).toNat) rfl (by decide) (by decide) rfl ?_
  obtain ⟨i23, hi23⟩ : ∃ f, f = mU i (c + 12) 0 (mTF 2 (0 : Int).toNat) := ⟨_, rfl⟩
  refine x_iast 35 (n := 4) rfl (show c + 12 < c + 13 by omega) (kCT hc) (by omega) (g' := (c + 13, K0, i23, l, R22)) (by subst hi23; rfl) ?_
  have hz := hz.pI hi23 (show c + 12 < c + 13 by omega)
  have hfi : ∀ (a : Nat) (b : Int), (a < c ∨ c + 15 ≤ a) → i23 a b = i a b := fun a b q => by rw [hi23]; exact (mUne _ _ _ _ _ (by omega)).trans (hfi a b q)
  refine x_iinc 36 (L' := [some (vR (some (c))), some (vI 1)]) rfl (by decide) rfl rfl rfl rfl ?_
  refine x_goto 37 (tgt := 49) rfl (by decide) ?_
  refine x_iload_n 26 rfl rfl ?_
  refine x_iconst 27 rfl ?_
  refine x_icmp_ge 28 (tgt := 71) rfl (by decide) (by decide) (fun h => absurd h (by decide)) (fun _ => ?_)
  refine x_aload_n 29 rfl rfl ?_
  refine x_getR 30 (z := (c + 12)) rfl fl_X0_18 (show c < c + 13 by omega) (kC hc) rfl (hp0 1 _ (by decide) (rC1 hc)) ?_
  refine x_iload_n 31 rfl rfl ?_
  refine x_getsN 32 (t := 2) rfl (by decide) (by decide +kernel) ?_
  refine x_iload_n 33 rfl rfl ?_
  refine x_tald 34 (z := mTF 2 (1 : Int).toNat) rfl (by decide) (by decide) rfl ?_
  obtain ⟨i24, hi24⟩ : ∃ f, f = mU i23 (c + 12) 1 (mTF 2 (1 : Int).toNat) := ⟨_, rfl⟩
  refine x_iast 35 (n := 4) rfl (show c + 12 < c + 13 by omega) (kCT hc) (by omega) (g' := (c + 13, K0, i24, l, R22)) (by subst hi24; rfl) ?_
  have hz := hz.pI hi24 (show c + 12 < c + 13 by omega)
  have hfi : ∀ (a : Nat) (b : Int), (a < c ∨ c + 15 ≤ a) → i24 a b = i a b := fun a b q => by rw [hi24]; exact (mUne _ _ _ _ _ (by omega)).trans (hfi a b q)
  refine x_iinc 36 (L' := [some (vR (some (c))), some (vI 2)]) rfl (by decide) rfl rfl rfl rfl ?_
  refine x_goto 37 (tgt := 49) rfl (by decide) ?_
  refine x_iload_n 26 rfl rfl ?_
  refine x_iconst 27 rfl ?_
  refine x_icmp_ge 28 (tgt := 71) rfl (by decide) (by decide) (fun h => absurd h (by decide)) (fun _ => ?_)
  refine x_aload_n 29 rfl rfl ?_
  refine x_getR 30 (z := (c + 12)) rfl fl_X0_18 (show c < c + 13 by omega) (kC hc) rfl (hp0 1 _ (by decide) (rC1 hc)) ?_
  refine x_iload_n 31 rfl rfl ?_
  refine x_getsN 32 (t := 2) rfl (by decide) (by decide +kernel) ?_
  refine x_iload_n 33 rfl rfl ?_
  refine x_tald 34 (z := mTF 2 (2 : Int).toNat) rfl (by decide) (by decide) rfl ?_
  obtain ⟨i25, hi25⟩ : ∃ f, f = mU i24 (c + 12) 2 (mTF 2 (2 : Int).toNat) := ⟨_, rfl⟩
  refine x_iast 35 (n := 4) rfl (show c + 12 < c + 13 by omega) (kCT hc) (by omega) (g' := (c + 13, K0, i25, l, R22)) (by subst hi25; rfl) ?_
  have hz := hz.pI hi25 (show c + 12 < c + 13 by omega)
  have hfi : ∀ (a : Nat) (b : Int), (a < c ∨ c + 15 ≤ a) → i25 a b = i a b := fun a b q => by rw [hi25]; exact (mUne _ _ _ _ _ (by omega)).trans (hfi a b q)
  refine x_iinc 36 (L' := [some (vR (some (c))), some (vI 3)]) rfl (by decide) rfl rfl rfl rfl ?_
  refine x_goto 37 (tgt := 49) rfl (by decide) ?_
  refine x_iload_n 26 rfl rfl ?_
  refine x_iconst 27 rfl ?_
  refine x_icmp_ge 28 (tgt := 71) rfl (by decide) (by decide) (fun h => absurd h (by decide)) (fun _ => ?_)
  refine x_aload_n 29 rfl rfl ?_
  refine x_getR 30 (z := (c + 12)) rfl fl_X0_18 (show c < c + 13 by omega) (kC hc) rfl (hp0 1 _ (by decide) (rC1 hc)) ?_
  refine x_iload_n 31 rfl rfl ?_
  refine x_getsN 32 (t := 2) rfl (by decide) (by decide +kernel) ?_
  refine x_iload_n 33 rfl rfl ?_
  refine x_tald 34 (z := mTF 2 (3 : Int).toNat) rfl (by decide) (by decide) rfl ?_
  obtain ⟨i26, hi26⟩ : ∃ f, f = mU i25 (c + 12) 3 (mTF 2 (3 : Int).toNat) := ⟨_, rfl⟩
  refine x_iast 35 (n := 4) rfl (show c + 12 < c + 13 by omega) (kCT hc) (by omega) (g' := (c + 13, K0, i26, l, R22)) (by subst hi26; rfl) ?_
  have hz := hz.pI hi26 (show c + 12 < c + 13 by omega)
  have hfi : ∀ (a : Nat) (b : Int), (a < c ∨ c + 15 ≤ a) → i26 a b = i a b := fun a b q => by rw [hi26]; exact (mUne _ _ _ _ _ (by omega)).trans (hfi a b q)
  refine x_iinc 36 (L' := [some (vR (some (c))), some (vI 4)]) rfl (by decide) rfl rfl rfl rfl ?_
  refine x_goto 37 (tgt := 49) rfl (by decide) ?_
  refine x_iload_n 26 rfl rfl ?_
  refine x_iconst 27 rfl ?_
  refine x_icmp_ge 28 (tgt := 71) rfl (by decide) (by decide) (fun _ => ?_) (fun h => absurd h (by decide))
  refine x_aload_n 38 rfl rfl ?_
  refine x_sipush 39 rfl (by decide) ?_
  refine x_newa 40 (t := 0) (n := 160) (cb' := 1) (sb' := 4) rfl rfl (by decide) ac_int rfl (by decide) rfl rfl (g' := ((c + 14, K0, i26, l, R22) : mS)) (cNew (kCO hc) hz) ?_
  show mX m_X0_init 2 _ 1 4 _ _ [vR (some (c + 13)), vR (some (c))] _
  have hz := hz.up (show c + 13 ≤ c + 14 by omega)
  have hg0 := rg_one hg0 (len2 11 (by decide))
  obtain ⟨R27, hR27⟩ : ∃ f, f = mU R22 (c) (2) (some (c + 13)) := ⟨_, rfl⟩
  refine x_putF 41 rfl fl_X0_25 (show c < c + 14 by omega) (kC hc) rfl (fun _ => ⟨rfl, rfl⟩) rfl (g' := (c + 14, K0, i26, l, R27)) (by subst hR27; rfl) ?_
  have hz := hz.pR hR27 (show c < c + 14 by omega)
  have hp0 := yR_put hp0 (rC2 hc) hR27
  have hp1 := yR_oth hp1 hR27 (by omega)
  have hg0 := rg_oth hg0 hR27 (by omega)
  have hfr : ∀ (a : Nat) (b : Int), (a < c ∨ c + 15 ≤ a) → R27 a b = R a b := fun a b q => by rw [hR27]; exact (mUne _ _ _ _ _ (by omega)).trans (hfr a b q)
  refine x_aload_n 42 rfl rfl ?_
  refine x_iconst 43 rfl ?_
  refine x_newa 44 (t := 0) (n := 4) (cb' := 0) (sb' := 0) rfl rfl (by decide) ac_int rfl (by decide) rfl rfl (g' := ((c + 15, K0, i26, l, R27) : mS)) (cNew (kCW hc) hz) ?_
  show mX m_X0_init 2 _ 0 0 _ _ [vR (some (c + 14)), vR (some (c))] _
  have hz := hz.up (show c + 14 ≤ c + 15 by omega)
  have hg0 := rg_one hg0 (len2 12 (by decide))
  obtain ⟨R28, hR28⟩ : ∃ f, f = mU R27 (c) (3) (some (c + 14)) := ⟨_, rfl⟩
  refine x_putF 45 rfl fl_X0_28 (show c < c + 15 by omega) (kC hc) rfl (fun _ => ⟨rfl, rfl⟩) rfl (g' := (c + 15, K0, i26, l, R28)) (by subst hR28; rfl) ?_
  have hz := hz.pR hR28 (show c < c + 15 by omega)
  have hp0 := yR_put hp0 (rC3 hc) hR28
  have hp1 := yR_oth hp1 hR28 (by omega)
  have hg0 := rg_oth hg0 hR28 (by omega)
  have hfr : ∀ (a : Nat) (b : Int), (a < c ∨ c + 15 ≤ a) → R28 a b = R a b := fun a b q => by rw [hR28]; exact (mUne _ _ _ _ _ (by omega)).trans (hfr a b q)
  refine x_ret 46 none rfl ⟨rfl, rfl⟩ ⟨rfl, i26, l, R28, rfl, fun a b q => ⟨hfi a b q, hfl a b q, hfr a b q⟩, ?_, ?_⟩
  · exact rg_zR (zR_of hp0 (by omega)) (rg_zR (zR_of hp1 (by omega)) hg0)
  · refine ⟨fun a b => ?_, rfl⟩
    rw [hi26, hi25, hi24, hi23]
    simp only [mU]
    by_cases h : a = c + 12 ∧ 0 ≤ b ∧ b < 4
    · obtain ⟨h1, h2, h3⟩ := h
      rcases (show b = 0 ∨ b = 1 ∨ b = 2 ∨ b = 3 by omega) with rfl | rfl | rfl | rfl <;> simp [h1]
    · rw [if_neg h, if_neg (by omega), if_neg (by omega), if_neg (by omega), if_neg (by omega)]
set_option maxRecDepth 20000 in
set_option maxHeartbeats 4000000 in
theorem n_split {i : fI} {l : fL} {R : fR} {q : Nat} (hq : isP q) (hz : cZ (q) i l R) : mCtr m_X6_init 1 2 2048 [vR (some (q))] ((q + 1, K0, i, l, R) : mS) (mkd (q) (q + 3) i l R (fun i' l' => i' = i ∧ ∀ a b, l' a b = if a = q + 1 ∧ b = 0 then 1#64 else l a b)) := by
  refine mCtr_of pl_X6 dc_X6_init (Nat.le_of_ble_eq_true rfl) rfl ?_
  show mX m_X6_init 1 _ 2 2048 0 [some (vR (some (q)))] [] ((q + 1, K0, i, l, R) : mS)
  obtain ⟨len0, len1, len2⟩ := split_len hq
  have hp0 := yR_0 (q) R
  have hg0 := rg_0 (q + 1) R
  have hz := hz.up (show q ≤ q + 1 by omega)
  have hfr : ∀ (a : Nat) (b : Int), (a < q ∨ q + 3 ≤ a) → R a b = R a b := fun _ _ _ => rfl
  have hfi : ∀ (a : Nat) (b : Int), (a < q ∨ q + 3 ≤ a) → i a b = i a b := fun _ _ _ => rfl
  have hfl : ∀ (a : Nat) (b : Int), (a < q ∨ q + 3 ≤ a) → l a b = l a b := fun _ _ _ => rfl
  refine x_aload_n 0 rfl rfl ?_
  refine x_objInit 1 rfl ml_X6_3 (by decide) (Nat.le_of_ble_eq_true rfl) ?_
  refine x_aload_n 2 rfl rfl ?_
  refine x_sipush 3 rfl (by decide) ?_
  refine x_newa 4 (t := 1) (n := 1024) (cb' := 1) (sb' := 1024) rfl rfl (by decide) ac_long rfl (by decide) rfl rfl (g' := ((q + 2, K0, i, l, R) : mS)) (cNew (kPl hq) hz) ?_
  show mX m_X6_init 1 _ 1 1024 _ _ [vR (some (q + 1)), vR (some (q))] _
  have hz := hz.up (show q + 1 ≤ q + 2 by omega)
  have hg0 := rg_one hg0 len1
  obtain ⟨R1, hR1⟩ : ∃ f, f = mU R (q) (0) (some (q + 1)) := ⟨_, rfl⟩
  refine x_putF 5 rfl fl_X6_9 (show q < q + 2 by omega) (kP hq) rfl (fun _ => ⟨rfl, rfl⟩) rfl (g' := (q + 2, K0, i, l, R1)) (by subst hR1; rfl) ?_
  have hz := hz.pR hR1 (show q < q + 2 by omega)
  have hp0 := yR_put hp0 (rP0 hq) hR1
  have hg0 := rg_oth hg0 hR1 (by omega)
  have hfr : ∀ (a : Nat) (b : Int), (a < q ∨ q + 3 ≤ a) → R1 a b = R a b := fun a b q => by rw [hR1]; exact (mUne _ _ _ _ _ (by omega)).trans (hfr a b q)
  refine x_aload_n 6 rfl rfl ?_
  refine x_sipush 7 rfl (by decide) ?_
  refine x_newa 8 (t := 1) (n := 1024) (cb' := 0) (sb' := 0) rfl rfl (by decide) ac_long rfl (by decide) rfl rfl (g' := ((q + 3, K0, i, l, R1) : mS)) (cNew (kPh hq) hz) ?_
  show mX m_X6_init 1 _ 0 0 _ _ [vR (some (q + 2)), vR (some (q))] _
  have hz := hz.up (show q + 2 ≤ q + 3 by omega)
  have hg0 := rg_one hg0 len2
  obtain ⟨R2, hR2⟩ : ∃ f, f = mU R1 (q) (1) (some (q + 2)) := ⟨_, rfl⟩
  refine x_putF 9 rfl fl_X6_15 (show q < q + 3 by omega) (kP hq) rfl (fun _ => ⟨rfl, rfl⟩) rfl (g' := (q + 3, K0, i, l, R2)) (by subst hR2; rfl) ?_
  have hz := hz.pR hR2 (show q < q + 3 by omega)
  have hp0 := yR_put hp0 (rP1 hq) hR2
  have hg0 := rg_oth hg0 hR2 (by omega)
  have hfr : ∀ (a : Nat) (b : Int), (a < q ∨ q + 3 ≤ a) → R2 a b = R a b := fun a b q => by rw [hR2]; exact (mUne _ _ _ _ _ (by omega)).trans (hfr a b q)
  refine x_aload_n 10 rfl rfl ?_
  refine x_getR 11 (z := (q + 1)) rfl fl_X6_9 (show q < q + 3 by omega) (kP hq) rfl (hp0 0 _ (by decide) (rP0 hq)) ?_
  refine x_iconst 12 rfl ?_
  refine x_lconst 13 (v := 1#64) rfl rfl ?_
  obtain ⟨l3, hl3⟩ : ∃ f, f = mU l (q + 1) 0 (1#64) := ⟨_, rfl⟩
  refine x_last 14 (n := 1024) rfl (show q + 1 < q + 3 by omega) (kPl hq) (by omega) (g' := (q + 3, K0, i, l3, R2)) (by subst hl3; rfl) ?_
  have hz := hz.pL hl3 (show q + 1 < q + 3 by omega)
  have hfl : ∀ (a : Nat) (b : Int), (a < q ∨ q + 3 ≤ a) → l3 a b = l a b := fun a b q => by rw [hl3]; exact (mUne _ _ _ _ _ (by omega)).trans (hfl a b q)
  refine x_ret 15 none rfl ⟨rfl, rfl⟩ ⟨rfl, i, l3, R2, rfl, fun a b q => ⟨hfi a b q, hfl a b q, hfr a b q⟩, ?_, ?_⟩
  · exact rg_zR (zR_of hp0 (by omega)) hg0
  · refine ⟨rfl, fun a b => ?_⟩
    rw [hl3]
    rfl
set_option maxRecDepth 20000 in
set_option maxHeartbeats 4000000 in
theorem n_hist {i : fI} {l : fL} {R : fR}  (hz : cZ (16) i l R) : mCtr m_X1_init 3 121 2376 [vR (some (16))] ((17, K0, i, l, R) : mS) (mkd (16) (138) i l R (fun i' l' => (∀ a b, a < 18 → i' a b = i a b) ∧ l' = l)) := by
  refine mCtr_of pl_X1 dc_X1_init (Nat.le_of_ble_eq_true rfl) rfl ?_
  show mX m_X1_init 3 _ 121 2376 0 [some (vR (some (16))), none] [] ((17, K0, i, l, R) : mS)
  have hp16 := yR_0 (16) R
  have hg0 := rg_0 (17) R
  have hz := hz.up (show 16 ≤ 17 by omega)
  have hfr : ∀ (a : Nat) (b : Int), (a < 16 ∨ 138 ≤ a) → R a b = R a b := fun _ _ _ => rfl
  have hfi : ∀ (a : Nat) (b : Int), (a < 16 ∨ 138 ≤ a) → i a b = i a b := fun _ _ _ => rfl
  have hfl : ∀ (a : Nat) (b : Int), (a < 16 ∨ 138 ≤ a) → l a b = l a b := fun _ _ _ => rfl
  have hI : ∀ (a : Nat) (b : Int), a < 18 → i a b = i a b := fun _ _ _ => rfl
  have hLl : l = l := rfl
  refine x_aload_n 0 rfl rfl ?_
  refine x_objInit 1 rfl ml_X1_3 (by decide) (Nat.le_of_ble_eq_true rfl) ?_
  refine x_aload_n 2 rfl rfl ?_
  refine x_bipush 3 rfl (by decide) ?_
  refine x_newq0 4 (n := 8) (cb' := 120) (sb' := 2368) rfl cl_X1_9 rfl (by decide) rfl rfl (g' := ((18, K0, i, l, R) : mS)) (cNew (by decide +kernel : K0 17 = .inr (4, 8)) hz) ?_
  show mX m_X1_init 3 _ 120 2368 _ _ [vR (some (17)), vR (some (16))] _
  have hz := hz.up (show 17 ≤ 18 by omega)
  have hp17 := yR_0 (17) R
  have hg0 := rg_0 (18) R
  obtain ⟨R1, hR1⟩ : ∃ f, f = mU R (16) (0) (some (17)) := ⟨_, rfl⟩
  refine x_putF 5 rfl fl_X1_11 (show 16 < 18 by omega) (by decide +kernel : K0 16 = .inl 1) rfl (fun _ => ⟨rfl, rfl⟩) rfl (g' := (18, K0, i, l, R1)) (by subst hR1; rfl) ?_
  have hz := hz.pR hR1 (show 16 < 18 by omega)
  have hp16 := yR_put hp16 (by decide +kernel : R0 16 ((0 : Nat) : Int) = some 17) hR1
  have hp17 := yR_oth hp17 hR1 (by omega)
  have hg0 := rg_oth hg0 hR1 (by omega)
  have hfr : ∀ (a : Nat) (b : Int), (a < 16 ∨ 138 ≤ a) → R1 a b = R a b := fun a b q => by rw [hR1]; exact (mUne _ _ _ _ _ (by omega)).trans (hfr a b q)
  refine x_iconst 6 rfl ?_
  refine x_istore_n 7 (L' := [some (vR (some (16))), some (vI 0)]) rfl (by decide) rfl rfl ?_
  refine x_iload_n 8 rfl rfl ?_
  refine x_bipush 9 rfl (by decide) ?_
  refine x_icmp_ge 10 (tgt := 40) rfl (by decide) (by decide) (fun h => absurd h (by decide)) (fun _ => ?_)
  refine x_aload_n 11 rfl rfl ?_
  refine x_getR 12 (z := (17)) rfl fl_X1_11 (show 16 < 18 by omega) (by decide +kernel : K0 16 = .inl 1) rfl (hp16 0 _ (by decide) (by decide +kernel : R0 16 ((0 : Nat) : Int) = some 17)) ?_
  refine x_iload_n 13 rfl rfl ?_
  refine x_new 14 (ci := 0) (cb' := 119) (sb' := 2360) rfl rfl cl_X1_9 ins_X0 ini_X0 rfl rfl (g' := ((19, K0, i, l, R1) : mS)) (cNew (by decide +kernel : K0 18 = .inl 0) hz) ?_
  show mX m_X1_init 3 _ 119 2360 _ _ [vR (some (18)), vI (0), vR (some (17))] _
  refine x_dup 15 rfl rfl ?_
  refine x_callI 16 (cb' := 105) (sb' := 2072) m_X0_init (n_choir (show isC 18 from (by decide : 18 ∈ cL)) hz) rfl ok_X0_init rfl rfl ml_X1_17 im_X0_init rfl (by decide) rfl (Nat.le_of_ble_eq_true rfl) rfl rfl (fun v g' q2 => ?_)
  obtain ⟨rfl, i3, l4, R5, rfl, hf6, hb7, hP8⟩ := q2
  show mX m_X1_init 3 _ 105 2072 _ _ [vR (some (18)), vI (0), vR (some (17))] _
  have hz := mkd_cZ hz (show 18 ≤ 33 by omega) hf6
  have hp16 := yR_fr hp16 (fun b => (hf6 16 b (by omega)).2.2)
  have hp17 := yR_fr hp17 (fun b => (hf6 17 b (by omega)).2.2)
  have hg0 := rg_fr hg0 (fun x b z => (hf6 x b z).2.2) (by omega)
  have hg0 := rg_join hg0 hb7
  have hfr : ∀ (a : Nat) (b : Int), (a < 16 ∨ 138 ≤ a) → R5 a b = R a b := fun a b q => ((hf6 a b (by omega)).2.2).trans (hfr a b q)
  have hfi : ∀ (a : Nat) (b : Int), (a < 16 ∨ 138 ≤ a) → i3 a b = i a b := fun a b q => ((hf6 a b (by omega)).1).trans (hfi a b q)
  have hfl : ∀ (a : Nat) (b : Int), (a < 16 ∨ 138 ≤ a) → l4 a b = l a b := fun a b q => ((hf6 a b (by omega)).2.1).trans (hfl a b q)
  have hI : ∀ (a : Nat) (b : Int), a < 18 → i3 a b = i a b := fun a b q => ((hf6 a b (by omega)).1).trans (hI a b q)
  have hLl : l4 = l := hP8.2.trans hLl
  obtain ⟨R9, hR9⟩ : ∃ f, f = mU R5 (17) (0) (some (18)) := ⟨_, rfl⟩
  refine x_aast 17 (t := 4) (n := 8) (ci := 0) rfl (show 17 < 33 by omega) (by decide +kernel : K0 17 = .inr (4, 8)) rfl rfl (show 18 < 33 by omega) (by decide +kernel : K0 18 = .inl 0) (by omega) (g' := (33, K0, i3, l4, R9)) (by subst hR9; rfl) ?_
  have hz := hz.pR hR9 (show 17 < 33 by omega)
  have hp16 := yR_oth hp16 hR9 (by omega)
  have hp17 := yR_put hp17 (by decide +kernel : R0 17 ((0 : Nat) : Int) = some 18) hR9
  have hg0 := rg_oth hg0 hR9 (by omega)
  have hfr : ∀ (a : Nat) (b : Int), (a < 16 ∨ 138 ≤ a) → R9 a b = R a b := fun a b q => by rw [hR9]; exact (mUne _ _ _ _ _ (by omega)).trans (hfr a b q)
  refine x_iinc 18 (L' := [some (vR (some (16))), some (vI 1)]) rfl (by decide) rfl rfl rfl rfl ?_
  refine x_goto 19 (tgt := 15) rfl (by decide) ?_
  refine x_iload_n 8 rfl rfl ?_
  refine x_bipush 9 rfl (by decide) ?_
  refine x_icmp_ge 10 (tgt := 40) rfl (by decide) (by decide) (fun h => absurd h (by decide)) (fun _ => ?_)
  refine x_aload_n 11 rfl rfl ?_
  refine x_getR 12 (z := (17)) rfl fl_X1_11 (show 16 < 33 by omega) (by decide +kernel : K0 16 = .inl 1) rfl (hp16 0 _ (by decide) (by decide +kernel : R0 16 ((0 : Nat) : Int) = some 17)) ?_
  refine x_iload_n 13 rfl rfl ?_
  refine x_new 14 (ci := 0) (cb' := 104) (sb' := 2064) rfl rfl cl_X1_9 ins_X0 ini_X0 rfl rfl (g' := ((34, K0, i3, l4, R9) : mS)) (cNew (by decide +kernel : K0 33 = .inl 0) hz) ?_
  show mX m_X1_init 3 _ 104 2064 _ _ [vR (some (33)), vI (1), vR (some (17))] _
  refine x_dup 15 rfl rfl ?_
  refine x_callI 16 (cb' := 90) (sb' := 1776) m_X0_init (n_choir (show isC 33 from (by decide : 33 ∈ cL)) hz) rfl ok_X0_init rfl rfl ml_X1_17 im_X0_init rfl (by decide) rfl (Nat.le_of_ble_eq_true rfl) rfl rfl (fun v g' q10 => ?_)
  obtain ⟨rfl, i11, l12, R13, rfl, hf14, hb15, hP16⟩ := q10
  show mX m_X1_init 3 _ 90 1776 _ _ [vR (some (33)), vI (1), vR (some (17))] _
  have hz := mkd_cZ hz (show 33 ≤ 48 by omega) hf14
  have hp16 := yR_fr hp16 (fun b => (hf14 16 b (by omega)).2.2)
  have hp17 := yR_fr hp17 (fun b => (hf14 17 b (by omega)).2.2)
  have hg0 := rg_fr hg0 (fun x b z => (hf14 x b z).2.2) (by omega)
  have hg0 := rg_join hg0 hb15
  have hfr : ∀ (a : Nat) (b : Int), (a < 16 ∨ 138 ≤ a) → R13 a b = R a b := fun a b q => ((hf14 a b (by omega)).2.2).trans (hfr a b q)
  have hfi : ∀ (a : Nat) (b : Int), (a < 16 ∨ 138 ≤ a) → i11 a b = i a b := fun a b q => ((hf14 a b (by omega)).1).trans (hfi a b q)
  have hfl : ∀ (a : Nat) (b : Int), (a < 16 ∨ 138 ≤ a) → l12 a b = l a b := fun a b q => ((hf14 a b (by omega)).2.1).trans (hfl a b q)
  have hI : ∀ (a : Nat) (b : Int), a < 18 → i11 a b = i a b := fun a b q => ((hf14 a b (by omega)).1).trans (hI a b q)
  have hLl : l12 = l := hP16.2.trans hLl
  obtain ⟨R17, hR17⟩ : ∃ f, f = mU R13 (17) (1) (some (33)) := ⟨_, rfl⟩
  refine x_aast 17 (t := 4) (n := 8) (ci := 0) rfl (show 17 < 48 by omega) (by decide +kernel : K0 17 = .inr (4, 8)) rfl rfl (show 33 < 48 by omega) (by decide +kernel : K0 33 = .inl 0) (by omega) (g' := (48, K0, i11, l12, R17)) (by subst hR17; rfl) ?_
  have hz := hz.pR hR17 (show 17 < 48 by omega)
  have hp16 := yR_oth hp16 hR17 (by omega)
  have hp17 := yR_put hp17 (by decide +kernel : R0 17 ((1 : Nat) : Int) = some 33) hR17
  have hg0 := rg_oth hg0 hR17 (by omega)
  have hfr : ∀ (a : Nat) (b : Int), (a < 16 ∨ 138 ≤ a) → R17 a b = R a b := fun a b q => by rw [hR17]; exact (mUne _ _ _ _ _ (by omega)).trans (hfr a b q)
  refine x_iinc 18 (L' := [some (vR (some (16))), some (vI 2)]) rfl (by decide) rfl rfl rfl rfl ?_
  refine x_goto 19 (tgt := 15) rfl (by decide) ?_
  refine x_iload_n 8 rfl rfl ?_
  refine x_bipush 9 rfl (by decide) ?_
  refine x_icmp_ge 10 (tgt := 40) rfl (by decide) (by decide) (fun h => absurd h (by decide)) (fun _ => ?_)
  refine x_aload_n 11 rfl rfl ?_
  refine x_getR 12 (z := (17)) rfl fl_X1_11 (show 16 < 48 by omega) (by decide +kernel : K0 16 = .inl 1) rfl (hp16 0 _ (by decide) (by decide +kernel : R0 16 ((0 : Nat) : Int) = some 17)) ?_
  refine x_iload_n 13 rfl rfl ?_
  refine x_new 14 (ci := 0) (cb' := 89) (sb' := 1768) rfl rfl cl_X1_9 ins_X0 ini_X0 rfl rfl (g' := ((49, K0, i11, l12, R17) : mS)) (cNew (by decide +kernel : K0 48 = .inl 0) hz) ?_
  show mX m_X1_init 3 _ 89 1768 _ _ [vR (some (48)), vI (2), vR (some (17))] _
  refine x_dup 15 rfl rfl ?_
  refine x_callI 16 (cb' := 75) (sb' := 1480) m_X0_init (n_choir (show isC 48 from (by decide : 48 ∈ cL)) hz) rfl ok_X0_init rfl rfl ml_X1_17 im_X0_init rfl (by decide) rfl (Nat.le_of_ble_eq_true rfl) rfl rfl (fun v g' q18 => ?_)
  obtain ⟨rfl, i19, l20, R21, rfl, hf22, hb23, hP24⟩ := q18
  show mX m_X1_init 3 _ 75 1480 _ _ [vR (some (48)), vI (2), vR (some (17))] _
  have hz := mkd_cZ hz (show 48 ≤ 63 by omega) hf22
  have hp16 := yR_fr hp16 (fun b => (hf22 16 b (by omega)).2.2)
  have hp17 := yR_fr hp17 (fun b => (hf22 17 b (by omega)).2.2)
  have hg0 := rg_fr hg0 (fun x b z => (hf22 x b z).2.2) (by omega)
  have hg0 := rg_join hg0 hb23
  have hfr : ∀ (a : Nat) (b : Int), (a < 16 ∨ 138 ≤ a) → R21 a b = R a b := fun a b q => ((hf22 a b (by omega)).2.2).trans (hfr a b q)
  have hfi : ∀ (a : Nat) (b : Int), (a < 16 ∨ 138 ≤ a) → i19 a b = i a b := fun a b q => ((hf22 a b (by omega)).1).trans (hfi a b q)
  have hfl : ∀ (a : Nat) (b : Int), (a < 16 ∨ 138 ≤ a) → l20 a b = l a b := fun a b q => ((hf22 a b (by omega)).2.1).trans (hfl a b q)
  have hI : ∀ (a : Nat) (b : Int), a < 18 → i19 a b = i a b := fun a b q => ((hf22 a b (by omega)).1).trans (hI a b q)
  have hLl : l20 = l := hP24.2.trans hLl
  obtain ⟨R25, hR25⟩ : ∃ f, f = mU R21 (17) (2) (some (48)) := ⟨_, rfl⟩
  refine x_aast 17 (t := 4) (n := 8) (ci := 0) rfl (show 17 < 63 by omega) (by decide +kernel : K0 17 = .inr (4, 8)) rfl rfl (show 48 < 63 by omega) (by decide +kernel : K0 48 = .inl 0) (by omega) (g' := (63, K0, i19, l20, R25)) (by subst hR25; rfl) ?_
  have hz := hz.pR hR25 (show 17 < 63 by omega)
  have hp16 := yR_oth hp16 hR25 (by omega)
  have hp17 := yR_put hp17 (by decide +kernel : R0 17 ((2 : Nat) : Int) = some 48) hR25
  have hg0 := rg_oth hg0 hR25 (by omega)
  have hfr : ∀ (a : Nat) (b : Int), (a < 16 ∨ 138 ≤ a) → R25 a b = R a b := fun a b q => by rw [hR25]; exact (mUne _ _ _ _ _ (by omega)).trans (hfr a b q)
  refine x_iinc 18 (L' := [some (vR (some (16))), some (vI 3)]) rfl (by decide) rfl rfl rfl rfl ?_
  refine x_goto 19 (tgt := 15) rfl (by decide) ?_
  refine x_iload_n 8 rfl rfl ?_
  refine x_bipush 9 rfl (by decide) ?_
  refine x_icmp_ge 10 (tgt := 40) rfl (by decide) (by decide) (fun h => absurd h (by decide)) (fun _ => ?_)
  refine x_aload_n 11 rfl rfl ?_
  refine x_getR 12 (z := (17)) rfl fl_X1_11 (show 16 < 63 by omega) (by decide +kernel : K0 16 = .inl 1) rfl (hp16 0 _ (by decide) (by decide +kernel : R0 16 ((0 : Nat) : Int) = some 17)) ?_
  refine x_iload_n 13 rfl rfl ?_
  refine x_new 14 (ci := 0) (cb' := 74) (sb' := 1472) rfl rfl cl_X1_9 ins_X0 ini_X0 rfl rfl (g' := ((64, K0, i19, l20, R25) : mS)) (cNew (by decide +kernel : K0 63 = .inl 0) hz) ?_
  show mX m_X1_init 3 _ 74 1472 _ _ [vR (some (63)), vI (3), vR (some (17))] _
  refine x_dup 15 rfl rfl ?_
  refine x_callI 16 (cb' := 60) (sb' := 1184) m_X0_init (n_choir (show isC 63 from (by decide : 63 ∈ cL)) hz) rfl ok_X0_init rfl rfl ml_X1_17 im_X0_init rfl (by decide) rfl (Nat.le_of_ble_eq_true rfl) rfl rfl (fun v g' q26 => ?_)
  obtain ⟨rfl, i27, l28, R29, rfl, hf30, hb31, hP32⟩ := q26
  show mX m_X1_init 3 _ 60 1184 _ _ [vR (some (63)), vI (3), vR (some (17))] _
  have hz := mkd_cZ hz (show 63 ≤ 78 by omega) hf30
  have hp16 := yR_fr hp16 (fun b => (hf30 16 b (by omega)).2.2)
  have hp17 := yR_fr hp17 (fun b => (hf30 17 b (by omega)).2.2)
  have hg0 := rg_fr hg0 (fun x b z => (hf30 x b z).2.2) (by omega)
  have hg0 := rg_join hg0 hb31
  have hfr : ∀ (a : Nat) (b : Int), (a < 16 ∨ 138 ≤ a) → R29 a b = R a b := fun a b q => ((hf30 a b (by omega)).2.2).trans (hfr a b q)
  have hfi : ∀ (a : Nat) (b : Int), (a < 16 ∨ 138 ≤ a) → i27 a b = i a b := fun a b q => ((hf30 a b (by omega)).1).trans (hfi a b q)
  have hfl : ∀ (a : Nat) (b : Int), (a < 16 ∨ 138 ≤ a) → l28 a b = l a b := fun a b q => ((hf30 a b (by omega)).2.1).trans (hfl a b q)
  have hI : ∀ (a : Nat) (b : Int), a < 18 → i27 a b = i a b := fun a b q => ((hf30 a b (by omega)).1).trans (hI a b q)
  have hLl : l28 = l := hP32.2.trans hLl
  obtain ⟨R33, hR33⟩ : ∃ f, f = mU R29 (17) (3) (some (63)) := ⟨_, rfl⟩
  refine x_aast 17 (t := 4) (n := 8) (ci := 0) rfl (show 17 < 78 by omega) (by decide +kernel : K0 17 = .inr (4, 8)) rfl rfl (show 63 < 78 by omega) (by decide +kernel : K0 63 = .inl 0) (by omega) (g' := (78, K0, i27, l28, R33)) (by subst hR33; rfl) ?_
  have hz := hz.pR hR33 (show 17 < 78 by omega)
  have hp16 := yR_oth hp16 hR33 (by omega)
  have hp17 := yR_put hp17 (by decide +kernel : R0 17 ((3 : Nat) : Int) = some 63) hR33
  have hg0 := rg_oth hg0 hR33 (by omega)
  have hfr : ∀ (a : Nat) (b : Int), (a < 16 ∨ 138 ≤ a) → R33 a b = R a b := fun a b q => by rw [hR33]; exact (mUne _ _ _ _ _ (by omega)).trans (hfr a b q)
  refine x_iinc 18 (L' := [some (vR (some (16))), some (vI 4)]) rfl (by decide) rfl rfl rfl rfl ?_
  refine x_goto 19 (tgt := 15) rfl (by decide) ?_
  refine x_iload_n 8 rfl rfl ?_
  refine x_bipush 9 rfl (by decide) ?_
  refine x_icmp_ge 10 (tgt := 40) rfl (by decide) (by decide) (fun h => absurd h (by decide)) (fun _ => ?_)
  refine x_aload_n 11 rfl rfl ?_
  refine x_getR 12 (z := (17)) rfl fl_X1_11 (show 16 < 78 by omega) (by decide +kernel : K0 16 = .inl 1) rfl (hp16 0 _ (by decide) (by decide +kernel : R0 16 ((0 : Nat) : Int) = some 17)) ?_
  refine x_iload_n 13 rfl rfl ?_
  refine x_new 14 (ci := 0) (cb' := 59) (sb' := 1176) rfl rfl cl_X1_9 ins_X0 ini_X0 rfl rfl (g' := ((79, K0, i27, l28, R33) : mS)) (cNew (by decide +kernel : K0 78 = .inl 0) hz) ?_
  show mX m_X1_init 3 _ 59 1176 _ _ [vR (some (78)), vI (4), vR (some (17))] _
  refine x_dup 15 rfl rfl ?_
  refine x_callI 16 (cb' := 45) (sb' := 888) m_X0_init (n_choir (show isC 78 from (by decide : 78 ∈ cL)) hz) rfl ok_X0_init rfl rfl ml_X1_17 im_X0_init rfl (by decide) rfl (Nat.le_of_ble_eq_true rfl) rfl rfl (fun v g' q34 => ?_)
  obtain ⟨rfl, i35, l36, R37, rfl, hf38, hb39, hP40⟩ := q34
  show mX m_X1_init 3 _ 45 888 _ _ [vR (some (78)), vI (4), vR (some (17))] _
  have hz := mkd_cZ hz (show 78 ≤ 93 by omega) hf38
  have hp16 := yR_fr hp16 (fun b => (hf38 16 b (by omega)).2.2)
  have hp17 := yR_fr hp17 (fun b => (hf38 17 b (by omega)).2.2)
  have hg0 := rg_fr hg0 (fun x b z => (hf38 x b z).2.2) (by omega)
  have hg0 := rg_join hg0 hb39
  have hfr : ∀ (a : Nat) (b : Int), (a < 16 ∨ 138 ≤ a) → R37 a b = R a b := fun a b q => ((hf38 a b (by omega)).2.2).trans (hfr a b q)
  have hfi : ∀ (a : Nat) (b : Int), (a < 16 ∨ 138 ≤ a) → i35 a b = i a b := fun a b q => ((hf38 a b (by omega)).1).trans (hfi a b q)
  have hfl : ∀ (a : Nat) (b : Int), (a < 16 ∨ 138 ≤ a) → l36 a b = l a b := fun a b q => ((hf38 a b (by omega)).2.1).trans (hfl a b q)
  have hI : ∀ (a : Nat) (b : Int), a < 18 → i35 a b = i a b := fun a b q => ((hf38 a b (by omega)).1).trans (hI a b q)
  have hLl : l36 = l := hP40.2.trans hLl
  obtain ⟨R41, hR41⟩ : ∃ f, f = mU R37 (17) (4) (some (78)) := ⟨_, rfl⟩
  refine x_aast 17 (t := 4) (n := 8) (ci := 0) rfl (show 17 < 93 by omega) (by decide +kernel : K0 17 = .inr (4, 8)) rfl rfl (show 78 < 93 by omega) (by decide +kernel : K0 78 = .inl 0) (by omega) (g' := (93, K0, i35, l36, R41)) (by subst hR41; rfl) ?_
  have hz := hz.pR hR41 (show 17 < 93 by omega)
  have hp16 := yR_oth hp16 hR41 (by omega)
  have hp17 := yR_put hp17 (by decide +kernel : R0 17 ((4 : Nat) : Int) = some 78) hR41
  have hg0 := rg_oth hg0 hR41 (by omega)
  have hfr : ∀ (a : Nat) (b : Int), (a < 16 ∨ 138 ≤ a) → R41 a b = R a b := fun a b q => by rw [hR41]; exact (mUne _ _ _ _ _ (by omega)).trans (hfr a b q)
  refine x_iinc 18 (L' := [some (vR (some (16))), some (vI 5)]) rfl (by decide) rfl rfl rfl rfl ?_
  refine x_goto 19 (tgt := 15) rfl (by decide) ?_
  refine x_iload_n 8 rfl rfl ?_
  refine x_bipush 9 rfl (by decide) ?_
  refine x_icmp_ge 10 (tgt := 40) rfl (by decide) (by decide) (fun h => absurd h (by decide)) (fun _ => ?_)
  refine x_aload_n 11 rfl rfl ?_
  refine x_getR 12 (z := (17)) rfl fl_X1_11 (show 16 < 93 by omega) (by decide +kernel : K0 16 = .inl 1) rfl (hp16 0 _ (by decide) (by decide +kernel : R0 16 ((0 : Nat) : Int) = some 17)) ?_
  refine x_iload_n 13 rfl rfl ?_
  refine x_new 14 (ci := 0) (cb' := 44) (sb' := 880) rfl rfl cl_X1_9 ins_X0 ini_X0 rfl rfl (g' := ((94, K0, i35, l36, R41) : mS)) (cNew (by decide +kernel : K0 93 = .inl 0) hz) ?_
  show mX m_X1_init 3 _ 44 880 _ _ [vR (some (93)), vI (5), vR (some (17))] _
  refine x_dup 15 rfl rfl ?_
  refine x_callI 16 (cb' := 30) (sb' := 592) m_X0_init (n_choir (show isC 93 from (by decide : 93 ∈ cL)) hz) rfl ok_X0_init rfl rfl ml_X1_17 im_X0_init rfl (by decide) rfl (Nat.le_of_ble_eq_true rfl) rfl rfl (fun v g' q42 => ?_)
  obtain ⟨rfl, i43, l44, R45, rfl, hf46, hb47, hP48⟩ := q42
  show mX m_X1_init 3 _ 30 592 _ _ [vR (some (93)), vI (5), vR (some (17))] _
  have hz := mkd_cZ hz (show 93 ≤ 108 by omega) hf46
  have hp16 := yR_fr hp16 (fun b => (hf46 16 b (by omega)).2.2)
  have hp17 := yR_fr hp17 (fun b => (hf46 17 b (by omega)).2.2)
  have hg0 := rg_fr hg0 (fun x b z => (hf46 x b z).2.2) (by omega)
  have hg0 := rg_join hg0 hb47
  have hfr : ∀ (a : Nat) (b : Int), (a < 16 ∨ 138 ≤ a) → R45 a b = R a b := fun a b q => ((hf46 a b (by omega)).2.2).trans (hfr a b q)
  have hfi : ∀ (a : Nat) (b : Int), (a < 16 ∨ 138 ≤ a) → i43 a b = i a b := fun a b q => ((hf46 a b (by omega)).1).trans (hfi a b q)
  have hfl : ∀ (a : Nat) (b : Int), (a < 16 ∨ 138 ≤ a) → l44 a b = l a b := fun a b q => ((hf46 a b (by omega)).2.1).trans (hfl a b q)
  have hI : ∀ (a : Nat) (b : Int), a < 18 → i43 a b = i a b := fun a b q => ((hf46 a b (by omega)).1).trans (hI a b q)
  have hLl : l44 = l := hP48.2.trans hLl
  obtain ⟨R49, hR49⟩ : ∃ f, f = mU R45 (17) (5) (some (93)) := ⟨_, rfl⟩
  refine x_aast 17 (t := 4) (n := 8) (ci := 0) rfl (show 17 < 108 by omega) (by decide +kernel : K0 17 = .inr (4, 8)) rfl rfl (show 93 < 108 by omega) (by decide +kernel : K0 93 = .inl 0) (by omega) (g' := (108, K0, i43, l44, R49)) (by subst hR49; rfl) ?_
  have hz := hz.pR hR49 (show 17 < 108 by omega)
  have hp16 := yR_oth hp16 hR49 (by omega)
  have hp17 := yR_put hp17 (by decide +kernel : R0 17 ((5 : Nat) : Int) = some 93) hR49
  have hg0 := rg_oth hg0 hR49 (by omega)
  have hfr : ∀ (a : Nat) (b : Int), (a < 16 ∨ 138 ≤ a) → R49 a b = R a b := fun a b q => by rw [hR49]; exact (mUne _ _ _ _ _ (by omega)).trans (hfr a b q)
  refine x_iinc 18 (L' := [some (vR (some (16))), some (vI 6)]) rfl (by decide) rfl rfl rfl rfl ?_
  refine x_goto 19 (tgt := 15) rfl (by decide) ?_
  refine x_iload_n 8 rfl rfl ?_
  refine x_bipush 9 rfl (by decide) ?_
  refine x_icmp_ge 10 (tgt := 40) rfl (by decide) (by decide) (fun h => absurd h (by decide)) (fun _ => ?_)
  refine x_aload_n 11 rfl rfl ?_
  refine x_getR 12 (z := (17)) rfl fl_X1_11 (show 16 < 108 by omega) (by decide +kernel : K0 16 = .inl 1) rfl (hp16 0 _ (by decide) (by decide +kernel : R0 16 ((0 : Nat) : Int) = some 17)) ?_
  refine x_iload_n 13 rfl rfl ?_
  refine x_new 14 (ci := 0) (cb' := 29) (sb' := 584) rfl rfl cl_X1_9 ins_X0 ini_X0 rfl rfl (g' := ((109, K0, i43, l44, R49) : mS)) (cNew (by decide +kernel : K0 108 = .inl 0) hz) ?_
  show mX m_X1_init 3 _ 29 584 _ _ [vR (some (108)), vI (6), vR (some (17))] _
  refine x_dup 15 rfl rfl ?_
  refine x_callI 16 (cb' := 15) (sb' := 296) m_X0_init (n_choir (show isC 108 from (by decide : 108 ∈ cL)) hz) rfl ok_X0_init rfl rfl ml_X1_17 im_X0_init rfl (by decide) rfl (Nat.le_of_ble_eq_true rfl) rfl rfl (fun v g' q50 => ?_)
  obtain ⟨rfl, i51, l52, R53, rfl, hf54, hb55, hP56⟩ := q50
  show mX m_X1_init 3 _ 15 296 _ _ [vR (some (108)), vI (6), vR (some (17))] _
  have hz := mkd_cZ hz (show 108 ≤ 123 by omega) hf54
  have hp16 := yR_fr hp16 (fun b => (hf54 16 b (by omega)).2.2)
  have hp17 := yR_fr hp17 (fun b => (hf54 17 b (by omega)).2.2)
  have hg0 := rg_fr hg0 (fun x b z => (hf54 x b z).2.2) (by omega)
  have hg0 := rg_join hg0 hb55
  have hfr : ∀ (a : Nat) (b : Int), (a < 16 ∨ 138 ≤ a) → R53 a b = R a b := fun a b q => ((hf54 a b (by omega)).2.2).trans (hfr a b q)
  have hfi : ∀ (a : Nat) (b : Int), (a < 16 ∨ 138 ≤ a) → i51 a b = i a b := fun a b q => ((hf54 a b (by omega)).1).trans (hfi a b q)
  have hfl : ∀ (a : Nat) (b : Int), (a < 16 ∨ 138 ≤ a) → l52 a b = l a b := fun a b q => ((hf54 a b (by omega)).2.1).trans (hfl a b q)
  have hI : ∀ (a : Nat) (b : Int), a < 18 → i51 a b = i a b := fun a b q => ((hf54 a b (by omega)).1).trans (hI a b q)
  have hLl : l52 = l := hP56.2.trans hLl
  obtain ⟨R57, hR57⟩ : ∃ f, f = mU R53 (17) (6) (some (108)) := ⟨_, rfl⟩
  refine x_aast 17 (t := 4) (n := 8) (ci := 0) rfl (show 17 < 123 by omega) (by decide +kernel : K0 17 = .inr (4, 8)) rfl rfl (show 108 < 123 by omega) (by decide +kernel : K0 108 = .inl 0) (by omega) (g' := (123, K0, i51, l52, R57)) (by subst hR57; rfl) ?_
  have hz := hz.pR hR57 (show 17 < 123 by omega)
  have hp16 := yR_oth hp16 hR57 (by omega)
  have hp17 := yR_put hp17 (by decide +kernel : R0 17 ((6 : Nat) : Int) = some 108) hR57
  have hg0 := rg_oth hg0 hR57 (by omega)
  have hfr : ∀ (a : Nat) (b : Int), (a < 16 ∨ 138 ≤ a) → R57 a b = R a b := fun a b q => by rw [hR57]; exact (mUne _ _ _ _ _ (by omega)).trans (hfr a b q)
  refine x_iinc 18 (L' := [some (vR (some (16))), some (vI 7)]) rfl (by decide) rfl rfl rfl rfl ?_
  refine x_goto 19 (tgt := 15) rfl (by decide) ?_
  refine x_iload_n 8 rfl rfl ?_
  refine x_bipush 9 rfl (by decide) ?_
  refine x_icmp_ge 10 (tgt := 40) rfl (by decide) (by decide) (fun h => absurd h (by decide)) (fun _ => ?_)
  refine x_aload_n 11 rfl rfl ?_
  refine x_getR 12 (z := (17)) rfl fl_X1_11 (show 16 < 123 by omega) (by decide +kernel : K0 16 = .inl 1) rfl (hp16 0 _ (by decide) (by decide +kernel : R0 16 ((0 : Nat) : Int) = some 17)) ?_
  refine x_iload_n 13 rfl rfl ?_
  refine x_new 14 (ci := 0) (cb' := 14) (sb' := 288) rfl rfl cl_X1_9 ins_X0 ini_X0 rfl rfl (g' := ((124, K0, i51, l52, R57) : mS)) (cNew (by decide +kernel : K0 123 = .inl 0) hz) ?_
  show mX m_X1_init 3 _ 14 288 _ _ [vR (some (123)), vI (7), vR (some (17))] _
  refine x_dup 15 rfl rfl ?_
  refine x_callI 16 (cb' := 0) (sb' := 0) m_X0_init (n_choir (show isC 123 from (by decide : 123 ∈ cL)) hz) rfl ok_X0_init rfl rfl ml_X1_17 im_X0_init rfl (by decide) rfl (Nat.le_of_ble_eq_true rfl) rfl rfl (fun v g' q58 => ?_)
  obtain ⟨rfl, i59, l60, R61, rfl, hf62, hb63, hP64⟩ := q58
  show mX m_X1_init 3 _ 0 0 _ _ [vR (some (123)), vI (7), vR (some (17))] _
  have hz := mkd_cZ hz (show 123 ≤ 138 by omega) hf62
  have hp16 := yR_fr hp16 (fun b => (hf62 16 b (by omega)).2.2)
  have hp17 := yR_fr hp17 (fun b => (hf62 17 b (by omega)).2.2)
  have hg0 := rg_fr hg0 (fun x b z => (hf62 x b z).2.2) (by omega)
  have hg0 := rg_join hg0 hb63
  have hfr : ∀ (a : Nat) (b : Int), (a < 16 ∨ 138 ≤ a) → R61 a b = R a b := fun a b q => ((hf62 a b (by omega)).2.2).trans (hfr a b q)
  have hfi : ∀ (a : Nat) (b : Int), (a < 16 ∨ 138 ≤ a) → i59 a b = i a b := fun a b q => ((hf62 a b (by omega)).1).trans (hfi a b q)
  have hfl : ∀ (a : Nat) (b : Int), (a < 16 ∨ 138 ≤ a) → l60 a b = l a b := fun a b q => ((hf62 a b (by omega)).2.1).trans (hfl a b q)
  have hI : ∀ (a : Nat) (b : Int), a < 18 → i59 a b = i a b := fun a b q => ((hf62 a b (by omega)).1).trans (hI a b q)
  have hLl : l60 = l := hP64.2.trans hLl
  obtain ⟨R65, hR65⟩ : ∃ f, f = mU R61 (17) (7) (some (123)) := ⟨_, rfl⟩
  refine x_aast 17 (t := 4) (n := 8) (ci := 0) rfl (show 17 < 138 by omega) (by decide +kernel : K0 17 = .inr (4, 8)) rfl rfl (show 123 < 138 by omega) (by decide +kernel : K0 123 = .inl 0) (by omega) (g' := (138, K0, i59, l60, R65)) (by subst hR65; rfl) ?_
  have hz := hz.pR hR65 (show 17 < 138 by omega)
  have hp16 := yR_oth hp16 hR65 (by omega)
  have hp17 := yR_put hp17 (by decide +kernel : R0 17 ((7 : Nat) : Int) = some 123) hR65
  have hg0 := rg_oth hg0 hR65 (by omega)
  have hfr : ∀ (a : Nat) (b : Int), (a < 16 ∨ 138 ≤ a) → R65 a b = R a b := fun a b q => by rw [hR65]; exact (mUne _ _ _ _ _ (by omega)).trans (hfr a b q)
  refine x_iinc 18 (L' := [some (vR (some (16))), some (vI 8)]) rfl (by decide) rfl rfl rfl rfl ?_
  refine x_goto 19 (tgt := 15) rfl (by decide) ?_
  refine x_iload_n 8 rfl rfl ?_
  refine x_bipush 9 rfl (by decide) ?_
  refine x_icmp_ge 10 (tgt := 40) rfl (by decide) (by decide) (fun _ => ?_) (fun h => absurd h (by decide))
  refine x_ret 20 none rfl ⟨rfl, rfl⟩ ⟨rfl, i59, l60, R65, rfl, fun a b q => ⟨hfi a b q, hfl a b q, hfr a b q⟩, ?_, ?_⟩
  · exact rg_zR (zR_of hp16 (by decide +kernel)) (rg_zR (zR_of hp17 (by decide +kernel)) hg0)
  · exact ⟨hI, hLl⟩
set_option maxRecDepth 20000 in
set_option maxHeartbeats 4000000 in
theorem n_text {i : fI} {l : fL} {R : fR}  (hz : cZ (170) i l R) : mCtr m_X7_init 1 1 60 [vR (some (170))] ((171, K0, i, l, R) : mS) (mkd (170) (172) i l R (fun i' l' => i' = i ∧ l' = l)) := by
  refine mCtr_of pl_X7 dc_X7_init (Nat.le_of_ble_eq_true rfl) rfl ?_
  show mX m_X7_init 1 _ 1 60 0 [some (vR (some (170)))] [] ((171, K0, i, l, R) : mS)
  have hp170 := yR_0 (170) R
  have hg0 := rg_0 (171) R
  have hz := hz.up (show 170 ≤ 171 by omega)
  have hfr : ∀ (a : Nat) (b : Int), (a < 170 ∨ 172 ≤ a) → R a b = R a b := fun _ _ _ => rfl
  have hfi : ∀ (a : Nat) (b : Int), (a < 170 ∨ 172 ≤ a) → i a b = i a b := fun _ _ _ => rfl
  have hfl : ∀ (a : Nat) (b : Int), (a < 170 ∨ 172 ≤ a) → l a b = l a b := fun _ _ _ => rfl
  refine x_aload_n 0 rfl rfl ?_
  refine x_objInit 1 rfl ml_X7_3 (by decide) (Nat.le_of_ble_eq_true rfl) ?_
  refine x_aload_n 2 rfl rfl ?_
  refine x_bipush 3 rfl (by decide) ?_
  refine x_newa 4 (t := 0) (n := 60) (cb' := 0) (sb' := 0) rfl rfl (by decide) ac_int rfl (by decide) rfl rfl (g' := ((172, K0, i, l, R) : mS)) (cNew (by decide +kernel : K0 171 = .inr (0, 60)) hz) ?_
  show mX m_X7_init 1 _ 0 0 _ _ [vR (some (171)), vR (some (170))] _
  have hz := hz.up (show 171 ≤ 172 by omega)
  have hg0 := rg_one hg0 (by decide +kernel)
  obtain ⟨R1, hR1⟩ : ∃ f, f = mU R (170) (0) (some (171)) := ⟨_, rfl⟩
  refine x_putF 5 rfl fl_X7_9 (show 170 < 172 by omega) (by decide +kernel : K0 170 = .inl 7) rfl (fun _ => ⟨rfl, rfl⟩) rfl (g' := (172, K0, i, l, R1)) (by subst hR1; rfl) ?_
  have hz := hz.pR hR1 (show 170 < 172 by omega)
  have hp170 := yR_put hp170 (by decide +kernel : R0 170 ((0 : Nat) : Int) = some 171) hR1
  have hg0 := rg_oth hg0 hR1 (by omega)
  have hfr : ∀ (a : Nat) (b : Int), (a < 170 ∨ 172 ≤ a) → R1 a b = R a b := fun a b q => by rw [hR1]; exact (mUne _ _ _ _ _ (by omega)).trans (hfr a b q)
  refine x_ret 6 none rfl ⟨rfl, rfl⟩ ⟨rfl, i, l, R1, rfl, fun a b q => ⟨hfi a b q, hfl a b q, hfr a b q⟩, ?_, ?_⟩
  · exact rg_zR (zR_of hp170 (by decide +kernel)) hg0
  · exact ⟨rfl, rfl⟩
set_option maxRecDepth 20000 in
set_option maxHeartbeats 4000000 in
theorem n_reader {i : fI} {l : fL} {R : fR}  (hz : cZ (172) i l R) : mCtr m_X3_init 1 0 0 [vR (some (172))] ((173, K0, i, l, R) : mS) (mkd (172) (173) i l R (fun i' l' => (∀ a b, i' a b = if a = 172 ∧ (b = 2 ∨ b = 3) then -9 else i a b) ∧ l' = l)) := by
  refine mCtr_of pl_X3 dc_X3_init (Nat.le_of_ble_eq_true rfl) rfl ?_
  show mX m_X3_init 1 _ 0 0 0 [some (vR (some (172)))] [] ((173, K0, i, l, R) : mS)
  have hp172 := yR_0 (172) R
  have hg0 := rg_0 (173) R
  have hz := hz.up (show 172 ≤ 173 by omega)
  have hfr : ∀ (a : Nat) (b : Int), (a < 172 ∨ 173 ≤ a) → R a b = R a b := fun _ _ _ => rfl
  have hfi : ∀ (a : Nat) (b : Int), (a < 172 ∨ 173 ≤ a) → i a b = i a b := fun _ _ _ => rfl
  have hfl : ∀ (a : Nat) (b : Int), (a < 172 ∨ 173 ≤ a) → l a b = l a b := fun _ _ _ => rfl
  refine x_aload_n 0 rfl rfl ?_
  refine x_objInit 1 rfl ml_X3_3 (by decide) (Nat.le_of_ble_eq_true rfl) ?_
  refine x_aload_n 2 rfl rfl ?_
  refine x_bipush 3 rfl (by decide) ?_
  obtain ⟨i1, hi1⟩ : ∃ f, f = mU i (172) 2 (-9) := ⟨_, rfl⟩
  refine x_putI 4 rfl fl_X3_9 (show 172 < 173 by omega) (by decide +kernel : K0 172 = .inl 3) rfl rfl (g' := (173, K0, i1, l, R)) (by subst hi1; rfl) ?_
  have hz := hz.pI hi1 (show 172 < 173 by omega)
  have hfi : ∀ (a : Nat) (b : Int), (a < 172 ∨ 173 ≤ a) → i1 a b = i a b := fun a b q => by rw [hi1]; exact (mUne _ _ _ _ _ (by omega)).trans (hfi a b q)
  refine x_aload_n 5 rfl rfl ?_
  refine x_bipush 6 rfl (by decide) ?_
  obtain ⟨i2, hi2⟩ : ∃ f, f = mU i1 (172) 3 (-9) := ⟨_, rfl⟩
  refine x_putI 7 rfl fl_X3_15 (show 172 < 173 by omega) (by decide +kernel : K0 172 = .inl 3) rfl rfl (g' := (173, K0, i2, l, R)) (by subst hi2; rfl) ?_
  have hz := hz.pI hi2 (show 172 < 173 by omega)
  have hfi : ∀ (a : Nat) (b : Int), (a < 172 ∨ 173 ≤ a) → i2 a b = i a b := fun a b q => by rw [hi2]; exact (mUne _ _ _ _ _ (by omega)).trans (hfi a b q)
  refine x_ret 8 none rfl ⟨rfl, rfl⟩ ⟨rfl, i2, l, R, rfl, fun a b q => ⟨hfi a b q, hfl a b q, hfr a b q⟩, ?_, ?_⟩
  · exact rg_zR (zR_of hp172 (by decide +kernel)) hg0
  · refine ⟨fun a b => ?_, rfl⟩
    rw [hi2, hi1]
    simp only [mU]
    by_cases h : a = 172 ∧ (b = 2 ∨ b = 3)
    · rw [if_pos h]; by_cases h2 : a = 172 ∧ b = 3
      · rw [if_pos h2]
      · rw [if_neg h2, if_pos (by omega)]
    · rw [if_neg h, if_neg (by omega), if_neg (by omega)]
set_option maxRecDepth 20000 in
set_option maxHeartbeats 4000000 in
theorem n_reh {i : fI} {l : fL} {R : fR}  (hz : cZ (173) i l R) : mCtr m_X4_init 1 3 18 [vR (some (173))] ((174, K0, i, l, R) : mS) (mkd (173) (177) i l R (fun i' l' => i' = i ∧ l' = l)) := by
  refine mCtr_of pl_X4 dc_X4_init (Nat.le_of_ble_eq_true rfl) rfl ?_
  show mX m_X4_init 1 _ 3 18 0 [some (vR (some (173)))] [] ((174, K0, i, l, R) : mS)
  have hp173 := yR_0 (173) R
  have hg0 := rg_0 (174) R
  have hz := hz.up (show 173 ≤ 174 by omega)
  have hfr : ∀ (a : Nat) (b : Int), (a < 173 ∨ 177 ≤ a) → R a b = R a b := fun _ _ _ => rfl
  have hfi : ∀ (a : Nat) (b : Int), (a < 173 ∨ 177 ≤ a) → i a b = i a b := fun _ _ _ => rfl
  have hfl : ∀ (a : Nat) (b : Int), (a < 173 ∨ 177 ≤ a) → l a b = l a b := fun _ _ _ => rfl
  refine x_aload_n 0 rfl rfl ?_
  refine x_objInit 1 rfl ml_X4_3 (by decide) (Nat.le_of_ble_eq_true rfl) ?_
  refine x_aload_n 2 rfl rfl ?_
  refine x_bipush 3 rfl (by decide) ?_
  refine x_newa 4 (t := 0) (n := 10) (cb' := 2) (sb' := 8) rfl rfl (by decide) ac_int rfl (by decide) rfl rfl (g' := ((175, K0, i, l, R) : mS)) (cNew (by decide +kernel : K0 174 = .inr (0, 10)) hz) ?_
  show mX m_X4_init 1 _ 2 8 _ _ [vR (some (174)), vR (some (173))] _
  have hz := hz.up (show 174 ≤ 175 by omega)
  have hg0 := rg_one hg0 (by decide +kernel)
  obtain ⟨R1, hR1⟩ : ∃ f, f = mU R (173) (0) (some (174)) := ⟨_, rfl⟩
  refine x_putF 5 rfl fl_X4_9 (show 173 < 175 by omega) (by decide +kernel : K0 173 = .inl 4) rfl (fun _ => ⟨rfl, rfl⟩) rfl (g' := (175, K0, i, l, R1)) (by subst hR1; rfl) ?_
  have hz := hz.pR hR1 (show 173 < 175 by omega)
  have hp173 := yR_put hp173 (by decide +kernel : R0 173 ((0 : Nat) : Int) = some 174) hR1
  have hg0 := rg_oth hg0 hR1 (by omega)
  have hfr : ∀ (a : Nat) (b : Int), (a < 173 ∨ 177 ≤ a) → R1 a b = R a b := fun a b q => by rw [hR1]; exact (mUne _ _ _ _ _ (by omega)).trans (hfr a b q)
  refine x_aload_n 6 rfl rfl ?_
  refine x_iconst 7 rfl ?_
  refine x_newa 8 (t := 0) (n := 4) (cb' := 1) (sb' := 4) rfl rfl (by decide) ac_int rfl (by decide) rfl rfl (g' := ((176, K0, i, l, R1) : mS)) (cNew (by decide +kernel : K0 175 = .inr (0, 4)) hz) ?_
  show mX m_X4_init 1 _ 1 4 _ _ [vR (some (175)), vR (some (173))] _
  have hz := hz.up (show 175 ≤ 176 by omega)
  have hg0 := rg_one hg0 (by decide +kernel)
  obtain ⟨R2, hR2⟩ : ∃ f, f = mU R1 (173) (1) (some (175)) := ⟨_, rfl⟩
  refine x_putF 9 rfl fl_X4_15 (show 173 < 176 by omega) (by decide +kernel : K0 173 = .inl 4) rfl (fun _ => ⟨rfl, rfl⟩) rfl (g' := (176, K0, i, l, R2)) (by subst hR2; rfl) ?_
  have hz := hz.pR hR2 (show 173 < 176 by omega)
  have hp173 := yR_put hp173 (by decide +kernel : R0 173 ((1 : Nat) : Int) = some 175) hR2
  have hg0 := rg_oth hg0 hR2 (by omega)
  have hfr : ∀ (a : Nat) (b : Int), (a < 173 ∨ 177 ≤ a) → R2 a b = R a b := fun a b q => by rw [hR2]; exact (mUne _ _ _ _ _ (by omega)).trans (hfr a b q)
  refine x_aload_n 10 rfl rfl ?_
  refine x_iconst 11 rfl ?_
  refine x_newa 12 (t := 0) (n := 4) (cb' := 0) (sb' := 0) rfl rfl (by decide) ac_int rfl (by decide) rfl rfl (g' := ((177, K0, i, l, R2) : mS)) (cNew (by decide +kernel : K0 176 = .inr (0, 4)) hz) ?_
  show mX m_X4_init 1 _ 0 0 _ _ [vR (some (176)), vR (some (173))] _
  have hz := hz.up (show 176 ≤ 177 by omega)
  have hg0 := rg_one hg0 (by decide +kernel)
  obtain ⟨R3, hR3⟩ : ∃ f, f = mU R2 (173) (2) (some (176)) := ⟨_, rfl⟩
  refine x_putF 13 rfl fl_X4_18 (show 173 < 177 by omega) (by decide +kernel : K0 173 = .inl 4) rfl (fun _ => ⟨rfl, rfl⟩) rfl (g' := (177, K0, i, l, R3)) (by subst hR3; rfl) ?_
  have hz := hz.pR hR3 (show 173 < 177 by omega)
  have hp173 := yR_put hp173 (by decide +kernel : R0 173 ((2 : Nat) : Int) = some 176) hR3
  have hg0 := rg_oth hg0 hR3 (by omega)
  have hfr : ∀ (a : Nat) (b : Int), (a < 173 ∨ 177 ≤ a) → R3 a b = R a b := fun a b q => by rw [hR3]; exact (mUne _ _ _ _ _ (by omega)).trans (hfr a b q)
  refine x_ret 14 none rfl ⟨rfl, rfl⟩ ⟨rfl, i, l, R3, rfl, fun a b q => ⟨hfi a b q, hfl a b q, hfr a b q⟩, ?_, ?_⟩
  · exact rg_zR (zR_of hp173 (by decide +kernel)) hg0
  · exact ⟨rfl, rfl⟩
set_option maxRecDepth 20000 in
set_option maxHeartbeats 4000000 in
theorem n_pl {i : fI} {l : fL} {R : fR}  (hz : cZ (177) i l R) : mCtr m_X2_init 2 11 5158 [vR (some (177))] ((178, K0, i, l, R) : mS) (mkd (177) (189) i l R (fun i' l' => i' = i ∧ ∀ a b, l' a b = if (a = 179 ∨ a = 182) ∧ b = 0 then 1#64 else l a b)) := by
  refine mCtr_of pl_X2 dc_X2_init (Nat.le_of_ble_eq_true rfl) rfl ?_
  show mX m_X2_init 2 _ 11 5158 0 [some (vR (some (177)))] [] ((178, K0, i, l, R) : mS)
  have hp177 := yR_0 (177) R
  have hg0 := rg_0 (178) R
  have hz := hz.up (show 177 ≤ 178 by omega)
  have hfr : ∀ (a : Nat) (b : Int), (a < 177 ∨ 189 ≤ a) → R a b = R a b := fun _ _ _ => rfl
  have hfi : ∀ (a : Nat) (b : Int), (a < 177 ∨ 189 ≤ a) → i a b = i a b := fun _ _ _ => rfl
  have hfl : ∀ (a : Nat) (b : Int), (a < 177 ∨ 189 ≤ a) → l a b = l a b := fun _ _ _ => rfl
  refine x_aload_n 0 rfl rfl ?_
  refine x_objInit 1 rfl ml_X2_3 (by decide) (Nat.le_of_ble_eq_true rfl) ?_
  refine x_aload_n 2 rfl rfl ?_
  refine x_new 3 (ci := 6) (cb' := 10) (sb' := 5156) rfl rfl cl_X2_9 ins_X6 ini_X6 rfl rfl (g' := ((179, K0, i, l, R) : mS)) (cNew (by decide +kernel : K0 178 = .inl 6) hz) ?_
  show mX m_X2_init 2 _ 10 5156 _ _ [vR (some (178)), vR (some (177))] _
  refine x_dup 4 rfl rfl ?_
  refine x_callI 5 (cb' := 8) (sb' := 3108) m_X6_init (n_split (show isP 178 by first | exact isP_178 | exact isP_181) hz) rfl ok_X6_init rfl rfl ml_X2_11 im_X6_init rfl (by decide) rfl (Nat.le_of_ble_eq_true rfl) rfl rfl (fun v g' q1 => ?_)
  obtain ⟨rfl, i2, l3, R4, rfl, hf5, hb6, hP7⟩ := q1
  show mX m_X2_init 2 _ 8 3108 _ _ [vR (some (178)), vR (some (177))] _
  have hz := mkd_cZ hz (show 178 ≤ 181 by omega) hf5
  have hp177 := yR_fr hp177 (fun b => (hf5 177 b (by omega)).2.2)
  have hg0 := rg_fr hg0 (fun x b z => (hf5 x b z).2.2) (by omega)
  have hg0 := rg_join hg0 hb6
  have hfr : ∀ (a : Nat) (b : Int), (a < 177 ∨ 189 ≤ a) → R4 a b = R a b := fun a b q => ((hf5 a b (by omega)).2.2).trans (hfr a b q)
  have hfi : ∀ (a : Nat) (b : Int), (a < 177 ∨ 189 ≤ a) → i2 a b = i a b := fun a b q => ((hf5 a b (by omega)).1).trans (hfi a b q)
  have hfl : ∀ (a : Nat) (b : Int), (a < 177 ∨ 189 ≤ a) → l3 a b = l a b := fun a b q => ((hf5 a b (by omega)).2.1).trans (hfl a b q)
  have hIi : i2 = i := hP7.1
  have hL1 := hP7.2
  obtain ⟨R8, hR8⟩ : ∃ f, f = mU R4 (177) (0) (some (178)) := ⟨_, rfl⟩
  refine x_putF 6 rfl fl_X2_12 (show 177 < 181 by omega) (by decide +kernel : K0 177 = .inl 2) rfl (fun _ => ⟨rfl, rfl⟩) rfl (g' := (181, K0, i2, l3, R8)) (by subst hR8; rfl) ?_
  have hz := hz.pR hR8 (show 177 < 181 by omega)
  have hp177 := yR_put hp177 (by decide +kernel : R0 177 ((0 : Nat) : Int) = some 178) hR8
  have hg0 := rg_oth hg0 hR8 (by omega)
  have hfr : ∀ (a : Nat) (b : Int), (a < 177 ∨ 189 ≤ a) → R8 a b = R a b := fun a b q => by rw [hR8]; exact (mUne _ _ _ _ _ (by omega)).trans (hfr a b q)
  refine x_aload_n 7 rfl rfl ?_
  refine x_new 8 (ci := 6) (cb' := 7) (sb' := 3106) rfl rfl cl_X2_9 ins_X6 ini_X6 rfl rfl (g' := ((182, K0, i2, l3, R8) : mS)) (cNew (by decide +kernel : K0 181 = .inl 6) hz) ?_
  show mX m_X2_init 2 _ 7 3106 _ _ [vR (some (181)), vR (some (177))] _
  refine x_dup 9 rfl rfl ?_
  refine x_callI 10 (cb' := 5) (sb' := 1058) m_X6_init (n_split (show isP 181 by first | exact isP_178 | exact isP_181) hz) rfl ok_X6_init rfl rfl ml_X2_11 im_X6_init rfl (by decide) rfl (Nat.le_of_ble_eq_true rfl) rfl rfl (fun v g' q9 => ?_)
  obtain ⟨rfl, i10, l11, R12, rfl, hf13, hb14, hP15⟩ := q9
  show mX m_X2_init 2 _ 5 1058 _ _ [vR (some (181)), vR (some (177))] _
  have hz := mkd_cZ hz (show 181 ≤ 184 by omega) hf13
  have hp177 := yR_fr hp177 (fun b => (hf13 177 b (by omega)).2.2)
  have hg0 := rg_fr hg0 (fun x b z => (hf13 x b z).2.2) (by omega)
  have hg0 := rg_join hg0 hb14
  have hfr : ∀ (a : Nat) (b : Int), (a < 177 ∨ 189 ≤ a) → R12 a b = R a b := fun a b q => ((hf13 a b (by omega)).2.2).trans (hfr a b q)
  have hfi : ∀ (a : Nat) (b : Int), (a < 177 ∨ 189 ≤ a) → i10 a b = i a b := fun a b q => ((hf13 a b (by omega)).1).trans (hfi a b q)
  have hfl : ∀ (a : Nat) (b : Int), (a < 177 ∨ 189 ≤ a) → l11 a b = l a b := fun a b q => ((hf13 a b (by omega)).2.1).trans (hfl a b q)
  have hIi : i10 = i := hP15.1.trans hIi
  have hLl : ∀ a b, l11 a b = if (a = 179 ∨ a = 182) ∧ b = 0 then 1#64 else l a b := by intro a b; rw [hP15.2, hL1]; by_cases h : (a = 179 ∨ a = 182) ∧ b = 0; (rw [if_pos h]; by_cases h2 : a = 182 ∧ b = 0; (rw [if_pos (by omega)]); (rw [if_neg (by omega), if_pos (by omega)])); (rw [if_neg h, if_neg (by omega), if_neg (by omega)])
  obtain ⟨R16, hR16⟩ : ∃ f, f = mU R12 (177) (1) (some (181)) := ⟨_, rfl⟩
  refine x_putF 11 rfl fl_X2_18 (show 177 < 184 by omega) (by decide +kernel : K0 177 = .inl 2) rfl (fun _ => ⟨rfl, rfl⟩) rfl (g' := (184, K0, i10, l11, R16)) (by subst hR16; rfl) ?_
  have hz := hz.pR hR16 (show 177 < 184 by omega)
  have hp177 := yR_put hp177 (by decide +kernel : R0 177 ((1 : Nat) : Int) = some 181) hR16
  have hg0 := rg_oth hg0 hR16 (by omega)
  have hfr : ∀ (a : Nat) (b : Int), (a < 177 ∨ 189 ≤ a) → R16 a b = R a b := fun a b q => by rw [hR16]; exact (mUne _ _ _ _ _ (by omega)).trans (hfr a b q)
  refine x_aload_n 12 rfl rfl ?_
  refine x_sipush 13 rfl (by decide) ?_
  refine x_newa 14 (t := 0) (n := 1024) (cb' := 4) (sb' := 34) rfl rfl (by decide) ac_int rfl (by decide) rfl rfl (g' := ((185, K0, i10, l11, R16) : mS)) (cNew (by decide +kernel : K0 184 = .inr (0, 1024)) hz) ?_
  show mX m_X2_init 2 _ 4 34 _ _ [vR (some (184)), vR (some (177))] _
  have hz := hz.up (show 184 ≤ 185 by omega)
  have hg0 := rg_one hg0 (by decide +kernel)
  obtain ⟨R17, hR17⟩ : ∃ f, f = mU R16 (177) (2) (some (184)) := ⟨_, rfl⟩
  refine x_putF 15 rfl fl_X2_21 (show 177 < 185 by omega) (by decide +kernel : K0 177 = .inl 2) rfl (fun _ => ⟨rfl, rfl⟩) rfl (g' := (185, K0, i10, l11, R17)) (by subst hR17; rfl) ?_
  have hz := hz.pR hR17 (show 177 < 185 by omega)
  have hp177 := yR_put hp177 (by decide +kernel : R0 177 ((2 : Nat) : Int) = some 184) hR17
  have hg0 := rg_oth hg0 hR17 (by omega)
  have hfr : ∀ (a : Nat) (b : Int), (a < 177 ∨ 189 ≤ a) → R17 a b = R a b := fun a b q => by rw [hR17]; exact (mUne _ _ _ _ _ (by omega)).trans (hfr a b q)
  refine x_aload_n 16 rfl rfl ?_
  refine x_iconst 17 rfl ?_
  refine x_newa 18 (t := 0) (n := 4) (cb' := 3) (sb' := 30) rfl rfl (by decide) ac_int rfl (by decide) rfl rfl (g' := ((186, K0, i10, l11, R17) : mS)) (cNew (by decide +kernel : K0 185 = .inr (0, 4)) hz) ?_
  show mX m_X2_init 2 _ 3 30 _ _ [vR (some (185)), vR (some (177))] _
  have hz := hz.up (show 185 ≤ 186 by omega)
  have hg0 := rg_one hg0 (by decide +kernel)
  obtain ⟨R18, hR18⟩ : ∃ f, f = mU R17 (177) (3) (some (185)) := ⟨_, rfl⟩
  refine x_putF 19 rfl fl_X2_25 (show 177 < 186 by omega) (by decide +kernel : K0 177 = .inl 2) rfl (fun _ => ⟨rfl, rfl⟩) rfl (g' := (186, K0, i10, l11, R18)) (by subst hR18; rfl) ?_
  have hz := hz.pR hR18 (show 177 < 186 by omega)
  have hp177 := yR_put hp177 (by decide +kernel : R0 177 ((3 : Nat) : Int) = some 185) hR18
  have hg0 := rg_oth hg0 hR18 (by omega)
  have hfr : ∀ (a : Nat) (b : Int), (a < 177 ∨ 189 ≤ a) → R18 a b = R a b := fun a b q => by rw [hR18]; exact (mUne _ _ _ _ _ (by omega)).trans (hfr a b q)
  refine x_aload_n 20 rfl rfl ?_
  refine x_bipush 21 rfl (by decide) ?_
  refine x_newa 22 (t := 0) (n := 10) (cb' := 2) (sb' := 20) rfl rfl (by decide) ac_int rfl (by decide) rfl rfl (g' := ((187, K0, i10, l11, R18) : mS)) (cNew (by decide +kernel : K0 186 = .inr (0, 10)) hz) ?_
  show mX m_X2_init 2 _ 2 20 _ _ [vR (some (186)), vR (some (177))] _
  have hz := hz.up (show 186 ≤ 187 by omega)
  have hg0 := rg_one hg0 (by decide +kernel)
  obtain ⟨R19, hR19⟩ : ∃ f, f = mU R18 (177) (4) (some (186)) := ⟨_, rfl⟩
  refine x_putF 23 rfl fl_X2_28 (show 177 < 187 by omega) (by decide +kernel : K0 177 = .inl 2) rfl (fun _ => ⟨rfl, rfl⟩) rfl (g' := (187, K0, i10, l11, R19)) (by subst hR19; rfl) ?_
  have hz := hz.pR hR19 (show 177 < 187 by omega)
  have hp177 := yR_put hp177 (by decide +kernel : R0 177 ((4 : Nat) : Int) = some 186) hR19
  have hg0 := rg_oth hg0 hR19 (by omega)
  have hfr : ∀ (a : Nat) (b : Int), (a < 177 ∨ 189 ≤ a) → R19 a b = R a b := fun a b q => by rw [hR19]; exact (mUne _ _ _ _ _ (by omega)).trans (hfr a b q)
  refine x_aload_n 24 rfl rfl ?_
  refine x_bipush 25 rfl (by decide) ?_
  refine x_newa 26 (t := 0) (n := 10) (cb' := 1) (sb' := 10) rfl rfl (by decide) ac_int rfl (by decide) rfl rfl (g' := ((188, K0, i10, l11, R19) : mS)) (cNew (by decide +kernel : K0 187 = .inr (0, 10)) hz) ?_
  show mX m_X2_init 2 _ 1 10 _ _ [vR (some (187)), vR (some (177))] _
  have hz := hz.up (show 187 ≤ 188 by omega)
  have hg0 := rg_one hg0 (by decide +kernel)
  obtain ⟨R20, hR20⟩ : ∃ f, f = mU R19 (177) (5) (some (187)) := ⟨_, rfl⟩
  refine x_putF 27 rfl fl_X2_31 (show 177 < 188 by omega) (by decide +kernel : K0 177 = .inl 2) rfl (fun _ => ⟨rfl, rfl⟩) rfl (g' := (188, K0, i10, l11, R20)) (by subst hR20; rfl) ?_
  have hz := hz.pR hR20 (show 177 < 188 by omega)
  have hp177 := yR_put hp177 (by decide +kernel : R0 177 ((5 : Nat) : Int) = some 187) hR20
  have hg0 := rg_oth hg0 hR20 (by omega)
  have hfr : ∀ (a : Nat) (b : Int), (a < 177 ∨ 189 ≤ a) → R20 a b = R a b := fun a b q => by rw [hR20]; exact (mUne _ _ _ _ _ (by omega)).trans (hfr a b q)
  refine x_aload_n 28 rfl rfl ?_
  refine x_bipush 29 rfl (by decide) ?_
  refine x_newa 30 (t := 0) (n := 10) (cb' := 0) (sb' := 0) rfl rfl (by decide) ac_int rfl (by decide) rfl rfl (g' := ((189, K0, i10, l11, R20) : mS)) (cNew (by decide +kernel : K0 188 = .inr (0, 10)) hz) ?_
  show mX m_X2_init 2 _ 0 0 _ _ [vR (some (188)), vR (some (177))] _
  have hz := hz.up (show 188 ≤ 189 by omega)
  have hg0 := rg_one hg0 (by decide +kernel)
  obtain ⟨R21, hR21⟩ : ∃ f, f = mU R20 (177) (6) (some (188)) := ⟨_, rfl⟩
  refine x_putF 31 rfl fl_X2_34 (show 177 < 189 by omega) (by decide +kernel : K0 177 = .inl 2) rfl (fun _ => ⟨rfl, rfl⟩) rfl (g' := (189, K0, i10, l11, R21)) (by subst hR21; rfl) ?_
  have hz := hz.pR hR21 (show 177 < 189 by omega)
  have hp177 := yR_put hp177 (by decide +kernel : R0 177 ((6 : Nat) : Int) = some 188) hR21
  have hg0 := rg_oth hg0 hR21 (by omega)
  have hfr : ∀ (a : Nat) (b : Int), (a < 177 ∨ 189 ≤ a) → R21 a b = R a b := fun a b q => by rw [hR21]; exact (mUne _ _ _ _ _ (by omega)).trans (hfr a b q)
  refine x_ret 32 none rfl ⟨rfl, rfl⟩ ⟨rfl, i10, l11, R21, rfl, fun a b q => ⟨hfi a b q, hfl a b q, hfr a b q⟩, ?_, ?_⟩
  · exact rg_zR (zR_of hp177 (by decide +kernel)) hg0
  · refine ⟨hIi, hLl⟩
set_option maxRecDepth 20000 in
set_option maxHeartbeats 4000000 in
theorem n_book {i : fI} {l : fL} {R : fR}  (hz : cZ (0) i l R) : mCtr m_X8_init 4 188 8533 [vR (some (0))] ((1, K0, i, l, R) : mS) (mkd (0) (189) i l R (fun i' l' => (∀ a b, (a < 18 ∨ 169 ≤ a) → i' a b = if a = 13 ∧ 0 ≤ b ∧ b < 4 then mTF 2 b.toNat else if a = 172 ∧ (b = 2 ∨ b = 3) then -9 else i a b) ∧ ∀ a b, l' a b = if (a = 179 ∨ a = 182) ∧ b = 0 then 1#64 else l a b)) := by
  refine mCtr_of pl_X8 dc_X8_init (Nat.le_of_ble_eq_true rfl) rfl ?_
  show mX m_X8_init 4 _ 188 8533 0 [some (vR (some (0))), none] [] ((1, K0, i, l, R) : mS)
  have hp0 := yR_0 (0) R
  have hg0 := rg_0 (1) R
  have hz := hz.up (show 0 ≤ 1 by omega)
  have hfr : ∀ (a : Nat) (b : Int), (a < 0 ∨ 189 ≤ a) → R a b = R a b := fun _ _ _ => rfl
  have hfi : ∀ (a : Nat) (b : Int), (a < 0 ∨ 189 ≤ a) → i a b = i a b := fun _ _ _ => rfl
  have hfl : ∀ (a : Nat) (b : Int), (a < 0 ∨ 189 ≤ a) → l a b = l a b := fun _ _ _ => rfl
  refine x_aload_n 0 rfl rfl ?_
  refine x_objInit 1 rfl ml_X8_1 (by decide) (Nat.le_of_ble_eq_true rfl) ?_
  refine x_aload_n 2 rfl rfl ?_
  refine x_new 3 (ci := 0) (cb' := 187) (sb' := 8525) rfl rfl cl_X8_7 ins_X0 ini_X0 rfl rfl (g' := ((2, K0, i, l, R) : mS)) (cNew (by decide +kernel : K0 1 = .inl 0) hz) ?_
  show mX m_X8_init 4 _ 187 8525 _ _ [vR (some (1)), vR (some (0))] _
  refine x_dup 4 rfl rfl ?_
  refine x_callI 5 (cb' := 173) (sb' := 8237) m_X0_init (n_choir (show isC 1 from (by decide : 1 ∈ cL)) hz) rfl ok_X0_init rfl rfl ml_X8_9 im_X0_init rfl (by decide) rfl (Nat.le_of_ble_eq_true rfl) rfl rfl (fun v g' q1 => ?_)
  obtain ⟨rfl, i2, l3, R4, rfl, hf5, hb6, hP7⟩ := q1
  show mX m_X8_init 4 _ 173 8237 _ _ [vR (some (1)), vR (some (0))] _
  have hz := mkd_cZ hz (show 1 ≤ 16 by omega) hf5
  have hp0 := yR_fr hp0 (fun b => (hf5 0 b (by omega)).2.2)
  have hg0 := rg_fr hg0 (fun x b z => (hf5 x b z).2.2) (by omega)
  have hg0 := rg_join hg0 hb6
  have hfr : ∀ (a : Nat) (b : Int), (a < 0 ∨ 189 ≤ a) → R4 a b = R a b := fun a b q => ((hf5 a b (by omega)).2.2).trans (hfr a b q)
  have hfi : ∀ (a : Nat) (b : Int), (a < 0 ∨ 189 ≤ a) → i2 a b = i a b := fun a b q => ((hf5 a b (by omega)).1).trans (hfi a b q)
  have hfl : ∀ (a : Nat) (b : Int), (a < 0 ∨ 189 ≤ a) → l3 a b = l a b := fun a b q => ((hf5 a b (by omega)).2.1).trans (hfl a b q)
  have hI : ∀ (a : Nat) (b : Int), (a < 18 ∨ 169 ≤ a) → i2 a b = if a = 13 ∧ 0 ≤ b ∧ b < 4 then mTF 2 b.toNat else i a b := fun a b q => by rw [hP7.1]
  have hLl : l3 = l := hP7.2
  obtain ⟨R8, hR8⟩ : ∃ f, f = mU R4 (0) (0) (some (1)) := ⟨_, rfl⟩
  refine x_putF 6 rfl fl_X8_10 (show 0 < 16 by omega) (by decide +kernel : K0 0 = .inl 8) rfl (fun _ => ⟨rfl, rfl⟩) rfl (g' := (16, K0, i2, l3, R8)) (by subst hR8; rfl) ?_
  have hz := hz.pR hR8 (show 0 < 16 by omega)
  have hp0 := yR_put hp0 (by decide +kernel : R0 0 ((0 : Nat) : Int) = some 1) hR8
  have hg0 := rg_oth hg0 hR8 (by omega)
  have hfr : ∀ (a : Nat) (b : Int), (a < 0 ∨ 189 ≤ a) → R8 a b = R a b := fun a b q => by rw [hR8]; exact (mUne _ _ _ _ _ (by omega)).trans (hfr a b q)
  refine x_aload_n 7 rfl rfl ?_
  refine x_new 8 (ci := 1) (cb' := 172) (sb' := 8234) rfl rfl cl_X8_16 ins_X1 ini_X1 rfl rfl (g' := ((17, K0, i2, l3, R8) : mS)) (cNew (by decide +kernel : K0 16 = .inl 1) hz) ?_
  show mX m_X8_init 4 _ 172 8234 _ _ [vR (some (16)), vR (some (0))] _
  refine x_dup 9 rfl rfl ?_
  refine x_callI 10 (cb' := 51) (sb' := 5858) m_X1_init (n_hist  hz) rfl ok_X1_init rfl rfl ml_X8_18 im_X1_init rfl (by decide) rfl (Nat.le_of_ble_eq_true rfl) rfl rfl (fun v g' q9 => ?_)
  obtain ⟨rfl, i10, l11, R12, rfl, hf13, hb14, hP15⟩ := q9
  show mX m_X8_init 4 _ 51 5858 _ _ [vR (some (16)), vR (some (0))] _
  have hz := mkd_cZ hz (show 16 ≤ 138 by omega) hf13
  have hp0 := yR_fr hp0 (fun b => (hf13 0 b (by omega)).2.2)
  have hg0 := rg_fr hg0 (fun x b z => (hf13 x b z).2.2) (by omega)
  have hg0 := rg_join hg0 hb14
  have hfr : ∀ (a : Nat) (b : Int), (a < 0 ∨ 189 ≤ a) → R12 a b = R a b := fun a b q => ((hf13 a b (by omega)).2.2).trans (hfr a b q)
  have hfi : ∀ (a : Nat) (b : Int), (a < 0 ∨ 189 ≤ a) → i10 a b = i a b := fun a b q => ((hf13 a b (by omega)).1).trans (hfi a b q)
  have hfl : ∀ (a : Nat) (b : Int), (a < 0 ∨ 189 ≤ a) → l11 a b = l a b := fun a b q => ((hf13 a b (by omega)).2.1).trans (hfl a b q)
  have hI : ∀ (a : Nat) (b : Int), (a < 18 ∨ 169 ≤ a) → i10 a b = if a = 13 ∧ 0 ≤ b ∧ b < 4 then mTF 2 b.toNat else i a b := fun a b q => by rcases q with q | q; (rw [hP15.1 a b q]; exact hI a b (Or.inl q)); (rw [(hf13 a b (by omega)).1]; exact hI a b (Or.inr q))
  have hLl : l11 = l := hP15.2.trans hLl
  obtain ⟨R16, hR16⟩ : ∃ f, f = mU R12 (0) (1) (some (16)) := ⟨_, rfl⟩
  refine x_putF 11 rfl fl_X8_19 (show 0 < 138 by omega) (by decide +kernel : K0 0 = .inl 8) rfl (fun _ => ⟨rfl, rfl⟩) rfl (g' := (138, K0, i10, l11, R16)) (by subst hR16; rfl) ?_
  have hz := hz.pR hR16 (show 0 < 138 by omega)
  have hp0 := yR_put hp0 (by decide +kernel : R0 0 ((1 : Nat) : Int) = some 16) hR16
  have hg0 := rg_oth hg0 hR16 (by omega)
  have hfr : ∀ (a : Nat) (b : Int), (a < 0 ∨ 189 ≤ a) → R16 a b = R a b := fun a b q => by rw [hR16]; exact (mUne _ _ _ _ _ (by omega)).trans (hfr a b q)
  refine x_aload_n 12 rfl rfl ?_
  refine x_iconst 13 rfl ?_
  refine x_newq0 14 (n := 2) (cb' := 50) (sb' := 5856) rfl cl_X8_7 rfl (by decide) rfl rfl (g' := ((139, K0, i10, l11, R16) : mS)) (cNew (by decide +kernel : K0 138 = .inr (4, 2)) hz) ?_
  show mX m_X8_init 4 _ 50 5856 _ _ [vR (some (138)), vR (some (0))] _
  have hz := hz.up (show 138 ≤ 139 by omega)
  have hp138 := yR_0 (138) R16
  have hg1 := rg_0 (139) R16
  obtain ⟨R17, hR17⟩ : ∃ f, f = mU R16 (0) (2) (some (138)) := ⟨_, rfl⟩
  refine x_putF 15 rfl fl_X8_23 (show 0 < 139 by omega) (by decide +kernel : K0 0 = .inl 8) rfl (fun _ => ⟨rfl, rfl⟩) rfl (g' := (139, K0, i10, l11, R17)) (by subst hR17; rfl) ?_
  have hz := hz.pR hR17 (show 0 < 139 by omega)
  have hp0 := yR_put hp0 (by decide +kernel : R0 0 ((2 : Nat) : Int) = some 138) hR17
  have hp138 := yR_oth hp138 hR17 (by omega)
  have hg0 := rg_oth hg0 hR17 (by omega)
  have hg1 := rg_oth hg1 hR17 (by omega)
  have hfr : ∀ (a : Nat) (b : Int), (a < 0 ∨ 189 ≤ a) → R17 a b = R a b := fun a b q => by rw [hR17]; exact (mUne _ _ _ _ _ (by omega)).trans (hfr a b q)
  refine x_iconst 16 rfl ?_
  refine x_istore_n 17 (L' := [some (vR (some (0))), some (vI 0)]) rfl (by decide) rfl rfl ?_
  refine x_iload_n 18 rfl rfl ?_
  refine x_iconst 19 rfl ?_
  refine x_icmp_ge 20 (tgt := 60) rfl (by decide) (by decide) (fun h => absurd h (by decide)) (fun _ => ?_)
  refine x_aload_n 21 rfl rfl ?_
  refine x_getR 22 (z := (138)) rfl fl_X8_23 (show 0 < 139 by omega) (by decide +kernel : K0 0 = .inl 8) rfl (hp0 2 _ (by decide) (by decide +kernel : R0 0 ((2 : Nat) : Int) = some 138)) ?_
  refine x_iload_n 23 rfl rfl ?_
  refine x_new 24 (ci := 0) (cb' := 49) (sb' := 5848) rfl rfl cl_X8_7 ins_X0 ini_X0 rfl rfl (g' := ((140, K0, i10, l11, R17) : mS)) (cNew (by decide +kernel : K0 139 = .inl 0) hz) ?_
  show mX m_X8_init 4 _ 49 5848 _ _ [vR (some (139)), vI (0), vR (some (138))] _
  refine x_dup 25 rfl rfl ?_
  refine x_callI 26 (cb' := 35) (sb' := 5560) m_X0_init (n_choir (show isC 139 from (by decide : 139 ∈ cL)) hz) rfl ok_X0_init rfl rfl ml_X8_9 im_X0_init rfl (by decide) rfl (Nat.le_of_ble_eq_true rfl) rfl rfl (fun v g' q18 => ?_)
  obtain ⟨rfl, i19, l20, R21, rfl, hf22, hb23, hP24⟩ := q18
  show mX m_X8_init 4 _ 35 5560 _ _ [vR (some (139)), vI (0), vR (some (138))] _
  have hz := mkd_cZ hz (show 139 ≤ 154 by omega) hf22
  have hp0 := yR_fr hp0 (fun b => (hf22 0 b (by omega)).2.2)
  have hp138 := yR_fr hp138 (fun b => (hf22 138 b (by omega)).2.2)
  have hg0 := rg_fr hg0 (fun x b z => (hf22 x b z).2.2) (by omega)
  have hg1 := rg_fr hg1 (fun x b z => (hf22 x b z).2.2) (by omega)
  have hg1 := rg_join hg1 hb23
  have hfr : ∀ (a : Nat) (b : Int), (a < 0 ∨ 189 ≤ a) → R21 a b = R a b := fun a b q => ((hf22 a b (by omega)).2.2).trans (hfr a b q)
  have hfi : ∀ (a : Nat) (b : Int), (a < 0 ∨ 189 ≤ a) → i19 a b = i a b := fun a b q => ((hf22 a b (by omega)).1).trans (hfi a b q)
  have hfl : ∀ (a : Nat) (b : Int), (a < 0 ∨ 189 ≤ a) → l20 a b = l a b := fun a b q => ((hf22 a b (by omega)).2.1).trans (hfl a b q)
  have hI : ∀ (a : Nat) (b : Int), (a < 18 ∨ 169 ≤ a) → i19 a b = if a = 13 ∧ 0 ≤ b ∧ b < 4 then mTF 2 b.toNat else i a b := fun a b q => ((hf22 a b (by omega)).1).trans (hI a b q)
  have hLl : l20 = l := hP24.2.trans hLl
  obtain ⟨R25, hR25⟩ : ∃ f, f = mU R21 (138) (0) (some (139)) := ⟨_, rfl⟩
  refine x_aast 27 (t := 4) (n := 2) (ci := 0) rfl (show 138 < 154 by omega) (by decide +kernel : K0 138 = .inr (4, 2)) rfl rfl (show 139 < 154 by omega) (by decide +kernel : K0 139 = .inl 0) (by omega) (g' := (154, K0, i19, l20, R25)) (by subst hR25; rfl) ?_
  have hz := hz.pR hR25 (show 138 < 154 by omega)
  have hp0 := yR_oth hp0 hR25 (by omega)
  have hp138 := yR_put hp138 (by decide +kernel : R0 138 ((0 : Nat) : Int) = some 139) hR25
  have hg0 := rg_oth hg0 hR25 (by omega)
  have hg1 := rg_oth hg1 hR25 (by omega)
  have hfr : ∀ (a : Nat) (b : Int), (a < 0 ∨ 189 ≤ a) → R25 a b = R a b := fun a b q => by rw [hR25]; exact (mUne _ _ _ _ _ (by omega)).trans (hfr a b q)
  refine x_iinc 28 (L' := [some (vR (some (0))), some (vI 1)]) rfl (by decide) rfl rfl rfl rfl ?_
  refine x_goto 29 (tgt := 36) rfl (by decide) ?_
  refine x_iload_n 18 rfl rfl ?_
  refine x_iconst 19 rfl ?_
  refine x_icmp_ge 20 (tgt := 60) rfl (by decide) (by decide) (fun h => absurd h (by decide)) (fun _ => ?_)
  refine x_aload_n 21 rfl rfl ?_
  refine x_getR 22 (z := (138)) rfl fl_X8_23 (show 0 < 154 by omega) (by decide +kernel : K0 0 = .inl 8) rfl (hp0 2 _ (by decide) (by decide +kernel : R0 0 ((2 : Nat) : Int) = some 138)) ?_
  refine x_iload_n 23 rfl rfl ?_
  refine x_new 24 (ci := 0) (cb' := 34) (sb' := 5552) rfl rfl cl_X8_7 ins_X0 ini_X0 rfl rfl (g' := ((155, K0, i19, l20, R25) : mS)) (cNew (by decide +kernel : K0 154 = .inl 0) hz) ?_
  show mX m_X8_init 4 _ 34 5552 _ _ [vR (some (154)), vI (1), vR (some (138))] _
  refine x_dup 25 rfl rfl ?_
  refine x_callI 26 (cb' := 20) (sb' := 5264) m_X0_init (n_choir (show isC 154 from (by decide : 154 ∈ cL)) hz) rfl ok_X0_init rfl rfl ml_X8_9 im_X0_init rfl (by decide) rfl (Nat.le_of_ble_eq_true rfl) rfl rfl (fun v g' q26 => ?_)
  obtain ⟨rfl, i27, l28, R29, rfl, hf30, hb31, hP32⟩ := q26
  show mX m_X8_init 4 _ 20 5264 _ _ [vR (some (154)), vI (1), vR (some (138))] _
  have hz := mkd_cZ hz (show 154 ≤ 169 by omega) hf30
  have hp0 := yR_fr hp0 (fun b => (hf30 0 b (by omega)).2.2)
  have hp138 := yR_fr hp138 (fun b => (hf30 138 b (by omega)).2.2)
  have hg0 := rg_fr hg0 (fun x b z => (hf30 x b z).2.2) (by omega)
  have hg1 := rg_fr hg1 (fun x b z => (hf30 x b z).2.2) (by omega)
  have hg1 := rg_join hg1 hb31
  have hfr : ∀ (a : Nat) (b : Int), (a < 0 ∨ 189 ≤ a) → R29 a b = R a b := fun a b q => ((hf30 a b (by omega)).2.2).trans (hfr a b q)
  have hfi : ∀ (a : Nat) (b : Int), (a < 0 ∨ 189 ≤ a) → i27 a b = i a b := fun a b q => ((hf30 a b (by omega)).1).trans (hfi a b q)
  have hfl : ∀ (a : Nat) (b : Int), (a < 0 ∨ 189 ≤ a) → l28 a b = l a b := fun a b q => ((hf30 a b (by omega)).2.1).trans (hfl a b q)
  have hI : ∀ (a : Nat) (b : Int), (a < 18 ∨ 169 ≤ a) → i27 a b = if a = 13 ∧ 0 ≤ b ∧ b < 4 then mTF 2 b.toNat else i a b := fun a b q => ((hf30 a b (by omega)).1).trans (hI a b q)
  have hLl : l28 = l := hP32.2.trans hLl
  obtain ⟨R33, hR33⟩ : ∃ f, f = mU R29 (138) (1) (some (154)) := ⟨_, rfl⟩
  refine x_aast 27 (t := 4) (n := 2) (ci := 0) rfl (show 138 < 169 by omega) (by decide +kernel : K0 138 = .inr (4, 2)) rfl rfl (show 154 < 169 by omega) (by decide +kernel : K0 154 = .inl 0) (by omega) (g' := (169, K0, i27, l28, R33)) (by subst hR33; rfl) ?_
  have hz := hz.pR hR33 (show 138 < 169 by omega)
  have hp0 := yR_oth hp0 hR33 (by omega)
  have hp138 := yR_put hp138 (by decide +kernel : R0 138 ((1 : Nat) : Int) = some 154) hR33
  have hg0 := rg_oth hg0 hR33 (by omega)
  have hg1 := rg_oth hg1 hR33 (by omega)
  have hfr : ∀ (a : Nat) (b : Int), (a < 0 ∨ 189 ≤ a) → R33 a b = R a b := fun a b q => by rw [hR33]; exact (mUne _ _ _ _ _ (by omega)).trans (hfr a b q)
  refine x_iinc 28 (L' := [some (vR (some (0))), some (vI 2)]) rfl (by decide) rfl rfl rfl rfl ?_
  refine x_goto 29 (tgt := 36) rfl (by decide) ?_
  refine x_iload_n 18 rfl rfl ?_
  refine x_iconst 19 rfl ?_
  refine x_icmp_ge 20 (tgt := 60) rfl (by decide) (by decide) (fun _ => ?_) (fun h => absurd h (by decide))
  refine x_aload_n 30 rfl rfl ?_
  refine x_iconst 31 rfl ?_
  refine x_newa 32 (t := 2) (n := 2) (cb' := 19) (sb' := 5262) rfl rfl (by decide) ac_boolean rfl (by decide) rfl rfl (g' := ((170, K0, i27, l28, R33) : mS)) (cNew (by decide +kernel : K0 169 = .inr (2, 2)) hz) ?_
  show mX m_X8_init 4 _ 19 5262 _ _ [vR (some (169)), vR (some (0))] _
  have hz := hz.up (show 169 ≤ 170 by omega)
  have hg1 := rg_one hg1 (by decide +kernel)
  obtain ⟨R34, hR34⟩ : ∃ f, f = mU R33 (0) (3) (some (169)) := ⟨_, rfl⟩
  refine x_putF 33 rfl fl_X8_27 (show 0 < 170 by omega) (by decide +kernel : K0 0 = .inl 8) rfl (fun _ => ⟨rfl, rfl⟩) rfl (g' := (170, K0, i27, l28, R34)) (by subst hR34; rfl) ?_
  have hz := hz.pR hR34 (show 0 < 170 by omega)
  have hp0 := yR_put hp0 (by decide +kernel : R0 0 ((3 : Nat) : Int) = some 169) hR34
  have hp138 := yR_oth hp138 hR34 (by omega)
  have hg0 := rg_oth hg0 hR34 (by omega)
  have hg1 := rg_oth hg1 hR34 (by omega)
  have hfr : ∀ (a : Nat) (b : Int), (a < 0 ∨ 189 ≤ a) → R34 a b = R a b := fun a b q => by rw [hR34]; exact (mUne _ _ _ _ _ (by omega)).trans (hfr a b q)
  refine x_aload_n 34 rfl rfl ?_
  refine x_new 35 (ci := 7) (cb' := 18) (sb' := 5260) rfl rfl cl_X8_31 ins_X7 ini_X7 rfl rfl (g' := ((171, K0, i27, l28, R34) : mS)) (cNew (by decide +kernel : K0 170 = .inl 7) hz) ?_
  show mX m_X8_init 4 _ 18 5260 _ _ [vR (some (170)), vR (some (0))] _
  refine x_dup 36 rfl rfl ?_
  refine x_callI 37 (cb' := 17) (sb' := 5200) m_X7_init (n_text  hz) rfl ok_X7_init rfl rfl ml_X8_33 im_X7_init rfl (by decide) rfl (Nat.le_of_ble_eq_true rfl) rfl rfl (fun v g' q35 => ?_)
  obtain ⟨rfl, i36, l37, R38, rfl, hf39, hb40, hP41⟩ := q35
  show mX m_X8_init 4 _ 17 5200 _ _ [vR (some (170)), vR (some (0))] _
  have hz := mkd_cZ hz (show 170 ≤ 172 by omega) hf39
  have hp0 := yR_fr hp0 (fun b => (hf39 0 b (by omega)).2.2)
  have hp138 := yR_fr hp138 (fun b => (hf39 138 b (by omega)).2.2)
  have hg0 := rg_fr hg0 (fun x b z => (hf39 x b z).2.2) (by omega)
  have hg1 := rg_fr hg1 (fun x b z => (hf39 x b z).2.2) (by omega)
  have hg1 := rg_join hg1 hb40
  have hfr : ∀ (a : Nat) (b : Int), (a < 0 ∨ 189 ≤ a) → R38 a b = R a b := fun a b q => ((hf39 a b (by omega)).2.2).trans (hfr a b q)
  have hfi : ∀ (a : Nat) (b : Int), (a < 0 ∨ 189 ≤ a) → i36 a b = i a b := fun a b q => ((hf39 a b (by omega)).1).trans (hfi a b q)
  have hfl : ∀ (a : Nat) (b : Int), (a < 0 ∨ 189 ≤ a) → l37 a b = l a b := fun a b q => ((hf39 a b (by omega)).2.1).trans (hfl a b q)
  have hI : ∀ (a : Nat) (b : Int), (a < 18 ∨ 169 ≤ a) → i36 a b = if a = 13 ∧ 0 ≤ b ∧ b < 4 then mTF 2 b.toNat else i a b := by rw [hP41.1]; exact hI
  have hLl : l37 = l := hP41.2.trans hLl
  obtain ⟨R42, hR42⟩ : ∃ f, f = mU R38 (0) (4) (some (170)) := ⟨_, rfl⟩
  refine x_putF 38 rfl fl_X8_34 (show 0 < 172 by omega) (by decide +kernel : K0 0 = .inl 8) rfl (fun _ => ⟨rfl, rfl⟩) rfl (g' := (172, K0, i36, l37, R42)) (by subst hR42; rfl) ?_
  have hz := hz.pR hR42 (show 0 < 172 by omega)
  have hp0 := yR_put hp0 (by decide +kernel : R0 0 ((4 : Nat) : Int) = some 170) hR42
  have hp138 := yR_oth hp138 hR42 (by omega)
  have hg0 := rg_oth hg0 hR42 (by omega)
  have hg1 := rg_oth hg1 hR42 (by omega)
  have hfr : ∀ (a : Nat) (b : Int), (a < 0 ∨ 189 ≤ a) → R42 a b = R a b := fun a b q => by rw [hR42]; exact (mUne _ _ _ _ _ (by omega)).trans (hfr a b q)
  refine x_aload_n 39 rfl rfl ?_
  refine x_new 40 (ci := 3) (cb' := 16) (sb' := 5189) rfl rfl cl_X8_38 ins_X3 ini_X3 rfl rfl (g' := ((173, K0, i36, l37, R42) : mS)) (cNew (by decide +kernel : K0 172 = .inl 3) hz) ?_
  show mX m_X8_init 4 _ 16 5189 _ _ [vR (some (172)), vR (some (0))] _
  refine x_dup 41 rfl rfl ?_
  refine x_callI 42 (cb' := 16) (sb' := 5189) m_X3_init (n_reader  hz) rfl ok_X3_init rfl rfl ml_X8_40 im_X3_init rfl (by decide) rfl (Nat.le_of_ble_eq_true rfl) rfl rfl (fun v g' q43 => ?_)
  obtain ⟨rfl, i44, l45, R46, rfl, hf47, hb48, hP49⟩ := q43
  show mX m_X8_init 4 _ 16 5189 _ _ [vR (some (172)), vR (some (0))] _
  have hz := mkd_cZ hz (show 172 ≤ 173 by omega) hf47
  have hp0 := yR_fr hp0 (fun b => (hf47 0 b (by omega)).2.2)
  have hp138 := yR_fr hp138 (fun b => (hf47 138 b (by omega)).2.2)
  have hg0 := rg_fr hg0 (fun x b z => (hf47 x b z).2.2) (by omega)
  have hg1 := rg_fr hg1 (fun x b z => (hf47 x b z).2.2) (by omega)
  have hg1 := rg_join hg1 hb48
  have hfr : ∀ (a : Nat) (b : Int), (a < 0 ∨ 189 ≤ a) → R46 a b = R a b := fun a b q => ((hf47 a b (by omega)).2.2).trans (hfr a b q)
  have hfi : ∀ (a : Nat) (b : Int), (a < 0 ∨ 189 ≤ a) → i44 a b = i a b := fun a b q => ((hf47 a b (by omega)).1).trans (hfi a b q)
  have hfl : ∀ (a : Nat) (b : Int), (a < 0 ∨ 189 ≤ a) → l45 a b = l a b := fun a b q => ((hf47 a b (by omega)).2.1).trans (hfl a b q)
  have hI : ∀ (a : Nat) (b : Int), (a < 18 ∨ 169 ≤ a) → i44 a b = if a = 13 ∧ 0 ≤ b ∧ b < 4 then mTF 2 b.toNat else if a = 172 ∧ (b = 2 ∨ b = 3) then -9 else i a b := fun a b q => by rw [hP49.1, hI a b q]; by_cases h : a = 172 ∧ (b = 2 ∨ b = 3); (rw [if_pos h, if_neg (by omega), if_pos h]); (rw [if_neg h, if_neg h])
  have hLl : l45 = l := hP49.2.trans hLl
  obtain ⟨R50, hR50⟩ : ∃ f, f = mU R46 (0) (5) (some (172)) := ⟨_, rfl⟩
  refine x_putF 43 rfl fl_X8_41 (show 0 < 173 by omega) (by decide +kernel : K0 0 = .inl 8) rfl (fun _ => ⟨rfl, rfl⟩) rfl (g' := (173, K0, i44, l45, R50)) (by subst hR50; rfl) ?_
  have hz := hz.pR hR50 (show 0 < 173 by omega)
  have hp0 := yR_put hp0 (by decide +kernel : R0 0 ((5 : Nat) : Int) = some 172) hR50
  have hp138 := yR_oth hp138 hR50 (by omega)
  have hg0 := rg_oth hg0 hR50 (by omega)
  have hg1 := rg_oth hg1 hR50 (by omega)
  have hfr : ∀ (a : Nat) (b : Int), (a < 0 ∨ 189 ≤ a) → R50 a b = R a b := fun a b q => by rw [hR50]; exact (mUne _ _ _ _ _ (by omega)).trans (hfr a b q)
  refine x_aload_n 44 rfl rfl ?_
  refine x_new 45 (ci := 4) (cb' := 15) (sb' := 5186) rfl rfl cl_X8_45 ins_X4 ini_X4 rfl rfl (g' := ((174, K0, i44, l45, R50) : mS)) (cNew (by decide +kernel : K0 173 = .inl 4) hz) ?_
  show mX m_X8_init 4 _ 15 5186 _ _ [vR (some (173)), vR (some (0))] _
  refine x_dup 46 rfl rfl ?_
  refine x_callI 47 (cb' := 12) (sb' := 5168) m_X4_init (n_reh  hz) rfl ok_X4_init rfl rfl ml_X8_47 im_X4_init rfl (by decide) rfl (Nat.le_of_ble_eq_true rfl) rfl rfl (fun v g' q51 => ?_)
  obtain ⟨rfl, i52, l53, R54, rfl, hf55, hb56, hP57⟩ := q51
  show mX m_X8_init 4 _ 12 5168 _ _ [vR (some (173)), vR (some (0))] _
  have hz := mkd_cZ hz (show 173 ≤ 177 by omega) hf55
  have hp0 := yR_fr hp0 (fun b => (hf55 0 b (by omega)).2.2)
  have hp138 := yR_fr hp138 (fun b => (hf55 138 b (by omega)).2.2)
  have hg0 := rg_fr hg0 (fun x b z => (hf55 x b z).2.2) (by omega)
  have hg1 := rg_fr hg1 (fun x b z => (hf55 x b z).2.2) (by omega)
  have hg1 := rg_join hg1 hb56
  have hfr : ∀ (a : Nat) (b : Int), (a < 0 ∨ 189 ≤ a) → R54 a b = R a b := fun a b q => ((hf55 a b (by omega)).2.2).trans (hfr a b q)
  have hfi : ∀ (a : Nat) (b : Int), (a < 0 ∨ 189 ≤ a) → i52 a b = i a b := fun a b q => ((hf55 a b (by omega)).1).trans (hfi a b q)
  have hfl : ∀ (a : Nat) (b : Int), (a < 0 ∨ 189 ≤ a) → l53 a b = l a b := fun a b q => ((hf55 a b (by omega)).2.1).trans (hfl a b q)
  have hI : ∀ (a : Nat) (b : Int), (a < 18 ∨ 169 ≤ a) → i52 a b = if a = 13 ∧ 0 ≤ b ∧ b < 4 then mTF 2 b.toNat else if a = 172 ∧ (b = 2 ∨ b = 3) then -9 else i a b := by rw [hP57.1]; exact hI
  have hLl : l53 = l := hP57.2.trans hLl
  obtain ⟨R58, hR58⟩ : ∃ f, f = mU R54 (0) (6) (some (173)) := ⟨_, rfl⟩
  refine x_putF 48 rfl fl_X8_48 (show 0 < 177 by omega) (by decide +kernel : K0 0 = .inl 8) rfl (fun _ => ⟨rfl, rfl⟩) rfl (g' := (177, K0, i52, l53, R58)) (by subst hR58; rfl) ?_
  have hz := hz.pR hR58 (show 0 < 177 by omega)
  have hp0 := yR_put hp0 (by decide +kernel : R0 0 ((6 : Nat) : Int) = some 173) hR58
  have hp138 := yR_oth hp138 hR58 (by omega)
  have hg0 := rg_oth hg0 hR58 (by omega)
  have hg1 := rg_oth hg1 hR58 (by omega)
  have hfr : ∀ (a : Nat) (b : Int), (a < 0 ∨ 189 ≤ a) → R58 a b = R a b := fun a b q => by rw [hR58]; exact (mUne _ _ _ _ _ (by omega)).trans (hfr a b q)
  refine x_aload_n 49 rfl rfl ?_
  refine x_new 50 (ci := 2) (cb' := 11) (sb' := 5158) rfl rfl cl_X8_52 ins_X2 ini_X2 rfl rfl (g' := ((178, K0, i52, l53, R58) : mS)) (cNew (by decide +kernel : K0 177 = .inl 2) hz) ?_
  show mX m_X8_init 4 _ 11 5158 _ _ [vR (some (177)), vR (some (0))] _
  refine x_dup 51 rfl rfl ?_
  refine x_callI 52 (cb' := 0) (sb' := 0) m_X2_init (n_pl  hz) rfl ok_X2_init rfl rfl ml_X8_54 im_X2_init rfl (by decide) rfl (Nat.le_of_ble_eq_true rfl) rfl rfl (fun v g' q59 => ?_)
  obtain ⟨rfl, i60, l61, R62, rfl, hf63, hb64, hP65⟩ := q59
  show mX m_X8_init 4 _ 0 0 _ _ [vR (some (177)), vR (some (0))] _
  have hz := mkd_cZ hz (show 177 ≤ 189 by omega) hf63
  have hp0 := yR_fr hp0 (fun b => (hf63 0 b (by omega)).2.2)
  have hp138 := yR_fr hp138 (fun b => (hf63 138 b (by omega)).2.2)
  have hg0 := rg_fr hg0 (fun x b z => (hf63 x b z).2.2) (by omega)
  have hg1 := rg_fr hg1 (fun x b z => (hf63 x b z).2.2) (by omega)
  have hg1 := rg_join hg1 hb64
  have hfr : ∀ (a : Nat) (b : Int), (a < 0 ∨ 189 ≤ a) → R62 a b = R a b := fun a b q => ((hf63 a b (by omega)).2.2).trans (hfr a b q)
  have hfi : ∀ (a : Nat) (b : Int), (a < 0 ∨ 189 ≤ a) → i60 a b = i a b := fun a b q => ((hf63 a b (by omega)).1).trans (hfi a b q)
  have hfl : ∀ (a : Nat) (b : Int), (a < 0 ∨ 189 ≤ a) → l61 a b = l a b := fun a b q => ((hf63 a b (by omega)).2.1).trans (hfl a b q)
  have hI : ∀ (a : Nat) (b : Int), (a < 18 ∨ 169 ≤ a) → i60 a b = if a = 13 ∧ 0 ≤ b ∧ b < 4 then mTF 2 b.toNat else if a = 172 ∧ (b = 2 ∨ b = 3) then -9 else i a b := by rw [hP65.1]; exact hI
  have hLl : ∀ a b, l61 a b = if (a = 179 ∨ a = 182) ∧ b = 0 then 1#64 else l a b := by intro a b; rw [hP65.2, hLl]
  obtain ⟨R66, hR66⟩ : ∃ f, f = mU R62 (0) (7) (some (177)) := ⟨_, rfl⟩
  refine x_putF 53 rfl fl_X8_55 (show 0 < 189 by omega) (by decide +kernel : K0 0 = .inl 8) rfl (fun _ => ⟨rfl, rfl⟩) rfl (g' := (189, K0, i60, l61, R66)) (by subst hR66; rfl) ?_
  have hz := hz.pR hR66 (show 0 < 189 by omega)
  have hp0 := yR_put hp0 (by decide +kernel : R0 0 ((7 : Nat) : Int) = some 177) hR66
  have hp138 := yR_oth hp138 hR66 (by omega)
  have hg0 := rg_oth hg0 hR66 (by omega)
  have hg1 := rg_oth hg1 hR66 (by omega)
  have hfr : ∀ (a : Nat) (b : Int), (a < 0 ∨ 189 ≤ a) → R66 a b = R a b := fun a b q => by rw [hR66]; exact (mUne _ _ _ _ _ (by omega)).trans (hfr a b q)
  refine x_ret 54 none rfl ⟨rfl, rfl⟩ ⟨rfl, i60, l61, R66, rfl, fun a b q => ⟨hfi a b q, hfl a b q, hfr a b q⟩, ?_, ?_⟩
  · exact rg_zR (zR_of hp0 (by decide +kernel)) (rg_join hg0 (rg_zR (zR_of hp138 (by decide +kernel)) hg1))
  · exact ⟨hI, hLl⟩
set_option maxRecDepth 20000 in
set_option maxHeartbeats 4000000 in
theorem n_model {i : fI} {l : fL} {R : fR}  (hz : cZ (189) i l R) : mCtr m_X9_init 1 14 7374 [vR (some (189))] ((190, K0, i, l, R) : mS) (mkd (189) (204) i l R (fun i' l' => (∀ a b, i' a b = if a = 190 ∧ b = 3 then 4 else if a = 190 ∧ b = 2 then 1 else if a = 190 ∧ b = 1 then 5 else if a = 190 ∧ b = 0 then 12 else if a = 189 ∧ b = 8 then -9 else if a = 189 ∧ b = 7 then -9 else i a b) ∧ l' = l)) := by
  refine mCtr_of pl_X9 dc_X9_init (Nat.le_of_ble_eq_true rfl) rfl ?_
  show mX m_X9_init 1 _ 14 7374 0 [some (vR (some (189)))] [] ((190, K0, i, l, R) : mS)
  have hp189 := yR_0 (189) R
  have hg0 := rg_0 (190) R
  have hz := hz.up (show 189 ≤ 190 by omega)
  have hfr : ∀ (a : Nat) (b : Int), (a < 189 ∨ 204 ≤ a) → R a b = R a b := fun _ _ _ => rfl
  have hfi : ∀ (a : Nat) (b : Int), (a < 189 ∨ 204 ≤ a) → i a b = i a b := fun _ _ _ => rfl
  have hfl : ∀ (a : Nat) (b : Int), (a < 189 ∨ 204 ≤ a) → l a b = l a b := fun _ _ _ => rfl
  refine x_aload_n 0 rfl rfl ?_
  refine x_objInit 1 rfl ml_X9_1 (by decide) (Nat.le_of_ble_eq_true rfl) ?_
  refine x_aload_n 2 rfl rfl ?_
  refine x_sipush 3 rfl (by decide) ?_
  refine x_newa 4 (t := 0) (n := 652) (cb' := 13) (sb' := 6722) rfl rfl (by decide) ac_int rfl (by decide) rfl rfl (g' := ((191, K0, i, l, R) : mS)) (cNew (by decide +kernel : K0 190 = .inr (0, 652)) hz) ?_
  show mX m_X9_init 1 _ 13 6722 _ _ [vR (some (190)), vR (some (189))] _
  have hz := hz.up (show 190 ≤ 191 by omega)
  have hg0 := rg_one hg0 (by decide +kernel)
  obtain ⟨R1, hR1⟩ : ∃ f, f = mU R (189) (0) (some (190)) := ⟨_, rfl⟩
  refine x_putF 5 rfl fl_X9_7 (show 189 < 191 by omega) (by decide +kernel : K0 189 = .inl 9) rfl (fun _ => ⟨rfl, rfl⟩) rfl (g' := (191, K0, i, l, R1)) (by subst hR1; rfl) ?_
  have hz := hz.pR hR1 (show 189 < 191 by omega)
  have hp189 := yR_put hp189 (by decide +kernel : R0 189 ((0 : Nat) : Int) = some 190) hR1
  have hg0 := rg_oth hg0 hR1 (by omega)
  have hfr : ∀ (a : Nat) (b : Int), (a < 189 ∨ 204 ≤ a) → R1 a b = R a b := fun a b q => by rw [hR1]; exact (mUne _ _ _ _ _ (by omega)).trans (hfr a b q)
  refine x_aload_n 6 rfl rfl ?_
  refine x_sipush 7 rfl (by decide) ?_
  refine x_newa 8 (t := 0) (n := 5216) (cb' := 12) (sb' := 1506) rfl rfl (by decide) ac_int rfl (by decide) rfl rfl (g' := ((192, K0, i, l, R1) : mS)) (cNew (by decide +kernel : K0 191 = .inr (0, 5216)) hz) ?_
  show mX m_X9_init 1 _ 12 1506 _ _ [vR (some (191)), vR (some (189))] _
  have hz := hz.up (show 191 ≤ 192 by omega)
  have hg0 := rg_one hg0 (by decide +kernel)
  obtain ⟨R2, hR2⟩ : ∃ f, f = mU R1 (189) (1) (some (191)) := ⟨_, rfl⟩
  refine x_putF 9 rfl fl_X9_13 (show 189 < 192 by omega) (by decide +kernel : K0 189 = .inl 9) rfl (fun _ => ⟨rfl, rfl⟩) rfl (g' := (192, K0, i, l, R2)) (by subst hR2; rfl) ?_
  have hz := hz.pR hR2 (show 189 < 192 by omega)
  have hp189 := yR_put hp189 (by decide +kernel : R0 189 ((1 : Nat) : Int) = some 191) hR2
  have hg0 := rg_oth hg0 hR2 (by omega)
  have hfr : ∀ (a : Nat) (b : Int), (a < 189 ∨ 204 ≤ a) → R2 a b = R a b := fun a b q => by rw [hR2]; exact (mUne _ _ _ _ _ (by omega)).trans (hfr a b q)
  refine x_aload_n 10 rfl rfl ?_
  refine x_sipush 11 rfl (by decide) ?_
  refine x_newa 12 (t := 0) (n := 1304) (cb' := 11) (sb' := 202) rfl rfl (by decide) ac_int rfl (by decide) rfl rfl (g' := ((193, K0, i, l, R2) : mS)) (cNew (by decide +kernel : K0 192 = .inr (0, 1304)) hz) ?_
  show mX m_X9_init 1 _ 11 202 _ _ [vR (some (192)), vR (some (189))] _
  have hz := hz.up (show 192 ≤ 193 by omega)
  have hg0 := rg_one hg0 (by decide +kernel)
  obtain ⟨R3, hR3⟩ : ∃ f, f = mU R2 (189) (3) (some (192)) := ⟨_, rfl⟩
  refine x_putF 13 rfl fl_X9_16 (show 189 < 193 by omega) (by decide +kernel : K0 189 = .inl 9) rfl (fun _ => ⟨rfl, rfl⟩) rfl (g' := (193, K0, i, l, R3)) (by subst hR3; rfl) ?_
  have hz := hz.pR hR3 (show 189 < 193 by omega)
  have hp189 := yR_skip hp189 (by decide +kernel : R0 189 ((2 : Nat) : Int) = none)
  have hp189 := yR_put hp189 (by decide +kernel : R0 189 ((3 : Nat) : Int) = some 192) hR3
  have hg0 := rg_oth hg0 hR3 (by omega)
  have hfr : ∀ (a : Nat) (b : Int), (a < 189 ∨ 204 ≤ a) → R3 a b = R a b := fun a b q => by rw [hR3]; exact (mUne _ _ _ _ _ (by omega)).trans (hfr a b q)
  refine x_aload_n 14 rfl rfl ?_
  refine x_bipush 15 rfl (by decide) ?_
  refine x_newa 16 (t := 0) (n := 60) (cb' := 10) (sb' := 142) rfl rfl (by decide) ac_int rfl (by decide) rfl rfl (g' := ((194, K0, i, l, R3) : mS)) (cNew (by decide +kernel : K0 193 = .inr (0, 60)) hz) ?_
  show mX m_X9_init 1 _ 10 142 _ _ [vR (some (193)), vR (some (189))] _
  have hz := hz.up (show 193 ≤ 194 by omega)
  have hg0 := rg_one hg0 (by decide +kernel)
  obtain ⟨R4, hR4⟩ : ∃ f, f = mU R3 (189) (5) (some (193)) := ⟨_, rfl⟩
  refine x_putF 17 rfl fl_X9_19 (show 189 < 194 by omega) (by decide +kernel : K0 189 = .inl 9) rfl (fun _ => ⟨rfl, rfl⟩) rfl (g' := (194, K0, i, l, R4)) (by subst hR4; rfl) ?_
  have hz := hz.pR hR4 (show 189 < 194 by omega)
  have hp189 := yR_skip hp189 (by decide +kernel : R0 189 ((4 : Nat) : Int) = none)
  have hp189 := yR_put hp189 (by decide +kernel : R0 189 ((5 : Nat) : Int) = some 193) hR4
  have hg0 := rg_oth hg0 hR4 (by omega)
  have hfr : ∀ (a : Nat) (b : Int), (a < 189 ∨ 204 ≤ a) → R4 a b = R a b := fun a b q => by rw [hR4]; exact (mUne _ _ _ _ _ (by omega)).trans (hfr a b q)
  refine x_aload_n 18 rfl rfl ?_
  refine x_bipush 19 rfl (by decide) ?_
  obtain ⟨i5, hi5⟩ : ∃ f, f = mU i (189) 7 (-9) := ⟨_, rfl⟩
  refine x_putI 20 rfl fl_X9_22 (show 189 < 194 by omega) (by decide +kernel : K0 189 = .inl 9) rfl rfl (g' := (194, K0, i5, l, R4)) (by subst hi5; rfl) ?_
  have hz := hz.pI hi5 (show 189 < 194 by omega)
  have hfi : ∀ (a : Nat) (b : Int), (a < 189 ∨ 204 ≤ a) → i5 a b = i a b := fun a b q => by rw [hi5]; exact (mUne _ _ _ _ _ (by omega)).trans (hfi a b q)
  refine x_aload_n 21 rfl rfl ?_
  refine x_bipush 22 rfl (by decide) ?_
  obtain ⟨i6, hi6⟩ : ∃ f, f = mU i5 (189) 8 (-9) := ⟨_, rfl⟩
  refine x_putI 23 rfl fl_X9_26 (show 189 < 194 by omega) (by decide +kernel : K0 189 = .inl 9) rfl rfl (g' := (194, K0, i6, l, R4)) (by subst hi6; rfl) ?_
  have hz := hz.pI hi6 (show 189 < 194 by omega)
  have hfi : ∀ (a : Nat) (b : Int), (a < 189 ∨ 204 ≤ a) → i6 a b = i a b := fun a b q => by rw [hi6]; exact (mUne _ _ _ _ _ (by omega)).trans (hfi a b q)
  refine x_aload_n 24 rfl rfl ?_
  refine x_bipush 25 rfl (by decide) ?_
  refine x_newa 26 (t := 0) (n := 10) (cb' := 9) (sb' := 132) rfl rfl (by decide) ac_int rfl (by decide) rfl rfl (g' := ((195, K0, i6, l, R4) : mS)) (cNew (by decide +kernel : K0 194 = .inr (0, 10)) hz) ?_
  show mX m_X9_init 1 _ 9 132 _ _ [vR (some (194)), vR (some (189))] _
  have hz := hz.up (show 194 ≤ 195 by omega)
  have hg0 := rg_one hg0 (by decide +kernel)
  obtain ⟨R7, hR7⟩ : ∃ f, f = mU R4 (189) (11) (some (194)) := ⟨_, rfl⟩
  refine x_putF 27 rfl fl_X9_29 (show 189 < 195 by omega) (by decide +kernel : K0 189 = .inl 9) rfl (fun _ => ⟨rfl, rfl⟩) rfl (g' := (195, K0, i6, l, R7)) (by subst hR7; rfl) ?_
  have hz := hz.pR hR7 (show 189 < 195 by omega)
  have hp189 := yR_skip hp189 (by decide +kernel : R0 189 ((6 : Nat) : Int) = none)
  have hp189 := yR_skip hp189 (by decide +kernel : R0 189 ((7 : Nat) : Int) = none)
  have hp189 := yR_skip hp189 (by decide +kernel : R0 189 ((8 : Nat) : Int) = none)
  have hp189 := yR_skip hp189 (by decide +kernel : R0 189 ((9 : Nat) : Int) = none)
  have hp189 := yR_skip hp189 (by decide +kernel : R0 189 ((10 : Nat) : Int) = none)
  have hp189 := yR_put hp189 (by decide +kernel : R0 189 ((11 : Nat) : Int) = some 194) hR7
  have hg0 := rg_oth hg0 hR7 (by omega)
  have hfr : ∀ (a : Nat) (b : Int), (a < 189 ∨ 204 ≤ a) → R7 a b = R a b := fun a b q => by rw [hR7]; exact (mUne _ _ _ _ _ (by omega)).trans (hfr a b q)
  refine x_aload_n 28 rfl rfl ?_
  refine x_bipush 29 rfl (by decide) ?_
  refine x_newa 30 (t := 0) (n := 10) (cb' := 8) (sb' := 122) rfl rfl (by decide) ac_int rfl (by decide) rfl rfl (g' := ((196, K0, i6, l, R7) : mS)) (cNew (by decide +kernel : K0 195 = .inr (0, 10)) hz) ?_
  show mX m_X9_init 1 _ 8 122 _ _ [vR (some (195)), vR (some (189))] _
  have hz := hz.up (show 195 ≤ 196 by omega)
  have hg0 := rg_one hg0 (by decide +kernel)
  obtain ⟨R8, hR8⟩ : ∃ f, f = mU R7 (189) (12) (some (195)) := ⟨_, rfl⟩
  refine x_putF 31 rfl fl_X9_32 (show 189 < 196 by omega) (by decide +kernel : K0 189 = .inl 9) rfl (fun _ => ⟨rfl, rfl⟩) rfl (g' := (196, K0, i6, l, R8)) (by subst hR8; rfl) ?_
  have hz := hz.pR hR8 (show 189 < 196 by omega)
  have hp189 := yR_put hp189 (by decide +kernel : R0 189 ((12 : Nat) : Int) = some 195) hR8
  have hg0 := rg_oth hg0 hR8 (by omega)
  have hfr : ∀ (a : Nat) (b : Int), (a < 189 ∨ 204 ≤ a) → R8 a b = R a b := fun a b q => by rw [hR8]; exact (mUne _ _ _ _ _ (by omega)).trans (hfr a b q)
  refine x_aload_n 32 rfl rfl ?_
  refine x_bipush 33 rfl (by decide) ?_
  refine x_newa 34 (t := 0) (n := 10) (cb' := 7) (sb' := 112) rfl rfl (by decide) ac_int rfl (by decide) rfl rfl (g' := ((197, K0, i6, l, R8) : mS)) (cNew (by decide +kernel : K0 196 = .inr (0, 10)) hz) ?_
  show mX m_X9_init 1 _ 7 112 _ _ [vR (some (196)), vR (some (189))] _
  have hz := hz.up (show 196 ≤ 197 by omega)
  have hg0 := rg_one hg0 (by decide +kernel)
  obtain ⟨R9, hR9⟩ : ∃ f, f = mU R8 (189) (13) (some (196)) := ⟨_, rfl⟩
  refine x_putF 35 rfl fl_X9_35 (show 189 < 197 by omega) (by decide +kernel : K0 189 = .inl 9) rfl (fun _ => ⟨rfl, rfl⟩) rfl (g' := (197, K0, i6, l, R9)) (by subst hR9; rfl) ?_
  have hz := hz.pR hR9 (show 189 < 197 by omega)
  have hp189 := yR_put hp189 (by decide +kernel : R0 189 ((13 : Nat) : Int) = some 196) hR9
  have hg0 := rg_oth hg0 hR9 (by omega)
  have hfr : ∀ (a : Nat) (b : Int), (a < 189 ∨ 204 ≤ a) → R9 a b = R a b := fun a b q => by rw [hR9]; exact (mUne _ _ _ _ _ (by omega)).trans (hfr a b q)
  refine x_aload_n 36 rfl rfl ?_
  refine x_iconst 37 rfl ?_
  refine x_newa 38 (t := 0) (n := 4) (cb' := 6) (sb' := 108) rfl rfl (by decide) ac_int rfl (by decide) rfl rfl (g' := ((198, K0, i6, l, R9) : mS)) (cNew (by decide +kernel : K0 197 = .inr (0, 4)) hz) ?_
  show mX m_X9_init 1 _ 6 108 _ _ [vR (some (197)), vR (some (189))] _
  have hz := hz.up (show 197 ≤ 198 by omega)
  have hg0 := rg_one hg0 (by decide +kernel)
  obtain ⟨R10, hR10⟩ : ∃ f, f = mU R9 (189) (14) (some (197)) := ⟨_, rfl⟩
  refine x_putF 39 rfl fl_X9_38 (show 189 < 198 by omega) (by decide +kernel : K0 189 = .inl 9) rfl (fun _ => ⟨rfl, rfl⟩) rfl (g' := (198, K0, i6, l, R10)) (by subst hR10; rfl) ?_
  have hz := hz.pR hR10 (show 189 < 198 by omega)
  have hp189 := yR_put hp189 (by decide +kernel : R0 189 ((14 : Nat) : Int) = some 197) hR10
  have hg0 := rg_oth hg0 hR10 (by omega)
  have hfr : ∀ (a : Nat) (b : Int), (a < 189 ∨ 204 ≤ a) → R10 a b = R a b := fun a b q => by rw [hR10]; exact (mUne _ _ _ _ _ (by omega)).trans (hfr a b q)
  refine x_aload_n 40 rfl rfl ?_
  refine x_bipush 41 rfl (by decide) ?_
  refine x_newa 42 (t := 0) (n := 10) (cb' := 5) (sb' := 98) rfl rfl (by decide) ac_int rfl (by decide) rfl rfl (g' := ((199, K0, i6, l, R10) : mS)) (cNew (by decide +kernel : K0 198 = .inr (0, 10)) hz) ?_
  show mX m_X9_init 1 _ 5 98 _ _ [vR (some (198)), vR (some (189))] _
  have hz := hz.up (show 198 ≤ 199 by omega)
  have hg0 := rg_one hg0 (by decide +kernel)
  obtain ⟨R11, hR11⟩ : ∃ f, f = mU R10 (189) (17) (some (198)) := ⟨_, rfl⟩
  refine x_putF 43 rfl fl_X9_41 (show 189 < 199 by omega) (by decide +kernel : K0 189 = .inl 9) rfl (fun _ => ⟨rfl, rfl⟩) rfl (g' := (199, K0, i6, l, R11)) (by subst hR11; rfl) ?_
  have hz := hz.pR hR11 (show 189 < 199 by omega)
  have hp189 := yR_skip hp189 (by decide +kernel : R0 189 ((15 : Nat) : Int) = none)
  have hp189 := yR_skip hp189 (by decide +kernel : R0 189 ((16 : Nat) : Int) = none)
  have hp189 := yR_put hp189 (by decide +kernel : R0 189 ((17 : Nat) : Int) = some 198) hR11
  have hg0 := rg_oth hg0 hR11 (by omega)
  have hfr : ∀ (a : Nat) (b : Int), (a < 189 ∨ 204 ≤ a) → R11 a b = R a b := fun a b q => by rw [hR11]; exact (mUne _ _ _ _ _ (by omega)).trans (hfr a b q)
  refine x_aload_n 44 rfl rfl ?_
  refine x_iconst 45 rfl ?_
  refine x_newa 46 (t := 0) (n := 4) (cb' := 4) (sb' := 94) rfl rfl (by decide) ac_int rfl (by decide) rfl rfl (g' := ((200, K0, i6, l, R11) : mS)) (cNew (by decide +kernel : K0 199 = .inr (0, 4)) hz) ?_
  show mX m_X9_init 1 _ 4 94 _ _ [vR (some (199)), vR (some (189))] _
  have hz := hz.up (show 199 ≤ 200 by omega)
  have hg0 := rg_one hg0 (by decide +kernel)
  obtain ⟨R12, hR12⟩ : ∃ f, f = mU R11 (189) (18) (some (199)) := ⟨_, rfl⟩
  refine x_putF 47 rfl fl_X9_44 (show 189 < 200 by omega) (by decide +kernel : K0 189 = .inl 9) rfl (fun _ => ⟨rfl, rfl⟩) rfl (g' := (200, K0, i6, l, R12)) (by subst hR12; rfl) ?_
  have hz := hz.pR hR12 (show 189 < 200 by omega)
  have hp189 := yR_put hp189 (by decide +kernel : R0 189 ((18 : Nat) : Int) = some 199) hR12
  have hg0 := rg_oth hg0 hR12 (by omega)
  have hfr : ∀ (a : Nat) (b : Int), (a < 189 ∨ 204 ≤ a) → R12 a b = R a b := fun a b q => by rw [hR12]; exact (mUne _ _ _ _ _ (by omega)).trans (hfr a b q)
  refine x_aload_n 48 rfl rfl ?_
  refine x_iconst 49 rfl ?_
  refine x_newa 50 (t := 0) (n := 4) (cb' := 3) (sb' := 90) rfl rfl (by decide) ac_int rfl (by decide) rfl rfl (g' := ((201, K0, i6, l, R12) : mS)) (cNew (by decide +kernel : K0 200 = .inr (0, 4)) hz) ?_
  show mX m_X9_init 1 _ 3 90 _ _ [vR (some (200)), vR (some (189))] _
  have hz := hz.up (show 200 ≤ 201 by omega)
  have hg0 := rg_one hg0 (by decide +kernel)
  obtain ⟨R13, hR13⟩ : ∃ f, f = mU R12 (189) (19) (some (200)) := ⟨_, rfl⟩
  refine x_putF 51 rfl fl_X9_47 (show 189 < 201 by omega) (by decide +kernel : K0 189 = .inl 9) rfl (fun _ => ⟨rfl, rfl⟩) rfl (g' := (201, K0, i6, l, R13)) (by subst hR13; rfl) ?_
  have hz := hz.pR hR13 (show 189 < 201 by omega)
  have hp189 := yR_put hp189 (by decide +kernel : R0 189 ((19 : Nat) : Int) = some 200) hR13
  have hg0 := rg_oth hg0 hR13 (by omega)
  have hfr : ∀ (a : Nat) (b : Int), (a < 189 ∨ 204 ≤ a) → R13 a b = R a b := fun a b q => by rw [hR13]; exact (mUne _ _ _ _ _ (by omega)).trans (hfr a b q)
  refine x_aload_n 52 rfl rfl ?_
  refine x_bipush 53 rfl (by decide) ?_
  refine x_newa 54 (t := 0) (n := 30) (cb' := 2) (sb' := 60) rfl rfl (by decide) ac_int rfl (by decide) rfl rfl (g' := ((202, K0, i6, l, R13) : mS)) (cNew (by decide +kernel : K0 201 = .inr (0, 30)) hz) ?_
  show mX m_X9_init 1 _ 2 60 _ _ [vR (some (201)), vR (some (189))] _
  have hz := hz.up (show 201 ≤ 202 by omega)
  have hg0 := rg_one hg0 (by decide +kernel)
  obtain ⟨R14, hR14⟩ : ∃ f, f = mU R13 (189) (21) (some (201)) := ⟨_, rfl⟩
  refine x_putF 55 rfl fl_X9_50 (show 189 < 202 by omega) (by decide +kernel : K0 189 = .inl 9) rfl (fun _ => ⟨rfl, rfl⟩) rfl (g' := (202, K0, i6, l, R14)) (by subst hR14; rfl) ?_
  have hz := hz.pR hR14 (show 189 < 202 by omega)
  have hp189 := yR_skip hp189 (by decide +kernel : R0 189 ((20 : Nat) : Int) = none)
  have hp189 := yR_put hp189 (by decide +kernel : R0 189 ((21 : Nat) : Int) = some 201) hR14
  have hg0 := rg_oth hg0 hR14 (by omega)
  have hfr : ∀ (a : Nat) (b : Int), (a < 189 ∨ 204 ≤ a) → R14 a b = R a b := fun a b q => by rw [hR14]; exact (mUne _ _ _ _ _ (by omega)).trans (hfr a b q)
  refine x_aload_n 56 rfl rfl ?_
  refine x_bipush 57 rfl (by decide) ?_
  refine x_newa 58 (t := 0) (n := 30) (cb' := 1) (sb' := 30) rfl rfl (by decide) ac_int rfl (by decide) rfl rfl (g' := ((203, K0, i6, l, R14) : mS)) (cNew (by decide +kernel : K0 202 = .inr (0, 30)) hz) ?_
  show mX m_X9_init 1 _ 1 30 _ _ [vR (some (202)), vR (some (189))] _
  have hz := hz.up (show 202 ≤ 203 by omega)
  have hg0 := rg_one hg0 (by decide +kernel)
  obtain ⟨R15, hR15⟩ : ∃ f, f = mU R14 (189) (22) (some (202)) := ⟨_, rfl⟩
  refine x_putF 59 rfl fl_X9_53 (show 189 < 203 by omega) (by decide +kernel : K0 189 = .inl 9) rfl (fun _ => ⟨rfl, rfl⟩) rfl (g' := (203, K0, i6, l, R15)) (by subst hR15; rfl) ?_
  have hz := hz.pR hR15 (show 189 < 203 by omega)
  have hp189 := yR_put hp189 (by decide +kernel : R0 189 ((22 : Nat) : Int) = some 202) hR15
  have hg0 := rg_oth hg0 hR15 (by omega)
  have hfr : ∀ (a : Nat) (b : Int), (a < 189 ∨ 204 ≤ a) → R15 a b = R a b := fun a b q => by rw [hR15]; exact (mUne _ _ _ _ _ (by omega)).trans (hfr a b q)
  refine x_aload_n 60 rfl rfl ?_
  refine x_bipush 61 rfl (by decide) ?_
  refine x_newa 62 (t := 0) (n := 30) (cb' := 0) (sb' := 0) rfl rfl (by decide) ac_int rfl (by decide) rfl rfl (g' := ((204, K0, i6, l, R15) : mS)) (cNew (by decide +kernel : K0 203 = .inr (0, 30)) hz) ?_
  show mX m_X9_init 1 _ 0 0 _ _ [vR (some (203)), vR (some (189))] _
  have hz := hz.up (show 203 ≤ 204 by omega)
  have hg0 := rg_one hg0 (by decide +kernel)
  obtain ⟨R16, hR16⟩ : ∃ f, f = mU R15 (189) (23) (some (203)) := ⟨_, rfl⟩
  refine x_putF 63 rfl fl_X9_56 (show 189 < 204 by omega) (by decide +kernel : K0 189 = .inl 9) rfl (fun _ => ⟨rfl, rfl⟩) rfl (g' := (204, K0, i6, l, R16)) (by subst hR16; rfl) ?_
  have hz := hz.pR hR16 (show 189 < 204 by omega)
  have hp189 := yR_put hp189 (by decide +kernel : R0 189 ((23 : Nat) : Int) = some 203) hR16
  have hg0 := rg_oth hg0 hR16 (by omega)
  have hfr : ∀ (a : Nat) (b : Int), (a < 189 ∨ 204 ≤ a) → R16 a b = R a b := fun a b q => by rw [hR16]; exact (mUne _ _ _ _ _ (by omega)).trans (hfr a b q)
  refine x_aload_n 64 rfl rfl ?_
  refine x_getR 65 (z := (190)) rfl fl_X9_7 (show 189 < 204 by omega) (by decide +kernel : K0 189 = .inl 9) rfl (hp189 0 _ (by decide) (by decide +kernel : R0 189 ((0 : Nat) : Int) = some 190)) ?_
  refine x_iconst 66 rfl ?_
  refine x_bipush 67 rfl (by decide) ?_
  obtain ⟨i17, hi17⟩ : ∃ f, f = mU i6 (190) 0 ((12)) := ⟨_, rfl⟩
  refine x_iast 68 (n := 652) rfl (show 190 < 204 by omega) (by decide +kernel : K0 190 = .inr (0, 652)) (by omega) (g' := (204, K0, i17, l, R16)) (by subst hi17; rfl) ?_
  have hz := hz.pI hi17 (show 190 < 204 by omega)
  have hfi : ∀ (a : Nat) (b : Int), (a < 189 ∨ 204 ≤ a) → i17 a b = i a b := fun a b q => by rw [hi17]; exact (mUne _ _ _ _ _ (by omega)).trans (hfi a b q)
  refine x_aload_n 69 rfl rfl ?_
  refine x_getR 70 (z := (190)) rfl fl_X9_7 (show 189 < 204 by omega) (by decide +kernel : K0 189 = .inl 9) rfl (hp189 0 _ (by decide) (by decide +kernel : R0 189 ((0 : Nat) : Int) = some 190)) ?_
  refine x_iconst 71 rfl ?_
  refine x_iconst 72 rfl ?_
  obtain ⟨i18, hi18⟩ : ∃ f, f = mU i17 (190) 1 ((5)) := ⟨_, rfl⟩
  refine x_iast 73 (n := 652) rfl (show 190 < 204 by omega) (by decide +kernel : K0 190 = .inr (0, 652)) (by omega) (g' := (204, K0, i18, l, R16)) (by subst hi18; rfl) ?_
  have hz := hz.pI hi18 (show 190 < 204 by omega)
  have hfi : ∀ (a : Nat) (b : Int), (a < 189 ∨ 204 ≤ a) → i18 a b = i a b := fun a b q => by rw [hi18]; exact (mUne _ _ _ _ _ (by omega)).trans (hfi a b q)
  refine x_aload_n 74 rfl rfl ?_
  refine x_getR 75 (z := (190)) rfl fl_X9_7 (show 189 < 204 by omega) (by decide +kernel : K0 189 = .inl 9) rfl (hp189 0 _ (by decide) (by decide +kernel : R0 189 ((0 : Nat) : Int) = some 190)) ?_
  refine x_iconst 76 rfl ?_
  refine x_iconst 77 rfl ?_
  obtain ⟨i19, hi19⟩ : ∃ f, f = mU i18 (190) 2 ((1)) := ⟨_, rfl⟩
  refine x_iast 78 (n := 652) rfl (show 190 < 204 by omega) (by decide +kernel : K0 190 = .inr (0, 652)) (by omega) (g' := (204, K0, i19, l, R16)) (by subst hi19; rfl) ?_
  have hz := hz.pI hi19 (show 190 < 204 by omega)
  have hfi : ∀ (a : Nat) (b : Int), (a < 189 ∨ 204 ≤ a) → i19 a b = i a b := fun a b q => by rw [hi19]; exact (mUne _ _ _ _ _ (by omega)).trans (hfi a b q)
  refine x_aload_n 79 rfl rfl ?_
  refine x_getR 80 (z := (190)) rfl fl_X9_7 (show 189 < 204 by omega) (by decide +kernel : K0 189 = .inl 9) rfl (hp189 0 _ (by decide) (by decide +kernel : R0 189 ((0 : Nat) : Int) = some 190)) ?_
  refine x_iconst 81 rfl ?_
  refine x_iconst 82 rfl ?_
  obtain ⟨i20, hi20⟩ : ∃ f, f = mU i19 (190) 3 ((4)) := ⟨_, rfl⟩
  refine x_iast 83 (n := 652) rfl (show 190 < 204 by omega) (by decide +kernel : K0 190 = .inr (0, 652)) (by omega) (g' := (204, K0, i20, l, R16)) (by subst hi20; rfl) ?_
  have hz := hz.pI hi20 (show 190 < 204 by omega)
  have hfi : ∀ (a : Nat) (b : Int), (a < 189 ∨ 204 ≤ a) → i20 a b = i a b := fun a b q => by rw [hi20]; exact (mUne _ _ _ _ _ (by omega)).trans (hfi a b q)
  refine x_ret 84 none rfl ⟨rfl, rfl⟩ ⟨rfl, i20, l, R16, rfl, fun a b q => ⟨hfi a b q, hfl a b q, hfr a b q⟩, ?_, ?_⟩
  · exact rg_zR (zR_of hp189 (by decide +kernel)) hg0
  · refine ⟨fun a b => ?_, rfl⟩
    rw [hi20, hi19, hi18, hi17, hi6, hi5]
    simp only [mU]
