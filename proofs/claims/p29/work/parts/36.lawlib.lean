variable {nn : Nat} {bb : Bool}
/-! the law's side: a book and what stands outside of it; what the law's own methods do to a book -/
abbrev on (f : (Int → Int) → Int → (Int → Int → Int) → (Int → Int → Int) → (Int → Bool) → (Int → Int) → Int → Int → Int → Int × bT) (B : bT) : Int × bT := f B.1 B.2.1 B.2.2.1 B.2.2.2.1 B.2.2.2.2.1 B.2.2.2.2.2.1 B.2.2.2.2.2.2.1 B.2.2.2.2.2.2.2.1 B.2.2.2.2.2.2.2.2
/-- the book bb holds B; the law's rows are A; what lies outside is i0, l0 -/
def kp (bb : Bool) (A i0 : Nat → Int → Int) (l0 : Nat → Int → BitVec 64) (B : bT) (i : Nat → Int → Int) (l : Nat → Int → BitVec 64) : Prop :=
  RelT bb i l B ∧ (∀ a b, 378 ≤ a → i a b = A a b) ∧ (∀ a b, (a < ob bb ∨ ob bb + 189 ≤ a) → a < 378 → i a b = i0 a b) ∧ ∀ a b, (a < ob bb ∨ ob bb + 189 ≤ a) → l a b = l0 a b
theorem kp_0 {i : Nat → Int → Int} {l : Nat → Int → BitVec 64} {B : bT} (h : RelT bb i l B) : kp bb i i l B i l := ⟨h, fun _ _ _ => rfl, fun _ _ _ _ => rfl, fun _ _ _ => rfl⟩
theorem kQ_of {A i0 i : Nat → Int → Int} {l0 l : Nat → Int → BitVec 64} {B : bT} (hk : kp bb A i0 l0 B i l) {r : Int × bT} {v : Option mV} {g : mS} (hq : qT nn bb i l r v g) : v = some (vI r.1) ∧ ∃ i' l', g = st nn i' l' ∧ kp bb A i0 l0 r.2 i' l' := by
  obtain ⟨z, i', l', rfl, rfl, rfl, hR, hf⟩ := hq
  obtain ⟨h1, h2, h3, h4⟩ := hk
  have hb := ob_or bb
  exact ⟨rfl, i', l', rfl, hR, fun a b ha => ((hf a b (by omega)).1).trans (h2 a b ha), fun a b ha hl => ((hf a b ha).1).trans (h3 a b ha hl), fun a b ha => ((hf a b ha).2).trans (h4 a b ha)⟩
theorem kp_fin {i i' : Nat → Int → Int} {l l' : Nat → Int → BitVec 64} {B : bT} (hk : kp bb i i l B i' l') {z : Int} {r : Int × bT} (h : r = (z, B)) : z = r.1 ∧ RelT bb i' l' r.2 ∧ ∀ a b, (a < ob bb ∨ ob bb + 189 ≤ a) → i' a b = i a b ∧ l' a b = l a b := by
  subst h
  obtain ⟨h1, h2, h3, h4⟩ := hk
  refine ⟨rfl, h1, fun a b ha => ⟨?_, h4 a b ha⟩⟩
  by_cases h : a < 378
  · exact h3 a b ha h
  · exact h2 a b (by omega)
/-- what a book holds rests on its own objects alone -/
theorem RelT_fr {i i' : Nat → Int → Int} {l l' : Nat → Int → BitVec 64} {B : bT} (h : RelT bb i l B) (hB : okT B) (he : ∀ a b, ob bb ≤ a → a < ob bb + 189 → i' a b = i a b) (hl : ∀ a b, ob bb ≤ a → a < ob bb + 189 → l' a b = l a b) : RelT bb i' l' B := by
  have hN := hB.1.n
  exact RelB_ch h hB (fun a b h1 h2 => he a b (by omega) (by omega)) (fun a b h1 h2 => hl a b (by omega) (by omega)) (he _ _ (by omega) (by omega)) (he _ _ (by omega) (by omega)) (by
    have hz := h.2.2.2.2.2.2
    unfold PZ at hz ⊢
    rw [he (ob bb + 184) 0 (by omega) (by omega), hl (ob bb + 179) 0 (by omega) (by omega), hl (ob bb + 180) 0 (by omega) (by omega), hl (ob bb + 182) 0 (by omega) (by omega), hl (ob bb + 183) 0 (by omega) (by omega)]
    exact hz) (h.1.congr hN.1.2 (fun a b h1 h2 => he a b (by omega) (by omega)) (fun a b h1 h2 => hl a b (by omega) (by omega)))
/-- a place of one of the law's rows is written -/
theorem kp_st {A i0 i i' : Nat → Int → Int} {l0 l : Nat → Int → BitVec 64} {B : bT} (hk : kp bb A i0 l0 B i l) (hB : okT B) {o : Nat} {k v : Int} (ho : 378 ≤ o) (hi : i' = mU i o k v) : kp bb (mU A o k v) i0 l0 B i' l := by
  have hb := ob_or bb
  obtain ⟨h1, h2, h3, h4⟩ := hk
  subst hi
  refine ⟨RelT_fr h1 hB (fun a b _ _ => by rw [mUne _ _ _ _ _ (by omega)]) (fun _ _ _ _ => rfl), fun a b ha => ?_, fun a b ha hl => ?_, h4⟩
  · simp only [mU]
    rw [h2 a b ha]
  · rw [mUne _ _ _ _ _ (by omega)]; exact h3 a b ha hl
/-- the law makes a row -/
theorem kp_new {A i0 i : Nat → Int → Int} {l0 l : Nat → Int → BitVec 64} {B : bT} (hk : kp bb A i0 l0 B i l) (hB : okT B) {o : Nat} (ho : 378 ≤ o) : kp bb (fun a b => if a = o then 0 else A a b) i0 (fun a b => if a = o then 0#64 else l0 a b) B (fun a b => if a = o then 0 else i a b) (fun a b => if a = o then 0#64 else l a b) := by
  have hb := ob_or bb
  obtain ⟨h1, h2, h3, h4⟩ := hk
  refine ⟨RelT_fr h1 hB (fun a b _ _ => by show (if _ then _ else _) = _; rw [if_neg (by omega)]) (fun a b _ _ => by show (if _ then _ else _) = _; rw [if_neg (by omega)]), fun a b ha => ?_, fun a b ha hl => ?_, fun a b ha => ?_⟩
  · show (if _ then _ else _) = (if _ then _ else _)
    rw [h2 a b ha]
  · show (if _ then _ else _) = _
    rw [if_neg (by omega)]; exact h3 a b ha hl
  · show (if _ then _ else _) = (if _ then _ else _)
    rw [h4 a b ha]
/-! what the law's own methods do, as functions of what the book holds -/
abbrev wrB (c : Int) (B : bT) : Int × bT := on (spWrite c) B
def nmB (x : Int) (B : bT) : Int × bT := wrB (48 + x % 10) (if 9 < x then (wrB (48 + x / 10) B).2 else B)
def tsS (v m : Int) (k : Int) (B : bT) : bT :=
  (wrB 32 (if lo (shI v (9 + 3 * k)) 5 = 0 then (wrB 33 (nmB (lo (shI m (5 * k)) 30 + lo (shI v (3 + 4 * k)) (41 - lo (shI m (5 * k)) 30)) (wrB 45 (nmB (lo (shI m (5 * k)) 30) B).2).2).2).2 else (nmB (lo (shI m (5 * k)) 30 + lo (shI v (3 + 4 * k)) (41 - lo (shI m (5 * k)) 30)) (wrB 45 (nmB (lo (shI m (5 * k)) 30) B).2).2).2)).2
def tsN (v m : Int) : Nat → bT → bT
  | 0, B => B
  | n + 1, B => tsS v m (n : Int) (tsN v m n B)
def tsZ (v m x : Int) (B : bT) : bT := tsN v m x.toNat B
theorem tsZ_s (v m : Int) (B : bT) {x : Int} (h : 0 ≤ x) : tsZ v m (x + 1) B = tsS v m x (tsZ v m x B) := by
  unfold tsZ
  rw [show (x + 1).toNat = x.toNat + 1 by omega]
  show tsS v m (x.toNat : Int) _ = _
  rw [Int.toNat_of_nonneg h]
noncomputable def tstB (y v m : Int) (B : bT) : Int × bT := on (spTest y) (tsZ v m (1 + lo v 3) (on spWipe B).2)
def atS (v : Int) (k : Int) (B : bT) : bT := if lo (shI v (2 * k)) 4 = 0 then (wrB 32 (nmB k B).2).2 else B
def atN (v : Int) : Nat → bT → bT
  | 0, B => B
  | n + 1, B => atS v (n : Int) (atN v n B)
def atZ (v x : Int) (B : bT) : bT := atN v x.toNat B
theorem atZ_s (v : Int) (B : bT) {x : Int} (h : 0 ≤ x) : atZ v (x + 1) B = atS v x (atZ v x B) := by
  unfold atZ
  rw [show (x + 1).toNat = x.toNat + 1 by omega]
  show atS v (x.toNat : Int) _ = _
  rw [Int.toNat_of_nonneg h]
noncomputable def attB (v : Int) (B : bT) : Int × bT := on spAtt (atZ v (B.1 11) (on spWipe B).2)
def sgB (v : Int) (B : bT) : Int := if B.1 11 = 0 then 0 else lo (shI v 5) (B.1 11)
noncomputable def chB (v m : Int) (B : bT) : Int × bT :=
  if lo v 22 ≤ 2 then (if B.1 11 < 7 ∨ lo m 4 = 0 then on (spAdd (1 + lo m 9) (100 + lo (shI m 4) 121)) B else on spHold B)
  else if lo v 22 = 3 then on (spRemove (sgB v B)) B
  else if lo v 22 = 4 then (if lo m 2 = 0 then on (spSet 0 (5 + lo (shI m 1) 11)) B else on (spSet 1 (1 + lo (shI m 1) 15)) B)
  else if lo v 22 = 5 then (if lo m 2 = 0 then on (spSet 2 (lo (shI m 1) 11)) B else on (spSet 3 (1 + lo (shI m 1) 6)) B)
  else if lo v 22 ≤ 8 then tstB (sgB v B) m v B
  else if lo v 22 ≤ 10 then on (spPlace (sgB v B) (if lo m 5 = 4 then -9 else lo m 5)) B
  else if lo v 22 = 11 then on spPlaceAll B
  else if lo v 22 ≤ 14 then attB m B
  else if lo v 22 ≤ 18 then on spHold B
  else if lo v 22 = 19 then on spUndo B
  else if lo v 22 = 20 then (if lo m 2 = 0 then on (spKeep (lo (shI m 1) 2)) B else on (spBack (lo (shI m 1) 2)) B)
  else on (spPlace (sgB v B) (lo m 4)) B
theorem ok_on_wr {B : bT} (h : okT B) (c : Int) : okT (wrB c B).2 := ok_write h c
theorem ok_nm {B : bT} (h : okT B) (x : Int) : okT (nmB x B).2 := by
  unfold nmB
  split
  · exact ok_on_wr (ok_on_wr h _) _
  · exact ok_on_wr h _
theorem ok_tsS {B : bT} (h : okT B) (v m k : Int) : okT (tsS v m k B) := by
  unfold tsS
  split
  · exact ok_on_wr (ok_on_wr (ok_nm (ok_on_wr (ok_nm h _) _) _) _) _
  · exact ok_on_wr (ok_nm (ok_on_wr (ok_nm h _) _) _) _
theorem ok_tsZ {B : bT} (h : okT B) (v m x : Int) : okT (tsZ v m x B) := by
  unfold tsZ
  induction x.toNat with
  | zero => exact h
  | succ n ih => exact ok_tsS ih v m n
theorem ok_atZ {B : bT} (h : okT B) (v x : Int) : okT (atZ v x B) := by
  unfold atZ
  induction x.toNat with
  | zero => exact h
  | succ n ih =>
    show okT (atS v n _)
    unfold atS
    split
    · exact ok_on_wr (ok_nm ih _) _
    · exact ih
theorem ok_tst {B : bT} (h : okT B) (y v m : Int) : okT (tstB y v m B).2 := ok_test (ok_tsZ (ok_wipe h) v m _) y
theorem ok_att {B : bT} (h : okT B) (v : Int) : okT (attB v B).2 := ok_attendance (ok_atZ (ok_wipe h) v _)
theorem ok_ch {B : bT} (h : okT B) (v m : Int) : okT (chB v m B).2 := by
  unfold chB
  by_cases c0 : lo v 22 ≤ 2
  · rw [if_pos c0]
    by_cases d0 : B.1 11 < 7 ∨ lo m 4 = 0
    · rw [if_pos d0]
      exact ok_add h _ _
    · rw [if_neg d0]
      exact ok_hold h
  rw [if_neg c0]
  by_cases c1 : lo v 22 = 3
  · rw [if_pos c1]
    exact ok_remove h _
  rw [if_neg c1]
  by_cases c2 : lo v 22 = 4
  · rw [if_pos c2]
    by_cases d2 : lo m 2 = 0
    · rw [if_pos d2]
      exact ok_set h _ _
    · rw [if_neg d2]
      exact ok_set h _ _
  rw [if_neg c2]
  by_cases c3 : lo v 22 = 5
  · rw [if_pos c3]
    by_cases d3 : lo m 2 = 0
    · rw [if_pos d3]
      exact ok_set h _ _
    · rw [if_neg d3]
      exact ok_set h _ _
  rw [if_neg c3]
  by_cases c4 : lo v 22 ≤ 8
  · rw [if_pos c4]
    exact ok_tst h _ _ _
  rw [if_neg c4]
  by_cases c5 : lo v 22 ≤ 10
  · rw [if_pos c5]
    exact ok_place h _ _
  rw [if_neg c5]
  by_cases c6 : lo v 22 = 11
  · rw [if_pos c6]
    exact ok_placeAll h
  rw [if_neg c6]
  by_cases c7 : lo v 22 ≤ 14
  · rw [if_pos c7]
    exact ok_att h _
  rw [if_neg c7]
  by_cases c8 : lo v 22 ≤ 18
  · rw [if_pos c8]
    exact ok_hold h
  rw [if_neg c8]
  by_cases c9 : lo v 22 = 19
  · rw [if_pos c9]
    exact ok_undo h
  rw [if_neg c9]
  by_cases c10 : lo v 22 = 20
  · rw [if_pos c10]
    by_cases d10 : lo m 2 = 0
    · rw [if_pos d10]
      exact ok_keep h _
    · rw [if_neg d10]
      exact ok_back h _
  rw [if_neg c10]
  exact ok_place h _ _
/-! two books that are handled alike -/
/-- all but the history and the latest fault -/
def alk (B C : bT) : Prop := B.1 = C.1 ∧ B.2.2.2.1 = C.2.2.2.1 ∧ B.2.2.2.2.1 = C.2.2.2.2.1 ∧ B.2.2.2.2.2.1 = C.2.2.2.2.2.1 ∧ B.2.2.2.2.2.2.1 = C.2.2.2.2.2.2.1
def alR (r q : Int × bT) : Prop := r.1 = q.1 ∧ alk r.2 q.2
theorem alk_rf (B : bT) : alk B B := ⟨rfl, rfl, rfl, rfl, rfl⟩
theorem al_wr {B C : bT} (h : alk B C) (c : Int) : alR (wrB c B) (wrB c C) := by
  obtain ⟨W, PN, P, M, K, T, TN, FK, FP⟩ := B
  obtain ⟨W', PN', P', M', K', T', TN', FK', FP'⟩ := C
  obtain ⟨rfl, rfl, rfl, rfl, rfl⟩ := h
  simp only [wrB, on, spWrite]
  repeat' split
  all_goals exact ⟨rfl, rfl, rfl, rfl, rfl, rfl⟩
theorem al_nm {B C : bT} (h : alk B C) (x : Int) : alR (nmB x B) (nmB x C) := by
  unfold nmB
  split
  · exact al_wr (al_wr h _).2 _
  · exact al_wr h _
theorem al_tsS {B C : bT} (h : alk B C) (v m k : Int) : alk (tsS v m k B) (tsS v m k C) := by
  unfold tsS
  split
  · exact (al_wr (al_wr (al_nm (al_wr (al_nm h _).2 _).2 _).2 _).2 _).2
  · exact (al_wr (al_nm (al_wr (al_nm h _).2 _).2 _).2 _).2
theorem al_tsZ {B C : bT} (h : alk B C) (v m x : Int) : alk (tsZ v m x B) (tsZ v m x C) := by
  unfold tsZ
  induction x.toNat with
  | zero => exact h
  | succ n ih => exact al_tsS ih v m n
theorem al_atZ {B C : bT} (h : alk B C) (v x : Int) : alk (atZ v x B) (atZ v x C) := by
  unfold atZ
  induction x.toNat with
  | zero => exact h
  | succ n ih =>
    show alk (atS v n _) (atS v n _)
    unfold atS
    split
    · exact (al_wr (al_nm ih _).2 _).2
    · exact ih
section ALS
variable {W : Int → Int} {PN PN' : Int} {P P' M : Int → Int → Int} {K : Int → Bool} {T : Int → Int} {TN FK FP FK' FP' : Int}
theorem al_add (s h : Int) : alR (spAdd s h W PN P M K T TN FK FP) (spAdd s h W PN' P' M K T TN FK' FP') := by
  unfold spAdd
  repeat' split
  all_goals exact ⟨rfl, rfl, rfl, rfl, rfl, rfl⟩
theorem al_remove (y : Int) : alR (spRemove y W PN P M K T TN FK FP) (spRemove y W PN' P' M K T TN FK' FP') := by
  unfold spRemove
  repeat' split
  all_goals exact ⟨rfl, rfl, rfl, rfl, rfl, rfl⟩
theorem al_set (x v : Int) : alR (spSet x v W PN P M K T TN FK FP) (spSet x v W PN' P' M K T TN FK' FP') := by
  unfold spSet
  repeat' split
  all_goals exact ⟨rfl, rfl, rfl, rfl, rfl, rfl⟩
theorem al_test (y : Int) : alR (spTest y W PN P M K T TN FK FP) (spTest y W PN' P' M K T TN FK' FP') := by
  unfold spTest
  split
  · exact ⟨rfl, rfl, rfl, rfl, rfl, rfl⟩
  · cases gRead 1 40 T TN <;> exact ⟨rfl, rfl, rfl, rfl, rfl, rfl⟩
theorem al_place (y p : Int) : alR (spPlace y p W PN P M K T TN FK FP) (spPlace y p W PN' P' M K T TN FK' FP') := by
  unfold spPlace
  repeat' split
  all_goals exact ⟨rfl, rfl, rfl, rfl, rfl, rfl⟩
theorem al_att : alR (spAtt W PN P M K T TN FK FP) (spAtt W PN' P' M K T TN FK' FP') := by
  unfold spAtt
  cases gRead 0 (W 11 - 1) T TN <;> exact ⟨rfl, rfl, rfl, rfl, rfl, rfl⟩
theorem al_hold : alR (spHold W PN P M K T TN FK FP) (spHold W PN' P' M K T TN FK' FP') := by
  unfold spHold
  repeat' split
  all_goals exact ⟨rfl, rfl, rfl, rfl, rfl, rfl⟩
theorem al_keep (m : Int) : alR (spKeep m W PN P M K T TN FK FP) (spKeep m W PN' P' M K T TN FK' FP') := by
  unfold spKeep
  repeat' split
  all_goals exact ⟨rfl, rfl, rfl, rfl, rfl, rfl⟩
theorem al_back (m : Int) : alR (spBack m W PN P M K T TN FK FP) (spBack m W PN' P' M K T TN FK' FP') := by
  unfold spBack
  repeat' split
  all_goals exact ⟨rfl, rfl, rfl, rfl, rfl, rfl⟩
end ALS
/-- the same for tuples -/
theorem al_on {f : (Int → Int) → Int → (Int → Int → Int) → (Int → Int → Int) → (Int → Bool) → (Int → Int) → Int → Int → Int → Int × bT} (hf : ∀ (W : Int → Int) (PN PN' : Int) (P P' M : Int → Int → Int) (K : Int → Bool) (T : Int → Int) (TN FK FP FK' FP' : Int), alR (f W PN P M K T TN FK FP) (f W PN' P' M K T TN FK' FP')) {B C : bT} (h : alk B C) : alR (on f B) (on f C) := by
  obtain ⟨W, PN, P, M, K, T, TN, FK, FP⟩ := B
  obtain ⟨W', PN', P', M', K', T', TN', FK', FP'⟩ := C
  obtain ⟨rfl, rfl, rfl, rfl, rfl⟩ := h
  exact hf _ _ _ _ _ _ _ _ _ _ _ _ _
theorem al_wp {B C : bT} (h : alk B C) : alk (on spWipe B).2 (on spWipe C).2 := (al_on (f := spWipe) (fun _ _ _ _ _ _ _ _ _ _ _ _ _ => ⟨rfl, rfl, rfl, rfl, rfl, rfl⟩) h).2
theorem al_attB {B C : bT} (h : alk B C) (m : Int) : alR (attB m B) (attB m C) := by
  have e1 : B.1 11 = C.1 11 := congrFun h.1 11
  unfold attB
  rw [e1]
  exact al_on (f := spAtt) (fun _ _ _ _ _ _ _ _ _ _ _ _ _ => al_att) (al_atZ (al_wp h) _ _)
theorem al_ch {B C : bT} (h : alk B C) (v m : Int) (h19 : lo v 22 ≠ 19) : alR (chB v m B) (chB v m C) := by
  have e1 : B.1 11 = C.1 11 := congrFun h.1 11
  have e2 : sgB v B = sgB v C := by unfold sgB; rw [e1]
  unfold chB
  rw [e1, e2]
  by_cases c0 : lo v 22 ≤ 2
  · rw [if_pos c0, if_pos c0]
    by_cases d0 : C.1 11 < 7 ∨ lo m 4 = 0
    · rw [if_pos d0, if_pos d0]
      exact al_on (f := spAdd _ _) (fun _ _ _ _ _ _ _ _ _ _ _ _ _ => al_add _ _) h
    · rw [if_neg d0, if_neg d0]
      exact al_on (f := spHold) (fun _ _ _ _ _ _ _ _ _ _ _ _ _ => al_hold) h
  rw [if_neg c0, if_neg c0]
  by_cases c1 : lo v 22 = 3
  · rw [if_pos c1, if_pos c1]
    exact al_on (f := spRemove _) (fun _ _ _ _ _ _ _ _ _ _ _ _ _ => al_remove _) h
  rw [if_neg c1, if_neg c1]
  by_cases c2 : lo v 22 = 4
  · rw [if_pos c2, if_pos c2]
    by_cases d2 : lo m 2 = 0
    · rw [if_pos d2, if_pos d2]
      exact al_on (f := spSet _ _) (fun _ _ _ _ _ _ _ _ _ _ _ _ _ => al_set _ _) h
    · rw [if_neg d2, if_neg d2]
      exact al_on (f := spSet _ _) (fun _ _ _ _ _ _ _ _ _ _ _ _ _ => al_set _ _) h
  rw [if_neg c2, if_neg c2]
  by_cases c3 : lo v 22 = 5
  · rw [if_pos c3, if_pos c3]
    by_cases d3 : lo m 2 = 0
    · rw [if_pos d3, if_pos d3]
      exact al_on (f := spSet _ _) (fun _ _ _ _ _ _ _ _ _ _ _ _ _ => al_set _ _) h
    · rw [if_neg d3, if_neg d3]
      exact al_on (f := spSet _ _) (fun _ _ _ _ _ _ _ _ _ _ _ _ _ => al_set _ _) h
  rw [if_neg c3, if_neg c3]
  by_cases c4 : lo v 22 ≤ 8
  · rw [if_pos c4, if_pos c4]
    exact al_on (f := spTest _) (fun _ _ _ _ _ _ _ _ _ _ _ _ _ => al_test _) (al_tsZ (al_wp h) _ _ _)
  rw [if_neg c4, if_neg c4]
  by_cases c5 : lo v 22 ≤ 10
  · rw [if_pos c5, if_pos c5]
    exact al_on (f := spPlace _ _) (fun _ _ _ _ _ _ _ _ _ _ _ _ _ => al_place _ _) h
  rw [if_neg c5, if_neg c5]
  by_cases c6 : lo v 22 = 11
  · rw [if_pos c6, if_pos c6]
    exact al_on (f := spPlaceAll) (fun _ _ _ _ _ _ _ _ _ _ _ _ _ => ⟨rfl, rfl, rfl, rfl, rfl, rfl⟩) h
  rw [if_neg c6, if_neg c6]
  by_cases c7 : lo v 22 ≤ 14
  · rw [if_pos c7, if_pos c7]
    exact al_attB h m
  rw [if_neg c7, if_neg c7]
  by_cases c8 : lo v 22 ≤ 18
  · rw [if_pos c8, if_pos c8]
    exact al_on (f := spHold) (fun _ _ _ _ _ _ _ _ _ _ _ _ _ => al_hold) h
  rw [if_neg c8, if_neg c8]
  by_cases c9 : lo v 22 = 19
  · rw [if_pos c9, if_pos c9]
    exact absurd c9 h19
  rw [if_neg c9, if_neg c9]
  by_cases c10 : lo v 22 = 20
  · rw [if_pos c10, if_pos c10]
    by_cases d10 : lo m 2 = 0
    · rw [if_pos d10, if_pos d10]
      exact al_on (f := spKeep _) (fun _ _ _ _ _ _ _ _ _ _ _ _ _ => al_keep _) h
    · rw [if_neg d10, if_neg d10]
      exact al_on (f := spBack _) (fun _ _ _ _ _ _ _ _ _ _ _ _ _ => al_back _) h
  rw [if_neg c10, if_neg c10]
  exact al_on (f := spPlace _ _) (fun _ _ _ _ _ _ _ _ _ _ _ _ _ => al_place _ _) h
