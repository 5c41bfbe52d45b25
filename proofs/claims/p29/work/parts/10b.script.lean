/-! rows that the law's own methods want: the script behind a call, shifts and masks of any int, floats compared -/
def mI2 (x : Int32) : Int := x.toInt
theorem mI2_rg (x : Int32) : -2147483648 ≤ mI2 x ∧ mI2 x < 2147483648 := mI_rg x
/-- v >> k as the machine has it -/
def shI (a b : Int) : Int := (Int32.ofInt a >>> (Int32.ofInt b &&& 31)).toInt
theorem shI_rg (a b : Int) : -2147483648 ≤ shI a b ∧ shI a b < 2147483648 := mI_rg _
/-- v & 0x7fffffff as the machine has it -/
def adI31 (a : Int) : Int := (Int32.ofInt a &&& Int32.ofInt 2147483647).toInt
theorem adI31_rg (a : Int) : 0 ≤ adI31 a ∧ adI31 a < 2147483648 := by
  refine ⟨?_, (mI_rg _).2⟩
  unfold adI31
  rw [show (Int32.ofInt a &&& Int32.ofInt 2147483647).toInt = ((Int32.ofInt a).toBitVec &&& (Int32.ofInt 2147483647).toBitVec).toInt from rfl, BitVec.toInt_eq_msb_cond, BitVec.msb_and, show (Int32.ofInt 2147483647).toBitVec.msb = false by decide, Bool.and_false]
  simp
/-- the law's low(v, n) -/
def lo (a n : Int) : Int := adI31 a % n
theorem lo_rg (a : Int) {n : Int} (h : 0 < n) : 0 ≤ lo a n ∧ lo a n < n := ⟨Int.emod_nonneg _ (by omega), Int.emod_lt_of_pos _ h⟩
section MSCR
variable {M : mM} {d cb sb pc : Nat} {Qa : Option mV → mS → Prop} {L : List (Option mV)} {S : List mV} {g : mS}
theorem x_ishrI (j : Nat) {a b r : Int} (hd : (mTab M)[j]? = some (pc, .ishr, 1)) (hr : shI a b = r) (k : mX M d Qa cb sb (pc + 1) L (vI r :: S) g) : mX M d Qa cb sb pc L (vI b :: vI a :: S) g := by
  intro p l e R s m args below meth c Q base tb dC dI F E H locs cells slots ls hH hS hL hc hs
  refine lv_ishr F.1 F.2.1 (F.dec hd) ?_
  subst hr
  rw [← mI_of (Int32.ofInt a >>> (Int32.ofInt b &&& 31))]
  exact k p l e R s m args below meth c Q base tb dC dI F E H locs cells slots ls hH hS hL hc hs
theorem x_iand31 (j : Nat) {a r : Int} (hd : (mTab M)[j]? = some (pc, .iand, 1)) (hr : adI31 a = r) (k : mX M d Qa cb sb (pc + 1) L (vI r :: S) g) : mX M d Qa cb sb pc L (vI 2147483647 :: vI a :: S) g := by
  intro p l e R s m args below meth c Q base tb dC dI F E H locs cells slots ls hH hS hL hc hs
  refine lv_iand F.1 F.2.1 (F.dec hd) ?_
  subst hr
  rw [← mI_of (Int32.ofInt a &&& Int32.ofInt 2147483647)]
  exact k p l e R s m args below meth c Q base tb dC dI F E H locs cells slots ls hH hS hL hc hs
theorem x_ldci (j : Nat) {idx : Nat} {r : Int32} {z : Int} (hd : (mTab M)[j]? = some (pc, .ldc idx, 2)) (hw : Cond.constant (mName M).cls idx r ∈ mGood) (hz : r = Int32.ofInt z) (k : mX M d Qa cb sb (pc + 2) L (vI z :: S) g) : mX M d Qa cb sb pc L S g := by
  intro p l e R s m args below meth c Q base tb dC dI F E H locs cells slots ls hH hS hL hc hs
  subst hz
  exact lv_ldc F.1 F.2.1 F.2.2.2.1 (F.go hw) (F.dec hd) (k p l e R s m args below meth c Q base tb dC dI F E H locs cells slots ls hH hS hL hc hs)
theorem x_fcmp (j : Nat) {a b : UInt32} {op : CmpOp} {r : Int} (hd : (mTab M)[j]? = some (pc, .fcmp op, 1)) (hr : Op.cmpValue (FP.fcmp a b) op = Int32.ofInt r) (k : mX M d Qa cb sb (pc + 1) L (vI r :: S) g) : mX M d Qa cb sb pc L (vF b :: vF a :: S) g := by
  intro p l e R s m args below meth c Q base tb dC dI F E H locs cells slots ls hH hS hL hc hs
  refine lv_fcmp F.1 F.2.1 (F.dec hd) ?_
  rw [hr]
  exact k p l e R s m args below meth c Q base tb dC dI F E H locs cells slots ls hH hS hL hc hs
/-- another number for the same int on the stack -/
theorem x_sameI {a b : Int} (h : Int32.ofInt a = Int32.ofInt b) (k : mX M d Qa cb sb pc L (vI b :: S) g) : mX M d Qa cb sb pc L (vI a :: S) g := by
  intro p l e R s m args below meth c Q base tb dC dI F E H locs cells slots ls hH hS hL hc hs
  have e1 : (vI a :: S).map (mC base tb) = (vI b :: S).map (mC base tb) := by
    show (Value.int (Int32.ofInt a)) :: _ = (Value.int (Int32.ofInt b)) :: _
    rw [h]
  rw [e1]
  exact k p l e R s m args below meth c Q base tb dC dI F E H locs cells slots ls hH hS hL hc hs
theorem x_normI {a : Int} (k : ∀ z : Int, -2147483648 ≤ z ∧ z < 2147483648 → mX M d Qa cb sb pc L (vI z :: S) g) : mX M d Qa cb sb pc L (vI a :: S) g :=
  x_sameI (b := (Int32.ofInt a).toInt) (by rw [Int32.ofInt_toInt]) (k _ (mI_rg _))
theorem x_icmp_eqT (j : Nat) {off : Int} {tgt : Nat} {a b : Int} (hd : (mTab M)[j]? = some (pc, .if_icmp .eq off, 3)) (ht : (pc : Int) + off = (tgt : Int)) (h : a = b) (k : mX M d Qa cb sb tgt L S g) : mX M d Qa cb sb pc L (vI b :: vI a :: S) g := by
  subst h
  intro p l e R s m args below meth c Q base tb dC dI F E H locs cells slots ls hH hS hL hc hs
  exact lv_icmp_eq (x := Int32.ofInt a) (y := Int32.ofInt a) F.1 F.2.1 (F.dec hd) ht (fun _ => k p l e R s m args below meth c Q base tb dC dI F E H locs cells slots ls hH hS hL hc hs) (fun q => absurd rfl q)
end MSCR
/-- the contract of a method that reads the script -/
def mCtrS (q : Nat × (Nat → Int32)) (M : mM) (d mc ms : Nat) (as : List mV) (g : mS) (Qc : Option mV → mS → Prop) : Prop :=
  ∀ (l : Launch) (base : Nat) (tb : Nat → Nat) (dC : Nat → ClassId) (dI : Nat → Nat → Nat), ¬ mA base (tb 4) → Met l (mName M) (mWords M) (mRoom d mc ms) (va_Pc (as.map (mC base tb)) (fun U => mW base tb dC dI g U ∧ va_X (tb 4) q.1 q.2 U U.heap ∧ tb 4 < U.heap.size)) (mQ base tb dC dI Qc) mc ms (mA base)
theorem mBlindS {av : List Value} {base : Nat} {tb : Nat → Nat} {dC : Nat → ClassId} {dI : Nat → Nat → Nat} {g : mS} {q : Nat × (Nat → Int32)} : FrameBlind (va_Pc av (fun U => mW base tb dC dI g U ∧ va_X (tb 4) q.1 q.2 U U.heap ∧ tb 4 < U.heap.size)) := by
  intro a U f mk h
  obtain ⟨h1, ⟨h2, h3⟩, h4, h5⟩ := h
  exact ⟨h1, ⟨mWs.same (u := U) (U := U.calling f mk a) rfl h2, mHp.moved (u := U) (U := U.calling f mk a) (Vm.Alike.refl U.vm) h3⟩, va_X.moved (u := U) (U := U.calling f mk a) (Vm.Alike.refl U.vm) h4, h5⟩
theorem mCtrS_of {q : Nat × (Nat → Int32)} {M : mM} {d mc ms : Nat} {as : List mV} {g : mS} {Qc : Option mV → mS → Prop} (hpl : plainName (mName M).cls = true) (hdec : ∀ q ∈ mTab M, decode (mBytes M) q.1 = .ok q.2) (hlen : (mEntry as).length ≤ mNL M) (hsc : mScr M = some q)
    (k : mX M d Qc mc ms 0 (mEntry as ++ List.replicate (mNL M - (mEntry as).length) none) [] g) : mCtrS q M d mc ms as g Qc := by
  intro l base tb dC dI hnA
  refine Met.ofW (cc := mBytes M) (maxL := mNL M) (ret := mRet M) hpl rfl ?_
  intro p e s m args below meth c s₁ B hml hv
  obtain ⟨rfl, ⟨hW, hH⟩, hX, hXl⟩ := hv
  have hts := atoms_spec (ws := mWords M) B.pre
  have hown : s.vm.findClass (mName M).cls = some m.cls := findClass_of_methodNamed B.named
  have hin : meth.name = (mName M).name := (name_of_methodNamed B.named B.method).1
  have hlocks := B.notSynchronized
  have hl := lv_entry (as.map (mC base tb)) (n := mNL M) (by rw [mEntry_len]; exact hlen)
  rw [lg_entry_eq]
  generalize (lg_sl (as.map (mC base tb)) ++ List.replicate (mNL M - (lg_sl (as.map (mC base tb))).length) Slot.unset).toArray = ls at hl ⊢
  have hb : base ≤ s.heap.size := by rw [hH.1]; omega
  refine k p l e (headSpec (mWords M) (mRoom d mc ms)).room s m _ below meth c _ base tb dC dI ⟨B.exec, B.bytes, hml, hown, fun w hw => hts w (List.mem_cons_of_mem _ hw), Nat.le_refl _, Nat.le_refl _, hW, hb, hdec, hin, fun q' hq => by rw [hsc] at hq; cases hq; exact ⟨hX, hXl, hnA⟩⟩ ?_ s.heap [] 0 0 ls hH va_S.rf ⟨hl.1, hl.2.1, fun i v hi => ?_⟩ (by show 0 + mc ≤ mc; omega) (by show 0 + ms ≤ ms; omega)
  · intro v g' H locs cells slots pc i ls' hq hrok hdg hH' hS hc hs
    refine W.widen (k := mc) (n := ms) hc hs ?_
    have fin : ∀ t : State, t.heap = H → s.WarmedH t.vm → mQ base tb dC dI Qc (as.map (mC base tb)).toArray s (.returned (v.map (mC base tb))) t := fun t ht hWt =>
      ⟨⟨v, g', rfl, hq, (mWs.moved hWt hW).kept (fun a ha hna => by rw [ht]; exact hS.2.1 a ha hna), by rw [ht]; exact hH'.moved hWt.alike⟩, hS.F ht⟩
    match v, hrok, fin with
    | none, hrok, fin =>
      obtain ⟨h1, rfl⟩ := hrok
      exact W.vret B.exec B.bytes (by rw [B.returns]; exact h1) fin hS.2.2 hdg
    | some (.inl z), hrok, fin =>
      obtain ⟨rfl, h1⟩ := hrok
      rcases h1 with h1 | ⟨h1, hz⟩
      · exact W.iret B.exec B.bytes (by rw [B.returns]; exact h1) fin hS.2.2 hdg
      · exact W.zret B.exec B.bytes (by rw [B.returns]; exact h1) (mNarZ hz) fin hS.2.2 hdg
    | some (.inr (.inl b)), hrok, fin =>
      obtain ⟨rfl, h1⟩ := hrok
      exact W.lret B.exec B.bytes (by rw [B.returns]; exact h1) fin hS.2.2 hdg
    | some (.inr (.inr (.inr (.inl x)))), hrok, fin =>
      obtain ⟨rfl, h1⟩ := hrok
      exact W.fret B.exec B.bytes (by rw [B.returns]; exact h1) fin hS.2.2 hdg
    | some (.inr (.inr (.inl r))), hrok, fin => exact hrok.elim
    | some (.inr (.inr (.inr (.inr r)))), hrok, fin => exact hrok.elim
  · have hi' : (mEntry as)[i]? = some (some v) := by
      rw [List.getElem?_append] at hi
      split at hi
      · exact hi
      · rw [List.getElem?_replicate] at hi
        split at hi <;> cases hi
    have h0 := mEntry_at base tb as 0 i v hi'
    rw [Nat.zero_add] at h0
    exact hl.2.2 _ h0
section MSCR2
variable {M : mM} {d cb sb pc : Nat} {Qa : Option mV → mS → Prop} {L : List (Option mV)} {S : List mV} {g : mS}
theorem x_callSS (j : Nat) {q : Nat × (Nat → Int32)} {idx d' mc ms cb' sb' n : Nat} {as : List mV} {T : List mV} {Qc : Option mV → mS → Prop} (y : mM) (hsc : mScr M = some q) (hy : mCtrS q y d' mc ms (as) g Qc) (hd : (mTab M)[j]? = some (pc, .invokestatic idx, 3)) (hok : mOk y n) (hl : Cond.methodLink (mName M).cls idx (mName y) ∈ mGood) (hst : Cond.static (mName y) ∈ mGood) (hn : as.length = n) (hdd : d' < d) (hT : T = as.reverse ++ S) (h8 : (S.map mCat).sum ≤ 8) (hcb : cb = cb' + mc) (hsb : sb = sb' + ms)
    (kk : ∀ (v : Option mV) (g' : mS), Qc v g' → mX M d Qa cb' sb' (pc + 3) L (v.toList ++ S) g') : mX M d Qa cb sb pc L T g := by
  intro p l e R s m args below meth c Q base tb dC dI F E H locs cells slots ls hH hS hL hc hs
  subst hcb; subst hsb
  have hWs := F.2.2.2.2.2.2.2.1
  have hfr := F.2.2.2.2.2.1
  have hlo := F.2.2.2.2.2.2.1
  obtain ⟨hX, hXl, hnA⟩ := F.2.2.2.2.2.2.2.2.2.2.2 q hsc
  have hW' : ∀ U : State, U.heap = H → s.WarmedH U.vm → mW base tb dC dI g U ∧ va_X (tb 4) q.1 q.2 U U.heap ∧ tb 4 < U.heap.size := fun U hU hWU => ⟨⟨(mWs.moved hWU hWs).kept (fun a ha hna => by rw [hU]; exact hS.2.1 a ha hna), by rw [hU]; exact hH.moved hWU.alike⟩, (va_X.moved hWU.alike hX).kept (by rw [hU]; exact hS.2.1 _ hXl hnA), by rw [hU]; exact Nat.lt_of_lt_of_le hXl hS.1⟩
  have hroom : (mRoom d' mc ms).frames + 1 ≤ R.frames ∧ 8 + (mNL y + 11) + (mRoom d' mc ms).locals ≤ R.locals := ⟨by show d' + 1 ≤ _; omega, by show 8 + (mNL y + 11) + 34 * d' ≤ _; have := hok.2.2.2; omega⟩
  have hS8 : ((S.map (mC base tb)).map fun v => v.category).sum ≤ 8 := by rw [mCatS]; exact h8
  rw [mRevS0 base tb as S T hT]
  refine mRun (va_runS ⟨F.1, F.2.1, F.2.2.1, F.2.2.2.1, F.2.2.2.2.1⟩ (hy l base tb dC dI hnA) ⟨callB_of n F.2.2.2.2.1 (mGoodIn hok) rfl rfl rfl (F.go hok.2.1) (F.go hl) hok.2.2.1 hroom, F.go hst⟩ ⟨mBlindS, fun U hU hWU => ⟨rfl, hW' U hU hWU⟩⟩ rfl (by rw [List.length_map]; exact hn) hL.1 rfl (lv_room hS8) (F.dec hd) ⟨by omega, by omega⟩) hS (fun v g' H1 locs1 hq hH1 hS1 => ?_)
  rw [mTailS]
  exact kk v g' hq p l e R s m args below meth c Q base tb dC dI F E H1 locs1 _ _ ls hH1 hS1 hL (by omega) (by omega)
end MSCR2
/-! the law's class and its two whole numbers -/
theorem pl_L : plainName RL = true := by decide +kernel
theorem cc_L_7 : Cond.constant RL 7 747796405 ∈ mGood := mInD (by decide +kernel) rfl
theorem cc_L_8 : Cond.constant RL 8 2147483647 ∈ mGood := mInD (by decide +kernel) rfl
/-- less room than there is -/
theorem x_room {M : mM} {d cb sb cb' sb' pc : Nat} {Qa : Option mV → mS → Prop} {L : List (Option mV)} {S : List mV} {g : mS} (h1 : cb' ≤ cb) (h2 : sb' ≤ sb) (k : mX M d Qa cb' sb' pc L S g) : mX M d Qa cb sb pc L S g := by
  intro p l e R s m args below meth c Q base tb dC dI F E H locs cells slots ls hH hS hL hc hs
  exact k p l e R s m args below meth c Q base tb dC dI F E H locs cells slots ls hH hS hL (by omega) (by omega)
