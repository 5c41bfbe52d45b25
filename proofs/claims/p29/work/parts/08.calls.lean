/-! calls: a method's contract, how it is got from a walk, how it is used -/
def mWords (M : mM) : List Cond := .code (mName M) (mBytes M) (mNL M) (mRet M) :: mGood
def mRoom (d mc ms : Nat) : Room := { frames := d, cells := mc, slots := ms, locals := 34 * d }
def mQ (base : Nat) (tb : Nat → Nat) (dC : Nat → ClassId) (dI : Nat → Nat → Nat) (Qc : Option mV → mS → Prop) : Array Value → State → Outcome → State → Prop := fun _ st oc t => (∃ (v : Option mV) (g' : mS), oc = .returned (v.map (mC base tb)) ∧ Qc v g' ∧ mW base tb dC dI g' t) ∧ va_F (mA base) st t
/-- the contract of the method M: from the state g with these arguments it comes back with an answer and a state of which Qc holds; d: how deep it calls; mc, ms: what it makes -/
def mCtr (M : mM) (d mc ms : Nat) (as : List mV) (g : mS) (Qc : Option mV → mS → Prop) : Prop :=
  ∀ (l : Launch) (base : Nat) (tb : Nat → Nat) (dC : Nat → ClassId) (dI : Nat → Nat → Nat), Met l (mName M) (mWords M) (mRoom d mc ms) (va_Pc (as.map (mC base tb)) (fun U => mW base tb dC dI g U)) (mQ base tb dC dI Qc) mc ms (mA base)
theorem mBlind {av : List Value} {base : Nat} {tb : Nat → Nat} {dC : Nat → ClassId} {dI : Nat → Nat → Nat} {g : mS} : FrameBlind (va_Pc av (fun U => mW base tb dC dI g U)) := by
  intro a U f mk h
  obtain ⟨h1, h2, h3⟩ := h
  exact ⟨h1, mWs.same (u := U) (U := U.calling f mk a) rfl h2, mHp.moved (u := U) (U := U.calling f mk a) (Vm.Alike.refl U.vm) h3⟩
def mEntry : List mV → List (Option mV)
  | [] => []
  | v :: t => if mCat v = 2 then some v :: none :: mEntry t else some v :: mEntry t
theorem mEntry_at (base : Nat) (tb : Nat → Nat) : ∀ (as : List mV) (i j : Nat) (v : mV), (mEntry as)[j]? = some (some v) → (i + j, mC base tb v) ∈ lv_args i (as.map (mC base tb))
  | [], i, j, v, h => by simp [mEntry] at h
  | a :: t, i, j, v, h => by
    unfold mEntry at h
    show _ ∈ (i, mC base tb a) :: lv_args (if (mC base tb a).category = 2 then i + 2 else i + 1) (t.map (mC base tb))
    rw [mC_cat]
    by_cases hc : mCat a = 2
    · rw [if_pos hc] at h ⊢
      match j, h with
      | 0, h => cases h; exact List.mem_cons_self
      | 1, h => cases h
      | j + 2, h =>
        have := mEntry_at base tb t (i + 2) j v h
        rw [show i + (j + 2) = i + 2 + j by omega]
        exact List.mem_cons_of_mem _ this
    · rw [if_neg hc] at h ⊢
      match j, h with
      | 0, h => cases h; exact List.mem_cons_self
      | j + 1, h =>
        have := mEntry_at base tb t (i + 1) j v h
        rw [show i + (j + 1) = i + 1 + j by omega]
        exact List.mem_cons_of_mem _ this
theorem mEntry_len (base : Nat) (tb : Nat → Nat) : ∀ as : List mV, (lg_sl (as.map (mC base tb))).length = (mEntry as).length
  | [] => rfl
  | a :: t => by
    have ih := mEntry_len base tb t
    unfold lg_sl at ih ⊢
    rw [List.map_cons, List.flatMap_cons, List.length_append, ih]
    show _ = (if mCat a = 2 then some a :: none :: mEntry t else some a :: mEntry t).length
    rw [mC_cat]
    by_cases hc : mCat a = 2
    · rw [if_pos hc, if_pos hc]; simp only [List.length_cons, List.length_nil]; omega
    · rw [if_neg hc, if_neg hc]; simp only [List.length_cons, List.length_nil]; omega
theorem mCtr_of {M : mM} {d mc ms : Nat} {as : List mV} {g : mS} {Qc : Option mV → mS → Prop} (hpl : plainName (mName M).cls = true) (hdec : ∀ q ∈ mTab M, decode (mBytes M) q.1 = .ok q.2) (hlen : (mEntry as).length ≤ mNL M) (hsc : mScr M = none)
    (k : mX M d Qc mc ms 0 (mEntry as ++ List.replicate (mNL M - (mEntry as).length) none) [] g) : mCtr M d mc ms as g Qc := by
  intro l base tb dC dI
  refine Met.ofW (cc := mBytes M) (maxL := mNL M) (ret := mRet M) hpl rfl ?_
  intro p e s m args below meth c s₁ B hml hv
  obtain ⟨rfl, hW, hH⟩ := hv
  have hts := atoms_spec (ws := mWords M) B.pre
  have hown : s.vm.findClass (mName M).cls = some m.cls := findClass_of_methodNamed B.named
  have hin : meth.name = (mName M).name := (name_of_methodNamed B.named B.method).1
  have hlocks := B.notSynchronized
  have hl := lv_entry (as.map (mC base tb)) (n := mNL M) (by rw [mEntry_len]; exact hlen)
  rw [lg_entry_eq]
  generalize (lg_sl (as.map (mC base tb)) ++ List.replicate (mNL M - (lg_sl (as.map (mC base tb))).length) Slot.unset).toArray = ls at hl ⊢
  have hb : base ≤ s.heap.size := by rw [hH.1]; omega
  refine k p l e (headSpec (mWords M) (mRoom d mc ms)).room s m _ below meth c _ base tb dC dI ⟨B.exec, B.bytes, hml, hown, fun w hw => hts w (List.mem_cons_of_mem _ hw), Nat.le_refl _, Nat.le_refl _, hW, hb, hdec, hin, fun q hq => by rw [hsc] at hq; cases hq⟩ ?_ s.heap [] 0 0 ls hH va_S.rf ⟨hl.1, hl.2.1, fun i v hi => ?_⟩ (by show 0 + mc ≤ mc; omega) (by show 0 + ms ≤ ms; omega)
  · intro v g' H locs cells slots pc i ls' hq hrok hdg hH' hS hc hs
    refine W.widen (k := mc) (n := ms) hc hs ?_
    have fin : ∀ t : State, t.heap = H → s.WarmedH t.vm → mQ base tb dC dI Qc (as.map (mC base tb)).toArray s (.returned (v.map (mC base tb))) t := fun t ht hWt =>
      ⟨⟨v, g', rfl, hq, (mWs.moved hWt hW).kept (fun a ha hna => by rw [ht]; exact hS.2.1 a ha hna), by rw [ht]; exact hH'.moved hWt.alike⟩, hS.F ht⟩
    match v, hrok, fin with
    | none, hrok, fin =>
      obtain ⟨h1, rfl⟩ := hrok
      exact W.vret B.exec B.bytes (by rw [B.returns]; exact h1) fin hS.2.2 hdg
    | some (.inl z), hrok, fin =>
      obtain ⟨rfl, h1⟩ := hrok
      rcases h1 with h1 | ⟨h1, hz⟩
      · exact W.iret B.exec B.bytes (by rw [B.returns]; exact h1) fin hS.2.2 hdg
      · exact W.zret B.exec B.bytes (by rw [B.returns]; exact h1) (mNarZ hz) fin hS.2.2 hdg
    | some (.inr (.inl b)), hrok, fin =>
      obtain ⟨rfl, h1⟩ := hrok
      exact W.lret B.exec B.bytes (by rw [B.returns]; exact h1) fin hS.2.2 hdg
    | some (.inr (.inr (.inr (.inl x)))), hrok, fin =>
      obtain ⟨rfl, h1⟩ := hrok
      exact W.fret B.exec B.bytes (by rw [B.returns]; exact h1) fin hS.2.2 hdg
    | some (.inr (.inr (.inl r))), hrok, fin => exact hrok.elim
    | some (.inr (.inr (.inr (.inr r)))), hrok, fin => exact hrok.elim
  · have hi' : (mEntry as)[i]? = some (some v) := by
      rw [List.getElem?_append] at hi
      split at hi
      · exact hi
      · rw [List.getElem?_replicate] at hi
        split at hi <;> cases hi
    have h0 := mEntry_at base tb as 0 i v hi'
    rw [Nat.zero_add] at h0
    exact hl.2.2 _ h0
/-- what the tables say of a method that is called: by number of its arguments -/
def mOk (y : mM) (n : Nat) : Prop := Cond.code (mName y) (mBytes y) (mNL y) (mRet y) ∈ mGood ∧ Cond.initialized (mName y).cls ∈ mGood ∧ ((mName y).cls ≠ "java/lang/invoke/MethodHandle" ∧ (mName y).cls ≠ "java/lang/invoke/VarHandle" ∧ (parseMethodDescriptor (mName y).desc).map (fun d => d.parameters.length) = some n) ∧ mNL y ≤ 15
theorem mOiI : Cond.instanceMethod Lib.objectInit ∈ mGood := by decide +kernel
theorem mOiC : Cond.code Lib.objectInit ⟨#[0xb1]⟩ 1 none ∈ mGood := by decide +kernel
theorem mMx_max : Cond.static Lib.Math.max.name ∈ mGood := by decide +kernel
theorem mMx_min : Cond.static Lib.Math.min.name ∈ mGood := by decide +kernel
theorem mMi : Cond.initialized "java/lang/Math" ∈ mGood := by decide +kernel
theorem mMc_max : Cond.code Lib.Math.max.name Lib.Math.max.code 2 (some .int) ∈ mGood := by decide +kernel
theorem mMc_min : Cond.code Lib.Math.min.name Lib.Math.min.code 2 (some .int) ∈ mGood := by decide +kernel
theorem mGood_all : mGood.all goodWord = true := List.all_eq_true.mpr fun _ h => (List.mem_filter.mp h).2
section MCALL
variable {p : Program} {l : Launch} {e : Env} {R : Room} {s : State} {m : MethodId} {args : Array Value} {below : List Frame} {meth : Method} {c : Code} {H : Heap} {locs : List Loc} {cells slots : Nat} {Q : State → Prop}
variable {base : Nat} {tb : Nat → Nat} {dC : Nat → ClassId} {dI : Nat → Nat → Nat}
theorem mGoodIn {y : mM} {n : Nat} (h : mOk y n) : GoodIn mGood (mWords y) := by
  intro w hw
  have h1 : w ∈ mGood := by
    rcases List.mem_cons.mp hw with rfl | h1
    · exact h.1
    · exact h1
  exact ⟨h1, good_of_word (List.mem_filter.mp h1).2⟩
theorem mRun {pc mc ms : Nat} {ls : Array Slot} {st0 rest : List Value} {a : Array Value} {Qc : Option mV → mS → Prop} (hr : va_Run p l e R s m args below meth c H locs cells slots mc ms (F0 m pc ls st0) rest (mQ base tb dC dI Qc a) (mA base)) (hS : va_S (mA base) s.heap H locs)
    (kk : ∀ (v : Option mV) (g' : mS) (H1 : Heap) (locs1 : List Loc), Qc v g' → mHp base dC dI s g' H1 → va_S (mA base) s.heap H1 locs1 → W p l e R s m args below meth c H1 locs1 (cells + mc) (slots + ms) Q (F0 m (pc + 3) ls ((v.map (mC base tb)).toList ++ rest))) : W p l e R s m args below meth c H locs cells slots Q (F0 m pc ls st0) := by
  intro T hT X
  obtain ⟨v, st₀, t, T', L, h0, X', hL, e1, e2, ⟨⟨w, g', hv, hp, -, hb⟩, hz, hk⟩, st⟩ := hr T hT X
  cases hv
  rw [h0] at hz hk
  have hal : s.vm.Alike t.vm := by rw [← e2]; exact X'.warmed.alike
  obtain ⟨t2, a1, b1⟩ := kk w g' T'.heap (locs ++ L) hp (by rw [e1]; exact hb.moved hal.symm)
    ⟨Nat.le_trans hS.1 (by rw [e1]; exact hz), fun q h1 h2 => by rw [e1, hk q (Nat.lt_of_lt_of_le h1 hS.1) h2]; exact hS.2.1 q h1 h2, fun q hq => by
      rcases List.mem_append.mp hq with h | h
      · exact hS.2.2 q h
      · exact hL q h⟩ T' rfl X'
  exact ⟨t2, st t2 a1, b1⟩
end MCALL
theorem mCatS (base : Nat) (tb : Nat → Nat) (S : List mV) : ((S.map (mC base tb)).map fun v => v.category) = S.map mCat := by
  rw [List.map_map]
  exact List.map_congr_left fun v _ => mC_cat base tb v
theorem mRevS (base : Nat) (tb : Nat → Nat) (as : List mV) (b : mV) (S T : List mV) (h : T = as.reverse ++ b :: S) : T.map (mC base tb) = (as.map (mC base tb)).reverse ++ mC base tb b :: S.map (mC base tb) := by
  rw [h, List.map_append, List.map_reverse, List.map_cons]
theorem mRevS0 (base : Nat) (tb : Nat → Nat) (as : List mV) (S T : List mV) (h : T = as.reverse ++ S) : T.map (mC base tb) = (as.map (mC base tb)).reverse ++ S.map (mC base tb) := by
  rw [h, List.map_append, List.map_reverse]
theorem mTailS (base : Nat) (tb : Nat → Nat) (v : Option mV) (S : List mV) : (v.map (mC base tb)).toList ++ S.map (mC base tb) = (v.toList ++ S).map (mC base tb) := by
  cases v <;> rfl
section MCX
variable {M : mM} {d cb sb pc : Nat} {Qa : Option mV → mS → Prop} {L : List (Option mV)} {S : List mV} {g : mS}
theorem x_callV (j : Nat) {idx d' mc ms cb' sb' n : Nat} {as : List mV} {T : List mV} {Qc : Option mV → mS → Prop} (y : mM) {o ci : Nat} {q : vw_C} (hy : mCtr y d' mc ms (vR (some o) :: as) g Qc) (hd : (mTab M)[j]? = some (pc, .invokevirtual idx, 3)) (hok : mOk y n) (ho : o < sN g) (hk : sK g o = .inl ci) (hq : vwCl[ci]? = some q) (hqc : q.1 = (mName y).cls) (hl : Cond.methodLink (mName M).cls idx (mName y) ∈ mGood) (hin : Cond.instanceMethod (mName y) ∈ mGood) (hse : Cond.selects (mName y).cls (mName y) (mName y) ∈ mGood) (hn : as.length = n) (hdd : d' < d) (hT : T = as.reverse ++ vR (some o) :: S) (h8 : (S.map mCat).sum ≤ 8) (hcb : cb = cb' + mc) (hsb : sb = sb' + ms)
    (kk : ∀ (v : Option mV) (g' : mS), Qc v g' → mX M d Qa cb' sb' (pc + 3) L (v.toList ++ S) g') : mX M d Qa cb sb pc L T g := by
  intro p l e R s m args below meth c Q base tb dC dI F E H locs cells slots ls hH hS hL hc hs
  subst hcb; subst hsb
  have hWs := F.2.2.2.2.2.2.2.1
  have hfr := F.2.2.2.2.2.1
  have hlo := F.2.2.2.2.2.2.1
  have hW' : ∀ U : State, U.heap = H → s.WarmedH U.vm → mW base tb dC dI g U := fun U hU hWU => ⟨(mWs.moved hWU hWs).kept (fun a ha hna => by rw [hU]; exact hS.2.1 a ha hna), by rw [hU]; exact hH.moved hWU.alike⟩
  have hroom : (mRoom d' mc ms).frames + 1 ≤ R.frames ∧ 8 + (mNL y + 11) + (mRoom d' mc ms).locals ≤ R.locals := ⟨by show d' + 1 ≤ _; omega, by show 8 + (mNL y + 11) + 34 * d' ≤ _; have := hok.2.2.2; omega⟩
  have hS8 : ((S.map (mC base tb)).map fun v => v.category).sum ≤ 8 := by rw [mCatS]; exact h8
  rw [mRevS base tb as _ S T hT]
  refine mRun (va_runV (C := (mName y).cls) ⟨F.1, F.2.1, F.2.2.1, F.2.2.2.1, F.2.2.2.2.1⟩ (hy l base tb dC dI) ⟨callB_of n F.2.2.2.2.1 (mGoodIn hok) rfl rfl rfl (F.go hok.2.1) (F.go hl) hok.2.2.1 hroom, F.go hin, F.go hse⟩ ⟨mBlind, (by
      obtain ⟨q', hq', cell, q1, q2, q3, -⟩ := hH.obj ho hk
      exact ⟨cell, q1, by rw [q3]; rfl, by rw [q2, ← hqc]; exact (hWs.1.1 ci q hq).2.1⟩), fun U hU hWU => ⟨rfl, hW' U hU hWU⟩⟩ rfl (by rw [List.length_map]; exact hn) hL.1 rfl (lv_room hS8) (F.dec hd) ⟨by omega, by omega⟩) hS (fun v g' H1 locs1 hq hH1 hS1 => ?_)
  rw [mTailS]
  exact kk v g' hq p l e R s m args below meth c Q base tb dC dI F E H1 locs1 _ _ ls hH1 hS1 hL (by omega) (by omega)
theorem x_callS (j : Nat) {idx d' mc ms cb' sb' n : Nat} {as : List mV} {T : List mV} {Qc : Option mV → mS → Prop} (y : mM) (hy : mCtr y d' mc ms (as) g Qc) (hd : (mTab M)[j]? = some (pc, .invokestatic idx, 3)) (hok : mOk y n) (hl : Cond.methodLink (mName M).cls idx (mName y) ∈ mGood) (hst : Cond.static (mName y) ∈ mGood) (hn : as.length = n) (hdd : d' < d) (hT : T = as.reverse ++ S) (h8 : (S.map mCat).sum ≤ 8) (hcb : cb = cb' + mc) (hsb : sb = sb' + ms)
    (kk : ∀ (v : Option mV) (g' : mS), Qc v g' → mX M d Qa cb' sb' (pc + 3) L (v.toList ++ S) g') : mX M d Qa cb sb pc L T g := by
  intro p l e R s m args below meth c Q base tb dC dI F E H locs cells slots ls hH hS hL hc hs
  subst hcb; subst hsb
  have hWs := F.2.2.2.2.2.2.2.1
  have hfr := F.2.2.2.2.2.1
  have hlo := F.2.2.2.2.2.2.1
  have hW' : ∀ U : State, U.heap = H → s.WarmedH U.vm → mW base tb dC dI g U := fun U hU hWU => ⟨(mWs.moved hWU hWs).kept (fun a ha hna => by rw [hU]; exact hS.2.1 a ha hna), by rw [hU]; exact hH.moved hWU.alike⟩
  have hroom : (mRoom d' mc ms).frames + 1 ≤ R.frames ∧ 8 + (mNL y + 11) + (mRoom d' mc ms).locals ≤ R.locals := ⟨by show d' + 1 ≤ _; omega, by show 8 + (mNL y + 11) + 34 * d' ≤ _; have := hok.2.2.2; omega⟩
  have hS8 : ((S.map (mC base tb)).map fun v => v.category).sum ≤ 8 := by rw [mCatS]; exact h8
  rw [mRevS0 base tb as S T hT]
  refine mRun (va_runS ⟨F.1, F.2.1, F.2.2.1, F.2.2.2.1, F.2.2.2.2.1⟩ (hy l base tb dC dI) ⟨callB_of n F.2.2.2.2.1 (mGoodIn hok) rfl rfl rfl (F.go hok.2.1) (F.go hl) hok.2.2.1 hroom, F.go hst⟩ ⟨mBlind, fun U hU hWU => ⟨rfl, hW' U hU hWU⟩⟩ rfl (by rw [List.length_map]; exact hn) hL.1 rfl (lv_room hS8) (F.dec hd) ⟨by omega, by omega⟩) hS (fun v g' H1 locs1 hq hH1 hS1 => ?_)
  rw [mTailS]
  exact kk v g' hq p l e R s m args below meth c Q base tb dC dI F E H1 locs1 _ _ ls hH1 hS1 hL (by omega) (by omega)
theorem x_callSN (j : Nat) {idx d' mc ms cb' sb' n : Nat} {as : List mV} {T : List mV} {Qc : Option mV → mS → Prop} (y : mM) (hy : mCtr y d' mc ms (as) g Qc) (hd : (mTab M)[j]? = some (pc, .invokestatic idx, 3)) (hok : mOk y n) (hl : Cond.methodLinkNest (mName M).cls idx (mName y) "ChoirBook" ∈ mNest) (hst : Cond.static (mName y) ∈ mGood) (hn : as.length = n) (hdd : d' < d) (hT : T = as.reverse ++ S) (h8 : (S.map mCat).sum ≤ 8) (hcb : cb = cb' + mc) (hsb : sb = sb' + ms)
    (kk : ∀ (v : Option mV) (g' : mS), Qc v g' → mX M d Qa cb' sb' (pc + 3) L (v.toList ++ S) g') : mX M d Qa cb sb pc L T g := by
  intro p l e R s m args below meth c Q base tb dC dI F E H locs cells slots ls hH hS hL hc hs
  subst hcb; subst hsb
  have hWs := F.2.2.2.2.2.2.2.1
  have hfr := F.2.2.2.2.2.1
  have hlo := F.2.2.2.2.2.2.1
  have hW' : ∀ U : State, U.heap = H → s.WarmedH U.vm → mW base tb dC dI g U := fun U hU hWU => ⟨(mWs.moved hWU hWs).kept (fun a ha hna => by rw [hU]; exact hS.2.1 a ha hna), by rw [hU]; exact hH.moved hWU.alike⟩
  have hroom : (mRoom d' mc ms).frames + 1 ≤ R.frames ∧ 8 + (mNL y + 11) + (mRoom d' mc ms).locals ≤ R.locals := ⟨by show d' + 1 ≤ _; omega, by show 8 + (mNL y + 11) + 34 * d' ≤ _; have := hok.2.2.2; omega⟩
  have hS8 : ((S.map (mC base tb)).map fun v => v.category).sum ≤ 8 := by rw [mCatS]; exact h8
  rw [mRevS0 base tb as S T hT]
  refine mRun (va_runSN ⟨F.1, F.2.1, F.2.2.1, F.2.2.2.1, F.2.2.2.2.1⟩ (hy l base tb dC dI) ⟨va_cnB n F.2.2.2.2.1 (mGoodIn hok) rfl rfl rfl (hWs.2.2.1 _ hl) (F.go hok.2.1) hok.2.2.1 hroom, F.go hst, trivial⟩ ⟨mBlind, fun U hU hWU => ⟨rfl, hW' U hU hWU⟩⟩ rfl (by rw [List.length_map]; exact hn) hL.1 rfl (lv_room hS8) (F.dec hd) ⟨by omega, by omega⟩) hS (fun v g' H1 locs1 hq hH1 hS1 => ?_)
  rw [mTailS]
  exact kk v g' hq p l e R s m args below meth c Q base tb dC dI F E H1 locs1 _ _ ls hH1 hS1 hL (by omega) (by omega)
theorem x_callI (j : Nat) {idx d' mc ms cb' sb' n : Nat} {as : List mV} {T : List mV} {Qc : Option mV → mS → Prop} (y : mM) {o : Nat} (hy : mCtr y d' mc ms (vR (some o) :: as) g Qc) (hd : (mTab M)[j]? = some (pc, .invokespecial idx, 3)) (hok : mOk y n) (hret : mRet y = none) (hnm : (mName y).name = "<init>") (hl : Cond.methodLink (mName M).cls idx (mName y) ∈ mGood) (hin : Cond.instanceMethod (mName y) ∈ mGood) (hn : as.length = n) (hdd : d' < d) (hT : T = as.reverse ++ vR (some o) :: S) (h8 : (S.map mCat).sum ≤ 8) (hcb : cb = cb' + mc) (hsb : sb = sb' + ms)
    (kk : ∀ (v : Option mV) (g' : mS), Qc v g' → mX M d Qa cb' sb' (pc + 3) L (v.toList ++ S) g') : mX M d Qa cb sb pc L T g := by
  intro p l e R s m args below meth c Q base tb dC dI F E H locs cells slots ls hH hS hL hc hs
  subst hcb; subst hsb
  have hWs := F.2.2.2.2.2.2.2.1
  have hfr := F.2.2.2.2.2.1
  have hlo := F.2.2.2.2.2.2.1
  have hW' : ∀ U : State, U.heap = H → s.WarmedH U.vm → mW base tb dC dI g U := fun U hU hWU => ⟨(mWs.moved hWU hWs).kept (fun a ha hna => by rw [hU]; exact hS.2.1 a ha hna), by rw [hU]; exact hH.moved hWU.alike⟩
  have hroom : (mRoom d' mc ms).frames + 1 ≤ R.frames ∧ 8 + (mNL y + 11) + (mRoom d' mc ms).locals ≤ R.locals := ⟨by show d' + 1 ≤ _; omega, by show 8 + (mNL y + 11) + 34 * d' ≤ _; have := hok.2.2.2; omega⟩
  have hS8 : ((S.map (mC base tb)).map fun v => v.category).sum ≤ 8 := by rw [mCatS]; exact h8
  rw [mRevS base tb as _ S T hT]
  refine mRun (va_runI ⟨F.1, F.2.1, F.2.2.1, F.2.2.2.1, F.2.2.2.2.1⟩ (hy l base tb dC dI) ⟨hret ▸ callB_of n F.2.2.2.2.1 (mGoodIn hok) rfl rfl rfl (F.go hok.2.1) (F.go hl) hok.2.2.1 hroom, hnm, F.go hin⟩ ⟨mBlind, fun U hU hWU => ⟨rfl, hW' U hU hWU⟩⟩ rfl (by rw [List.length_map]; exact hn) hL.1 rfl (lv_room hS8) (F.dec hd) ⟨by omega, by omega⟩) hS (fun v g' H1 locs1 hq hH1 hS1 => ?_)
  rw [mTailS]
  exact kk v g' hq p l e R s m args below meth c Q base tb dC dI F E H1 locs1 _ _ ls hH1 hS1 hL (by omega) (by omega)
theorem x_callIN (j : Nat) {idx d' mc ms cb' sb' n : Nat} {as : List mV} {T : List mV} {Qc : Option mV → mS → Prop} (y : mM) {o : Nat} (hy : mCtr y d' mc ms (vR (some o) :: as) g Qc) (hd : (mTab M)[j]? = some (pc, .invokespecial idx, 3)) (hok : mOk y n) (hret : mRet y = none) (hnm : (mName y).name = "<init>") (hl : Cond.methodLinkNest (mName M).cls idx (mName y) "ChoirBook" ∈ mNest) (hin : Cond.instanceMethod (mName y) ∈ mGood) (hn : as.length = n) (hdd : d' < d) (hT : T = as.reverse ++ vR (some o) :: S) (h8 : (S.map mCat).sum ≤ 8) (hcb : cb = cb' + mc) (hsb : sb = sb' + ms)
    (kk : ∀ (v : Option mV) (g' : mS), Qc v g' → mX M d Qa cb' sb' (pc + 3) L (v.toList ++ S) g') : mX M d Qa cb sb pc L T g := by
  intro p l e R s m args below meth c Q base tb dC dI F E H locs cells slots ls hH hS hL hc hs
  subst hcb; subst hsb
  have hWs := F.2.2.2.2.2.2.2.1
  have hfr := F.2.2.2.2.2.1
  have hlo := F.2.2.2.2.2.2.1
  have hW' : ∀ U : State, U.heap = H → s.WarmedH U.vm → mW base tb dC dI g U := fun U hU hWU => ⟨(mWs.moved hWU hWs).kept (fun a ha hna => by rw [hU]; exact hS.2.1 a ha hna), by rw [hU]; exact hH.moved hWU.alike⟩
  have hroom : (mRoom d' mc ms).frames + 1 ≤ R.frames ∧ 8 + (mNL y + 11) + (mRoom d' mc ms).locals ≤ R.locals := ⟨by show d' + 1 ≤ _; omega, by show 8 + (mNL y + 11) + 34 * d' ≤ _; have := hok.2.2.2; omega⟩
  have hS8 : ((S.map (mC base tb)).map fun v => v.category).sum ≤ 8 := by rw [mCatS]; exact h8
  rw [mRevS base tb as _ S T hT]
  refine mRun (va_runIN ⟨F.1, F.2.1, F.2.2.1, F.2.2.2.1, F.2.2.2.2.1⟩ (hy l base tb dC dI) ⟨hret ▸ va_cnB n F.2.2.2.2.1 (mGoodIn hok) rfl rfl rfl (hWs.2.2.1 _ hl) (F.go hok.2.1) hok.2.2.1 hroom, hnm, F.go hin⟩ ⟨mBlind, fun U hU hWU => ⟨rfl, hW' U hU hWU⟩⟩ rfl (by rw [List.length_map]; exact hn) hL.1 rfl (lv_room hS8) (F.dec hd) ⟨by omega, by omega⟩) hS (fun v g' H1 locs1 hq hH1 hS1 => ?_)
  rw [mTailS]
  exact kk v g' hq p l e R s m args below meth c Q base tb dC dI F E H1 locs1 _ _ ls hH1 hS1 hL (by omega) (by omega)
theorem x_objInit (j : Nat) {idx o : Nat} (hd : (mTab M)[j]? = some (pc, .invokespecial idx, 3)) (hl : Cond.methodLink (mName M).cls idx Lib.objectInit ∈ mGood) (hd1 : 1 ≤ d) (h8 : (S.map mCat).sum ≤ 8) (kk : mX M d Qa cb sb (pc + 3) L S g) : mX M d Qa cb sb pc L (vR (some o) :: S) g := by
  intro p l e R s m args below meth c Q base tb dC dI F E H locs cells slots ls hH hS hL hc hs
  have hS8 : ((S.map (mC base tb)).map fun v => v.category).sum ≤ 8 := by rw [mCatS]; exact h8
  have hfr := F.2.2.2.2.2.1
  have hlo := F.2.2.2.2.2.2.1
  exact W.objInit F.1 F.2.1 F.2.2.2.1 (F.go hl) (F.go mOiI) (F.go mOiC) rfl (by rw [F.2.2.1]; exact hL.1) rfl (F.dec hd) (by omega) (by show 2 * 0 + _ + 12 ≤ _; omega) (kk p l e R s m args below meth c Q base tb dC dI F E H locs cells slots ls hH hS hL hc hs)
theorem x_mmax (j : Nat) {idx : Nat} {a b r : Int} (hd : (mTab M)[j]? = some (pc, .invokestatic idx, 3)) (hl : Cond.methodLink (mName M).cls idx Lib.Math.max.name ∈ mGood) (hr : -2147483648 ≤ a ∧ a < 2147483648 ∧ -2147483648 ≤ b ∧ b < 2147483648) (hz : max a b = r) (hd1 : 1 ≤ d) (h8 : (S.map mCat).sum ≤ 8) (kk : mX M d Qa cb sb (pc + 3) L (vI r :: S) g) : mX M d Qa cb sb pc L (vI b :: vI a :: S) g := by
  intro p l e R s m args below meth c Q base tb dC dI F E H locs cells slots ls hH hS hL hc hs
  have hS8 : ((S.map (mC base tb)).map fun v => v.category).sum ≤ 8 := by rw [mCatS]; exact h8
  have hfr := F.2.2.2.2.2.1
  have hlo := F.2.2.2.2.2.2.1
  refine va_mmax (x := Int32.ofInt a) (y := Int32.ofInt b) F.1 F.2.1 (by rw [F.2.2.1]; exact hL.1.symm) F.2.2.2.1 (F.go hl) (F.go mMx_max) (F.go mMi) (F.go mMc_max) (by omega) (by omega) (by omega) (by omega) (F.dec hd) ?_
  have ha : mR a := ⟨hr.1, hr.2.1⟩
  have hb : mR b := ⟨hr.2.2.1, hr.2.2.2⟩
  have hv : (if Int32.ofInt a < Int32.ofInt b then Int32.ofInt b else Int32.ofInt a) = Int32.ofInt r := by
    rw [← hz]
    split
    · rename_i h
      have h := (mI_lt ha hb).mp h
      congr 1
      omega
    · rename_i h
      have h := mt (mI_lt ha hb).mpr h
      congr 1
      omega
  rw [hv]
  exact kk p l e R s m args below meth c Q base tb dC dI F E H locs cells slots ls hH hS hL hc hs
theorem x_mmin (j : Nat) {idx : Nat} {a b r : Int} (hd : (mTab M)[j]? = some (pc, .invokestatic idx, 3)) (hl : Cond.methodLink (mName M).cls idx Lib.Math.min.name ∈ mGood) (hr : -2147483648 ≤ a ∧ a < 2147483648 ∧ -2147483648 ≤ b ∧ b < 2147483648) (hz : min a b = r) (hd1 : 1 ≤ d) (h8 : (S.map mCat).sum ≤ 8) (kk : mX M d Qa cb sb (pc + 3) L (vI r :: S) g) : mX M d Qa cb sb pc L (vI b :: vI a :: S) g := by
  intro p l e R s m args below meth c Q base tb dC dI F E H locs cells slots ls hH hS hL hc hs
  have hS8 : ((S.map (mC base tb)).map fun v => v.category).sum ≤ 8 := by rw [mCatS]; exact h8
  have hfr := F.2.2.2.2.2.1
  have hlo := F.2.2.2.2.2.2.1
  refine va_mmin (x := Int32.ofInt a) (y := Int32.ofInt b) F.1 F.2.1 (by rw [F.2.2.1]; exact hL.1.symm) F.2.2.2.1 (F.go hl) (F.go mMx_min) (F.go mMi) (F.go mMc_min) (by omega) (by omega) (by omega) (by omega) (F.dec hd) ?_
  have ha : mR a := ⟨hr.1, hr.2.1⟩
  have hb : mR b := ⟨hr.2.2.1, hr.2.2.2⟩
  have hv : (if Int32.ofInt b < Int32.ofInt a then Int32.ofInt b else Int32.ofInt a) = Int32.ofInt r := by
    rw [← hz]
    split
    · rename_i h
      have h := (mI_lt hb ha).mp h
      congr 1
      omega
    · rename_i h
      have h := mt (mI_lt hb ha).mpr h
      congr 1
      omega
  rw [hv]
  exact kk p l e R s m args below meth c Q base tb dC dI F E H locs cells slots ls hH hS hL hc hs
end MCX
