/-! THE LAYER'S JUDGEMENT: a method at a place with its locals, stack and state; its end and the rows of the instructions -/
/-- a method: its name, bytes, number of locals, answer, decoded instructions, and (the law alone) the script -/
abbrev mM : Type := MethodName × ByteArray × Nat × Option FieldType × List (Nat × Instr × Nat) × Option (Nat × (Nat → Int32))
abbrev mName (M : mM) : MethodName := M.1
abbrev mBytes (M : mM) : ByteArray := M.2.1
abbrev mNL (M : mM) : Nat := M.2.2.1
abbrev mRet (M : mM) : Option FieldType := M.2.2.2.1
abbrev mTab (M : mM) : List (Nat × Instr × Nat) := M.2.2.2.2.1
abbrev mScr (M : mM) : Option (Nat × (Nat → Int32)) := M.2.2.2.2.2
def mFix (M : mM) (d : Nat) (p : Program) (R : Room) (s : State) (m : MethodId) (args : Array Value) (meth : Method) (c : Code) (base : Nat) (tb : Nat → Nat) (dC : Nat → ClassId) (dI : Nat → Nat → Nat) : Prop :=
  p.tables.exec = Jvm.exec ∧ c.code = mBytes M ∧ c.maxLocals = mNL M ∧ s.vm.findClass (mName M).cls = some m.cls ∧ (∀ w ∈ mGood, w.before args s = true) ∧ d ≤ R.frames ∧ 34 * d ≤ R.locals ∧ mWs base tb dC dI s s.heap ∧ base ≤ s.heap.size ∧ (∀ q ∈ mTab M, decode (mBytes M) q.1 = .ok q.2) ∧ meth.name = (mName M).name ∧ ∀ q, mScr M = some q → va_X (tb 4) q.1 q.2 s s.heap ∧ tb 4 < s.heap.size ∧ ¬ mA base (tb 4)
/-- what an answer must be: nothing, an int, a boolean, a long, a float -/
def mRok (ret : Option FieldType) (v : Option mV) (i : Instr) : Prop := match v with
  | none => ret = none ∧ i = .return_
  | some (.inl z) => i = .ireturn ∧ (ret = some .int ∨ (ret = some .boolean ∧ (z = 0 ∨ z = 1)))
  | some (.inr (.inl _)) => i = .lreturn ∧ ret = some .long
  | some (.inr (.inr (.inr (.inl _)))) => i = .freturn ∧ ret = some .float
  | _ => False
def mEnd (M : mM) (p : Program) (l : Launch) (e : Env) (R : Room) (s : State) (m : MethodId) (args : Array Value) (below : List Frame) (meth : Method) (c : Code) (Q : State → Prop) (base : Nat) (tb : Nat → Nat) (dC : Nat → ClassId) (dI : Nat → Nat → Nat) (Qa : Option mV → mS → Prop) : Prop :=
  ∀ (v : Option mV) (g : mS) (H : Heap) (locs : List Loc) (cells slots pc : Nat) (i : Instr) (ls : Array Slot), Qa v g → mRok (mRet M) v i → decode (mBytes M) pc = .ok (i, 1) → mHp base dC dI s g H → va_S (mA base) s.heap H locs → cells ≤ R.cells → slots ≤ R.slots →
    W p l e R s m args below meth c H locs cells slots Q (F0 m pc ls ((v.map (mC base tb)).toList))
def mX (M : mM) (d : Nat) (Qa : Option mV → mS → Prop) (cb sb pc : Nat) (L : List (Option mV)) (S : List mV) (g : mS) : Prop :=
  ∀ (p : Program) (l : Launch) (e : Env) (R : Room) (s : State) (m : MethodId) (args : Array Value) (below : List Frame) (meth : Method) (c : Code) (Q : State → Prop) (base : Nat) (tb : Nat → Nat) (dC : Nat → ClassId) (dI : Nat → Nat → Nat),
    mFix M d p R s m args meth c base tb dC dI → mEnd M p l e R s m args below meth c Q base tb dC dI Qa →
    ∀ (H : Heap) (locs : List Loc) (cells slots : Nat) (ls : Array Slot), mHp base dC dI s g H → va_S (mA base) s.heap H locs → mLoc base tb (mNL M) ls L → cells + cb ≤ R.cells → slots + sb ≤ R.slots →
      W p l e R s m args below meth c H locs cells slots Q (F0 m pc ls (S.map (mC base tb)))
theorem mFix.dec {M : mM} {d : Nat} {p : Program} {R : Room} {s : State} {m : MethodId} {args : Array Value} {meth : Method} {c : Code} {base : Nat} {tb : Nat → Nat} {dC : Nat → ClassId} {dI : Nat → Nat → Nat} (F : mFix M d p R s m args meth c base tb dC dI) {j pc len : Nat} {i : Instr} (h : (mTab M)[j]? = some (pc, i, len)) : decode (mBytes M) pc = .ok (i, len) := by
  obtain ⟨-, -, -, -, -, -, -, -, -, h10, -⟩ := F
  exact h10 (pc, i, len) (List.mem_of_getElem? h)
theorem mFix.go {M : mM} {d : Nat} {p : Program} {R : Room} {s : State} {m : MethodId} {args : Array Value} {meth : Method} {c : Code} {base : Nat} {tb : Nat → Nat} {dC : Nat → ClassId} {dI : Nat → Nat → Nat} (F : mFix M d p R s m args meth c base tb dC dI) {w : Cond} (h : w ∈ mGood) : w.before args s = true := F.2.2.2.2.1 w h
/-! numbers: an int of the machine is the number it is, where that fits -/
def mR (a : Int) : Prop := -2147483648 ≤ a ∧ a < 2147483648
theorem mI_to {a : Int} (h : mR a) : (Int32.ofInt a).toInt = a := by
  obtain ⟨h1, h2⟩ := h
  rw [Int32.toInt_ofInt]
  exact Int.bmod_eq_of_le (by simp [Int32.size]; omega) (by simp [Int32.size]; omega)
theorem mI_eq {a b : Int} (ha : mR a) (hb : mR b) : (Int32.ofInt a = Int32.ofInt b) ↔ a = b := by
  constructor
  · intro h
    have := congrArg Int32.toInt h
    rwa [mI_to ha, mI_to hb] at this
  · rintro rfl; rfl
theorem mI_lt {a b : Int} (ha : mR a) (hb : mR b) : (Int32.ofInt a < Int32.ofInt b) ↔ a < b := by
  rw [Int32.lt_iff_toInt_lt, mI_to ha, mI_to hb]
theorem mI_le {a b : Int} (ha : mR a) (hb : mR b) : (Int32.ofInt a ≤ Int32.ofInt b) ↔ a ≤ b := by
  rw [Int32.le_iff_toInt_le, mI_to ha, mI_to hb]
theorem mI_of (x : Int32) : mI x.toInt = .int x := by simp [mI]
theorem mI_rg (x : Int32) : mR x.toInt := ⟨Int32.le_toInt x, Int32.toInt_lt x⟩
theorem mI_nat {a : Int} (h : mR a) (h0 : 0 ≤ a) : (Int32.ofInt a).toNatClampNeg = a.toNat := by
  show (Int32.ofInt a).toInt.toNat = a.toNat
  rw [mI_to h]
theorem mR0 : mR 0 := ⟨by decide, by decide⟩
theorem mI_in {a : Int} {n : Nat} (h0 : 0 ≤ a) (h1 : a < n) (h : mR a) : ¬ (Int32.ofInt a < 0 ∨ n ≤ (Int32.ofInt a).toNatClampNeg) := by
  rw [mI_nat h h0, show (0 : Int32) = Int32.ofInt 0 from rfl, mI_lt h mR0]
  omega
