/-! THE LAYER: values, the state of all objects by their numbers, and what a heap that holds it is -/
abbrev mV : Type := Int ⊕ (BitVec 64 ⊕ (Option Nat ⊕ (UInt32 ⊕ (UInt64 ⊕ Nat))))
abbrev vI (z : Int) : mV := .inl z
abbrev vL (b : BitVec 64) : mV := .inr (.inl b)
abbrev vR (r : Option Nat) : mV := .inr (.inr (.inl r))
abbrev vF (x : UInt32) : mV := .inr (.inr (.inr (.inl x)))
abbrev vD (x : UInt64) : mV := .inr (.inr (.inr (.inr (.inl x))))
abbrev vT (t : Nat) : mV := .inr (.inr (.inr (.inr (.inr t))))
abbrev mI (z : Int) : Value := .int (Int32.ofInt z)
def mC (base : Nat) (tb : Nat → Nat) : mV → Value
  | .inl z => mI z
  | .inr (.inl b) => .long (Int64.ofBitVec b)
  | .inr (.inr (.inl none)) => .null
  | .inr (.inr (.inl (some k))) => .ref (base + k)
  | .inr (.inr (.inr (.inl x))) => .float x
  | .inr (.inr (.inr (.inr (.inl x)))) => .double x
  | .inr (.inr (.inr (.inr (.inr t)))) => .ref (tb t)
def mCat : mV → Nat
  | .inr (.inl _) => 2
  | .inr (.inr (.inr (.inr (.inl _)))) => 2
  | _ => 1
theorem mC_cat (base : Nat) (tb : Nat → Nat) (v : mV) : (mC base tb v).category = mCat v := by
  rcases v with z | b | (_ | k) | x | x | t <;> rfl
/-- numbers of objects; a kind an object: its class's place in vwCl, or an array's kind (0 int, 1 long, 2 boolean, 3 Singer, 4 Choir) and length; ints, longs and references by object and place -/
abbrev mS : Type := Nat × (Nat → Nat ⊕ (Nat × Nat)) × (Nat → Int → Int) × (Nat → Int → BitVec 64) × (Nat → Int → Option Nat)
abbrev sN (g : mS) : Nat := g.1
abbrev sK (g : mS) : Nat → Nat ⊕ (Nat × Nat) := g.2.1
abbrev sI (g : mS) : Nat → Int → Int := g.2.2.1
abbrev sL (g : mS) : Nat → Int → BitVec 64 := g.2.2.2.1
abbrev sR (g : mS) : Nat → Int → Option Nat := g.2.2.2.2
def mU {α : Type} (f : Nat → Int → α) (o : Nat) (k : Int) (x : α) : Nat → Int → α := fun a b => if a = o ∧ b = k then x else f a b
abbrev sPutI (g : mS) (o : Nat) (k : Int) (z : Int) : mS := (g.1, g.2.1, mU g.2.2.1 o k z, g.2.2.2.1, g.2.2.2.2)
abbrev sPutL (g : mS) (o : Nat) (k : Int) (z : BitVec 64) : mS := (g.1, g.2.1, g.2.2.1, mU g.2.2.2.1 o k z, g.2.2.2.2)
abbrev sPutR (g : mS) (o : Nat) (k : Int) (z : Option Nat) : mS := (g.1, g.2.1, g.2.2.1, g.2.2.2.1, mU g.2.2.2.2 o k z)
/-- a new object of a kind, all of it at its first values -/
abbrev sNew (g : mS) (kd : Nat ⊕ (Nat × Nat)) : mS := (g.1 + 1, fun a => if a = g.1 then kd else g.2.1 a, fun a b => if a = g.1 then 0 else g.2.2.1 a b, fun a b => if a = g.1 then 0 else g.2.2.2.1 a b, fun a b => if a = g.1 then none else g.2.2.2.2 a b)
def mTy (ci : Nat) : Nat → FieldType := match ci with
  | 0 => tyX0 | 1 => tyX1 | 2 => tyX2 | 3 => tyX3 | 4 => tyX4 | 5 => tyX5 | 6 => tyX6 | 7 => tyX7 | 8 => tyX8 | _ => tyX9
/-- how a type is kept: 0 int, 1 long, 2 reference -/
def mTc : FieldType → Nat
  | .int => 0
  | .boolean => 0
  | .long => 1
  | _ => 2
def mAT (t : Nat) : FieldType := match t with
  | 0 => .int | 1 => .long | 2 => .boolean | 3 => .object RX5 | _ => .object RX0
def mRv (base : Nat) (r : Option Nat) : Value := match r with
  | none => .null
  | some k => .ref (base + k)
def mVal (base c : Nat) (g : mS) (o k : Nat) : Value := match c with
  | 0 => mI (sI g o (k : Int))
  | 1 => .long (Int64.ofBitVec (sL g o (k : Int)))
  | _ => mRv base (sR g o (k : Int))
theorem mVal0 (base : Nat) (g : mS) (o k : Nat) : mVal base 0 g o k = mI (sI g o (k : Int)) := rfl
theorem mVal1 (base : Nat) (g : mS) (o k : Nat) : mVal base 1 g o k = .long (Int64.ofBitVec (sL g o (k : Int))) := rfl
theorem mVal2 (base : Nat) (g : mS) (o k : Nat) : mVal base 2 g o k = mRv base (sR g o (k : Int)) := rfl
def mCell (base : Nat) (dC : Nat → ClassId) (dI : Nat → Nat → Nat) (U : State) (g : mS) (H : Heap) (o : Nat) : Prop := match sK g o with
  | .inl ci => ∃ q : vw_C, vwCl[ci]? = some q ∧ t_OB (base + o) (dC ci) q.2.2 (dI ci) H (fun k => mVal base (mTc (mTy ci k)) g o k)
  | .inr (t, n) => ∃ cA : ClassId, ArrOfT U cA (mAT t) ∧ va_RA U cA (mAT t) ∧ H[base + o]? = some (arrV cA n (fun k => mVal base (mTc (mAT t)) g o k))
/-- the heap H holds the state g, from the address base on -/
def mHp (base : Nat) (dC : Nat → ClassId) (dI : Nat → Nat → Nat) (U : State) (g : mS) (H : Heap) : Prop := H.size = base + sN g ∧ ∀ o : Nat, o < sN g → mCell base dC dI U g H o
/-- the four tables of the system's statics -/
def mTN (t : Nat) : String × String := match t with
  | 0 => ("ChoirBook", "SETTING_LEAST") | 1 => ("ChoirBook", "SETTING_MOST") | 2 => ("ChoirBook", "SETTING_FIRST") | _ => ("ChoirBook", "LOWEST_NOTE")
def mTF (t : Nat) (k : Nat) : Int := match t with
  | 0 => [1, 1, 0, 1].getD k 0 | 1 => [15, 50, 10, 6].getD k 0 | 2 => [12, 5, 1, 4].getD k 0 | _ => [22, 16, 10, 4].getD k 0
abbrev mA (base : Nat) : Nat → Prop := fun q => base ≤ q
def mGood : List Cond := lw_tbl.filter goodWord
theorem mIn {w : Cond} (i : Nat) (h : lw_tbl[i]? = some w) (hg : goodWord w = true) : w ∈ mGood := List.mem_filter.mpr ⟨List.mem_of_getElem? h, hg⟩
def mNest : List Cond := [.methodLinkNest "ChoirBook$Choir" 17 yX5_init "ChoirBook", .methodLinkNest "ChoirBook$Singer" 51 yX8_contains "ChoirBook", .methodLinkNest "ChoirBook$Placing" 72 yX8_contains "ChoirBook", .methodLinkNest "ChoirBook$Split" 22 yX8_contains "ChoirBook", .methodLinkNest "ChoirBook$Rehearsal" 62 yX8_isPart "ChoirBook", .fieldLinkNest "ChoirBook$Choir" 22 "ChoirBook" "SETTING_FIRST" "[I" "ChoirBook", .fieldLinkNest "ChoirBook$Singer" 55 "ChoirBook" "LOWEST_NOTE" "[I" "ChoirBook"]
/-- what the tables say wherever a method begins -/
def mWs (base : Nat) (tb : Nat → Nat) (dC : Nat → ClassId) (dI : Nat → Nat → Nat) (U : State) (H : Heap) : Prop :=
  va_K (dC, dI) vwCl [] U ∧ (∀ t : Nat, t < 4 → va_Z (mTN t).1 (mTN t).2 "[I" (.ref (tb t)) (mA base) U H ∧ va_T .int (tb t) 4 (fun k => mI (mTF t k)) (mA base) U H) ∧ (∀ w ∈ mNest, va_Nw w U) ∧ va_AO RX5 U ∧ va_AO RX0 U
theorem mNest_on : ∀ w ∈ mNest, w.onTables = true := by decide +kernel
theorem mWs.kept {base : Nat} {tb : Nat → Nat} {dC : Nat → ClassId} {dI : Nat → Nat → Nat} {U : State} {H H1 : Heap} (h : mWs base tb dC dI U H) (hq : ∀ a : Nat, a < H.size → ¬ mA base a → H1[a]? = H[a]?) : mWs base tb dC dI U H1 :=
  ⟨h.1, fun t ht => ⟨(h.2.1 t ht).1.kept hq, (h.2.1 t ht).2.kept hq⟩, h.2.2⟩
theorem mWs.moved {base : Nat} {tb : Nat → Nat} {dC : Nat → ClassId} {dI : Nat → Nat → Nat} {s U : State} {H : Heap} (hW : s.WarmedH U.vm) (h : mWs base tb dC dI s H) : mWs base tb dC dI U H := by
  obtain ⟨h1, h2, h3, h4, h5⟩ := h
  refine ⟨va_K.moved hW.alike h1, fun t ht => ⟨va_Z.moved hW.alike (h2 t ht).1, va_T.moved hW.alike (h2 t ht).2⟩, ?_, va_AO.moved hW.alike h4, va_AO.moved hW.alike h5⟩
  intro w hw
  have hz := h3 w hw
  simp only [mNest, List.mem_cons, List.not_mem_nil, or_false] at hw
  rcases hw with rfl | rfl | rfl | rfl | rfl | rfl | rfl
  all_goals first | exact va_Nw.warmM hW hz | exact va_Nw.warmF hW hz
theorem mWs.same {base : Nat} {tb : Nat → Nat} {dC : Nat → ClassId} {dI : Nat → Nat → Nat} {u U : State} {H : Heap} (hv : u.vm = U.vm) (h : mWs base tb dC dI u H) : mWs base tb dC dI U H := by
  have hal : u.vm.Alike U.vm := by rw [hv]; exact Vm.Alike.refl _
  obtain ⟨h1, h2, h3, h4, h5⟩ := h
  exact ⟨va_K.moved hal h1, fun t ht => ⟨va_Z.moved hal (h2 t ht).1, va_T.moved hal (h2 t ht).2⟩, fun w hw => va_Nw.same (mNest_on w hw) hv (h3 w hw), va_AO.moved hal h4, va_AO.moved hal h5⟩
theorem mCell.moved {base : Nat} {dC : Nat → ClassId} {dI : Nat → Nat → Nat} {u U : State} {g : mS} {H : Heap} {o : Nat} (hal : u.vm.Alike U.vm) (h : mCell base dC dI u g H o) : mCell base dC dI U g H o := by
  unfold mCell at h ⊢
  split
  · rename_i ci e
    simp only [e] at h
    exact h
  · rename_i t n e
    simp only [e] at h
    obtain ⟨cA, h1, h2, h3⟩ := h
    exact ⟨cA, arrOfT_moved hal h1, h2.moved hal, h3⟩
theorem mHp.moved {base : Nat} {dC : Nat → ClassId} {dI : Nat → Nat → Nat} {u U : State} {g : mS} {H : Heap} (hal : u.vm.Alike U.vm) (h : mHp base dC dI u g H) : mHp base dC dI U g H := ⟨h.1, fun o ho => (h.2 o ho).moved hal⟩
def mW (base : Nat) (tb : Nat → Nat) (dC : Nat → ClassId) (dI : Nat → Nat → Nat) (g : mS) (U : State) : Prop := mWs base tb dC dI U U.heap ∧ mHp base dC dI U g U.heap
/-- locals by place -/
def mLoc (base : Nat) (tb : Nat → Nat) (nL : Nat) (ls : Array Slot) (L : List (Option mV)) : Prop := ls.size = nL ∧ lv_wf ls ∧ ∀ (i : Nat) (v : mV), L[i]? = some (some v) → ls[i]? = some (.val (mC base tb v))
def mNW (L : List (Option mV)) (i : Nat) : Bool := match i with
  | 0 => true
  | j + 1 => match L[j]? with
    | some (some v) => mCat v == 1
    | _ => true
def mLst (base : Nat) (tb : Nat → Nat) (L : List (Option mV)) : List (Nat × Value) := (List.range L.length).filterMap (fun i => match L[i]? with | some (some v) => some (i, mC base tb v) | _ => none)
theorem mLst_mem {base : Nat} {tb : Nat → Nat} {L : List (Option mV)} {q : Nat × Value} : q ∈ mLst base tb L ↔ ∃ v, L[q.1]? = some (some v) ∧ q.2 = mC base tb v := by
  unfold mLst
  rw [List.mem_filterMap]
  constructor
  · rintro ⟨i, -, h⟩
    split at h
    · rename_i v e
      cases h
      exact ⟨v, e, rfl⟩
    · cases h
  · rintro ⟨v, h1, h2⟩
    refine ⟨q.1, List.mem_range.mpr (List.getElem?_eq_some_iff.mp h1).1, ?_⟩
    rw [h1]
    obtain ⟨a, b⟩ := q
    simp only at h2 ⊢
    rw [h2]
theorem mLoc.has {base : Nat} {tb : Nat → Nat} {nL : Nat} {ls : Array Slot} {L : List (Option mV)} (h : mLoc base tb nL ls L) : lv_has ls nL (mLst base tb L) := by
  refine ⟨h.1, h.2.1, fun q hq => ?_⟩
  obtain ⟨v, h1, h2⟩ := mLst_mem.mp hq
  rw [h2]
  exact h.2.2 _ _ h1
/-- behind a store of one word at i -/
theorem mLoc.st1 {base : Nat} {tb : Nat → Nat} {nL : Nat} {L L' : List (Option mV)} {i : Nat} {v : mV} {ls' : Array Slot} {lv' : List (Nat × Value)} (hw : mNW L i = true) (hL : L.set i (some v) = L')
    (hl : (i, mC base tb v) :: (mLst base tb L).filter (fun q => !(q.1 == i) && !(q.1 + 1 == i && q.2.category == 2)) = lv') (h' : lv_has ls' nL lv') : mLoc base tb nL ls' L' := by
  refine ⟨h'.1, h'.2.1, fun j w hj => h'.2.2 (j, mC base tb w) ?_⟩
  subst hL; subst hl
  rw [List.getElem?_set] at hj
  by_cases hij : i = j
  · subst hij
    rw [if_pos rfl] at hj
    split at hj
    · cases hj
      exact List.mem_cons_self
    · cases hj
  · rw [if_neg hij] at hj
    refine List.mem_cons_of_mem _ (List.mem_filter.mpr ⟨mLst_mem.mpr ⟨w, hj, rfl⟩, ?_⟩)
    have h1 : (j == i) = false := by simp; omega
    simp only [h1, Bool.not_false, Bool.true_and, Bool.not_eq_true', Bool.and_eq_false_iff]
    by_cases hji : j + 1 = i
    · right
      subst hji
      simp only [mNW, hj, beq_iff_eq] at hw
      rw [mC_cat, hw]
      rfl
    · left
      simp [hji]
/-- behind a store of two words at i -/
theorem mLoc.st2 {base : Nat} {tb : Nat → Nat} {nL : Nat} {L L' : List (Option mV)} {i : Nat} {v : mV} {ls' : Array Slot} {lv' : List (Nat × Value)} (hw : mNW L i = true) (hL : (L.set i (some v)).set (i + 1) none = L')
    (hl : (i, mC base tb v) :: (mLst base tb L).filter (fun q => !(q.1 == i) && (!(q.1 == i + 1) && !(q.1 + 1 == i && q.2.category == 2))) = lv') (h' : lv_has ls' nL lv') : mLoc base tb nL ls' L' := by
  refine ⟨h'.1, h'.2.1, fun j w hj => h'.2.2 (j, mC base tb w) ?_⟩
  subst hL; subst hl
  rw [List.getElem?_set] at hj
  by_cases hi1 : i + 1 = j
  · subst hi1
    rw [if_pos rfl] at hj
    split at hj <;> cases hj
  rw [if_neg hi1, List.getElem?_set] at hj
  by_cases hij : i = j
  · subst hij
    rw [if_pos rfl] at hj
    split at hj
    · cases hj
      exact List.mem_cons_self
    · cases hj
  · rw [if_neg hij] at hj
    refine List.mem_cons_of_mem _ (List.mem_filter.mpr ⟨mLst_mem.mpr ⟨w, hj, rfl⟩, ?_⟩)
    have h1 : (j == i) = false := by simp; omega
    have h2 : (j == i + 1) = false := by simp; omega
    simp only [h1, h2, Bool.not_false, Bool.true_and, Bool.not_eq_true', Bool.and_eq_false_iff]
    by_cases hji : j + 1 = i
    · right
      subst hji
      simp only [mNW, hj, beq_iff_eq] at hw
      rw [mC_cat, hw]
      rfl
    · left
      simp [hji]
theorem mLoc.drop {base : Nat} {tb : Nat → Nat} {nL : Nat} {ls : Array Slot} {L L' : List (Option mV)} (h : mLoc base tb nL ls L) (hs : ∀ (i : Nat) (v : mV), L'[i]? = some (some v) → L[i]? = some (some v)) : mLoc base tb nL ls L' := ⟨h.1, h.2.1, fun i v hi => h.2.2 i v (hs i v hi)⟩
