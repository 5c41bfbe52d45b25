/-! rows: constants, locals, arithmetic, branches -/
/-- some of the locals forgotten -/
def mSubL : List (Option mV) → List (Option mV) → Prop
  | [], _ => True
  | none :: t, _ :: u => mSubL t u
  | some v :: t, w :: u => w = some v ∧ mSubL t u
  | _ :: _, [] => False
theorem mSubL_at : ∀ (L' L : List (Option mV)), mSubL L' L → ∀ (i : Nat) (v : mV), L'[i]? = some (some v) → L[i]? = some (some v)
  | [], L, _, i, v, h => by simp at h
  | none :: t, [], h, i, v, h1 => h.elim
  | some w :: t, [], h, i, v, h1 => h.elim
  | none :: t, w :: u, h, 0, v, h1 => by simp at h1
  | none :: t, w :: u, h, i + 1, v, h1 => mSubL_at t u h i v h1
  | some x :: t, w :: u, h, 0, v, h1 => by
    obtain ⟨rfl, -⟩ := h
    exact h1
  | some x :: t, w :: u, h, i + 1, v, h1 => mSubL_at t u h.2 i v h1
section MX
variable {M : mM} {d cb sb pc : Nat} {Qa : Option mV → mS → Prop} {L : List (Option mV)} {S : List mV} {g : mS}
theorem x_iconst (j : Nat) {n : Int} (hd : (mTab M)[j]? = some (pc, .iconst n, 1)) (k : mX M d Qa cb sb (pc + 1) L (vI n :: S) g) : mX M d Qa cb sb pc L (S) g := by
  intro p l e R s m args below meth c Q base tb dC dI F E H locs cells slots ls hH hS hL hc hs
  exact lv_iconst F.1 F.2.1 (F.dec hd) rfl (k p l e R s m args below meth c Q base tb dC dI F E H locs cells slots ls hH hS hL hc hs)
theorem x_bipush (j : Nat) {n : Int} (hd : (mTab M)[j]? = some (pc, .bipush n, 2)) (hv : (Int8.ofInt n).toInt32 = Int32.ofInt n) (k : mX M d Qa cb sb (pc + 2) L (vI n :: S) g) : mX M d Qa cb sb pc L (S) g := by
  intro p l e R s m args below meth c Q base tb dC dI F E H locs cells slots ls hH hS hL hc hs
  exact lv_bipush F.1 F.2.1 (F.dec hd) hv (k p l e R s m args below meth c Q base tb dC dI F E H locs cells slots ls hH hS hL hc hs)
theorem x_sipush (j : Nat) {n : Int} (hd : (mTab M)[j]? = some (pc, .sipush n, 3)) (hv : (Int16.ofInt n).toInt32 = Int32.ofInt n) (k : mX M d Qa cb sb (pc + 3) L (vI n :: S) g) : mX M d Qa cb sb pc L (S) g := by
  intro p l e R s m args below meth c Q base tb dC dI F E H locs cells slots ls hH hS hL hc hs
  exact lv_sipush F.1 F.2.1 (F.dec hd) hv (k p l e R s m args below meth c Q base tb dC dI F E H locs cells slots ls hH hS hL hc hs)
theorem x_lconst (j : Nat) {n : Fin 2} {v : BitVec 64} (hd : (mTab M)[j]? = some (pc, .lconst n, 1)) (hv : BitVec.ofNat 64 (n : Nat) = v) (k : mX M d Qa cb sb (pc + 1) L (vL v :: S) g) : mX M d Qa cb sb pc L (S) g := by
  intro p l e R s m args below meth c Q base tb dC dI F E H locs cells slots ls hH hS hL hc hs
  subst hv
  exact lv_lconst F.1 F.2.1 (F.dec hd) rfl (k p l e R s m args below meth c Q base tb dC dI F E H locs cells slots ls hH hS hL hc hs)
theorem x_iload_n (j : Nat) {i : Fin 4} {z : Int} (hd : (mTab M)[j]? = some (pc, .iload_n i, 1)) (hl : L[(i : Nat)]? = some (some (vI z))) (k : mX M d Qa cb sb (pc + 1) L (vI z :: S) g) : mX M d Qa cb sb pc L (S) g := by
  intro p l e R s m args below meth c Q base tb dC dI F E H locs cells slots ls hH hS hL hc hs
  exact lv_iload_n F.1 F.2.1 (F.dec hd) rfl (hL.2.2 _ _ hl) (k p l e R s m args below meth c Q base tb dC dI F E H locs cells slots ls hH hS hL hc hs)
theorem x_iload (j : Nat) {i : Nat} {z : Int} (hd : (mTab M)[j]? = some (pc, .iload i, 2)) (hl : L[i]? = some (some (vI z))) (k : mX M d Qa cb sb (pc + 2) L (vI z :: S) g) : mX M d Qa cb sb pc L (S) g := by
  intro p l e R s m args below meth c Q base tb dC dI F E H locs cells slots ls hH hS hL hc hs
  exact lv_iload F.1 F.2.1 (F.dec hd) (hL.2.2 _ _ hl) (k p l e R s m args below meth c Q base tb dC dI F E H locs cells slots ls hH hS hL hc hs)
theorem x_lload_n (j : Nat) {i : Fin 4} {z : BitVec 64} (hd : (mTab M)[j]? = some (pc, .lload_n i, 1)) (hl : L[(i : Nat)]? = some (some (vL z))) (k : mX M d Qa cb sb (pc + 1) L (vL z :: S) g) : mX M d Qa cb sb pc L (S) g := by
  intro p l e R s m args below meth c Q base tb dC dI F E H locs cells slots ls hH hS hL hc hs
  exact lv_lload_n F.1 F.2.1 (F.dec hd) rfl (hL.2.2 _ _ hl) (k p l e R s m args below meth c Q base tb dC dI F E H locs cells slots ls hH hS hL hc hs)
theorem x_lload (j : Nat) {i : Nat} {z : BitVec 64} (hd : (mTab M)[j]? = some (pc, .lload i, 2)) (hl : L[i]? = some (some (vL z))) (k : mX M d Qa cb sb (pc + 2) L (vL z :: S) g) : mX M d Qa cb sb pc L (S) g := by
  intro p l e R s m args below meth c Q base tb dC dI F E H locs cells slots ls hH hS hL hc hs
  exact lv_lload F.1 F.2.1 (F.dec hd) (hL.2.2 _ _ hl) (k p l e R s m args below meth c Q base tb dC dI F E H locs cells slots ls hH hS hL hc hs)
theorem x_aload_n (j : Nat) {i : Fin 4} {z : Nat} (hd : (mTab M)[j]? = some (pc, .aload_n i, 1)) (hl : L[(i : Nat)]? = some (some (vR (some z)))) (k : mX M d Qa cb sb (pc + 1) L (vR (some z) :: S) g) : mX M d Qa cb sb pc L (S) g := by
  intro p l e R s m args below meth c Q base tb dC dI F E H locs cells slots ls hH hS hL hc hs
  exact lv_aload_n F.1 F.2.1 (F.dec hd) rfl (hL.2.2 _ _ hl) (k p l e R s m args below meth c Q base tb dC dI F E H locs cells slots ls hH hS hL hc hs)
theorem x_aload (j : Nat) {i : Nat} {z : Nat} (hd : (mTab M)[j]? = some (pc, .aload i, 2)) (hl : L[i]? = some (some (vR (some z)))) (k : mX M d Qa cb sb (pc + 2) L (vR (some z) :: S) g) : mX M d Qa cb sb pc L (S) g := by
  intro p l e R s m args below meth c Q base tb dC dI F E H locs cells slots ls hH hS hL hc hs
  exact lv_aload F.1 F.2.1 (F.dec hd) (hL.2.2 _ _ hl) (k p l e R s m args below meth c Q base tb dC dI F E H locs cells slots ls hH hS hL hc hs)
theorem x_tload_n (j : Nat) {i : Fin 4} {z : Nat} (hd : (mTab M)[j]? = some (pc, .aload_n i, 1)) (hl : L[(i : Nat)]? = some (some (vT z))) (k : mX M d Qa cb sb (pc + 1) L (vT z :: S) g) : mX M d Qa cb sb pc L (S) g := by
  intro p l e R s m args below meth c Q base tb dC dI F E H locs cells slots ls hH hS hL hc hs
  exact lv_aload_n F.1 F.2.1 (F.dec hd) rfl (hL.2.2 _ _ hl) (k p l e R s m args below meth c Q base tb dC dI F E H locs cells slots ls hH hS hL hc hs)
theorem x_tload (j : Nat) {i : Nat} {z : Nat} (hd : (mTab M)[j]? = some (pc, .aload i, 2)) (hl : L[i]? = some (some (vT z))) (k : mX M d Qa cb sb (pc + 2) L (vT z :: S) g) : mX M d Qa cb sb pc L (S) g := by
  intro p l e R s m args below meth c Q base tb dC dI F E H locs cells slots ls hH hS hL hc hs
  exact lv_aload F.1 F.2.1 (F.dec hd) (hL.2.2 _ _ hl) (k p l e R s m args below meth c Q base tb dC dI F E H locs cells slots ls hH hS hL hc hs)
theorem x_dload (j : Nat) {i : Nat} {z : UInt64} (hd : (mTab M)[j]? = some (pc, .dload i, 2)) (hl : L[i]? = some (some (vD z))) (k : mX M d Qa cb sb (pc + 2) L (vD z :: S) g) : mX M d Qa cb sb pc L (S) g := by
  intro p l e R s m args below meth c Q base tb dC dI F E H locs cells slots ls hH hS hL hc hs
  exact lv_dload F.1 F.2.1 (F.dec hd) (hL.2.2 _ _ hl) (k p l e R s m args below meth c Q base tb dC dI F E H locs cells slots ls hH hS hL hc hs)
theorem x_istore_n (j : Nat) {L' : List (Option mV)} {i : Fin 4} {z : Int} (hd : (mTab M)[j]? = some (pc, .istore_n i, 1)) (hn : (i : Nat) < mNL M) (hw : mNW L (i : Nat) = true) (hl : L.set (i : Nat) (some (vI z)) = L') (k : mX M d Qa cb sb (pc + 1) L' S g) : mX M d Qa cb sb pc L (vI z :: S) g := by
  intro p l e R s m args below meth c Q base tb dC dI F E H locs cells slots ls hH hS hL hc hs
  exact lv_istore_n (lv' := _) F.1 F.2.1 (F.dec hd) rfl hL.has hn rfl (fun ls' h' => k p l e R s m args below meth c Q base tb dC dI F E H locs cells slots ls' hH hS (mLoc.st1 hw hl rfl h') hc hs)
theorem x_istore (j : Nat) {L' : List (Option mV)} {i : Nat} {z : Int} (hd : (mTab M)[j]? = some (pc, .istore i, 2)) (hn : i < mNL M) (hw : mNW L i = true) (hl : L.set i (some (vI z)) = L') (k : mX M d Qa cb sb (pc + 2) L' S g) : mX M d Qa cb sb pc L (vI z :: S) g := by
  intro p l e R s m args below meth c Q base tb dC dI F E H locs cells slots ls hH hS hL hc hs
  exact lv_istore (lv' := _) F.1 F.2.1 (F.dec hd) hL.has hn rfl (fun ls' h' => k p l e R s m args below meth c Q base tb dC dI F E H locs cells slots ls' hH hS (mLoc.st1 hw hl rfl h') hc hs)
theorem x_lstore_n (j : Nat) {L' : List (Option mV)} {i : Fin 4} {z : BitVec 64} (hd : (mTab M)[j]? = some (pc, .lstore_n i, 1)) (hn : (i : Nat) + 1 < mNL M) (hw : mNW L (i : Nat) = true) (hl : (L.set (i : Nat) (some (vL z))).set ((i : Nat) + 1) none = L') (k : mX M d Qa cb sb (pc + 1) L' S g) : mX M d Qa cb sb pc L (vL z :: S) g := by
  intro p l e R s m args below meth c Q base tb dC dI F E H locs cells slots ls hH hS hL hc hs
  exact lv_lstore_n (lv' := _) F.1 F.2.1 (F.dec hd) rfl hL.has hn rfl (fun ls' h' => k p l e R s m args below meth c Q base tb dC dI F E H locs cells slots ls' hH hS (mLoc.st2 hw hl rfl h') hc hs)
theorem x_lstore (j : Nat) {L' : List (Option mV)} {i : Nat} {z : BitVec 64} (hd : (mTab M)[j]? = some (pc, .lstore i, 2)) (hn : i + 1 < mNL M) (hw : mNW L i = true) (hl : (L.set i (some (vL z))).set (i + 1) none = L') (k : mX M d Qa cb sb (pc + 2) L' S g) : mX M d Qa cb sb pc L (vL z :: S) g := by
  intro p l e R s m args below meth c Q base tb dC dI F E H locs cells slots ls hH hS hL hc hs
  exact lv_lstore (lv' := _) F.1 F.2.1 (F.dec hd) hL.has hn rfl (fun ls' h' => k p l e R s m args below meth c Q base tb dC dI F E H locs cells slots ls' hH hS (mLoc.st2 hw hl rfl h') hc hs)
theorem x_astore_n (j : Nat) {L' : List (Option mV)} {i : Fin 4} {z : Nat} (hd : (mTab M)[j]? = some (pc, .astore_n i, 1)) (hn : (i : Nat) < mNL M) (hw : mNW L (i : Nat) = true) (hl : L.set (i : Nat) (some (vR (some z))) = L') (k : mX M d Qa cb sb (pc + 1) L' S g) : mX M d Qa cb sb pc L (vR (some z) :: S) g := by
  intro p l e R s m args below meth c Q base tb dC dI F E H locs cells slots ls hH hS hL hc hs
  exact lv_astore_n (lv' := _) F.1 F.2.1 (F.dec hd) rfl hL.has hn rfl (fun ls' h' => k p l e R s m args below meth c Q base tb dC dI F E H locs cells slots ls' hH hS (mLoc.st1 hw hl rfl h') hc hs)
theorem x_astore (j : Nat) {L' : List (Option mV)} {i : Nat} {z : Nat} (hd : (mTab M)[j]? = some (pc, .astore i, 2)) (hn : i < mNL M) (hw : mNW L i = true) (hl : L.set i (some (vR (some z))) = L') (k : mX M d Qa cb sb (pc + 2) L' S g) : mX M d Qa cb sb pc L (vR (some z) :: S) g := by
  intro p l e R s m args below meth c Q base tb dC dI F E H locs cells slots ls hH hS hL hc hs
  exact lv_astore (lv' := _) F.1 F.2.1 (F.dec hd) hL.has hn rfl (fun ls' h' => k p l e R s m args below meth c Q base tb dC dI F E H locs cells slots ls' hH hS (mLoc.st1 hw hl rfl h') hc hs)
theorem x_dstore (j : Nat) {L' : List (Option mV)} {i : Nat} {z : UInt64} (hd : (mTab M)[j]? = some (pc, .dstore i, 2)) (hn : i + 1 < mNL M) (hw : mNW L i = true) (hl : (L.set i (some (vD z))).set (i + 1) none = L') (k : mX M d Qa cb sb (pc + 2) L' S g) : mX M d Qa cb sb pc L (vD z :: S) g := by
  intro p l e R s m args below meth c Q base tb dC dI F E H locs cells slots ls hH hS hL hc hs
  exact lv_dstore (lv' := _) F.1 F.2.1 (F.dec hd) hL.has hn rfl (fun ls' h' => k p l e R s m args below meth c Q base tb dC dI F E H locs cells slots ls' hH hS (mLoc.st2 hw hl rfl h') hc hs)
theorem x_iinc (j : Nat) {L' : List (Option mV)} {i : Nat} {n z z' : Int} (hd : (mTab M)[j]? = some (pc, .iinc i n, 3)) (hn : i < mNL M) (hg : L[i]? = some (some (vI z))) (hz : z + n = z') (hw : mNW L i = true) (hl : L.set i (some (vI z')) = L') (k : mX M d Qa cb sb (pc + 3) L' S g) : mX M d Qa cb sb pc L S g := by
  intro p l e R s m args below meth c Q base tb dC dI F E H locs cells slots ls hH hS hL hc hs
  have hm : (i, mC base tb (vI z)) ∈ mLst base tb L := mLst_mem.mpr ⟨vI z, hg, rfl⟩
  obtain ⟨q, hq⟩ := List.getElem?_of_mem hm
  refine lv_iinc (k := q) (x := Int32.ofInt z) (v := Int32.ofInt z') (lv' := _) F.1 F.2.1 (F.dec hd) hL.has hq (by rw [← hz, Int32.ofInt_add]) hn rfl (fun ls' h' => ?_)
  exact k p l e R s m args below meth c Q base tb dC dI F E H locs cells slots ls' hH hS (mLoc.st1 (v := vI z') hw hl rfl h') hc hs
theorem x_iadd (j : Nat) {a b r : Int} (hd : (mTab M)[j]? = some (pc, .iadd, 1)) (hr : a + b = r) (k : mX M d Qa cb sb (pc + 1) L (vI r :: S) g) : mX M d Qa cb sb pc L (vI b :: vI a :: S) g := by
  intro p l e R s m args below meth c Q base tb dC dI F E H locs cells slots ls hH hS hL hc hs
  refine lv_iadd F.1 F.2.1 (F.dec hd) ?_
  rw [← Int32.ofInt_add, hr]
  exact (k p l e R s m args below meth c Q base tb dC dI F E H locs cells slots ls hH hS hL hc hs)
theorem x_isub (j : Nat) {a b r : Int} (hd : (mTab M)[j]? = some (pc, .isub, 1)) (hr : a - b = r) (k : mX M d Qa cb sb (pc + 1) L (vI r :: S) g) : mX M d Qa cb sb pc L (vI b :: vI a :: S) g := by
  intro p l e R s m args below meth c Q base tb dC dI F E H locs cells slots ls hH hS hL hc hs
  refine lv_isub F.1 F.2.1 (F.dec hd) ?_
  rw [← Int32.ofInt_sub, hr]
  exact (k p l e R s m args below meth c Q base tb dC dI F E H locs cells slots ls hH hS hL hc hs)
theorem x_imul (j : Nat) {a b r : Int} (hd : (mTab M)[j]? = some (pc, .imul, 1)) (hr : a * b = r) (k : mX M d Qa cb sb (pc + 1) L (vI r :: S) g) : mX M d Qa cb sb pc L (vI b :: vI a :: S) g := by
  intro p l e R s m args below meth c Q base tb dC dI F E H locs cells slots ls hH hS hL hc hs
  refine lv_imul F.1 F.2.1 (F.dec hd) ?_
  rw [← Int32.ofInt_mul, hr]
  exact (k p l e R s m args below meth c Q base tb dC dI F E H locs cells slots ls hH hS hL hc hs)
theorem x_ineg (j : Nat) {a r : Int} (hd : (mTab M)[j]? = some (pc, .ineg, 1)) (hr : -a = r) (k : mX M d Qa cb sb (pc + 1) L (vI r :: S) g) : mX M d Qa cb sb pc L (vI a :: S) g := by
  intro p l e R s m args below meth c Q base tb dC dI F E H locs cells slots ls hH hS hL hc hs
  refine lv_ineg F.1 F.2.1 (F.dec hd) ?_
  rw [← Int32.ofInt_neg, hr]
  exact (k p l e R s m args below meth c Q base tb dC dI F E H locs cells slots ls hH hS hL hc hs)
theorem x_dup (j : Nat) {v : mV} (hd : (mTab M)[j]? = some (pc, .dup, 1)) (hv : mCat v = 1) (k : mX M d Qa cb sb (pc + 1) L (v :: v :: S) g) : mX M d Qa cb sb pc L (v :: S) g := by
  intro p l e R s m args below meth c Q base tb dC dI F E H locs cells slots ls hH hS hL hc hs
  exact lv_dup F.1 F.2.1 (F.dec hd) (by rw [mC_cat, hv]) (k p l e R s m args below meth c Q base tb dC dI F E H locs cells slots ls hH hS hL hc hs)
theorem x_dup2 (j : Nat) {v w : mV} (hd : (mTab M)[j]? = some (pc, .dup2, 1)) (hv : mCat v = 1) (hw : mCat w = 1) (k : mX M d Qa cb sb (pc + 1) L (v :: w :: v :: w :: S) g) : mX M d Qa cb sb pc L (v :: w :: S) g := by
  intro p l e R s m args below meth c Q base tb dC dI F E H locs cells slots ls hH hS hL hc hs
  exact lv_dup2_11 F.1 F.2.1 (F.dec hd) (by rw [mC_cat, hv]) (by rw [mC_cat, hw]) (k p l e R s m args below meth c Q base tb dC dI F E H locs cells slots ls hH hS hL hc hs)
theorem x_icmp_eq (j : Nat) {off : Int} {tgt : Nat} {a b : Int} (hd : (mTab M)[j]? = some (pc, .if_icmp .eq off, 3)) (ht : (pc : Int) + off = (tgt : Int)) (hr : -2147483648 ≤ a ∧ a < 2147483648 ∧ -2147483648 ≤ b ∧ b < 2147483648) (kt : a = b → mX M d Qa cb sb tgt L S g) (kf : a ≠ b → mX M d Qa cb sb (pc + 3) L S g) : mX M d Qa cb sb pc L (vI b :: vI a :: S) g := by
  intro p l e R s m args below meth c Q base tb dC dI F E H locs cells slots ls hH hS hL hc hs
  have ha : mR a := ⟨hr.1, hr.2.1⟩
  have hb : mR b := ⟨hr.2.2.1, hr.2.2.2⟩
  have e1 := mI_eq ha hb
  have e2 := mI_lt ha hb
  have e3 := mI_lt hb ha
  have e4 := mI_le ha hb
  have e5 := mI_le hb ha
  refine lv_icmp_eq (x := Int32.ofInt a) (y := Int32.ofInt b) F.1 F.2.1 (F.dec hd) ht (fun h => kt ?_ p l e R s m args below meth c Q base tb dC dI F E H locs cells slots ls hH hS hL hc hs) (fun h => kf ?_ p l e R s m args below meth c Q base tb dC dI F E H locs cells slots ls hH hS hL hc hs)
  all_goals (try simp only [show (0 : Int32) = Int32.ofInt 0 from rfl] at h)
  all_goals (try simp only [ge_iff_le, gt_iff_lt, ne_eq, e1, e2, e3, e4, e5] at h ⊢)
  all_goals omega
theorem x_icmp_ne (j : Nat) {off : Int} {tgt : Nat} {a b : Int} (hd : (mTab M)[j]? = some (pc, .if_icmp .ne off, 3)) (ht : (pc : Int) + off = (tgt : Int)) (hr : -2147483648 ≤ a ∧ a < 2147483648 ∧ -2147483648 ≤ b ∧ b < 2147483648) (kt : a ≠ b → mX M d Qa cb sb tgt L S g) (kf : a = b → mX M d Qa cb sb (pc + 3) L S g) : mX M d Qa cb sb pc L (vI b :: vI a :: S) g := by
  intro p l e R s m args below meth c Q base tb dC dI F E H locs cells slots ls hH hS hL hc hs
  have ha : mR a := ⟨hr.1, hr.2.1⟩
  have hb : mR b := ⟨hr.2.2.1, hr.2.2.2⟩
  have e1 := mI_eq ha hb
  have e2 := mI_lt ha hb
  have e3 := mI_lt hb ha
  have e4 := mI_le ha hb
  have e5 := mI_le hb ha
  refine lv_icmp_ne (x := Int32.ofInt a) (y := Int32.ofInt b) F.1 F.2.1 (F.dec hd) ht (fun h => kt ?_ p l e R s m args below meth c Q base tb dC dI F E H locs cells slots ls hH hS hL hc hs) (fun h => kf ?_ p l e R s m args below meth c Q base tb dC dI F E H locs cells slots ls hH hS hL hc hs)
  all_goals (try simp only [show (0 : Int32) = Int32.ofInt 0 from rfl] at h)
  all_goals (try simp only [ge_iff_le, gt_iff_lt, ne_eq, e1, e2, e3, e4, e5] at h ⊢)
  all_goals omega
theorem x_icmp_lt (j : Nat) {off : Int} {tgt : Nat} {a b : Int} (hd : (mTab M)[j]? = some (pc, .if_icmp .lt off, 3)) (ht : (pc : Int) + off = (tgt : Int)) (hr : -2147483648 ≤ a ∧ a < 2147483648 ∧ -2147483648 ≤ b ∧ b < 2147483648) (kt : a < b → mX M d Qa cb sb tgt L S g) (kf : b ≤ a → mX M d Qa cb sb (pc + 3) L S g) : mX M d Qa cb sb pc L (vI b :: vI a :: S) g := by
  intro p l e R s m args below meth c Q base tb dC dI F E H locs cells slots ls hH hS hL hc hs
  have ha : mR a := ⟨hr.1, hr.2.1⟩
  have hb : mR b := ⟨hr.2.2.1, hr.2.2.2⟩
  have e1 := mI_eq ha hb
  have e2 := mI_lt ha hb
  have e3 := mI_lt hb ha
  have e4 := mI_le ha hb
  have e5 := mI_le hb ha
  refine lv_icmp_lt (x := Int32.ofInt a) (y := Int32.ofInt b) F.1 F.2.1 (F.dec hd) ht (fun h => kt ?_ p l e R s m args below meth c Q base tb dC dI F E H locs cells slots ls hH hS hL hc hs) (fun h => kf ?_ p l e R s m args below meth c Q base tb dC dI F E H locs cells slots ls hH hS hL hc hs)
  all_goals (try simp only [show (0 : Int32) = Int32.ofInt 0 from rfl] at h)
  all_goals (try simp only [ge_iff_le, gt_iff_lt, ne_eq, e1, e2, e3, e4, e5] at h ⊢)
  all_goals omega
theorem x_icmp_ge (j : Nat) {off : Int} {tgt : Nat} {a b : Int} (hd : (mTab M)[j]? = some (pc, .if_icmp .ge off, 3)) (ht : (pc : Int) + off = (tgt : Int)) (hr : -2147483648 ≤ a ∧ a < 2147483648 ∧ -2147483648 ≤ b ∧ b < 2147483648) (kt : b ≤ a → mX M d Qa cb sb tgt L S g) (kf : a < b → mX M d Qa cb sb (pc + 3) L S g) : mX M d Qa cb sb pc L (vI b :: vI a :: S) g := by
  intro p l e R s m args below meth c Q base tb dC dI F E H locs cells slots ls hH hS hL hc hs
  have ha : mR a := ⟨hr.1, hr.2.1⟩
  have hb : mR b := ⟨hr.2.2.1, hr.2.2.2⟩
  have e1 := mI_eq ha hb
  have e2 := mI_lt ha hb
  have e3 := mI_lt hb ha
  have e4 := mI_le ha hb
  have e5 := mI_le hb ha
  refine lv_icmp_ge (x := Int32.ofInt a) (y := Int32.ofInt b) F.1 F.2.1 (F.dec hd) ht (fun h => kt ?_ p l e R s m args below meth c Q base tb dC dI F E H locs cells slots ls hH hS hL hc hs) (fun h => kf ?_ p l e R s m args below meth c Q base tb dC dI F E H locs cells slots ls hH hS hL hc hs)
  all_goals (try simp only [show (0 : Int32) = Int32.ofInt 0 from rfl] at h)
  all_goals (try simp only [ge_iff_le, gt_iff_lt, ne_eq, e1, e2, e3, e4, e5] at h ⊢)
  all_goals omega
theorem x_icmp_gt (j : Nat) {off : Int} {tgt : Nat} {a b : Int} (hd : (mTab M)[j]? = some (pc, .if_icmp .gt off, 3)) (ht : (pc : Int) + off = (tgt : Int)) (hr : -2147483648 ≤ a ∧ a < 2147483648 ∧ -2147483648 ≤ b ∧ b < 2147483648) (kt : b < a → mX M d Qa cb sb tgt L S g) (kf : a ≤ b → mX M d Qa cb sb (pc + 3) L S g) : mX M d Qa cb sb pc L (vI b :: vI a :: S) g := by
  intro p l e R s m args below meth c Q base tb dC dI F E H locs cells slots ls hH hS hL hc hs
  have ha : mR a := ⟨hr.1, hr.2.1⟩
  have hb : mR b := ⟨hr.2.2.1, hr.2.2.2⟩
  have e1 := mI_eq ha hb
  have e2 := mI_lt ha hb
  have e3 := mI_lt hb ha
  have e4 := mI_le ha hb
  have e5 := mI_le hb ha
  refine lv_icmp_gt (x := Int32.ofInt a) (y := Int32.ofInt b) F.1 F.2.1 (F.dec hd) ht (fun h => kt ?_ p l e R s m args below meth c Q base tb dC dI F E H locs cells slots ls hH hS hL hc hs) (fun h => kf ?_ p l e R s m args below meth c Q base tb dC dI F E H locs cells slots ls hH hS hL hc hs)
  all_goals (try simp only [show (0 : Int32) = Int32.ofInt 0 from rfl] at h)
  all_goals (try simp only [ge_iff_le, gt_iff_lt, ne_eq, e1, e2, e3, e4, e5] at h ⊢)
  all_goals omega
theorem x_icmp_le (j : Nat) {off : Int} {tgt : Nat} {a b : Int} (hd : (mTab M)[j]? = some (pc, .if_icmp .le off, 3)) (ht : (pc : Int) + off = (tgt : Int)) (hr : -2147483648 ≤ a ∧ a < 2147483648 ∧ -2147483648 ≤ b ∧ b < 2147483648) (kt : a ≤ b → mX M d Qa cb sb tgt L S g) (kf : b < a → mX M d Qa cb sb (pc + 3) L S g) : mX M d Qa cb sb pc L (vI b :: vI a :: S) g := by
  intro p l e R s m args below meth c Q base tb dC dI F E H locs cells slots ls hH hS hL hc hs
  have ha : mR a := ⟨hr.1, hr.2.1⟩
  have hb : mR b := ⟨hr.2.2.1, hr.2.2.2⟩
  have e1 := mI_eq ha hb
  have e2 := mI_lt ha hb
  have e3 := mI_lt hb ha
  have e4 := mI_le ha hb
  have e5 := mI_le hb ha
  refine lv_icmp_le (x := Int32.ofInt a) (y := Int32.ofInt b) F.1 F.2.1 (F.dec hd) ht (fun h => kt ?_ p l e R s m args below meth c Q base tb dC dI F E H locs cells slots ls hH hS hL hc hs) (fun h => kf ?_ p l e R s m args below meth c Q base tb dC dI F E H locs cells slots ls hH hS hL hc hs)
  all_goals (try simp only [show (0 : Int32) = Int32.ofInt 0 from rfl] at h)
  all_goals (try simp only [ge_iff_le, gt_iff_lt, ne_eq, e1, e2, e3, e4, e5] at h ⊢)
  all_goals omega
theorem x_if_eq (j : Nat) {off : Int} {tgt : Nat} {a : Int} (hd : (mTab M)[j]? = some (pc, .ifCond .eq off, 3)) (ht : (pc : Int) + off = (tgt : Int)) (hr : -2147483648 ≤ a ∧ a < 2147483648) (kt : a = 0 → mX M d Qa cb sb tgt L S g) (kf : a ≠ 0 → mX M d Qa cb sb (pc + 3) L S g) : mX M d Qa cb sb pc L (vI a :: S) g := by
  intro p l e R s m args below meth c Q base tb dC dI F E H locs cells slots ls hH hS hL hc hs
  have ha : mR a := ⟨hr.1, hr.2⟩
  have hb : mR 0 := mR0
  have e1 := mI_eq ha hb
  have e2 := mI_lt ha hb
  have e3 := mI_lt hb ha
  have e4 := mI_le ha hb
  have e5 := mI_le hb ha
  refine lv_if_eq (x := Int32.ofInt a) F.1 F.2.1 (F.dec hd) ht (fun h => kt ?_ p l e R s m args below meth c Q base tb dC dI F E H locs cells slots ls hH hS hL hc hs) (fun h => kf ?_ p l e R s m args below meth c Q base tb dC dI F E H locs cells slots ls hH hS hL hc hs)
  all_goals (try simp only [show (0 : Int32) = Int32.ofInt 0 from rfl] at h)
  all_goals (try simp only [ge_iff_le, gt_iff_lt, ne_eq, e1, e2, e3, e4, e5] at h ⊢)
  all_goals omega
theorem x_if_ne (j : Nat) {off : Int} {tgt : Nat} {a : Int} (hd : (mTab M)[j]? = some (pc, .ifCond .ne off, 3)) (ht : (pc : Int) + off = (tgt : Int)) (hr : -2147483648 ≤ a ∧ a < 2147483648) (kt : a ≠ 0 → mX M d Qa cb sb tgt L S g) (kf : a = 0 → mX M d Qa cb sb (pc + 3) L S g) : mX M d Qa cb sb pc L (vI a :: S) g := by
  intro p l e R s m args below meth c Q base tb dC dI F E H locs cells slots ls hH hS hL hc hs
  have ha : mR a := ⟨hr.1, hr.2⟩
  have hb : mR 0 := mR0
  have e1 := mI_eq ha hb
  have e2 := mI_lt ha hb
  have e3 := mI_lt hb ha
  have e4 := mI_le ha hb
  have e5 := mI_le hb ha
  refine lv_if_ne (x := Int32.ofInt a) F.1 F.2.1 (F.dec hd) ht (fun h => kt ?_ p l e R s m args below meth c Q base tb dC dI F E H locs cells slots ls hH hS hL hc hs) (fun h => kf ?_ p l e R s m args below meth c Q base tb dC dI F E H locs cells slots ls hH hS hL hc hs)
  all_goals (try simp only [show (0 : Int32) = Int32.ofInt 0 from rfl] at h)
  all_goals (try simp only [ge_iff_le, gt_iff_lt, ne_eq, e1, e2, e3, e4, e5] at h ⊢)
  all_goals omega
theorem x_if_lt (j : Nat) {off : Int} {tgt : Nat} {a : Int} (hd : (mTab M)[j]? = some (pc, .ifCond .lt off, 3)) (ht : (pc : Int) + off = (tgt : Int)) (hr : -2147483648 ≤ a ∧ a < 2147483648) (kt : a < 0 → mX M d Qa cb sb tgt L S g) (kf : 0 ≤ a → mX M d Qa cb sb (pc + 3) L S g) : mX M d Qa cb sb pc L (vI a :: S) g := by
  intro p l e R s m args below meth c Q base tb dC dI F E H locs cells slots ls hH hS hL hc hs
  have ha : mR a := ⟨hr.1, hr.2⟩
  have hb : mR 0 := mR0
  have e1 := mI_eq ha hb
  have e2 := mI_lt ha hb
  have e3 := mI_lt hb ha
  have e4 := mI_le ha hb
  have e5 := mI_le hb ha
  refine lv_if_lt (x := Int32.ofInt a) F.1 F.2.1 (F.dec hd) ht (fun h => kt ?_ p l e R s m args below meth c Q base tb dC dI F E H locs cells slots ls hH hS hL hc hs) (fun h => kf ?_ p l e R s m args below meth c Q base tb dC dI F E H locs cells slots ls hH hS hL hc hs)
  all_goals (try simp only [show (0 : Int32) = Int32.ofInt 0 from rfl] at h)
  all_goals (try simp only [ge_iff_le, gt_iff_lt, ne_eq, e1, e2, e3, e4, e5] at h ⊢)
  all_goals omega
theorem x_if_ge (j : Nat) {off : Int} {tgt : Nat} {a : Int} (hd : (mTab M)[j]? = some (pc, .ifCond .ge off, 3)) (ht : (pc : Int) + off = (tgt : Int)) (hr : -2147483648 ≤ a ∧ a < 2147483648) (kt : 0 ≤ a → mX M d Qa cb sb tgt L S g) (kf : a < 0 → mX M d Qa cb sb (pc + 3) L S g) : mX M d Qa cb sb pc L (vI a :: S) g := by
  intro p l e R s m args below meth c Q base tb dC dI F E H locs cells slots ls hH hS hL hc hs
  have ha : mR a := ⟨hr.1, hr.2⟩
  have hb : mR 0 := mR0
  have e1 := mI_eq ha hb
  have e2 := mI_lt ha hb
  have e3 := mI_lt hb ha
  have e4 := mI_le ha hb
  have e5 := mI_le hb ha
  refine lv_if_ge (x := Int32.ofInt a) F.1 F.2.1 (F.dec hd) ht (fun h => kt ?_ p l e R s m args below meth c Q base tb dC dI F E H locs cells slots ls hH hS hL hc hs) (fun h => kf ?_ p l e R s m args below meth c Q base tb dC dI F E H locs cells slots ls hH hS hL hc hs)
  all_goals (try simp only [show (0 : Int32) = Int32.ofInt 0 from rfl] at h)
  all_goals (try simp only [ge_iff_le, gt_iff_lt, ne_eq, e1, e2, e3, e4, e5] at h ⊢)
  all_goals omega
theorem x_if_gt (j : Nat) {off : Int} {tgt : Nat} {a : Int} (hd : (mTab M)[j]? = some (pc, .ifCond .gt off, 3)) (ht : (pc : Int) + off = (tgt : Int)) (hr : -2147483648 ≤ a ∧ a < 2147483648) (kt : 0 < a → mX M d Qa cb sb tgt L S g) (kf : a ≤ 0 → mX M d Qa cb sb (pc + 3) L S g) : mX M d Qa cb sb pc L (vI a :: S) g := by
  intro p l e R s m args below meth c Q base tb dC dI F E H locs cells slots ls hH hS hL hc hs
  have ha : mR a := ⟨hr.1, hr.2⟩
  have hb : mR 0 := mR0
  have e1 := mI_eq ha hb
  have e2 := mI_lt ha hb
  have e3 := mI_lt hb ha
  have e4 := mI_le ha hb
  have e5 := mI_le hb ha
  refine lv_if_gt (x := Int32.ofInt a) F.1 F.2.1 (F.dec hd) ht (fun h => kt ?_ p l e R s m args below meth c Q base tb dC dI F E H locs cells slots ls hH hS hL hc hs) (fun h => kf ?_ p l e R s m args below meth c Q base tb dC dI F E H locs cells slots ls hH hS hL hc hs)
  all_goals (try simp only [show (0 : Int32) = Int32.ofInt 0 from rfl] at h)
  all_goals (try simp only [ge_iff_le, gt_iff_lt, ne_eq, e1, e2, e3, e4, e5] at h ⊢)
  all_goals omega
theorem x_if_le (j : Nat) {off : Int} {tgt : Nat} {a : Int} (hd : (mTab M)[j]? = some (pc, .ifCond .le off, 3)) (ht : (pc : Int) + off = (tgt : Int)) (hr : -2147483648 ≤ a ∧ a < 2147483648) (kt : a ≤ 0 → mX M d Qa cb sb tgt L S g) (kf : 0 < a → mX M d Qa cb sb (pc + 3) L S g) : mX M d Qa cb sb pc L (vI a :: S) g := by
  intro p l e R s m args below meth c Q base tb dC dI F E H locs cells slots ls hH hS hL hc hs
  have ha : mR a := ⟨hr.1, hr.2⟩
  have hb : mR 0 := mR0
  have e1 := mI_eq ha hb
  have e2 := mI_lt ha hb
  have e3 := mI_lt hb ha
  have e4 := mI_le ha hb
  have e5 := mI_le hb ha
  refine lv_if_le (x := Int32.ofInt a) F.1 F.2.1 (F.dec hd) ht (fun h => kt ?_ p l e R s m args below meth c Q base tb dC dI F E H locs cells slots ls hH hS hL hc hs) (fun h => kf ?_ p l e R s m args below meth c Q base tb dC dI F E H locs cells slots ls hH hS hL hc hs)
  all_goals (try simp only [show (0 : Int32) = Int32.ofInt 0 from rfl] at h)
  all_goals (try simp only [ge_iff_le, gt_iff_lt, ne_eq, e1, e2, e3, e4, e5] at h ⊢)
  all_goals omega
theorem x_goto (j : Nat) {off : Int} {tgt : Nat} (hd : (mTab M)[j]? = some (pc, .goto off, 3)) (ht : (pc : Int) + off = (tgt : Int)) (k : mX M d Qa cb sb tgt L S g) : mX M d Qa cb sb pc L S g := by
  intro p l e R s m args below meth c Q base tb dC dI F E H locs cells slots ls hH hS hL hc hs
  exact lv_goto F.1 F.2.1 (F.dec hd) ht (k p l e R s m args below meth c Q base tb dC dI F E H locs cells slots ls hH hS hL hc hs)
theorem x_drop {L' : List (Option mV)} (hs : ∀ (i : Nat) (v : mV), L'[i]? = some (some v) → L[i]? = some (some v)) (k : mX M d Qa cb sb pc L' S g) : mX M d Qa cb sb pc L S g := by
  intro p l e R s m args below meth c Q base tb dC dI F E H locs cells slots ls hH hS hL hc hz
  exact k p l e R s m args below meth c Q base tb dC dI F E H locs cells slots ls hH hS (hL.drop hs) hc hz
theorem x_dropL {L' : List (Option mV)} (hs : mSubL L' L) (k : mX M d Qa cb sb pc L' S g) : mX M d Qa cb sb pc L S g := x_drop (mSubL_at L' L hs) k
theorem x_ret (j : Nat) {i : Instr} (v : Option mV) (hd : (mTab M)[j]? = some (pc, i, 1)) (hv : mRok (mRet M) v i) (hq : Qa v g) : mX M d Qa cb sb pc L v.toList g := by
  intro p l e R s m args below meth c Q base tb dC dI F E H locs cells slots ls hH hS hL hc hs
  have h := E v g H locs cells slots pc i ls hq hv (F.dec hd) hH hS (by omega) (by omega)
  cases v <;> exact h
theorem x_post {Qb : Option mV → mS → Prop} (hq : ∀ v g, Qb v g → Qa v g) (k : mX M d Qb cb sb pc L S g) : mX M d Qa cb sb pc L S g := by
  intro p l e R s m args below meth c Q base tb dC dI F E H locs cells slots ls hH hS hL hc hs
  exact k p l e R s m args below meth c Q base tb dC dI F (fun v g H locs cells slots pc i ls h => E v g H locs cells slots pc i ls (hq v g h)) H locs cells slots ls hH hS hL hc hs
end MX
