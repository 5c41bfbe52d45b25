/-! numbers: division, bits, shifts, longs -/
theorem mI_ofN (n : Nat) : Int32.ofInt (n : Int) = nI n := rfl
theorem mI_tN {a : Int} (h0 : 0 ≤ a) : Int32.ofInt a = nI a.toNat := by
  show Int32.ofInt a = Int32.ofInt ((a.toNat : Nat) : Int)
  rw [Int.toNat_of_nonneg h0]
theorem mN_div {a b : Int} (ha : 0 ≤ a ∧ a < 2147483648) (hb : 0 < b ∧ b < 2147483648) : Int32.ofInt a / Int32.ofInt b = Int32.ofInt (a / b) := by
  have hq : 0 ≤ a / b := Int.ediv_nonneg ha.1 (by omega)
  have hq2 : a / b ≤ a := Int.ediv_le_self b ha.1
  apply Int32.toInt_inj.mp
  rw [Int32.toInt_div, mI_to ⟨by omega, by omega⟩, mI_to ⟨by omega, by omega⟩, mI_to ⟨by omega, by omega⟩]
  rw [Int.tdiv_eq_ediv_of_nonneg ha.1]
  exact Int.bmod_eq_of_le (by omega) (by omega)
theorem mN_mod {a b : Int} (ha : 0 ≤ a ∧ a < 2147483648) (hb : 0 < b ∧ b < 2147483648) : Int32.ofInt a % Int32.ofInt b = Int32.ofInt (a % b) := by
  have hq : 0 ≤ a % b := Int.emod_nonneg a (by omega)
  have hq2 : a % b < b := Int.emod_lt_of_pos a hb.1
  apply Int32.toInt_inj.mp
  rw [Int32.toInt_mod, mI_to ⟨by omega, by omega⟩, mI_to ⟨by omega, by omega⟩, mI_to ⟨by omega, by omega⟩]
  exact Int.tmod_eq_emod_of_nonneg ha.1
theorem mN_bv (a : Int) : (Int32.ofInt a).toBitVec = BitVec.ofInt 32 a := rfl
theorem mN_nbv {n : Nat} (h : n < 4294967296) : (nI n).toBitVec.toNat = n := by
  simp [nI, Int32.toBitVec_ofNat', BitVec.toNat_ofNat]
  omega
theorem mN_inj {x y : Int32} (h : x.toBitVec.toNat = y.toBitVec.toNat) : x = y := Int32.toBitVec_inj.mp (BitVec.eq_of_toNat_eq h)
theorem mN_and {a b : Nat} (ha : a < 4294967296) (hb : b < 4294967296) : nI a &&& nI b = nI (a &&& b) := by
  have h : a &&& b < 4294967296 := Nat.lt_of_le_of_lt Nat.and_le_left ha
  apply mN_inj
  rw [Int32.toBitVec_and, BitVec.toNat_and, mN_nbv ha, mN_nbv hb, mN_nbv h]
theorem mN_or {a b : Nat} (ha : a < 4294967296) (hb : b < 4294967296) : nI a ||| nI b = nI (a ||| b) := by
  have h : a ||| b < 4294967296 := Nat.or_lt_two_pow (n := 32) ha hb
  apply mN_inj
  rw [Int32.toBitVec_or, BitVec.toNat_or, mN_nbv ha, mN_nbv hb, mN_nbv h]
theorem mN_xor {a b : Nat} (ha : a < 4294967296) (hb : b < 4294967296) : nI a ^^^ nI b = nI (a ^^^ b) := by
  have h : a ^^^ b < 4294967296 := Nat.xor_lt_two_pow (n := 32) ha hb
  apply mN_inj
  rw [Int32.toBitVec_xor, BitVec.toNat_xor, mN_nbv ha, mN_nbv hb, mN_nbv h]
/-- the last k bits of any int -/
theorem mN_mask (a : Int) (k : Nat) (hk : k < 31) : Int32.ofInt a &&& nI (2 ^ k - 1) = Int32.ofInt (a % (2 ^ k : Int)) := by
  have hp : 2 ^ k ≤ 2 ^ 30 := Nat.pow_le_pow_right (by omega) (by omega)
  have hp0 : 0 < 2 ^ k := Nat.two_pow_pos k
  have hc : ((2 ^ k : Nat) : Int) = (2 ^ k : Int) := by simp
  rw [← hc]
  have hm : 0 ≤ a % ((2 ^ k : Nat) : Int) := Int.emod_nonneg a (by omega)
  have hm2 : a % ((2 ^ k : Nat) : Int) < ((2 ^ k : Nat) : Int) := Int.emod_lt_of_pos a (by omega)
  rw [mI_tN hm]
  apply mN_inj
  rw [Int32.toBitVec_and, BitVec.toNat_and, mN_nbv (by omega), mN_nbv (by omega), mN_bv, BitVec.toNat_ofInt, Nat.and_two_pow_sub_one_eq_mod]
  have hd : (2 ^ k : Nat) ∣ 2 ^ 32 := Nat.pow_dvd_pow 2 (by omega)
  have hdi : ((2 ^ k : Nat) : Int) ∣ ((2 ^ 32 : Nat) : Int) := Int.natCast_dvd_natCast.mpr hd
  apply Int.ofNat_inj.mp
  rw [Int.natCast_emod, Int.toNat_of_nonneg (Int.emod_nonneg a (by decide)), Int.emod_emod_of_dvd a hdi, Int.toNat_of_nonneg hm]
theorem mN_s32 : ∀ k, k < 32 → ((nI k &&& 31).toBitVec.smod 32).toNat = k := by decide +kernel
theorem mN_shl {a : Nat} {k : Nat} (hk : k < 32) (h : a * 2 ^ k < 4294967296) : nI a <<< (nI k &&& 31) = nI (a * 2 ^ k) := pk_shlN _ k (mN_s32 k hk) h
theorem mN_shr {a : Nat} {k : Nat} (hk : k < 32) (h : a < 2147483648) : nI a >>> (nI k &&& 31) = nI (a / 2 ^ k) := pk_shrN h _ k (mN_s32 k hk)
theorem mN_s64 : ∀ k, k < 64 → ((nI k).toInt64 &&& 63).toBitVec.smod 64 = BitVec.ofNat 64 k := by decide +kernel
theorem mN_u64 : ∀ k, k < 64 → (((nI k).toInt64.toUInt64 &&& Int64.toUInt64 63).toBitVec % 64).toNat = k := by decide +kernel
theorem mN_lshl (b : BitVec 64) {k : Nat} (hk : k < 64) : Int64.ofBitVec b <<< ((nI k).toInt64 &&& 63) = Int64.ofBitVec (b <<< k) := by
  apply Int64.toBitVec_inj.mp
  rw [Int64.toBitVec_shiftLeft, mN_s64 k hk]
  show b <<< (BitVec.ofNat 64 k) = b <<< k
  rw [BitVec.shiftLeft_eq', BitVec.toNat_ofNat, Nat.mod_eq_of_lt (by omega)]
theorem mN_lushr (b : BitVec 64) {k : Nat} (hk : k < 64) : ((Int64.ofBitVec b).toUInt64 >>> ((nI k).toInt64.toUInt64 &&& Int64.toUInt64 63)).toInt64 = Int64.ofBitVec (b >>> k) := by
  apply Int64.toBitVec_inj.mp
  have h := mN_u64 k hk
  show ((Int64.ofBitVec b).toUInt64 >>> ((nI k).toInt64.toUInt64 &&& Int64.toUInt64 63)).toBitVec = b >>> k
  rw [UInt64.toBitVec_shiftRight, BitVec.ushiftRight_eq', h]
  rfl
theorem mN_land (a b : BitVec 64) : Int64.ofBitVec a &&& Int64.ofBitVec b = Int64.ofBitVec (a &&& b) := rfl
theorem mN_lor (a b : BitVec 64) : Int64.ofBitVec a ||| Int64.ofBitVec b = Int64.ofBitVec (a ||| b) := rfl
theorem mN_lxor (a b : BitVec 64) : Int64.ofBitVec a ^^^ Int64.ofBitVec b = Int64.ofBitVec (a ^^^ b) := rfl
theorem mN_lsub (a b : BitVec 64) : Int64.ofBitVec a - Int64.ofBitVec b = Int64.ofBitVec (a - b) := rfl
theorem mN_leq (a b : BitVec 64) : Int64.ofBitVec a = Int64.ofBitVec b ↔ a = b := ⟨fun h => congrArg Int64.toBitVec h, fun h => by rw [h]⟩
theorem mN_i2l {a : Int} (h : mR a) : (Int32.ofInt a).toInt64 = Int64.ofBitVec (BitVec.ofInt 64 a) := by
  apply Int64.toInt_inj.mp
  rw [Int32.toInt_toInt64, mI_to h]
  show a = (BitVec.ofInt 64 a).toInt
  obtain ⟨h1, h2⟩ := h
  rw [BitVec.toInt_ofInt]
  exact (Int.bmod_eq_of_le (by omega) (by omega)).symm
/-- what comparing two longs answers -/
theorem mN_cmp (a b : BitVec 64) : ∃ z : Int, lg_cmp (Int64.ofBitVec a) (Int64.ofBitVec b) = Int32.ofInt z ∧ (z = 0 ↔ a = b) ∧ -1 ≤ z ∧ z ≤ 1 := by
  unfold lg_cmp
  by_cases h1 : Int64.ofBitVec b < Int64.ofBitVec a
  · refine ⟨1, ?_, ?_, by omega, by omega⟩
    · simp [h1]
    · constructor
      · intro h; omega
      · intro h
        subst h
        exact absurd h1 (Int64.lt_irrefl)
  · by_cases h2 : Int64.ofBitVec a = Int64.ofBitVec b
    · refine ⟨0, ?_, ?_, by omega, by omega⟩
      · simp [h2, Int64.lt_irrefl]
      · constructor
        · intro _; exact (mN_leq a b).mp h2
        · intro _; rfl
    · refine ⟨-1, ?_, ?_, by omega, by omega⟩
      · simp [h1, h2]
      · constructor
        · intro h; omega
        · intro h; exact absurd ((mN_leq a b).mpr h) h2
section MY
variable {M : mM} {d cb sb pc : Nat} {Qa : Option mV → mS → Prop} {L : List (Option mV)} {S : List mV} {g : mS}
theorem x_idiv (j : Nat) {a b r : Int} (hd : (mTab M)[j]? = some (pc, .idiv, 1)) (hab : 0 ≤ a ∧ a < 2147483648 ∧ 0 < b ∧ b < 2147483648) (hr : a / b = r) (k : mX M d Qa cb sb (pc + 1) L (vI r :: S) g) : mX M d Qa cb sb pc L (vI b :: vI a :: S) g := by
  intro p l e R s m args below meth c Q base tb dC dI F E H locs cells slots ls hH hS hL hc hs
  obtain ⟨h1, h2, h3, h4⟩ := hab
  refine lv_idiv F.1 F.2.1 (F.dec hd) (fun h => ?_) ?_
  · rw [show (0 : Int32) = Int32.ofInt 0 from rfl, mI_eq ⟨by omega, by omega⟩ mR0] at h
    omega
  · rw [mN_div ⟨h1, h2⟩ ⟨h3, h4⟩, hr]
    exact k p l e R s m args below meth c Q base tb dC dI F E H locs cells slots ls hH hS hL hc hs
theorem x_irem (j : Nat) {a b r : Int} (hd : (mTab M)[j]? = some (pc, .irem, 1)) (hab : 0 ≤ a ∧ a < 2147483648 ∧ 0 < b ∧ b < 2147483648) (hr : a % b = r) (k : mX M d Qa cb sb (pc + 1) L (vI r :: S) g) : mX M d Qa cb sb pc L (vI b :: vI a :: S) g := by
  intro p l e R s m args below meth c Q base tb dC dI F E H locs cells slots ls hH hS hL hc hs
  obtain ⟨h1, h2, h3, h4⟩ := hab
  refine lv_irem F.1 F.2.1 (F.dec hd) (fun h => ?_) ?_
  · rw [show (0 : Int32) = Int32.ofInt 0 from rfl, mI_eq ⟨by omega, by omega⟩ mR0] at h
    omega
  · rw [mN_div ⟨h1, h2⟩ ⟨h3, h4⟩, ← Int32.ofInt_mul, ← Int32.ofInt_sub, show a - a / b * b = r by rw [← hr, Int.emod_def, Int.mul_comm]]
    exact k p l e R s m args below meth c Q base tb dC dI F E H locs cells slots ls hH hS hL hc hs
theorem x_iand (j : Nat) {a b : Int} {r : Nat} (hd : (mTab M)[j]? = some (pc, .iand, 1)) (hab : 0 ≤ a ∧ a < 2147483648 ∧ 0 ≤ b ∧ b < 2147483648) (hr : a.toNat &&& b.toNat = r) (k : mX M d Qa cb sb (pc + 1) L (vI (r : Int) :: S) g) : mX M d Qa cb sb pc L (vI b :: vI a :: S) g := by
  intro p l e R s m args below meth c Q base tb dC dI F E H locs cells slots ls hH hS hL hc hs
  obtain ⟨h1, h2, h3, h4⟩ := hab
  refine lv_iand F.1 F.2.1 (F.dec hd) ?_
  rw [mI_tN h1, mI_tN h3, mN_and (by omega) (by omega), hr, ← mI_ofN]
  exact k p l e R s m args below meth c Q base tb dC dI F E H locs cells slots ls hH hS hL hc hs
theorem x_ior (j : Nat) {a b : Int} {r : Nat} (hd : (mTab M)[j]? = some (pc, .ior, 1)) (hab : 0 ≤ a ∧ a < 2147483648 ∧ 0 ≤ b ∧ b < 2147483648) (hr : a.toNat ||| b.toNat = r) (k : mX M d Qa cb sb (pc + 1) L (vI (r : Int) :: S) g) : mX M d Qa cb sb pc L (vI b :: vI a :: S) g := by
  intro p l e R s m args below meth c Q base tb dC dI F E H locs cells slots ls hH hS hL hc hs
  obtain ⟨h1, h2, h3, h4⟩ := hab
  refine lv_ior F.1 F.2.1 (F.dec hd) ?_
  rw [mI_tN h1, mI_tN h3, mN_or (by omega) (by omega), hr, ← mI_ofN]
  exact k p l e R s m args below meth c Q base tb dC dI F E H locs cells slots ls hH hS hL hc hs
theorem x_ixor (j : Nat) {a b : Int} {r : Nat} (hd : (mTab M)[j]? = some (pc, .ixor, 1)) (hab : 0 ≤ a ∧ a < 2147483648 ∧ 0 ≤ b ∧ b < 2147483648) (hr : a.toNat ^^^ b.toNat = r) (k : mX M d Qa cb sb (pc + 1) L (vI (r : Int) :: S) g) : mX M d Qa cb sb pc L (vI b :: vI a :: S) g := by
  intro p l e R s m args below meth c Q base tb dC dI F E H locs cells slots ls hH hS hL hc hs
  obtain ⟨h1, h2, h3, h4⟩ := hab
  refine lv_ixor F.1 F.2.1 (F.dec hd) ?_
  rw [mI_tN h1, mI_tN h3, mN_xor (by omega) (by omega), hr, ← mI_ofN]
  exact k p l e R s m args below meth c Q base tb dC dI F E H locs cells slots ls hH hS hL hc hs
theorem x_iandm (j kk : Nat) {a b r : Int} (hd : (mTab M)[j]? = some (pc, .iand, 1)) (hk : kk < 31) (hb : b = ((2 ^ kk - 1 : Nat) : Int)) (hr : a % (2 ^ kk : Int) = r) (k : mX M d Qa cb sb (pc + 1) L (vI r :: S) g) : mX M d Qa cb sb pc L (vI b :: vI a :: S) g := by
  intro p l e R s m args below meth c Q base tb dC dI F E H locs cells slots ls hH hS hL hc hs
  subst hb
  refine lv_iand F.1 F.2.1 (F.dec hd) ?_
  rw [mI_ofN, mN_mask a kk hk, hr]
  exact k p l e R s m args below meth c Q base tb dC dI F E H locs cells slots ls hH hS hL hc hs
theorem x_ishl (j : Nat) {a b r : Int} (hd : (mTab M)[j]? = some (pc, .ishl, 1)) (hab : 0 ≤ a ∧ 0 ≤ b ∧ b < 32 ∧ a * 2 ^ b.toNat < 4294967296) (hr : a * 2 ^ b.toNat = r) (k : mX M d Qa cb sb (pc + 1) L (vI r :: S) g) : mX M d Qa cb sb pc L (vI b :: vI a :: S) g := by
  intro p l e R s m args below meth c Q base tb dC dI F E H locs cells slots ls hH hS hL hc hs
  obtain ⟨h1, h2, h3, h4⟩ := hab
  have he : a * 2 ^ b.toNat = ((a.toNat * 2 ^ b.toNat : Nat) : Int) := by
    rw [Int.natCast_mul, Int.toNat_of_nonneg h1, Int.natCast_pow]
    rfl
  refine lv_ishl F.1 F.2.1 (F.dec hd) ?_
  rw [mI_tN h1, mI_tN h2, mN_shl (by omega) (by omega), ← mI_ofN, ← he, hr]
  exact k p l e R s m args below meth c Q base tb dC dI F E H locs cells slots ls hH hS hL hc hs
theorem x_ishr (j : Nat) {a b r : Int} (hd : (mTab M)[j]? = some (pc, .ishr, 1)) (hab : 0 ≤ a ∧ a < 2147483648 ∧ 0 ≤ b ∧ b < 32) (hr : a / 2 ^ b.toNat = r) (k : mX M d Qa cb sb (pc + 1) L (vI r :: S) g) : mX M d Qa cb sb pc L (vI b :: vI a :: S) g := by
  intro p l e R s m args below meth c Q base tb dC dI F E H locs cells slots ls hH hS hL hc hs
  obtain ⟨h1, h2, h3, h4⟩ := hab
  have he : a / 2 ^ b.toNat = ((a.toNat / 2 ^ b.toNat : Nat) : Int) := by
    rw [Int.natCast_ediv, Int.toNat_of_nonneg h1, Int.natCast_pow]
    rfl
  refine lv_ishr F.1 F.2.1 (F.dec hd) ?_
  rw [mI_tN h1, mI_tN h3, mN_shr (by omega) (by omega), ← mI_ofN, ← he, hr]
  exact k p l e R s m args below meth c Q base tb dC dI F E H locs cells slots ls hH hS hL hc hs
theorem x_land (j : Nat) {a b r : BitVec 64} (hd : (mTab M)[j]? = some (pc, .land, 1)) (hr : a &&& b = r) (k : mX M d Qa cb sb (pc + 1) L (vL r :: S) g) : mX M d Qa cb sb pc L (vL b :: vL a :: S) g := by
  intro p l e R s m args below meth c Q base tb dC dI F E H locs cells slots ls hH hS hL hc hs
  refine lv_land F.1 F.2.1 (F.dec hd) ?_
  rw [mN_land, hr]
  exact k p l e R s m args below meth c Q base tb dC dI F E H locs cells slots ls hH hS hL hc hs
theorem x_lor (j : Nat) {a b r : BitVec 64} (hd : (mTab M)[j]? = some (pc, .lor, 1)) (hr : a ||| b = r) (k : mX M d Qa cb sb (pc + 1) L (vL r :: S) g) : mX M d Qa cb sb pc L (vL b :: vL a :: S) g := by
  intro p l e R s m args below meth c Q base tb dC dI F E H locs cells slots ls hH hS hL hc hs
  refine lv_lor F.1 F.2.1 (F.dec hd) ?_
  rw [mN_lor, hr]
  exact k p l e R s m args below meth c Q base tb dC dI F E H locs cells slots ls hH hS hL hc hs
theorem x_lxor (j : Nat) {a b r : BitVec 64} (hd : (mTab M)[j]? = some (pc, .lxor, 1)) (hr : a ^^^ b = r) (k : mX M d Qa cb sb (pc + 1) L (vL r :: S) g) : mX M d Qa cb sb pc L (vL b :: vL a :: S) g := by
  intro p l e R s m args below meth c Q base tb dC dI F E H locs cells slots ls hH hS hL hc hs
  refine lv_lxor F.1 F.2.1 (F.dec hd) ?_
  rw [mN_lxor, hr]
  exact k p l e R s m args below meth c Q base tb dC dI F E H locs cells slots ls hH hS hL hc hs
theorem x_lsub (j : Nat) {a b r : BitVec 64} (hd : (mTab M)[j]? = some (pc, .lsub, 1)) (hr : a - b = r) (k : mX M d Qa cb sb (pc + 1) L (vL r :: S) g) : mX M d Qa cb sb pc L (vL b :: vL a :: S) g := by
  intro p l e R s m args below meth c Q base tb dC dI F E H locs cells slots ls hH hS hL hc hs
  refine lv_lsub F.1 F.2.1 (F.dec hd) ?_
  rw [mN_lsub, hr]
  exact k p l e R s m args below meth c Q base tb dC dI F E H locs cells slots ls hH hS hL hc hs
theorem x_lshl (j : Nat) {a r : BitVec 64} {b : Int} (hd : (mTab M)[j]? = some (pc, .lshl, 1)) (hb : 0 ≤ b ∧ b < 64) (hr : a <<< b.toNat = r) (k : mX M d Qa cb sb (pc + 1) L (vL r :: S) g) : mX M d Qa cb sb pc L (vI b :: vL a :: S) g := by
  intro p l e R s m args below meth c Q base tb dC dI F E H locs cells slots ls hH hS hL hc hs
  exact lv_lshl (v := Int64.ofBitVec r) F.1 F.2.1 (F.dec hd) (by rw [mI_tN hb.1, mN_lshl a (by omega), hr]) (k p l e R s m args below meth c Q base tb dC dI F E H locs cells slots ls hH hS hL hc hs)
theorem x_lushr (j : Nat) {a r : BitVec 64} {b : Int} (hd : (mTab M)[j]? = some (pc, .lushr, 1)) (hb : 0 ≤ b ∧ b < 64) (hr : a >>> b.toNat = r) (k : mX M d Qa cb sb (pc + 1) L (vL r :: S) g) : mX M d Qa cb sb pc L (vI b :: vL a :: S) g := by
  intro p l e R s m args below meth c Q base tb dC dI F E H locs cells slots ls hH hS hL hc hs
  exact lv_lushr (v := Int64.ofBitVec r) F.1 F.2.1 (F.dec hd) (by rw [mI_tN hb.1, mN_lushr a (by omega), hr]) (k p l e R s m args below meth c Q base tb dC dI F E H locs cells slots ls hH hS hL hc hs)
theorem x_lcmp (j : Nat) {a b : BitVec 64} (hd : (mTab M)[j]? = some (pc, .lcmp, 1)) (k : ∀ z : Int, (z = 0 ↔ a = b) → -1 ≤ z → z ≤ 1 → mX M d Qa cb sb (pc + 1) L (vI z :: S) g) : mX M d Qa cb sb pc L (vL b :: vL a :: S) g := by
  intro p l e R s m args below meth c Q base tb dC dI F E H locs cells slots ls hH hS hL hc hs
  obtain ⟨z, e1, e2, e3, e4⟩ := mN_cmp a b
  refine W.lcmp F.1 F.2.1 (F.dec hd) ?_
  rw [e1]
  exact k z e2 e3 e4 p l e R s m args below meth c Q base tb dC dI F E H locs cells slots ls hH hS hL hc hs
theorem x_i2l (j : Nat) {a : Int} {r : BitVec 64} (hd : (mTab M)[j]? = some (pc, .i2l, 1)) (ha : -2147483648 ≤ a ∧ a < 2147483648) (hr : BitVec.ofInt 64 a = r) (k : mX M d Qa cb sb (pc + 1) L (vL r :: S) g) : mX M d Qa cb sb pc L (vI a :: S) g := by
  intro p l e R s m args below meth c Q base tb dC dI F E H locs cells slots ls hH hS hL hc hs
  exact lv_i2l (v := Int64.ofBitVec r) F.1 F.2.1 (F.dec hd) (by rw [mN_i2l ha, hr]) (k p l e R s m args below meth c Q base tb dC dI F E H locs cells slots ls hH hS hL hc hs)
theorem x_i2f (j : Nat) {a : Int} {r : UInt32} (hd : (mTab M)[j]? = some (pc, .i2f, 1)) (hr : FP.i2f (Int32.ofInt a) = r) (k : mX M d Qa cb sb (pc + 1) L (vF r :: S) g) : mX M d Qa cb sb pc L (vI a :: S) g := by
  intro p l e R s m args below meth c Q base tb dC dI F E H locs cells slots ls hH hS hL hc hs
  refine lv_i2f F.1 F.2.1 (F.dec hd) ?_
  rw [hr]
  exact k p l e R s m args below meth c Q base tb dC dI F E H locs cells slots ls hH hS hL hc hs
theorem x_fdiv (j : Nat) {a b r : UInt32} (hd : (mTab M)[j]? = some (pc, .fdiv, 1)) (hr : FP.fdiv a b = r) (hn : vf_n32 r) (k : mX M d Qa cb sb (pc + 1) L (vF r :: S) g) : mX M d Qa cb sb pc L (vF b :: vF a :: S) g := by
  intro p l e R s m args below meth c Q base tb dC dI F E H locs cells slots ls hH hS hL hc hs
  subst hr
  exact lv_fdiv F.1 F.2.1 (F.dec hd) hn (k p l e R s m args below meth c Q base tb dC dI F E H locs cells slots ls hH hS hL hc hs)
theorem x_f2d (j : Nat) {a : UInt32} {r : UInt64} (hd : (mTab M)[j]? = some (pc, .f2d, 1)) (hr : FP.f2d a = r) (hn : vf_n64 r) (k : mX M d Qa cb sb (pc + 1) L (vD r :: S) g) : mX M d Qa cb sb pc L (vF a :: S) g := by
  intro p l e R s m args below meth c Q base tb dC dI F E H locs cells slots ls hH hS hL hc hs
  subst hr
  exact lv_f2d F.1 F.2.1 (F.dec hd) hn (k p l e R s m args below meth c Q base tb dC dI F E H locs cells slots ls hH hS hL hc hs)
theorem x_dcmp (j : Nat) {a b : UInt64} {op : CmpOp} {r : Int} (hd : (mTab M)[j]? = some (pc, .dcmp op, 1)) (hr : Op.cmpValue (FP.dcmp a b) op = Int32.ofInt r) (k : mX M d Qa cb sb (pc + 1) L (vI r :: S) g) : mX M d Qa cb sb pc L (vD b :: vD a :: S) g := by
  intro p l e R s m args below meth c Q base tb dC dI F E H locs cells slots ls hH hS hL hc hs
  refine lv_dcmp F.1 F.2.1 (F.dec hd) ?_
  rw [hr]
  exact k p l e R s m args below meth c Q base tb dC dI F E H locs cells slots ls hH hS hL hc hs
theorem x_ldcf (j : Nat) {idx : Nat} {r : UInt32} (hd : (mTab M)[j]? = some (pc, .ldc idx, 2)) (hw : Cond.constantFloat (mName M).cls idx r ∈ mGood) (k : mX M d Qa cb sb (pc + 2) L (vF r :: S) g) : mX M d Qa cb sb pc L S g := by
  intro p l e R s m args below meth c Q base tb dC dI F E H locs cells slots ls hH hS hL hc hs
  exact lv_ldcf F.1 F.2.1 F.2.2.2.1 (F.go hw) (F.dec hd) (k p l e R s m args below meth c Q base tb dC dI F E H locs cells slots ls hH hS hL hc hs)
theorem x_ldc2 (j : Nat) {idx : Nat} {r : BitVec 64} {r' : Int64} (hd : (mTab M)[j]? = some (pc, .ldc2_w idx, 3)) (hw : Cond.constantLong (mName M).cls idx r' ∈ mGood) (hr : r' = Int64.ofBitVec r) (k : mX M d Qa cb sb (pc + 3) L (vL r :: S) g) : mX M d Qa cb sb pc L S g := by
  intro p l e R s m args below meth c Q base tb dC dI F E H locs cells slots ls hH hS hL hc hs
  subst hr
  exact lv_ldc2 F.1 F.2.1 F.2.2.2.1 (F.go hw) (F.dec hd) (k p l e R s m args below meth c Q base tb dC dI F E H locs cells slots ls hH hS hL hc hs)
theorem x_tabOut (j : Nat) {dflt lo hi : Int} {offs : Array Int} {len tgt : Nat} {a : Int} (hd : (mTab M)[j]? = some (pc, .tableswitch dflt lo hi offs, len)) (ha : -2147483648 ≤ a ∧ a < 2147483648) (h : a < lo ∨ hi < a) (ht : (pc : Int) + dflt = (tgt : Int)) (k : mX M d Qa cb sb tgt L S g) : mX M d Qa cb sb pc L (vI a :: S) g := by
  intro p l e R s m args below meth c Q base tb dC dI F E H locs cells slots ls hH hS hL hc hs
  exact lv_tableOut (x := Int32.ofInt a) F.1 F.2.1 (F.dec hd) (by rw [mI_to ha]; exact h) ht (k p l e R s m args below meth c Q base tb dC dI F E H locs cells slots ls hH hS hL hc hs)
theorem x_tabIn (j : Nat) {dflt lo hi : Int} {offs : Array Int} {len tgt : Nat} {a off : Int} (hd : (mTab M)[j]? = some (pc, .tableswitch dflt lo hi offs, len)) (ha : -2147483648 ≤ a ∧ a < 2147483648) (h : lo ≤ a ∧ a ≤ hi) (ho : offs[(a - lo).toNat]? = some off) (ht : (pc : Int) + off = (tgt : Int)) (k : mX M d Qa cb sb tgt L S g) : mX M d Qa cb sb pc L (vI a :: S) g := by
  intro p l e R s m args below meth c Q base tb dC dI F E H locs cells slots ls hH hS hL hc hs
  exact lv_tableIn (x := Int32.ofInt a) F.1 F.2.1 (F.dec hd) (by rw [mI_to ha]; omega) (by rw [mI_to ha]; omega) (by rw [mI_to ha]; exact ho) ht (k p l e R s m args below meth c Q base tb dC dI F E H locs cells slots ls hH hS hL hc hs)
theorem x_lookup (j : Nat) {dflt : Int} {ps : Array (Int × Int)} {len tgt : Nat} {a off : Int} (hd : (mTab M)[j]? = some (pc, .lookupswitch dflt ps, len)) (ha : -2147483648 ≤ a ∧ a < 2147483648) (hp : (ps.toList.zip (ps.toList.drop 1)).all (fun (a, next) => a.1 < next.1) = true) (ho : Op.lookupswitch.offset ps.toList dflt a = off) (ht : (pc : Int) + off = (tgt : Int)) (k : mX M d Qa cb sb tgt L S g) : mX M d Qa cb sb pc L (vI a :: S) g := by
  intro p l e R s m args below meth c Q base tb dC dI F E H locs cells slots ls hH hS hL hc hs
  exact lv_lookup (x := Int32.ofInt a) F.1 F.2.1 (F.dec hd) hp (by rw [mI_to ha]; exact ho) ht (k p l e R s m args below meth c Q base tb dC dI F E H locs cells slots ls hH hS hL hc hs)
end MY
