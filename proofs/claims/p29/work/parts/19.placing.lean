variable {nn : Nat} {bb : Bool}
/-! placing: the voices, and what the rows know of them -/
/-- a voice: singer, strength, parts that fit; a list has the latest voice first -/
abbrev vO : Type := Int × Int × Int
def vB (m : Int) (p : Nat) : Prop := (BitVec.ofInt 64 m).getLsbD p = true
def vZ (m : Int) (p : Nat) : Int := if (BitVec.ofInt 64 m).getLsbD p = true then 1 else 0
theorem vZ_01 (m : Int) (p : Nat) : vZ m p = 0 ∨ vZ m p = 1 := by unfold vZ; split <;> omega
theorem vZ_ne (m : Int) (p : Nat) : vZ m p ≠ 0 ↔ vB m p := by unfold vZ vB; split <;> simp [*]
def sumS : List vO → Int → Int
  | [], _ => 0
  | v :: r, s => if s < 2 ^ r.length then sumS r s else v.2.1 + sumS r (s - 2 ^ r.length)
/-- whether the one part (of the parts pa, pb) can get t of the set s -/
def rch (pa pb : Nat) : List vO → Int → Int → Prop
  | [], _, t => t = 0
  | v :: r, s, t => if s < 2 ^ r.length then rch pa pb r s t else (vB v.2.2 pb ∧ rch pa pb r (s - 2 ^ r.length) t) ∨ (vB v.2.2 pa ∧ v.2.1 ≤ t ∧ rch pa pb r (s - 2 ^ r.length) (t - v.2.1))
def vAt (r : List vO) (k : Int) : vO := r.getD (r.length - 1 - k.toNat) (0, 0, 0)
def PL (bb : Bool) (i : Nat → Int → Int) (l : Nat → Int → BitVec 64) (r : List vO) : Prop :=
  i (ob bb + 177) 7 = r.length ∧ r.length ≤ 10 ∧ (∀ v ∈ r, 1 ≤ v.2.1 ∧ v.2.1 ≤ 9) ∧ (∀ k : Int, 0 ≤ k → k < r.length → i (ob bb + 186) k = (vAt r k).1 ∧ i (ob bb + 187) k = (vAt r k).2.1 ∧ i (ob bb + 188) k = (vAt r k).2.2) ∧ (∀ s : Int, 0 ≤ s → s < 2 ^ r.length → i (ob bb + 184) s = sumS r s) ∧
  ∀ s t : Int, 0 ≤ s → s < 2 ^ r.length → 0 ≤ t → t < 128 → (spB l (ob bb + 178) s t ↔ rch 0 1 r s t) ∧ (spB l (ob bb + 181) s t ↔ rch 2 3 r s t)
theorem vAt_old {v : vO} {r : List vO} {k : Int} (h0 : 0 ≤ k) (h : k < r.length) : vAt (v :: r) k = vAt r k := by
  unfold vAt
  rw [List.length_cons, show r.length + 1 - 1 - k.toNat = (r.length - 1 - k.toNat) + 1 by omega, List.getD_cons_succ]
theorem vAt_new (v : vO) (r : List vO) : vAt (v :: r) r.length = v := by
  unfold vAt
  rw [List.length_cons, show r.length + 1 - 1 - (r.length : Int).toNat = 0 by omega, List.getD_cons_zero]
theorem sumS_bd {r : List vO} (h : ∀ v ∈ r, 1 ≤ v.2.1 ∧ v.2.1 ≤ 9) (s : Int) : 0 ≤ sumS r s ∧ sumS r s ≤ 9 * r.length := by
  induction r generalizing s with
  | nil => simp [sumS]
  | cons v r ih =>
    have h1 := h v List.mem_cons_self
    have ih' := fun s => ih (fun w hw => h w (List.mem_cons_of_mem _ hw)) s
    unfold sumS
    rw [List.length_cons]
    split
    · have := ih' s; omega
    · have := ih' (s - 2 ^ r.length); omega
/-- what the one part gets is no more than all -/
theorem rch_bd {pa pb : Nat} {r : List vO} (h : ∀ v ∈ r, 1 ≤ v.2.1 ∧ v.2.1 ≤ 9) {s t : Int} (hr : rch pa pb r s t) : 0 ≤ t ∧ t ≤ sumS r s := by
  induction r generalizing s t with
  | nil => simp [rch] at hr; subst hr; simp [sumS]
  | cons v r ih =>
    have h1 := h v List.mem_cons_self
    have ih' := @ih (fun w hw => h w (List.mem_cons_of_mem _ hw))
    unfold rch at hr
    unfold sumS
    split at hr
    · rename_i hs
      rw [if_pos hs]
      exact ih' hr
    · rename_i hs
      rw [if_neg hs]
      rcases hr with ⟨-, hr⟩ | ⟨-, -, hr⟩
      · have := ih' hr; omega
      · have := ih' hr; omega
theorem bv_shl (A : BitVec 64) (m k : Nat) (hk : k < 64) : (A <<< m).getLsbD k = true ↔ m ≤ k ∧ A.getLsbD (k - m) = true := by
  rw [BitVec.getLsbD_shiftLeft]
  by_cases h : k < m
  · simp [h]; omega
  · rw [decide_eq_true hk, decide_eq_false h]
    simp only [Bool.not_false, Bool.true_and, Bool.and_true]
    constructor
    · intro h1; exact ⟨by omega, h1⟩
    · intro h1; exact h1.2
theorem avB {l l' : Nat → Int → BitVec 64} {q : Nat} {P f o s x t : Int} (hA : avA l l' q P f o s P) (hx : P ≤ x ∧ x < P + P) (hs : 1 ≤ s ∧ s ≤ 9) (ht : 0 ≤ t ∧ t < 128) : spB l' q x t ↔ (o ≠ 0 ∧ spB l q (x - P) t) ∨ (f ≠ 0 ∧ s ≤ t ∧ spB l q (x - P) (t - s)) := by
  have e1 : l' (q + 1) x = avL f o s (l (q + 1) (x - P)) := by rw [hA, if_pos ⟨rfl, hx⟩]
  have e2 : l' (q + 2) x = avH f o s (l (q + 1) (x - P)) (l (q + 2) (x - P)) := by rw [hA, if_neg (by omega), if_pos ⟨rfl, hx⟩]
  unfold spB
  rw [e1, e2]
  generalize l (q + 1) (x - P) = A
  generalize l (q + 2) (x - P) = B
  have z0 : ∀ k, (0#64).getLsbD k = false := fun k => by simp
  by_cases h64 : t < 64
  · simp only [if_pos h64, if_pos (show t - s < 64 by omega)]
    have sh := bv_shl A s.toNat t.toNat (by omega)
    rw [show t.toNat - s.toNat = (t - s).toNat by omega, show (s.toNat ≤ t.toNat) = (s ≤ t) from propext (by omega)] at sh
    unfold avL
    split <;> split <;> (try simp only [BitVec.getLsbD_or, Bool.or_eq_true, z0, sh]) <;> grind
  · simp only [if_neg h64]
    by_cases h64s : t - s < 64
    · simp only [if_pos h64s]
      have sh := bv_shl B s.toNat (t - 64).toNat (by omega)
      have su : (A >>> (64 - s).toNat).getLsbD (t - 64).toNat = A.getLsbD (t - s).toNat := by rw [BitVec.getLsbD_ushiftRight]; congr 1; omega
      have hno : ¬ s.toNat ≤ (t - 64).toNat := by omega
      have hst : s ≤ t := by omega
      have shB : (B <<< s.toNat).getLsbD (t - 64).toNat = false := by
        rw [Bool.eq_false_iff]; intro h; exact hno (sh.mp h).1
      unfold avH
      by_cases hf : f = 0 <;> by_cases ho : o = 0 <;> simp only [hf, ho, ne_eq, not_true_eq_false, not_false_eq_true, if_true, if_false, BitVec.getLsbD_or, Bool.or_eq_true, z0, shB, su, hst, true_and, false_and, false_or, or_false, Bool.false_eq_true]
    · simp only [if_neg h64s]
      have sh := bv_shl B s.toNat (t - 64).toNat (by omega)
      rw [show (t - 64).toNat - s.toNat = (t - s - 64).toNat by omega] at sh
      have su : (A >>> (64 - s).toNat).getLsbD (t - 64).toNat = false := by
        rw [BitVec.getLsbD_ushiftRight]
        exact BitVec.getLsbD_of_ge _ _ (by omega)
      have hst : s ≤ t := by omega
      have shB : (B <<< s.toNat).getLsbD (t - 64).toNat = B.getLsbD (t - s - 64).toNat := by
        rw [Bool.eq_iff_iff, sh]
        exact ⟨fun h => h.2, fun h => ⟨by omega, h⟩⟩
      unfold avH
      by_cases hf : f = 0 <;> by_cases ho : o = 0 <;> simp only [hf, ho, ne_eq, not_true_eq_false, not_false_eq_true, if_true, if_false, BitVec.getLsbD_or, Bool.or_eq_true, z0, shB, su, hst, true_and, false_and, false_or, or_false, Bool.false_eq_true]
theorem avB_old {l l' : Nat → Int → BitVec 64} {q : Nat} {P f o s x t : Int} (hA : avA l l' q P f o s P) (hx : x < P) : spB l' q x t ↔ spB l q x t := by
  have e1 : l' (q + 1) x = l (q + 1) x := by rw [hA, if_neg (by omega), if_neg (by omega)]
  have e2 : l' (q + 2) x = l (q + 2) x := by rw [hA, if_neg (by omega), if_neg (by omega)]
  unfold spB
  rw [e1, e2]
theorem avB_else {l l' : Nat → Int → BitVec 64} {q q2 : Nat} {P f o s x t y : Int} (hA : avA l l' q P f o s y) (h1 : q2 + 1 ≠ q + 1 ∧ q2 + 1 ≠ q + 2 ∧ q2 + 2 ≠ q + 1 ∧ q2 + 2 ≠ q + 2) : spB l' q2 x t ↔ spB l q2 x t := by
  have e1 : l' (q2 + 1) x = l (q2 + 1) x := by rw [hA, if_neg (by omega), if_neg (by omega)]
  have e2 : l' (q2 + 2) x = l (q2 + 2) x := by rw [hA, if_neg (by omega), if_neg (by omega)]
  unfold spB
  rw [e1, e2]
/-- what a voice that comes adds -/
def adI (bb : Bool) (i i' : Nat → Int → Int) (k g m : Int) : Prop := ∀ a b, i' a b = if a = (ob bb + 177) ∧ b = 7 then i (ob bb + 177) 7 + 1 else if a = (ob bb + 184) ∧ 2 ^ (i (ob bb + 177) 7).toNat ≤ b ∧ b < 2 ^ (i (ob bb + 177) 7).toNat + 2 ^ (i (ob bb + 177) 7).toNat then i (ob bb + 184) (b - 2 ^ (i (ob bb + 177) 7).toNat) + g else if a = (ob bb + 186) ∧ b = i (ob bb + 177) 7 then k else if a = (ob bb + 187) ∧ b = i (ob bb + 177) 7 then g else if a = (ob bb + 188) ∧ b = i (ob bb + 177) 7 then m else i a b
def adL (bb : Bool) (l l' : Nat → Int → BitVec 64) (V g m : Int) : Prop := ∃ l1, avA l l1 (ob bb + 178) (2 ^ V.toNat) (vZ m 0) (vZ m 1) g (2 ^ V.toNat) ∧ avA l1 l' (ob bb + 181) (2 ^ V.toNat) (vZ m 2) (vZ m 3) g (2 ^ V.toNat)
theorem PL_add {i i' : Nat → Int → Int} {l l' : Nat → Int → BitVec 64} {r : List vO} {k g m : Int} (h : PL bb i l r) (hr : r.length ≤ 9) (hg : 1 ≤ g ∧ g ≤ 9) (hi : adI bb i i' k g m) (hl : adL bb l l' (i (ob bb + 177) 7) g m) : PL bb i' l' ((k, g, m) :: r) := by
  obtain ⟨h1, h2, h3, h4, h5, h6⟩ := h
  obtain ⟨l1, hA, hB⟩ := hl
  have hV : (i (ob bb + 177) 7).toNat = r.length := by omega
  rw [hV] at hA hB
  have hi' := hi
  unfold adI at hi'
  rw [hV, h1] at hi'
  have h2p : (2 : Int) ^ (r.length + 1) = 2 ^ r.length + 2 ^ r.length := by rw [Int.pow_succ]; omega
  refine ⟨by rw [hi', if_pos ⟨rfl, rfl⟩]; simp, by simp; omega, fun v hv => ?_, fun kk hk0 hk1 => ?_, fun s hs0 hs1 => ?_, fun s t hs0 hs1 ht0 ht1 => ?_⟩
  · rcases List.mem_cons.mp hv with rfl | hv
    · exact hg
    · exact h3 v hv
  · rw [List.length_cons] at hk1
    simp only [hi']
    by_cases hkl : kk = r.length
    · subst hkl
      rw [vAt_new]
      simp
    · have hkl' : kk < r.length := by omega
      rw [vAt_old hk0 hkl']
      have := h4 kk hk0 hkl'
      simp [hkl, this]
  · rw [List.length_cons, h2p] at hs1
    rw [hi']
    unfold sumS
    by_cases hs : s < 2 ^ r.length
    · rw [if_pos hs, if_neg (by omega), if_neg (by omega), if_neg (by omega), if_neg (by omega), if_neg (by omega)]
      exact h5 s hs0 hs
    · rw [if_neg hs, if_neg (by omega), if_pos ⟨rfl, by omega, by omega⟩, h5 _ (by omega) (by omega)]
      simp only
      omega
  · rw [List.length_cons, h2p] at hs1
    unfold rch
    by_cases hs : s < 2 ^ r.length
    · rw [if_pos hs, if_pos hs]
      have := h6 s t hs0 hs ht0 ht1
      rw [avB_else hB (by omega), avB_old hA hs, avB_old hB hs, avB_else hA (by omega)]
      exact this
    · rw [if_neg hs, if_neg hs]
      have hx : (2 : Int) ^ r.length ≤ s ∧ s < 2 ^ r.length + 2 ^ r.length := by omega
      rw [avB_else hB (by omega), avB hA hx hg ⟨ht0, ht1⟩, avB hB hx hg ⟨ht0, ht1⟩]
      have e1 : ∀ t, spB l1 (ob bb + 181) (s - 2 ^ r.length) t ↔ spB l (ob bb + 181) (s - 2 ^ r.length) t := fun t => avB_else hA (by omega)
      rw [e1, e1, vZ_ne, vZ_ne, vZ_ne, vZ_ne]
      have i1 := h6 (s - 2 ^ r.length) t (by omega) (by omega) ht0 ht1
      constructor
      · rw [i1.1]
        refine or_congr Iff.rfl ?_
        by_cases hgt : g ≤ t
        · rw [(h6 (s - 2 ^ r.length) (t - g) (by omega) (by omega) (by omega) (by omega)).1]
        · simp [hgt]
      · rw [i1.2]
        refine or_congr Iff.rfl ?_
        by_cases hgt : g ≤ t
        · rw [(h6 (s - 2 ^ r.length) (t - g) (by omega) (by omega) (by omega) (by omega)).2]
        · simp [hgt]

