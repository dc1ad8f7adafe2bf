/-! Bits. -/
theorem and31 {k : Nat} (h : k < 32) : nI k &&& 31 = nI k := by
  rw [pk_andN (by omega) 5 (by decide), Nat.mod_eq_of_lt (by omega)]
theorem sm32 : ∀ k, k < 32 → ((nI k).toBitVec.smod 32).toNat = k := by decide
theorem fbit_iff {w : Int32} {k : Nat} (h : k < 32) : fBit w (nI k) ↔ w.toBitVec.getLsbD k = true := by
  unfold fBit
  rw [and31 h, pk_and _ 1 (by decide)]
  have e : (w >>> nI k).toBitVec = w.toBitVec.sshiftRight k := by
    rw [Int32.toBitVec_shiftRight, BitVec.sshiftRight_eq', sm32 k h]
  rw [e]
  have e2 : (w.toBitVec.sshiftRight k).getLsbD 0 = w.toBitVec.getLsbD k := by
    rw [BitVec.getLsbD_sshiftRight, if_pos (by omega)]
    simp
  rw [← e2]
  generalize w.toBitVec.sshiftRight k = x
  have e3 : x.getLsbD 0 = decide (x.toNat % 2 = 1) := by
    show x.toNat.testBit 0 = _
    exact Nat.testBit_zero _
  rw [e3, Nat.pow_one, decide_eq_true_eq]
  have : x.toNat % 2 < 2 := Nat.mod_lt _ (by decide)
  constructor
  · intro z
    apply Decidable.byContradiction
    intro y
    have : x.toNat % 2 = 0 := by omega
    exact z (by rw [this]; rfl)
  · intro z y
    rw [z] at y
    exact absurd y (by decide)
theorem fwith_b {w f : Int32} {i j : Nat} (hi : i < 32) (hj : j < 32) : (fWith w (nI i) f).toBitVec.getLsbD j = if i = j then decide (¬ f = 0) else w.toBitVec.getLsbD j := by
  have e1 : ((1 : Int32) <<< nI i).toBitVec.getLsbD j = decide (i = j) := by
    rw [Int32.toBitVec_shiftLeft, BitVec.shiftLeft_eq', sm32 i hi, BitVec.getLsbD_shiftLeft]
    show (decide (j < 32) && !decide (j < i) && (1#32).getLsbD (j - i)) = _
    rw [BitVec.getLsbD_one]
    by_cases h : i = j
    · subst h; simp [hi]
    · have : ¬ (j < 32 ∧ ¬ j < i ∧ j - i = 0) := by omega
      simp [h]
      omega
  unfold fWith
  rw [and31 hi]
  split
  · rename_i h0
    rw [Int32.toBitVec_and, BitVec.getLsbD_and, Int32.toBitVec_xor, BitVec.getLsbD_xor, e1]
    have e2 : (-1 : Int32).toBitVec.getLsbD j = true := by
      have : (-1 : Int32).toBitVec = BitVec.allOnes 32 := by decide
      rw [this, BitVec.getLsbD_allOnes]
      simp [hj]
    rw [e2]
    by_cases h : i = j
    · simp [h, h0]
    · simp [h]
  · rename_i h0
    rw [Int32.toBitVec_or, BitVec.getLsbD_or, e1]
    by_cases h : i = j
    · simp [h, h0]
    · simp [h]
theorem fwith_iff {w f : Int32} {i j : Nat} (hi : i < 32) (hj : j < 32) : fBit (fWith w (nI i) f) (nI j) ↔ if i = j then ¬ f = 0 else fBit w (nI j) := by
  rw [fbit_iff hj, fwith_b hi hj]
  split
  · simp
  · rw [fbit_iff hj]
theorem bits_ext {v w : Int32} (h : ∀ j, j < 32 → v.toBitVec.getLsbD j = w.toBitVec.getLsbD j) : v = w := by
  apply Int32.toBitVec_inj.mp
  apply BitVec.eq_of_getLsbD_eq
  intro i hi
  exact h i hi
/-- the bits of some below n -/
def bitsN (p : Nat → Prop) [DecidablePred p] : Nat → Int32
  | 0 => 0
  | n + 1 => bitsN p n ||| (if p n then 1 <<< (nI n &&& 31) else 0)
