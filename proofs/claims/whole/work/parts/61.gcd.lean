/-! The class's greatest that divides both is the greatest that divides both. -/
theorem frG_0 {f : Nat} {a : Int64} (hf : 1 ≤ f) : frG f a (lN 0) = a := by
  obtain ⟨j, rfl⟩ : ∃ j, f = j + 1 := ⟨f - 1, by omega⟩
  exact if_pos rfl
theorem frG_s {f x y : Nat} (hx : x < 9223372036854775808) (hy : y < 9223372036854775808) (h0 : ¬ y = 0) : frG (f + 1) (lN x) (lN y) = frG f (lN y) (lN (x % y)) := by
  have e0 : lN y = 0 ↔ y = 0 := pk_lEQ (b := 0) hy (by decide)
  rw [frG, if_neg (fun z => h0 (e0.mp z)), pk_lRem hx (by omega) hy]
theorem frG_gcd : ∀ (k f x y : Nat), x < 9223372036854775808 → y < 9223372036854775808 → y < 2 ^ k → 2 * k + 1 ≤ f → frG f (lN x) (lN y) = lN (Nat.gcd x y)
  | 0, f, x, y, _, _, hk, hf => by
    obtain rfl : y = 0 := by
      rw [Nat.pow_zero] at hk
      omega
    rw [frG_0 (by omega), Nat.gcd_zero_right]
  | k + 1, f, x, y, hx, hy, hk, hf => by
    by_cases h0 : y = 0
    · subst h0
      rw [frG_0 (by omega), Nat.gcd_zero_right]
    · obtain ⟨f1, rfl⟩ : ∃ j, f = j + 1 := ⟨f - 1, by omega⟩
      have r1 : x % y < y := Nat.mod_lt _ (by omega)
      have g1 : Nat.gcd x y = Nat.gcd y (x % y) := by rw [Nat.gcd_comm x y, Nat.gcd_rec y x, Nat.gcd_comm]
      rw [frG_s hx hy h0, g1]
      generalize x % y = r at r1
      by_cases hr : r = 0
      · subst hr
        rw [frG_0 (by omega), Nat.gcd_zero_right]
      · obtain ⟨f2, rfl⟩ : ∃ j, f1 = j + 1 := ⟨f1 - 1, by omega⟩
        have r2 : y % r < r := Nat.mod_lt _ (by omega)
        have g2 : Nat.gcd y r = Nat.gcd r (y % r) := by rw [Nat.gcd_comm y r, Nat.gcd_rec r y, Nat.gcd_comm]
        have dm := Nat.div_add_mod y r
        have dv : 1 ≤ y / r := (Nat.le_div_iff_mul_le (by omega)).mpr (by omega)
        have ml : r * 1 ≤ r * (y / r) := Nat.mul_le_mul_left r dv
        have hp : 2 ^ (k + 1) = 2 ^ k * 2 := Nat.pow_succ 2 k
        rw [frG_s hy (by omega) hr, g2]
        exact frG_gcd k f2 r (y % r) (by omega) (by omega) (by omega) (by omega)
