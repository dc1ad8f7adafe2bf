/-! The best rules: the same ones. -/
theorem two_le {m : Pay} {i j : Nat} (hj : j < 27) : smZ m (ru i) (ru j) ≤ pbv m i := by
  unfold pbv
  rw [sm_e2 m (ru i) (ru j), sm_e2 m (ru i) (bo m i)]
  have e : ∀ a, bo m i a = bsN (br2 m (ru i) a) 2 := fun a => bth0 _
  rw [e 0, e 1, e 2]
  have a := bsN_top (br2 m (ru i) 0) 2 (ru j 0) (by have := ru_lt hj 0 (by omega); omega)
  have b := bsN_top (br2 m (ru i) 1) 2 (ru j 1) (by have := ru_lt hj 1 (by omega); omega)
  have c := bsN_top (br2 m (ru i) 2) 2 (ru j 2) (by have := ru_lt hj 2 (by omega); omega)
  omega
theorem two_lt {m : Pay} {i j : Nat} (hj : j < 27) (h : j < bo m i 0 * 9 + bo m i 1 * 3 + bo m i 2) : smZ m (ru i) (ru j) < pbv m i := by
  unfold pbv
  rw [sm_e2 m (ru i) (ru j), sm_e2 m (ru i) (bo m i)]
  have e : ∀ a, bo m i a = bsN (br2 m (ru i) a) 2 := fun a => bth0 _
  have l0 := bo_lt (m := m) (k := i) 0 (by omega)
  have l1 := bo_lt (m := m) (k := i) 1 (by omega)
  have l2 := bo_lt (m := m) (k := i) 2 (by omega)
  rw [e 0] at l0 h
  rw [e 1] at l1 h
  rw [e 2] at l2 h
  rw [e 0, e 1, e 2]
  have a := bsN_top (br2 m (ru i) 0) 2 (ru j 0) (by have := ru_lt hj 0 (by omega); omega)
  have b := bsN_top (br2 m (ru i) 1) 2 (ru j 1) (by have := ru_lt hj 1 (by omega); omega)
  have c := bsN_top (br2 m (ru i) 2) 2 (ru j 2) (by have := ru_lt hj 2 (by omega); omega)
  have a2 := bsN_fst (br2 m (ru i) 0) 2 (ru j 0)
  have b2 := bsN_fst (br2 m (ru i) 1) 2 (ru j 1)
  have c2 := bsN_fst (br2 m (ru i) 2) 2 (ru j 2)
  have dj : ru j 0 * 9 + ru j 1 * 3 + ru j 2 = j := by
    show (if (0 : Nat) = 0 then j / 9 else _) * 9 + (if (1 : Nat) = 0 then _ else if (1 : Nat) = 1 then j / 3 % 3 else _) * 3 + (if (2 : Nat) = 0 then _ else if (2 : Nat) = 1 then _ else j % 3) = j
    rw [if_pos rfl, if_neg (by decide), if_pos rfl, if_neg (by decide), if_neg (by decide)]
    omega
  have r1 := ru_lt hj 1 (by omega)
  have r2 := ru_lt hj 2 (by omega)
  by_cases h0 : ru j 0 < bsN (br2 m (ru i) 0) 2
  · have := a2 h0; omega
  · by_cases h1 : ru j 1 < bsN (br2 m (ru i) 1) 2
    · have := b2 h1; omega
    · have := c2 (by omega); omega
theorem best_eq (m : Pay) : b2I m 728 = 27 * pbI m 26 + (bo m (pbI m 26) 0 * 9 + bo m (pbI m 26) 1 * 3 + bo m (pbI m 26) 2) ∧ b2v m (b2I m 728) = pbv m (pbI m 26) := by
  have lp := pbI_le m 26
  have l0 := bo_lt (m := m) (k := pbI m 26) 0 (by omega)
  have l1 := bo_lt (m := m) (k := pbI m 26) 1 (by omega)
  have l2 := bo_lt (m := m) (k := pbI m 26) 2 (by omega)
  have lb := b2I_le m 728
  have vI : b2v m (27 * pbI m 26 + (bo m (pbI m 26) 0 * 9 + bo m (pbI m 26) 1 * 3 + bo m (pbI m 26) 2)) = pbv m (pbI m 26) := by
    unfold b2v
    rw [show (27 * pbI m 26 + (bo m (pbI m 26) 0 * 9 + bo m (pbI m 26) 1 * 3 + bo m (pbI m 26) 2)) / 27 = pbI m 26 by omega, show (27 * pbI m 26 + (bo m (pbI m 26) 0 * 9 + bo m (pbI m 26) 1 * 3 + bo m (pbI m 26) 2)) % 27 = bo m (pbI m 26) 0 * 9 + bo m (pbI m 26) 1 * 3 + bo m (pbI m 26) 2 by omega]
    exact smZ_congr (fun _ _ => rfl) (ru_of bo_lt)
  have up : b2v m (b2I m 728) ≤ pbv m (pbI m 26) := Int.le_trans (two_le (i := b2I m 728 / 27) (by omega)) (pbI_top m 26 _ (by omega))
  have dn := b2I_top m 728 (27 * pbI m 26 + (bo m (pbI m 26) 0 * 9 + bo m (pbI m 26) 1 * 3 + bo m (pbI m 26) 2)) (by omega)
  rw [vI] at dn
  have veq : b2v m (b2I m 728) = pbv m (pbI m 26) := by omega
  refine ⟨?_, veq⟩
  apply Decidable.byContradiction
  intro z
  by_cases hlt : 27 * pbI m 26 + (bo m (pbI m 26) 0 * 9 + bo m (pbI m 26) 1 * 3 + bo m (pbI m 26) 2) < b2I m 728
  · have := b2I_fst m 728 _ hlt
    omega
  · by_cases hi : b2I m 728 / 27 < pbI m 26
    · have a := pbI_fst m 26 _ hi
      have b : b2v m (b2I m 728) ≤ pbv m (b2I m 728 / 27) := two_le (by omega)
      omega
    · have hi2 : b2I m 728 / 27 = pbI m 26 := by omega
      have b : b2v m (b2I m 728) < pbv m (b2I m 728 / 27) := two_lt (by omega) (by rw [hi2]; omega)
      rw [hi2] at b
      omega
