/-! The best rules of the class are the first best of all. -/
theorem bsN_fst (h : Nat → Int) : ∀ n t, t < bsN h n → h t < h (bsN h n)
  | 0, t, ht => absurd ht (Nat.not_lt_zero t)
  | n + 1, t, ht => by
    unfold bsN at ht ⊢
    by_cases hc : h (bsN h n) < h (n + 1)
    · rw [if_pos hc] at ht ⊢
      have := bsN_top h n t (by omega)
      omega
    · rw [if_neg hc] at ht ⊢
      exact bsN_fst h n t ht
theorem bth0 (h : Nat → Int) : bth h 0 = bsN h 2 := by
  unfold bth
  by_cases hc : h 0 = h (bsN h 2)
  · rw [if_pos hc]
    apply Decidable.byContradiction
    intro z
    have := bsN_fst h 2 0 (by omega)
    omega
  · rw [if_neg hc]
theorem b2I_top (m : Pay) : ∀ n t, t ≤ n → b2v m t ≤ b2v m (b2I m n)
  | 0, t, ht => by
    obtain rfl : t = 0 := by omega
    exact Int.le_refl _
  | n + 1, t, ht => by
    unfold b2I
    have e : ∀ u, u ≤ n → b2v m u ≤ b2v m (b2I m n) := fun u hu => b2I_top m n u hu
    by_cases hc : b2v m (b2I m n) < b2v m (n + 1)
    · rw [if_pos hc]
      by_cases h1 : t = n + 1
      · rw [h1]; exact Int.le_refl _
      · have := e t (by omega); omega
    · rw [if_neg hc]
      by_cases h1 : t = n + 1
      · rw [h1]; omega
      · exact e t (by omega)
theorem b2I_fst (m : Pay) : ∀ n t, t < b2I m n → b2v m t < b2v m (b2I m n)
  | 0, t, ht => absurd ht (Nat.not_lt_zero t)
  | n + 1, t, ht => by
    unfold b2I at ht ⊢
    by_cases hc : b2v m (b2I m n) < b2v m (n + 1)
    · rw [if_pos hc] at ht ⊢
      have := b2I_top m n t (by omega)
      omega
    · rw [if_neg hc] at ht ⊢
      exact b2I_fst m n t ht
theorem pbI_top (m : Pay) : ∀ n t, t ≤ n → pbv m t ≤ pbv m (pbI m n)
  | 0, t, ht => by
    obtain rfl : t = 0 := by omega
    exact Int.le_refl _
  | n + 1, t, ht => by
    unfold pbI
    have e : ∀ u, u ≤ n → pbv m u ≤ pbv m (pbI m n) := fun u hu => pbI_top m n u hu
    by_cases hc : pbv m (pbI m n) < pbv m (n + 1)
    · rw [if_pos hc]
      by_cases h1 : t = n + 1
      · rw [h1]; exact Int.le_refl _
      · have := e t (by omega); omega
    · rw [if_neg hc]
      by_cases h1 : t = n + 1
      · rw [h1]; omega
      · exact e t (by omega)
theorem pbI_fst (m : Pay) : ∀ n t, t < pbI m n → pbv m t < pbv m (pbI m n)
  | 0, t, ht => absurd ht (Nat.not_lt_zero t)
  | n + 1, t, ht => by
    unfold pbI at ht ⊢
    by_cases hc : pbv m (pbI m n) < pbv m (n + 1)
    · rw [if_pos hc] at ht ⊢
      have := pbI_top m n t (by omega)
      omega
    · rw [if_neg hc] at ht ⊢
      exact pbI_fst m n t ht
