/-! To and fro: the class's count is the reference's. -/
theorem knw_knM {A B tp tq m : Nat} (hA : ¬ A = 1000000) (hB : ¬ B = 1000000) : ∀ f c t, c + f = 99 → knwN A B tp tq m (f + 1) c (knT A B tp tq c t) = knM A B tp tq m f c t
  | 0, c, t, h => by
    rw [knwN, if_neg (fun z => by omega), knM]
  | f + 1, c, t, h => by
    rw [knwN, knM]
    generalize hu : knT A B tp tq c t = u
    by_cases hm : m < u
    · rw [if_pos hm, if_neg (fun z => by omega)]
    · rw [if_neg hm, if_pos ⟨by omega, by omega⟩]
      have e : (if (c + 1) % 2 = 1 then u + (tq + B) else u + (tp + A)) = knT A B tp tq (c + 1) u := by
        unfold knT
        by_cases hp : (c + 1) % 2 = 1
        · rw [if_pos hp, if_neg (by omega), if_neg hB, Nat.add_comm tq B]
        · rw [if_neg hp, if_pos (by omega), if_neg hA, if_neg (by omega), Nat.add_comm tp A]
      rw [e]
      exact knw_knM hA hB f (c + 1) u (by omega)
theorem know_eq {A B tp tq m : Nat} (hA : ¬ A = 1000000) (hB : ¬ B = 1000000) : knwN A B tp tq m 100 0 A = knM A B tp tq m 99 0 0 := by
  have e := knw_knM (tp := tp) (tq := tq) (m := m) hA hB 99 0 0 (by decide)
  have e2 : knT A B tp tq 0 0 = A := by
    rw [knT, if_pos rfl, if_neg hA, if_pos rfl]
    omega
  rw [e2] at e
  exact e
