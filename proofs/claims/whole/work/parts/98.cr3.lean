/-! The relation holds at first. -/
theorem s0_56 {k : Nat} (hk : k < 4) (x : Nat) : gI am_S0 (56 + k) x = 0 := by
  match k, hk with
  | 0, _ => rfl
  | 1, _ => rfl
  | 2, _ => rfl
  | 3, _ => rfl
theorem s0_bit {p q : Nat} (hq : q < 6) : ¬ fBit (gI am_S0 102 p) (nI q) := by
  have e : gI am_S0 102 p = 0 := rfl
  rw [e]
  match q, hq with
  | 0, _ => decide
  | 1, _ => decide
  | 2, _ => decide
  | 3, _ => decide
  | 4, _ => decide
  | 5, _ => decide
theorem s0_6 {p : Nat} (h : p < 6) : p = 0 ∨ p = 1 ∨ p = 2 ∨ p = 3 ∨ p = 4 ∨ p = 5 := by omega
theorem s0_Ppl : rPpl am_S0 0 := by
  refine ⟨by decide, by decide +kernel, by decide +kernel, fun p hp => ?_⟩
  rcases s0_6 hp with rfl | rfl | rfl | rfl | rfl | rfl <;> decide +kernel
theorem s0_Fog : rFog am_S0 0 := by
  intro p hp
  refine ⟨fun h => absurd h (Nat.not_lt_zero p), fun _ => ?_⟩
  rcases s0_6 hp with rfl | rfl | rfl | rfl | rfl | rfl <;> decide +kernel
theorem s0_Crs : rCrs am_S0 0 0 := by
  refine ⟨by decide, by decide +kernel, by decide +kernel, by decide +kernel, by decide +kernel, fun m hm => ?_, fun k p m hk hp => ⟨fun h => absurd h (Nat.not_lt_zero p), fun _ _ => ⟨s0_56 hk _, rfl⟩⟩⟩
  obtain rfl : m = 0 := by omega
  rfl
theorem s0_R {i : Nat} (hi : i < 3) : gR am_S0 (1 + i) = 0 := by
  match i, hi with
  | 0, _ => rfl
  | 1, _ => rfl
  | 2, _ => rfl
theorem s0_Kpt : rKpt am_S0 0 := by
  refine ⟨rfl, fun i j hi _ _ _ => s0_R hi, fun i hi => ⟨by rw [s0_R hi]; exact Nat.zero_le _, Or.inl ⟨s0_R hi, rfl⟩⟩⟩
theorem s0_WF {w : Nat} {cs : Nat → Int32} : WF w cs 0 := ⟨by decide, fun n hn => absurd hn (Nat.not_lt_zero n), Or.inl rfl⟩
theorem s0_Frm : rFrm am_S0 := by
  intro i hi
  have h : i = 0 ∨ i = 1 ∨ i = 2 ∨ i = 3 ∨ i = 4 ∨ i = 5 ∨ i = 6 ∨ i = 7 ∨ i = 8 ∨ i = 9 ∨ i = 10 ∨ i = 11 := by omega
  refine ⟨0, ?_, ?_, fun j hj => absurd hj (Nat.not_lt_zero j), s0_WF⟩
  · rcases h with rfl | rfl | rfl | rfl | rfl | rfl | rfl | rfl | rfl | rfl | rfl | rfl <;> decide +kernel
  · rfl
theorem s0_Pay : rPay am_S0 := by
  refine ⟨⟨0, by decide +kernel, ⟨by decide +kernel, fun j hj => absurd hj (Nat.not_lt_zero j), s0_WF⟩, fun i j a b _ _ _ _ => rfl⟩, fun k hk => ?_⟩
  have h : k = 0 ∨ k = 1 ∨ k = 2 ∨ k = 3 ∨ k = 4 ∨ k = 5 ∨ k = 6 ∨ k = 7 ∨ k = 8 := by omega
  rcases h with rfl | rfl | rfl | rfl | rfl | rfl | rfl | rfl | rfl <;> decide +kernel
theorem s0_Idl : rIdl am_S0 := by
  intro p hp
  rcases s0_6 hp with rfl | rfl | rfl | rfl | rfl | rfl <;> decide +kernel
theorem rm_S0 : RM am_S0 := ⟨0, 0, ⟨s0_Ppl, fun p q _ hq h => absurd h (s0_bit hq), s0_Fog, ⟨99, 0, 0, by decide, by decide, by decide +kernel, by decide +kernel, by decide +kernel, by decide +kernel, by decide +kernel, by decide +kernel⟩, s0_Crs, s0_Kpt, s0_Frm, s0_Pay, s0_Idl, ⟨0, by decide, by decide +kernel, by decide +kernel, fun i hi => absurd hi (Nat.not_lt_zero i)⟩, ⟨Or.inl ⟨rfl, rfl⟩, Or.inl rfl⟩⟩, ⟨0, by decide, by decide +kernel, by decide +kernel, fun j hj => absurd hj (Nat.not_lt_zero j)⟩⟩
