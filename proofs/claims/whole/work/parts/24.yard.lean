/-! The yard: cell 1; statics of the class. -/
def pow10 : Nat → Int64
  | 0 => 1
  | n + 1 => pow10 n * 10
theorem ct_X10_powerOfTen {d : Nat} {S : am_S} {n : Nat} (hn : n < 2147483647) : am_CT (d + 1) iX10_powerOfTen [.int (nI n)] S (some (.long (pow10 n))) (S) := by
  refine am_CT_in mmX10_powerOfTen rfl rfl rfl ?_
  have loop : ∀ (k : Nat) (j : Nat), (j ≤ n) → (n < j + k) → am_Ex (am_Call am_MT (d + 0)) mmX10_powerOfTen none (fun r1 G1 => r1 = (some (.long (pow10 n))) ∧ G1 = am_H (S)) (fun _ _ _ _ _ _ => False) 4 [some (.int (nI n)), some (.long (pow10 j)), none, some (.int (nI j))] [] (am_H (S)) 0 0 := by
    intro k
    induction k with
    | zero =>
      intro j h1 h2
      omega
    | succ k ih =>
      intro j h1 h2
      refine r_iload_n rfl rfl ?_
      refine r_iload_n rfl rfl ?_
      refine r_icmp_ge rfl (fun h6 => ?_) (fun h6 => ?_)
      · rw [nI_leI (by omega) (by omega)] at h6
        obtain rfl : j = n := by omega
        refine r_lload_n rfl rfl ?_
        refine r_lret rfl ?_
        exact ⟨rfl, rfl⟩
      · rw [nI_leI (by omega) (by omega)] at h6
        refine r_lload_n rfl rfl ?_
        refine r_ldc2_w rfl ?_
        refine r_lmul rfl ?_
        refine r_lstore_n (L2 := [_, _, _, _]) rfl rfl ?_
        refine r_iinc (L2 := [_, _, _, _]) rfl rfl rfl ?_
        refine r_goto rfl ?_
        rw [nI_1]
        exact ih (j + 1) (by omega) (by omega)
  refine r_lconst rfl ?_
  refine r_lstore_n (L2 := [_, _, _, _]) rfl rfl ?_
  refine r_iconst rfl ?_
  refine r_istore_n (L2 := [_, _, _, _]) rfl rfl ?_
  exact loop (n + 1) 0 (by omega) (by omega)
def fEntry (k v : Int32) : Int32 := if (if k = 0 then v.toInt8.toInt32 else if k = 1 then v.toInt16.toInt32 else v) < 0 then 0 else if 20 < (if k = 0 then v.toInt8.toInt32 else if k = 1 then v.toInt16.toInt32 else v) then 20 else (if k = 0 then v.toInt8.toInt32 else if k = 1 then v.toInt16.toInt32 else v)
theorem ct_X10_sheetEntry {d : Nat} {S : am_S} {kd v : Int32} : am_CT (d + 1) iX10_sheetEntry [.int kd, .int v] S (some (.int (fEntry kd v))) (S) := by
  refine am_CT_in mmX10_sheetEntry rfl rfl rfl ?_
  refine r_iload_n rfl rfl ?_
  refine r_istore_n (L2 := [_, _, _]) rfl rfl ?_
  refine r_iload_n rfl rfl ?_
  refine r_if_ne rfl (fun h3 => ?_) (fun h3 => ?_)
  · refine r_iload_n rfl rfl ?_
    refine r_iconst rfl ?_
    refine r_icmp_ne rfl (fun h14 => ?_) (fun h14 => ?_)
    · refine r_iload_n rfl rfl ?_
      refine r_if_ge rfl (fun h21 => ?_) (fun h21 => ?_)
      · refine r_iload_n rfl rfl ?_
        refine r_bipush rfl ?_
        refine r_icmp_le rfl (fun h31 => ?_) (fun h31 => ?_)
        · refine r_iload_n rfl rfl ?_
          refine r_iret rfl rfl ?_
          exact ⟨by simp only [fEntry]; grind, rfl⟩
        · refine r_bipush rfl ?_
          refine r_goto rfl ?_
          refine r_iret rfl rfl ?_
          exact ⟨by simp only [fEntry]; grind, rfl⟩
      · refine r_iconst rfl ?_
        refine r_goto rfl ?_
        refine r_iret rfl rfl ?_
        exact ⟨by simp only [fEntry]; grind, rfl⟩
    · refine r_iload_n rfl rfl ?_
      refine r_i2s rfl ?_
      refine r_istore_n (L2 := [_, _, _]) rfl rfl ?_
      refine r_iload_n rfl rfl ?_
      refine r_if_ge rfl (fun h21 => ?_) (fun h21 => ?_)
      · refine r_iload_n rfl rfl ?_
        refine r_bipush rfl ?_
        refine r_icmp_le rfl (fun h31 => ?_) (fun h31 => ?_)
        · refine r_iload_n rfl rfl ?_
          refine r_iret rfl rfl ?_
          exact ⟨by simp only [fEntry]; grind, rfl⟩
        · refine r_bipush rfl ?_
          refine r_goto rfl ?_
          refine r_iret rfl rfl ?_
          exact ⟨by simp only [fEntry]; grind, rfl⟩
      · refine r_iconst rfl ?_
        refine r_goto rfl ?_
        refine r_iret rfl rfl ?_
        exact ⟨by simp only [fEntry]; grind, rfl⟩
  · refine r_iload_n rfl rfl ?_
    refine r_i2b rfl ?_
    refine r_istore_n (L2 := [_, _, _]) rfl rfl ?_
    refine r_goto rfl ?_
    refine r_iload_n rfl rfl ?_
    refine r_if_ge rfl (fun h21 => ?_) (fun h21 => ?_)
    · refine r_iload_n rfl rfl ?_
      refine r_bipush rfl ?_
      refine r_icmp_le rfl (fun h31 => ?_) (fun h31 => ?_)
      · refine r_iload_n rfl rfl ?_
        refine r_iret rfl rfl ?_
        exact ⟨by simp only [fEntry]; grind, rfl⟩
      · refine r_bipush rfl ?_
        refine r_goto rfl ?_
        refine r_iret rfl rfl ?_
        exact ⟨by simp only [fEntry]; grind, rfl⟩
    · refine r_iconst rfl ?_
      refine r_goto rfl ?_
      refine r_iret rfl rfl ?_
      exact ⟨by simp only [fEntry]; grind, rfl⟩
abbrev okSteer (lt fr n mo : Int32) : Prop := (0 ≤ lt ∧ lt ≤ 4) ∧ (-50 ≤ fr ∧ fr ≤ 50) ∧ (1 ≤ n ∧ n ≤ 6) ∧ (1 ≤ mo ∧ mo ≤ 4)
theorem ct_X10_canSteer {d : Nat} {S : am_S} {lt fr n mo : Int32} : am_CT (d + 2) iX10_canSteer [.int lt, .int fr, .int n, .int mo] S (some (.int (b01 (okSteer lt fr n mo)))) (S) := by
  refine am_CT_in mmX10_canSteer rfl rfl rfl ?_
  refine r_iload_n rfl rfl ?_
  refine r_iconst rfl ?_
  refine r_iconst rfl ?_
  refine r_callS rfl (by decide) ct_X10_isWithin rfl rfl (am_cnt rfl) ?_
  refine r_if_eq rfl (fun h6 => ?_) (fun h6 => ?_)
  · refine r_iconst rfl ?_
    refine r_zret rfl rfl (by simp) ?_
    exact ⟨by simp only [b01_eq0, okSteer, b01] at *; grind, rfl⟩
  · refine r_iload_n rfl rfl ?_
    refine r_bipush rfl ?_
    refine r_bipush rfl ?_
    refine r_callS rfl (by decide) ct_X10_isWithin rfl rfl (am_cnt rfl) ?_
    refine r_if_eq rfl (fun h17 => ?_) (fun h17 => ?_)
    · refine r_iconst rfl ?_
      refine r_zret rfl rfl (by simp) ?_
      exact ⟨by simp only [b01_eq0, okSteer, b01] at *; grind, rfl⟩
    · refine r_iload_n rfl rfl ?_
      refine r_iconst rfl ?_
      refine r_bipush rfl ?_
      refine r_callS rfl (by decide) ct_X10_isWithin rfl rfl (am_cnt rfl) ?_
      refine r_if_eq rfl (fun h27 => ?_) (fun h27 => ?_)
      · refine r_iconst rfl ?_
        refine r_zret rfl rfl (by simp) ?_
        exact ⟨by simp only [b01_eq0, okSteer, b01] at *; grind, rfl⟩
      · refine r_iload_n rfl rfl ?_
        refine r_iconst rfl ?_
        refine r_iconst rfl ?_
        refine r_callS rfl (by decide) ct_X10_isWithin rfl rfl (am_cnt rfl) ?_
        refine r_if_eq rfl (fun h36 => ?_) (fun h36 => ?_)
        · refine r_iconst rfl ?_
          refine r_zret rfl rfl (by simp) ?_
          exact ⟨by simp only [b01_eq0, okSteer, b01] at *; grind, rfl⟩
        · refine r_iconst rfl ?_
          refine r_goto rfl ?_
          refine r_zret rfl rfl (by simp) ?_
          exact ⟨by simp only [b01_eq0, okSteer, b01] at *; grind, rfl⟩
abbrev okRule (n : Int32) : Prop := (0 ≤ n ∧ n ≤ 222) ∧ n - n / 10 * 10 ≤ 2 ∧ n / 10 - n / 10 / 10 * 10 ≤ 2
theorem ct_X10_isRuleNumber {d : Nat} {S : am_S} {n : Int32} : am_CT (d + 2) iX10_isRuleNumber [.int n] S (some (.int (b01 (okRule n)))) (S) := by
  refine am_CT_in mmX10_isRuleNumber rfl rfl rfl ?_
  refine r_iload_n rfl rfl ?_
  refine r_iconst rfl ?_
  refine r_sipush rfl ?_
  refine r_callS rfl (by decide) ct_X10_isWithin rfl rfl (am_cnt rfl) ?_
  refine r_if_eq rfl (fun h8 => ?_) (fun h8 => ?_)
  · refine r_iconst rfl ?_
    refine r_zret rfl rfl (by simp) ?_
    exact ⟨by simp only [b01_eq0, okRule, b01] at *; grind, rfl⟩
  · refine r_iload_n rfl rfl ?_
    refine r_bipush rfl ?_
    refine r_irem rfl (by decide) ?_
    refine r_iconst rfl ?_
    refine r_icmp_gt rfl (fun h16 => ?_) (fun h16 => ?_)
    · refine r_iconst rfl ?_
      refine r_zret rfl rfl (by simp) ?_
      exact ⟨by simp only [b01_eq0, okRule, b01] at *; grind, rfl⟩
    · refine r_iload_n rfl rfl ?_
      refine r_bipush rfl ?_
      refine r_idiv rfl (by decide) ?_
      refine r_bipush rfl ?_
      refine r_irem rfl (by decide) ?_
      refine r_iconst rfl ?_
      refine r_icmp_gt rfl (fun h27 => ?_) (fun h27 => ?_)
      · refine r_iconst rfl ?_
        refine r_zret rfl rfl (by simp) ?_
        exact ⟨by simp only [b01_eq0, okRule, b01] at *; grind, rfl⟩
      · refine r_iconst rfl ?_
        refine r_goto rfl ?_
        refine r_zret rfl rfl (by simp) ?_
        exact ⟨by simp only [b01_eq0, okRule, b01] at *; grind, rfl⟩
abbrev hasP (S : am_S) (p : Int32) : Prop := 0 ≤ p ∧ p < gI S 1 1
abbrev twoP (S : am_S) (p q : Int32) : Prop := hasP S p ∧ hasP S q ∧ ¬ p = q
theorem ct_X9_has {d : Nat} {S : am_S} {p : Int32} : am_CT (d + 1) iX9_has [.ref 1, .int p] S (some (.int (b01 (hasP S p)))) (S) := by
  refine am_CT_in mmX9_has rfl rfl rfl ?_
  refine r_iload_n rfl rfl ?_
  refine r_if_lt rfl (fun h1 => ?_) (fun h1 => ?_)
  · refine r_iconst rfl ?_
    refine r_zret rfl rfl (by simp) ?_
    exact ⟨by simp only [b01]; grind, rfl⟩
  · refine r_iload_n rfl rfl ?_
    refine r_aload_n rfl rfl ?_
    refine r_getI rfl rfl (by decide) (by decide) rfl ?_
    refine r_icmp_ge rfl (fun h9 => ?_) (fun h9 => ?_)
    · refine r_iconst rfl ?_
      refine r_zret rfl rfl (by simp) ?_
      exact ⟨by simp only [b01]; grind, rfl⟩
    · refine r_iconst rfl ?_
      refine r_goto rfl ?_
      refine r_zret rfl rfl (by simp) ?_
      exact ⟨by simp only [b01]; grind, rfl⟩
theorem ct_X9_hasTwo {d : Nat} {S : am_S} {p q : Int32} : am_CT (d + 2) iX9_hasTwo [.ref 1, .int p, .int q] S (some (.int (b01 (twoP S p q)))) (S) := by
  refine am_CT_in mmX9_hasTwo rfl rfl rfl ?_
  refine r_aload_n rfl rfl ?_
  refine r_iload_n rfl rfl ?_
  refine r_callV rfl ct_X9_has rfl rfl rfl (by decide) rfl (am_cnt rfl) ?_
  refine r_if_eq rfl (fun h5 => ?_) (fun h5 => ?_)
  · refine r_iconst rfl ?_
    refine r_zret rfl rfl (by simp) ?_
    exact ⟨by simp only [b01_eq0, b01] at *; grind, rfl⟩
  · refine r_aload_n rfl rfl ?_
    refine r_iload_n rfl rfl ?_
    refine r_callV rfl ct_X9_has rfl rfl rfl (by decide) rfl (am_cnt rfl) ?_
    refine r_if_eq rfl (fun h13 => ?_) (fun h13 => ?_)
    · refine r_iconst rfl ?_
      refine r_zret rfl rfl (by simp) ?_
      exact ⟨by simp only [b01_eq0, b01] at *; grind, rfl⟩
    · refine r_iload_n rfl rfl ?_
      refine r_iload_n rfl rfl ?_
      refine r_icmp_eq rfl (fun h18 => ?_) (fun h18 => ?_)
      · refine r_iconst rfl ?_
        refine r_zret rfl rfl (by simp) ?_
        exact ⟨by simp only [b01_eq0, b01] at *; grind, rfl⟩
      · refine r_iconst rfl ?_
        refine r_goto rfl ?_
        refine r_zret rfl rfl (by simp) ?_
        exact ⟨by simp only [b01_eq0, b01] at *; grind, rfl⟩
theorem kn_person {m j : Nat} (h : j < 6) : am_kn m (6 + 2 * j) = (4, 0) := by
  match j, h with
  | 0, _ => rfl
  | 1, _ => rfl
  | 2, _ => rfl
  | 3, _ => rfl
  | 4, _ => rfl
  | 5, _ => rfl
theorem kn_more {m j : Nat} (h : j < 6) : am_kn m (6 + 2 * j + 1) = (20, 4) := by
  match j, h with
  | 0, _ => rfl
  | 1, _ => rfl
  | 2, _ => rfl
  | 3, _ => rfl
  | 4, _ => rfl
  | 5, _ => rfl
theorem cl_lt {x : Int32} {n : Nat} (h1 : 0 ≤ x) (h2 : x < Int32.ofNat n) (hn : n < 2147483648) : x.toNatClampNeg < n := by
  obtain ⟨j, hj, rfl⟩ := vp_in_of (am_vp h1 h2 hn) hn
  rw [nI_clamp (by omega)]
  exact hj
/-- the cell of a person -/
abbrev cP (p : Int32) : Nat := 6 + 2 * p.toNatClampNeg
theorem ct_X9_isNear {d : Nat} {S : am_S} {p q : Int32} (hz : gI S 1 1 ≤ 6) : am_CT (d + 3) iX9_isNear [.ref 1, .int p, .int q] S (some (.int (b01 (twoP S p q ∧ fBit (gI S (cP p) 3) q)))) (S) := by
  refine am_CT_in mmX9_isNear rfl rfl rfl ?_
  refine r_aload_n rfl rfl ?_
  refine r_iload_n rfl rfl ?_
  refine r_iload_n rfl rfl ?_
  refine r_callV rfl ct_X9_hasTwo rfl rfl rfl (by decide) rfl (am_cnt rfl) ?_
  refine r_if_eq rfl (fun h6 => ?_) (fun h6 => ?_)
  · refine r_iconst rfl ?_
    refine r_zret rfl rfl (by simp) ?_
    exact ⟨by simp only [b01_eq0, b01] at *; grind, rfl⟩
  · have h6b : twoP S p q := by simp only [b01_eq0] at h6; exact Decidable.not_not.mp h6
    have hl : p < 6 := Int32.lt_of_lt_of_le h6b.1.2 hz
    have hj : p.toNatClampNeg < 6 := cl_lt h6b.1.1 hl (by decide)
    refine r_aload_n rfl rfl ?_
    refine r_getC rfl rfl (by decide) (by decide) rfl ?_
    refine r_iload_n rfl rfl ?_
    refine r_aaldP rfl rfl (by first | exact h6b.1.1 | exact hl) (by first | exact h6b.1.1 | exact hl) ?_
    refine r_getI rfl (kn_person hj) (by decide) (by decide) rfl ?_
    refine r_iload_n rfl rfl ?_
    refine r_callS rfl (by decide) ct_X10_hasBit rfl rfl (am_cnt rfl) ?_
    refine r_if_eq rfl (fun h22 => ?_) (fun h22 => ?_)
    · refine r_iconst rfl ?_
      refine r_zret rfl rfl (by simp) ?_
      exact ⟨by simp only [b01_eq0, b01] at *; grind, rfl⟩
    · refine r_iconst rfl ?_
      refine r_goto rfl ?_
      refine r_zret rfl rfl (by simp) ?_
      exact ⟨by simp only [b01_eq0, b01] at *; grind, rfl⟩
theorem ct_X9_isSeen {d : Nat} {S : am_S} {p q : Int32} (hz : gI S 1 1 ≤ 6) : am_CT (d + 3) iX9_isSeen [.ref 1, .int p, .int q] S (some (.int (b01 (twoP S p q ∧ fBit (gI S (cP p) 4) q)))) (S) := by
  refine am_CT_in mmX9_isSeen rfl rfl rfl ?_
  refine r_aload_n rfl rfl ?_
  refine r_iload_n rfl rfl ?_
  refine r_iload_n rfl rfl ?_
  refine r_callV rfl ct_X9_hasTwo rfl rfl rfl (by decide) rfl (am_cnt rfl) ?_
  refine r_if_eq rfl (fun h6 => ?_) (fun h6 => ?_)
  · refine r_iconst rfl ?_
    refine r_zret rfl rfl (by simp) ?_
    exact ⟨by simp only [b01_eq0, b01] at *; grind, rfl⟩
  · have h6b : twoP S p q := by simp only [b01_eq0] at h6; exact Decidable.not_not.mp h6
    have hl : p < 6 := Int32.lt_of_lt_of_le h6b.1.2 hz
    have hj : p.toNatClampNeg < 6 := cl_lt h6b.1.1 hl (by decide)
    refine r_aload_n rfl rfl ?_
    refine r_getC rfl rfl (by decide) (by decide) rfl ?_
    refine r_iload_n rfl rfl ?_
    refine r_aaldP rfl rfl (by first | exact h6b.1.1 | exact hl) (by first | exact h6b.1.1 | exact hl) ?_
    refine r_getI rfl (kn_person hj) (by decide) (by decide) rfl ?_
    refine r_iload_n rfl rfl ?_
    refine r_callS rfl (by decide) ct_X10_hasBit rfl rfl (am_cnt rfl) ?_
    refine r_if_eq rfl (fun h22 => ?_) (fun h22 => ?_)
    · refine r_iconst rfl ?_
      refine r_zret rfl rfl (by simp) ?_
      exact ⟨by simp only [b01_eq0, b01] at *; grind, rfl⟩
    · refine r_iconst rfl ?_
      refine r_goto rfl ?_
      refine r_zret rfl rfl (by simp) ?_
      exact ⟨by simp only [b01_eq0, b01] at *; grind, rfl⟩
theorem kn_form {m j : Nat} (h : j < 12) : am_kn m (18 + 3 * j) = (1, 0) ∧ am_kn m (18 + 3 * j + 1) = (20, 40) ∧ am_kn m (18 + 3 * j + 2) = (20, 40) := by
  match j, h with
  | 0, _ => exact ⟨rfl, rfl, rfl⟩
  | 1, _ => exact ⟨rfl, rfl, rfl⟩
  | 2, _ => exact ⟨rfl, rfl, rfl⟩
  | 3, _ => exact ⟨rfl, rfl, rfl⟩
  | 4, _ => exact ⟨rfl, rfl, rfl⟩
  | 5, _ => exact ⟨rfl, rfl, rfl⟩
  | 6, _ => exact ⟨rfl, rfl, rfl⟩
  | 7, _ => exact ⟨rfl, rfl, rfl⟩
  | 8, _ => exact ⟨rfl, rfl, rfl⟩
  | 9, _ => exact ⟨rfl, rfl, rfl⟩
  | 10, _ => exact ⟨rfl, rfl, rfl⟩
  | 11, _ => exact ⟨rfl, rfl, rfl⟩
/-- the cell of a rule -/
abbrev cF (i : Int32) : Nat := 18 + 3 * i.toNatClampNeg
abbrev deedP (S : am_S) (i : Int32) : Prop := 0 ≤ i ∧ i < 12 ∧ i - i / 2 * 2 = 0 ∧ 0 < gI S (cF i) 1
theorem ct_X9_isDeed {d : Nat} {S : am_S} {i : Int32} : am_CT (d + 1) iX9_isDeed [.ref 1, .int i] S (some (.int (b01 (deedP S i)))) (S) := by
  refine am_CT_in mmX9_isDeed rfl rfl rfl ?_
  refine r_iload_n rfl rfl ?_
  refine r_if_lt rfl (fun h1 => ?_) (fun h1 => ?_)
  · refine r_iconst rfl ?_
    refine r_zret rfl rfl (by simp) ?_
    exact ⟨by simp only [b01] at *; grind, rfl⟩
  · refine r_iload_n rfl rfl ?_
    refine r_bipush rfl ?_
    refine r_icmp_ge rfl (fun h7 => ?_) (fun h7 => ?_)
    · refine r_iconst rfl ?_
      refine r_zret rfl rfl (by simp) ?_
      exact ⟨by simp only [b01] at *; grind, rfl⟩
    · have hj : i.toNatClampNeg < 12 := cl_lt (n := 12) (by grind) (by grind) (by decide)
      refine r_iload_n rfl rfl ?_
      refine r_iconst rfl ?_
      refine r_irem rfl (by decide) ?_
      refine r_if_ne rfl (fun h13 => ?_) (fun h13 => ?_)
      · refine r_iconst rfl ?_
        refine r_zret rfl rfl (by simp) ?_
        exact ⟨by simp only [b01] at *; grind, rfl⟩
      · refine r_aload_n rfl rfl ?_
        refine r_getC rfl rfl (by decide) (by decide) rfl ?_
        refine r_iload_n rfl rfl ?_
        refine r_aaldF rfl rfl (by grind) (by grind) ?_
        refine r_getI rfl (kn_form hj).1 (by decide) (by decide) rfl ?_
        refine r_if_le rfl (fun h25 => ?_) (fun h25 => ?_)
        · refine r_iconst rfl ?_
          refine r_zret rfl rfl (by simp) ?_
          exact ⟨by simp only [b01] at *; grind, rfl⟩
        · refine r_iconst rfl ?_
          refine r_goto rfl ?_
          refine r_zret rfl rfl (by simp) ?_
          exact ⟨by simp only [b01] at *; grind, rfl⟩
def ruleBits (f : Nat → Int32) : Nat → Int32
  | 0 => 0
  | n + 1 => fWith (ruleBits f n) (nI n) (if f n ≤ 0 then 0 else 1)
theorem ct_X9_toldRules {d : Nat} {S : am_S} : am_CT (d + 2) iX9_toldRules [.ref 1] S (some (.int (ruleBits (fun j => gI S (18 + 3 * j) 1) 12))) (S) := by
  refine am_CT_in mmX9_toldRules rfl rfl rfl ?_
  have loop : ∀ (k : Nat) (j : Nat) (w : Int32), (j ≤ 12) → (12 < j + k) → (w = ruleBits (fun j => gI S (18 + 3 * j) 1) j) → am_Ex (am_Call am_MT (d + 1)) mmX9_toldRules none (fun r1 G1 => r1 = (some (.int (ruleBits (fun j => gI S (18 + 3 * j) 1) 12))) ∧ G1 = am_H (S)) (fun _ _ _ _ _ _ => False) 4 [some (.ref 1), some (.int w), some (.int (nI j))] [] (am_H (S)) 0 0 := by
    intro k
    induction k with
    | zero =>
      intro j w h1 h2 h3
      omega
    | succ k ih =>
      intro j w h1 h2 h3
      have b1 : (nI j).toNatClampNeg = j := nI_clamp (by omega)
      have s1 : 0 ≤ nI j := nI_pos' (by omega)
      have c1 : (12 : Int32) ≤ nI j ↔ 12 ≤ j := nI_leI (a := 12) (by omega) (by omega)
      refine r_iload_n rfl rfl ?_
      refine r_bipush rfl ?_
      refine r_icmp_ge rfl (fun h7 => ?_) (fun h7 => ?_)
      · obtain rfl : j = 12 := by have := c1.mp h7; omega
        rw [h3]
        refine r_iload_n rfl rfl ?_
        refine r_iret rfl rfl ?_
        exact ⟨rfl, rfl⟩
      · have hj : j < 12 := Nat.lt_of_not_le fun z => h7 (c1.mpr z)
        have s2 : nI j < 12 := Int32.not_le.mp h7
        refine r_iload_n rfl rfl ?_
        refine r_iload_n rfl rfl ?_
        refine r_aload_n rfl rfl ?_
        refine r_getC rfl rfl (by decide) (by decide) rfl ?_
        refine r_iload_n rfl rfl ?_
        refine r_aaldF rfl rfl (by first | exact s1 | exact s2) (by first | exact s1 | exact s2) ?_
        refine r_getI rfl (by rw [b1]; exact (kn_form hj).1) (by decide) (by decide) rfl ?_
        refine r_if_le rfl (fun h21 => ?_) (fun h21 => ?_)
        · rw [b1] at h21
          refine r_iconst rfl ?_
          refine r_callS rfl (by decide) ct_X10_withBit rfl rfl (am_cnt rfl) ?_
          refine r_istore_n (L2 := [_, _, _]) rfl rfl ?_
          refine r_iinc (L2 := [_, _, _]) rfl rfl rfl ?_
          refine r_goto rfl ?_
          rw [nI_1]
          exact ih (j + 1) _ (by omega) (by omega) (by rw [ruleBits, ← h3]; first | rw [if_pos h21] | rw [if_neg h21])
        · rw [b1] at h21
          refine r_iconst rfl ?_
          refine r_goto rfl ?_
          refine r_callS rfl (by decide) ct_X10_withBit rfl rfl (am_cnt rfl) ?_
          refine r_istore_n (L2 := [_, _, _]) rfl rfl ?_
          refine r_iinc (L2 := [_, _, _]) rfl rfl rfl ?_
          refine r_goto rfl ?_
          rw [nI_1]
          exact ih (j + 1) _ (by omega) (by omega) (by rw [ruleBits, ← h3]; first | rw [if_pos h21] | rw [if_neg h21])
  refine r_iconst rfl ?_
  refine r_istore_n (L2 := [_, _, _]) rfl rfl ?_
  refine r_iconst rfl ?_
  refine r_istore_n (L2 := [_, _, _]) rfl rfl ?_
  exact loop 13 0 _ (by omega) (by omega) rfl
