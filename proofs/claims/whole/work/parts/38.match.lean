/-! Two who each see an end of it: cell 86; weights 87, the pay 88, paid 91, rules 92, 93, the best 94, 95, signs 96. -/
def iJ (z : Int) : Int64 := Int64.ofInt z
theorem iJ_add (a b : Int) : iJ a + iJ b = iJ (a + b) := (Int64.ofInt_add a b).symm
theorem iJ_sub (a b : Int) : iJ a - iJ b = iJ (a - b) := (Int64.ofInt_sub a b).symm
abbrev okZ (z : Int) : Prop := -9000000000000000000 ≤ z ∧ z ≤ 9000000000000000000
theorem iJ_T {z : Int} (h : okZ z) : (iJ z).toInt = z := Int64.toInt_ofInt_of_le (by have := h.1; omega) (by have := h.2; omega)
theorem iJ_lt {a b : Int} (ha : okZ a) (hb : okZ b) : iJ a < iJ b ↔ a < b := by rw [fa_lt64, iJ_T ha, iJ_T hb]
theorem iJ_le {a b : Int} (ha : okZ a) (hb : okZ b) : iJ a ≤ iJ b ↔ a ≤ b := by rw [fa_le64, iJ_T ha, iJ_T hb]
theorem iJ_eq {a b : Int} (ha : okZ a) (hb : okZ b) : iJ a = iJ b ↔ a = b := ⟨fun z => by rw [← iJ_T ha, ← iJ_T hb, z], fun z => by rw [z]⟩
def sumZ (f : Nat → Int) : Nat → Int
  | 0 => 0
  | n + 1 => sumZ f n + f n
abbrev Pay : Type := Nat → Nat → Nat → Nat → Int
def MW (m : Pay) (S : am_S) : Prop := ∀ i j a b, i < 3 → j < 3 → a < 3 → b < 3 → (gI S 87 (i * 3 + j)).toInt64 * (gI S 91 ((i * 3 + j) * 9 + a * 3 + b)).toInt64 = iJ (m i j a b)
def Bd (m : Pay) : Prop := ∀ i j a b, i < 3 → j < 3 → a < 3 → b < 3 → -220000000000 ≤ m i j a b ∧ m i j a b ≤ 220000000000
def RW (S : am_S) (c : Nat) (x : Nat → Nat) : Prop := ∀ i, i < 3 → gI S c i = nI (x i) ∧ x i < 3
theorem ct_X3_worth {d : Nat} {S : am_S} {m : Pay} {i j a b : Nat} (hM : MW m S) (hi : i < 3) (hj : j < 3) (ha : a < 3) (hb : b < 3) : am_CT (d + 1) iX3_worth [.ref 86, .int (nI i), .int (nI j), .int (nI a), .int (nI b)] S (some (.long (iJ (m i j a b)))) (S) := by
  refine am_CT_in mmX3_worth rfl rfl rfl ?_
  have e1 : nI i * 3 + nI j = nI (i * 3 + j) := (congrArg (fun z => z + nI j) (pk_mul i 3)).trans (nI_add _ _)
  have e2 : nI (i * 3 + j) * 9 + nI a * 3 + nI b = nI ((i * 3 + j) * 9 + a * 3 + b) := by
    rw [show nI (i * 3 + j) * 9 = nI ((i * 3 + j) * 9) from pk_mul _ 9, show nI a * 3 = nI (a * 3) from pk_mul _ 3, nI_add, nI_add]
  have b1 : (nI (i * 3 + j)).toNatClampNeg = i * 3 + j := nI_clamp (by omega)
  have b2 : (nI ((i * 3 + j) * 9 + a * 3 + b)).toNatClampNeg = (i * 3 + j) * 9 + a * 3 + b := nI_clamp (by omega)
  have s1 : 0 ≤ nI (i * 3 + j) := nI_pos' (by omega)
  have s2 : nI (i * 3 + j) < Int32.ofNat 9 := nI_lt (by omega) (by omega)
  have s3 : 0 ≤ nI ((i * 3 + j) * 9 + a * 3 + b) := nI_pos' (by omega)
  have s4 : nI ((i * 3 + j) * 9 + a * 3 + b) < Int32.ofNat 81 := nI_lt (by omega) (by omega)
  refine r_iload_n rfl rfl ?_
  refine r_iconst rfl ?_
  refine r_imul rfl ?_
  refine r_iload_n rfl rfl ?_
  refine r_iadd rfl ?_
  rw [e1]
  refine r_istore (L2 := [_, _, _, _, _, _, _]) rfl rfl ?_
  refine r_iload rfl rfl ?_
  refine r_bipush rfl ?_
  refine r_imul rfl ?_
  refine r_iload_n rfl rfl ?_
  refine r_iconst rfl ?_
  refine r_imul rfl ?_
  refine r_iadd rfl ?_
  refine r_iload rfl rfl ?_
  refine r_iadd rfl ?_
  rw [e2]
  refine r_istore (L2 := [_, _, _, _, _, _, _]) rfl rfl ?_
  refine r_iload rfl rfl ?_
  refine r_if_lt rfl (fun h23 => ?_) (fun h23 => ?_)
  · exact absurd s3 (Int32.not_le.mpr h23)
  · refine r_iload rfl rfl ?_
    refine r_aload_n rfl rfl ?_
    refine r_getC rfl rfl (by decide) (by decide) rfl ?_
    refine r_alen rfl rfl (by decide) ?_
    refine r_icmp_ge rfl (fun h33 => ?_) (fun h33 => ?_)
    · exact absurd s4 (Int32.not_lt.mpr h33)
    · refine r_iload rfl rfl ?_
      refine r_aload_n rfl rfl ?_
      refine r_getC rfl rfl (by decide) (by decide) rfl ?_
      refine r_alen rfl rfl (by decide) ?_
      refine r_icmp_lt rfl (fun h43 => ?_) (fun h43 => ?_)
      · refine r_aload_n rfl rfl ?_
        refine r_getC rfl rfl (by decide) (by decide) rfl ?_
        refine r_iload rfl rfl ?_
        refine r_iald rfl rfl (by first | decide | assumption) (by first | exact s1 | exact s2 | exact s3 | exact s4) (by first | exact s1 | exact s2 | exact s3 | exact s4) ?_
        refine r_i2l rfl ?_
        refine r_aload_n rfl rfl ?_
        refine r_getC rfl rfl (by decide) (by decide) rfl ?_
        refine r_iload rfl rfl ?_
        refine r_iald rfl rfl (by first | decide | assumption) (by first | exact s1 | exact s2 | exact s3 | exact s4) (by first | exact s1 | exact s2 | exact s3 | exact s4) ?_
        refine r_i2l rfl ?_
        refine r_lmul rfl ?_
        refine r_lret rfl ?_
        rw [b1, b2, hM i j a b hi hj ha hb]
        exact ⟨rfl, rfl⟩
      · exact absurd s2 h43
/-- what both rules bring -/
def smZ (m : Pay) (x y : Nat → Nat) : Int := sumZ (fun i => sumZ (fun j => m i j (x i) (y j)) 3) 3
theorem ct_X3_sum {d : Nat} {S : am_S} {m : Pay} {x y : Nat → Nat} (hM : MW m S) (hx : RW S 92 x) (hy : RW S 93 y) : am_CT (d + 2) iX3_sum [.ref 86] S (some (.long (iJ (smZ m x y)))) (S) := by
  refine am_CT_in mmX3_sum rfl rfl rfl ?_
  have loop : ∀ (k : Nat) (i : Nat) (v4 : Option Value), (i ≤ 3) → (3 < i + k) → am_Ex (am_Call am_MT (d + 1)) mmX3_sum none (fun r1 G1 => r1 = (some (.long (iJ (smZ m x y)))) ∧ G1 = am_H (S)) (fun _ _ _ _ _ _ => False) 4 [some (.ref 86), some (.long (iJ (sumZ (fun i => sumZ (fun j => m i j (x i) (y j)) 3) i))), none, some (.int (nI i)), v4] [] (am_H (S)) 0 0 := by
    intro k
    induction k with
    | zero =>
      intro i v4 q1 q2
      omega
    | succ k ih =>
      intro i v4 q1 q2
      have bi : (nI i).toNatClampNeg = i := nI_clamp (by omega)
      have s1 : 0 ≤ nI i := nI_pos' (by omega)
      have loop2 : ∀ (k2 : Nat) (j : Nat), (i < 3) → (j ≤ 3) → (3 < j + k2) → am_Ex (am_Call am_MT (d + 1)) mmX3_sum none (fun r1 G1 => r1 = (some (.long (iJ (smZ m x y)))) ∧ G1 = am_H (S)) (fun _ _ _ _ _ _ => False) 12 [some (.ref 86), some (.long (iJ (sumZ (fun i => sumZ (fun j => m i j (x i) (y j)) 3) i + sumZ (fun j => m i j (x i) (y j)) j))), none, some (.int (nI i)), some (.int (nI j))] [] (am_H (S)) 0 0 := by
        intro k2
        induction k2 with
        | zero =>
          intro j q0 p1 p2
          omega
        | succ k2 ih2 =>
          intro j q0 p1 p2
          have bj : (nI j).toNatClampNeg = j := nI_clamp (by omega)
          have s2 : nI i < Int32.ofNat 3 := nI_lt (by omega) (by omega)
          have s3 : 0 ≤ nI j := nI_pos' (by omega)
          refine r_iload rfl rfl ?_
          refine r_iconst rfl ?_
          refine r_icmp_ge rfl (fun h15 => ?_) (fun h15 => ?_)
          · have hj : j = 3 := by
              rw [show (3 : Int32) = nI 3 from rfl, nI_leI (by omega) (by omega)] at h15
              omega
            subst hj
            refine r_iinc (L2 := [_, _, _, _, _]) rfl rfl rfl ?_
            refine r_goto rfl ?_
            rw [nI_1]
            exact ih (i + 1) _ (by omega) (by omega)
          · have hj : j < 3 := by
              rw [show (3 : Int32) = nI 3 from rfl, nI_leI (by omega) (by omega)] at h15
              omega
            have s4 : nI j < Int32.ofNat 3 := nI_lt (by omega) (by omega)
            refine r_lload_n rfl rfl ?_
            refine r_aload_n rfl rfl ?_
            refine r_iload_n rfl rfl ?_
            refine r_iload rfl rfl ?_
            refine r_aload_n rfl rfl ?_
            refine r_getC rfl rfl (by decide) (by decide) rfl ?_
            refine r_iload_n rfl rfl ?_
            refine r_iald rfl rfl (by first | decide | assumption) (by first | exact s1 | exact s2 | exact s3 | exact s4) (by first | exact s1 | exact s2 | exact s3 | exact s4) ?_
            refine r_aload_n rfl rfl ?_
            refine r_getC rfl rfl (by decide) (by decide) rfl ?_
            refine r_iload rfl rfl ?_
            refine r_iald rfl rfl (by first | decide | assumption) (by first | exact s1 | exact s2 | exact s3 | exact s4) (by first | exact s1 | exact s2 | exact s3 | exact s4) ?_
            rw [bi, bj, (hx i q0).1, (hy j hj).1]
            refine r_callV rfl (ct_X3_worth hM q0 hj (hx i q0).2 (hy j hj).2) rfl rfl rfl (by decide) rfl (am_cnt rfl) ?_
            refine r_ladd rfl ?_
            refine r_lstore_n (L2 := [_, _, _, _, _]) rfl rfl ?_
            refine r_iinc (L2 := [_, _, _, _, _]) rfl rfl rfl ?_
            refine r_goto rfl ?_
            rw [iJ_add, Int.add_assoc, nI_1]
            exact ih2 (j + 1) q0 (by omega) (by omega)
      refine r_iload_n rfl rfl ?_
      refine r_iconst rfl ?_
      refine r_icmp_ge rfl (fun h6 => ?_) (fun h6 => ?_)
      · have hi : i = 3 := by
          rw [show (3 : Int32) = nI 3 from rfl, nI_leI (by omega) (by omega)] at h6
          omega
        subst hi
        refine r_lload_n rfl rfl ?_
        refine r_lret rfl ?_
        exact ⟨rfl, rfl⟩
      · have hi : i < 3 := by
          rw [show (3 : Int32) = nI 3 from rfl, nI_leI (by omega) (by omega)] at h6
          omega
        refine r_iconst rfl ?_
        refine r_istore (L2 := [_, _, _, _, _]) rfl rfl ?_
        have e := loop2 4 0 hi (by omega) (by omega)
        rw [show sumZ (fun i => sumZ (fun j => m i j (x i) (y j)) 3) i + sumZ (fun j => m i j (x i) (y j)) 0 = sumZ (fun i => sumZ (fun j => m i j (x i) (y j)) 3) i from Int.add_zero _] at e
        exact e
  refine r_lconst rfl ?_
  refine r_lstore_n (L2 := [_, _, _, _, _]) rfl rfl ?_
  refine r_iconst rfl ?_
  refine r_istore_n (L2 := [_, _, _, _, _]) rfl rfl ?_
  exact loop 4 0 none (by omega) (by omega)
def br1 (m : Pay) (y : Nat → Nat) (s t : Nat) : Int := sumZ (fun k => m s k t (y k)) 3
def br2 (m : Pay) (x : Nat → Nat) (s t : Nat) : Int := sumZ (fun k => m k s (x k) t) 3
theorem ct_X3_brings_one {d : Nat} {S : am_S} {m : Pay} {y : Nat → Nat} {s t : Nat} (hM : MW m S) (hy : RW S 93 y) (hs : s < 3) (ht : t < 3) : am_CT (d + 2) iX3_brings [.ref 86, .int 1, .int (nI s), .int (nI t)] S (some (.long (iJ (br1 m y s t)))) (S) := by
  refine am_CT_in mmX3_brings rfl rfl rfl ?_
  have loop : ∀ (k : Nat) (k2 : Nat), (k2 ≤ 3) → (3 < k2 + k) → am_Ex (am_Call am_MT (d + 1)) mmX3_brings none (fun r1 G1 => r1 = (some (.long (iJ (br1 m y s t)))) ∧ G1 = am_H (S)) (fun _ _ _ _ _ _ => False) 6 [some (.ref 86), some (.int 1), some (.int (nI s)), some (.int (nI t)), some (.long (iJ (sumZ (fun k => m s k t (y k)) k2))), none, some (.int (nI k2))] [] (am_H (S)) 0 0 := by
    intro k
    induction k with
    | zero =>
      intro k2 q1 q2
      omega
    | succ k ih =>
      intro k2 q1 q2
      have bk : (nI k2).toNatClampNeg = k2 := nI_clamp (by omega)
      have s1 : 0 ≤ nI k2 := nI_pos' (by omega)
      refine r_iload rfl rfl ?_
      refine r_iconst rfl ?_
      refine r_icmp_ge rfl (fun h9 => ?_) (fun h9 => ?_)
      · have hk : k2 = 3 := by
          rw [show (3 : Int32) = nI 3 from rfl, nI_leI (by omega) (by omega)] at h9
          omega
        subst hk
        refine r_lload rfl rfl ?_
        refine r_lret rfl ?_
        exact ⟨rfl, rfl⟩
      · have hk : k2 < 3 := by
          rw [show (3 : Int32) = nI 3 from rfl, nI_leI (by omega) (by omega)] at h9
          omega
        have s2 : nI k2 < Int32.ofNat 3 := nI_lt (by omega) (by omega)
        refine r_lload rfl rfl ?_
        refine r_iload_n rfl rfl ?_
        refine r_if_eq rfl (fun h15 => ?_) (fun h15 => ?_)
        · exact absurd h15 (by decide)
        · refine r_aload_n rfl rfl ?_
          refine r_iload_n rfl rfl ?_
          refine r_iload rfl rfl ?_
          refine r_iload_n rfl rfl ?_
          refine r_aload_n rfl rfl ?_
          refine r_getC rfl rfl (by decide) (by decide) rfl ?_
          refine r_iload rfl rfl ?_
          refine r_iald rfl rfl (by first | decide | assumption) (by first | exact s1 | exact s2) (by first | exact s1 | exact s2) ?_
          rw [bk, (hy k2 hk).1]
          refine r_callV rfl (ct_X3_worth hM hs hk ht (hy k2 hk).2) rfl rfl rfl (by decide) rfl (am_cnt rfl) ?_
          refine r_goto rfl ?_
          refine r_ladd rfl ?_
          refine r_lstore (L2 := [_, _, _, _, _, _, _]) rfl rfl ?_
          refine r_iinc (L2 := [_, _, _, _, _, _, _]) rfl rfl rfl ?_
          refine r_goto rfl ?_
          rw [iJ_add, nI_1]
          exact ih (k2 + 1) (by omega) (by omega)
  refine r_lconst rfl ?_
  refine r_lstore (L2 := [_, _, _, _, _, _, _]) rfl rfl ?_
  refine r_iconst rfl ?_
  refine r_istore (L2 := [_, _, _, _, _, _, _]) rfl rfl ?_
  exact loop 4 0 (by omega) (by omega)
theorem ct_X3_brings_other {d : Nat} {S : am_S} {m : Pay} {x : Nat → Nat} {s t : Nat} (hM : MW m S) (hy : RW S 92 x) (hs : s < 3) (ht : t < 3) : am_CT (d + 2) iX3_brings [.ref 86, .int 0, .int (nI s), .int (nI t)] S (some (.long (iJ (br2 m x s t)))) (S) := by
  refine am_CT_in mmX3_brings rfl rfl rfl ?_
  have loop : ∀ (k : Nat) (k2 : Nat), (k2 ≤ 3) → (3 < k2 + k) → am_Ex (am_Call am_MT (d + 1)) mmX3_brings none (fun r1 G1 => r1 = (some (.long (iJ (br2 m x s t)))) ∧ G1 = am_H (S)) (fun _ _ _ _ _ _ => False) 6 [some (.ref 86), some (.int 0), some (.int (nI s)), some (.int (nI t)), some (.long (iJ (sumZ (fun k => m k s (x k) t) k2))), none, some (.int (nI k2))] [] (am_H (S)) 0 0 := by
    intro k
    induction k with
    | zero =>
      intro k2 q1 q2
      omega
    | succ k ih =>
      intro k2 q1 q2
      have bk : (nI k2).toNatClampNeg = k2 := nI_clamp (by omega)
      have s1 : 0 ≤ nI k2 := nI_pos' (by omega)
      refine r_iload rfl rfl ?_
      refine r_iconst rfl ?_
      refine r_icmp_ge rfl (fun h9 => ?_) (fun h9 => ?_)
      · have hk : k2 = 3 := by
          rw [show (3 : Int32) = nI 3 from rfl, nI_leI (by omega) (by omega)] at h9
          omega
        subst hk
        refine r_lload rfl rfl ?_
        refine r_lret rfl ?_
        exact ⟨rfl, rfl⟩
      · have hk : k2 < 3 := by
          rw [show (3 : Int32) = nI 3 from rfl, nI_leI (by omega) (by omega)] at h9
          omega
        have s2 : nI k2 < Int32.ofNat 3 := nI_lt (by omega) (by omega)
        refine r_lload rfl rfl ?_
        refine r_iload_n rfl rfl ?_
        refine r_if_eq rfl (fun h15 => ?_) (fun h15 => ?_)
        · refine r_aload_n rfl rfl ?_
          refine r_iload rfl rfl ?_
          refine r_iload_n rfl rfl ?_
          refine r_aload_n rfl rfl ?_
          refine r_getC rfl rfl (by decide) (by decide) rfl ?_
          refine r_iload rfl rfl ?_
          refine r_iald rfl rfl (by first | decide | assumption) (by first | exact s1 | exact s2) (by first | exact s1 | exact s2) ?_
          rw [bk, (hy k2 hk).1]
          refine r_iload_n rfl rfl ?_
          refine r_callV rfl (ct_X3_worth hM hk hs (hy k2 hk).2 ht) rfl rfl rfl (by decide) rfl (am_cnt rfl) ?_
          refine r_ladd rfl ?_
          refine r_lstore (L2 := [_, _, _, _, _, _, _]) rfl rfl ?_
          refine r_iinc (L2 := [_, _, _, _, _, _, _]) rfl rfl rfl ?_
          refine r_goto rfl ?_
          rw [iJ_add, nI_1]
          exact ih (k2 + 1) (by omega) (by omega)
        · exact absurd rfl h15
  refine r_lconst rfl ?_
  refine r_lstore (L2 := [_, _, _, _, _, _, _]) rfl rfl ?_
  refine r_iconst rfl ?_
  refine r_istore (L2 := [_, _, _, _, _, _, _]) rfl rfl ?_
  exact loop 4 0 (by omega) (by omega)
/-- the least of the best of 0 .. n -/
def bsN (h : Nat → Int) : Nat → Nat
  | 0 => 0
  | n + 1 => if h (bsN h n) < h (n + 1) then n + 1 else bsN h n
def bth (h : Nat → Int) (a : Nat) : Nat := if h a = h (bsN h 2) then a else bsN h 2
theorem bsN_le (h : Nat → Int) : ∀ n, bsN h n ≤ n
  | 0 => Nat.le_refl _
  | n + 1 => by
    unfold bsN
    have := bsN_le h n
    split <;> omega
theorem bsN_top (h : Nat → Int) : ∀ n t, t ≤ n → h t ≤ h (bsN h n)
  | 0, t, ht => by
    obtain rfl : t = 0 := by omega
    exact Int.le_refl _
  | n + 1, t, ht => by
    unfold bsN
    have e : ∀ u, u ≤ n → h u ≤ h (bsN h n) := fun u hu => bsN_top h n u hu
    by_cases hc : h (bsN h n) < h (n + 1)
    · rw [if_pos hc]
      by_cases h1 : t = n + 1
      · rw [h1]; exact Int.le_refl _
      · have := e t (by omega); omega
    · rw [if_neg hc]
      by_cases h1 : t = n + 1
      · rw [h1]; omega
      · exact e t (by omega)
theorem bth_lt (h : Nat → Int) {a : Nat} (ha : a < 3) : bth h a < 3 := by
  unfold bth
  have := bsN_le h 2
  split <;> omega
theorem bth_le (h : Nat → Int) {a : Nat} (ha : a < 3) : h a ≤ h (bth h a) := by
  unfold bth
  split
  · exact Int.le_refl _
  · exact bsN_top h 2 a (by omega)
theorem bth_ne (h : Nat → Int) {a : Nat} (ha : a < 3) (hn : bth h a ≠ a) : h a < h (bth h a) := by
  have e := bsN_top h 2 a (by omega)
  unfold bth at hn ⊢
  by_cases hc : h a = h (bsN h 2)
  · rw [if_pos hc] at hn
    exact absurd rfl hn
  · rw [if_neg hc]
    omega
theorem ct_X3_bestThing {d : Nat} {S : am_S} {h : Nat → Int} {fl : Int32} {s a : Nat} (hb : ∀ {d : Nat} t, t < 3 → am_CT (d + 2) iX3_brings [.ref 86, .int fl, .int (nI s), .int (nI t)] S (some (.long (iJ (h t)))) S) (hz : ∀ t, t < 3 → okZ (h t)) (ha : a < 3) : am_CT (d + 3) iX3_bestThing [.ref 86, .int fl, .int (nI s), .int (nI a)] S (some (.int (nI (bth h a)))) (S) := by
  refine am_CT_in mmX3_bestThing rfl rfl rfl ?_
  have bl := bsN_le h
  have loop : ∀ (k : Nat) (j : Nat), (1 ≤ j ∧ j ≤ 3) → (3 < j + k) → am_Ex (am_Call am_MT (d + 2)) mmX3_bestThing none (fun r1 G1 => r1 = (some (.int (nI (bth h a)))) ∧ G1 = am_H (S)) (fun _ _ _ _ _ _ => False) 6 [some (.ref 86), some (.int fl), some (.int (nI s)), some (.int (nI a)), some (.int (nI (bsN h (j - 1)))), some (.int (nI j))] [] (am_H (S)) 0 0 := by
    intro k
    induction k with
    | zero =>
      intro j q1 q2
      omega
    | succ k ih =>
      intro j q1 q2
      have b1 := bl (j - 1)
      have b2 := bl 2
      have nx : j < 3 → bsN h (j + 1 - 1) = if h (bsN h (j - 1)) < h j then j else bsN h (j - 1) := fun hj => by
        obtain ⟨i, rfl⟩ : ∃ i, j = i + 1 := ⟨j - 1, by omega⟩
        rfl
      refine r_iload rfl rfl ?_
      refine r_iconst rfl ?_
      refine r_icmp_ge rfl (fun h9 => ?_) (fun h9 => ?_)
      · have hj : j = 3 := by
          rw [show (3 : Int32) = nI 3 from rfl, nI_leI (by omega) (by omega)] at h9
          omega
        subst hj
        refine r_aload_n rfl rfl ?_
        refine r_iload_n rfl rfl ?_
        refine r_iload_n rfl rfl ?_
        refine r_iload_n rfl rfl ?_
        refine r_callV rfl (hb a ha) rfl rfl rfl (by decide) rfl (am_cnt rfl) ?_
        refine r_aload_n rfl rfl ?_
        refine r_iload_n rfl rfl ?_
        refine r_iload_n rfl rfl ?_
        refine r_iload rfl rfl ?_
        refine r_callV rfl (hb (bsN h 2) (by omega)) rfl rfl rfl (by decide) rfl (am_cnt rfl) ?_
        refine r_lcmp rfl ?_
        refine r_if_ne rfl (fun h58 => ?_) (fun h58 => ?_)
        · rw [lc_eq, iJ_eq (hz _ (by omega)) (hz _ (by omega))] at h58
          have e0 : bth h a = bsN h 2 := if_neg h58
          refine r_iload rfl rfl ?_
          refine r_iret rfl rfl ?_
          rw [e0]
          exact ⟨rfl, rfl⟩
        · rw [lc_eq, iJ_eq (hz _ (by omega)) (hz _ (by omega))] at h58
          have e0 : bth h a = a := if_pos h58
          refine r_iload_n rfl rfl ?_
          refine r_goto rfl ?_
          refine r_iret rfl rfl ?_
          rw [e0]
          exact ⟨rfl, rfl⟩
      · have hj : j < 3 := by
          rw [show (3 : Int32) = nI 3 from rfl, nI_leI (by omega) (by omega)] at h9
          omega
        have nx2 := nx hj
        refine r_aload_n rfl rfl ?_
        refine r_iload_n rfl rfl ?_
        refine r_iload_n rfl rfl ?_
        refine r_iload rfl rfl ?_
        refine r_callV rfl (hb j (by omega)) rfl rfl rfl (by decide) rfl (am_cnt rfl) ?_
        refine r_aload_n rfl rfl ?_
        refine r_iload_n rfl rfl ?_
        refine r_iload_n rfl rfl ?_
        refine r_iload rfl rfl ?_
        refine r_callV rfl (hb (bsN h (j - 1)) (by omega)) rfl rfl rfl (by decide) rfl (am_cnt rfl) ?_
        refine r_lcmp rfl ?_
        refine r_if_le rfl (fun h29 => ?_) (fun h29 => ?_)
        · rw [lc_le, iJ_le (hz _ (by omega)) (hz _ (by omega))] at h29
          rw [if_neg (by omega)] at nx2
          refine r_iinc (L2 := [_, _, _, _, _, _]) rfl rfl rfl ?_
          refine r_goto rfl ?_
          rw [nI_1]
          have e := ih (j + 1) (by omega) (by omega)
          rw [nx2] at e
          exact e
        · rw [lc_le, iJ_le (hz _ (by omega)) (hz _ (by omega))] at h29
          rw [if_pos (by omega)] at nx2
          refine r_iload rfl rfl ?_
          refine r_istore (L2 := [_, _, _, _, _, _]) rfl rfl ?_
          refine r_iinc (L2 := [_, _, _, _, _, _]) rfl rfl rfl ?_
          refine r_goto rfl ?_
          rw [nI_1]
          have e := ih (j + 1) (by omega) (by omega)
          rw [nx2] at e
          exact e
  refine r_iconst rfl ?_
  refine r_istore (L2 := [_, _, _, _, _, _]) rfl rfl ?_
  refine r_iconst rfl ?_
  refine r_istore (L2 := [_, _, _, _, _, _]) rfl rfl ?_
  exact loop 3 1 (by omega) (by omega)
/-- whether two rules differ -/
def chB (x y : Nat → Nat) : Nat → Bool
  | 0 => false
  | n + 1 => chB x y n || decide (¬ y n = x n)
def chG (S : am_S) (c : Nat) (y : Nat → Nat) (n : Nat) : Nat → Int32 := fun a => if a < n then nI (y a) else gI S c a
theorem chG_up {S : am_S} {c n : Nat} {y : Nat → Nat} : upd (chG S c y n) n (nI (y n)) = chG S c y (n + 1) := by
  funext a
  by_cases h : a = n
  · rw [h, pk_us, chG, if_pos (by omega)]
  · rw [pk_un h, chG, chG]
    by_cases h2 : a < n
    · rw [if_pos h2, if_pos (by omega)]
    · rw [if_neg h2, if_neg (by omega)]
theorem chG_0 {S : am_S} {c : Nat} {y : Nat → Nat} : chG S c y 0 = gI S c := funext fun a => if_neg (by omega)
theorem ct_X3_changes_one {d : Nat} {S : am_S} {h : Nat → Nat → Int} {x : Nat → Nat} (hx : RW S 92 x) (hb : ∀ {d : Nat} g s t, s < 3 → t < 3 → am_CT (d + 2) iX3_brings [.ref 86, .int 1, .int (nI s), .int (nI t)] (rI S 92 g) (some (.long (iJ (h s t)))) (rI S 92 g)) (hz : ∀ s t, s < 3 → t < 3 → okZ (h s t)) : am_CT (d + 4) iX3_changes [.ref 86, .int 1] S (some (.int (b01 (chB x (fun s => bth (h s) (x s)) 3 = true)))) (rI S 92 (chG S 92 (fun s => bth (h s) (x s)) 3)) := by
  refine am_CT_in mmX3_changes rfl rfl rfl ?_
  have loop : ∀ (k : Nat) (s : Nat) (v5 : Option Value), (s ≤ 3) → (3 < s + k) → am_Ex (am_Call am_MT (d + 3)) mmX3_changes none (fun r1 G1 => r1 = (some (.int (b01 (chB x (fun s => bth (h s) (x s)) 3 = true)))) ∧ G1 = am_H (rI S 92 (chG S 92 (fun s => bth (h s) (x s)) 3))) (fun _ _ _ _ _ _ => False) 21 [some (.ref 86), some (.int 1), some (.ref 92), some (.int (b01 (chB x (fun s => bth (h s) (x s)) s = true))), some (.int (nI s)), v5] [] (am_H (rI S 92 (chG S 92 (fun s => bth (h s) (x s)) s))) 0 0 := by
    intro k
    induction k with
    | zero =>
      intro s v5 q1 q2
      omega
    | succ k ih =>
      intro s v5 q1 q2
      have bs : (nI s).toNatClampNeg = s := nI_clamp (by omega)
      have s1 : 0 ≤ nI s := nI_pos' (by omega)
      have g1 : s < 3 → gI (rI S 92 (chG S 92 (fun s => bth (h s) (x s)) s)) 92 s = nI (x s) := fun hs => by
        rw [gI_rI_eq, chG, if_neg (by omega), (hx s hs).1]
      have n1 : chB x (fun s => bth (h s) (x s)) (s + 1) = (chB x (fun s => bth (h s) (x s)) s || decide (¬ bth (h s) (x s) = x s)) := rfl
      have bt : s < 3 → bth (h s) (x s) < 3 := fun hs => bth_lt _ (hx s hs).2
      refine r_iload rfl rfl ?_
      refine r_iconst rfl ?_
      refine r_icmp_ge rfl (fun h24 => ?_) (fun h24 => ?_)
      · have hs : s = 3 := by
          rw [show (3 : Int32) = nI 3 from rfl, nI_leI (by omega) (by omega)] at h24
          omega
        subst hs
        refine r_iload_n rfl rfl ?_
        refine r_zret rfl rfl (by first | exact s1 | exact s2 | exact b01_or) ?_
        exact ⟨rfl, rfl⟩
      · have hs : s < 3 := by
          rw [show (3 : Int32) = nI 3 from rfl, nI_leI (by omega) (by omega)] at h24
          omega
        have s2 : nI s < Int32.ofNat 3 := nI_lt (by omega) (by omega)
        have bt3 := bt hs
        have xt3 := (hx s hs).2
        refine r_aload_n rfl rfl ?_
        refine r_iload_n rfl rfl ?_
        refine r_iload rfl rfl ?_
        refine r_aload_n rfl rfl ?_
        refine r_iload rfl rfl ?_
        refine r_iald rfl rfl (by first | decide | assumption) (by first | exact s1 | exact s2 | exact b01_or) (by first | exact s1 | exact s2 | exact b01_or) ?_
        rw [bs, g1 hs]
        refine r_callV rfl (ct_X3_bestThing (fun {d} t ht => hb _ s t hs ht) (fun t ht => hz s t hs ht) (hx s hs).2) rfl rfl rfl (by decide) rfl (am_cnt rfl) ?_
        refine r_istore (L2 := [_, _, _, _, _, _]) rfl rfl ?_
        refine r_iload_n rfl rfl ?_
        refine r_if_ne rfl (fun h41 => ?_) (fun h41 => ?_)
        · have n2 : chB x (fun s => bth (h s) (x s)) (s + 1) = true := by
            rw [n1, Decidable.not_not.mp (fun z => h41 (b01_f z)), Bool.true_or]
          refine r_iconst rfl ?_
          refine r_goto rfl ?_
          refine r_istore_n (L2 := [_, _, _, _, _, _]) rfl rfl ?_
          refine r_aload_n rfl rfl ?_
          refine r_iload rfl rfl ?_
          refine r_iload rfl rfl ?_
          refine r_iast rfl rfl (by first | decide | assumption) (by first | exact s1 | exact s2 | exact b01_or) (by first | exact s1 | exact s2 | exact b01_or) ?_
          refine r_iinc (L2 := [_, _, _, _, _, _]) rfl rfl rfl ?_
          refine r_goto rfl ?_
          rw [bs, uI_rIs, show upd (chG S 92 (fun s => bth (h s) (x s)) s) s (nI (bth (h s) (x s))) = _ from chG_up, nI_1]
          have e := ih (s + 1) (some (.int (nI (bth (h s) (x s))))) (by omega) (by omega)
          first | (rw [b01_t n2] at e; exact e) | (rw [b01_f n2] at e; exact e)
        · have n3 := b01_eq0.mp h41
          refine r_iload rfl rfl ?_
          refine r_aload_n rfl rfl ?_
          refine r_iload rfl rfl ?_
          refine r_iald rfl rfl (by first | decide | assumption) (by first | exact s1 | exact s2 | exact b01_or) (by first | exact s1 | exact s2 | exact b01_or) ?_
          rw [bs, g1 hs]
          refine r_icmp_eq rfl (fun h50 => ?_) (fun h50 => ?_)
          · rw [nI_eq (by omega) (by omega)] at h50
            have n2 : ¬ chB x (fun s => bth (h s) (x s)) (s + 1) = true := by
              rw [n1, Bool.or_eq_true, decide_eq_true_eq]
              exact fun z => z.elim n3 (fun y => y h50)
            refine r_iconst rfl ?_
            refine r_istore_n (L2 := [_, _, _, _, _, _]) rfl rfl ?_
            refine r_aload_n rfl rfl ?_
            refine r_iload rfl rfl ?_
            refine r_iload rfl rfl ?_
            refine r_iast rfl rfl (by first | decide | assumption) (by first | exact s1 | exact s2 | exact b01_or) (by first | exact s1 | exact s2 | exact b01_or) ?_
            refine r_iinc (L2 := [_, _, _, _, _, _]) rfl rfl rfl ?_
            refine r_goto rfl ?_
            rw [bs, uI_rIs, show upd (chG S 92 (fun s => bth (h s) (x s)) s) s (nI (bth (h s) (x s))) = _ from chG_up, nI_1]
            have e := ih (s + 1) (some (.int (nI (bth (h s) (x s))))) (by omega) (by omega)
            first | (rw [b01_t n2] at e; exact e) | (rw [b01_f n2] at e; exact e)
          · rw [nI_eq (by omega) (by omega)] at h50
            have n2 : chB x (fun s => bth (h s) (x s)) (s + 1) = true := by
              rw [n1, Bool.or_eq_true, decide_eq_true_eq]
              exact Or.inr h50
            refine r_iconst rfl ?_
            refine r_goto rfl ?_
            refine r_istore_n (L2 := [_, _, _, _, _, _]) rfl rfl ?_
            refine r_aload_n rfl rfl ?_
            refine r_iload rfl rfl ?_
            refine r_iload rfl rfl ?_
            refine r_iast rfl rfl (by first | decide | assumption) (by first | exact s1 | exact s2 | exact b01_or) (by first | exact s1 | exact s2 | exact b01_or) ?_
            refine r_iinc (L2 := [_, _, _, _, _, _]) rfl rfl rfl ?_
            refine r_goto rfl ?_
            rw [bs, uI_rIs, show upd (chG S 92 (fun s => bth (h s) (x s)) s) s (nI (bth (h s) (x s))) = _ from chG_up, nI_1]
            have e := ih (s + 1) (some (.int (nI (bth (h s) (x s))))) (by omega) (by omega)
            first | (rw [b01_t n2] at e; exact e) | (rw [b01_f n2] at e; exact e)
  refine r_iload_n rfl rfl ?_
  refine r_if_eq rfl (fun h1 => ?_) (fun h1 => ?_)
  · exact absurd h1 (by decide)
  · refine r_aload_n rfl rfl ?_
    refine r_getC rfl rfl (by decide) (by decide) rfl ?_
    refine r_goto rfl ?_
    refine r_astore_n (L2 := [_, _, _, _, _, _]) rfl rfl ?_
    refine r_iconst rfl ?_
    refine r_istore_n (L2 := [_, _, _, _, _, _]) rfl rfl ?_
    refine r_iconst rfl ?_
    refine r_istore (L2 := [_, _, _, _, _, _]) rfl rfl ?_
    have e := loop 4 0 none (by omega) (by omega)
    rw [chG_0, rI_id] at e
    exact e
theorem ct_X3_changes_other {d : Nat} {S : am_S} {h : Nat → Nat → Int} {x : Nat → Nat} (hx : RW S 93 x) (hb : ∀ {d : Nat} g s t, s < 3 → t < 3 → am_CT (d + 2) iX3_brings [.ref 86, .int 0, .int (nI s), .int (nI t)] (rI S 93 g) (some (.long (iJ (h s t)))) (rI S 93 g)) (hz : ∀ s t, s < 3 → t < 3 → okZ (h s t)) : am_CT (d + 4) iX3_changes [.ref 86, .int 0] S (some (.int (b01 (chB x (fun s => bth (h s) (x s)) 3 = true)))) (rI S 93 (chG S 93 (fun s => bth (h s) (x s)) 3)) := by
  refine am_CT_in mmX3_changes rfl rfl rfl ?_
  have loop : ∀ (k : Nat) (s : Nat) (v5 : Option Value), (s ≤ 3) → (3 < s + k) → am_Ex (am_Call am_MT (d + 3)) mmX3_changes none (fun r1 G1 => r1 = (some (.int (b01 (chB x (fun s => bth (h s) (x s)) 3 = true)))) ∧ G1 = am_H (rI S 93 (chG S 93 (fun s => bth (h s) (x s)) 3))) (fun _ _ _ _ _ _ => False) 21 [some (.ref 86), some (.int 0), some (.ref 93), some (.int (b01 (chB x (fun s => bth (h s) (x s)) s = true))), some (.int (nI s)), v5] [] (am_H (rI S 93 (chG S 93 (fun s => bth (h s) (x s)) s))) 0 0 := by
    intro k
    induction k with
    | zero =>
      intro s v5 q1 q2
      omega
    | succ k ih =>
      intro s v5 q1 q2
      have bs : (nI s).toNatClampNeg = s := nI_clamp (by omega)
      have s1 : 0 ≤ nI s := nI_pos' (by omega)
      have g1 : s < 3 → gI (rI S 93 (chG S 93 (fun s => bth (h s) (x s)) s)) 93 s = nI (x s) := fun hs => by
        rw [gI_rI_eq, chG, if_neg (by omega), (hx s hs).1]
      have n1 : chB x (fun s => bth (h s) (x s)) (s + 1) = (chB x (fun s => bth (h s) (x s)) s || decide (¬ bth (h s) (x s) = x s)) := rfl
      have bt : s < 3 → bth (h s) (x s) < 3 := fun hs => bth_lt _ (hx s hs).2
      refine r_iload rfl rfl ?_
      refine r_iconst rfl ?_
      refine r_icmp_ge rfl (fun h24 => ?_) (fun h24 => ?_)
      · have hs : s = 3 := by
          rw [show (3 : Int32) = nI 3 from rfl, nI_leI (by omega) (by omega)] at h24
          omega
        subst hs
        refine r_iload_n rfl rfl ?_
        refine r_zret rfl rfl (by first | exact s1 | exact s2 | exact b01_or) ?_
        exact ⟨rfl, rfl⟩
      · have hs : s < 3 := by
          rw [show (3 : Int32) = nI 3 from rfl, nI_leI (by omega) (by omega)] at h24
          omega
        have s2 : nI s < Int32.ofNat 3 := nI_lt (by omega) (by omega)
        have bt3 := bt hs
        have xt3 := (hx s hs).2
        refine r_aload_n rfl rfl ?_
        refine r_iload_n rfl rfl ?_
        refine r_iload rfl rfl ?_
        refine r_aload_n rfl rfl ?_
        refine r_iload rfl rfl ?_
        refine r_iald rfl rfl (by first | decide | assumption) (by first | exact s1 | exact s2 | exact b01_or) (by first | exact s1 | exact s2 | exact b01_or) ?_
        rw [bs, g1 hs]
        refine r_callV rfl (ct_X3_bestThing (fun {d} t ht => hb _ s t hs ht) (fun t ht => hz s t hs ht) (hx s hs).2) rfl rfl rfl (by decide) rfl (am_cnt rfl) ?_
        refine r_istore (L2 := [_, _, _, _, _, _]) rfl rfl ?_
        refine r_iload_n rfl rfl ?_
        refine r_if_ne rfl (fun h41 => ?_) (fun h41 => ?_)
        · have n2 : chB x (fun s => bth (h s) (x s)) (s + 1) = true := by
            rw [n1, Decidable.not_not.mp (fun z => h41 (b01_f z)), Bool.true_or]
          refine r_iconst rfl ?_
          refine r_goto rfl ?_
          refine r_istore_n (L2 := [_, _, _, _, _, _]) rfl rfl ?_
          refine r_aload_n rfl rfl ?_
          refine r_iload rfl rfl ?_
          refine r_iload rfl rfl ?_
          refine r_iast rfl rfl (by first | decide | assumption) (by first | exact s1 | exact s2 | exact b01_or) (by first | exact s1 | exact s2 | exact b01_or) ?_
          refine r_iinc (L2 := [_, _, _, _, _, _]) rfl rfl rfl ?_
          refine r_goto rfl ?_
          rw [bs, uI_rIs, show upd (chG S 93 (fun s => bth (h s) (x s)) s) s (nI (bth (h s) (x s))) = _ from chG_up, nI_1]
          have e := ih (s + 1) (some (.int (nI (bth (h s) (x s))))) (by omega) (by omega)
          first | (rw [b01_t n2] at e; exact e) | (rw [b01_f n2] at e; exact e)
        · have n3 := b01_eq0.mp h41
          refine r_iload rfl rfl ?_
          refine r_aload_n rfl rfl ?_
          refine r_iload rfl rfl ?_
          refine r_iald rfl rfl (by first | decide | assumption) (by first | exact s1 | exact s2 | exact b01_or) (by first | exact s1 | exact s2 | exact b01_or) ?_
          rw [bs, g1 hs]
          refine r_icmp_eq rfl (fun h50 => ?_) (fun h50 => ?_)
          · rw [nI_eq (by omega) (by omega)] at h50
            have n2 : ¬ chB x (fun s => bth (h s) (x s)) (s + 1) = true := by
              rw [n1, Bool.or_eq_true, decide_eq_true_eq]
              exact fun z => z.elim n3 (fun y => y h50)
            refine r_iconst rfl ?_
            refine r_istore_n (L2 := [_, _, _, _, _, _]) rfl rfl ?_
            refine r_aload_n rfl rfl ?_
            refine r_iload rfl rfl ?_
            refine r_iload rfl rfl ?_
            refine r_iast rfl rfl (by first | decide | assumption) (by first | exact s1 | exact s2 | exact b01_or) (by first | exact s1 | exact s2 | exact b01_or) ?_
            refine r_iinc (L2 := [_, _, _, _, _, _]) rfl rfl rfl ?_
            refine r_goto rfl ?_
            rw [bs, uI_rIs, show upd (chG S 93 (fun s => bth (h s) (x s)) s) s (nI (bth (h s) (x s))) = _ from chG_up, nI_1]
            have e := ih (s + 1) (some (.int (nI (bth (h s) (x s))))) (by omega) (by omega)
            first | (rw [b01_t n2] at e; exact e) | (rw [b01_f n2] at e; exact e)
          · rw [nI_eq (by omega) (by omega)] at h50
            have n2 : chB x (fun s => bth (h s) (x s)) (s + 1) = true := by
              rw [n1, Bool.or_eq_true, decide_eq_true_eq]
              exact Or.inr h50
            refine r_iconst rfl ?_
            refine r_goto rfl ?_
            refine r_istore_n (L2 := [_, _, _, _, _, _]) rfl rfl ?_
            refine r_aload_n rfl rfl ?_
            refine r_iload rfl rfl ?_
            refine r_iload rfl rfl ?_
            refine r_iast rfl rfl (by first | decide | assumption) (by first | exact s1 | exact s2 | exact b01_or) (by first | exact s1 | exact s2 | exact b01_or) ?_
            refine r_iinc (L2 := [_, _, _, _, _, _]) rfl rfl rfl ?_
            refine r_goto rfl ?_
            rw [bs, uI_rIs, show upd (chG S 93 (fun s => bth (h s) (x s)) s) s (nI (bth (h s) (x s))) = _ from chG_up, nI_1]
            have e := ih (s + 1) (some (.int (nI (bth (h s) (x s))))) (by omega) (by omega)
            first | (rw [b01_t n2] at e; exact e) | (rw [b01_f n2] at e; exact e)
  refine r_iload_n rfl rfl ?_
  refine r_if_eq rfl (fun h1 => ?_) (fun h1 => ?_)
  · refine r_aload_n rfl rfl ?_
    refine r_getC rfl rfl (by decide) (by decide) rfl ?_
    refine r_astore_n (L2 := [_, _, _, _, _, _]) rfl rfl ?_
    refine r_iconst rfl ?_
    refine r_istore_n (L2 := [_, _, _, _, _, _]) rfl rfl ?_
    refine r_iconst rfl ?_
    refine r_istore (L2 := [_, _, _, _, _, _]) rfl rfl ?_
    have e := loop 4 0 none (by omega) (by omega)
    rw [chG_0, rI_id] at e
    exact e
  · exact absurd rfl h1
