/-! Crier, deaf, warnings, lateness by chances, pulls. -/
theorem fa_lt (a b : Int32) : a < b ↔ a.toInt < b.toInt := Int32.lt_iff_toInt_lt
theorem fa_le (a b : Int32) : a ≤ b ↔ a.toInt ≤ b.toInt := Int32.le_iff_toInt_le
theorem fa_lt64 (a b : Int64) : a < b ↔ a.toInt < b.toInt := Int64.lt_iff_toInt_lt
theorem fa_le64 (a b : Int64) : a ≤ b ↔ a.toInt ≤ b.toInt := Int64.le_iff_toInt_le
theorem lc_lt (x y : Int64) : lg_cmp x y < 0 ↔ x < y := by
  unfold lg_cmp
  split
  · rename_i h
    exact ⟨fun z => absurd z (by decide), fun z => absurd h (lg_lt_not z)⟩
  · split
    · rename_i h1 h
      subst h
      exact ⟨fun z => absurd z (by decide), fun z => absurd z h1⟩
    · rename_i h1 h2
      refine ⟨fun _ => ?_, fun _ => by decide⟩
      rw [fa_lt64]
      have h3 : ¬ y.toInt < x.toInt := fun z => h1 ((fa_lt64 y x).mpr z)
      have h4 : ¬ x.toInt = y.toInt := fun z => h2 (Int64.toInt_inj.mp z)
      omega
theorem lc_gt (x y : Int64) : 0 < lg_cmp x y ↔ y < x := by
  unfold lg_cmp
  split
  · rename_i h
    exact ⟨fun _ => h, fun _ => by decide⟩
  · split
    · rename_i h1 h
      exact ⟨fun z => absurd z (by decide), fun z => absurd z h1⟩
    · rename_i h1 h2
      exact ⟨fun z => absurd z (by decide), fun z => absurd z h1⟩
theorem lc_eq (x y : Int64) : lg_cmp x y = 0 ↔ x = y := by
  unfold lg_cmp
  split
  · rename_i h
    refine ⟨fun z => absurd z (by decide), fun z => ?_⟩
    subst z
    exact absurd h (fun q => lg_lt_not q q)
  · split
    · rename_i h1 h
      exact ⟨fun _ => h, fun _ => rfl⟩
    · rename_i h1 h2
      exact ⟨fun z => absurd z (by decide), fun z => absurd z h2⟩
theorem lc_ge (x y : Int64) : 0 ≤ lg_cmp x y ↔ y ≤ x := by
  rw [← Int32.not_lt, lc_lt, Int64.not_lt]
theorem lc_le (x y : Int64) : lg_cmp x y ≤ 0 ↔ x ≤ y := by
  rw [← Int32.not_lt, lc_gt, Int64.not_lt]
/-- state, best, soonest -/
def crX (S : am_S) (lt th : Nat → Nat) (n : Nat) : Nat → am_S × Int32 × Int32
  | 0 => (S, -2, 0)
  | i + 1 => ((hbX (crX S lt th n i).1 lt th i n).1, if ¬ (hbX (crX S lt th n i).1 lt th i n).2 = -2 ∧ ((crX S lt th n i).2.1 = -2 ∨ (hbX (crX S lt th n i).1 lt th i n).2 < (crX S lt th n i).2.2) then (nI i, (hbX (crX S lt th n i).1 lt th i n).2) else (crX S lt th n i).2)
theorem crX_ne {S : am_S} {lt th : Nat → Nat} {n a : Nat} (h1 : a ≠ 76) (h2 : a ≠ 77) : ∀ j, gI (crX S lt th n j).1 a = gI S a
  | 0 => rfl
  | j + 1 => by rw [crX, hbX_ne h1 h2, crX_ne h1 h2 j]
theorem ct_X10_crier_no {d : Nat} {S : am_S} (h : gI S 1 1 < 2) : am_CT (d + 6) iX10_crier [.ref 0] S (some (.int (-1))) (S) := by
  refine am_CT_in mmX10_crier rfl rfl rfl ?_
  refine r_aload_n rfl rfl ?_
  refine r_getC rfl rfl (by decide) (by decide) rfl ?_
  refine r_getI rfl rfl (by decide) (by decide) rfl ?_
  refine r_iconst rfl ?_
  refine r_icmp_ge rfl (fun h8 => ?_) (fun h8 => ?_)
  · exact absurd h (Int32.not_lt.mpr h8)
  · refine r_iconst rfl ?_
    refine r_iret rfl rfl ?_
    exact ⟨rfl, rfl⟩
theorem ct_X10_crier_ok {d : Nat} {S : am_S} {lt th : Nat → Nat} {n : Nat} (hn : gI S 1 1 = nI n) (hz : n ≤ 6) (hp : PplOk lt th S) (h2 : 2 ≤ n) : am_CT (d + 6) iX10_crier [.ref 0] S (some (.int (crX S lt th n n).2.1)) ((if (crX S lt th n n).2.1 = -2 then (crX S lt th n n).1 else t1 (crX S lt th n n).1 (crX S lt th n n).2.2.toInt64)) := by
  refine am_CT_in mmX10_crier rfl rfl rfl ?_
  have c2 : 2 ≤ gI S 1 1 := by rw [hn]; exact nI_le (a := 2) h2 (by omega)
  have loop : ∀ (k : Nat) (j : Nat) (b : Int32) (s : Int32) (v4 : Option Value), (j ≤ n) → (n < j + k) → ((b, s) = (crX S lt th n j).2) → am_Ex (am_Call am_MT (d + 5)) mmX10_crier none (fun r1 G1 => r1 = (some (.int (crX S lt th n n).2.1)) ∧ G1 = am_H ((if (crX S lt th n n).2.1 = -2 then (crX S lt th n n).1 else t1 (crX S lt th n n).1 (crX S lt th n n).2.2.toInt64))) (fun _ _ _ _ _ _ => False) 20 [some (.ref 0), some (.int b), some (.int s), some (.int (nI j)), v4] [] (am_H ((crX S lt th n j).1)) 0 0 := by
    intro k
    induction k with
    | zero =>
      intro j b s v4 q1 q2 q3
      omega
    | succ k ih =>
      intro j b s v4 q1 q2 q3
      have hn2 : gI (crX S lt th n j).1 1 1 = nI n := by rw [crX_ne (by decide) (by decide), hn]
      have hp2 : PplOk lt th (crX S lt th n j).1 := pplOk_congr (fun o h => crX_ne (by omega) (by omega) j) hp
      have e1 : (crX S lt th n (j + 1)).1 = (hbX (crX S lt th n j).1 lt th j n).1 := rfl
      have e2 : (crX S lt th n (j + 1)).2 = if ¬ (hbX (crX S lt th n j).1 lt th j n).2 = -2 ∧ (b = -2 ∨ (hbX (crX S lt th n j).1 lt th j n).2 < s) then (nI j, (hbX (crX S lt th n j).1 lt th j n).2) else (b, s) := by rw [crX, ← q3]
      have w2 : j = n → (crX S lt th n n).2.1 = b ∧ (crX S lt th n n).2.2 = s := fun h => by subst h; rw [← q3]; exact ⟨rfl, rfl⟩
      refine r_iload_n rfl rfl ?_
      refine r_aload_n rfl rfl ?_
      refine r_getC rfl rfl (by decide) (by decide) rfl ?_
      refine r_getI rfl rfl (by decide) (by decide) rfl ?_
      refine r_icmp_ge rfl (fun h28 => ?_) (fun h28 => ?_)
      · rw [hn2, nI_leI (by omega) (by omega)] at h28
        have hj : j = n := by omega
        rw [(w2 hj).1, (w2 hj).2, hj]
        refine r_iload_n rfl rfl ?_
        refine r_bipush rfl ?_
        refine r_icmp_eq rfl (fun h71 => ?_) (fun h71 => ?_)
        · rw [if_pos h71]
          refine r_iload_n rfl rfl ?_
          refine r_iret rfl rfl ?_
          exact ⟨rfl, rfl⟩
        · rw [if_neg h71]
          refine r_aload_n rfl rfl ?_
          refine r_getC rfl rfl (by decide) (by decide) rfl ?_
          refine r_iload_n rfl rfl ?_
          refine r_i2l rfl ?_
          refine r_callV rfl ct_X7_tellOne rfl rfl rfl (by decide) rfl (am_cnt rfl) ?_
          refine r_iload_n rfl rfl ?_
          refine r_iret rfl rfl ?_
          exact ⟨rfl, rfl⟩
      · rw [hn2, nI_leI (by omega) (by omega)] at h28
        refine r_aload_n rfl rfl ?_
        refine r_iload_n rfl rfl ?_
        refine r_callV rfl (ct_X10_heardByAll hn2 hz hp2 (by omega)) rfl rfl rfl (by decide) rfl (am_cnt rfl) ?_
        refine r_istore (L2 := [_, _, _, _, _]) rfl rfl ?_
        refine r_iload rfl rfl ?_
        refine r_bipush rfl ?_
        refine r_icmp_eq rfl (fun h42 => ?_) (fun h42 => ?_)
        · rw [if_neg (fun z => z.1 h42)] at e2
          refine r_iinc (L2 := [_, _, _, _, _]) rfl rfl rfl ?_
          refine r_goto rfl ?_
          rw [nI_1, ← e1]
          exact ih (j + 1) _ _ _ (by omega) (by omega) e2.symm
        · refine r_iload_n rfl rfl ?_
          refine r_bipush rfl ?_
          refine r_icmp_eq rfl (fun h48 => ?_) (fun h48 => ?_)
          · rw [if_pos ⟨h42, Or.inl h48⟩] at e2
            refine r_iload_n rfl rfl ?_
            refine r_istore_n (L2 := [_, _, _, _, _]) rfl rfl ?_
            refine r_iload rfl rfl ?_
            refine r_istore_n (L2 := [_, _, _, _, _]) rfl rfl ?_
            refine r_iinc (L2 := [_, _, _, _, _]) rfl rfl rfl ?_
            refine r_goto rfl ?_
            rw [nI_1, ← e1]
            exact ih (j + 1) _ _ _ (by omega) (by omega) e2.symm
          · refine r_iload rfl rfl ?_
            refine r_iload_n rfl rfl ?_
            refine r_icmp_ge rfl (fun h54 => ?_) (fun h54 => ?_)
            · rw [if_neg (fun z => z.2.elim h48 (Int32.not_lt.mpr h54))] at e2
              refine r_iinc (L2 := [_, _, _, _, _]) rfl rfl rfl ?_
              refine r_goto rfl ?_
              rw [nI_1, ← e1]
              exact ih (j + 1) _ _ _ (by omega) (by omega) e2.symm
            · rw [if_pos ⟨h42, Or.inr (Int32.not_le.mp h54)⟩] at e2
              refine r_iload_n rfl rfl ?_
              refine r_istore_n (L2 := [_, _, _, _, _]) rfl rfl ?_
              refine r_iload rfl rfl ?_
              refine r_istore_n (L2 := [_, _, _, _, _]) rfl rfl ?_
              refine r_iinc (L2 := [_, _, _, _, _]) rfl rfl rfl ?_
              refine r_goto rfl ?_
              rw [nI_1, ← e1]
              exact ih (j + 1) _ _ _ (by omega) (by omega) e2.symm
  refine r_aload_n rfl rfl ?_
  refine r_getC rfl rfl (by decide) (by decide) rfl ?_
  refine r_getI rfl rfl (by decide) (by decide) rfl ?_
  refine r_iconst rfl ?_
  refine r_icmp_ge rfl (fun h8 => ?_) (fun h8 => ?_)
  · refine r_bipush rfl ?_
    refine r_istore_n (L2 := [_, _, _, _, _]) rfl rfl ?_
    refine r_iconst rfl ?_
    refine r_istore_n (L2 := [_, _, _, _, _]) rfl rfl ?_
    refine r_iconst rfl ?_
    refine r_istore_n (L2 := [_, _, _, _, _]) rfl rfl ?_
    exact loop (n + 1) 0 _ _ none (by omega) (by omega) rfl
  · exact absurd c2 h8
def dfX (S : am_S) (lt th : Nat → Nat) (p : Nat) : Nat → am_S × Int32
  | 0 => (S, 0)
  | j + 1 => if j = p then dfX S lt th p j else (minuS (dfX S lt th p j).1 lt th j p 4, if minuV S lt th j p = -2 then fWith (dfX S lt th p j).2 (nI j) 1 else (dfX S lt th p j).2)
theorem dfX_ne {S : am_S} {lt th : Nat → Nat} {p a : Nat} (h1 : a ≠ 76) (h2 : a ≠ 77) : ∀ j, gI (dfX S lt th p j).1 a = gI S a
  | 0 => rfl
  | j + 1 => by
    unfold dfX
    split
    · exact dfX_ne h1 h2 j
    · rw [minuS_ne h1 h2, dfX_ne h1 h2 j]
theorem ct_X10_deaf_no {d : Nat} {S : am_S} {p : Int32} (h : ¬ hasP S p) : am_CT (d + 5) iX10_deaf [.ref 0, .int p] S (some (.int (-1))) (S) := by
  refine am_CT_in mmX10_deaf rfl rfl rfl ?_
  refine r_aload_n rfl rfl ?_
  refine r_getC rfl rfl (by decide) (by decide) rfl ?_
  refine r_iload_n rfl rfl ?_
  refine r_callV rfl ct_X9_has rfl rfl rfl (by decide) rfl (am_cnt rfl) ?_
  refine r_if_ne rfl (fun h8 => ?_) (fun h8 => ?_)
  · exact (h8 (b01_f (h))).elim
  · refine r_iconst rfl ?_
    refine r_iret rfl rfl ?_
    exact ⟨rfl, rfl⟩
theorem ct_X10_deaf_ok {d : Nat} {S : am_S} {lt th : Nat → Nat} {n p : Nat} (hn : gI S 1 1 = nI n) (hz : n ≤ 6) (hp : PplOk lt th S) (hpn : p < n) : am_CT (d + 5) iX10_deaf [.ref 0, .int (nI p)] S (some (.int (dfX S lt th p n).2)) ((dfX S lt th p n).1) := by
  refine am_CT_in mmX10_deaf rfl rfl rfl ?_
  have loop : ∀ (k : Nat) (j : Nat), (j ≤ n) → (n < j + k) → am_Ex (am_Call am_MT (d + 4)) mmX10_deaf none (fun r1 G1 => r1 = (some (.int (dfX S lt th p n).2)) ∧ G1 = am_H ((dfX S lt th p n).1)) (fun _ _ _ _ _ _ => False) 17 [some (.ref 0), some (.int (nI p)), some (.int (dfX S lt th p j).2), some (.int (nI j))] [] (am_H ((dfX S lt th p j).1)) 0 0 := by
    intro k
    induction k with
    | zero =>
      intro j q1 q2
      omega
    | succ k ih =>
      intro j q1 q2
      have hn2 : gI (dfX S lt th p j).1 1 1 = nI n := by rw [dfX_ne (by decide) (by decide), hn]
      have hT : ∀ o, o < 18 → gI (dfX S lt th p j).1 o = gI S o := fun o h => dfX_ne (by omega) (by omega) j
      by_cases hj : j = p
      · have e1 : dfX S lt th p (j + 1) = dfX S lt th p j := by rw [dfX, if_pos hj]
        refine r_iload_n rfl rfl ?_
        refine r_aload_n rfl rfl ?_
        refine r_getC rfl rfl (by decide) (by decide) rfl ?_
        refine r_getI rfl rfl (by decide) (by decide) rfl ?_
        refine r_icmp_ge rfl (fun h25 => ?_) (fun h25 => ?_)
        · rw [hn2, nI_leI (by omega) (by omega)] at h25
          omega
        · refine r_iload_n rfl rfl ?_
          refine r_iload_n rfl rfl ?_
          refine r_icmp_eq rfl (fun h30 => ?_) (fun h30 => ?_)
          · refine r_iinc (L2 := [_, _, _, _]) rfl rfl rfl ?_
            refine r_goto rfl ?_
            rw [nI_1]
            have e := ih (j + 1) (by omega) (by omega)
            rw [e1] at e
            exact e
          · exact absurd (congrArg nI hj) h30
      · have e1 : dfX S lt th p (j + 1) = (minuS (dfX S lt th p j).1 lt th j p 4, if minuV S lt th j p = -2 then fWith (dfX S lt th p j).2 (nI j) 1 else (dfX S lt th p j).2) := by rw [dfX, if_neg hj]
        refine r_iload_n rfl rfl ?_
        refine r_aload_n rfl rfl ?_
        refine r_getC rfl rfl (by decide) (by decide) rfl ?_
        refine r_getI rfl rfl (by decide) (by decide) rfl ?_
        refine r_icmp_ge rfl (fun h25 => ?_) (fun h25 => ?_)
        · rw [hn2, nI_leI (by omega) (by omega)] at h25
          obtain rfl : j = n := by omega
          refine r_iload_n rfl rfl ?_
          refine r_iret rfl rfl ?_
          exact ⟨rfl, rfl⟩
        · rw [hn2, nI_leI (by omega) (by omega)] at h25
          refine r_iload_n rfl rfl ?_
          refine r_iload_n rfl rfl ?_
          refine r_icmp_eq rfl (fun h30 => ?_) (fun h30 => ?_)
          · exact absurd (nI_inj (by omega) (by omega) h30) hj
          · refine r_aload_n rfl rfl ?_
            refine r_getC rfl rfl (by decide) (by decide) rfl ?_
            refine r_aload_n rfl rfl ?_
            refine r_getC rfl rfl (by decide) (by decide) rfl ?_
            refine r_iload_n rfl rfl ?_
            refine r_iload_n rfl rfl ?_
            refine r_callV rfl (minu_ct hn hz hp (by omega) hpn hj hT) rfl rfl rfl (by decide) rfl (am_cnt rfl) ?_
            refine r_bipush rfl ?_
            refine r_icmp_ne rfl (fun h48 => ?_) (fun h48 => ?_)
            · rw [if_neg h48] at e1
              refine r_iinc (L2 := [_, _, _, _]) rfl rfl rfl ?_
              refine r_goto rfl ?_
              rw [nI_1]
              have e := ih (j + 1) (by omega) (by omega)
              simp only [e1] at e
              exact e
            · rw [if_pos h48] at e1
              refine r_iload_n rfl rfl ?_
              refine r_iload_n rfl rfl ?_
              refine r_iconst rfl ?_
              refine r_callS rfl (by decide) ct_X10_withBit rfl rfl (am_cnt rfl) ?_
              refine r_istore_n (L2 := [_, _, _, _]) rfl rfl ?_
              refine r_iinc (L2 := [_, _, _, _]) rfl rfl rfl ?_
              refine r_goto rfl ?_
              rw [nI_1]
              have e := ih (j + 1) (by omega) (by omega)
              simp only [e1] at e
              exact e
  refine r_aload_n rfl rfl ?_
  refine r_getC rfl rfl (by decide) (by decide) rfl ?_
  refine r_iload_n rfl rfl ?_
  refine r_callV rfl ct_X9_has rfl rfl rfl (by decide) rfl (am_cnt rfl) ?_
  refine r_if_ne rfl (fun h8 => ?_) (fun h8 => ?_)
  · refine r_iconst rfl ?_
    refine r_istore_n (L2 := [_, _, _, _]) rfl rfl ?_
    refine r_iconst rfl ?_
    refine r_istore_n (L2 := [_, _, _, _]) rfl rfl ?_
    exact loop (n + 1) 0 (by omega) (by omega)
  · exact absurd (hasP_nI hn hz hpn) (b01_eq0.mp h8)
def slwN (sp br : Nat) : Nat → Nat
  | 0 => 0
  | i + 1 => slwN sp br i + (sp - (i + 1) * br)
theorem slwN_le {sp br : Nat} : ∀ i, slwN sp br i ≤ i * sp
  | 0 => by rw [slwN]; omega
  | i + 1 => by
    have := slwN_le (sp := sp) (br := br) i
    have e : (i + 1) * sp = i * sp + sp := by rw [Nat.add_mul, Nat.one_mul]
    rw [slwN, e]
    omega
theorem slwN_end {sp br j : Nat} (h : sp ≤ (j + 1) * br) : ∀ i, slwN sp br (j + i) = slwN sp br j
  | 0 => rfl
  | i + 1 => by
    have : (j + 1) * br ≤ (j + i + 1) * br := Nat.mul_le_mul_right br (by omega)
    rw [show j + (i + 1) = j + i + 1 by omega, slwN, slwN_end h i, Nat.sub_eq_zero_of_le (Nat.le_trans h this), Nat.add_zero]
theorem wsub1 {x a b : Nat} (h : a + b ≤ x) : nI x - nI a - nI b = nI (x - (a + b)) := by
  rw [pk_sub (show a ≤ x by omega), pk_sub (show b ≤ x - a by omega), Nat.sub_sub]
theorem wsub2 {x a b : Nat} (hx : x < 10000) (hab : a + b < 10000000) (h : x < a + b) : nI x - nI a - nI b < 0 := by
  have e : nI x - nI a - nI b = nI x - nI (a + b) := by rw [← nI_add]; grind
  rw [e]
  exact pk_sneg (by omega) h
def warnV (S : am_S) (lt th : Nat → Nat) (one other w sp br : Nat) : Int32 :=
  if minuV S lt th other one = -2 ∨ w - 1 < slwN sp br sp ∨ (w - 1 - slwN sp br sp) / sp < (bstW S lt th other one 4).1 + th one then -2 else nI ((w - 1 - slwN sp br sp) / sp - ((bstW S lt th other one 4).1 + th one))
theorem ct_X10_warn_no {d : Nat} {S : am_S} {p q w s b : Int32} (h : ¬ (twoP S p q ∧ (1 ≤ w ∧ w ≤ 9999) ∧ (1 ≤ s ∧ s ≤ 99) ∧ (1 ≤ b ∧ b ≤ 99))) : am_CT (d + 5) iX10_warn [.ref 0, .int p, .int q, .int w, .int s, .int b] S (some (.int (-1))) (S) := by
  refine am_CT_in mmX10_warn rfl rfl rfl ?_
  refine r_aload_n rfl rfl ?_
  refine r_getC rfl rfl (by decide) (by decide) rfl ?_
  refine r_iload_n rfl rfl ?_
  refine r_iload_n rfl rfl ?_
  refine r_callV rfl ct_X9_hasTwo rfl rfl rfl (by decide) rfl (am_cnt rfl) ?_
  refine r_if_eq rfl (fun h9 => ?_) (fun h9 => ?_)
  · refine r_iconst rfl ?_
    refine r_iret rfl rfl ?_
    exact ⟨rfl, rfl⟩
  · refine r_iload_n rfl rfl ?_
    refine r_iconst rfl ?_
    refine r_sipush rfl ?_
    refine r_callS rfl (by decide) ct_X10_isWithin rfl rfl (am_cnt rfl) ?_
    refine r_if_eq rfl (fun h20 => ?_) (fun h20 => ?_)
    · refine r_iconst rfl ?_
      refine r_iret rfl rfl ?_
      exact ⟨rfl, rfl⟩
    · refine r_iload rfl rfl ?_
      refine r_iconst rfl ?_
      refine r_bipush rfl ?_
      refine r_callS rfl (by decide) ct_X10_isWithin rfl rfl (am_cnt rfl) ?_
      refine r_if_eq rfl (fun h31 => ?_) (fun h31 => ?_)
      · refine r_iconst rfl ?_
        refine r_iret rfl rfl ?_
        exact ⟨rfl, rfl⟩
      · refine r_iload rfl rfl ?_
        refine r_iconst rfl ?_
        refine r_bipush rfl ?_
        refine r_callS rfl (by decide) ct_X10_isWithin rfl rfl (am_cnt rfl) ?_
        refine r_if_ne rfl (fun h42 => ?_) (fun h42 => ?_)
        · exfalso
          simp only [b01_eq0] at *
          grind
        · refine r_iconst rfl ?_
          refine r_iret rfl rfl ?_
          exact ⟨rfl, rfl⟩
theorem ct_X10_warn_ok {d : Nat} {S : am_S} {lt th : Nat → Nat} {n one other w sp br : Nat} (hn : gI S 1 1 = nI n) (hz : n ≤ 6) (hp : PplOk lt th S) (h1 : one < n) (hl : other < n) (hne : one ≠ other) (hw1 : 1 ≤ w) (hw : w ≤ 9999) (hs1 : 1 ≤ sp) (hs : sp ≤ 99) (hb1 : 1 ≤ br) (hb : br ≤ 99) : am_CT (d + 5) iX10_warn [.ref 0, .int (nI one), .int (nI other), .int (nI w), .int (nI sp), .int (nI br)] S (some (.int (warnV S lt th one other w sp br))) (minuS S lt th other one 4) := by
  refine am_CT_in mmX10_warn rfl rfl rfl ?_
  have two := two_nI hn hz h1 hl hne
  have c1 : 1 ≤ nI w ∧ nI w ≤ 9999 := ⟨nI_le (a := 1) hw1 (by omega), nI_le (b := 9999) hw (by omega)⟩
  have c2 : 1 ≤ nI sp ∧ nI sp ≤ 99 := ⟨nI_le (a := 1) hs1 (by omega), nI_le (b := 99) hs (by omega)⟩
  have c3 : 1 ≤ nI br ∧ nI br ≤ 99 := ⟨nI_le (a := 1) hb1 (by omega), nI_le (b := 99) hb (by omega)⟩
  have bp : (nI one).toNatClampNeg = one := nI_clamp (by omega)
  have s3 : 0 ≤ nI one := nI_pos' (by omega)
  have s4 : nI one < Int32.ofNat 6 := nI_lt (by omega) (by omega)
  have q3 := hp one (by omega)
  have g1 : gI (minuS S lt th other one 4) (6 + 2 * one) 2 = nI (th one) := by rw [minuS_ne (by omega) (by omega), q3.2.2.1]
  have r0 : nI w - 1 = nI (w - 1) := pk_sub (b := 1) hw1
  have sl := slwN_le (sp := sp) (br := br) sp
  have slm : sp * sp ≤ 99 * 99 := Nat.mul_le_mul hs hs
  have xd : (w - 1 - slwN sp br sp) / sp < 10000 := Nat.lt_of_le_of_lt (Nat.div_le_self _ _) (by omega)
  have nz : ¬ nI sp = 0 := fun z => absurd (nI_inj (b := 0) (by omega) (by omega) z) (by omega)
  by_cases hc : minuV S lt th other one = -2
  · have kv : warnV S lt th one other w sp br = -2 := by rw [warnV, if_pos (Or.inl hc)]
    rw [kv]
    refine r_aload_n rfl rfl ?_
    refine r_getC rfl rfl (by decide) (by decide) rfl ?_
    refine r_iload_n rfl rfl ?_
    refine r_iload_n rfl rfl ?_
    refine r_callV rfl ct_X9_hasTwo rfl rfl rfl (by decide) rfl (am_cnt rfl) ?_
    refine r_if_eq rfl (fun h9 => ?_) (fun h9 => ?_)
    · exact absurd (two) (b01_eq0.mp h9)
    · refine r_iload_n rfl rfl ?_
      refine r_iconst rfl ?_
      refine r_sipush rfl ?_
      refine r_callS rfl (by decide) ct_X10_isWithin rfl rfl (am_cnt rfl) ?_
      refine r_if_eq rfl (fun h20 => ?_) (fun h20 => ?_)
      · exact absurd (c1) (b01_eq0.mp h20)
      · refine r_iload rfl rfl ?_
        refine r_iconst rfl ?_
        refine r_bipush rfl ?_
        refine r_callS rfl (by decide) ct_X10_isWithin rfl rfl (am_cnt rfl) ?_
        refine r_if_eq rfl (fun h31 => ?_) (fun h31 => ?_)
        · exact absurd (c2) (b01_eq0.mp h31)
        · refine r_iload rfl rfl ?_
          refine r_iconst rfl ?_
          refine r_bipush rfl ?_
          refine r_callS rfl (by decide) ct_X10_isWithin rfl rfl (am_cnt rfl) ?_
          refine r_if_ne rfl (fun h42 => ?_) (fun h42 => ?_)
          · refine r_aload_n rfl rfl ?_
            refine r_getC rfl rfl (by decide) (by decide) rfl ?_
            refine r_aload_n rfl rfl ?_
            refine r_getC rfl rfl (by decide) (by decide) rfl ?_
            refine r_iload_n rfl rfl ?_
            refine r_iload_n rfl rfl ?_
            refine r_callV rfl (ct_X8_minutes hn hz hp hl h1 hne.symm) rfl rfl rfl (by decide) rfl (am_cnt rfl) ?_
            refine r_istore (L2 := [_, _, _, _, _, _, _, _, _]) rfl rfl ?_
            refine r_iload rfl rfl ?_
            refine r_bipush rfl ?_
            refine r_icmp_ne rfl (fun h66 => ?_) (fun h66 => ?_)
            · exact absurd hc h66
            · refine r_bipush rfl ?_
              refine r_iret rfl rfl ?_
              exact ⟨rfl, rfl⟩
          · exact absurd (c3) (b01_eq0.mp h42)
  · obtain ⟨mB, bB⟩ := minuV_nI hp (by omega) hc
    have fin : ∀ {L : am_L}, ∀ j, sp ≤ (j + 1) * br ∨ sp ≤ j → j ≤ sp → slwN sp br j = slwN sp br sp := fun j h hj => by
      have h2 : sp ≤ (j + 1) * br := by
        rcases h with h | h
        · exact h
        · have := Nat.mul_le_mul (show sp ≤ j + 1 by omega) hb1
          omega
      have := slwN_end (br := br) h2 (sp - j)
      rw [show j + (sp - j) = sp by omega] at this
      exact this.symm
    have loop : ∀ (k : Nat) (j : Nat), (j ≤ sp) → (sp < j + k) → am_Ex (am_Call am_MT (d + 4)) mmX10_warn none (fun r1 G1 => r1 = (some (.int (warnV S lt th one other w sp br))) ∧ G1 = am_H (minuS S lt th other one 4)) (fun _ _ _ _ _ _ => False) 80 [some (.ref 0), some (.int (nI one)), some (.int (nI other)), some (.int (nI w)), some (.int (nI sp)), some (.int (nI br)), some (.int (nI (bstW S lt th other one 4).1)), some (.int (nI (w - 1) - nI (slwN sp br j))), some (.int (nI (j + 1)))] [] (am_H (minuS S lt th other one 4)) 0 0 := by
      intro k
      induction k with
      | zero =>
        intro j q1 q2
        omega
      | succ k ih =>
        intro j q1 q2
        have e1 : nI (j + 1) * nI br = nI ((j + 1) * br) := pk_mul _ _
        have e2 : (j + 1) * br ≤ 100 * 99 := Nat.mul_le_mul (by omega) hb
        have slj := slwN_le (sp := sp) (br := br) j
        have slm2 : j * sp ≤ 99 * 99 := Nat.mul_le_mul (by omega) hs
        have fin2 : sp < j + 1 ∨ sp ≤ (j + 1) * br → nI (w - 1) - nI (slwN sp br j) = nI (w - 1) - nI (slwN sp br sp) := fun h => by rw [fin (L := []) j (by omega) q1]
        refine r_iload rfl rfl ?_
        refine r_iload rfl rfl ?_
        refine r_icmp_gt rfl (fun h84 => ?_) (fun h84 => ?_)
        · rw [nI_ltI (by omega) (by omega)] at h84
          rw [fin2 (by omega)]
          refine r_iload rfl rfl ?_
          refine r_if_ge rfl (fun h118 => ?_) (fun h118 => ?_)
          · have w1 : ¬ w - 1 < slwN sp br sp := fun z => absurd (pk_sneg (by omega) z) (Int32.not_lt.mpr h118)
            rw [pk_sub (a := w - 1) (b := slwN sp br sp) (by omega)]
            refine r_iload rfl rfl ?_
            refine r_iload rfl rfl ?_
            refine r_idiv rfl (by first | exact nz | exact s3 | exact s4) ?_
            rw [show nI (w - 1 - slwN sp br sp) / nI sp = nI ((w - 1 - slwN sp br sp) / sp) from pk_div (by omega) (by omega) (by omega)]
            refine r_iload rfl rfl ?_
            refine r_isub rfl ?_
            refine r_aload_n rfl rfl ?_
            refine r_getC rfl rfl (by decide) (by decide) rfl ?_
            refine r_getC rfl rfl (by decide) (by decide) rfl ?_
            refine r_iload_n rfl rfl ?_
            refine r_aaldP rfl rfl (by first | exact nz | exact s3 | exact s4) (by first | exact nz | exact s3 | exact s4) ?_
            refine r_getI rfl (by rw [bp]; exact kn_person (by omega)) (by decide) (by decide) rfl ?_
            refine r_isub rfl ?_
            refine r_istore (L2 := [_, _, _, _, _, _, _, _, _]) rfl rfl ?_
            refine r_iload rfl rfl ?_
            refine r_if_ge rfl (fun h149 => ?_) (fun h149 => ?_)
            · rw [bp, g1] at h149 ⊢
              have w2 : ¬ (w - 1 - slwN sp br sp) / sp < (bstW S lt th other one 4).1 + th one := fun z => absurd (wsub2 xd (by omega) z) (Int32.not_lt.mpr h149)
              have kv : warnV S lt th one other w sp br = nI ((w - 1 - slwN sp br sp) / sp - ((bstW S lt th other one 4).1 + th one)) := by rw [warnV, if_neg (fun z => z.elim hc (fun y => y.elim w1 w2))]
              rw [kv, wsub1 (by omega)]
              refine r_iload rfl rfl ?_
              refine r_iret rfl rfl ?_
              exact ⟨rfl, rfl⟩
            · rw [bp, g1] at h149
              have w2 : (w - 1 - slwN sp br sp) / sp < (bstW S lt th other one 4).1 + th one := by
                apply Decidable.byContradiction
                intro z
                rw [wsub1 (by omega)] at h149
                exact h149 (nI_pos' (by omega))
              have kv : warnV S lt th one other w sp br = -2 := by rw [warnV, if_pos (Or.inr (Or.inr w2))]
              rw [kv]
              refine r_bipush rfl ?_
              refine r_goto rfl ?_
              refine r_iret rfl rfl ?_
              exact ⟨rfl, rfl⟩
          · have w1 : w - 1 < slwN sp br sp := by
              apply Decidable.byContradiction
              intro z
              rw [pk_sub (a := w - 1) (b := slwN sp br sp) (by omega)] at h118
              exact h118 (nI_pos' (by omega))
            have kv : warnV S lt th one other w sp br = -2 := by rw [warnV, if_pos (Or.inr (Or.inl w1))]
            rw [kv]
            refine r_bipush rfl ?_
            refine r_iret rfl rfl ?_
            exact ⟨rfl, rfl⟩
        · rw [nI_ltI (by omega) (by omega)] at h84
          refine r_iload rfl rfl ?_
          refine r_iload rfl rfl ?_
          refine r_imul rfl ?_
          rw [e1]
          refine r_iload rfl rfl ?_
          refine r_icmp_ge rfl (fun h94 => ?_) (fun h94 => ?_)
          · rw [nI_leI (by omega) (by omega)] at h94
            rw [fin2 (by omega)]
            refine r_iload rfl rfl ?_
            refine r_if_ge rfl (fun h118 => ?_) (fun h118 => ?_)
            · have w1 : ¬ w - 1 < slwN sp br sp := fun z => absurd (pk_sneg (by omega) z) (Int32.not_lt.mpr h118)
              rw [pk_sub (a := w - 1) (b := slwN sp br sp) (by omega)]
              refine r_iload rfl rfl ?_
              refine r_iload rfl rfl ?_
              refine r_idiv rfl (by first | exact nz | exact s3 | exact s4) ?_
              rw [show nI (w - 1 - slwN sp br sp) / nI sp = nI ((w - 1 - slwN sp br sp) / sp) from pk_div (by omega) (by omega) (by omega)]
              refine r_iload rfl rfl ?_
              refine r_isub rfl ?_
              refine r_aload_n rfl rfl ?_
              refine r_getC rfl rfl (by decide) (by decide) rfl ?_
              refine r_getC rfl rfl (by decide) (by decide) rfl ?_
              refine r_iload_n rfl rfl ?_
              refine r_aaldP rfl rfl (by first | exact nz | exact s3 | exact s4) (by first | exact nz | exact s3 | exact s4) ?_
              refine r_getI rfl (by rw [bp]; exact kn_person (by omega)) (by decide) (by decide) rfl ?_
              refine r_isub rfl ?_
              refine r_istore (L2 := [_, _, _, _, _, _, _, _, _]) rfl rfl ?_
              refine r_iload rfl rfl ?_
              refine r_if_ge rfl (fun h149 => ?_) (fun h149 => ?_)
              · rw [bp, g1] at h149 ⊢
                have w2 : ¬ (w - 1 - slwN sp br sp) / sp < (bstW S lt th other one 4).1 + th one := fun z => absurd (wsub2 xd (by omega) z) (Int32.not_lt.mpr h149)
                have kv : warnV S lt th one other w sp br = nI ((w - 1 - slwN sp br sp) / sp - ((bstW S lt th other one 4).1 + th one)) := by rw [warnV, if_neg (fun z => z.elim hc (fun y => y.elim w1 w2))]
                rw [kv, wsub1 (by omega)]
                refine r_iload rfl rfl ?_
                refine r_iret rfl rfl ?_
                exact ⟨rfl, rfl⟩
              · rw [bp, g1] at h149
                have w2 : (w - 1 - slwN sp br sp) / sp < (bstW S lt th other one 4).1 + th one := by
                  apply Decidable.byContradiction
                  intro z
                  rw [wsub1 (by omega)] at h149
                  exact h149 (nI_pos' (by omega))
                have kv : warnV S lt th one other w sp br = -2 := by rw [warnV, if_pos (Or.inr (Or.inr w2))]
                rw [kv]
                refine r_bipush rfl ?_
                refine r_goto rfl ?_
                refine r_iret rfl rfl ?_
                exact ⟨rfl, rfl⟩
            · have w1 : w - 1 < slwN sp br sp := by
                apply Decidable.byContradiction
                intro z
                rw [pk_sub (a := w - 1) (b := slwN sp br sp) (by omega)] at h118
                exact h118 (nI_pos' (by omega))
              have kv : warnV S lt th one other w sp br = -2 := by rw [warnV, if_pos (Or.inr (Or.inl w1))]
              rw [kv]
              refine r_bipush rfl ?_
              refine r_iret rfl rfl ?_
              exact ⟨rfl, rfl⟩
          · rw [nI_leI (by omega) (by omega)] at h94
            refine r_iload rfl rfl ?_
            refine r_iload rfl rfl ?_
            refine r_iload rfl rfl ?_
            refine r_iload rfl rfl ?_
            refine r_imul rfl ?_
            rw [e1]
            refine r_isub rfl ?_
            refine r_isub rfl ?_
            refine r_istore (L2 := [_, _, _, _, _, _, _, _, _]) rfl rfl ?_
            refine r_iinc (L2 := [_, _, _, _, _, _, _, _, _]) rfl rfl rfl ?_
            refine r_goto rfl ?_
            rw [nI_1]
            rw [show nI (w - 1) - nI (slwN sp br j) - (nI sp - nI ((j + 1) * br)) = nI (w - 1) - nI (slwN sp br (j + 1)) from by rw [slwN, ← nI_add, pk_sub (a := sp) (b := (j + 1) * br) (by omega)]; grind]
            exact ih (j + 1) (by omega) (by omega)
    refine r_aload_n rfl rfl ?_
    refine r_getC rfl rfl (by decide) (by decide) rfl ?_
    refine r_iload_n rfl rfl ?_
    refine r_iload_n rfl rfl ?_
    refine r_callV rfl ct_X9_hasTwo rfl rfl rfl (by decide) rfl (am_cnt rfl) ?_
    refine r_if_eq rfl (fun h9 => ?_) (fun h9 => ?_)
    · exact absurd (two) (b01_eq0.mp h9)
    · refine r_iload_n rfl rfl ?_
      refine r_iconst rfl ?_
      refine r_sipush rfl ?_
      refine r_callS rfl (by decide) ct_X10_isWithin rfl rfl (am_cnt rfl) ?_
      refine r_if_eq rfl (fun h20 => ?_) (fun h20 => ?_)
      · exact absurd (c1) (b01_eq0.mp h20)
      · refine r_iload rfl rfl ?_
        refine r_iconst rfl ?_
        refine r_bipush rfl ?_
        refine r_callS rfl (by decide) ct_X10_isWithin rfl rfl (am_cnt rfl) ?_
        refine r_if_eq rfl (fun h31 => ?_) (fun h31 => ?_)
        · exact absurd (c2) (b01_eq0.mp h31)
        · refine r_iload rfl rfl ?_
          refine r_iconst rfl ?_
          refine r_bipush rfl ?_
          refine r_callS rfl (by decide) ct_X10_isWithin rfl rfl (am_cnt rfl) ?_
          refine r_if_ne rfl (fun h42 => ?_) (fun h42 => ?_)
          · refine r_aload_n rfl rfl ?_
            refine r_getC rfl rfl (by decide) (by decide) rfl ?_
            refine r_aload_n rfl rfl ?_
            refine r_getC rfl rfl (by decide) (by decide) rfl ?_
            refine r_iload_n rfl rfl ?_
            refine r_iload_n rfl rfl ?_
            refine r_callV rfl (ct_X8_minutes hn hz hp hl h1 hne.symm) rfl rfl rfl (by decide) rfl (am_cnt rfl) ?_
            refine r_istore (L2 := [_, _, _, _, _, _, _, _, _]) rfl rfl ?_
            refine r_iload rfl rfl ?_
            refine r_bipush rfl ?_
            refine r_icmp_ne rfl (fun h66 => ?_) (fun h66 => ?_)
            · refine r_iload_n rfl rfl ?_
              refine r_iconst rfl ?_
              refine r_isub rfl ?_
              refine r_istore (L2 := [_, _, _, _, _, _, _, _, _]) rfl rfl ?_
              refine r_iconst rfl ?_
              refine r_istore (L2 := [_, _, _, _, _, _, _, _, _]) rfl rfl ?_
              rw [mB, r0]
              have e := loop (sp + 1) 0 (by omega) (by omega)
              rw [slwN, show nI (w - 1) - nI 0 = nI (w - 1) from pk_sub (by omega)] at e
              exact e
            · exact absurd h66 hc
          · exact absurd (c3) (b01_eq0.mp h42)
/-- cases of a hundred in which it is answered by then -/
def ansI (S : am_S) (one other : Nat) (m : Int32) : Int32 := sumI (fun i => sumI (fun j => if gI S (6 + 2 * other) 0 + gI S (6 + 2 * other) 2 + gI S (6 + 2 * one) 0 + nI i + nI j ≤ m then gI S (6 + 2 * other + 1) i * gI S (6 + 2 * one + 1) j else 0) 4) 4
theorem ct_X10_answeredOfHundred {d : Nat} {S : am_S} {one other : Nat} {m : Int32} (h1 : one < 6) (h2 : other < 6) : am_CT (d + 1) iX10_answeredOfHundred [.ref 0, .int (nI one), .int (nI other), .int m] S (some (.int (ansI S one other m))) (S) := by
  refine am_CT_in mmX10_answeredOfHundred rfl rfl rfl ?_
  have bo : (nI other).toNatClampNeg = other := nI_clamp (by omega)
  have bp : (nI one).toNatClampNeg = one := nI_clamp (by omega)
  have s1 : 0 ≤ nI other := nI_pos' (by omega)
  have s2 : nI other < Int32.ofNat 6 := nI_lt (by omega) (by omega)
  have s3 : 0 ≤ nI one := nI_pos' (by omega)
  have s4 : nI one < Int32.ofNat 6 := nI_lt (by omega) (by omega)
  have loop : ∀ (k : Nat) (i : Nat) (v9 : Option Value), (i ≤ 4) → (4 < i + k) → am_Ex (am_Call am_MT (d + 0)) mmX10_answeredOfHundred none (fun r1 G1 => r1 = (some (.int (ansI S one other m))) ∧ G1 = am_H (S)) (fun _ _ _ _ _ _ => False) 47 [some (.ref 0), some (.int (nI one)), some (.int (nI other)), some (.int m), some (.ref (6 + 2 * one)), some (.ref (6 + 2 * other)), some (.int (gI S (6 + 2 * other) 0 + gI S (6 + 2 * other) 2 + gI S (6 + 2 * one) 0)), some (.int (sumI (fun i => sumI (fun j => if gI S (6 + 2 * other) 0 + gI S (6 + 2 * other) 2 + gI S (6 + 2 * one) 0 + nI i + nI j ≤ m then gI S (6 + 2 * other + 1) i * gI S (6 + 2 * one + 1) j else 0) 4) i)), some (.int (nI i)), v9] [] (am_H (S)) 0 0 := by
    intro k
    induction k with
    | zero =>
      intro i v9 q1 q2
      omega
    | succ k ih =>
      intro i v9 q1 q2
      have bi : (nI i).toNatClampNeg = i := nI_clamp (by omega)
      have s5 : 0 ≤ nI i := nI_pos' (by omega)
      have loop2 : ∀ (k2 : Nat) (j : Nat), (i < 4) → (j ≤ 4) → (4 < j + k2) → am_Ex (am_Call am_MT (d + 0)) mmX10_answeredOfHundred none (fun r1 G1 => r1 = (some (.int (ansI S one other m))) ∧ G1 = am_H (S)) (fun _ _ _ _ _ _ => False) 56 [some (.ref 0), some (.int (nI one)), some (.int (nI other)), some (.int m), some (.ref (6 + 2 * one)), some (.ref (6 + 2 * other)), some (.int (gI S (6 + 2 * other) 0 + gI S (6 + 2 * other) 2 + gI S (6 + 2 * one) 0)), some (.int (sumI (fun i => sumI (fun j => if gI S (6 + 2 * other) 0 + gI S (6 + 2 * other) 2 + gI S (6 + 2 * one) 0 + nI i + nI j ≤ m then gI S (6 + 2 * other + 1) i * gI S (6 + 2 * one + 1) j else 0) 4) i + sumI (fun j => if gI S (6 + 2 * other) 0 + gI S (6 + 2 * other) 2 + gI S (6 + 2 * one) 0 + nI i + nI j ≤ m then gI S (6 + 2 * other + 1) i * gI S (6 + 2 * one + 1) j else 0) j)), some (.int (nI i)), some (.int (nI j))] [] (am_H (S)) 0 0 := by
        intro k2
        induction k2 with
        | zero =>
          intro j t0 t1 t2
          omega
        | succ k2 ih2 =>
          intro j t0 t1 t2
          have bj : (nI j).toNatClampNeg = j := nI_clamp (by omega)
          have s6 : 0 ≤ nI j := nI_pos' (by omega)
          have s7 : nI i < Int32.ofNat 4 := nI_lt (by omega) (by omega)
          refine r_iload rfl rfl ?_
          refine r_iconst rfl ?_
          refine r_icmp_ge rfl (fun h59 => ?_) (fun h59 => ?_)
          · have hj : j = 4 := by
              rw [show (4 : Int32) = nI 4 from rfl, nI_leI (by omega) (by omega)] at h59
              omega
            rw [hj]
            refine r_iinc (L2 := [_, _, _, _, _, _, _, _, _, _]) rfl rfl rfl ?_
            refine r_goto rfl ?_
            rw [nI_1]
            exact ih (i + 1) _ (by omega) (by omega)
          · rw [show (4 : Int32) = nI 4 from rfl, nI_leI (by omega) (by omega)] at h59
            have s8 : nI j < Int32.ofNat 4 := nI_lt (by omega) (by omega)
            refine r_iload rfl rfl ?_
            refine r_iload rfl rfl ?_
            refine r_iadd rfl ?_
            refine r_iload rfl rfl ?_
            refine r_iadd rfl ?_
            refine r_iload_n rfl rfl ?_
            refine r_icmp_gt rfl (fun h71 => ?_) (fun h71 => ?_)
            · have e := ih2 (j + 1) t0 (by omega) (by omega)
              rw [sumI, if_neg (Int32.not_le.mpr h71), Int32.add_zero] at e
              refine r_iinc (L2 := [_, _, _, _, _, _, _, _, _, _]) rfl rfl rfl ?_
              refine r_goto rfl ?_
              rw [nI_1]
              first | exact e | (rw [bi, bj]; exact e)
            · have e := ih2 (j + 1) t0 (by omega) (by omega)
              rw [sumI, if_pos (Int32.not_lt.mp h71), ← Int32.add_assoc] at e
              refine r_iload rfl rfl ?_
              refine r_aload rfl rfl ?_
              refine r_getO rfl (kn_person h2) (by decide) (by decide) rfl ?_
              refine r_iload rfl rfl ?_
              refine r_iald rfl (kn_more h2) (by first | decide | assumption) (by first | exact s5 | exact s6 | exact s7 | exact s8) (by first | exact s5 | exact s6 | exact s7 | exact s8) ?_
              refine r_aload rfl rfl ?_
              refine r_getO rfl (kn_person h1) (by decide) (by decide) rfl ?_
              refine r_iload rfl rfl ?_
              refine r_iald rfl (kn_more h1) (by first | decide | assumption) (by first | exact s5 | exact s6 | exact s7 | exact s8) (by first | exact s5 | exact s6 | exact s7 | exact s8) ?_
              refine r_imul rfl ?_
              refine r_iadd rfl ?_
              refine r_istore (L2 := [_, _, _, _, _, _, _, _, _, _]) rfl rfl ?_
              refine r_iinc (L2 := [_, _, _, _, _, _, _, _, _, _]) rfl rfl rfl ?_
              refine r_goto rfl ?_
              rw [nI_1]
              first | exact e | (rw [bi, bj]; exact e)
      refine r_iload rfl rfl ?_
      refine r_iconst rfl ?_
      refine r_icmp_ge rfl (fun h50 => ?_) (fun h50 => ?_)
      · have hi : i = 4 := by
          rw [show (4 : Int32) = nI 4 from rfl, nI_leI (by omega) (by omega)] at h50
          omega
        rw [hi]
        refine r_iload rfl rfl ?_
        refine r_iret rfl rfl ?_
        exact ⟨rfl, rfl⟩
      · rw [show (4 : Int32) = nI 4 from rfl, nI_leI (by omega) (by omega)] at h50
        refine r_iconst rfl ?_
        refine r_istore (L2 := [_, _, _, _, _, _, _, _, _, _]) rfl rfl ?_
        have e := loop2 5 0 (by omega) (by omega) (by omega)
        rw [sumI, Int32.add_zero] at e
        exact e
  refine r_aload_n rfl rfl ?_
  refine r_getC rfl rfl (by decide) (by decide) rfl ?_
  refine r_getC rfl rfl (by decide) (by decide) rfl ?_
  refine r_iload_n rfl rfl ?_
  refine r_aaldP rfl rfl (by first | exact s1 | exact s2 | exact s3 | exact s4) (by first | exact s1 | exact s2 | exact s3 | exact s4) ?_
  refine r_astore (L2 := [_, _, _, _, _, _, _, _, _, _]) rfl rfl ?_
  refine r_aload_n rfl rfl ?_
  refine r_getC rfl rfl (by decide) (by decide) rfl ?_
  refine r_getC rfl rfl (by decide) (by decide) rfl ?_
  refine r_iload_n rfl rfl ?_
  refine r_aaldP rfl rfl (by first | exact s1 | exact s2 | exact s3 | exact s4) (by first | exact s1 | exact s2 | exact s3 | exact s4) ?_
  refine r_astore (L2 := [_, _, _, _, _, _, _, _, _, _]) rfl rfl ?_
  refine r_aload rfl rfl ?_
  refine r_getI rfl (by rw [bo]; exact kn_person h2) (by decide) (by decide) rfl ?_
  refine r_aload rfl rfl ?_
  refine r_getI rfl (by rw [bo]; exact kn_person h2) (by decide) (by decide) rfl ?_
  refine r_iadd rfl ?_
  refine r_aload rfl rfl ?_
  refine r_getI rfl (by rw [bp]; exact kn_person h1) (by decide) (by decide) rfl ?_
  refine r_iadd rfl ?_
  refine r_istore (L2 := [_, _, _, _, _, _, _, _, _, _]) rfl rfl ?_
  refine r_iconst rfl ?_
  refine r_istore (L2 := [_, _, _, _, _, _, _, _, _, _]) rfl rfl ?_
  refine r_iconst rfl ?_
  refine r_istore (L2 := [_, _, _, _, _, _, _, _, _, _]) rfl rfl ?_
  rw [bo, bp]
  exact loop 5 0 none (by omega) (by omega)
/-- the greatest that divides both, as it is reckoned -/
def frG : Nat → Int64 → Int64 → Int64
  | 0, a, _ => a
  | f + 1, a, b => if b = 0 then a else frG f b (a - a / b * b)
def absJ (x : Int64) : Int64 := if 0 < x then x else -x
def frc (S : am_S) (u l : Int64) : am_S := if frG 1000 (absJ u) (absJ l) = 0 then t2 S u l else t2 S (u / frG 1000 (absJ u) (absJ l)) (l / frG 1000 (absJ u) (absJ l))
theorem ct_X7_tellFraction {d : Nat} {S : am_S} {u l : Int64} : am_CT (d + 4) iX7_tellFraction [.ref 74, .long u, .long l] S (none) (frc S u l) := by
  refine am_CT_in mmX7_tellFraction rfl rfl rfl ?_
  have loop : ∀ (k : Nat) (j : Nat) (a : Int64) (b : Int64) (v10 : Option Value) (v11 : Option Value), (j ≤ 1000) → (1000 < j + k) → (frG (1000 - j) a b = frG 1000 (absJ u) (absJ l)) → am_Ex (am_Call am_MT (d + 3)) mmX7_tellFraction none (fun r1 G1 => r1 = (none) ∧ G1 = am_H (frc S u l)) (fun _ _ _ _ _ _ => False) 15 [some (.ref 74), some (.long u), none, some (.long l), none, some (.long a), none, some (.long b), none, some (.int (nI j)), v10, v11] [] (am_H (S)) 0 0 := by
    intro k
    induction k with
    | zero =>
      intro j a b v10 v11 q1 q2 q3
      omega
    | succ k ih =>
      intro j a b v10 v11 q1 q2 q3
      have en : j = 1000 ∨ b = 0 → frG 1000 (absJ u) (absJ l) = a := fun h => by
        rw [← q3]
        rcases h with h | h
        · rw [h]
          rfl
        · match 1000 - j with
          | 0 => rfl
          | f + 1 => rw [frG, if_pos h]
      have st : ¬ j = 1000 → ¬ b = 0 → frG (1000 - (j + 1)) b (a - a / b * b) = frG 1000 (absJ u) (absJ l) := fun h1 h2 => by
        rw [← q3]
        obtain ⟨f, hf⟩ : ∃ f, 1000 - j = f + 1 := ⟨1000 - j - 1, by omega⟩
        rw [hf, frG, if_neg h2, show 1000 - (j + 1) = f by omega]
      refine r_iload rfl rfl ?_
      refine r_sipush rfl ?_
      refine r_icmp_ge rfl (fun h20 => ?_) (fun h20 => ?_)
      · rw [show (1000 : Int32) = nI 1000 from rfl, nI_leI (by omega) (by omega)] at h20
        have eg := en (by omega)
        refine r_lload rfl rfl ?_
        refine r_lconst rfl ?_
        refine r_lcmp rfl ?_
        refine r_if_ne rfl (fun h55 => ?_) (fun h55 => ?_)
        · have h55b : ¬ a = 0 := fun z => h55 ((lc_eq _ _).mpr z)
          rw [frc, eg, if_neg h55b]
          refine r_aload_n rfl rfl ?_
          refine r_lload_n rfl rfl ?_
          refine r_lload rfl rfl ?_
          refine r_ldiv rfl (by assumption) ?_
          refine r_lload_n rfl rfl ?_
          refine r_lload rfl rfl ?_
          refine r_ldiv rfl (by assumption) ?_
          refine r_callV rfl ct_X7_tellTwo rfl rfl rfl (by decide) rfl (am_cnt rfl) ?_
          refine r_vret rfl ?_
          exact ⟨rfl, rfl⟩
        · have h55b : a = 0 := (lc_eq _ _).mp h55
          rw [frc, eg, if_pos h55b]
          refine r_aload_n rfl rfl ?_
          refine r_lload_n rfl rfl ?_
          refine r_lload_n rfl rfl ?_
          refine r_callV rfl ct_X7_tellTwo rfl rfl rfl (by decide) rfl (am_cnt rfl) ?_
          refine r_goto rfl ?_
          refine r_vret rfl ?_
          exact ⟨rfl, rfl⟩
      · rw [show (1000 : Int32) = nI 1000 from rfl, nI_leI (by omega) (by omega)] at h20
        refine r_lload rfl rfl ?_
        refine r_lconst rfl ?_
        refine r_lcmp rfl ?_
        refine r_if_eq rfl (fun h27 => ?_) (fun h27 => ?_)
        · have eg := en (Or.inr ((lc_eq _ _).mp h27))
          refine r_lload rfl rfl ?_
          refine r_lconst rfl ?_
          refine r_lcmp rfl ?_
          refine r_if_ne rfl (fun h55 => ?_) (fun h55 => ?_)
          · have h55b : ¬ a = 0 := fun z => h55 ((lc_eq _ _).mpr z)
            rw [frc, eg, if_neg h55b]
            refine r_aload_n rfl rfl ?_
            refine r_lload_n rfl rfl ?_
            refine r_lload rfl rfl ?_
            refine r_ldiv rfl (by assumption) ?_
            refine r_lload_n rfl rfl ?_
            refine r_lload rfl rfl ?_
            refine r_ldiv rfl (by assumption) ?_
            refine r_callV rfl ct_X7_tellTwo rfl rfl rfl (by decide) rfl (am_cnt rfl) ?_
            refine r_vret rfl ?_
            exact ⟨rfl, rfl⟩
          · have h55b : a = 0 := (lc_eq _ _).mp h55
            rw [frc, eg, if_pos h55b]
            refine r_aload_n rfl rfl ?_
            refine r_lload_n rfl rfl ?_
            refine r_lload_n rfl rfl ?_
            refine r_callV rfl ct_X7_tellTwo rfl rfl rfl (by decide) rfl (am_cnt rfl) ?_
            refine r_goto rfl ?_
            refine r_vret rfl ?_
            exact ⟨rfl, rfl⟩
        · have h27b : ¬ b = 0 := fun z => h27 ((lc_eq _ _).mpr z)
          refine r_lload rfl rfl ?_
          refine r_lload rfl rfl ?_
          refine r_lrem rfl (by assumption) ?_
          refine r_lstore (L2 := [_, _, _, _, _, _, _, _, _, _, _, _]) rfl rfl ?_
          refine r_lload rfl rfl ?_
          refine r_lstore (L2 := [_, _, _, _, _, _, _, _, _, _, _, _]) rfl rfl ?_
          refine r_lload rfl rfl ?_
          refine r_lstore (L2 := [_, _, _, _, _, _, _, _, _, _, _, _]) rfl rfl ?_
          refine r_iinc (L2 := [_, _, _, _, _, _, _, _, _, _, _, _]) rfl rfl rfl ?_
          refine r_goto rfl ?_
          rw [nI_1]
          exact ih (j + 1) _ _ _ _ (by omega) (by omega) (st (by omega) h27b)
  refine r_lload_n rfl rfl ?_
  refine r_absl rfl (am_cnt rfl) ?_
  refine r_lstore (L2 := [_, _, _, _, _, _, _, _, _, _, _, _]) rfl rfl ?_
  refine r_lload_n rfl rfl ?_
  refine r_absl rfl (am_cnt rfl) ?_
  refine r_lstore (L2 := [_, _, _, _, _, _, _, _, _, _, _, _]) rfl rfl ?_
  refine r_iconst rfl ?_
  refine r_istore (L2 := [_, _, _, _, _, _, _, _, _, _, _, _]) rfl rfl ?_
  exact loop 1001 0 _ _ none none (by omega) (by omega) rfl
theorem ct_X10_chance_no {d : Nat} {S : am_S} {p q m : Int32} (h : ¬ (twoP S p q ∧ 0 ≤ m ∧ m ≤ 199)) : am_CT (d + 5) iX10_chance [.ref 0, .int p, .int q, .int m] S (some (.int (-1))) (S) := by
  refine am_CT_in mmX10_chance rfl rfl rfl ?_
  refine r_aload_n rfl rfl ?_
  refine r_getC rfl rfl (by decide) (by decide) rfl ?_
  refine r_iload_n rfl rfl ?_
  refine r_iload_n rfl rfl ?_
  refine r_callV rfl ct_X9_hasTwo rfl rfl rfl (by decide) rfl (am_cnt rfl) ?_
  refine r_if_eq rfl (fun h9 => ?_) (fun h9 => ?_)
  · refine r_iconst rfl ?_
    refine r_iret rfl rfl ?_
    exact ⟨rfl, rfl⟩
  · refine r_iload_n rfl rfl ?_
    refine r_iconst rfl ?_
    refine r_sipush rfl ?_
    refine r_callS rfl (by decide) ct_X10_isWithin rfl rfl (am_cnt rfl) ?_
    refine r_if_ne rfl (fun h20 => ?_) (fun h20 => ?_)
    · exfalso
      simp only [b01_eq0] at *
      grind
    · refine r_iconst rfl ?_
      refine r_iret rfl rfl ?_
      exact ⟨rfl, rfl⟩
theorem ct_X10_chance_ok {d : Nat} {S : am_S} {n p q : Nat} {m : Int32} (hn : gI S 1 1 = nI n) (hz : n ≤ 6) (h1 : p < n) (hl : q < n) (hne : p ≠ q) (hm : 0 ≤ m ∧ m ≤ 199) : am_CT (d + 5) iX10_chance [.ref 0, .int (nI p), .int (nI q), .int m] S (some (.int (if nearP S p q then 0 else -2))) ((if nearP S p q then frc S (ansI S p q m).toInt64 100 else S)) := by
  refine am_CT_in mmX10_chance rfl rfl rfl ?_
  have two := two_nI hn hz h1 hl hne
  refine r_aload_n rfl rfl ?_
  refine r_getC rfl rfl (by decide) (by decide) rfl ?_
  refine r_iload_n rfl rfl ?_
  refine r_iload_n rfl rfl ?_
  refine r_callV rfl ct_X9_hasTwo rfl rfl rfl (by decide) rfl (am_cnt rfl) ?_
  refine r_if_eq rfl (fun h9 => ?_) (fun h9 => ?_)
  · exact absurd (two) (b01_eq0.mp h9)
  · refine r_iload_n rfl rfl ?_
    refine r_iconst rfl ?_
    refine r_sipush rfl ?_
    refine r_callS rfl (by decide) ct_X10_isWithin rfl rfl (am_cnt rfl) ?_
    refine r_if_ne rfl (fun h20 => ?_) (fun h20 => ?_)
    · refine r_aload_n rfl rfl ?_
      refine r_getC rfl rfl (by decide) (by decide) rfl ?_
      refine r_iload_n rfl rfl ?_
      refine r_iload_n rfl rfl ?_
      refine r_callV rfl (near_ct hn hz h1 hl hne (fun _ _ => rfl)) rfl rfl rfl (by decide) rfl (am_cnt rfl) ?_
      refine r_if_ne rfl (fun h34 => ?_) (fun h34 => ?_)
      · have hr : nearP S p q := Decidable.not_not.mp fun z => h34 (b01_f z)
        rw [if_pos hr, if_pos hr]
        refine r_aload_n rfl rfl ?_
        refine r_getC rfl rfl (by decide) (by decide) rfl ?_
        refine r_aload_n rfl rfl ?_
        refine r_iload_n rfl rfl ?_
        refine r_iload_n rfl rfl ?_
        refine r_iload_n rfl rfl ?_
        refine r_callV rfl (ct_X10_answeredOfHundred (by omega) (by omega)) rfl rfl rfl (by decide) rfl (am_cnt rfl) ?_
        refine r_i2l rfl ?_
        refine r_ldc2_w rfl ?_
        refine r_callV rfl ct_X7_tellFraction rfl rfl rfl (by decide) rfl (am_cnt rfl) ?_
        refine r_iconst rfl ?_
        refine r_iret rfl rfl ?_
        exact ⟨rfl, rfl⟩
      · rw [if_neg (b01_eq0.mp h34), if_neg (b01_eq0.mp h34)]
        refine r_bipush rfl ?_
        refine r_iret rfl rfl ?_
        exact ⟨rfl, rfl⟩
    · exact absurd (hm) (b01_eq0.mp h20)
theorem ct_X10_sure_no {d : Nat} {S : am_S} {p q w : Int32} (h : ¬ (twoP S p q ∧ 1 ≤ w ∧ w ≤ 100)) : am_CT (d + 4) iX10_sure [.ref 0, .int p, .int q, .int w] S (some (.int (-1))) (S) := by
  refine am_CT_in mmX10_sure rfl rfl rfl ?_
  refine r_aload_n rfl rfl ?_
  refine r_getC rfl rfl (by decide) (by decide) rfl ?_
  refine r_iload_n rfl rfl ?_
  refine r_iload_n rfl rfl ?_
  refine r_callV rfl ct_X9_hasTwo rfl rfl rfl (by decide) rfl (am_cnt rfl) ?_
  refine r_if_eq rfl (fun h9 => ?_) (fun h9 => ?_)
  · refine r_iconst rfl ?_
    refine r_iret rfl rfl ?_
    exact ⟨rfl, rfl⟩
  · refine r_iload_n rfl rfl ?_
    refine r_iconst rfl ?_
    refine r_bipush rfl ?_
    refine r_callS rfl (by decide) ct_X10_isWithin rfl rfl (am_cnt rfl) ?_
    refine r_if_ne rfl (fun h19 => ?_) (fun h19 => ?_)
    · exfalso
      simp only [b01_eq0] at *
      grind
    · refine r_iconst rfl ?_
      refine r_iret rfl rfl ?_
      exact ⟨rfl, rfl⟩
def sureN (S : am_S) (p q : Nat) (w : Int32) : Nat := fstF (fun m => ¬ ansI S p q (nI m) < w) 0 199
theorem ct_X10_sure_ok {d : Nat} {S : am_S} {n p q : Nat} {w : Int32} (hn : gI S 1 1 = nI n) (hz : n ≤ 6) (h1 : p < n) (hl : q < n) (hne : p ≠ q) (hw : 1 ≤ w ∧ w ≤ 100) : am_CT (d + 4) iX10_sure [.ref 0, .int (nI p), .int (nI q), .int w] S (some (.int (if nearP S p q then nI (sureN S p q w) else -2))) (S) := by
  refine am_CT_in mmX10_sure rfl rfl rfl ?_
  have two := two_nI hn hz h1 hl hne
  have loop : ∀ (k : Nat) (j : Nat), (nearP S p q) → (j ≤ 199) → (199 < j + k) → (fstF (fun m => ¬ ansI S p q (nI m) < w) j (199 - j) = sureN S p q w) → am_Ex (am_Call am_MT (d + 3)) mmX10_sure none (fun r1 G1 => r1 = (some (.int (if nearP S p q then nI (sureN S p q w) else -2))) ∧ G1 = am_H (S)) (fun _ _ _ _ _ _ => False) 42 [some (.ref 0), some (.int (nI p)), some (.int (nI q)), some (.int w), some (.int (nI j))] [] (am_H (S)) 0 0 := by
    intro k
    induction k with
    | zero =>
      intro j q0 q1 q2 q3
      omega
    | succ k ih =>
      intro j q0 q1 q2 q3
      rw [if_pos q0]
      have en : j = 199 ∨ ¬ ansI S p q (nI j) < w → sureN S p q w = j := fun h => by
        rw [← q3]
        rcases h with h | h
        · rw [h]
          rfl
        · match 199 - j with
          | 0 => rfl
          | f + 1 => rw [fstF, if_pos h]
      refine r_iload rfl rfl ?_
      refine r_sipush rfl ?_
      refine r_icmp_ge rfl (fun h47 => ?_) (fun h47 => ?_)
      · rw [show (199 : Int32) = nI 199 from rfl, nI_leI (by omega) (by omega)] at h47
        rw [en (by omega)]
        refine r_iload rfl rfl ?_
        refine r_iret rfl rfl ?_
        exact ⟨rfl, rfl⟩
      · rw [show (199 : Int32) = nI 199 from rfl, nI_leI (by omega) (by omega)] at h47
        refine r_aload_n rfl rfl ?_
        refine r_iload_n rfl rfl ?_
        refine r_iload_n rfl rfl ?_
        refine r_iload rfl rfl ?_
        refine r_callV rfl (ct_X10_answeredOfHundred (by omega) (by omega)) rfl rfl rfl (by decide) rfl (am_cnt rfl) ?_
        refine r_iload_n rfl rfl ?_
        refine r_icmp_ge rfl (fun h59 => ?_) (fun h59 => ?_)
        · rw [en (Or.inr (Int32.not_lt.mpr h59))]
          refine r_iload rfl rfl ?_
          refine r_iret rfl rfl ?_
          exact ⟨rfl, rfl⟩
        · refine r_iinc (L2 := [_, _, _, _, _]) rfl rfl rfl ?_
          refine r_goto rfl ?_
          rw [nI_1]
          have e := ih (j + 1) q0 (by omega) (by omega) (by rw [← q3, show 199 - j = 199 - (j + 1) + 1 by omega, fstF, if_neg (fun z => z (Int32.not_le.mp h59))])
          rw [if_pos q0] at e
          exact e
  refine r_aload_n rfl rfl ?_
  refine r_getC rfl rfl (by decide) (by decide) rfl ?_
  refine r_iload_n rfl rfl ?_
  refine r_iload_n rfl rfl ?_
  refine r_callV rfl ct_X9_hasTwo rfl rfl rfl (by decide) rfl (am_cnt rfl) ?_
  refine r_if_eq rfl (fun h9 => ?_) (fun h9 => ?_)
  · exact absurd (two) (b01_eq0.mp h9)
  · refine r_iload_n rfl rfl ?_
    refine r_iconst rfl ?_
    refine r_bipush rfl ?_
    refine r_callS rfl (by decide) ct_X10_isWithin rfl rfl (am_cnt rfl) ?_
    refine r_if_ne rfl (fun h19 => ?_) (fun h19 => ?_)
    · refine r_aload_n rfl rfl ?_
      refine r_getC rfl rfl (by decide) (by decide) rfl ?_
      refine r_iload_n rfl rfl ?_
      refine r_iload_n rfl rfl ?_
      refine r_callV rfl (near_ct hn hz h1 hl hne (fun _ _ => rfl)) rfl rfl rfl (by decide) rfl (am_cnt rfl) ?_
      refine r_if_ne rfl (fun h33 => ?_) (fun h33 => ?_)
      · have hr : nearP S p q := Decidable.not_not.mp fun z => h33 (b01_f z)
        refine r_iconst rfl ?_
        refine r_istore (L2 := [_, _, _, _, _]) rfl rfl ?_
        exact loop 200 0 hr (by omega) (by omega) rfl
      · rw [if_neg (b01_eq0.mp h33)]
        refine r_bipush rfl ?_
        refine r_iret rfl rfl ?_
        exact ⟨rfl, rfl⟩
    · exact absurd (hw) (b01_eq0.mp h19)
