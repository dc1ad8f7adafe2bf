/-! Calls of the class that set and read. -/
theorem ct_X10_person_ok {d : Nat} {S : am_S} {n : Nat} {l s t : Int32} (hn : gI S 1 1 = nI n) (hz : n < 6) (hl : 0 ≤ l ∧ l ≤ 20) (hs : 0 ≤ s ∧ s ≤ 20) (ht : 0 ≤ t ∧ t ≤ 9) : am_CT (d + 2) iX10_person [.ref 0, .int l, .int s, .int t] S (some (.int (nI n))) (uI (uI (uI (uI S (6 + 2 * n) 0 l) (6 + 2 * n) 1 s) (6 + 2 * n) 2 t) 1 1 (nI (n + 1))) := by
  refine am_CT_in mmX10_person rfl rfl rfl ?_
  have s1 : 0 ≤ gI S 1 1 := by rw [hn]; exact nI_pos' (by omega)
  have s2 : gI S 1 1 < 6 := by rw [hn]; exact nI_lt (b := 6) (by omega) (by omega)
  have b1 : (gI S 1 1).toNatClampNeg = n := by rw [hn, nI_clamp (by omega)]
  have kp : ∀ m, am_kn m (6 + 2 * (gI S 1 1).toNatClampNeg) = (4, 0) := fun m => by rw [b1]; exact kn_person hz
  refine r_aload_n rfl rfl ?_
  refine r_getC rfl rfl (by decide) (by decide) rfl ?_
  refine r_getI rfl rfl (by decide) (by decide) rfl ?_
  refine r_bipush rfl ?_
  refine r_icmp_ge rfl (fun h9 => ?_) (fun h9 => ?_)
  · exact absurd s2 (Int32.not_lt.mpr h9)
  · refine r_iload_n rfl rfl ?_
    refine r_iconst rfl ?_
    refine r_bipush rfl ?_
    refine r_callS rfl (by decide) ct_X10_isWithin rfl rfl (am_cnt rfl) ?_
    refine r_if_eq rfl (fun h19 => ?_) (fun h19 => ?_)
    · exact absurd hl (b01_eq0.mp h19)
    · refine r_iload_n rfl rfl ?_
      refine r_iconst rfl ?_
      refine r_bipush rfl ?_
      refine r_callS rfl (by decide) ct_X10_isWithin rfl rfl (am_cnt rfl) ?_
      refine r_if_eq rfl (fun h29 => ?_) (fun h29 => ?_)
      · exact absurd hs (b01_eq0.mp h29)
      · refine r_iload_n rfl rfl ?_
        refine r_iconst rfl ?_
        refine r_bipush rfl ?_
        refine r_callS rfl (by decide) ct_X10_isWithin rfl rfl (am_cnt rfl) ?_
        refine r_if_ne rfl (fun h39 => ?_) (fun h39 => ?_)
        · refine r_aload_n rfl rfl ?_
          refine r_getC rfl rfl (by decide) (by decide) rfl ?_
          refine r_getC rfl rfl (by decide) (by decide) rfl ?_
          refine r_aload_n rfl rfl ?_
          refine r_getC rfl rfl (by decide) (by decide) rfl ?_
          refine r_getI rfl rfl (by decide) (by decide) rfl ?_
          refine r_aaldP rfl rfl (by first | exact s1 | exact s2) (by first | exact s1 | exact s2) ?_
          refine r_astore (L2 := [_, _, _, _, _]) rfl rfl ?_
          refine r_aload rfl rfl ?_
          refine r_iload_n rfl rfl ?_
          refine r_putI rfl (kp _) (by decide) (by decide) rfl ?_
          refine r_aload rfl rfl ?_
          refine r_iload_n rfl rfl ?_
          refine r_putI rfl (kp _) (by decide) (by decide) rfl ?_
          refine r_aload rfl rfl ?_
          refine r_iload_n rfl rfl ?_
          refine r_putI rfl (kp _) (by decide) (by decide) rfl ?_
          refine r_aload_n rfl rfl ?_
          refine r_getC rfl rfl (by decide) (by decide) rfl ?_
          refine r_dup rfl rfl ?_
          refine r_getI rfl rfl (by decide) (by decide) rfl ?_
          refine r_iconst rfl ?_
          refine r_iadd rfl ?_
          refine r_putI rfl rfl (by decide) (by decide) rfl ?_
          refine r_aload_n rfl rfl ?_
          refine r_getC rfl rfl (by decide) (by decide) rfl ?_
          refine r_getI rfl rfl (by decide) (by decide) rfl ?_
          refine r_iconst rfl ?_
          refine r_isub rfl ?_
          refine r_iret rfl rfl ?_
          rw [b1]
          simp (disch := omega) only [gI_uI_ne]
          rw [hn]
          simp only [gI_uI, if_true, nI_1, hn]
          refine ⟨?_, trivial⟩
          rw [← nI_1]
          congr 2
          grind
        · exact absurd ht (b01_eq0.mp h39)
theorem ct_X10_person_no {d : Nat} {S : am_S} {l s t : Int32} (h : ¬ (gI S 1 1 < 6 ∧ (0 ≤ l ∧ l ≤ 20) ∧ (0 ≤ s ∧ s ≤ 20) ∧ (0 ≤ t ∧ t ≤ 9))) : am_CT (d + 2) iX10_person [.ref 0, .int l, .int s, .int t] S (some (.int (-1))) (S) := by
  refine am_CT_in mmX10_person rfl rfl rfl ?_
  refine r_aload_n rfl rfl ?_
  refine r_getC rfl rfl (by decide) (by decide) rfl ?_
  refine r_getI rfl rfl (by decide) (by decide) rfl ?_
  refine r_bipush rfl ?_
  refine r_icmp_ge rfl (fun h9 => ?_) (fun h9 => ?_)
  · refine r_iconst rfl ?_
    refine r_iret rfl rfl ?_
    exact ⟨rfl, rfl⟩
  · refine r_iload_n rfl rfl ?_
    refine r_iconst rfl ?_
    refine r_bipush rfl ?_
    refine r_callS rfl (by decide) ct_X10_isWithin rfl rfl (am_cnt rfl) ?_
    refine r_if_eq rfl (fun h19 => ?_) (fun h19 => ?_)
    · refine r_iconst rfl ?_
      refine r_iret rfl rfl ?_
      exact ⟨rfl, rfl⟩
    · refine r_iload_n rfl rfl ?_
      refine r_iconst rfl ?_
      refine r_bipush rfl ?_
      refine r_callS rfl (by decide) ct_X10_isWithin rfl rfl (am_cnt rfl) ?_
      refine r_if_eq rfl (fun h29 => ?_) (fun h29 => ?_)
      · refine r_iconst rfl ?_
        refine r_iret rfl rfl ?_
        exact ⟨rfl, rfl⟩
      · refine r_iload_n rfl rfl ?_
        refine r_iconst rfl ?_
        refine r_bipush rfl ?_
        refine r_callS rfl (by decide) ct_X10_isWithin rfl rfl (am_cnt rfl) ?_
        refine r_if_ne rfl (fun h39 => ?_) (fun h39 => ?_)
        · exfalso
          simp only [b01_eq0] at *
          grind
        · refine r_iconst rfl ?_
          refine r_iret rfl rfl ?_
          exact ⟨rfl, rfl⟩
theorem ct_X10_begin {d : Nat} {S : am_S} : am_CT (d + 2) iX10_begin [.ref 0] S (some (.int 1)) (uI (uI S 54 0 0) 55 0 (gI S 54 1)) := by
  refine am_CT_in mmX10_begin rfl rfl rfl ?_
  refine r_aload_n rfl rfl ?_
  refine r_getC rfl rfl (by decide) (by decide) rfl ?_
  refine r_callV rfl (ct_X0_restart (o := 54) ⟨rfl, rfl, rfl, rfl, rfl, rfl⟩) rfl rfl rfl (by decide) rfl (am_cnt rfl) ?_
  refine r_iconst rfl ?_
  refine r_zret rfl rfl (by simp) ?_
  exact ⟨rfl, rfl⟩
theorem ct_X10_seed {d : Nat} {S : am_S} {v : Int32} : am_CT (d + 1) iX10_seed [.ref 0, .int v] S (some (.int (gI S 54 2))) (uI S 54 2 v) := by
  refine am_CT_in mmX10_seed rfl rfl rfl ?_
  refine r_aload_n rfl rfl ?_
  refine r_getC rfl rfl (by decide) (by decide) rfl ?_
  refine r_getI rfl rfl (by decide) (by decide) rfl ?_
  refine r_istore_n (L2 := [_, _, _]) rfl rfl ?_
  refine r_aload_n rfl rfl ?_
  refine r_getC rfl rfl (by decide) (by decide) rfl ?_
  refine r_iload_n rfl rfl ?_
  refine r_putI rfl rfl (by decide) (by decide) rfl ?_
  refine r_iload_n rfl rfl ?_
  refine r_iret rfl rfl ?_
  exact ⟨rfl, rfl⟩
theorem ct_X10_end_ok {d : Nat} {S : am_S} {n : Int32} (h : 0 ≤ n ∧ n ≤ gI S 67 1) : am_CT (d + 1) iX10_end [.ref 0, .int n] S (some (.int 1)) (uI S 67 1 n) := by
  refine am_CT_in mmX10_end rfl rfl rfl ?_
  refine r_iload_n rfl rfl ?_
  refine r_if_lt rfl (fun h1 => ?_) (fun h1 => ?_)
  · exfalso
    grind
  · refine r_iload_n rfl rfl ?_
    refine r_aload_n rfl rfl ?_
    refine r_getC rfl rfl (by decide) (by decide) rfl ?_
    refine r_getI rfl rfl (by decide) (by decide) rfl ?_
    refine r_icmp_le rfl (fun h12 => ?_) (fun h12 => ?_)
    · refine r_aload_n rfl rfl ?_
      refine r_getC rfl rfl (by decide) (by decide) rfl ?_
      refine r_iload_n rfl rfl ?_
      refine r_putI rfl rfl (by decide) (by decide) rfl ?_
      refine r_iconst rfl ?_
      refine r_zret rfl rfl (by simp) ?_
      exact ⟨rfl, rfl⟩
    · exfalso
      grind
theorem ct_X10_end_no {d : Nat} {S : am_S} {n : Int32} (h : ¬ (0 ≤ n ∧ n ≤ gI S 67 1)) : am_CT (d + 1) iX10_end [.ref 0, .int n] S (some (.int 0)) (S) := by
  refine am_CT_in mmX10_end rfl rfl rfl ?_
  refine r_iload_n rfl rfl ?_
  refine r_if_lt rfl (fun h1 => ?_) (fun h1 => ?_)
  · refine r_iconst rfl ?_
    refine r_zret rfl rfl (by simp) ?_
    exact ⟨rfl, rfl⟩
  · refine r_iload_n rfl rfl ?_
    refine r_aload_n rfl rfl ?_
    refine r_getC rfl rfl (by decide) (by decide) rfl ?_
    refine r_getI rfl rfl (by decide) (by decide) rfl ?_
    refine r_icmp_le rfl (fun h12 => ?_) (fun h12 => ?_)
    · exfalso
      grind
    · refine r_iconst rfl ?_
      refine r_zret rfl rfl (by simp) ?_
      exact ⟨rfl, rfl⟩
theorem ct_X10_weight_ok {d : Nat} {S : am_S} {i j : Nat} {v : Int32} (hi : i < 3) (hj : j < 3) (hv : 0 ≤ v ∧ v ≤ 99) : am_CT (d + 2) iX10_weight [.ref 0, .int (nI i), .int (nI j), .int v] S (some (.int (gI S 87 (i * 3 + j)))) (uI S 87 (i * 3 + j) v) := by
  refine am_CT_in mmX10_weight rfl rfl rfl ?_
  have b0 : nI i * 3 + nI j = nI (i * 3 + j) := (congrArg (fun z => z + nI j) (pk_mul i 3)).trans (nI_add _ _)
  have b1 : (nI i * 3 + nI j).toNatClampNeg = i * 3 + j := by rw [b0, nI_clamp (by omega)]
  have s1 : 0 ≤ nI i * 3 + nI j := by rw [b0]; exact nI_pos' (by omega)
  have s2 : nI i * 3 + nI j < Int32.ofNat 9 := by rw [b0]; exact nI_lt (by omega) (by omega)
  have c1 : 0 ≤ nI i ∧ nI i ≤ 2 := ⟨nI_pos' (by omega), nI_le (b := 2) (by omega) (by omega)⟩
  have c2 : 0 ≤ nI j ∧ nI j ≤ 2 := ⟨nI_pos' (by omega), nI_le (b := 2) (by omega) (by omega)⟩
  refine r_iload_n rfl rfl ?_
  refine r_iconst rfl ?_
  refine r_iconst rfl ?_
  refine r_callS rfl (by decide) ct_X10_isWithin rfl rfl (am_cnt rfl) ?_
  refine r_if_eq rfl (fun h6 => ?_) (fun h6 => ?_)
  · exact absurd c1 (b01_eq0.mp h6)
  · refine r_iload_n rfl rfl ?_
    refine r_iconst rfl ?_
    refine r_iconst rfl ?_
    refine r_callS rfl (by decide) ct_X10_isWithin rfl rfl (am_cnt rfl) ?_
    refine r_if_eq rfl (fun h15 => ?_) (fun h15 => ?_)
    · exact absurd c2 (b01_eq0.mp h15)
    · refine r_iload_n rfl rfl ?_
      refine r_iconst rfl ?_
      refine r_bipush rfl ?_
      refine r_callS rfl (by decide) ct_X10_isWithin rfl rfl (am_cnt rfl) ?_
      refine r_if_ne rfl (fun h25 => ?_) (fun h25 => ?_)
      · refine r_aload_n rfl rfl ?_
        refine r_getC rfl rfl (by decide) (by decide) rfl ?_
        refine r_getC rfl rfl (by decide) (by decide) rfl ?_
        refine r_iload_n rfl rfl ?_
        refine r_iconst rfl ?_
        refine r_imul rfl ?_
        refine r_iload_n rfl rfl ?_
        refine r_iadd rfl ?_
        refine r_iald rfl rfl (by first | decide | assumption) (by first | exact s1 | exact s2) (by first | exact s1 | exact s2) ?_
        refine r_istore (L2 := [_, _, _, _, _]) rfl rfl ?_
        refine r_aload_n rfl rfl ?_
        refine r_getC rfl rfl (by decide) (by decide) rfl ?_
        refine r_getC rfl rfl (by decide) (by decide) rfl ?_
        refine r_iload_n rfl rfl ?_
        refine r_iconst rfl ?_
        refine r_imul rfl ?_
        refine r_iload_n rfl rfl ?_
        refine r_iadd rfl ?_
        refine r_iload_n rfl rfl ?_
        refine r_iast rfl rfl (by first | decide | assumption) (by first | exact s1 | exact s2) (by first | exact s1 | exact s2) ?_
        refine r_iload rfl rfl ?_
        refine r_iret rfl rfl ?_
        rw [b1]
        exact ⟨rfl, rfl⟩
      · exact absurd hv (b01_eq0.mp h25)
theorem ct_X10_weight_no {d : Nat} {S : am_S} {i j v : Int32} (h : ¬ ((0 ≤ i ∧ i ≤ 2) ∧ (0 ≤ j ∧ j ≤ 2) ∧ (0 ≤ v ∧ v ≤ 99))) : am_CT (d + 2) iX10_weight [.ref 0, .int i, .int j, .int v] S (some (.int (-1))) (S) := by
  refine am_CT_in mmX10_weight rfl rfl rfl ?_
  refine r_iload_n rfl rfl ?_
  refine r_iconst rfl ?_
  refine r_iconst rfl ?_
  refine r_callS rfl (by decide) ct_X10_isWithin rfl rfl (am_cnt rfl) ?_
  refine r_if_eq rfl (fun h6 => ?_) (fun h6 => ?_)
  · refine r_iconst rfl ?_
    refine r_iret rfl rfl ?_
    exact ⟨rfl, rfl⟩
  · refine r_iload_n rfl rfl ?_
    refine r_iconst rfl ?_
    refine r_iconst rfl ?_
    refine r_callS rfl (by decide) ct_X10_isWithin rfl rfl (am_cnt rfl) ?_
    refine r_if_eq rfl (fun h15 => ?_) (fun h15 => ?_)
    · refine r_iconst rfl ?_
      refine r_iret rfl rfl ?_
      exact ⟨rfl, rfl⟩
    · refine r_iload_n rfl rfl ?_
      refine r_iconst rfl ?_
      refine r_bipush rfl ?_
      refine r_callS rfl (by decide) ct_X10_isWithin rfl rfl (am_cnt rfl) ?_
      refine r_if_ne rfl (fun h25 => ?_) (fun h25 => ?_)
      · exfalso
        simp only [b01_eq0] at *
        grind
      · refine r_iconst rfl ?_
        refine r_iret rfl rfl ?_
        exact ⟨rfl, rfl⟩
theorem ct_X10_set_no {d : Nat} {S : am_S} {p w v : Int32} (hz : gI S 1 1 ≤ 6) (h : ¬ (hasP S p ∧ ((w = 0 ∧ 0 ≤ v ∧ v ≤ 20) ∨ (w = 1 ∧ 0 ≤ v ∧ v ≤ 20) ∨ (w = 2 ∧ 0 ≤ v ∧ v ≤ 9)))) : am_CT (d + 2) iX10_set [.ref 0, .int p, .int w, .int v] S (some (.int (-1))) (S) := by
  refine am_CT_in mmX10_set rfl rfl rfl ?_
  refine r_aload_n rfl rfl ?_
  refine r_getC rfl rfl (by decide) (by decide) rfl ?_
  refine r_iload_n rfl rfl ?_
  refine r_callV rfl ct_X9_has rfl rfl rfl (by decide) rfl (am_cnt rfl) ?_
  refine r_if_ne rfl (fun h8 => ?_) (fun h8 => ?_)
  · have hp : hasP S p := Decidable.not_not.mp fun z => h8 (b01_eq0.mpr z)
    have hl : p < 6 := Int32.lt_of_lt_of_le hp.2 hz
    have hj : p.toNatClampNeg < 6 := cl_lt hp.1 hl (by decide)
    refine r_aload_n rfl rfl ?_
    refine r_getC rfl rfl (by decide) (by decide) rfl ?_
    refine r_getC rfl rfl (by decide) (by decide) rfl ?_
    refine r_iload_n rfl rfl ?_
    refine r_aaldP rfl rfl (by first | exact hp.1 | exact hl) (by first | exact hp.1 | exact hl) ?_
    refine r_astore (L2 := [_, _, _, _, _, _]) rfl rfl ?_
    refine r_iload_n rfl rfl ?_
    refine r_if_ne rfl (fun h25 => ?_) (fun h25 => ?_)
    · refine r_iload_n rfl rfl ?_
      refine r_iconst rfl ?_
      refine r_icmp_ne rfl (fun h56 => ?_) (fun h56 => ?_)
      · refine r_iload_n rfl rfl ?_
        refine r_iconst rfl ?_
        refine r_icmp_ne rfl (fun h87 => ?_) (fun h87 => ?_)
        · refine r_iconst rfl ?_
          refine r_istore (L2 := [_, _, _, _, _, _]) rfl rfl ?_
          refine r_iload rfl rfl ?_
          refine r_iret rfl rfl ?_
          exact ⟨rfl, rfl⟩
        · refine r_iload_n rfl rfl ?_
          refine r_iconst rfl ?_
          refine r_bipush rfl ?_
          refine r_callS rfl (by decide) ct_X10_isWithin rfl rfl (am_cnt rfl) ?_
          refine r_if_eq rfl (fun h97 => ?_) (fun h97 => ?_)
          · refine r_iconst rfl ?_
            refine r_istore (L2 := [_, _, _, _, _, _]) rfl rfl ?_
            refine r_iload rfl rfl ?_
            refine r_iret rfl rfl ?_
            exact ⟨rfl, rfl⟩
          · exfalso
            simp only [b01_eq0] at *
            grind
      · refine r_iload_n rfl rfl ?_
        refine r_iconst rfl ?_
        refine r_bipush rfl ?_
        refine r_callS rfl (by decide) ct_X10_isWithin rfl rfl (am_cnt rfl) ?_
        refine r_if_eq rfl (fun h66 => ?_) (fun h66 => ?_)
        · refine r_iload_n rfl rfl ?_
          refine r_iconst rfl ?_
          refine r_icmp_ne rfl (fun h87 => ?_) (fun h87 => ?_)
          · refine r_iconst rfl ?_
            refine r_istore (L2 := [_, _, _, _, _, _]) rfl rfl ?_
            refine r_iload rfl rfl ?_
            refine r_iret rfl rfl ?_
            exact ⟨rfl, rfl⟩
          · refine r_iload_n rfl rfl ?_
            refine r_iconst rfl ?_
            refine r_bipush rfl ?_
            refine r_callS rfl (by decide) ct_X10_isWithin rfl rfl (am_cnt rfl) ?_
            refine r_if_eq rfl (fun h97 => ?_) (fun h97 => ?_)
            · refine r_iconst rfl ?_
              refine r_istore (L2 := [_, _, _, _, _, _]) rfl rfl ?_
              refine r_iload rfl rfl ?_
              refine r_iret rfl rfl ?_
              exact ⟨rfl, rfl⟩
            · exfalso
              simp only [b01_eq0] at *
              grind
        · exfalso
          simp only [b01_eq0] at *
          grind
    · refine r_iload_n rfl rfl ?_
      refine r_iconst rfl ?_
      refine r_bipush rfl ?_
      refine r_callS rfl (by decide) ct_X10_isWithin rfl rfl (am_cnt rfl) ?_
      refine r_if_eq rfl (fun h35 => ?_) (fun h35 => ?_)
      · refine r_iload_n rfl rfl ?_
        refine r_iconst rfl ?_
        refine r_icmp_ne rfl (fun h56 => ?_) (fun h56 => ?_)
        · refine r_iload_n rfl rfl ?_
          refine r_iconst rfl ?_
          refine r_icmp_ne rfl (fun h87 => ?_) (fun h87 => ?_)
          · refine r_iconst rfl ?_
            refine r_istore (L2 := [_, _, _, _, _, _]) rfl rfl ?_
            refine r_iload rfl rfl ?_
            refine r_iret rfl rfl ?_
            exact ⟨rfl, rfl⟩
          · refine r_iload_n rfl rfl ?_
            refine r_iconst rfl ?_
            refine r_bipush rfl ?_
            refine r_callS rfl (by decide) ct_X10_isWithin rfl rfl (am_cnt rfl) ?_
            refine r_if_eq rfl (fun h97 => ?_) (fun h97 => ?_)
            · refine r_iconst rfl ?_
              refine r_istore (L2 := [_, _, _, _, _, _]) rfl rfl ?_
              refine r_iload rfl rfl ?_
              refine r_iret rfl rfl ?_
              exact ⟨rfl, rfl⟩
            · exfalso
              simp only [b01_eq0] at *
              grind
        · refine r_iload_n rfl rfl ?_
          refine r_iconst rfl ?_
          refine r_bipush rfl ?_
          refine r_callS rfl (by decide) ct_X10_isWithin rfl rfl (am_cnt rfl) ?_
          refine r_if_eq rfl (fun h66 => ?_) (fun h66 => ?_)
          · refine r_iload_n rfl rfl ?_
            refine r_iconst rfl ?_
            refine r_icmp_ne rfl (fun h87 => ?_) (fun h87 => ?_)
            · refine r_iconst rfl ?_
              refine r_istore (L2 := [_, _, _, _, _, _]) rfl rfl ?_
              refine r_iload rfl rfl ?_
              refine r_iret rfl rfl ?_
              exact ⟨rfl, rfl⟩
            · refine r_iload_n rfl rfl ?_
              refine r_iconst rfl ?_
              refine r_bipush rfl ?_
              refine r_callS rfl (by decide) ct_X10_isWithin rfl rfl (am_cnt rfl) ?_
              refine r_if_eq rfl (fun h97 => ?_) (fun h97 => ?_)
              · refine r_iconst rfl ?_
                refine r_istore (L2 := [_, _, _, _, _, _]) rfl rfl ?_
                refine r_iload rfl rfl ?_
                refine r_iret rfl rfl ?_
                exact ⟨rfl, rfl⟩
              · exfalso
                simp only [b01_eq0] at *
                grind
          · exfalso
            simp only [b01_eq0] at *
            grind
      · exfalso
        simp only [b01_eq0] at *
        grind
  · refine r_iconst rfl ?_
    refine r_iret rfl rfl ?_
    exact ⟨rfl, rfl⟩
/-- which field, up to how much -/
theorem ct_X10_set_ok {d : Nat} {S : am_S} {p v : Int32} {w : Nat} (hz : gI S 1 1 ≤ 6) (hp : hasP S p) (hw : w < 3) (hv : 0 ≤ v ∧ v ≤ (if w = 2 then 9 else 20)) : am_CT (d + 2) iX10_set [.ref 0, .int p, .int (nI w), .int v] S (some (.int (gI S (cP p) w))) (uI S (cP p) w v) := by
  refine am_CT_in mmX10_set rfl rfl rfl ?_
  have hl : p < 6 := Int32.lt_of_lt_of_le hp.2 hz
  have hj : p.toNatClampNeg < 6 := cl_lt hp.1 hl (by decide)
  match w, hw with
  | 0, _ =>
    rw [if_neg (by decide)] at hv
    refine r_aload_n rfl rfl ?_
    refine r_getC rfl rfl (by decide) (by decide) rfl ?_
    refine r_iload_n rfl rfl ?_
    refine r_callV rfl ct_X9_has rfl rfl rfl (by decide) rfl (am_cnt rfl) ?_
    refine r_if_ne rfl (fun h8 => ?_) (fun h8 => ?_)
    · refine r_aload_n rfl rfl ?_
      refine r_getC rfl rfl (by decide) (by decide) rfl ?_
      refine r_getC rfl rfl (by decide) (by decide) rfl ?_
      refine r_iload_n rfl rfl ?_
      refine r_aaldP rfl rfl (by first | exact hp.1 | exact hl) (by first | exact hp.1 | exact hl) ?_
      refine r_astore (L2 := [_, _, _, _, _, _]) rfl rfl ?_
      refine r_iload_n rfl rfl ?_
      refine r_if_ne rfl (fun h25 => ?_) (fun h25 => ?_)
      · exact absurd rfl h25
      · refine r_iload_n rfl rfl ?_
        refine r_iconst rfl ?_
        refine r_bipush rfl ?_
        refine r_callS rfl (by decide) ct_X10_isWithin rfl rfl (am_cnt rfl) ?_
        refine r_if_eq rfl (fun h35 => ?_) (fun h35 => ?_)
        · exact absurd hv (b01_eq0.mp h35)
        · refine r_aload rfl rfl ?_
          refine r_getI rfl (kn_person hj) (by decide) (by decide) rfl ?_
          refine r_istore (L2 := [_, _, _, _, _, _]) rfl rfl ?_
          refine r_aload rfl rfl ?_
          refine r_iload_n rfl rfl ?_
          refine r_putI rfl (kn_person hj) (by decide) (by decide) rfl ?_
          refine r_goto rfl ?_
          refine r_iload rfl rfl ?_
          refine r_iret rfl rfl ?_
          exact ⟨rfl, rfl⟩
    · exact absurd hp (b01_eq0.mp h8)
  | 1, _ =>
    rw [if_neg (by decide)] at hv
    refine r_aload_n rfl rfl ?_
    refine r_getC rfl rfl (by decide) (by decide) rfl ?_
    refine r_iload_n rfl rfl ?_
    refine r_callV rfl ct_X9_has rfl rfl rfl (by decide) rfl (am_cnt rfl) ?_
    refine r_if_ne rfl (fun h8 => ?_) (fun h8 => ?_)
    · refine r_aload_n rfl rfl ?_
      refine r_getC rfl rfl (by decide) (by decide) rfl ?_
      refine r_getC rfl rfl (by decide) (by decide) rfl ?_
      refine r_iload_n rfl rfl ?_
      refine r_aaldP rfl rfl (by first | exact hp.1 | exact hl) (by first | exact hp.1 | exact hl) ?_
      refine r_astore (L2 := [_, _, _, _, _, _]) rfl rfl ?_
      refine r_iload_n rfl rfl ?_
      refine r_if_ne rfl (fun h25 => ?_) (fun h25 => ?_)
      · refine r_iload_n rfl rfl ?_
        refine r_iconst rfl ?_
        refine r_icmp_ne rfl (fun h56 => ?_) (fun h56 => ?_)
        · exact absurd rfl h56
        · refine r_iload_n rfl rfl ?_
          refine r_iconst rfl ?_
          refine r_bipush rfl ?_
          refine r_callS rfl (by decide) ct_X10_isWithin rfl rfl (am_cnt rfl) ?_
          refine r_if_eq rfl (fun h66 => ?_) (fun h66 => ?_)
          · exact absurd hv (b01_eq0.mp h66)
          · refine r_aload rfl rfl ?_
            refine r_getI rfl (kn_person hj) (by decide) (by decide) rfl ?_
            refine r_istore (L2 := [_, _, _, _, _, _]) rfl rfl ?_
            refine r_aload rfl rfl ?_
            refine r_iload_n rfl rfl ?_
            refine r_putI rfl (kn_person hj) (by decide) (by decide) rfl ?_
            refine r_goto rfl ?_
            refine r_iload rfl rfl ?_
            refine r_iret rfl rfl ?_
            exact ⟨rfl, rfl⟩
      · exact absurd h25 (by decide)
    · exact absurd hp (b01_eq0.mp h8)
  | 2, _ =>
    rw [if_pos (by decide)] at hv
    refine r_aload_n rfl rfl ?_
    refine r_getC rfl rfl (by decide) (by decide) rfl ?_
    refine r_iload_n rfl rfl ?_
    refine r_callV rfl ct_X9_has rfl rfl rfl (by decide) rfl (am_cnt rfl) ?_
    refine r_if_ne rfl (fun h8 => ?_) (fun h8 => ?_)
    · refine r_aload_n rfl rfl ?_
      refine r_getC rfl rfl (by decide) (by decide) rfl ?_
      refine r_getC rfl rfl (by decide) (by decide) rfl ?_
      refine r_iload_n rfl rfl ?_
      refine r_aaldP rfl rfl (by first | exact hp.1 | exact hl) (by first | exact hp.1 | exact hl) ?_
      refine r_astore (L2 := [_, _, _, _, _, _]) rfl rfl ?_
      refine r_iload_n rfl rfl ?_
      refine r_if_ne rfl (fun h25 => ?_) (fun h25 => ?_)
      · refine r_iload_n rfl rfl ?_
        refine r_iconst rfl ?_
        refine r_icmp_ne rfl (fun h56 => ?_) (fun h56 => ?_)
        · refine r_iload_n rfl rfl ?_
          refine r_iconst rfl ?_
          refine r_icmp_ne rfl (fun h87 => ?_) (fun h87 => ?_)
          · exact absurd rfl h87
          · refine r_iload_n rfl rfl ?_
            refine r_iconst rfl ?_
            refine r_bipush rfl ?_
            refine r_callS rfl (by decide) ct_X10_isWithin rfl rfl (am_cnt rfl) ?_
            refine r_if_eq rfl (fun h97 => ?_) (fun h97 => ?_)
            · exact absurd hv (b01_eq0.mp h97)
            · refine r_aload rfl rfl ?_
              refine r_getI rfl (kn_person hj) (by decide) (by decide) rfl ?_
              refine r_istore (L2 := [_, _, _, _, _, _]) rfl rfl ?_
              refine r_aload rfl rfl ?_
              refine r_iload_n rfl rfl ?_
              refine r_putI rfl (kn_person hj) (by decide) (by decide) rfl ?_
              refine r_goto rfl ?_
              refine r_iload rfl rfl ?_
              refine r_iret rfl rfl ?_
              exact ⟨rfl, rfl⟩
        · exact absurd h56 (by decide)
      · exact absurd h25 (by decide)
    · exact absurd hp (b01_eq0.mp h8)
