/-! More calls of the class that set and read. -/
theorem nI_cl {p : Int32} (h : 0 ≤ p) : p = nI p.toNatClampNeg := nI_between h rfl
theorem cP_ne {S : am_S} {p q : Int32} (h : twoP S p q) : cP p ≠ cP q := fun e => h.2.2 (by
  rw [nI_cl h.1.1, nI_cl h.2.1.1]
  have : p.toNatClampNeg = q.toNatClampNeg := by unfold cP at e; omega
  rw [this])
theorem hasP6 {S : am_S} {p : Int32} (hz : gI S 1 1 ≤ 6) (h : hasP S p) : p < 6 ∧ p.toNatClampNeg < 6 := by
  have hl : p < 6 := Int32.lt_of_lt_of_le h.2 hz
  exact ⟨hl, cl_lt h.1 hl (by decide)⟩
theorem ct_X10_link_no {d : Nat} {S : am_S} {w p q f : Int32} (hz : gI S 1 1 ≤ 6) (h : ¬ (twoP S p q ∧ 0 ≤ w ∧ w ≤ 1)) : am_CT (d + 3) iX10_link [.ref 0, .int w, .int p, .int q, .int f] S (some (.int 0)) (S) := by
  refine am_CT_in mmX10_link rfl rfl rfl ?_
  refine r_aload_n rfl rfl ?_
  refine r_getC rfl rfl (by decide) (by decide) rfl ?_
  refine r_iload_n rfl rfl ?_
  refine r_iload_n rfl rfl ?_
  refine r_callV rfl ct_X9_hasTwo rfl rfl rfl (by decide) rfl (am_cnt rfl) ?_
  refine r_if_eq rfl (fun h9 => ?_) (fun h9 => ?_)
  · refine r_iconst rfl ?_
    refine r_zret rfl rfl (by simp) ?_
    exact ⟨rfl, rfl⟩
  · refine r_iload_n rfl rfl ?_
    refine r_if_lt rfl (fun h13 => ?_) (fun h13 => ?_)
    · refine r_iconst rfl ?_
      refine r_zret rfl rfl (by simp) ?_
      exact ⟨rfl, rfl⟩
    · refine r_iload_n rfl rfl ?_
      refine r_iconst rfl ?_
      refine r_icmp_le rfl (fun h18 => ?_) (fun h18 => ?_)
      · exfalso
        simp only [b01_eq0] at *
        grind
      · refine r_iconst rfl ?_
        refine r_zret rfl rfl (by simp) ?_
        exact ⟨rfl, rfl⟩
theorem ct_X10_link_near {d : Nat} {S : am_S} {p q f : Int32} (hz : gI S 1 1 ≤ 6) (h : twoP S p q) : am_CT (d + 3) iX10_link [.ref 0, .int 0, .int p, .int q, .int f] S (some (.int 1)) (uI (uI S (cP p) 3 (fWith (gI S (cP p) 3) q f)) (cP q) 3 (fWith (gI S (cP q) 3) p f)) := by
  refine am_CT_in mmX10_link rfl rfl rfl ?_
  have h1 := hasP6 hz h.1
  have h2 := hasP6 hz h.2.1
  refine r_aload_n rfl rfl ?_
  refine r_getC rfl rfl (by decide) (by decide) rfl ?_
  refine r_iload_n rfl rfl ?_
  refine r_iload_n rfl rfl ?_
  refine r_callV rfl ct_X9_hasTwo rfl rfl rfl (by decide) rfl (am_cnt rfl) ?_
  refine r_if_eq rfl (fun h9 => ?_) (fun h9 => ?_)
  · exact absurd (h) (b01_eq0.mp h9)
  · refine r_iload_n rfl rfl ?_
    refine r_if_lt rfl (fun h13 => ?_) (fun h13 => ?_)
    · first | exact absurd h13 (by decide) | exact absurd (by decide) h13
    · refine r_iload_n rfl rfl ?_
      refine r_iconst rfl ?_
      refine r_icmp_le rfl (fun h18 => ?_) (fun h18 => ?_)
      · refine r_aload_n rfl rfl ?_
        refine r_getC rfl rfl (by decide) (by decide) rfl ?_
        refine r_getC rfl rfl (by decide) (by decide) rfl ?_
        refine r_iload_n rfl rfl ?_
        refine r_aaldP rfl rfl (by first | exact h.1.1 | exact h1.1 | exact h.2.1.1 | exact h2.1) (by first | exact h.1.1 | exact h1.1 | exact h.2.1.1 | exact h2.1) ?_
        refine r_astore (L2 := [_, _, _, _, _, _, _]) rfl rfl ?_
        refine r_aload_n rfl rfl ?_
        refine r_getC rfl rfl (by decide) (by decide) rfl ?_
        refine r_getC rfl rfl (by decide) (by decide) rfl ?_
        refine r_iload_n rfl rfl ?_
        refine r_aaldP rfl rfl (by first | exact h.1.1 | exact h1.1 | exact h.2.1.1 | exact h2.1) (by first | exact h.1.1 | exact h1.1 | exact h.2.1.1 | exact h2.1) ?_
        refine r_astore (L2 := [_, _, _, _, _, _, _]) rfl rfl ?_
        refine r_iload_n rfl rfl ?_
        refine r_if_ne rfl (fun h46 => ?_) (fun h46 => ?_)
        · first | exact absurd h46 (by decide) | exact absurd (by decide) h46
        · refine r_aload rfl rfl ?_
          refine r_aload rfl rfl ?_
          refine r_getI rfl (kn_person h1.2) (by decide) (by decide) rfl ?_
          refine r_iload_n rfl rfl ?_
          refine r_iload rfl rfl ?_
          refine r_callS rfl (by decide) ct_X10_withBit rfl rfl (am_cnt rfl) ?_
          refine r_putI rfl (kn_person h1.2) (by decide) (by decide) rfl ?_
          refine r_aload rfl rfl ?_
          refine r_aload rfl rfl ?_
          refine r_getI rfl (kn_person h2.2) (by decide) (by decide) rfl ?_
          refine r_iload_n rfl rfl ?_
          refine r_iload rfl rfl ?_
          refine r_callS rfl (by decide) ct_X10_withBit rfl rfl (am_cnt rfl) ?_
          refine r_putI rfl (kn_person h2.2) (by decide) (by decide) rfl ?_
          refine r_goto rfl ?_
          refine r_iconst rfl ?_
          refine r_zret rfl rfl (by simp) ?_
          refine ⟨rfl, ?_⟩
          rw [gI_uI_ne (cP_ne h).symm]
      · first | exact absurd h18 (by decide) | exact absurd (by decide) h18
theorem ct_X10_link_sees {d : Nat} {S : am_S} {p q f : Int32} (hz : gI S 1 1 ≤ 6) (h : twoP S p q) : am_CT (d + 3) iX10_link [.ref 0, .int 1, .int p, .int q, .int f] S (some (.int 1)) (uI S (cP p) 4 (fWith (gI S (cP p) 4) q f)) := by
  refine am_CT_in mmX10_link rfl rfl rfl ?_
  have h1 := hasP6 hz h.1
  have h2 := hasP6 hz h.2.1
  refine r_aload_n rfl rfl ?_
  refine r_getC rfl rfl (by decide) (by decide) rfl ?_
  refine r_iload_n rfl rfl ?_
  refine r_iload_n rfl rfl ?_
  refine r_callV rfl ct_X9_hasTwo rfl rfl rfl (by decide) rfl (am_cnt rfl) ?_
  refine r_if_eq rfl (fun h9 => ?_) (fun h9 => ?_)
  · exact absurd (h) (b01_eq0.mp h9)
  · refine r_iload_n rfl rfl ?_
    refine r_if_lt rfl (fun h13 => ?_) (fun h13 => ?_)
    · first | exact absurd h13 (by decide) | exact absurd (by decide) h13
    · refine r_iload_n rfl rfl ?_
      refine r_iconst rfl ?_
      refine r_icmp_le rfl (fun h18 => ?_) (fun h18 => ?_)
      · refine r_aload_n rfl rfl ?_
        refine r_getC rfl rfl (by decide) (by decide) rfl ?_
        refine r_getC rfl rfl (by decide) (by decide) rfl ?_
        refine r_iload_n rfl rfl ?_
        refine r_aaldP rfl rfl (by first | exact h.1.1 | exact h1.1 | exact h.2.1.1 | exact h2.1) (by first | exact h.1.1 | exact h1.1 | exact h.2.1.1 | exact h2.1) ?_
        refine r_astore (L2 := [_, _, _, _, _, _, _]) rfl rfl ?_
        refine r_aload_n rfl rfl ?_
        refine r_getC rfl rfl (by decide) (by decide) rfl ?_
        refine r_getC rfl rfl (by decide) (by decide) rfl ?_
        refine r_iload_n rfl rfl ?_
        refine r_aaldP rfl rfl (by first | exact h.1.1 | exact h1.1 | exact h.2.1.1 | exact h2.1) (by first | exact h.1.1 | exact h1.1 | exact h.2.1.1 | exact h2.1) ?_
        refine r_astore (L2 := [_, _, _, _, _, _, _]) rfl rfl ?_
        refine r_iload_n rfl rfl ?_
        refine r_if_ne rfl (fun h46 => ?_) (fun h46 => ?_)
        · refine r_aload rfl rfl ?_
          refine r_aload rfl rfl ?_
          refine r_getI rfl (kn_person h1.2) (by decide) (by decide) rfl ?_
          refine r_iload_n rfl rfl ?_
          refine r_iload rfl rfl ?_
          refine r_callS rfl (by decide) ct_X10_withBit rfl rfl (am_cnt rfl) ?_
          refine r_putI rfl (kn_person h1.2) (by decide) (by decide) rfl ?_
          refine r_iconst rfl ?_
          refine r_zret rfl rfl (by simp) ?_
          exact ⟨rfl, rfl⟩
        · first | exact absurd h46 (by decide) | exact absurd (by decide) h46
      · first | exact absurd h18 (by decide) | exact absurd (by decide) h18
theorem ct_X10_beam_no {d : Nat} {S : am_S} {w v : Int32} (h : ¬ ((w = 0 ∧ gI S 54 0 = 0 ∧ -999 ≤ v ∧ v ≤ 999) ∨ (w = 1 ∧ -99 ≤ v ∧ v ≤ 99) ∨ (w = 2 ∧ 0 ≤ v ∧ v ≤ 10 - gI S 1 6) ∨ (w = 3 ∧ 0 ≤ v ∧ v ≤ 10 - gI S 1 5))) : am_CT (d + 2) iX10_beam [.ref 0, .int w, .int v] S (some (.int (-1))) (S) := by
  refine am_CT_in mmX10_beam rfl rfl rfl ?_
  refine r_iconst rfl ?_
  refine r_istore_n (L2 := [_, _, _, _]) rfl rfl ?_
  refine r_iload_n rfl rfl ?_
  refine r_if_ne rfl (fun h3 => ?_) (fun h3 => ?_)
  · refine r_iload_n rfl rfl ?_
    refine r_iconst rfl ?_
    refine r_icmp_ne rfl (fun h57 => ?_) (fun h57 => ?_)
    · refine r_iload_n rfl rfl ?_
      refine r_iconst rfl ?_
      refine r_icmp_ne rfl (fun h92 => ?_) (fun h92 => ?_)
      · refine r_iload_n rfl rfl ?_
        refine r_iconst rfl ?_
        refine r_icmp_ne rfl (fun h134 => ?_) (fun h134 => ?_)
        · refine r_iload_n rfl rfl ?_
          refine r_iret rfl rfl ?_
          exact ⟨rfl, rfl⟩
        · refine r_iload_n rfl rfl ?_
          refine r_iconst rfl ?_
          refine r_bipush rfl ?_
          refine r_aload_n rfl rfl ?_
          refine r_getC rfl rfl (by decide) (by decide) rfl ?_
          refine r_getI rfl rfl (by decide) (by decide) rfl ?_
          refine r_isub rfl ?_
          refine r_callS rfl (by decide) ct_X10_isWithin rfl rfl (am_cnt rfl) ?_
          refine r_if_eq rfl (fun h152 => ?_) (fun h152 => ?_)
          · refine r_iload_n rfl rfl ?_
            refine r_iret rfl rfl ?_
            exact ⟨rfl, rfl⟩
          · exfalso
            simp only [b01_eq0] at *
            grind
      · refine r_iload_n rfl rfl ?_
        refine r_iconst rfl ?_
        refine r_bipush rfl ?_
        refine r_aload_n rfl rfl ?_
        refine r_getC rfl rfl (by decide) (by decide) rfl ?_
        refine r_getI rfl rfl (by decide) (by decide) rfl ?_
        refine r_isub rfl ?_
        refine r_callS rfl (by decide) ct_X10_isWithin rfl rfl (am_cnt rfl) ?_
        refine r_if_eq rfl (fun h110 => ?_) (fun h110 => ?_)
        · refine r_iload_n rfl rfl ?_
          refine r_iconst rfl ?_
          refine r_icmp_ne rfl (fun h134 => ?_) (fun h134 => ?_)
          · refine r_iload_n rfl rfl ?_
            refine r_iret rfl rfl ?_
            exact ⟨rfl, rfl⟩
          · refine r_iload_n rfl rfl ?_
            refine r_iconst rfl ?_
            refine r_bipush rfl ?_
            refine r_aload_n rfl rfl ?_
            refine r_getC rfl rfl (by decide) (by decide) rfl ?_
            refine r_getI rfl rfl (by decide) (by decide) rfl ?_
            refine r_isub rfl ?_
            refine r_callS rfl (by decide) ct_X10_isWithin rfl rfl (am_cnt rfl) ?_
            refine r_if_eq rfl (fun h152 => ?_) (fun h152 => ?_)
            · refine r_iload_n rfl rfl ?_
              refine r_iret rfl rfl ?_
              exact ⟨rfl, rfl⟩
            · exfalso
              simp only [b01_eq0] at *
              grind
        · exfalso
          simp only [b01_eq0] at *
          grind
    · refine r_iload_n rfl rfl ?_
      refine r_bipush rfl ?_
      refine r_bipush rfl ?_
      refine r_callS rfl (by decide) ct_X10_isWithin rfl rfl (am_cnt rfl) ?_
      refine r_if_eq rfl (fun h68 => ?_) (fun h68 => ?_)
      · refine r_iload_n rfl rfl ?_
        refine r_iconst rfl ?_
        refine r_icmp_ne rfl (fun h92 => ?_) (fun h92 => ?_)
        · refine r_iload_n rfl rfl ?_
          refine r_iconst rfl ?_
          refine r_icmp_ne rfl (fun h134 => ?_) (fun h134 => ?_)
          · refine r_iload_n rfl rfl ?_
            refine r_iret rfl rfl ?_
            exact ⟨rfl, rfl⟩
          · refine r_iload_n rfl rfl ?_
            refine r_iconst rfl ?_
            refine r_bipush rfl ?_
            refine r_aload_n rfl rfl ?_
            refine r_getC rfl rfl (by decide) (by decide) rfl ?_
            refine r_getI rfl rfl (by decide) (by decide) rfl ?_
            refine r_isub rfl ?_
            refine r_callS rfl (by decide) ct_X10_isWithin rfl rfl (am_cnt rfl) ?_
            refine r_if_eq rfl (fun h152 => ?_) (fun h152 => ?_)
            · refine r_iload_n rfl rfl ?_
              refine r_iret rfl rfl ?_
              exact ⟨rfl, rfl⟩
            · exfalso
              simp only [b01_eq0] at *
              grind
        · refine r_iload_n rfl rfl ?_
          refine r_iconst rfl ?_
          refine r_bipush rfl ?_
          refine r_aload_n rfl rfl ?_
          refine r_getC rfl rfl (by decide) (by decide) rfl ?_
          refine r_getI rfl rfl (by decide) (by decide) rfl ?_
          refine r_isub rfl ?_
          refine r_callS rfl (by decide) ct_X10_isWithin rfl rfl (am_cnt rfl) ?_
          refine r_if_eq rfl (fun h110 => ?_) (fun h110 => ?_)
          · refine r_iload_n rfl rfl ?_
            refine r_iconst rfl ?_
            refine r_icmp_ne rfl (fun h134 => ?_) (fun h134 => ?_)
            · refine r_iload_n rfl rfl ?_
              refine r_iret rfl rfl ?_
              exact ⟨rfl, rfl⟩
            · refine r_iload_n rfl rfl ?_
              refine r_iconst rfl ?_
              refine r_bipush rfl ?_
              refine r_aload_n rfl rfl ?_
              refine r_getC rfl rfl (by decide) (by decide) rfl ?_
              refine r_getI rfl rfl (by decide) (by decide) rfl ?_
              refine r_isub rfl ?_
              refine r_callS rfl (by decide) ct_X10_isWithin rfl rfl (am_cnt rfl) ?_
              refine r_if_eq rfl (fun h152 => ?_) (fun h152 => ?_)
              · refine r_iload_n rfl rfl ?_
                refine r_iret rfl rfl ?_
                exact ⟨rfl, rfl⟩
              · exfalso
                simp only [b01_eq0] at *
                grind
          · exfalso
            simp only [b01_eq0] at *
            grind
      · exfalso
        simp only [b01_eq0] at *
        grind
  · refine r_aload_n rfl rfl ?_
    refine r_getC rfl rfl (by decide) (by decide) rfl ?_
    refine r_getI rfl rfl (by decide) (by decide) rfl ?_
    refine r_if_ne rfl (fun h13 => ?_) (fun h13 => ?_)
    · refine r_iload_n rfl rfl ?_
      refine r_iconst rfl ?_
      refine r_icmp_ne rfl (fun h57 => ?_) (fun h57 => ?_)
      · refine r_iload_n rfl rfl ?_
        refine r_iconst rfl ?_
        refine r_icmp_ne rfl (fun h92 => ?_) (fun h92 => ?_)
        · refine r_iload_n rfl rfl ?_
          refine r_iconst rfl ?_
          refine r_icmp_ne rfl (fun h134 => ?_) (fun h134 => ?_)
          · refine r_iload_n rfl rfl ?_
            refine r_iret rfl rfl ?_
            exact ⟨rfl, rfl⟩
          · refine r_iload_n rfl rfl ?_
            refine r_iconst rfl ?_
            refine r_bipush rfl ?_
            refine r_aload_n rfl rfl ?_
            refine r_getC rfl rfl (by decide) (by decide) rfl ?_
            refine r_getI rfl rfl (by decide) (by decide) rfl ?_
            refine r_isub rfl ?_
            refine r_callS rfl (by decide) ct_X10_isWithin rfl rfl (am_cnt rfl) ?_
            refine r_if_eq rfl (fun h152 => ?_) (fun h152 => ?_)
            · refine r_iload_n rfl rfl ?_
              refine r_iret rfl rfl ?_
              exact ⟨rfl, rfl⟩
            · exfalso
              simp only [b01_eq0] at *
              grind
        · refine r_iload_n rfl rfl ?_
          refine r_iconst rfl ?_
          refine r_bipush rfl ?_
          refine r_aload_n rfl rfl ?_
          refine r_getC rfl rfl (by decide) (by decide) rfl ?_
          refine r_getI rfl rfl (by decide) (by decide) rfl ?_
          refine r_isub rfl ?_
          refine r_callS rfl (by decide) ct_X10_isWithin rfl rfl (am_cnt rfl) ?_
          refine r_if_eq rfl (fun h110 => ?_) (fun h110 => ?_)
          · refine r_iload_n rfl rfl ?_
            refine r_iconst rfl ?_
            refine r_icmp_ne rfl (fun h134 => ?_) (fun h134 => ?_)
            · refine r_iload_n rfl rfl ?_
              refine r_iret rfl rfl ?_
              exact ⟨rfl, rfl⟩
            · refine r_iload_n rfl rfl ?_
              refine r_iconst rfl ?_
              refine r_bipush rfl ?_
              refine r_aload_n rfl rfl ?_
              refine r_getC rfl rfl (by decide) (by decide) rfl ?_
              refine r_getI rfl rfl (by decide) (by decide) rfl ?_
              refine r_isub rfl ?_
              refine r_callS rfl (by decide) ct_X10_isWithin rfl rfl (am_cnt rfl) ?_
              refine r_if_eq rfl (fun h152 => ?_) (fun h152 => ?_)
              · refine r_iload_n rfl rfl ?_
                refine r_iret rfl rfl ?_
                exact ⟨rfl, rfl⟩
              · exfalso
                simp only [b01_eq0] at *
                grind
          · exfalso
            simp only [b01_eq0] at *
            grind
      · refine r_iload_n rfl rfl ?_
        refine r_bipush rfl ?_
        refine r_bipush rfl ?_
        refine r_callS rfl (by decide) ct_X10_isWithin rfl rfl (am_cnt rfl) ?_
        refine r_if_eq rfl (fun h68 => ?_) (fun h68 => ?_)
        · refine r_iload_n rfl rfl ?_
          refine r_iconst rfl ?_
          refine r_icmp_ne rfl (fun h92 => ?_) (fun h92 => ?_)
          · refine r_iload_n rfl rfl ?_
            refine r_iconst rfl ?_
            refine r_icmp_ne rfl (fun h134 => ?_) (fun h134 => ?_)
            · refine r_iload_n rfl rfl ?_
              refine r_iret rfl rfl ?_
              exact ⟨rfl, rfl⟩
            · refine r_iload_n rfl rfl ?_
              refine r_iconst rfl ?_
              refine r_bipush rfl ?_
              refine r_aload_n rfl rfl ?_
              refine r_getC rfl rfl (by decide) (by decide) rfl ?_
              refine r_getI rfl rfl (by decide) (by decide) rfl ?_
              refine r_isub rfl ?_
              refine r_callS rfl (by decide) ct_X10_isWithin rfl rfl (am_cnt rfl) ?_
              refine r_if_eq rfl (fun h152 => ?_) (fun h152 => ?_)
              · refine r_iload_n rfl rfl ?_
                refine r_iret rfl rfl ?_
                exact ⟨rfl, rfl⟩
              · exfalso
                simp only [b01_eq0] at *
                grind
          · refine r_iload_n rfl rfl ?_
            refine r_iconst rfl ?_
            refine r_bipush rfl ?_
            refine r_aload_n rfl rfl ?_
            refine r_getC rfl rfl (by decide) (by decide) rfl ?_
            refine r_getI rfl rfl (by decide) (by decide) rfl ?_
            refine r_isub rfl ?_
            refine r_callS rfl (by decide) ct_X10_isWithin rfl rfl (am_cnt rfl) ?_
            refine r_if_eq rfl (fun h110 => ?_) (fun h110 => ?_)
            · refine r_iload_n rfl rfl ?_
              refine r_iconst rfl ?_
              refine r_icmp_ne rfl (fun h134 => ?_) (fun h134 => ?_)
              · refine r_iload_n rfl rfl ?_
                refine r_iret rfl rfl ?_
                exact ⟨rfl, rfl⟩
              · refine r_iload_n rfl rfl ?_
                refine r_iconst rfl ?_
                refine r_bipush rfl ?_
                refine r_aload_n rfl rfl ?_
                refine r_getC rfl rfl (by decide) (by decide) rfl ?_
                refine r_getI rfl rfl (by decide) (by decide) rfl ?_
                refine r_isub rfl ?_
                refine r_callS rfl (by decide) ct_X10_isWithin rfl rfl (am_cnt rfl) ?_
                refine r_if_eq rfl (fun h152 => ?_) (fun h152 => ?_)
                · refine r_iload_n rfl rfl ?_
                  refine r_iret rfl rfl ?_
                  exact ⟨rfl, rfl⟩
                · exfalso
                  simp only [b01_eq0] at *
                  grind
            · exfalso
              simp only [b01_eq0] at *
              grind
        · exfalso
          simp only [b01_eq0] at *
          grind
    · refine r_iload_n rfl rfl ?_
      refine r_sipush rfl ?_
      refine r_sipush rfl ?_
      refine r_callS rfl (by decide) ct_X10_isWithin rfl rfl (am_cnt rfl) ?_
      refine r_if_eq rfl (fun h26 => ?_) (fun h26 => ?_)
      · refine r_iload_n rfl rfl ?_
        refine r_iconst rfl ?_
        refine r_icmp_ne rfl (fun h57 => ?_) (fun h57 => ?_)
        · refine r_iload_n rfl rfl ?_
          refine r_iconst rfl ?_
          refine r_icmp_ne rfl (fun h92 => ?_) (fun h92 => ?_)
          · refine r_iload_n rfl rfl ?_
            refine r_iconst rfl ?_
            refine r_icmp_ne rfl (fun h134 => ?_) (fun h134 => ?_)
            · refine r_iload_n rfl rfl ?_
              refine r_iret rfl rfl ?_
              exact ⟨rfl, rfl⟩
            · refine r_iload_n rfl rfl ?_
              refine r_iconst rfl ?_
              refine r_bipush rfl ?_
              refine r_aload_n rfl rfl ?_
              refine r_getC rfl rfl (by decide) (by decide) rfl ?_
              refine r_getI rfl rfl (by decide) (by decide) rfl ?_
              refine r_isub rfl ?_
              refine r_callS rfl (by decide) ct_X10_isWithin rfl rfl (am_cnt rfl) ?_
              refine r_if_eq rfl (fun h152 => ?_) (fun h152 => ?_)
              · refine r_iload_n rfl rfl ?_
                refine r_iret rfl rfl ?_
                exact ⟨rfl, rfl⟩
              · exfalso
                simp only [b01_eq0] at *
                grind
          · refine r_iload_n rfl rfl ?_
            refine r_iconst rfl ?_
            refine r_bipush rfl ?_
            refine r_aload_n rfl rfl ?_
            refine r_getC rfl rfl (by decide) (by decide) rfl ?_
            refine r_getI rfl rfl (by decide) (by decide) rfl ?_
            refine r_isub rfl ?_
            refine r_callS rfl (by decide) ct_X10_isWithin rfl rfl (am_cnt rfl) ?_
            refine r_if_eq rfl (fun h110 => ?_) (fun h110 => ?_)
            · refine r_iload_n rfl rfl ?_
              refine r_iconst rfl ?_
              refine r_icmp_ne rfl (fun h134 => ?_) (fun h134 => ?_)
              · refine r_iload_n rfl rfl ?_
                refine r_iret rfl rfl ?_
                exact ⟨rfl, rfl⟩
              · refine r_iload_n rfl rfl ?_
                refine r_iconst rfl ?_
                refine r_bipush rfl ?_
                refine r_aload_n rfl rfl ?_
                refine r_getC rfl rfl (by decide) (by decide) rfl ?_
                refine r_getI rfl rfl (by decide) (by decide) rfl ?_
                refine r_isub rfl ?_
                refine r_callS rfl (by decide) ct_X10_isWithin rfl rfl (am_cnt rfl) ?_
                refine r_if_eq rfl (fun h152 => ?_) (fun h152 => ?_)
                · refine r_iload_n rfl rfl ?_
                  refine r_iret rfl rfl ?_
                  exact ⟨rfl, rfl⟩
                · exfalso
                  simp only [b01_eq0] at *
                  grind
            · exfalso
              simp only [b01_eq0] at *
              grind
        · refine r_iload_n rfl rfl ?_
          refine r_bipush rfl ?_
          refine r_bipush rfl ?_
          refine r_callS rfl (by decide) ct_X10_isWithin rfl rfl (am_cnt rfl) ?_
          refine r_if_eq rfl (fun h68 => ?_) (fun h68 => ?_)
          · refine r_iload_n rfl rfl ?_
            refine r_iconst rfl ?_
            refine r_icmp_ne rfl (fun h92 => ?_) (fun h92 => ?_)
            · refine r_iload_n rfl rfl ?_
              refine r_iconst rfl ?_
              refine r_icmp_ne rfl (fun h134 => ?_) (fun h134 => ?_)
              · refine r_iload_n rfl rfl ?_
                refine r_iret rfl rfl ?_
                exact ⟨rfl, rfl⟩
              · refine r_iload_n rfl rfl ?_
                refine r_iconst rfl ?_
                refine r_bipush rfl ?_
                refine r_aload_n rfl rfl ?_
                refine r_getC rfl rfl (by decide) (by decide) rfl ?_
                refine r_getI rfl rfl (by decide) (by decide) rfl ?_
                refine r_isub rfl ?_
                refine r_callS rfl (by decide) ct_X10_isWithin rfl rfl (am_cnt rfl) ?_
                refine r_if_eq rfl (fun h152 => ?_) (fun h152 => ?_)
                · refine r_iload_n rfl rfl ?_
                  refine r_iret rfl rfl ?_
                  exact ⟨rfl, rfl⟩
                · exfalso
                  simp only [b01_eq0] at *
                  grind
            · refine r_iload_n rfl rfl ?_
              refine r_iconst rfl ?_
              refine r_bipush rfl ?_
              refine r_aload_n rfl rfl ?_
              refine r_getC rfl rfl (by decide) (by decide) rfl ?_
              refine r_getI rfl rfl (by decide) (by decide) rfl ?_
              refine r_isub rfl ?_
              refine r_callS rfl (by decide) ct_X10_isWithin rfl rfl (am_cnt rfl) ?_
              refine r_if_eq rfl (fun h110 => ?_) (fun h110 => ?_)
              · refine r_iload_n rfl rfl ?_
                refine r_iconst rfl ?_
                refine r_icmp_ne rfl (fun h134 => ?_) (fun h134 => ?_)
                · refine r_iload_n rfl rfl ?_
                  refine r_iret rfl rfl ?_
                  exact ⟨rfl, rfl⟩
                · refine r_iload_n rfl rfl ?_
                  refine r_iconst rfl ?_
                  refine r_bipush rfl ?_
                  refine r_aload_n rfl rfl ?_
                  refine r_getC rfl rfl (by decide) (by decide) rfl ?_
                  refine r_getI rfl rfl (by decide) (by decide) rfl ?_
                  refine r_isub rfl ?_
                  refine r_callS rfl (by decide) ct_X10_isWithin rfl rfl (am_cnt rfl) ?_
                  refine r_if_eq rfl (fun h152 => ?_) (fun h152 => ?_)
                  · refine r_iload_n rfl rfl ?_
                    refine r_iret rfl rfl ?_
                    exact ⟨rfl, rfl⟩
                  · exfalso
                    simp only [b01_eq0] at *
                    grind
              · exfalso
                simp only [b01_eq0] at *
                grind
          · exfalso
            simp only [b01_eq0] at *
            grind
      · exfalso
        simp only [b01_eq0] at *
        grind
theorem ct_X10_beam_0 {d : Nat} {S : am_S} {v : Int32} (hn : gI S 54 0 = 0) (hv : -999 ≤ v ∧ v ≤ 999) : am_CT (d + 2) iX10_beam [.ref 0, .int 0, .int v] S (some (.int (gI S 54 1))) (uI (uI (uI S 54 1 v) 54 0 0) 55 0 v) := by
  refine am_CT_in mmX10_beam rfl rfl rfl ?_
  refine r_iconst rfl ?_
  refine r_istore_n (L2 := [_, _, _, _]) rfl rfl ?_
  refine r_iload_n rfl rfl ?_
  refine r_if_ne rfl (fun h3 => ?_) (fun h3 => ?_)
  · first | exact absurd h3 (by decide) | exact absurd (by decide) h3
  · refine r_aload_n rfl rfl ?_
    refine r_getC rfl rfl (by decide) (by decide) rfl ?_
    refine r_getI rfl rfl (by decide) (by decide) rfl ?_
    refine r_if_ne rfl (fun h13 => ?_) (fun h13 => ?_)
    · exact absurd hn h13
    · refine r_iload_n rfl rfl ?_
      refine r_sipush rfl ?_
      refine r_sipush rfl ?_
      refine r_callS rfl (by decide) ct_X10_isWithin rfl rfl (am_cnt rfl) ?_
      refine r_if_eq rfl (fun h26 => ?_) (fun h26 => ?_)
      · exact absurd (hv) (b01_eq0.mp h26)
      · refine r_aload_n rfl rfl ?_
        refine r_getC rfl rfl (by decide) (by decide) rfl ?_
        refine r_getI rfl rfl (by decide) (by decide) rfl ?_
        refine r_istore_n (L2 := [_, _, _, _]) rfl rfl ?_
        refine r_aload_n rfl rfl ?_
        refine r_getC rfl rfl (by decide) (by decide) rfl ?_
        refine r_iload_n rfl rfl ?_
        refine r_putI rfl rfl (by decide) (by decide) rfl ?_
        refine r_aload_n rfl rfl ?_
        refine r_getC rfl rfl (by decide) (by decide) rfl ?_
        refine r_callV rfl (ct_X0_restart (o := 54) ⟨rfl, rfl, rfl, rfl, rfl, rfl⟩) rfl rfl rfl (by decide) rfl (am_cnt rfl) ?_
        refine r_goto rfl ?_
        refine r_iload_n rfl rfl ?_
        refine r_iret rfl rfl ?_
        exact ⟨rfl, rfl⟩
theorem ct_X10_beam_1 {d : Nat} {S : am_S} {v : Int32} (hv : -99 ≤ v ∧ v ≤ 99) : am_CT (d + 2) iX10_beam [.ref 0, .int 1, .int v] S (some (.int (gI S 1 4))) (uI S 1 4 v) := by
  refine am_CT_in mmX10_beam rfl rfl rfl ?_
  refine r_iconst rfl ?_
  refine r_istore_n (L2 := [_, _, _, _]) rfl rfl ?_
  refine r_iload_n rfl rfl ?_
  refine r_if_ne rfl (fun h3 => ?_) (fun h3 => ?_)
  · refine r_iload_n rfl rfl ?_
    refine r_iconst rfl ?_
    refine r_icmp_ne rfl (fun h57 => ?_) (fun h57 => ?_)
    · first | exact absurd h57 (by decide) | exact absurd (by decide) h57
    · refine r_iload_n rfl rfl ?_
      refine r_bipush rfl ?_
      refine r_bipush rfl ?_
      refine r_callS rfl (by decide) ct_X10_isWithin rfl rfl (am_cnt rfl) ?_
      refine r_if_eq rfl (fun h68 => ?_) (fun h68 => ?_)
      · exact absurd (hv) (b01_eq0.mp h68)
      · refine r_aload_n rfl rfl ?_
        refine r_getC rfl rfl (by decide) (by decide) rfl ?_
        refine r_getI rfl rfl (by decide) (by decide) rfl ?_
        refine r_istore_n (L2 := [_, _, _, _]) rfl rfl ?_
        refine r_aload_n rfl rfl ?_
        refine r_getC rfl rfl (by decide) (by decide) rfl ?_
        refine r_iload_n rfl rfl ?_
        refine r_putI rfl rfl (by decide) (by decide) rfl ?_
        refine r_goto rfl ?_
        refine r_iload_n rfl rfl ?_
        refine r_iret rfl rfl ?_
        exact ⟨rfl, rfl⟩
  · first | exact absurd h3 (by decide) | exact absurd (by decide) h3
theorem ct_X10_beam_2 {d : Nat} {S : am_S} {v : Int32} (hv : 0 ≤ v ∧ v ≤ 10 - gI S 1 6) : am_CT (d + 2) iX10_beam [.ref 0, .int 2, .int v] S (some (.int (gI S 1 5))) (uI S 1 5 v) := by
  refine am_CT_in mmX10_beam rfl rfl rfl ?_
  refine r_iconst rfl ?_
  refine r_istore_n (L2 := [_, _, _, _]) rfl rfl ?_
  refine r_iload_n rfl rfl ?_
  refine r_if_ne rfl (fun h3 => ?_) (fun h3 => ?_)
  · refine r_iload_n rfl rfl ?_
    refine r_iconst rfl ?_
    refine r_icmp_ne rfl (fun h57 => ?_) (fun h57 => ?_)
    · refine r_iload_n rfl rfl ?_
      refine r_iconst rfl ?_
      refine r_icmp_ne rfl (fun h92 => ?_) (fun h92 => ?_)
      · first | exact absurd h92 (by decide) | exact absurd (by decide) h92
      · refine r_iload_n rfl rfl ?_
        refine r_iconst rfl ?_
        refine r_bipush rfl ?_
        refine r_aload_n rfl rfl ?_
        refine r_getC rfl rfl (by decide) (by decide) rfl ?_
        refine r_getI rfl rfl (by decide) (by decide) rfl ?_
        refine r_isub rfl ?_
        refine r_callS rfl (by decide) ct_X10_isWithin rfl rfl (am_cnt rfl) ?_
        refine r_if_eq rfl (fun h110 => ?_) (fun h110 => ?_)
        · exact absurd (hv) (b01_eq0.mp h110)
        · refine r_aload_n rfl rfl ?_
          refine r_getC rfl rfl (by decide) (by decide) rfl ?_
          refine r_getI rfl rfl (by decide) (by decide) rfl ?_
          refine r_istore_n (L2 := [_, _, _, _]) rfl rfl ?_
          refine r_aload_n rfl rfl ?_
          refine r_getC rfl rfl (by decide) (by decide) rfl ?_
          refine r_iload_n rfl rfl ?_
          refine r_putI rfl rfl (by decide) (by decide) rfl ?_
          refine r_goto rfl ?_
          refine r_iload_n rfl rfl ?_
          refine r_iret rfl rfl ?_
          exact ⟨rfl, rfl⟩
    · first | exact absurd h57 (by decide) | exact absurd (by decide) h57
  · first | exact absurd h3 (by decide) | exact absurd (by decide) h3
theorem ct_X10_beam_3 {d : Nat} {S : am_S} {v : Int32} (hv : 0 ≤ v ∧ v ≤ 10 - gI S 1 5) : am_CT (d + 2) iX10_beam [.ref 0, .int 3, .int v] S (some (.int (gI S 1 6))) (uI S 1 6 v) := by
  refine am_CT_in mmX10_beam rfl rfl rfl ?_
  refine r_iconst rfl ?_
  refine r_istore_n (L2 := [_, _, _, _]) rfl rfl ?_
  refine r_iload_n rfl rfl ?_
  refine r_if_ne rfl (fun h3 => ?_) (fun h3 => ?_)
  · refine r_iload_n rfl rfl ?_
    refine r_iconst rfl ?_
    refine r_icmp_ne rfl (fun h57 => ?_) (fun h57 => ?_)
    · refine r_iload_n rfl rfl ?_
      refine r_iconst rfl ?_
      refine r_icmp_ne rfl (fun h92 => ?_) (fun h92 => ?_)
      · refine r_iload_n rfl rfl ?_
        refine r_iconst rfl ?_
        refine r_icmp_ne rfl (fun h134 => ?_) (fun h134 => ?_)
        · first | exact absurd h134 (by decide) | exact absurd (by decide) h134
        · refine r_iload_n rfl rfl ?_
          refine r_iconst rfl ?_
          refine r_bipush rfl ?_
          refine r_aload_n rfl rfl ?_
          refine r_getC rfl rfl (by decide) (by decide) rfl ?_
          refine r_getI rfl rfl (by decide) (by decide) rfl ?_
          refine r_isub rfl ?_
          refine r_callS rfl (by decide) ct_X10_isWithin rfl rfl (am_cnt rfl) ?_
          refine r_if_eq rfl (fun h152 => ?_) (fun h152 => ?_)
          · exact absurd (hv) (b01_eq0.mp h152)
          · refine r_aload_n rfl rfl ?_
            refine r_getC rfl rfl (by decide) (by decide) rfl ?_
            refine r_getI rfl rfl (by decide) (by decide) rfl ?_
            refine r_istore_n (L2 := [_, _, _, _]) rfl rfl ?_
            refine r_aload_n rfl rfl ?_
            refine r_getC rfl rfl (by decide) (by decide) rfl ?_
            refine r_iload_n rfl rfl ?_
            refine r_putI rfl rfl (by decide) (by decide) rfl ?_
            refine r_iload_n rfl rfl ?_
            refine r_iret rfl rfl ?_
            exact ⟨rfl, rfl⟩
      · first | exact absurd h92 (by decide) | exact absurd (by decide) h92
    · first | exact absurd h57 (by decide) | exact absurd (by decide) h57
  · first | exact absurd h3 (by decide) | exact absurd (by decide) h3
/-- the late of the j-th that a sheet tells -/
def shV (kd n f st : Int32) (j : Nat) : Int32 := if kd = 3 ∨ n ≤ nI j then 0 else fEntry kd (f + nI j * st)
def shS (S : am_S) (kd n f st : Int32) : Nat → am_S
  | 0 => S
  | j + 1 => uI (shS S kd n f st j) (6 + 2 * j) 0 (shV kd n f st j)
theorem shS_n {S : am_S} {kd n f st : Int32} (o : Nat) (ho : o < 6 ∨ 17 < o ∨ o % 2 = 1) : ∀ j, j ≤ 6 → gI (shS S kd n f st j) o = gI S o
  | 0, _ => rfl
  | j + 1, hj => by rw [shS, gI_uI_ne (by omega), shS_n o ho j (by omega)]
theorem ct_X10_sheet_no {d : Nat} {S : am_S} {kd n f st : Int32} (h : ¬ (0 ≤ kd ∧ kd ≤ 3 ∧ n ≤ 6)) : am_CT (d + 2) iX10_sheet [.ref 0, .int kd, .int n, .int f, .int st] S (some (.int (-1))) (S) := by
  refine am_CT_in mmX10_sheet rfl rfl rfl ?_
  refine r_iload_n rfl rfl ?_
  refine r_if_lt rfl (fun h1 => ?_) (fun h1 => ?_)
  · refine r_iconst rfl ?_
    refine r_iret rfl rfl ?_
    exact ⟨rfl, rfl⟩
  · refine r_iload_n rfl rfl ?_
    refine r_iconst rfl ?_
    refine r_icmp_gt rfl (fun h6 => ?_) (fun h6 => ?_)
    · refine r_iconst rfl ?_
      refine r_iret rfl rfl ?_
      exact ⟨rfl, rfl⟩
    · refine r_iload_n rfl rfl ?_
      refine r_bipush rfl ?_
      refine r_icmp_le rfl (fun h12 => ?_) (fun h12 => ?_)
      · exfalso
        grind
      · refine r_iconst rfl ?_
        refine r_iret rfl rfl ?_
        exact ⟨rfl, rfl⟩
theorem ct_X10_sheet_never {d : Nat} {S : am_S} {kd n f st : Int32} (h : 0 ≤ kd ∧ kd < 3 ∧ n < 0) : am_CT (d + 2) iX10_sheet [.ref 0, .int kd, .int n, .int f, .int st] S (some (.int (-2))) (S) := by
  refine am_CT_in mmX10_sheet rfl rfl rfl ?_
  refine r_iload_n rfl rfl ?_
  refine r_if_lt rfl (fun h1 => ?_) (fun h1 => ?_)
  · exfalso
    grind
  · refine r_iload_n rfl rfl ?_
    refine r_iconst rfl ?_
    refine r_icmp_gt rfl (fun h6 => ?_) (fun h6 => ?_)
    · exfalso
      grind
    · refine r_iload_n rfl rfl ?_
      refine r_bipush rfl ?_
      refine r_icmp_le rfl (fun h12 => ?_) (fun h12 => ?_)
      · refine r_iload_n rfl rfl ?_
        refine r_iconst rfl ?_
        refine r_icmp_ne rfl (fun h19 => ?_) (fun h19 => ?_)
        · refine r_iconst rfl ?_
          refine r_istore (L2 := [_, _, _, _, _, _, _, _, _]) rfl rfl ?_
          refine r_iload rfl rfl ?_
          refine r_if_ne rfl (fun h31 => ?_) (fun h31 => ?_)
          · exfalso
            grind
          · refine r_iload_n rfl rfl ?_
            refine r_if_ge rfl (fun h35 => ?_) (fun h35 => ?_)
            · exfalso
              grind
            · refine r_bipush rfl ?_
              refine r_iret rfl rfl ?_
              exact ⟨rfl, rfl⟩
        · exfalso
          grind
      · exfalso
        grind
theorem ct_X10_sheet_ok {d : Nat} {S : am_S} {kd n f st : Int32} {z : Nat} (hz : gI S 1 1 = nI z) (hz6 : z ≤ 6) (h : 0 ≤ kd ∧ kd ≤ 3 ∧ n ≤ 6 ∧ (kd = 3 ∨ 0 ≤ n)) : am_CT (d + 2) iX10_sheet [.ref 0, .int kd, .int n, .int f, .int st] S (some (.int (if kd = 3 then -3 else sumI (shV kd n f st) z))) (shS S kd n f st z) := by
  refine am_CT_in mmX10_sheet rfl rfl rfl ?_
  have loop : ∀ (k : Nat) (j : Nat) (v8 : Option Value), (j ≤ z) → (z < j + k) → am_Ex (am_Call am_MT (d + 1)) mmX10_sheet none (fun r1 G1 => r1 = (some (.int (if kd = 3 then -3 else sumI (shV kd n f st) z))) ∧ G1 = am_H (shS S kd n f st z)) (fun _ _ _ _ _ _ => False) 47 [some (.ref 0), some (.int kd), some (.int n), some (.int f), some (.int st), some (.int (b01 (kd = 3))), some (.int (sumI (shV kd n f st) j)), some (.int (nI j)), v8] [] (am_H (shS S kd n f st j)) 0 0 := by
    intro k
    induction k with
    | zero =>
      intro j v8 h1 h2
      omega
    | succ k ih =>
      intro j v8 h1 h2
      have a1 : gI (shS S kd n f st j) 1 1 = nI z := by rw [shS_n 1 (by omega) j (by omega), hz]
      have b1 : (nI j).toNatClampNeg = j := nI_clamp (by omega)
      have s1 : 0 ≤ nI j := nI_pos' (by omega)
      have t1 : ∀ v, shV kd n f st j = v → shS S kd n f st (j + 1) = uI (shS S kd n f st j) (6 + 2 * (nI j).toNatClampNeg) 0 v := fun v hv => by rw [shS, b1, hv]
      refine r_iload rfl rfl ?_
      refine r_aload_n rfl rfl ?_
      refine r_getC rfl rfl (by decide) (by decide) rfl ?_
      refine r_getI rfl rfl (by decide) (by decide) rfl ?_
      refine r_icmp_ge rfl (fun h56 => ?_) (fun h56 => ?_)
      · rw [a1, nI_leI (by omega) (by omega)] at h56
        obtain rfl : j = z := by omega
        refine r_iload rfl rfl ?_
        refine r_if_eq rfl (fun h117 => ?_) (fun h117 => ?_)
        · rw [b01_eq0] at h117
          refine r_iload rfl rfl ?_
          refine r_iret rfl rfl ?_
          exact ⟨by grind, rfl⟩
        · rw [b01_eq0] at h117
          refine r_bipush rfl ?_
          refine r_goto rfl ?_
          refine r_iret rfl rfl ?_
          exact ⟨by grind, rfl⟩
      · rw [a1, nI_leI (by omega) (by omega)] at h56
        have hj : j < 6 := by omega
        have s2 : nI j < Int32.ofNat 6 := nI_lt (by omega) (by omega)
        refine r_iload rfl rfl ?_
        refine r_if_ne rfl (fun h61 => ?_) (fun h61 => ?_)
        · have hv : shV kd n f st j = 0 := if_pos (Or.inl (Decidable.not_not.mp fun z => h61 (b01_f z)))
          refine r_iconst rfl ?_
          refine r_goto rfl ?_
          refine r_istore (L2 := [_, _, _, _, _, _, _, _, _]) rfl rfl ?_
          refine r_aload_n rfl rfl ?_
          refine r_getC rfl rfl (by decide) (by decide) rfl ?_
          refine r_getC rfl rfl (by decide) (by decide) rfl ?_
          refine r_iload rfl rfl ?_
          refine r_aaldP rfl rfl (by first | exact s1 | exact s2) (by first | exact s1 | exact s2) ?_
          refine r_iload rfl rfl ?_
          refine r_putI rfl (by rw [b1]; exact kn_person hj) (by decide) (by decide) rfl ?_
          refine r_iload rfl rfl ?_
          refine r_iload rfl rfl ?_
          refine r_iadd rfl ?_
          refine r_istore (L2 := [_, _, _, _, _, _, _, _, _]) rfl rfl ?_
          refine r_iinc (L2 := [_, _, _, _, _, _, _, _, _]) rfl rfl rfl ?_
          refine r_goto rfl ?_
          have e := ih (j + 1) (some (.int (shV kd n f st j))) (by omega) (by omega)
          rw [sumI, t1 _ hv, hv] at e
          rw [nI_1]
          exact e
        · refine r_iload rfl rfl ?_
          refine r_iload_n rfl rfl ?_
          refine r_icmp_lt rfl (fun h67 => ?_) (fun h67 => ?_)
          · have hv : shV kd n f st j = fEntry kd (f + nI j * st) := if_neg (by rw [b01_eq0] at h61; grind)
            refine r_iload_n rfl rfl ?_
            refine r_iload_n rfl rfl ?_
            refine r_iload rfl rfl ?_
            refine r_iload rfl rfl ?_
            refine r_imul rfl ?_
            refine r_iadd rfl ?_
            refine r_callS rfl (by decide) ct_X10_sheetEntry rfl rfl (am_cnt rfl) ?_
            refine r_istore (L2 := [_, _, _, _, _, _, _, _, _]) rfl rfl ?_
            refine r_aload_n rfl rfl ?_
            refine r_getC rfl rfl (by decide) (by decide) rfl ?_
            refine r_getC rfl rfl (by decide) (by decide) rfl ?_
            refine r_iload rfl rfl ?_
            refine r_aaldP rfl rfl (by first | exact s1 | exact s2) (by first | exact s1 | exact s2) ?_
            refine r_iload rfl rfl ?_
            refine r_putI rfl (by rw [b1]; exact kn_person hj) (by decide) (by decide) rfl ?_
            refine r_iload rfl rfl ?_
            refine r_iload rfl rfl ?_
            refine r_iadd rfl ?_
            refine r_istore (L2 := [_, _, _, _, _, _, _, _, _]) rfl rfl ?_
            refine r_iinc (L2 := [_, _, _, _, _, _, _, _, _]) rfl rfl rfl ?_
            refine r_goto rfl ?_
            have e := ih (j + 1) (some (.int (shV kd n f st j))) (by omega) (by omega)
            rw [sumI, t1 _ hv, hv] at e
            rw [nI_1]
            exact e
          · have hv : shV kd n f st j = 0 := if_pos (Or.inr (by grind))
            refine r_iconst rfl ?_
            refine r_goto rfl ?_
            refine r_istore (L2 := [_, _, _, _, _, _, _, _, _]) rfl rfl ?_
            refine r_aload_n rfl rfl ?_
            refine r_getC rfl rfl (by decide) (by decide) rfl ?_
            refine r_getC rfl rfl (by decide) (by decide) rfl ?_
            refine r_iload rfl rfl ?_
            refine r_aaldP rfl rfl (by first | exact s1 | exact s2) (by first | exact s1 | exact s2) ?_
            refine r_iload rfl rfl ?_
            refine r_putI rfl (by rw [b1]; exact kn_person hj) (by decide) (by decide) rfl ?_
            refine r_iload rfl rfl ?_
            refine r_iload rfl rfl ?_
            refine r_iadd rfl ?_
            refine r_istore (L2 := [_, _, _, _, _, _, _, _, _]) rfl rfl ?_
            refine r_iinc (L2 := [_, _, _, _, _, _, _, _, _]) rfl rfl rfl ?_
            refine r_goto rfl ?_
            have e := ih (j + 1) (some (.int (shV kd n f st j))) (by omega) (by omega)
            rw [sumI, t1 _ hv, hv] at e
            rw [nI_1]
            exact e
  refine r_iload_n rfl rfl ?_
  refine r_if_lt rfl (fun h1 => ?_) (fun h1 => ?_)
  · exfalso
    grind
  · refine r_iload_n rfl rfl ?_
    refine r_iconst rfl ?_
    refine r_icmp_gt rfl (fun h6 => ?_) (fun h6 => ?_)
    · exfalso
      grind
    · refine r_iload_n rfl rfl ?_
      refine r_bipush rfl ?_
      refine r_icmp_le rfl (fun h12 => ?_) (fun h12 => ?_)
      · refine r_iload_n rfl rfl ?_
        refine r_iconst rfl ?_
        refine r_icmp_ne rfl (fun h19 => ?_) (fun h19 => ?_)
        · refine r_iconst rfl ?_
          refine r_istore (L2 := [_, _, _, _, _, _, _, _, _]) rfl rfl ?_
          refine r_iload rfl rfl ?_
          refine r_if_ne rfl (fun h31 => ?_) (fun h31 => ?_)
          · refine r_iconst rfl ?_
            refine r_istore (L2 := [_, _, _, _, _, _, _, _, _]) rfl rfl ?_
            refine r_iconst rfl ?_
            refine r_istore (L2 := [_, _, _, _, _, _, _, _, _]) rfl rfl ?_
            have e := loop (z + 1) 0 none (by omega) (by omega)
            first | (rw [b01_t (P := kd = 3) (by assumption)] at e; exact e) | (rw [b01_f (P := kd = 3) (by assumption)] at e; exact e)
          · refine r_iload_n rfl rfl ?_
            refine r_if_ge rfl (fun h35 => ?_) (fun h35 => ?_)
            · refine r_iconst rfl ?_
              refine r_istore (L2 := [_, _, _, _, _, _, _, _, _]) rfl rfl ?_
              refine r_iconst rfl ?_
              refine r_istore (L2 := [_, _, _, _, _, _, _, _, _]) rfl rfl ?_
              have e := loop (z + 1) 0 none (by omega) (by omega)
              first | (rw [b01_t (P := kd = 3) (by assumption)] at e; exact e) | (rw [b01_f (P := kd = 3) (by assumption)] at e; exact e)
            · exfalso
              grind
        · refine r_iconst rfl ?_
          refine r_goto rfl ?_
          refine r_istore (L2 := [_, _, _, _, _, _, _, _, _]) rfl rfl ?_
          refine r_iload rfl rfl ?_
          refine r_if_ne rfl (fun h31 => ?_) (fun h31 => ?_)
          · refine r_iconst rfl ?_
            refine r_istore (L2 := [_, _, _, _, _, _, _, _, _]) rfl rfl ?_
            refine r_iconst rfl ?_
            refine r_istore (L2 := [_, _, _, _, _, _, _, _, _]) rfl rfl ?_
            have e := loop (z + 1) 0 none (by omega) (by omega)
            first | (rw [b01_t (P := kd = 3) (by assumption)] at e; exact e) | (rw [b01_f (P := kd = 3) (by assumption)] at e; exact e)
          · refine r_iload_n rfl rfl ?_
            refine r_if_ge rfl (fun h35 => ?_) (fun h35 => ?_)
            · refine r_iconst rfl ?_
              refine r_istore (L2 := [_, _, _, _, _, _, _, _, _]) rfl rfl ?_
              refine r_iconst rfl ?_
              refine r_istore (L2 := [_, _, _, _, _, _, _, _, _]) rfl rfl ?_
              have e := loop (z + 1) 0 none (by omega) (by omega)
              first | (rw [b01_t (P := kd = 3) (by assumption)] at e; exact e) | (rw [b01_f (P := kd = 3) (by assumption)] at e; exact e)
            · exfalso
              grind
      · exfalso
        grind
/-- a byte of four that one int tells -/
def fourI (v : Int32) (j : Nat) : Int32 := (v.toUInt32 >>> ((nI (24 - 8 * j)).toUInt32 &&& Int32.toUInt32 31)).toInt32 &&& 255
def frS (S : am_S) (v : Int32) (n : Nat) : Nat → am_S
  | 0 => S
  | j + 1 => uI (uI (frS S v n j) 68 (n + j) (fourI v j)) 67 1 (nI (n + (j + 1)))
theorem frS_n {S : am_S} {v : Int32} {n : Nat} (hn : gI S 67 1 = nI n) : ∀ j, gI (frS S v n j) 67 1 = nI (n + j)
  | 0 => hn
  | j + 1 => by rw [frS, gI_uI, if_pos rfl, if_pos rfl]
theorem ct_X5_addFour_no {d : Nat} {S : am_S} {v : Int32} {n : Nat} (hn : gI S 67 1 = nI n) (hb : 56 < n) (hb2 : n ≤ 60) : am_CT (d + 1) iX5_addFour [.ref 67, .int v] S (some (.int 0)) (S) := by
  refine am_CT_in mmX5_addFour rfl rfl rfl ?_
  refine r_aload_n rfl rfl ?_
  refine r_getI rfl rfl (by decide) (by decide) rfl ?_
  refine r_bipush rfl ?_
  refine r_icmp_le rfl (fun h6 => ?_) (fun h6 => ?_)
  · rw [hn] at h6
    exact absurd (Int32.not_le.mpr (nI_lt (a := 56) hb (by omega))) (fun z => z h6)
  · refine r_iconst rfl ?_
    refine r_zret rfl rfl (by simp) ?_
    exact ⟨rfl, rfl⟩
theorem ct_X5_addFour_ok {d : Nat} {S : am_S} {v : Int32} {n : Nat} (hn : gI S 67 1 = nI n) (hb : n ≤ 56) : am_CT (d + 1) iX5_addFour [.ref 67, .int v] S (some (.int 1)) (frS S v n 4) := by
  refine am_CT_in mmX5_addFour rfl rfl rfl ?_
  have loop : ∀ (k : Nat) (j : Nat), (j ≤ 4) → (4 < j + k) → am_Ex (am_Call am_MT (d + 0)) mmX5_addFour none (fun r1 G1 => r1 = (some (.int 1)) ∧ G1 = am_H (frS S v n 4)) (fun _ _ _ _ _ _ => False) 14 [some (.ref 67), some (.int v), some (.int (if j = 4 then -8 else nI (24 - 8 * j)))] [] (am_H (frS S v n j)) 0 0 := by
    intro k
    induction k with
    | zero =>
      intro j h1 h2
      omega
    | succ k ih =>
      intro j h1 h2
      have a1 := frS_n (v := v) hn j
      by_cases hj : j = 4
      · subst hj
        rw [if_pos rfl]
        refine r_iload_n rfl rfl ?_
        refine r_if_lt rfl (fun h15 => ?_) (fun h15 => ?_)
        · refine r_iconst rfl ?_
          refine r_zret rfl rfl (by simp) ?_
          exact ⟨rfl, rfl⟩
        · first | exact absurd h15 (by decide) | exact absurd (by decide) h15
      · rw [if_neg hj]
        have b1 : (gI (frS S v n j) 67 1).toNatClampNeg = n + j := by rw [a1, nI_clamp (by omega)]
        have s1 : 0 ≤ gI (frS S v n j) 67 1 := by rw [a1]; exact nI_pos' (by omega)
        have s2 : gI (frS S v n j) 67 1 < Int32.ofNat 60 := by rw [a1]; exact nI_lt (by omega) (by omega)
        have e8 : nI (24 - 8 * j) + -8 = if j + 1 = 4 then -8 else nI (24 - 8 * (j + 1)) := by
          clear ih a1 b1 s1 s2 h2
          match j, hj, h1 with
          | 0, _, _ => rfl
          | 1, _, _ => rfl
          | 2, _, _ => rfl
          | 3, _, _ => rfl
          | 4, q, _ => exact absurd rfl q
          | n + 5, _, q => omega
        refine r_iload_n rfl rfl ?_
        refine r_if_lt rfl (fun h15 => ?_) (fun h15 => ?_)
        · exact absurd h15 (nI_neg (by omega))
        · refine r_aload_n rfl rfl ?_
          refine r_getC rfl rfl (by decide) (by decide) rfl ?_
          refine r_aload_n rfl rfl ?_
          refine r_getI rfl rfl (by decide) (by decide) rfl ?_
          refine r_iload_n rfl rfl ?_
          refine r_iload_n rfl rfl ?_
          refine r_iushr rfl ?_
          refine r_sipush rfl ?_
          refine r_iand rfl ?_
          refine r_iast rfl rfl (by first | decide | assumption) (by first | exact s1 | exact s2) (by first | exact s1 | exact s2) ?_
          refine r_aload_n rfl rfl ?_
          refine r_dup rfl rfl ?_
          refine r_getI rfl rfl (by decide) (by decide) rfl ?_
          refine r_iconst rfl ?_
          refine r_iadd rfl ?_
          refine r_putI rfl rfl (by decide) (by decide) rfl ?_
          refine r_iinc (L2 := [_, _, _]) rfl rfl rfl ?_
          refine r_goto rfl ?_
          rw [e8]
          have e := ih (j + 1) (by omega) (by omega)
          rw [frS] at e
          rw [b1, gI_uI_ne (by decide), a1, nI_1]
          exact e
  refine r_aload_n rfl rfl ?_
  refine r_getI rfl rfl (by decide) (by decide) rfl ?_
  refine r_bipush rfl ?_
  refine r_icmp_le rfl (fun h6 => ?_) (fun h6 => ?_)
  · refine r_bipush rfl ?_
    refine r_istore_n (L2 := [_, _, _]) rfl rfl ?_
    exact loop 5 0 (by omega) (by omega)
  · rw [hn] at h6
    exact absurd h6 (fun z => z (nI_le (b := 56) hb (by omega)))
theorem ct_X10_sign_no {d : Nat} {S : am_S} {v : Int32} {n : Nat} (hn : gI S 67 1 = nI n) (hb : 56 < n) (hb2 : n ≤ 60) : am_CT (d + 2) iX10_sign [.ref 0, .int v] S (some (.int (-1))) (S) := by
  refine am_CT_in mmX10_sign rfl rfl rfl ?_
  refine r_aload_n rfl rfl ?_
  refine r_getC rfl rfl (by decide) (by decide) rfl ?_
  refine r_iload_n rfl rfl ?_
  refine r_callV rfl (ct_X5_addFour_no hn hb hb2) rfl rfl rfl (by decide) rfl (am_cnt rfl) ?_
  refine r_if_eq rfl (fun h8 => ?_) (fun h8 => ?_)
  · refine r_iconst rfl ?_
    refine r_iret rfl rfl ?_
    exact ⟨rfl, rfl⟩
  · first | exact absurd h8 (by decide) | exact absurd (by decide) h8
theorem ct_X10_sign_ok {d : Nat} {S : am_S} {v : Int32} {n : Nat} (hn : gI S 67 1 = nI n) (hb : n ≤ 56) : am_CT (d + 2) iX10_sign [.ref 0, .int v] S (some (.int (nI (n + 4)))) (frS S v n 4) := by
  refine am_CT_in mmX10_sign rfl rfl rfl ?_
  refine r_aload_n rfl rfl ?_
  refine r_getC rfl rfl (by decide) (by decide) rfl ?_
  refine r_iload_n rfl rfl ?_
  refine r_callV rfl (ct_X5_addFour_ok hn hb) rfl rfl rfl (by decide) rfl (am_cnt rfl) ?_
  refine r_if_eq rfl (fun h8 => ?_) (fun h8 => ?_)
  · first | exact absurd h8 (by decide) | exact absurd (by decide) h8
  · refine r_aload_n rfl rfl ?_
    refine r_getC rfl rfl (by decide) (by decide) rfl ?_
    refine r_getI rfl rfl (by decide) (by decide) rfl ?_
    refine r_goto rfl ?_
    refine r_iret rfl rfl ?_
    rw [frS_n hn]
    exact ⟨rfl, rfl⟩
theorem ct_X10_place_ok {d : Nat} {S : am_S} {m : Int32} (h : 0 ≤ m ∧ m ≤ gI S 54 0) : am_CT (d + 2) iX10_place [.ref 0, .int m] S (some (.int (fPlace S 54 m))) (S) := by
  refine am_CT_in mmX10_place rfl rfl rfl ?_
  refine r_iload_n rfl rfl ?_
  refine r_iconst rfl ?_
  refine r_aload_n rfl rfl ?_
  refine r_getC rfl rfl (by decide) (by decide) rfl ?_
  refine r_getI rfl rfl (by decide) (by decide) rfl ?_
  refine r_callS rfl (by decide) ct_X10_isWithin rfl rfl (am_cnt rfl) ?_
  refine r_if_ne rfl (fun h12 => ?_) (fun h12 => ?_)
  · refine r_aload_n rfl rfl ?_
    refine r_getC rfl rfl (by decide) (by decide) rfl ?_
    refine r_iload_n rfl rfl ?_
    refine r_callV rfl (ct_X0_placeAt (o := 54) ⟨rfl, rfl, rfl, rfl, rfl, rfl⟩) rfl rfl rfl (by decide) rfl (am_cnt rfl) ?_
    refine r_iret rfl rfl ?_
    exact ⟨rfl, rfl⟩
  · exact absurd (h) (b01_eq0.mp h12)
theorem ct_X10_by_no {d : Nat} {S : am_S} {p q m : Int32} (h : ¬ (twoP S p q ∧ 0 ≤ m ∧ m ≤ 199)) : am_CT (d + 4) iX10_by [.ref 0, .int p, .int q, .int m] S (some (.int (-1))) (S) := by
  refine am_CT_in mmX10_by rfl rfl rfl ?_
  refine r_aload_n rfl rfl ?_
  refine r_getC rfl rfl (by decide) (by decide) rfl ?_
  refine r_iload_n rfl rfl ?_
  refine r_iload_n rfl rfl ?_
  refine r_callV rfl ct_X9_hasTwo rfl rfl rfl (by decide) rfl (am_cnt rfl) ?_
  refine r_if_eq rfl (fun h9 => ?_) (fun h9 => ?_)
  · refine r_iconst rfl ?_
    refine r_iret rfl rfl ?_
    exact ⟨rfl, rfl⟩
  · refine r_iload_n rfl rfl ?_
    refine r_iconst rfl ?_
    refine r_sipush rfl ?_
    refine r_callS rfl (by decide) ct_X10_isWithin rfl rfl (am_cnt rfl) ?_
    refine r_if_ne rfl (fun h20 => ?_) (fun h20 => ?_)
    · exfalso
      simp only [b01_eq0] at *
      grind
    · refine r_iconst rfl ?_
      refine r_iret rfl rfl ?_
      exact ⟨rfl, rfl⟩
theorem ct_X10_by_ok {d : Nat} {S : am_S} {p q m : Int32} (hz : gI S 1 1 ≤ 6) (h : twoP S p q) (hm : 0 ≤ m ∧ m ≤ 199) : am_CT (d + 4) iX10_by [.ref 0, .int p, .int q, .int m] S (some (.int (if m - lateI (gI S (cP q) 0) < 0 ∨ ¬ fBit (gI S (cP p) 3) q then -2 else m - lateI (gI S (cP q) 0)))) (S) := by
  refine am_CT_in mmX10_by rfl rfl rfl ?_
  have h2 := hasP6 hz h.2.1
  refine r_aload_n rfl rfl ?_
  refine r_getC rfl rfl (by decide) (by decide) rfl ?_
  refine r_iload_n rfl rfl ?_
  refine r_iload_n rfl rfl ?_
  refine r_callV rfl ct_X9_hasTwo rfl rfl rfl (by decide) rfl (am_cnt rfl) ?_
  refine r_if_eq rfl (fun h9 => ?_) (fun h9 => ?_)
  · refine r_iconst rfl ?_
    refine r_iret rfl rfl ?_
    exact ⟨by simp only [b01_eq0, lateI] at *; grind, rfl⟩
  · refine r_iload_n rfl rfl ?_
    refine r_iconst rfl ?_
    refine r_sipush rfl ?_
    refine r_callS rfl (by decide) ct_X10_isWithin rfl rfl (am_cnt rfl) ?_
    refine r_if_ne rfl (fun h20 => ?_) (fun h20 => ?_)
    · refine r_iload_n rfl rfl ?_
      refine r_aload_n rfl rfl ?_
      refine r_getC rfl rfl (by decide) (by decide) rfl ?_
      refine r_getC rfl rfl (by decide) (by decide) rfl ?_
      refine r_iload_n rfl rfl ?_
      refine r_aaldP rfl rfl (by first | exact h.2.1.1 | exact h2.1) (by first | exact h.2.1.1 | exact h2.1) ?_
      refine r_callV rfl (ct_X4_hearsAfter (kn_person h2.2)) rfl rfl (kn_person h2.2) (by decide) rfl (am_cnt rfl) ?_
      refine r_isub rfl ?_
      refine r_istore (L2 := [_, _, _, _, _]) rfl rfl ?_
      refine r_iload rfl rfl ?_
      refine r_if_lt rfl (fun h43 => ?_) (fun h43 => ?_)
      · refine r_bipush rfl ?_
        refine r_goto rfl ?_
        refine r_iret rfl rfl ?_
        exact ⟨by simp only [b01_eq0, lateI] at *; grind, rfl⟩
      · refine r_aload_n rfl rfl ?_
        refine r_getC rfl rfl (by decide) (by decide) rfl ?_
        refine r_iload_n rfl rfl ?_
        refine r_iload_n rfl rfl ?_
        refine r_callV rfl (ct_X9_isNear hz) rfl rfl rfl (by decide) rfl (am_cnt rfl) ?_
        refine r_if_ne rfl (fun h55 => ?_) (fun h55 => ?_)
        · refine r_iload rfl rfl ?_
          refine r_iret rfl rfl ?_
          exact ⟨by simp only [b01_eq0, lateI] at *; grind, rfl⟩
        · refine r_bipush rfl ?_
          refine r_goto rfl ?_
          refine r_iret rfl rfl ?_
          exact ⟨by simp only [b01_eq0, lateI] at *; grind, rfl⟩
    · exact absurd (hm) (b01_eq0.mp h20)
theorem ct_X10_fog_no {d : Nat} {S : am_S} {p a b c : Int32} (h : ¬ (hasP S p ∧ (0 ≤ a ∧ a ≤ 10) ∧ (0 ≤ b ∧ b ≤ 10) ∧ (0 ≤ c ∧ c ≤ 10) ∧ a + b + c ≤ 10)) : am_CT (d + 2) iX10_fog [.ref 0, .int p, .int a, .int b, .int c] S (some (.int 0)) (S) := by
  refine am_CT_in mmX10_fog rfl rfl rfl ?_
  refine r_aload_n rfl rfl ?_
  refine r_getC rfl rfl (by decide) (by decide) rfl ?_
  refine r_iload_n rfl rfl ?_
  refine r_callV rfl ct_X9_has rfl rfl rfl (by decide) rfl (am_cnt rfl) ?_
  refine r_if_eq rfl (fun h8 => ?_) (fun h8 => ?_)
  · refine r_iconst rfl ?_
    refine r_zret rfl rfl (by simp) ?_
    exact ⟨rfl, rfl⟩
  · refine r_iload_n rfl rfl ?_
    refine r_iconst rfl ?_
    refine r_bipush rfl ?_
    refine r_callS rfl (by decide) ct_X10_isWithin rfl rfl (am_cnt rfl) ?_
    refine r_if_eq rfl (fun h18 => ?_) (fun h18 => ?_)
    · refine r_iconst rfl ?_
      refine r_zret rfl rfl (by simp) ?_
      exact ⟨rfl, rfl⟩
    · refine r_iload_n rfl rfl ?_
      refine r_iconst rfl ?_
      refine r_bipush rfl ?_
      refine r_callS rfl (by decide) ct_X10_isWithin rfl rfl (am_cnt rfl) ?_
      refine r_if_eq rfl (fun h28 => ?_) (fun h28 => ?_)
      · refine r_iconst rfl ?_
        refine r_zret rfl rfl (by simp) ?_
        exact ⟨rfl, rfl⟩
      · refine r_iload rfl rfl ?_
        refine r_iconst rfl ?_
        refine r_bipush rfl ?_
        refine r_callS rfl (by decide) ct_X10_isWithin rfl rfl (am_cnt rfl) ?_
        refine r_if_eq rfl (fun h39 => ?_) (fun h39 => ?_)
        · refine r_iconst rfl ?_
          refine r_zret rfl rfl (by simp) ?_
          exact ⟨rfl, rfl⟩
        · refine r_iload_n rfl rfl ?_
          refine r_iload_n rfl rfl ?_
          refine r_iadd rfl ?_
          refine r_iload rfl rfl ?_
          refine r_iadd rfl ?_
          refine r_bipush rfl ?_
          refine r_icmp_le rfl (fun h50 => ?_) (fun h50 => ?_)
          · exfalso
            simp only [b01_eq0] at *
            grind
          · refine r_iconst rfl ?_
            refine r_zret rfl rfl (by simp) ?_
            exact ⟨rfl, rfl⟩
theorem ct_X10_fog_ok {d : Nat} {S : am_S} {p a b c : Int32} (hz : gI S 1 1 ≤ 6) (h : hasP S p) (ha : 0 ≤ a ∧ a ≤ 10) (hb : 0 ≤ b ∧ b ≤ 10) (hc : 0 ≤ c ∧ c ≤ 10) (hs : a + b + c ≤ 10) : am_CT (d + 2) iX10_fog [.ref 0, .int p, .int a, .int b, .int c] S (some (.int 1)) (uI (uI (uI (uI S (cP p + 1) 0 a) (cP p + 1) 1 b) (cP p + 1) 2 c) (cP p + 1) 3 (10 - a - b - c)) := by
  refine am_CT_in mmX10_fog rfl rfl rfl ?_
  have h1 := hasP6 hz h
  refine r_aload_n rfl rfl ?_
  refine r_getC rfl rfl (by decide) (by decide) rfl ?_
  refine r_iload_n rfl rfl ?_
  refine r_callV rfl ct_X9_has rfl rfl rfl (by decide) rfl (am_cnt rfl) ?_
  refine r_if_eq rfl (fun h8 => ?_) (fun h8 => ?_)
  · exact absurd (h) (b01_eq0.mp h8)
  · refine r_iload_n rfl rfl ?_
    refine r_iconst rfl ?_
    refine r_bipush rfl ?_
    refine r_callS rfl (by decide) ct_X10_isWithin rfl rfl (am_cnt rfl) ?_
    refine r_if_eq rfl (fun h18 => ?_) (fun h18 => ?_)
    · exact absurd (ha) (b01_eq0.mp h18)
    · refine r_iload_n rfl rfl ?_
      refine r_iconst rfl ?_
      refine r_bipush rfl ?_
      refine r_callS rfl (by decide) ct_X10_isWithin rfl rfl (am_cnt rfl) ?_
      refine r_if_eq rfl (fun h28 => ?_) (fun h28 => ?_)
      · exact absurd (hb) (b01_eq0.mp h28)
      · refine r_iload rfl rfl ?_
        refine r_iconst rfl ?_
        refine r_bipush rfl ?_
        refine r_callS rfl (by decide) ct_X10_isWithin rfl rfl (am_cnt rfl) ?_
        refine r_if_eq rfl (fun h39 => ?_) (fun h39 => ?_)
        · exact absurd (hc) (b01_eq0.mp h39)
        · refine r_iload_n rfl rfl ?_
          refine r_iload_n rfl rfl ?_
          refine r_iadd rfl ?_
          refine r_iload rfl rfl ?_
          refine r_iadd rfl ?_
          refine r_bipush rfl ?_
          refine r_icmp_le rfl (fun h50 => ?_) (fun h50 => ?_)
          · refine r_aload_n rfl rfl ?_
            refine r_getC rfl rfl (by decide) (by decide) rfl ?_
            refine r_getC rfl rfl (by decide) (by decide) rfl ?_
            refine r_iload_n rfl rfl ?_
            refine r_aaldP rfl rfl (by first | exact h.1 | exact h1.1) (by first | exact h.1 | exact h1.1) ?_
            refine r_getO rfl (kn_person h1.2) (by decide) (by decide) rfl ?_
            refine r_astore (L2 := [_, _, _, _, _, _]) rfl rfl ?_
            refine r_aload rfl rfl ?_
            refine r_iconst rfl ?_
            refine r_iload_n rfl rfl ?_
            refine r_iast rfl (kn_more h1.2) (by first | decide | assumption) (by first | decide | simp) (by first | decide | simp) ?_
            refine r_aload rfl rfl ?_
            refine r_iconst rfl ?_
            refine r_iload_n rfl rfl ?_
            refine r_iast rfl (kn_more h1.2) (by first | decide | assumption) (by first | decide | simp) (by first | decide | simp) ?_
            refine r_aload rfl rfl ?_
            refine r_iconst rfl ?_
            refine r_iload rfl rfl ?_
            refine r_iast rfl (kn_more h1.2) (by first | decide | assumption) (by first | decide | simp) (by first | decide | simp) ?_
            refine r_aload rfl rfl ?_
            refine r_iconst rfl ?_
            refine r_bipush rfl ?_
            refine r_iload_n rfl rfl ?_
            refine r_isub rfl ?_
            refine r_iload_n rfl rfl ?_
            refine r_isub rfl ?_
            refine r_iload rfl rfl ?_
            refine r_isub rfl ?_
            refine r_iast rfl (kn_more h1.2) (by first | decide | assumption) (by first | decide | simp) (by first | decide | simp) ?_
            refine r_iconst rfl ?_
            refine r_zret rfl rfl (by first | decide | simp) ?_
            exact ⟨rfl, rfl⟩
          · exact absurd hs h50
theorem ct_X10_count_0 {d : Nat} {S : am_S} : am_CT (d + 3) iX10_count [.ref 0, .int 0] S (some (.int (gI S 1 1))) (S) := by
  refine am_CT_in mmX10_count rfl rfl rfl ?_
  refine r_iload_n rfl rfl ?_
  refine r_tableIn rfl (by decide) (by decide) rfl rfl ?_
  refine r_aload_n rfl rfl ?_
  refine r_getC rfl rfl (by decide) (by decide) rfl ?_
  refine r_getI rfl rfl (by decide) (by decide) rfl ?_
  refine r_iret rfl rfl ?_
  exact ⟨rfl, rfl⟩
theorem ct_X10_count_1 {d : Nat} {S : am_S} : am_CT (d + 3) iX10_count [.ref 0, .int 1] S (some (.int (gI S 54 0))) (S) := by
  refine am_CT_in mmX10_count rfl rfl rfl ?_
  refine r_iload_n rfl rfl ?_
  refine r_tableIn rfl (by decide) (by decide) rfl rfl ?_
  refine r_aload_n rfl rfl ?_
  refine r_getC rfl rfl (by decide) (by decide) rfl ?_
  refine r_getI rfl rfl (by decide) (by decide) rfl ?_
  refine r_iret rfl rfl ?_
  exact ⟨rfl, rfl⟩
theorem ct_X10_count_2 {d : Nat} {S : am_S} : am_CT (d + 3) iX10_count [.ref 0, .int 2] S (some (.int (ruleBits (fun j => gI S (18 + 3 * j) 1) 12))) (S) := by
  refine am_CT_in mmX10_count rfl rfl rfl ?_
  refine r_iload_n rfl rfl ?_
  refine r_tableIn rfl (by decide) (by decide) rfl rfl ?_
  refine r_aload_n rfl rfl ?_
  refine r_getC rfl rfl (by decide) (by decide) rfl ?_
  refine r_callV rfl ct_X9_toldRules rfl rfl rfl (by decide) rfl (am_cnt rfl) ?_
  refine r_iret rfl rfl ?_
  exact ⟨rfl, rfl⟩
theorem ct_X10_count_3 {d : Nat} {S : am_S} : am_CT (d + 3) iX10_count [.ref 0, .int 3] S (some (.int (gI S 1 4))) (S) := by
  refine am_CT_in mmX10_count rfl rfl rfl ?_
  refine r_iload_n rfl rfl ?_
  refine r_tableIn rfl (by decide) (by decide) rfl rfl ?_
  refine r_aload_n rfl rfl ?_
  refine r_getC rfl rfl (by decide) (by decide) rfl ?_
  refine r_getI rfl rfl (by decide) (by decide) rfl ?_
  refine r_iret rfl rfl ?_
  exact ⟨rfl, rfl⟩
theorem ct_X10_count_4 {d : Nat} {S : am_S} : am_CT (d + 3) iX10_count [.ref 0, .int 4] S (some (.int (gI S 74 1))) (S) := by
  refine am_CT_in mmX10_count rfl rfl rfl ?_
  refine r_iload_n rfl rfl ?_
  refine r_tableIn rfl (by decide) (by decide) rfl rfl ?_
  refine r_aload_n rfl rfl ?_
  refine r_getC rfl rfl (by decide) (by decide) rfl ?_
  refine r_getI rfl rfl (by decide) (by decide) rfl ?_
  refine r_iret rfl rfl ?_
  exact ⟨rfl, rfl⟩
theorem ct_X10_count_5 {d : Nat} {S : am_S} : am_CT (d + 3) iX10_count [.ref 0, .int 5] S (some (.int (gI S 67 1))) (S) := by
  refine am_CT_in mmX10_count rfl rfl rfl ?_
  refine r_iload_n rfl rfl ?_
  refine r_tableIn rfl (by decide) (by decide) rfl rfl ?_
  refine r_aload_n rfl rfl ?_
  refine r_getC rfl rfl (by decide) (by decide) rfl ?_
  refine r_getI rfl rfl (by decide) (by decide) rfl ?_
  refine r_iret rfl rfl ?_
  exact ⟨rfl, rfl⟩
theorem ct_X10_count_no {d : Nat} {S : am_S} {w : Int32} (h : w.toInt < 0 ∨ 5 < w.toInt) : am_CT (d + 3) iX10_count [.ref 0, .int w] S (some (.int (-1))) (S) := by
  refine am_CT_in mmX10_count rfl rfl rfl ?_
  refine r_iload_n rfl rfl ?_
  refine r_tableOut rfl h rfl ?_
  refine r_iconst rfl ?_
  refine r_iret rfl rfl ?_
  exact ⟨rfl, rfl⟩
theorem ct_X10_row_ok {d : Nat} {S : am_S} {i : Int32} (h : 0 ≤ i ∧ i < gI S 74 1) (h6 : gI S 74 1 ≤ 6) : am_CT (d + 1) iX10_row [.ref 0, .int i] S (some (.long (gJ S 75 i.toNatClampNeg))) (S) := by
  refine am_CT_in mmX10_row rfl rfl rfl ?_
  have hl : i < 6 := Int32.lt_of_lt_of_le h.2 h6
  refine r_iload_n rfl rfl ?_
  refine r_if_lt rfl (fun h1 => ?_) (fun h1 => ?_)
  · exact absurd h.1 (Int32.not_le.mpr h1)
  · refine r_iload_n rfl rfl ?_
    refine r_aload_n rfl rfl ?_
    refine r_getC rfl rfl (by decide) (by decide) rfl ?_
    refine r_getI rfl rfl (by decide) (by decide) rfl ?_
    refine r_icmp_lt rfl (fun h12 => ?_) (fun h12 => ?_)
    · refine r_aload_n rfl rfl ?_
      refine r_getC rfl rfl (by decide) (by decide) rfl ?_
      refine r_getC rfl rfl (by decide) (by decide) rfl ?_
      refine r_iload_n rfl rfl ?_
      refine r_lald rfl rfl (by first | decide | assumption) (by first | exact h.1 | exact hl) (by first | exact h.1 | exact hl) ?_
      refine r_lret rfl ?_
      exact ⟨rfl, rfl⟩
    · exact absurd h.2 h12
