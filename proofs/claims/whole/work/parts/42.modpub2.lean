/-! More of the reference's calls that set and read. -/
theorem hasM6 {S : am_S} {p : Int32} (hz : gI S 97 3 ≤ 6) (h : hasM S p) : p < 6 ∧ p.toNatClampNeg < 6 := by
  have hl : p < 6 := Int32.lt_of_lt_of_le h.2 hz
  exact ⟨hl, cl_lt h.1 hl (by decide)⟩
theorem twoM_ne {S : am_S} {p q : Int32} (h : twoM S p q) : p.toNatClampNeg ≠ q.toNatClampNeg := fun e => h.2.2 (by
  rw [nI_cl h.1.1, nI_cl h.2.1.1, e])
theorem ct_X11_link_no {d : Nat} {S T : am_S} {w p q f : Int32} (hT : uI S 97 0 0 = T) (hz : 0 ≤ gI T 97 3) (h : ¬ (twoM T p q ∧ 0 ≤ w ∧ w ≤ 1)) : am_CT (d + 4) iX11_link [.ref 97, .int w, .int p, .int q, .int f] S (some (.int 0)) (T) := by
  refine am_CT_in mmX11_link rfl rfl rfl ?_
  refine r_aload_n rfl rfl ?_
  refine r_iconst rfl ?_
  refine r_putI rfl rfl (by decide) (by decide) rfl ?_
  try rw [hT]
  refine r_iload_n rfl rfl ?_
  refine r_i2l rfl ?_
  refine r_lconst rfl ?_
  refine r_lconst rfl ?_
  refine r_callS rfl (by decide) ct_X11_in rfl rfl (am_cnt rfl) ?_
  refine r_if_eq rfl (fun h12 => ?_) (fun h12 => ?_)
  · refine r_iconst rfl ?_
    refine r_zret rfl rfl (by simp) ?_
    exact ⟨rfl, rfl⟩
  · refine r_aload_n rfl rfl ?_
    refine r_iload_n rfl rfl ?_
    refine r_iload_n rfl rfl ?_
    refine r_callV rfl (ct_X11_arePair hz) rfl rfl rfl (by decide) rfl (am_cnt rfl) ?_
    refine r_if_ne rfl (fun h21 => ?_) (fun h21 => ?_)
    · exfalso
      simp only [b01_eq0, wl_m999, wg_m999, wl_m99, wg_m99, wl_m50, wg_m50, wl_m1, wg_m1, wl_0, wg_0, wl_1, wg_1, wl_2, wg_2, wl_3, wg_3, wl_4, wg_4, wl_6, wg_6, wl_9, wg_9, wl_10, wg_10, wl_11, wg_11, wl_20, wg_20, wl_48, wg_48, wl_50, wg_50, wl_57, wg_57, wl_99, wg_99, wl_100, wg_100, wl_199, wg_199, wl_222, wg_222, wl_999, wg_999, wl_9999, wg_9999, fa_wide_le] at *
      grind
    · refine r_iconst rfl ?_
      refine r_zret rfl rfl (by simp) ?_
      exact ⟨rfl, rfl⟩
theorem ct_X11_link_near {d : Nat} {S T : am_S} {p q f : Int32} (hT : uI S 97 0 0 = T) (hz : 0 ≤ gI T 97 3) (hz6 : gI T 97 3 ≤ 6) (h : twoM T p q) : am_CT (d + 4) iX11_link [.ref 97, .int 0, .int p, .int q, .int f] S (some (.int 1)) (uI (uI T 102 p.toNatClampNeg (fWith (gI T 102 p.toNatClampNeg) q f)) 102 q.toNatClampNeg (fWith (gI T 102 q.toNatClampNeg) p f)) := by
  refine am_CT_in mmX11_link rfl rfl rfl ?_
  have h1 := hasM6 hz6 h.1
  have h2 := hasM6 hz6 h.2.1
  refine r_aload_n rfl rfl ?_
  refine r_iconst rfl ?_
  refine r_putI rfl rfl (by decide) (by decide) rfl ?_
  try rw [hT]
  refine r_iload_n rfl rfl ?_
  refine r_i2l rfl ?_
  refine r_lconst rfl ?_
  refine r_lconst rfl ?_
  refine r_callS rfl (by decide) ct_X11_in rfl rfl (am_cnt rfl) ?_
  refine r_if_eq rfl (fun h12 => ?_) (fun h12 => ?_)
  · exact absurd h12 (by decide)
  · refine r_aload_n rfl rfl ?_
    refine r_iload_n rfl rfl ?_
    refine r_iload_n rfl rfl ?_
    refine r_callV rfl (ct_X11_arePair hz) rfl rfl rfl (by decide) rfl (am_cnt rfl) ?_
    refine r_if_ne rfl (fun h21 => ?_) (fun h21 => ?_)
    · refine r_iload_n rfl rfl ?_
      refine r_iconst rfl ?_
      refine r_icmp_ne rfl (fun h28 => ?_) (fun h28 => ?_)
      · refine r_aload_n rfl rfl ?_
        refine r_getC rfl rfl (by decide) (by decide) rfl ?_
        refine r_iload_n rfl rfl ?_
        refine r_aload_n rfl rfl ?_
        refine r_getC rfl rfl (by decide) (by decide) rfl ?_
        refine r_iload_n rfl rfl ?_
        refine r_iald rfl rfl (by first | decide | assumption) (by first | exact h.1.1 | exact h1.1 | exact h.2.1.1 | exact h2.1) (by first | exact h.1.1 | exact h1.1 | exact h.2.1.1 | exact h2.1) ?_
        refine r_iload_n rfl rfl ?_
        refine r_iload rfl rfl ?_
        refine r_callS rfl (by decide) ct_X11_with rfl rfl (am_cnt rfl) ?_
        refine r_iast rfl rfl (by first | decide | assumption) (by first | exact h.1.1 | exact h1.1 | exact h.2.1.1 | exact h2.1) (by first | exact h.1.1 | exact h1.1 | exact h.2.1.1 | exact h2.1) ?_
        refine r_aload_n rfl rfl ?_
        refine r_getC rfl rfl (by decide) (by decide) rfl ?_
        refine r_iload_n rfl rfl ?_
        refine r_aload_n rfl rfl ?_
        refine r_getC rfl rfl (by decide) (by decide) rfl ?_
        refine r_iload_n rfl rfl ?_
        refine r_iald rfl rfl (by first | decide | assumption) (by first | exact h.1.1 | exact h1.1 | exact h.2.1.1 | exact h2.1) (by first | exact h.1.1 | exact h1.1 | exact h.2.1.1 | exact h2.1) ?_
        refine r_iload_n rfl rfl ?_
        refine r_iload rfl rfl ?_
        refine r_callS rfl (by decide) ct_X11_with rfl rfl (am_cnt rfl) ?_
        refine r_iast rfl rfl (by first | decide | assumption) (by first | exact h.1.1 | exact h1.1 | exact h.2.1.1 | exact h2.1) (by first | exact h.1.1 | exact h1.1 | exact h.2.1.1 | exact h2.1) ?_
        refine r_iconst rfl ?_
        refine r_zret rfl rfl (by simp) ?_
        refine ⟨rfl, ?_⟩
        rw [gI_uI T, if_pos rfl, if_neg (twoM_ne h).symm]
      · first | exact absurd h28 (by decide) | exact absurd (by decide) h28
    · exact absurd (h) (b01_eq0.mp h21)
theorem ct_X11_link_sees {d : Nat} {S T : am_S} {p q f : Int32} (hT : uI S 97 0 0 = T) (hz : 0 ≤ gI T 97 3) (hz6 : gI T 97 3 ≤ 6) (h : twoM T p q) : am_CT (d + 4) iX11_link [.ref 97, .int 1, .int p, .int q, .int f] S (some (.int 1)) (uI T 103 p.toNatClampNeg (fWith (gI T 103 p.toNatClampNeg) q f)) := by
  refine am_CT_in mmX11_link rfl rfl rfl ?_
  have h1 := hasM6 hz6 h.1
  have h2 := hasM6 hz6 h.2.1
  refine r_aload_n rfl rfl ?_
  refine r_iconst rfl ?_
  refine r_putI rfl rfl (by decide) (by decide) rfl ?_
  try rw [hT]
  refine r_iload_n rfl rfl ?_
  refine r_i2l rfl ?_
  refine r_lconst rfl ?_
  refine r_lconst rfl ?_
  refine r_callS rfl (by decide) ct_X11_in rfl rfl (am_cnt rfl) ?_
  refine r_if_eq rfl (fun h12 => ?_) (fun h12 => ?_)
  · exact absurd h12 (by decide)
  · refine r_aload_n rfl rfl ?_
    refine r_iload_n rfl rfl ?_
    refine r_iload_n rfl rfl ?_
    refine r_callV rfl (ct_X11_arePair hz) rfl rfl rfl (by decide) rfl (am_cnt rfl) ?_
    refine r_if_ne rfl (fun h21 => ?_) (fun h21 => ?_)
    · refine r_iload_n rfl rfl ?_
      refine r_iconst rfl ?_
      refine r_icmp_ne rfl (fun h28 => ?_) (fun h28 => ?_)
      · first | exact absurd h28 (by decide) | exact absurd (by decide) h28
      · refine r_aload_n rfl rfl ?_
        refine r_getC rfl rfl (by decide) (by decide) rfl ?_
        refine r_iload_n rfl rfl ?_
        refine r_aload_n rfl rfl ?_
        refine r_getC rfl rfl (by decide) (by decide) rfl ?_
        refine r_iload_n rfl rfl ?_
        refine r_iald rfl rfl (by first | decide | assumption) (by first | exact h.1.1 | exact h1.1 | exact h.2.1.1 | exact h2.1) (by first | exact h.1.1 | exact h1.1 | exact h.2.1.1 | exact h2.1) ?_
        refine r_iload_n rfl rfl ?_
        refine r_iload rfl rfl ?_
        refine r_callS rfl (by decide) ct_X11_with rfl rfl (am_cnt rfl) ?_
        refine r_iast rfl rfl (by first | decide | assumption) (by first | exact h.1.1 | exact h1.1 | exact h.2.1.1 | exact h2.1) (by first | exact h.1.1 | exact h1.1 | exact h.2.1.1 | exact h2.1) ?_
        refine r_goto rfl ?_
        refine r_iconst rfl ?_
        refine r_zret rfl rfl (by simp) ?_
        exact ⟨rfl, rfl⟩
    · exact absurd (h) (b01_eq0.mp h21)
theorem ct_X11_beam_no {d : Nat} {S T : am_S} {w v : Int32} (hT : uI S 97 0 0 = T) (h : ¬ ((w = 0 ∧ gI T 97 23 ≤ 0 ∧ -999 ≤ v ∧ v ≤ 999) ∨ (w = 1 ∧ -99 ≤ v ∧ v ≤ 99) ∨ (w = 2 ∧ 0 ≤ v ∧ v ≤ 10 - gI T 97 12) ∨ (w = 3 ∧ 0 ≤ v ∧ v ≤ 10 - gI T 97 11))) : am_CT (d + 2) iX11_beam [.ref 97, .int w, .int v] S (some (.int (-1))) (T) := by
  refine am_CT_in mmX11_beam rfl rfl rfl ?_
  refine r_aload_n rfl rfl ?_
  refine r_iconst rfl ?_
  refine r_putI rfl rfl (by decide) (by decide) rfl ?_
  try rw [hT]
  refine r_iload_n rfl rfl ?_
  refine r_if_ne rfl (fun h6 => ?_) (fun h6 => ?_)
  · refine r_iload_n rfl rfl ?_
    refine r_iconst rfl ?_
    refine r_icmp_ne rfl (fun h53 => ?_) (fun h53 => ?_)
    · refine r_iload_n rfl rfl ?_
      refine r_i2l rfl ?_
      refine r_ldc2_w rfl ?_
      refine r_ldc2_w rfl ?_
      refine r_callS rfl (by decide) ct_X11_in rfl rfl (am_cnt rfl) ?_
      refine r_if_eq rfl (fun h95 => ?_) (fun h95 => ?_)
      · refine r_iconst rfl ?_
        refine r_iret rfl rfl ?_
        exact ⟨rfl, rfl⟩
      · refine r_iload_n rfl rfl ?_
        refine r_i2l rfl ?_
        refine r_lconst rfl ?_
        refine r_bipush rfl ?_
        refine r_iload_n rfl rfl ?_
        refine r_iconst rfl ?_
        refine r_icmp_ne rfl (fun h105 => ?_) (fun h105 => ?_)
        · refine r_aload_n rfl rfl ?_
          refine r_getI rfl rfl (by decide) (by decide) rfl ?_
          refine r_isub rfl ?_
          refine r_i2l rfl ?_
          refine r_callS rfl (by decide) ct_X11_in rfl rfl (am_cnt rfl) ?_
          refine r_if_ne rfl (fun h124 => ?_) (fun h124 => ?_)
          · exfalso
            simp only [b01_eq0, wg_0, wg_2, wl_3, fa_wide_le] at *
            grind
          · refine r_iconst rfl ?_
            refine r_iret rfl rfl ?_
            exact ⟨rfl, rfl⟩
        · refine r_aload_n rfl rfl ?_
          refine r_getI rfl rfl (by decide) (by decide) rfl ?_
          refine r_goto rfl ?_
          refine r_isub rfl ?_
          refine r_i2l rfl ?_
          refine r_callS rfl (by decide) ct_X11_in rfl rfl (am_cnt rfl) ?_
          refine r_if_ne rfl (fun h124 => ?_) (fun h124 => ?_)
          · exfalso
            simp only [b01_eq0, wg_0, wg_2, wl_3, fa_wide_le] at *
            grind
          · refine r_iconst rfl ?_
            refine r_iret rfl rfl ?_
            exact ⟨rfl, rfl⟩
    · refine r_iload_n rfl rfl ?_
      refine r_i2l rfl ?_
      refine r_ldc2_w rfl ?_
      refine r_ldc2_w rfl ?_
      refine r_callS rfl (by decide) ct_X11_in rfl rfl (am_cnt rfl) ?_
      refine r_if_ne rfl (fun h67 => ?_) (fun h67 => ?_)
      · exfalso
        simp only [b01_eq0, wl_m999, wg_m999, wl_m99, wg_m99, wl_m50, wg_m50, wl_m1, wg_m1, wl_0, wg_0, wl_1, wg_1, wl_2, wg_2, wl_3, wg_3, wl_4, wg_4, wl_6, wg_6, wl_9, wg_9, wl_10, wg_10, wl_11, wg_11, wl_20, wg_20, wl_48, wg_48, wl_50, wg_50, wl_57, wg_57, wl_99, wg_99, wl_100, wg_100, wl_199, wg_199, wl_222, wg_222, wl_999, wg_999, wl_9999, wg_9999, fa_wide_le] at *
        grind
      · refine r_iconst rfl ?_
        refine r_iret rfl rfl ?_
        exact ⟨rfl, rfl⟩
  · refine r_iload_n rfl rfl ?_
    refine r_i2l rfl ?_
    refine r_ldc2_w rfl ?_
    refine r_ldc2_w rfl ?_
    refine r_callS rfl (by decide) ct_X11_in rfl rfl (am_cnt rfl) ?_
    refine r_if_eq rfl (fun h20 => ?_) (fun h20 => ?_)
    · refine r_iconst rfl ?_
      refine r_iret rfl rfl ?_
      exact ⟨rfl, rfl⟩
    · refine r_aload_n rfl rfl ?_
      refine r_getI rfl rfl (by decide) (by decide) rfl ?_
      refine r_if_le rfl (fun h27 => ?_) (fun h27 => ?_)
      · exfalso
        simp only [b01_eq0, wl_m999, wg_m999, wl_m99, wg_m99, wl_m50, wg_m50, wl_m1, wg_m1, wl_0, wg_0, wl_1, wg_1, wl_2, wg_2, wl_3, wg_3, wl_4, wg_4, wl_6, wg_6, wl_9, wg_9, wl_10, wg_10, wl_11, wg_11, wl_20, wg_20, wl_48, wg_48, wl_50, wg_50, wl_57, wg_57, wl_99, wg_99, wl_100, wg_100, wl_199, wg_199, wl_222, wg_222, wl_999, wg_999, wl_9999, wg_9999, fa_wide_le] at *
        grind
      · refine r_iconst rfl ?_
        refine r_iret rfl rfl ?_
        exact ⟨rfl, rfl⟩
theorem ct_X11_beam_0 {d : Nat} {S T : am_S} {v : Int32} (hT : uI S 97 0 0 = T) (hn : gI T 97 23 ≤ 0) (hv : -999 ≤ v ∧ v ≤ 999) : am_CT (d + 2) iX11_beam [.ref 97, .int 0, .int v] S (some (.int (gI T 97 9))) (uI (uI T 97 9 v) 109 0 v) := by
  refine am_CT_in mmX11_beam rfl rfl rfl ?_
  refine r_aload_n rfl rfl ?_
  refine r_iconst rfl ?_
  refine r_putI rfl rfl (by decide) (by decide) rfl ?_
  try rw [hT]
  refine r_iload_n rfl rfl ?_
  refine r_if_ne rfl (fun h6 => ?_) (fun h6 => ?_)
  · first | exact absurd h6 (by decide) | exact absurd (by decide) h6
  · refine r_iload_n rfl rfl ?_
    refine r_i2l rfl ?_
    refine r_ldc2_w rfl ?_
    refine r_ldc2_w rfl ?_
    refine r_callS rfl (by decide) ct_X11_in rfl rfl (am_cnt rfl) ?_
    refine r_if_eq rfl (fun h20 => ?_) (fun h20 => ?_)
    · simp only [b01_eq0, wl_m999, wg_m999, wl_m99, wg_m99, wl_m50, wg_m50, wl_m1, wg_m1, wl_0, wg_0, wl_1, wg_1, wl_2, wg_2, wl_3, wg_3, wl_4, wg_4, wl_6, wg_6, wl_9, wg_9, wl_10, wg_10, wl_11, wg_11, wl_20, wg_20, wl_48, wg_48, wl_50, wg_50, wl_57, wg_57, wl_99, wg_99, wl_100, wg_100, wl_199, wg_199, wl_222, wg_222, wl_999, wg_999, wl_9999, wg_9999, fa_wide_le] at h20
      exact absurd hv h20
    · refine r_aload_n rfl rfl ?_
      refine r_getI rfl rfl (by decide) (by decide) rfl ?_
      refine r_if_le rfl (fun h27 => ?_) (fun h27 => ?_)
      · refine r_aload_n rfl rfl ?_
        refine r_getI rfl rfl (by decide) (by decide) rfl ?_
        refine r_istore_n (L2 := [_, _, _, _]) rfl rfl ?_
        refine r_aload_n rfl rfl ?_
        refine r_iload_n rfl rfl ?_
        refine r_putI rfl rfl (by decide) (by decide) rfl ?_
        refine r_aload_n rfl rfl ?_
        refine r_getC rfl rfl (by decide) (by decide) rfl ?_
        refine r_iconst rfl ?_
        refine r_iload_n rfl rfl ?_
        refine r_iast rfl rfl (by first | decide | assumption) (by decide) (by decide) ?_
        refine r_iload_n rfl rfl ?_
        refine r_iret rfl rfl ?_
        exact ⟨rfl, rfl⟩
      · exact absurd hn h27
theorem ct_X11_beam_1 {d : Nat} {S T : am_S} {v : Int32} (hT : uI S 97 0 0 = T) (hv : -99 ≤ v ∧ v ≤ 99) : am_CT (d + 2) iX11_beam [.ref 97, .int 1, .int v] S (some (.int (gI T 97 10))) (uI T 97 10 v) := by
  refine am_CT_in mmX11_beam rfl rfl rfl ?_
  refine r_aload_n rfl rfl ?_
  refine r_iconst rfl ?_
  refine r_putI rfl rfl (by decide) (by decide) rfl ?_
  try rw [hT]
  refine r_iload_n rfl rfl ?_
  refine r_if_ne rfl (fun h6 => ?_) (fun h6 => ?_)
  · refine r_iload_n rfl rfl ?_
    refine r_iconst rfl ?_
    refine r_icmp_ne rfl (fun h53 => ?_) (fun h53 => ?_)
    · first | exact absurd h53 (by decide) | exact absurd (by decide) h53
    · refine r_iload_n rfl rfl ?_
      refine r_i2l rfl ?_
      refine r_ldc2_w rfl ?_
      refine r_ldc2_w rfl ?_
      refine r_callS rfl (by decide) ct_X11_in rfl rfl (am_cnt rfl) ?_
      refine r_if_ne rfl (fun h67 => ?_) (fun h67 => ?_)
      · refine r_aload_n rfl rfl ?_
        refine r_getI rfl rfl (by decide) (by decide) rfl ?_
        refine r_istore_n (L2 := [_, _, _, _]) rfl rfl ?_
        refine r_aload_n rfl rfl ?_
        refine r_iload_n rfl rfl ?_
        refine r_putI rfl rfl (by decide) (by decide) rfl ?_
        refine r_iload_n rfl rfl ?_
        refine r_iret rfl rfl ?_
        exact ⟨rfl, rfl⟩
      · simp only [b01_eq0, wl_m999, wg_m999, wl_m99, wg_m99, wl_m50, wg_m50, wl_m1, wg_m1, wl_0, wg_0, wl_1, wg_1, wl_2, wg_2, wl_3, wg_3, wl_4, wg_4, wl_6, wg_6, wl_9, wg_9, wl_10, wg_10, wl_11, wg_11, wl_20, wg_20, wl_48, wg_48, wl_50, wg_50, wl_57, wg_57, wl_99, wg_99, wl_100, wg_100, wl_199, wg_199, wl_222, wg_222, wl_999, wg_999, wl_9999, wg_9999, fa_wide_le] at h67
        exact absurd hv h67
  · first | exact absurd h6 (by decide) | exact absurd (by decide) h6
theorem ct_X11_beam_2 {d : Nat} {S T : am_S} {v : Int32} (hT : uI S 97 0 0 = T) (hv : 0 ≤ v ∧ v ≤ 10 - gI T 97 12) : am_CT (d + 2) iX11_beam [.ref 97, .int 2, .int v] S (some (.int (gI T 97 11))) (uI T 97 11 v) := by
  refine am_CT_in mmX11_beam rfl rfl rfl ?_
  refine r_aload_n rfl rfl ?_
  refine r_iconst rfl ?_
  refine r_putI rfl rfl (by decide) (by decide) rfl ?_
  try rw [hT]
  refine r_iload_n rfl rfl ?_
  refine r_if_ne rfl (fun h6 => ?_) (fun h6 => ?_)
  · refine r_iload_n rfl rfl ?_
    refine r_iconst rfl ?_
    refine r_icmp_ne rfl (fun h53 => ?_) (fun h53 => ?_)
    · refine r_iload_n rfl rfl ?_
      refine r_i2l rfl ?_
      refine r_ldc2_w rfl ?_
      refine r_ldc2_w rfl ?_
      refine r_callS rfl (by decide) ct_X11_in rfl rfl (am_cnt rfl) ?_
      refine r_if_eq rfl (fun h95 => ?_) (fun h95 => ?_)
      · exact absurd h95 (by decide)
      · refine r_iload_n rfl rfl ?_
        refine r_i2l rfl ?_
        refine r_lconst rfl ?_
        refine r_bipush rfl ?_
        refine r_iload_n rfl rfl ?_
        refine r_iconst rfl ?_
        refine r_icmp_ne rfl (fun h105 => ?_) (fun h105 => ?_)
        · first | exact absurd h105 (by decide) | exact absurd (by decide) h105
        · refine r_aload_n rfl rfl ?_
          refine r_getI rfl rfl (by decide) (by decide) rfl ?_
          refine r_goto rfl ?_
          refine r_isub rfl ?_
          refine r_i2l rfl ?_
          refine r_callS rfl (by decide) ct_X11_in rfl rfl (am_cnt rfl) ?_
          refine r_if_ne rfl (fun h124 => ?_) (fun h124 => ?_)
          · refine r_iload_n rfl rfl ?_
            refine r_iconst rfl ?_
            refine r_icmp_ne rfl (fun h131 => ?_) (fun h131 => ?_)
            · first | exact absurd h131 (by decide) | exact absurd (by decide) h131
            · refine r_aload_n rfl rfl ?_
              refine r_getI rfl rfl (by decide) (by decide) rfl ?_
              refine r_goto rfl ?_
              refine r_istore_n (L2 := [_, _, _, _]) rfl rfl ?_
              refine r_iload_n rfl rfl ?_
              refine r_iconst rfl ?_
              refine r_icmp_ne rfl (fun h148 => ?_) (fun h148 => ?_)
              · first | exact absurd h148 (by decide) | exact absurd (by decide) h148
              · refine r_aload_n rfl rfl ?_
                refine r_iload_n rfl rfl ?_
                refine r_putI rfl rfl (by decide) (by decide) rfl ?_
                refine r_goto rfl ?_
                refine r_iload_n rfl rfl ?_
                refine r_iret rfl rfl ?_
                exact ⟨rfl, rfl⟩
          · simp only [b01_eq0, wg_0, fa_wide_le] at h124
            exact absurd hv h124
    · first | exact absurd h53 (by decide) | exact absurd (by decide) h53
  · first | exact absurd h6 (by decide) | exact absurd (by decide) h6
theorem ct_X11_beam_3 {d : Nat} {S T : am_S} {v : Int32} (hT : uI S 97 0 0 = T) (hv : 0 ≤ v ∧ v ≤ 10 - gI T 97 11) : am_CT (d + 2) iX11_beam [.ref 97, .int 3, .int v] S (some (.int (gI T 97 12))) (uI T 97 12 v) := by
  refine am_CT_in mmX11_beam rfl rfl rfl ?_
  refine r_aload_n rfl rfl ?_
  refine r_iconst rfl ?_
  refine r_putI rfl rfl (by decide) (by decide) rfl ?_
  try rw [hT]
  refine r_iload_n rfl rfl ?_
  refine r_if_ne rfl (fun h6 => ?_) (fun h6 => ?_)
  · refine r_iload_n rfl rfl ?_
    refine r_iconst rfl ?_
    refine r_icmp_ne rfl (fun h53 => ?_) (fun h53 => ?_)
    · refine r_iload_n rfl rfl ?_
      refine r_i2l rfl ?_
      refine r_ldc2_w rfl ?_
      refine r_ldc2_w rfl ?_
      refine r_callS rfl (by decide) ct_X11_in rfl rfl (am_cnt rfl) ?_
      refine r_if_eq rfl (fun h95 => ?_) (fun h95 => ?_)
      · exact absurd h95 (by decide)
      · refine r_iload_n rfl rfl ?_
        refine r_i2l rfl ?_
        refine r_lconst rfl ?_
        refine r_bipush rfl ?_
        refine r_iload_n rfl rfl ?_
        refine r_iconst rfl ?_
        refine r_icmp_ne rfl (fun h105 => ?_) (fun h105 => ?_)
        · refine r_aload_n rfl rfl ?_
          refine r_getI rfl rfl (by decide) (by decide) rfl ?_
          refine r_isub rfl ?_
          refine r_i2l rfl ?_
          refine r_callS rfl (by decide) ct_X11_in rfl rfl (am_cnt rfl) ?_
          refine r_if_ne rfl (fun h124 => ?_) (fun h124 => ?_)
          · refine r_iload_n rfl rfl ?_
            refine r_iconst rfl ?_
            refine r_icmp_ne rfl (fun h131 => ?_) (fun h131 => ?_)
            · refine r_aload_n rfl rfl ?_
              refine r_getI rfl rfl (by decide) (by decide) rfl ?_
              refine r_istore_n (L2 := [_, _, _, _]) rfl rfl ?_
              refine r_iload_n rfl rfl ?_
              refine r_iconst rfl ?_
              refine r_icmp_ne rfl (fun h148 => ?_) (fun h148 => ?_)
              · refine r_aload_n rfl rfl ?_
                refine r_iload_n rfl rfl ?_
                refine r_putI rfl rfl (by decide) (by decide) rfl ?_
                refine r_iload_n rfl rfl ?_
                refine r_iret rfl rfl ?_
                exact ⟨rfl, rfl⟩
              · first | exact absurd h148 (by decide) | exact absurd (by decide) h148
            · first | exact absurd h131 (by decide) | exact absurd (by decide) h131
          · simp only [b01_eq0, wg_0, fa_wide_le] at h124
            exact absurd hv h124
        · first | exact absurd h105 (by decide) | exact absurd (by decide) h105
    · first | exact absurd h53 (by decide) | exact absurd (by decide) h53
  · first | exact absurd h6 (by decide) | exact absurd (by decide) h6
theorem ct_X11_seed {d : Nat} {S T : am_S} {v : Int32} (hT : uI S 97 0 0 = T) : am_CT (d + 1) iX11_seed [.ref 97, .int v] S (some (.int (gI T 97 24))) (uI T 97 24 v) := by
  refine am_CT_in mmX11_seed rfl rfl rfl ?_
  refine r_aload_n rfl rfl ?_
  refine r_iconst rfl ?_
  refine r_putI rfl rfl (by decide) (by decide) rfl ?_
  try rw [hT]
  refine r_aload_n rfl rfl ?_
  refine r_getI rfl rfl (by decide) (by decide) rfl ?_
  refine r_istore_n (L2 := [_, _, _]) rfl rfl ?_
  refine r_aload_n rfl rfl ?_
  refine r_iload_n rfl rfl ?_
  refine r_putI rfl rfl (by decide) (by decide) rfl ?_
  refine r_iload_n rfl rfl ?_
  refine r_iret rfl rfl ?_
  exact ⟨rfl, rfl⟩
theorem ct_X11_end_ok {d : Nat} {S T : am_S} {n : Int32} (hT : uI S 97 0 0 = T) (h : 0 ≤ n ∧ n ≤ gI T 97 17) : am_CT (d + 2) iX11_end [.ref 97, .int n] S (some (.int 1)) (uI T 97 17 n) := by
  refine am_CT_in mmX11_end rfl rfl rfl ?_
  refine r_aload_n rfl rfl ?_
  refine r_iconst rfl ?_
  refine r_putI rfl rfl (by decide) (by decide) rfl ?_
  try rw [hT]
  refine r_iload_n rfl rfl ?_
  refine r_i2l rfl ?_
  refine r_lconst rfl ?_
  refine r_aload_n rfl rfl ?_
  refine r_getI rfl rfl (by decide) (by decide) rfl ?_
  refine r_i2l rfl ?_
  refine r_callS rfl (by decide) ct_X11_in rfl rfl (am_cnt rfl) ?_
  refine r_if_ne rfl (fun h16 => ?_) (fun h16 => ?_)
  · refine r_aload_n rfl rfl ?_
    refine r_iload_n rfl rfl ?_
    refine r_putI rfl rfl (by decide) (by decide) rfl ?_
    refine r_iconst rfl ?_
    refine r_zret rfl rfl (by simp) ?_
    exact ⟨rfl, rfl⟩
  · simp only [b01_eq0, wg_0, fa_wide_le] at h16
    exact absurd h h16
theorem ct_X11_end_no {d : Nat} {S T : am_S} {n : Int32} (hT : uI S 97 0 0 = T) (h : ¬ (0 ≤ n ∧ n ≤ gI T 97 17)) : am_CT (d + 2) iX11_end [.ref 97, .int n] S (some (.int 0)) (T) := by
  refine am_CT_in mmX11_end rfl rfl rfl ?_
  refine r_aload_n rfl rfl ?_
  refine r_iconst rfl ?_
  refine r_putI rfl rfl (by decide) (by decide) rfl ?_
  try rw [hT]
  refine r_iload_n rfl rfl ?_
  refine r_i2l rfl ?_
  refine r_lconst rfl ?_
  refine r_aload_n rfl rfl ?_
  refine r_getI rfl rfl (by decide) (by decide) rfl ?_
  refine r_i2l rfl ?_
  refine r_callS rfl (by decide) ct_X11_in rfl rfl (am_cnt rfl) ?_
  refine r_if_ne rfl (fun h16 => ?_) (fun h16 => ?_)
  · simp only [b01_eq0, wg_0, fa_wide_le] at h16
    exact absurd h h16
  · refine r_iconst rfl ?_
    refine r_zret rfl rfl (by simp) ?_
    exact ⟨rfl, rfl⟩
theorem ct_X11_weight_no {d : Nat} {S T : am_S} {i j v : Int32} (hT : uI S 97 0 0 = T) (h : ¬ ((0 ≤ i ∧ i ≤ 2) ∧ (0 ≤ j ∧ j ≤ 2) ∧ (0 ≤ v ∧ v ≤ 99))) : am_CT (d + 2) iX11_weight [.ref 97, .int i, .int j, .int v] S (some (.int (-1))) (T) := by
  refine am_CT_in mmX11_weight rfl rfl rfl ?_
  refine r_aload_n rfl rfl ?_
  refine r_iconst rfl ?_
  refine r_putI rfl rfl (by decide) (by decide) rfl ?_
  try rw [hT]
  refine r_iload_n rfl rfl ?_
  refine r_i2l rfl ?_
  refine r_lconst rfl ?_
  refine r_ldc2_w rfl ?_
  refine r_callS rfl (by decide) ct_X11_in rfl rfl (am_cnt rfl) ?_
  refine r_if_eq rfl (fun h14 => ?_) (fun h14 => ?_)
  · refine r_iconst rfl ?_
    refine r_iret rfl rfl ?_
    exact ⟨rfl, rfl⟩
  · refine r_iload_n rfl rfl ?_
    refine r_i2l rfl ?_
    refine r_lconst rfl ?_
    refine r_ldc2_w rfl ?_
    refine r_callS rfl (by decide) ct_X11_in rfl rfl (am_cnt rfl) ?_
    refine r_if_eq rfl (fun h26 => ?_) (fun h26 => ?_)
    · refine r_iconst rfl ?_
      refine r_iret rfl rfl ?_
      exact ⟨rfl, rfl⟩
    · refine r_iload_n rfl rfl ?_
      refine r_i2l rfl ?_
      refine r_lconst rfl ?_
      refine r_ldc2_w rfl ?_
      refine r_callS rfl (by decide) ct_X11_in rfl rfl (am_cnt rfl) ?_
      refine r_if_ne rfl (fun h38 => ?_) (fun h38 => ?_)
      · exfalso
        simp only [b01_eq0, wl_m999, wg_m999, wl_m99, wg_m99, wl_m50, wg_m50, wl_m1, wg_m1, wl_0, wg_0, wl_1, wg_1, wl_2, wg_2, wl_3, wg_3, wl_4, wg_4, wl_6, wg_6, wl_9, wg_9, wl_10, wg_10, wl_11, wg_11, wl_20, wg_20, wl_48, wg_48, wl_50, wg_50, wl_57, wg_57, wl_99, wg_99, wl_100, wg_100, wl_199, wg_199, wl_222, wg_222, wl_999, wg_999, wl_9999, wg_9999, fa_wide_le] at *
        grind
      · refine r_iconst rfl ?_
        refine r_iret rfl rfl ?_
        exact ⟨rfl, rfl⟩
theorem ct_X11_weight_ok {d : Nat} {S T : am_S} {i j : Nat} {v : Int32} (hT : uI S 97 0 0 = T) (hi : i < 3) (hj : j < 3) (hv : 0 ≤ v ∧ v ≤ 99) : am_CT (d + 2) iX11_weight [.ref 97, .int (nI i), .int (nI j), .int v] S (some (.int (gI T 119 (i * 3 + j)))) (uI T 119 (i * 3 + j) v) := by
  refine am_CT_in mmX11_weight rfl rfl rfl ?_
  have b0 : 3 * nI i + nI j = nI (i * 3 + j) := by rw [Int32.mul_comm]; exact (congrArg (fun z => z + nI j) (pk_mul i 3)).trans (nI_add _ _)
  have b1 : (3 * nI i + nI j).toNatClampNeg = i * 3 + j := by rw [b0, nI_clamp (by omega)]
  have s1 : 0 ≤ 3 * nI i + nI j := by rw [b0]; exact nI_pos' (by omega)
  have s2 : 3 * nI i + nI j < Int32.ofNat 9 := by rw [b0]; exact nI_lt (by omega) (by omega)
  have c1 : 0 ≤ nI i ∧ nI i ≤ 2 := ⟨nI_pos' (by omega), nI_le (b := 2) (by omega) (by omega)⟩
  have c2 : 0 ≤ nI j ∧ nI j ≤ 2 := ⟨nI_pos' (by omega), nI_le (b := 2) (by omega) (by omega)⟩
  refine r_aload_n rfl rfl ?_
  refine r_iconst rfl ?_
  refine r_putI rfl rfl (by decide) (by decide) rfl ?_
  try rw [hT]
  refine r_iload_n rfl rfl ?_
  refine r_i2l rfl ?_
  refine r_lconst rfl ?_
  refine r_ldc2_w rfl ?_
  refine r_callS rfl (by decide) ct_X11_in rfl rfl (am_cnt rfl) ?_
  refine r_if_eq rfl (fun h14 => ?_) (fun h14 => ?_)
  · simp only [b01_eq0, wl_m999, wg_m999, wl_m99, wg_m99, wl_m50, wg_m50, wl_m1, wg_m1, wl_0, wg_0, wl_1, wg_1, wl_2, wg_2, wl_3, wg_3, wl_4, wg_4, wl_6, wg_6, wl_9, wg_9, wl_10, wg_10, wl_11, wg_11, wl_20, wg_20, wl_48, wg_48, wl_50, wg_50, wl_57, wg_57, wl_99, wg_99, wl_100, wg_100, wl_199, wg_199, wl_222, wg_222, wl_999, wg_999, wl_9999, wg_9999, fa_wide_le] at h14
    exact absurd c1 h14
  · refine r_iload_n rfl rfl ?_
    refine r_i2l rfl ?_
    refine r_lconst rfl ?_
    refine r_ldc2_w rfl ?_
    refine r_callS rfl (by decide) ct_X11_in rfl rfl (am_cnt rfl) ?_
    refine r_if_eq rfl (fun h26 => ?_) (fun h26 => ?_)
    · simp only [b01_eq0, wl_m999, wg_m999, wl_m99, wg_m99, wl_m50, wg_m50, wl_m1, wg_m1, wl_0, wg_0, wl_1, wg_1, wl_2, wg_2, wl_3, wg_3, wl_4, wg_4, wl_6, wg_6, wl_9, wg_9, wl_10, wg_10, wl_11, wg_11, wl_20, wg_20, wl_48, wg_48, wl_50, wg_50, wl_57, wg_57, wl_99, wg_99, wl_100, wg_100, wl_199, wg_199, wl_222, wg_222, wl_999, wg_999, wl_9999, wg_9999, fa_wide_le] at h26
      exact absurd c2 h26
    · refine r_iload_n rfl rfl ?_
      refine r_i2l rfl ?_
      refine r_lconst rfl ?_
      refine r_ldc2_w rfl ?_
      refine r_callS rfl (by decide) ct_X11_in rfl rfl (am_cnt rfl) ?_
      refine r_if_ne rfl (fun h38 => ?_) (fun h38 => ?_)
      · refine r_aload_n rfl rfl ?_
        refine r_getC rfl rfl (by decide) (by decide) rfl ?_
        refine r_iconst rfl ?_
        refine r_iload_n rfl rfl ?_
        refine r_imul rfl ?_
        refine r_iload_n rfl rfl ?_
        refine r_iadd rfl ?_
        refine r_iald rfl rfl (by first | decide | assumption) (by first | exact s1 | exact s2) (by first | exact s1 | exact s2) ?_
        refine r_istore (L2 := [_, _, _, _, _]) rfl rfl ?_
        refine r_aload_n rfl rfl ?_
        refine r_getC rfl rfl (by decide) (by decide) rfl ?_
        refine r_iconst rfl ?_
        refine r_iload_n rfl rfl ?_
        refine r_imul rfl ?_
        refine r_iload_n rfl rfl ?_
        refine r_iadd rfl ?_
        refine r_iload_n rfl rfl ?_
        refine r_iast rfl rfl (by first | decide | assumption) (by first | exact s1 | exact s2) (by first | exact s1 | exact s2) ?_
        refine r_iload rfl rfl ?_
        refine r_iret rfl rfl ?_
        rw [b1]
        exact ⟨rfl, rfl⟩
      · simp only [b01_eq0, wl_m999, wg_m999, wl_m99, wg_m99, wl_m50, wg_m50, wl_m1, wg_m1, wl_0, wg_0, wl_1, wg_1, wl_2, wg_2, wl_3, wg_3, wl_4, wg_4, wl_6, wg_6, wl_9, wg_9, wl_10, wg_10, wl_11, wg_11, wl_20, wg_20, wl_48, wg_48, wl_50, wg_50, wl_57, wg_57, wl_99, wg_99, wl_100, wg_100, wl_199, wg_199, wl_222, wg_222, wl_999, wg_999, wl_9999, wg_9999, fa_wide_le] at h38
        exact absurd hv h38
theorem ct_X11_fog_no {d : Nat} {S T : am_S} {p a b c : Int32} (hT : uI S 97 0 0 = T) (hz : 0 ≤ gI T 97 3) (h : ¬ (hasM T p ∧ (0 ≤ a ∧ a ≤ 10) ∧ (0 ≤ b ∧ b ≤ 10) ∧ (0 ≤ c ∧ c ≤ 10) ∧ a + b + c ≤ 10)) : am_CT (d + 3) iX11_fog [.ref 97, .int p, .int a, .int b, .int c] S (some (.int 0)) (T) := by
  refine am_CT_in mmX11_fog rfl rfl rfl ?_
  refine r_aload_n rfl rfl ?_
  refine r_iconst rfl ?_
  refine r_putI rfl rfl (by decide) (by decide) rfl ?_
  try rw [hT]
  refine r_aload_n rfl rfl ?_
  refine r_iload_n rfl rfl ?_
  refine r_callV rfl (ct_X11_isPerson hz) rfl rfl rfl (by decide) rfl (am_cnt rfl) ?_
  refine r_if_eq rfl (fun h10 => ?_) (fun h10 => ?_)
  · refine r_iconst rfl ?_
    refine r_zret rfl rfl (by simp) ?_
    exact ⟨rfl, rfl⟩
  · refine r_iload_n rfl rfl ?_
    refine r_i2l rfl ?_
    refine r_lconst rfl ?_
    refine r_ldc2_w rfl ?_
    refine r_callS rfl (by decide) ct_X11_in rfl rfl (am_cnt rfl) ?_
    refine r_if_eq rfl (fun h22 => ?_) (fun h22 => ?_)
    · refine r_iconst rfl ?_
      refine r_zret rfl rfl (by simp) ?_
      exact ⟨rfl, rfl⟩
    · refine r_iload_n rfl rfl ?_
      refine r_i2l rfl ?_
      refine r_lconst rfl ?_
      refine r_ldc2_w rfl ?_
      refine r_callS rfl (by decide) ct_X11_in rfl rfl (am_cnt rfl) ?_
      refine r_if_eq rfl (fun h34 => ?_) (fun h34 => ?_)
      · refine r_iconst rfl ?_
        refine r_zret rfl rfl (by simp) ?_
        exact ⟨rfl, rfl⟩
      · refine r_iload rfl rfl ?_
        refine r_i2l rfl ?_
        refine r_lconst rfl ?_
        refine r_ldc2_w rfl ?_
        refine r_callS rfl (by decide) ct_X11_in rfl rfl (am_cnt rfl) ?_
        refine r_if_eq rfl (fun h47 => ?_) (fun h47 => ?_)
        · refine r_iconst rfl ?_
          refine r_zret rfl rfl (by simp) ?_
          exact ⟨rfl, rfl⟩
        · refine r_iload_n rfl rfl ?_
          refine r_iload_n rfl rfl ?_
          refine r_iadd rfl ?_
          refine r_iload rfl rfl ?_
          refine r_iadd rfl ?_
          refine r_bipush rfl ?_
          refine r_icmp_le rfl (fun h58 => ?_) (fun h58 => ?_)
          · exfalso
            simp only [b01_eq0, wl_m999, wg_m999, wl_m99, wg_m99, wl_m50, wg_m50, wl_m1, wg_m1, wl_0, wg_0, wl_1, wg_1, wl_2, wg_2, wl_3, wg_3, wl_4, wg_4, wl_6, wg_6, wl_9, wg_9, wl_10, wg_10, wl_11, wg_11, wl_20, wg_20, wl_48, wg_48, wl_50, wg_50, wl_57, wg_57, wl_99, wg_99, wl_100, wg_100, wl_199, wg_199, wl_222, wg_222, wl_999, wg_999, wl_9999, wg_9999, fa_wide_le] at *
            grind
          · refine r_iconst rfl ?_
            refine r_zret rfl rfl (by simp) ?_
            exact ⟨rfl, rfl⟩
theorem ct_X11_fog_ok {d : Nat} {S T : am_S} {p a b c : Int32} (hT : uI S 97 0 0 = T) (hz : 0 ≤ gI T 97 3) (hz6 : gI T 97 3 ≤ 6) (h : hasM T p) (ha : 0 ≤ a ∧ a ≤ 10) (hb : 0 ≤ b ∧ b ≤ 10) (hc : 0 ≤ c ∧ c ≤ 10) (hs : a + b + c ≤ 10) : am_CT (d + 3) iX11_fog [.ref 97, .int p, .int a, .int b, .int c] S (some (.int 1)) (uI (uI (uI T 121 p.toNatClampNeg a) 122 p.toNatClampNeg b) 123 p.toNatClampNeg c) := by
  refine am_CT_in mmX11_fog rfl rfl rfl ?_
  have h1 := hasM6 hz6 h
  refine r_aload_n rfl rfl ?_
  refine r_iconst rfl ?_
  refine r_putI rfl rfl (by decide) (by decide) rfl ?_
  try rw [hT]
  refine r_aload_n rfl rfl ?_
  refine r_iload_n rfl rfl ?_
  refine r_callV rfl (ct_X11_isPerson hz) rfl rfl rfl (by decide) rfl (am_cnt rfl) ?_
  refine r_if_eq rfl (fun h10 => ?_) (fun h10 => ?_)
  · exact absurd (h) (b01_eq0.mp h10)
  · refine r_iload_n rfl rfl ?_
    refine r_i2l rfl ?_
    refine r_lconst rfl ?_
    refine r_ldc2_w rfl ?_
    refine r_callS rfl (by decide) ct_X11_in rfl rfl (am_cnt rfl) ?_
    refine r_if_eq rfl (fun h22 => ?_) (fun h22 => ?_)
    · simp only [b01_eq0, wl_m999, wg_m999, wl_m99, wg_m99, wl_m50, wg_m50, wl_m1, wg_m1, wl_0, wg_0, wl_1, wg_1, wl_2, wg_2, wl_3, wg_3, wl_4, wg_4, wl_6, wg_6, wl_9, wg_9, wl_10, wg_10, wl_11, wg_11, wl_20, wg_20, wl_48, wg_48, wl_50, wg_50, wl_57, wg_57, wl_99, wg_99, wl_100, wg_100, wl_199, wg_199, wl_222, wg_222, wl_999, wg_999, wl_9999, wg_9999, fa_wide_le] at h22
      exact absurd ha h22
    · refine r_iload_n rfl rfl ?_
      refine r_i2l rfl ?_
      refine r_lconst rfl ?_
      refine r_ldc2_w rfl ?_
      refine r_callS rfl (by decide) ct_X11_in rfl rfl (am_cnt rfl) ?_
      refine r_if_eq rfl (fun h34 => ?_) (fun h34 => ?_)
      · simp only [b01_eq0, wl_m999, wg_m999, wl_m99, wg_m99, wl_m50, wg_m50, wl_m1, wg_m1, wl_0, wg_0, wl_1, wg_1, wl_2, wg_2, wl_3, wg_3, wl_4, wg_4, wl_6, wg_6, wl_9, wg_9, wl_10, wg_10, wl_11, wg_11, wl_20, wg_20, wl_48, wg_48, wl_50, wg_50, wl_57, wg_57, wl_99, wg_99, wl_100, wg_100, wl_199, wg_199, wl_222, wg_222, wl_999, wg_999, wl_9999, wg_9999, fa_wide_le] at h34
        exact absurd hb h34
      · refine r_iload rfl rfl ?_
        refine r_i2l rfl ?_
        refine r_lconst rfl ?_
        refine r_ldc2_w rfl ?_
        refine r_callS rfl (by decide) ct_X11_in rfl rfl (am_cnt rfl) ?_
        refine r_if_eq rfl (fun h47 => ?_) (fun h47 => ?_)
        · simp only [b01_eq0, wl_m999, wg_m999, wl_m99, wg_m99, wl_m50, wg_m50, wl_m1, wg_m1, wl_0, wg_0, wl_1, wg_1, wl_2, wg_2, wl_3, wg_3, wl_4, wg_4, wl_6, wg_6, wl_9, wg_9, wl_10, wg_10, wl_11, wg_11, wl_20, wg_20, wl_48, wg_48, wl_50, wg_50, wl_57, wg_57, wl_99, wg_99, wl_100, wg_100, wl_199, wg_199, wl_222, wg_222, wl_999, wg_999, wl_9999, wg_9999, fa_wide_le] at h47
          exact absurd hc h47
        · refine r_iload_n rfl rfl ?_
          refine r_iload_n rfl rfl ?_
          refine r_iadd rfl ?_
          refine r_iload rfl rfl ?_
          refine r_iadd rfl ?_
          refine r_bipush rfl ?_
          refine r_icmp_le rfl (fun h58 => ?_) (fun h58 => ?_)
          · refine r_aload_n rfl rfl ?_
            refine r_getC rfl rfl (by decide) (by decide) rfl ?_
            refine r_iload_n rfl rfl ?_
            refine r_iload_n rfl rfl ?_
            refine r_iast rfl rfl (by first | decide | assumption) (by first | exact h.1 | exact h1.1) (by first | exact h.1 | exact h1.1) ?_
            refine r_aload_n rfl rfl ?_
            refine r_getC rfl rfl (by decide) (by decide) rfl ?_
            refine r_iload_n rfl rfl ?_
            refine r_iload_n rfl rfl ?_
            refine r_iast rfl rfl (by first | decide | assumption) (by first | exact h.1 | exact h1.1) (by first | exact h.1 | exact h1.1) ?_
            refine r_aload_n rfl rfl ?_
            refine r_getC rfl rfl (by decide) (by decide) rfl ?_
            refine r_iload_n rfl rfl ?_
            refine r_iload rfl rfl ?_
            refine r_iast rfl rfl (by first | decide | assumption) (by first | exact h.1 | exact h1.1) (by first | exact h.1 | exact h1.1) ?_
            refine r_iconst rfl ?_
            refine r_zret rfl rfl (by simp) ?_
            exact ⟨rfl, rfl⟩
          · exact absurd hs h58
theorem max1 (x : Int32) : (if (1 : Int32) < x then x else 1) = lateI x := by unfold lateI; grind
theorem ct_X11_lateOf {d : Nat} {S : am_S} {p : Int32} (h : 0 ≤ p ∧ p < 6) : am_CT (d + 1) iX11_lateOf [.ref 97, .int p] S (some (.int (lateI (gI S 99 p.toNatClampNeg)))) (S) := by
  refine am_CT_in mmX11_lateOf rfl rfl rfl ?_
  refine r_iconst rfl ?_
  refine r_aload_n rfl rfl ?_
  refine r_getC rfl rfl (by decide) (by decide) rfl ?_
  refine r_iload_n rfl rfl ?_
  refine r_iald rfl rfl (by first | decide | assumption) (by first | exact h.1 | exact h.2) (by first | exact h.1 | exact h.2) ?_
  refine r_max rfl (am_cnt rfl) ?_
  refine r_iret rfl rfl ?_
  exact ⟨by simp only [lateI]; grind, rfl⟩
theorem ct_X11_indexOf {d : Nat} {S : am_S} {k p m : Int32} : am_CT (d + 1) iX11_indexOf [.int k, .int p, .int m] S (some (.int ((k * 6 + p) * 200 + m))) (S) := by
  refine am_CT_in mmX11_indexOf rfl rfl rfl ?_
  refine r_iload_n rfl rfl ?_
  refine r_bipush rfl ?_
  refine r_imul rfl ?_
  refine r_iload_n rfl rfl ?_
  refine r_iadd rfl ?_
  refine r_sipush rfl ?_
  refine r_imul rfl ?_
  refine r_iload_n rfl rfl ?_
  refine r_iadd rfl ?_
  refine r_iret rfl rfl ?_
  exact ⟨rfl, rfl⟩
/-- what lies in the row of what went by -/
def gAt (k p m : Nat) : Nat := (k * 6 + p) * 200 + m
theorem gAt_eq {k p m : Nat} : (nI k * 6 + nI p) * 200 + nI m = nI (gAt k p m) := by
  rw [show nI k * 6 = nI (k * 6) from pk_mul k 6, nI_add, show nI (k * 6 + p) * 200 = nI ((k * 6 + p) * 200) from pk_mul _ 200, nI_add]
  rfl
def mWas (S : am_S) (k p : Nat) (m : Int32) : Int32 := if m < 0 then 0 else gI S 110 (gAt k p m.toNatClampNeg)
theorem ct_X11_wasOf {d : Nat} {S : am_S} {k p : Nat} {m : Int32} (hk : k < 4) (hp : p < 6) (hm : m < 200) : am_CT (d + 2) iX11_wasOf [.ref 97, .int (nI k), .int (nI p), .int m] S (some (.int (mWas S k p m))) (S) := by
  refine am_CT_in mmX11_wasOf rfl rfl rfl ?_
  have e0 : 0 ≤ m → (nI k * 6 + nI p) * 200 + m = nI (gAt k p m.toNatClampNeg) := fun h => by
    rw [← gAt_eq, ← nI_cl h]
  have hb : 0 ≤ m → gAt k p m.toNatClampNeg < 4800 := fun h => by
    have := cl_lt (n := 200) h hm (by decide)
    unfold gAt
    omega
  have s1 : 0 ≤ m → 0 ≤ (nI k * 6 + nI p) * 200 + m := fun h => by rw [e0 h]; have := hb h; exact nI_pos' (by omega)
  have s2 : 0 ≤ m → (nI k * 6 + nI p) * 200 + m < Int32.ofNat 4800 := fun h => by rw [e0 h]; have := hb h; exact nI_lt (by omega) (by omega)
  refine r_iload_n rfl rfl ?_
  refine r_if_ge rfl (fun h1 => ?_) (fun h1 => ?_)
  · have h0 : 0 ≤ m := by grind
    refine r_aload_n rfl rfl ?_
    refine r_getC rfl rfl (by decide) (by decide) rfl ?_
    refine r_iload_n rfl rfl ?_
    refine r_iload_n rfl rfl ?_
    refine r_iload_n rfl rfl ?_
    refine r_callS rfl (by decide) ct_X11_indexOf rfl rfl (am_cnt rfl) ?_
    refine r_iald rfl rfl (by first | decide | assumption) (by first | exact s1 h0 | exact s2 h0) (by first | exact s1 h0 | exact s2 h0) ?_
    refine r_iret rfl rfl ?_
    first | (rw [mWas, if_pos h0]; exact ⟨rfl, rfl⟩) | (rw [mWas, if_neg (Int32.not_lt.mpr h0), e0 h0, nI_clamp (by have := hb h0; omega)]; exact ⟨rfl, rfl⟩)
  · have h0 : m < 0 := by grind
    refine r_iconst rfl ?_
    refine r_goto rfl ?_
    refine r_iret rfl rfl ?_
    first | (rw [mWas, if_pos h0]; exact ⟨rfl, rfl⟩) | (rw [mWas, if_neg (Int32.not_lt.mpr h0), e0 h0, nI_clamp (by have := hb h0; omega)]; exact ⟨rfl, rfl⟩)
def mPlace (S : am_S) (m : Int32) : Int32 := if m < 0 then gI S 97 9 else gI S 109 m.toNatClampNeg
theorem ct_X11_placeAt {d : Nat} {S : am_S} {m : Int32} (hm : m < 201) : am_CT (d + 1) iX11_placeAt [.ref 97, .int m] S (some (.int (mPlace S m))) (S) := by
  refine am_CT_in mmX11_placeAt rfl rfl rfl ?_
  refine r_iload_n rfl rfl ?_
  refine r_if_ge rfl (fun h1 => ?_) (fun h1 => ?_)
  · refine r_aload_n rfl rfl ?_
    refine r_getC rfl rfl (by decide) (by decide) rfl ?_
    refine r_iload_n rfl rfl ?_
    refine r_iald rfl rfl (by first | decide | assumption) (by grind) (by grind) ?_
    refine r_iret rfl rfl ?_
    exact ⟨by grind [mPlace], rfl⟩
  · refine r_aload_n rfl rfl ?_
    refine r_getI rfl rfl (by decide) (by decide) rfl ?_
    refine r_goto rfl ?_
    refine r_iret rfl rfl ?_
    exact ⟨by grind [mPlace], rfl⟩
def mHear (S : am_S) (nr sd : Int32) : Nat → Int32
  | 0 => 0
  | n + 1 => if fBit nr (nI n) then mHear S nr sd n + mWas S 1 n sd else mHear S nr sd n + 0
theorem ct_X11_heardBy {d : Nat} {S : am_S} {n p : Nat} {m : Int32} (hn : gI S 97 3 = nI n) (hz : n ≤ 6) (hp : p < 6) (hm : m - lateI (gI S 99 p) < 200) : am_CT (d + 3) iX11_heardBy [.ref 97, .int (nI p), .int m] S (some (.int (mHear S (gI S 102 p) (m - lateI (gI S 99 p)) n))) (S) := by
  refine am_CT_in mmX11_heardBy rfl rfl rfl ?_
  have sp : 0 ≤ nI p ∧ nI p < 6 := ⟨nI_pos' (by omega), nI_lt (b := 6) hp (by omega)⟩
  have bp : (nI p).toNatClampNeg = p := nI_clamp (by omega)
  have hm2 : m - lateI (gI S 99 (nI p).toNatClampNeg) < 200 := by rw [bp]; exact hm
  have loop : ∀ (k : Nat) (j : Nat), (j ≤ n) → (n < j + k) → am_Ex (am_Call am_MT (d + 2)) mmX11_heardBy none (fun r1 G1 => r1 = (some (.int (mHear S (gI S 102 p) (m - lateI (gI S 99 p)) n))) ∧ G1 = am_H (S)) (fun _ _ _ _ _ _ => False) 5 [some (.ref 97), some (.int (nI p)), some (.int m), some (.int (mHear S (gI S 102 p) (m - lateI (gI S 99 p)) j)), some (.int (nI j))] [] (am_H (S)) 0 0 := by
    intro k
    induction k with
    | zero =>
      intro j h1 h2
      omega
    | succ k ih =>
      intro j h1 h2
      refine r_iload rfl rfl ?_
      refine r_aload_n rfl rfl ?_
      refine r_getI rfl rfl (by decide) (by decide) rfl ?_
      refine r_icmp_ge rfl (fun h11 => ?_) (fun h11 => ?_)
      · rw [hn, nI_leI (by omega) (by omega)] at h11
        obtain rfl : j = n := by omega
        refine r_iload_n rfl rfl ?_
        refine r_iret rfl rfl ?_
        exact ⟨rfl, rfl⟩
      · rw [hn, nI_leI (by omega) (by omega)] at h11
        have hj : j < 6 := by omega
        refine r_iload_n rfl rfl ?_
        refine r_aload_n rfl rfl ?_
        refine r_getC rfl rfl (by decide) (by decide) rfl ?_
        refine r_iload_n rfl rfl ?_
        refine r_iald rfl rfl (by first | decide | assumption) (by first | exact sp.1 | exact sp.2) (by first | exact sp.1 | exact sp.2) ?_
        refine r_iload rfl rfl ?_
        refine r_callS rfl (by decide) ct_X11_has rfl rfl (am_cnt rfl) ?_
        refine r_if_eq rfl (fun h26 => ?_) (fun h26 => ?_)
        · rw [b01_eq0, bp] at h26
          have e := ih (j + 1) (by omega) (by omega)
          rw [show mHear S (gI S 102 p) (m - lateI (gI S 99 p)) (j + 1) = _ from if_neg h26] at e
          refine r_iconst rfl ?_
          refine r_iadd rfl ?_
          refine r_istore_n (L2 := [_, _, _, _, _]) rfl rfl ?_
          refine r_iinc (L2 := [_, _, _, _, _]) rfl rfl rfl ?_
          refine r_goto rfl ?_
          rw [nI_1]
          first | exact e | (rw [bp]; exact e)
        · rw [b01_eq0, bp] at h26
          have e := ih (j + 1) (by omega) (by omega)
          rw [show mHear S (gI S 102 p) (m - lateI (gI S 99 p)) (j + 1) = _ from if_pos (Decidable.not_not.mp h26)] at e
          refine r_aload_n rfl rfl ?_
          refine r_iconst rfl ?_
          refine r_iload rfl rfl ?_
          refine r_iload_n rfl rfl ?_
          refine r_aload_n rfl rfl ?_
          refine r_iload_n rfl rfl ?_
          refine r_callV rfl (ct_X11_lateOf sp) rfl rfl rfl (by decide) rfl (am_cnt rfl) ?_
          refine r_isub rfl ?_
          refine r_callV rfl (ct_X11_wasOf (k := 1) (by omega) hj hm2) rfl rfl rfl (by decide) rfl (am_cnt rfl) ?_
          refine r_goto rfl ?_
          refine r_iadd rfl ?_
          refine r_istore_n (L2 := [_, _, _, _, _]) rfl rfl ?_
          refine r_iinc (L2 := [_, _, _, _, _]) rfl rfl rfl ?_
          refine r_goto rfl ?_
          rw [nI_1]
          first | exact e | (rw [bp]; exact e)
  refine r_iconst rfl ?_
  refine r_istore_n (L2 := [_, _, _, _, _]) rfl rfl ?_
  refine r_iconst rfl ?_
  refine r_istore (L2 := [_, _, _, _, _]) rfl rfl ?_
  exact loop (n + 1) 0 (by omega) (by omega)
def mLook (S : am_S) (n p : Nat) (m : Int32) : Nat → Int32 :=
  upd (upd (upd (upd (upd (upd (gI S 108) 0 m) 1 (gI S 97 10)) 2 (mPlace S (m - gI S 100 p))) 3 (mPlace S (m - gI S 100 p) - mPlace S (m - gI S 100 p - 1))) 4 (mHear S (gI S 102 p) (m - lateI (gI S 99 p)) n)) 5 (mWas S 0 p (m - 1))
theorem mPlace_r {S : am_S} {g : Nat → Int32} {m : Int32} : mPlace (rI S 108 g) m = mPlace S m := by
  unfold mPlace
  rw [gI_rI_ne (by decide), gI_rI_ne (by decide)]
theorem mWas_r {S : am_S} {g : Nat → Int32} {k p : Nat} {m : Int32} : mWas (rI S 108 g) k p m = mWas S k p m := by
  unfold mWas
  rw [gI_rI_ne (by decide)]
theorem mHear_r {S : am_S} {g : Nat → Int32} {nr sd : Int32} : ∀ n, mHear (rI S 108 g) nr sd n = mHear S nr sd n
  | 0 => rfl
  | n + 1 => by
    unfold mHear
    rw [mHear_r n, mWas_r]
theorem ct_X11_looks {d : Nat} {S : am_S} {n p : Nat} {m : Int32} (hn : gI S 97 3 = nI n) (hz : n ≤ 6) (hp : p < 6) (hm : m < 200) (hs : m - gI S 100 p < 201) (hs1 : m - gI S 100 p - 1 < 201) (hl : m - lateI (gI S 99 p) < 200) (h1 : m - 1 < 200) : am_CT (d + 4) iX11_looks [.ref 97, .int (nI p), .int m] S (none) (rI S 108 (mLook S n p m)) := by
  refine am_CT_in mmX11_looks rfl rfl rfl ?_
  have sp : 0 ≤ nI p ∧ nI p < 6 := ⟨nI_pos' (by omega), nI_lt (b := 6) hp (by omega)⟩
  have bp : (nI p).toNatClampNeg = p := nI_clamp (by omega)
  have hn2 : ∀ g, gI (rI S 108 g) 97 3 = nI n := fun g => by rw [gI_rI_ne (by decide), hn]
  have hs2 : ∀ g, m - gI (rI S 108 g) 100 (nI p).toNatClampNeg - 1 < 201 := fun g => by rw [gI_rI_ne (by decide), bp]; exact hs1
  have hl2 : ∀ g, m - lateI (gI (rI S 108 g) 99 p) < 200 := fun g => by rw [gI_rI_ne (by decide)]; exact hl
  refine r_aload_n rfl rfl ?_
  refine r_iload_n rfl rfl ?_
  refine r_aload_n rfl rfl ?_
  refine r_getC rfl rfl (by decide) (by decide) rfl ?_
  refine r_iload_n rfl rfl ?_
  refine r_iald rfl rfl (by first | decide | assumption) (by first | exact sp.1 | exact sp.2 | decide) (by first | exact sp.1 | exact sp.2 | decide) ?_
  refine r_isub rfl ?_
  refine r_callV rfl (ct_X11_placeAt (by rw [bp]; exact hs)) rfl rfl rfl (by decide) rfl (am_cnt rfl) ?_
  refine r_istore_n (L2 := [_, _, _, _]) rfl rfl ?_
  refine r_aload_n rfl rfl ?_
  refine r_getC rfl rfl (by decide) (by decide) rfl ?_
  refine r_iconst rfl ?_
  refine r_iload_n rfl rfl ?_
  refine r_iast rfl rfl (by first | decide | assumption) (by first | exact sp.1 | exact sp.2 | decide) (by first | exact sp.1 | exact sp.2 | decide) ?_
  rw [uI_rI]
  refine r_aload_n rfl rfl ?_
  refine r_getC rfl rfl (by decide) (by decide) rfl ?_
  refine r_iconst rfl ?_
  refine r_aload_n rfl rfl ?_
  refine r_getI rfl rfl (by decide) (by decide) rfl ?_
  refine r_iast rfl rfl (by first | decide | assumption) (by first | exact sp.1 | exact sp.2 | decide) (by first | exact sp.1 | exact sp.2 | decide) ?_
  rw [uI_rIs]
  refine r_aload_n rfl rfl ?_
  refine r_getC rfl rfl (by decide) (by decide) rfl ?_
  refine r_iconst rfl ?_
  refine r_iload_n rfl rfl ?_
  refine r_iast rfl rfl (by first | decide | assumption) (by first | exact sp.1 | exact sp.2 | decide) (by first | exact sp.1 | exact sp.2 | decide) ?_
  rw [uI_rIs]
  refine r_aload_n rfl rfl ?_
  refine r_getC rfl rfl (by decide) (by decide) rfl ?_
  refine r_iconst rfl ?_
  refine r_iload_n rfl rfl ?_
  refine r_aload_n rfl rfl ?_
  refine r_iload_n rfl rfl ?_
  refine r_aload_n rfl rfl ?_
  refine r_getC rfl rfl (by decide) (by decide) rfl ?_
  refine r_iload_n rfl rfl ?_
  refine r_iald rfl rfl (by first | decide | assumption) (by first | exact sp.1 | exact sp.2 | decide) (by first | exact sp.1 | exact sp.2 | decide) ?_
  refine r_isub rfl ?_
  refine r_iconst rfl ?_
  refine r_isub rfl ?_
  refine r_callV rfl (ct_X11_placeAt (hs2 _)) rfl rfl rfl (by decide) rfl (am_cnt rfl) ?_
  refine r_isub rfl ?_
  refine r_iast rfl rfl (by first | decide | assumption) (by first | exact sp.1 | exact sp.2 | decide) (by first | exact sp.1 | exact sp.2 | decide) ?_
  rw [uI_rIs]
  refine r_aload_n rfl rfl ?_
  refine r_getC rfl rfl (by decide) (by decide) rfl ?_
  refine r_iconst rfl ?_
  refine r_aload_n rfl rfl ?_
  refine r_iload_n rfl rfl ?_
  refine r_iload_n rfl rfl ?_
  refine r_callV rfl (ct_X11_heardBy (hn2 _) hz hp (hl2 _)) rfl rfl rfl (by decide) rfl (am_cnt rfl) ?_
  refine r_iast rfl rfl (by first | decide | assumption) (by first | exact sp.1 | exact sp.2 | decide) (by first | exact sp.1 | exact sp.2 | decide) ?_
  rw [uI_rIs]
  refine r_aload_n rfl rfl ?_
  refine r_getC rfl rfl (by decide) (by decide) rfl ?_
  refine r_iconst rfl ?_
  refine r_aload_n rfl rfl ?_
  refine r_iconst rfl ?_
  refine r_iload_n rfl rfl ?_
  refine r_iload_n rfl rfl ?_
  refine r_iconst rfl ?_
  refine r_isub rfl ?_
  refine r_callV rfl (ct_X11_wasOf (k := 0) (by omega) hp h1) rfl rfl rfl (by decide) rfl (am_cnt rfl) ?_
  refine r_iast rfl rfl (by first | decide | assumption) (by first | exact sp.1 | exact sp.2 | decide) (by first | exact sp.1 | exact sp.2 | decide) ?_
  refine r_vret rfl ?_
  refine ⟨rfl, ?_⟩
  rw [uI_rIs]
  simp (disch := decide) only [bp, mPlace_r, mHear_r, gI_rI_ne, mWas_r]
  rfl
theorem ct_X11_count_0 {d : Nat} {S T : am_S} (hT : uI S 97 0 0 = T) : am_CT (d + 2) iX11_count [.ref 97, .int 0] S (some (.int (gI T 97 3))) (T) := by
  refine am_CT_in mmX11_count rfl rfl rfl ?_
  refine r_aload_n rfl rfl ?_
  refine r_iconst rfl ?_
  refine r_putI rfl rfl (by decide) (by decide) rfl ?_
  try rw [hT]
  refine r_iload_n rfl rfl ?_
  refine r_tableIn rfl (by decide) (by decide) rfl rfl ?_
  refine r_aload_n rfl rfl ?_
  refine r_getI rfl rfl (by decide) (by decide) rfl ?_
  refine r_iret rfl rfl ?_
  exact ⟨rfl, rfl⟩
theorem ct_X11_count_1 {d : Nat} {S T : am_S} (hT : uI S 97 0 0 = T) : am_CT (d + 2) iX11_count [.ref 97, .int 1] S (some (.int (gI T 97 23))) (T) := by
  refine am_CT_in mmX11_count rfl rfl rfl ?_
  refine r_aload_n rfl rfl ?_
  refine r_iconst rfl ?_
  refine r_putI rfl rfl (by decide) (by decide) rfl ?_
  try rw [hT]
  refine r_iload_n rfl rfl ?_
  refine r_tableIn rfl (by decide) (by decide) rfl rfl ?_
  refine r_aload_n rfl rfl ?_
  refine r_getI rfl rfl (by decide) (by decide) rfl ?_
  refine r_iret rfl rfl ?_
  exact ⟨rfl, rfl⟩
theorem ct_X11_count_3 {d : Nat} {S T : am_S} (hT : uI S 97 0 0 = T) : am_CT (d + 2) iX11_count [.ref 97, .int 3] S (some (.int (gI T 97 10))) (T) := by
  refine am_CT_in mmX11_count rfl rfl rfl ?_
  refine r_aload_n rfl rfl ?_
  refine r_iconst rfl ?_
  refine r_putI rfl rfl (by decide) (by decide) rfl ?_
  try rw [hT]
  refine r_iload_n rfl rfl ?_
  refine r_tableIn rfl (by decide) (by decide) rfl rfl ?_
  refine r_aload_n rfl rfl ?_
  refine r_getI rfl rfl (by decide) (by decide) rfl ?_
  refine r_iret rfl rfl ?_
  exact ⟨rfl, rfl⟩
theorem ct_X11_count_4 {d : Nat} {S T : am_S} (hT : uI S 97 0 0 = T) : am_CT (d + 2) iX11_count [.ref 97, .int 4] S (some (.int (gI T 97 1))) (T) := by
  refine am_CT_in mmX11_count rfl rfl rfl ?_
  refine r_aload_n rfl rfl ?_
  refine r_iconst rfl ?_
  refine r_putI rfl rfl (by decide) (by decide) rfl ?_
  try rw [hT]
  refine r_iload_n rfl rfl ?_
  refine r_tableIn rfl (by decide) (by decide) rfl rfl ?_
  refine r_aload_n rfl rfl ?_
  refine r_getI rfl rfl (by decide) (by decide) rfl ?_
  refine r_iret rfl rfl ?_
  exact ⟨rfl, rfl⟩
theorem ct_X11_count_5 {d : Nat} {S T : am_S} (hT : uI S 97 0 0 = T) : am_CT (d + 2) iX11_count [.ref 97, .int 5] S (some (.int (gI T 97 17))) (T) := by
  refine am_CT_in mmX11_count rfl rfl rfl ?_
  refine r_aload_n rfl rfl ?_
  refine r_iconst rfl ?_
  refine r_putI rfl rfl (by decide) (by decide) rfl ?_
  try rw [hT]
  refine r_iload_n rfl rfl ?_
  refine r_tableIn rfl (by decide) (by decide) rfl rfl ?_
  refine r_aload_n rfl rfl ?_
  refine r_getI rfl rfl (by decide) (by decide) rfl ?_
  refine r_iret rfl rfl ?_
  exact ⟨rfl, rfl⟩
theorem ct_X11_count_no {d : Nat} {S T : am_S} {w : Int32} (hT : uI S 97 0 0 = T) (h : w.toInt < 0 ∨ 5 < w.toInt) : am_CT (d + 2) iX11_count [.ref 97, .int w] S (some (.int (-1))) (T) := by
  refine am_CT_in mmX11_count rfl rfl rfl ?_
  refine r_aload_n rfl rfl ?_
  refine r_iconst rfl ?_
  refine r_putI rfl rfl (by decide) (by decide) rfl ?_
  try rw [hT]
  refine r_iload_n rfl rfl ?_
  refine r_tableOut rfl h rfl ?_
  refine r_iconst rfl ?_
  refine r_iret rfl rfl ?_
  exact ⟨rfl, rfl⟩
def mBits (f : Nat → Int32) : Nat → Int32
  | 0 => 0
  | n + 1 => mBits f n ||| (if f n ≤ 0 then (0 : Int32) else 1 <<< (nI n &&& 31))
theorem ct_X11_rulesTold {d : Nat} {S : am_S} : am_CT (d + 1) iX11_rulesTold [.ref 97] S (some (.int (mBits (gI S 105) 12))) (S) := by
  refine am_CT_in mmX11_rulesTold rfl rfl rfl ?_
  have loop : ∀ (k : Nat) (j : Nat), (j ≤ 12) → (12 < j + k) → am_Ex (am_Call am_MT (d + 0)) mmX11_rulesTold none (fun r1 G1 => r1 = (some (.int (mBits (gI S 105) 12))) ∧ G1 = am_H (S)) (fun _ _ _ _ _ _ => False) 4 [some (.ref 97), some (.int (mBits (gI S 105) j)), some (.int (nI j))] [] (am_H (S)) 0 0 := by
    intro k
    induction k with
    | zero =>
      intro j h1 h2
      omega
    | succ k ih =>
      intro j h1 h2
      have b1 : (nI j).toNatClampNeg = j := nI_clamp (by omega)
      have s1 : 0 ≤ nI j := nI_pos' (by omega)
      refine r_iload_n rfl rfl ?_
      refine r_bipush rfl ?_
      refine r_icmp_ge rfl (fun h7 => ?_) (fun h7 => ?_)
      · rw [show (12 : Int32) = nI 12 from rfl, nI_leI (by omega) (by omega)] at h7
        obtain rfl : j = 12 := by omega
        refine r_iload_n rfl rfl ?_
        refine r_iret rfl rfl ?_
        exact ⟨rfl, rfl⟩
      · rw [show (12 : Int32) = nI 12 from rfl, nI_leI (by omega) (by omega)] at h7
        have s2 : nI j < Int32.ofNat 14 := nI_lt (by omega) (by omega)
        refine r_iload_n rfl rfl ?_
        refine r_aload_n rfl rfl ?_
        refine r_getC rfl rfl (by decide) (by decide) rfl ?_
        refine r_iload_n rfl rfl ?_
        refine r_iald rfl rfl (by first | decide | assumption) (by first | exact s1 | exact s2) (by first | exact s1 | exact s2) ?_
        refine r_if_le rfl (fun h17 => ?_) (fun h17 => ?_)
        · rw [b1] at h17
          have e := ih (j + 1) (by omega) (by omega)
          rw [show mBits (gI S 105) (j + 1) = mBits (gI S 105) j ||| 0 from by rw [mBits, if_pos h17]] at e
          refine r_iconst rfl ?_
          refine r_ior rfl ?_
          refine r_istore_n (L2 := [_, _, _]) rfl rfl ?_
          refine r_iinc (L2 := [_, _, _]) rfl rfl rfl ?_
          refine r_goto rfl ?_
          rw [nI_1]
          exact e
        · rw [b1] at h17
          have e := ih (j + 1) (by omega) (by omega)
          rw [show mBits (gI S 105) (j + 1) = mBits (gI S 105) j ||| (1 <<< (nI j &&& 31)) from by rw [mBits, if_neg h17]] at e
          refine r_iconst rfl ?_
          refine r_iload_n rfl rfl ?_
          refine r_ishl rfl ?_
          refine r_goto rfl ?_
          refine r_ior rfl ?_
          refine r_istore_n (L2 := [_, _, _]) rfl rfl ?_
          refine r_iinc (L2 := [_, _, _]) rfl rfl rfl ?_
          refine r_goto rfl ?_
          rw [nI_1]
          exact e
  refine r_iconst rfl ?_
  refine r_istore_n (L2 := [_, _, _]) rfl rfl ?_
  refine r_iconst rfl ?_
  refine r_istore_n (L2 := [_, _, _]) rfl rfl ?_
  exact loop 13 0 (by omega) (by omega)
theorem ct_X11_count_2 {d : Nat} {S T : am_S} (hT : uI S 97 0 0 = T) : am_CT (d + 2) iX11_count [.ref 97, .int 2] S (some (.int (mBits (gI T 105) 12))) (T) := by
  refine am_CT_in mmX11_count rfl rfl rfl ?_
  refine r_aload_n rfl rfl ?_
  refine r_iconst rfl ?_
  refine r_putI rfl rfl (by decide) (by decide) rfl ?_
  try rw [hT]
  refine r_iload_n rfl rfl ?_
  refine r_tableIn rfl (by decide) (by decide) rfl rfl ?_
  refine r_aload_n rfl rfl ?_
  refine r_callV rfl ct_X11_rulesTold rfl rfl rfl (by decide) rfl (am_cnt rfl) ?_
  refine r_iret rfl rfl ?_
  exact ⟨rfl, rfl⟩
theorem ct_X11_place_ok {d : Nat} {S T : am_S} {m : Int32} (hT : uI S 97 0 0 = T) (h : 0 ≤ m ∧ m ≤ gI T 97 23) (hn : gI T 97 23 ≤ 199) : am_CT (d + 2) iX11_place [.ref 97, .int m] S (some (.int (gI T 109 m.toNatClampNeg))) (T) := by
  refine am_CT_in mmX11_place rfl rfl rfl ?_
  refine r_aload_n rfl rfl ?_
  refine r_iconst rfl ?_
  refine r_putI rfl rfl (by decide) (by decide) rfl ?_
  try rw [hT]
  refine r_iload_n rfl rfl ?_
  refine r_i2l rfl ?_
  refine r_lconst rfl ?_
  refine r_aload_n rfl rfl ?_
  refine r_getI rfl rfl (by decide) (by decide) rfl ?_
  refine r_i2l rfl ?_
  refine r_callS rfl (by decide) ct_X11_in rfl rfl (am_cnt rfl) ?_
  refine r_if_ne rfl (fun h16 => ?_) (fun h16 => ?_)
  · refine r_aload_n rfl rfl ?_
    refine r_getC rfl rfl (by decide) (by decide) rfl ?_
    refine r_iload_n rfl rfl ?_
    refine r_iald rfl rfl (by first | decide | assumption) (by grind) (by grind) ?_
    refine r_iret rfl rfl ?_
    exact ⟨rfl, rfl⟩
  · simp only [b01_eq0, wg_0, fa_wide_le] at h16
    exact absurd h h16
theorem ct_X11_place_no {d : Nat} {S T : am_S} {m : Int32} (hT : uI S 97 0 0 = T) (h : ¬ (0 ≤ m ∧ m ≤ gI T 97 23)) : am_CT (d + 2) iX11_place [.ref 97, .int m] S (some (.int 0)) (uI T 97 0 1) := by
  refine am_CT_in mmX11_place rfl rfl rfl ?_
  refine r_aload_n rfl rfl ?_
  refine r_iconst rfl ?_
  refine r_putI rfl rfl (by decide) (by decide) rfl ?_
  try rw [hT]
  refine r_iload_n rfl rfl ?_
  refine r_i2l rfl ?_
  refine r_lconst rfl ?_
  refine r_aload_n rfl rfl ?_
  refine r_getI rfl rfl (by decide) (by decide) rfl ?_
  refine r_i2l rfl ?_
  refine r_callS rfl (by decide) ct_X11_in rfl rfl (am_cnt rfl) ?_
  refine r_if_ne rfl (fun h16 => ?_) (fun h16 => ?_)
  · simp only [b01_eq0, wg_0, fa_wide_le] at h16
    exact absurd h h16
  · refine r_aload_n rfl rfl ?_
    refine r_callV rfl ct_X11_refuse rfl rfl rfl (by decide) rfl (am_cnt rfl) ?_
    refine r_iret rfl rfl ?_
    exact ⟨rfl, rfl⟩
theorem ct_X11_row_ok {d : Nat} {S T : am_S} {i : Int32} (hT : uI S 97 0 0 = T) (h : 0 ≤ i ∧ i < gI T 97 1) (hn : gI T 97 1 ≤ 16) : am_CT (d + 2) iX11_row [.ref 97, .int i] S (some (.long (gJ T 98 i.toNatClampNeg))) (T) := by
  refine am_CT_in mmX11_row rfl rfl rfl ?_
  refine r_aload_n rfl rfl ?_
  refine r_iconst rfl ?_
  refine r_putI rfl rfl (by decide) (by decide) rfl ?_
  try rw [hT]
  refine r_iload_n rfl rfl ?_
  refine r_i2l rfl ?_
  refine r_lconst rfl ?_
  refine r_aload_n rfl rfl ?_
  refine r_getI rfl rfl (by decide) (by decide) rfl ?_
  refine r_iconst rfl ?_
  refine r_isub rfl ?_
  refine r_i2l rfl ?_
  refine r_callS rfl (by decide) ct_X11_in rfl rfl (am_cnt rfl) ?_
  refine r_if_ne rfl (fun h18 => ?_) (fun h18 => ?_)
  · refine r_aload_n rfl rfl ?_
    refine r_getC rfl rfl (by decide) (by decide) rfl ?_
    refine r_iload_n rfl rfl ?_
    refine r_lald rfl rfl (by first | decide | assumption) (by grind) (by grind) ?_
    refine r_lret rfl ?_
    exact ⟨rfl, rfl⟩
  · simp only [b01_eq0, wg_0, fa_wide_le] at h18
    exact absurd h (by grind)
theorem ct_X11_row_no {d : Nat} {S T : am_S} {i : Int32} (hT : uI S 97 0 0 = T) (h : ¬ (0 ≤ i ∧ i < gI T 97 1)) (hn : 0 ≤ gI T 97 1) : am_CT (d + 2) iX11_row [.ref 97, .int i] S (some (.long 0)) (uI T 97 0 1) := by
  refine am_CT_in mmX11_row rfl rfl rfl ?_
  refine r_aload_n rfl rfl ?_
  refine r_iconst rfl ?_
  refine r_putI rfl rfl (by decide) (by decide) rfl ?_
  try rw [hT]
  refine r_iload_n rfl rfl ?_
  refine r_i2l rfl ?_
  refine r_lconst rfl ?_
  refine r_aload_n rfl rfl ?_
  refine r_getI rfl rfl (by decide) (by decide) rfl ?_
  refine r_iconst rfl ?_
  refine r_isub rfl ?_
  refine r_i2l rfl ?_
  refine r_callS rfl (by decide) ct_X11_in rfl rfl (am_cnt rfl) ?_
  refine r_if_ne rfl (fun h18 => ?_) (fun h18 => ?_)
  · simp only [b01_eq0, wg_0, fa_wide_le] at h18
    exact absurd h18 (by grind)
  · refine r_aload_n rfl rfl ?_
    refine r_iconst rfl ?_
    refine r_putI rfl rfl (by decide) (by decide) rfl ?_
    refine r_lconst rfl ?_
    refine r_lret rfl ?_
    exact ⟨rfl, rfl⟩
