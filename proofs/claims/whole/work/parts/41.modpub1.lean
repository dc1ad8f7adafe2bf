/-! The reference's calls that set and read. -/
theorem ct_X11_person_ok {d : Nat} {S : am_S} {n : Nat} {l s t : Int32} (hn : gI S 97 3 = nI n) (hz : n < 6) (hl : 0 ≤ l ∧ l ≤ 20) (hs : 0 ≤ s ∧ s ≤ 20) (ht : 0 ≤ t ∧ t ≤ 9) : am_CT (d + 2) iX11_person [.ref 97, .int l, .int s, .int t] S (some (.int (nI n))) (uI (uI (uI (uI (uI (uI S 97 0 0) 99 n l) 100 n s) 101 n t) 121 n 10) 97 3 (nI (n + 1))) := by
  refine am_CT_in mmX11_person rfl rfl rfl ?_
  have s1 : 0 ≤ gI S 97 3 := by rw [hn]; exact nI_pos' (by omega)
  have s2 : gI S 97 3 < 6 := by rw [hn]; exact nI_lt (b := 6) (by omega) (by omega)
  have b1 : (gI S 97 3).toNatClampNeg = n := by rw [hn, nI_clamp (by omega)]
  have b9 : (nI n).toNatClampNeg = n := nI_clamp (by omega)
  have c1 : ¬ gI S 97 3 = 6 := fun z => by rw [z] at s2; exact absurd s2 (by decide)
  refine r_aload_n rfl rfl ?_
  refine r_iconst rfl ?_
  refine r_putI rfl rfl (by decide) (by decide) rfl ?_
  try rw [hT]
  refine r_iload_n rfl rfl ?_
  refine r_i2l rfl ?_
  refine r_lconst rfl ?_
  refine r_ldc2_w rfl ?_
  refine r_callS rfl (by decide) ct_X11_in rfl rfl (am_cnt rfl) ?_
  refine r_if_eq rfl (fun h14 => ?_) (fun h14 => ?_)
  · simp only [b01_eq0, wl_m999, wg_m999, wl_m99, wg_m99, wl_m50, wg_m50, wl_m1, wg_m1, wl_0, wg_0, wl_1, wg_1, wl_2, wg_2, wl_3, wg_3, wl_4, wg_4, wl_6, wg_6, wl_9, wg_9, wl_10, wg_10, wl_11, wg_11, wl_20, wg_20, wl_48, wg_48, wl_50, wg_50, wl_57, wg_57, wl_99, wg_99, wl_100, wg_100, wl_199, wg_199, wl_222, wg_222, wl_999, wg_999, wl_9999, wg_9999, fa_wide_le] at h14
    exact absurd hl h14
  · refine r_iload_n rfl rfl ?_
    refine r_i2l rfl ?_
    refine r_lconst rfl ?_
    refine r_ldc2_w rfl ?_
    refine r_callS rfl (by decide) ct_X11_in rfl rfl (am_cnt rfl) ?_
    refine r_if_eq rfl (fun h26 => ?_) (fun h26 => ?_)
    · simp only [b01_eq0, wl_m999, wg_m999, wl_m99, wg_m99, wl_m50, wg_m50, wl_m1, wg_m1, wl_0, wg_0, wl_1, wg_1, wl_2, wg_2, wl_3, wg_3, wl_4, wg_4, wl_6, wg_6, wl_9, wg_9, wl_10, wg_10, wl_11, wg_11, wl_20, wg_20, wl_48, wg_48, wl_50, wg_50, wl_57, wg_57, wl_99, wg_99, wl_100, wg_100, wl_199, wg_199, wl_222, wg_222, wl_999, wg_999, wl_9999, wg_9999, fa_wide_le] at h26
      exact absurd hs h26
    · refine r_iload_n rfl rfl ?_
      refine r_i2l rfl ?_
      refine r_lconst rfl ?_
      refine r_ldc2_w rfl ?_
      refine r_callS rfl (by decide) ct_X11_in rfl rfl (am_cnt rfl) ?_
      refine r_if_eq rfl (fun h38 => ?_) (fun h38 => ?_)
      · simp only [b01_eq0, wl_m999, wg_m999, wl_m99, wg_m99, wl_m50, wg_m50, wl_m1, wg_m1, wl_0, wg_0, wl_1, wg_1, wl_2, wg_2, wl_3, wg_3, wl_4, wg_4, wl_6, wg_6, wl_9, wg_9, wl_10, wg_10, wl_11, wg_11, wl_20, wg_20, wl_48, wg_48, wl_50, wg_50, wl_57, wg_57, wl_99, wg_99, wl_100, wg_100, wl_199, wg_199, wl_222, wg_222, wl_999, wg_999, wl_9999, wg_9999, fa_wide_le] at h38
        exact absurd ht h38
      · refine r_aload_n rfl rfl ?_
        refine r_getI rfl rfl (by decide) (by decide) rfl ?_
        refine r_bipush rfl ?_
        refine r_icmp_ne rfl (fun h47 => ?_) (fun h47 => ?_)
        · refine r_aload_n rfl rfl ?_
          refine r_getC rfl rfl (by decide) (by decide) rfl ?_
          refine r_aload_n rfl rfl ?_
          refine r_getI rfl rfl (by decide) (by decide) rfl ?_
          refine r_iload_n rfl rfl ?_
          refine r_iast rfl rfl (by first | decide | assumption) (by first | exact s1 | exact s2) (by first | exact s1 | exact s2) ?_
          refine r_aload_n rfl rfl ?_
          refine r_getC rfl rfl (by decide) (by decide) rfl ?_
          refine r_aload_n rfl rfl ?_
          refine r_getI rfl rfl (by decide) (by decide) rfl ?_
          refine r_iload_n rfl rfl ?_
          refine r_iast rfl rfl (by first | decide | assumption) (by first | exact s1 | exact s2) (by first | exact s1 | exact s2) ?_
          refine r_aload_n rfl rfl ?_
          refine r_getC rfl rfl (by decide) (by decide) rfl ?_
          refine r_aload_n rfl rfl ?_
          refine r_getI rfl rfl (by decide) (by decide) rfl ?_
          refine r_iload_n rfl rfl ?_
          refine r_iast rfl rfl (by first | decide | assumption) (by first | exact s1 | exact s2) (by first | exact s1 | exact s2) ?_
          refine r_aload_n rfl rfl ?_
          refine r_getC rfl rfl (by decide) (by decide) rfl ?_
          refine r_aload_n rfl rfl ?_
          refine r_getI rfl rfl (by decide) (by decide) rfl ?_
          refine r_bipush rfl ?_
          refine r_iast rfl rfl (by first | decide | assumption) (by first | exact s1 | exact s2) (by first | exact s1 | exact s2) ?_
          refine r_aload_n rfl rfl ?_
          refine r_dup rfl rfl ?_
          refine r_getI rfl rfl (by decide) (by decide) rfl ?_
          refine r_iconst rfl ?_
          refine r_iadd rfl ?_
          refine r_putI rfl rfl (by decide) (by decide) rfl ?_
          refine r_aload_n rfl rfl ?_
          refine r_getI rfl rfl (by decide) (by decide) rfl ?_
          refine r_iconst rfl ?_
          refine r_isub rfl ?_
          refine r_iret rfl rfl ?_
          have q0 : ∀ v, gI (uI S 97 0 v) 97 3 = nI n := fun v => by rw [gI_uI, if_pos rfl, if_neg (by decide), hn]
          have n1 : ¬ (99 = 97) ∧ ¬ (97 = 99) ∧ ¬ (97 = 100) ∧ ¬ (97 = 101) ∧ ¬ (97 = 121) := by decide
          simp only [gI_uI_ne n1.2.1, gI_uI_ne n1.2.2.1, gI_uI_ne n1.2.2.2.1, gI_uI_ne n1.2.2.2.2, q0, b9]
          refine ⟨?_, ?_⟩
          · rw [gI_uI, if_pos rfl, if_pos rfl, nI_1, nI_sub1]
          · rw [nI_1]
        · exact absurd h47 c1
theorem ct_X11_person_no {d : Nat} {S : am_S} {l s t : Int32} (h : ¬ (¬ gI S 97 3 = 6 ∧ (0 ≤ l ∧ l ≤ 20) ∧ (0 ≤ s ∧ s ≤ 20) ∧ (0 ≤ t ∧ t ≤ 9))) : am_CT (d + 2) iX11_person [.ref 97, .int l, .int s, .int t] S (some (.int (-1))) (uI S 97 0 0) := by
  refine am_CT_in mmX11_person rfl rfl rfl ?_
  refine r_aload_n rfl rfl ?_
  refine r_iconst rfl ?_
  refine r_putI rfl rfl (by decide) (by decide) rfl ?_
  try rw [hT]
  refine r_iload_n rfl rfl ?_
  refine r_i2l rfl ?_
  refine r_lconst rfl ?_
  refine r_ldc2_w rfl ?_
  refine r_callS rfl (by decide) ct_X11_in rfl rfl (am_cnt rfl) ?_
  refine r_if_eq rfl (fun h14 => ?_) (fun h14 => ?_)
  · refine r_iconst rfl ?_
    refine r_iret rfl rfl ?_
    exact ⟨rfl, rfl⟩
  · refine r_iload_n rfl rfl ?_
    refine r_i2l rfl ?_
    refine r_lconst rfl ?_
    refine r_ldc2_w rfl ?_
    refine r_callS rfl (by decide) ct_X11_in rfl rfl (am_cnt rfl) ?_
    refine r_if_eq rfl (fun h26 => ?_) (fun h26 => ?_)
    · refine r_iconst rfl ?_
      refine r_iret rfl rfl ?_
      exact ⟨rfl, rfl⟩
    · refine r_iload_n rfl rfl ?_
      refine r_i2l rfl ?_
      refine r_lconst rfl ?_
      refine r_ldc2_w rfl ?_
      refine r_callS rfl (by decide) ct_X11_in rfl rfl (am_cnt rfl) ?_
      refine r_if_eq rfl (fun h38 => ?_) (fun h38 => ?_)
      · refine r_iconst rfl ?_
        refine r_iret rfl rfl ?_
        exact ⟨rfl, rfl⟩
      · refine r_aload_n rfl rfl ?_
        refine r_getI rfl rfl (by decide) (by decide) rfl ?_
        refine r_bipush rfl ?_
        refine r_icmp_ne rfl (fun h47 => ?_) (fun h47 => ?_)
        · exfalso
          simp only [b01_eq0, wl_m999, wg_m999, wl_m99, wg_m99, wl_m50, wg_m50, wl_m1, wg_m1, wl_0, wg_0, wl_1, wg_1, wl_2, wg_2, wl_3, wg_3, wl_4, wg_4, wl_6, wg_6, wl_9, wg_9, wl_10, wg_10, wl_11, wg_11, wl_20, wg_20, wl_48, wg_48, wl_50, wg_50, wl_57, wg_57, wl_99, wg_99, wl_100, wg_100, wl_199, wg_199, wl_222, wg_222, wl_999, wg_999, wl_9999, wg_9999, fa_wide_le] at *
          rw [gI_uI, if_pos rfl, if_neg (by decide)] at h47
          grind
        · refine r_iconst rfl ?_
          refine r_iret rfl rfl ?_
          exact ⟨rfl, rfl⟩
theorem th_has {S : am_S} {v : Int32} {p : Int32} (h : hasM S p) : hasM (uI S 97 0 v) p := by
  unfold hasM
  rw [gI_uI, if_pos rfl, if_neg (by decide)]
  exact h
theorem th_hasN {S : am_S} {v : Int32} {p : Int32} : hasM (uI S 97 0 v) p ↔ hasM S p := by
  unfold hasM
  rw [gI_uI, if_pos rfl, if_neg (by decide)]
theorem th_twoN {S : am_S} {v : Int32} {p q : Int32} : twoM (uI S 97 0 v) p q ↔ twoM S p q := by
  unfold twoM
  rw [th_hasN, th_hasN]
theorem th_n {S : am_S} {v : Int32} : gI (uI S 97 0 v) 97 3 = gI S 97 3 := by rw [gI_uI, if_pos rfl, if_neg (by decide)]
theorem ct_X11_set_no {d : Nat} {S : am_S} {p w v : Int32} (hz : 0 ≤ gI S 97 3) (h : ¬ (hasM S p ∧ ((w = 0 ∧ 0 ≤ v ∧ v ≤ 20) ∨ (w = 1 ∧ 0 ≤ v ∧ v ≤ 20) ∨ (w = 2 ∧ 0 ≤ v ∧ v ≤ 9)))) : am_CT (d + 3) iX11_set [.ref 97, .int p, .int w, .int v] S (some (.int (-1))) (uI S 97 0 0) := by
  refine am_CT_in mmX11_set rfl rfl rfl ?_
  refine r_aload_n rfl rfl ?_
  refine r_iconst rfl ?_
  refine r_putI rfl rfl (by decide) (by decide) rfl ?_
  try rw [hT]
  refine r_aload_n rfl rfl ?_
  refine r_iload_n rfl rfl ?_
  refine r_callV rfl (ct_X11_isPerson (by rw [th_n]; exact hz)) rfl rfl rfl (by decide) rfl (am_cnt rfl) ?_
  refine r_if_eq rfl (fun h10 => ?_) (fun h10 => ?_)
  · refine r_iconst rfl ?_
    refine r_iret rfl rfl ?_
    exact ⟨rfl, rfl⟩
  · refine r_iload_n rfl rfl ?_
    refine r_i2l rfl ?_
    refine r_lconst rfl ?_
    refine r_ldc2_w rfl ?_
    refine r_callS rfl (by decide) ct_X11_in rfl rfl (am_cnt rfl) ?_
    refine r_if_eq rfl (fun h22 => ?_) (fun h22 => ?_)
    · refine r_iconst rfl ?_
      refine r_iret rfl rfl ?_
      exact ⟨rfl, rfl⟩
    · refine r_iload_n rfl rfl ?_
      refine r_i2l rfl ?_
      refine r_lconst rfl ?_
      refine r_iload_n rfl rfl ?_
      refine r_callS rfl (by decide) ct_X11_mostOf rfl rfl (am_cnt rfl) ?_
      refine r_i2l rfl ?_
      refine r_callS rfl (by decide) ct_X11_in rfl rfl (am_cnt rfl) ?_
      refine r_if_ne rfl (fun h36 => ?_) (fun h36 => ?_)
      · exfalso
        simp only [b01_eq0, th_hasN, wl_m999, wg_m999, wl_m99, wg_m99, wl_m50, wg_m50, wl_m1, wg_m1, wl_0, wg_0, wl_1, wg_1, wl_2, wg_2, wl_3, wg_3, wl_4, wg_4, wl_6, wg_6, wl_9, wg_9, wl_10, wg_10, wl_11, wg_11, wl_20, wg_20, wl_48, wg_48, wl_50, wg_50, wl_57, wg_57, wl_99, wg_99, wl_100, wg_100, wl_199, wg_199, wl_222, wg_222, wl_999, wg_999, wl_9999, wg_9999, fa_wide_le] at *
        grind
      · refine r_iconst rfl ?_
        refine r_iret rfl rfl ?_
        exact ⟨rfl, rfl⟩
theorem ct_X11_set_ok {d : Nat} {S : am_S} {p v : Int32} {w : Nat} (hz : 0 ≤ gI S 97 3) (hz6 : gI S 97 3 ≤ 6) (hp : hasM S p) (hw : w < 3) (hv : 0 ≤ v ∧ v ≤ (if w = 2 then 9 else 20)) : am_CT (d + 3) iX11_set [.ref 97, .int p, .int (nI w), .int v] S (some (.int (gI S (99 + w) p.toNatClampNeg))) (uI (uI S 97 0 0) (99 + w) p.toNatClampNeg v) := by
  refine am_CT_in mmX11_set rfl rfl rfl ?_
  have hl : p < 6 := Int32.lt_of_lt_of_le hp.2 hz6
  have hq10 : ¬ b01 (hasM (uI S 97 0 0) p) = 0 := by rw [b01_eq0, th_hasN]; exact fun z => z hp
  match w, hw with
  | 0, _ =>
    rw [if_neg (by decide)] at hv
    refine r_aload_n rfl rfl ?_
    refine r_iconst rfl ?_
    refine r_putI rfl rfl (by decide) (by decide) rfl ?_
    try rw [hT]
    refine r_aload_n rfl rfl ?_
    refine r_iload_n rfl rfl ?_
    refine r_callV rfl (ct_X11_isPerson (by rw [th_n]; exact hz)) rfl rfl rfl (by decide) rfl (am_cnt rfl) ?_
    refine r_if_eq rfl (fun h10 => ?_) (fun h10 => ?_)
    · exact absurd h10 hq10
    · refine r_iload_n rfl rfl ?_
      refine r_i2l rfl ?_
      refine r_lconst rfl ?_
      refine r_ldc2_w rfl ?_
      refine r_callS rfl (by decide) ct_X11_in rfl rfl (am_cnt rfl) ?_
      refine r_if_eq rfl (fun h22 => ?_) (fun h22 => ?_)
      · simp only [b01_eq0, wl_m999, wg_m999, wl_m99, wg_m99, wl_m50, wg_m50, wl_m1, wg_m1, wl_0, wg_0, wl_1, wg_1, wl_2, wg_2, wl_3, wg_3, wl_4, wg_4, wl_6, wg_6, wl_9, wg_9, wl_10, wg_10, wl_11, wg_11, wl_20, wg_20, wl_48, wg_48, wl_50, wg_50, wl_57, wg_57, wl_99, wg_99, wl_100, wg_100, wl_199, wg_199, wl_222, wg_222, wl_999, wg_999, wl_9999, wg_9999, fa_wide_le] at h22
        exact absurd (by decide) h22
      · refine r_iload_n rfl rfl ?_
        refine r_i2l rfl ?_
        refine r_lconst rfl ?_
        refine r_iload_n rfl rfl ?_
        refine r_callS rfl (by decide) ct_X11_mostOf rfl rfl (am_cnt rfl) ?_
        refine r_i2l rfl ?_
        refine r_callS rfl (by decide) ct_X11_in rfl rfl (am_cnt rfl) ?_
        refine r_if_ne rfl (fun h36 => ?_) (fun h36 => ?_)
        · refine r_iload_n rfl rfl ?_
          refine r_if_ne rfl (fun h42 => ?_) (fun h42 => ?_)
          · exact absurd rfl h42
          · refine r_aload_n rfl rfl ?_
            refine r_getC rfl rfl (by decide) (by decide) rfl ?_
            refine r_goto rfl ?_
            refine r_astore (L2 := [_, _, _, _, _, _]) rfl rfl ?_
            refine r_aload rfl rfl ?_
            refine r_iload_n rfl rfl ?_
            refine r_iald rfl rfl (by first | decide | assumption) (by first | exact hp.1 | exact hl) (by first | exact hp.1 | exact hl) ?_
            refine r_istore (L2 := [_, _, _, _, _, _]) rfl rfl ?_
            refine r_aload rfl rfl ?_
            refine r_iload_n rfl rfl ?_
            refine r_iload_n rfl rfl ?_
            refine r_iast rfl rfl (by first | decide | assumption) (by first | exact hp.1 | exact hl) (by first | exact hp.1 | exact hl) ?_
            refine r_iload rfl rfl ?_
            refine r_iret rfl rfl ?_
            exact ⟨by rw [gI_uI_ne (by decide)], rfl⟩
        · rw [if_neg (by decide)] at h36
          simp only [b01_eq0, wl_m999, wg_m999, wl_m99, wg_m99, wl_m50, wg_m50, wl_m1, wg_m1, wl_0, wg_0, wl_1, wg_1, wl_2, wg_2, wl_3, wg_3, wl_4, wg_4, wl_6, wg_6, wl_9, wg_9, wl_10, wg_10, wl_11, wg_11, wl_20, wg_20, wl_48, wg_48, wl_50, wg_50, wl_57, wg_57, wl_99, wg_99, wl_100, wg_100, wl_199, wg_199, wl_222, wg_222, wl_999, wg_999, wl_9999, wg_9999, fa_wide_le] at h36
          exact absurd hv h36
  | 1, _ =>
    rw [if_neg (by decide)] at hv
    refine r_aload_n rfl rfl ?_
    refine r_iconst rfl ?_
    refine r_putI rfl rfl (by decide) (by decide) rfl ?_
    try rw [hT]
    refine r_aload_n rfl rfl ?_
    refine r_iload_n rfl rfl ?_
    refine r_callV rfl (ct_X11_isPerson (by rw [th_n]; exact hz)) rfl rfl rfl (by decide) rfl (am_cnt rfl) ?_
    refine r_if_eq rfl (fun h10 => ?_) (fun h10 => ?_)
    · exact absurd h10 hq10
    · refine r_iload_n rfl rfl ?_
      refine r_i2l rfl ?_
      refine r_lconst rfl ?_
      refine r_ldc2_w rfl ?_
      refine r_callS rfl (by decide) ct_X11_in rfl rfl (am_cnt rfl) ?_
      refine r_if_eq rfl (fun h22 => ?_) (fun h22 => ?_)
      · simp only [b01_eq0, wl_m999, wg_m999, wl_m99, wg_m99, wl_m50, wg_m50, wl_m1, wg_m1, wl_0, wg_0, wl_1, wg_1, wl_2, wg_2, wl_3, wg_3, wl_4, wg_4, wl_6, wg_6, wl_9, wg_9, wl_10, wg_10, wl_11, wg_11, wl_20, wg_20, wl_48, wg_48, wl_50, wg_50, wl_57, wg_57, wl_99, wg_99, wl_100, wg_100, wl_199, wg_199, wl_222, wg_222, wl_999, wg_999, wl_9999, wg_9999, fa_wide_le] at h22
        exact absurd (by decide) h22
      · refine r_iload_n rfl rfl ?_
        refine r_i2l rfl ?_
        refine r_lconst rfl ?_
        refine r_iload_n rfl rfl ?_
        refine r_callS rfl (by decide) ct_X11_mostOf rfl rfl (am_cnt rfl) ?_
        refine r_i2l rfl ?_
        refine r_callS rfl (by decide) ct_X11_in rfl rfl (am_cnt rfl) ?_
        refine r_if_ne rfl (fun h36 => ?_) (fun h36 => ?_)
        · refine r_iload_n rfl rfl ?_
          refine r_if_ne rfl (fun h42 => ?_) (fun h42 => ?_)
          · refine r_iload_n rfl rfl ?_
            refine r_iconst rfl ?_
            refine r_icmp_ne rfl (fun h54 => ?_) (fun h54 => ?_)
            · exact absurd rfl h54
            · refine r_aload_n rfl rfl ?_
              refine r_getC rfl rfl (by decide) (by decide) rfl ?_
              refine r_goto rfl ?_
              refine r_astore (L2 := [_, _, _, _, _, _]) rfl rfl ?_
              refine r_aload rfl rfl ?_
              refine r_iload_n rfl rfl ?_
              refine r_iald rfl rfl (by first | decide | assumption) (by first | exact hp.1 | exact hl) (by first | exact hp.1 | exact hl) ?_
              refine r_istore (L2 := [_, _, _, _, _, _]) rfl rfl ?_
              refine r_aload rfl rfl ?_
              refine r_iload_n rfl rfl ?_
              refine r_iload_n rfl rfl ?_
              refine r_iast rfl rfl (by first | decide | assumption) (by first | exact hp.1 | exact hl) (by first | exact hp.1 | exact hl) ?_
              refine r_iload rfl rfl ?_
              refine r_iret rfl rfl ?_
              exact ⟨by rw [gI_uI_ne (by decide)], rfl⟩
          · exact absurd h42 (by decide)
        · rw [if_neg (by decide)] at h36
          simp only [b01_eq0, wl_m999, wg_m999, wl_m99, wg_m99, wl_m50, wg_m50, wl_m1, wg_m1, wl_0, wg_0, wl_1, wg_1, wl_2, wg_2, wl_3, wg_3, wl_4, wg_4, wl_6, wg_6, wl_9, wg_9, wl_10, wg_10, wl_11, wg_11, wl_20, wg_20, wl_48, wg_48, wl_50, wg_50, wl_57, wg_57, wl_99, wg_99, wl_100, wg_100, wl_199, wg_199, wl_222, wg_222, wl_999, wg_999, wl_9999, wg_9999, fa_wide_le] at h36
          exact absurd hv h36
  | 2, _ =>
    rw [if_pos (by decide)] at hv
    refine r_aload_n rfl rfl ?_
    refine r_iconst rfl ?_
    refine r_putI rfl rfl (by decide) (by decide) rfl ?_
    try rw [hT]
    refine r_aload_n rfl rfl ?_
    refine r_iload_n rfl rfl ?_
    refine r_callV rfl (ct_X11_isPerson (by rw [th_n]; exact hz)) rfl rfl rfl (by decide) rfl (am_cnt rfl) ?_
    refine r_if_eq rfl (fun h10 => ?_) (fun h10 => ?_)
    · exact absurd h10 hq10
    · refine r_iload_n rfl rfl ?_
      refine r_i2l rfl ?_
      refine r_lconst rfl ?_
      refine r_ldc2_w rfl ?_
      refine r_callS rfl (by decide) ct_X11_in rfl rfl (am_cnt rfl) ?_
      refine r_if_eq rfl (fun h22 => ?_) (fun h22 => ?_)
      · simp only [b01_eq0, wl_m999, wg_m999, wl_m99, wg_m99, wl_m50, wg_m50, wl_m1, wg_m1, wl_0, wg_0, wl_1, wg_1, wl_2, wg_2, wl_3, wg_3, wl_4, wg_4, wl_6, wg_6, wl_9, wg_9, wl_10, wg_10, wl_11, wg_11, wl_20, wg_20, wl_48, wg_48, wl_50, wg_50, wl_57, wg_57, wl_99, wg_99, wl_100, wg_100, wl_199, wg_199, wl_222, wg_222, wl_999, wg_999, wl_9999, wg_9999, fa_wide_le] at h22
        exact absurd (by decide) h22
      · refine r_iload_n rfl rfl ?_
        refine r_i2l rfl ?_
        refine r_lconst rfl ?_
        refine r_iload_n rfl rfl ?_
        refine r_callS rfl (by decide) ct_X11_mostOf rfl rfl (am_cnt rfl) ?_
        refine r_i2l rfl ?_
        refine r_callS rfl (by decide) ct_X11_in rfl rfl (am_cnt rfl) ?_
        refine r_if_ne rfl (fun h36 => ?_) (fun h36 => ?_)
        · refine r_iload_n rfl rfl ?_
          refine r_if_ne rfl (fun h42 => ?_) (fun h42 => ?_)
          · refine r_iload_n rfl rfl ?_
            refine r_iconst rfl ?_
            refine r_icmp_ne rfl (fun h54 => ?_) (fun h54 => ?_)
            · refine r_aload_n rfl rfl ?_
              refine r_getC rfl rfl (by decide) (by decide) rfl ?_
              refine r_astore (L2 := [_, _, _, _, _, _]) rfl rfl ?_
              refine r_aload rfl rfl ?_
              refine r_iload_n rfl rfl ?_
              refine r_iald rfl rfl (by first | decide | assumption) (by first | exact hp.1 | exact hl) (by first | exact hp.1 | exact hl) ?_
              refine r_istore (L2 := [_, _, _, _, _, _]) rfl rfl ?_
              refine r_aload rfl rfl ?_
              refine r_iload_n rfl rfl ?_
              refine r_iload_n rfl rfl ?_
              refine r_iast rfl rfl (by first | decide | assumption) (by first | exact hp.1 | exact hl) (by first | exact hp.1 | exact hl) ?_
              refine r_iload rfl rfl ?_
              refine r_iret rfl rfl ?_
              exact ⟨by rw [gI_uI_ne (by decide)], rfl⟩
            · exact absurd h54 (by decide)
          · exact absurd h42 (by decide)
        · rw [if_pos (by decide)] at h36
          simp only [b01_eq0, wl_m999, wg_m999, wl_m99, wg_m99, wl_m50, wg_m50, wl_m1, wg_m1, wl_0, wg_0, wl_1, wg_1, wl_2, wg_2, wl_3, wg_3, wl_4, wg_4, wl_6, wg_6, wl_9, wg_9, wl_10, wg_10, wl_11, wg_11, wl_20, wg_20, wl_48, wg_48, wl_50, wg_50, wl_57, wg_57, wl_99, wg_99, wl_100, wg_100, wl_199, wg_199, wl_222, wg_222, wl_999, wg_999, wl_9999, wg_9999, fa_wide_le] at h36
          exact absurd hv h36
