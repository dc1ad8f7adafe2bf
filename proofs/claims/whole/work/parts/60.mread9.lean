/-! Rule and pays of the reference. -/
theorem ct_X11_rule_neg {d : Nat} {S T : am_S} {n : Nat} {w : Int32} (hT : uI S 97 0 0 = T) (hn : gI T 97 17 = nI n) (hn2 : n < 1000) (h : ¬ (0 ≤ w ∧ w ≤ 11)) : am_CT (d + 6) iX11_rule [.ref 97, .int w] S (some (.int (-100))) (rdU T 10 n) := by
  refine am_CT_in mmX11_rule rfl rfl rfl ?_
  refine r_aload_n rfl rfl ?_
  refine r_iconst rfl ?_
  refine r_putI rfl rfl (by decide) (by decide) rfl ?_
  try rw [hT]
  refine r_aload_n rfl rfl ?_
  refine r_iload_n rfl rfl ?_
  refine r_i2l rfl ?_
  refine r_lconst rfl ?_
  refine r_ldc2_w rfl ?_
  refine r_callS rfl (by decide) ct_X11_in rfl rfl (am_cnt rfl) ?_
  refine r_if_eq rfl (fun h15 => ?_) (fun h15 => ?_)
  · refine r_iconst rfl ?_
    refine r_ldcS rfl ?_
    refine r_callV rfl (ct_X11_reads_neg (sg := 10) hn hn2 (by decide)) rfl rfl rfl (by decide) rfl (am_cnt rfl) ?_
    refine r_iret rfl rfl ?_
    exact ⟨rfl, rfl⟩
  · exfalso
    simp only [b01_eq0, wl_m999, wg_m999, wl_m99, wg_m99, wl_m50, wg_m50, wl_m1, wg_m1, wl_0, wg_0, wl_1, wg_1, wl_2, wg_2, wl_3, wg_3, wl_4, wg_4, wl_6, wg_6, wl_9, wg_9, wl_10, wg_10, wl_11, wg_11, wl_20, wg_20, wl_48, wg_48, wl_50, wg_50, wl_57, wg_57, wl_99, wg_99, wl_100, wg_100, wl_199, wg_199, wl_222, wg_222, wl_999, wg_999, wl_9999, wg_9999, fa_wide_le] at h15
    grind
theorem ct_X11_rule_ok {d : Nat} {S T : am_S} {tp : Nat → Nat} {n w : Nat} (hT : uI S 97 0 0 = T) (hn : gI T 97 17 = nI n) (hn2 : n < 1000) (ht : ∀ i, i < min 40 n → gI T 107 i = nI (tp i) ∧ tp i < 65536) (hw : w < 12) : am_CE (d + 666) iX11_rule [.ref 97, .int (nI w)] S (some (.int (rdA tp n 10))) (fun V => ∃ U, FrC (rdU T 10 n) U ∧ RdC U (rdP tp n 10).2 ∧ (if rdA tp n 10 = 0 then CpM U w 48 V else V = U)) := by
  refine am_CE_in mmX11_rule rfl rfl rfl ?_
  have c1 : 0 ≤ nI w ∧ nI w ≤ 11 := ⟨nI_pos' (by omega), nI_le (b := 11) (by omega) (by omega)⟩
  refine r_aload_n rfl rfl ?_
  refine r_iconst rfl ?_
  refine r_putI rfl rfl (by decide) (by decide) rfl ?_
  try rw [hT]
  refine r_aload_n rfl rfl ?_
  refine r_iload_n rfl rfl ?_
  refine r_i2l rfl ?_
  refine r_lconst rfl ?_
  refine r_ldc2_w rfl ?_
  refine r_callS rfl (by decide) ct_X11_in rfl rfl (am_cnt rfl) ?_
  refine r_if_eq rfl (fun h15 => ?_) (fun h15 => ?_)
  · exfalso
    simp only [b01_eq0, wl_m999, wg_m999, wl_m99, wg_m99, wl_m50, wg_m50, wl_m1, wg_m1, wl_0, wg_0, wl_1, wg_1, wl_2, wg_2, wl_3, wg_3, wl_4, wg_4, wl_6, wg_6, wl_9, wg_9, wl_10, wg_10, wl_11, wg_11, wl_20, wg_20, wl_48, wg_48, wl_50, wg_50, wl_57, wg_57, wl_99, wg_99, wl_100, wg_100, wl_199, wg_199, wl_222, wg_222, wl_999, wg_999, wl_9999, wg_9999, fa_wide_le] at h15
    exact h15 c1
  · refine r_iload_n rfl rfl ?_
    refine r_goto rfl ?_
    refine r_ldcS rfl ?_
    refine r_callVE rfl (ct_X11_reads_ok (sg := 10) hn hn2 ht (by decide) (by omega)) rfl rfl rfl (by decide) rfl (am_cnt rfl) (fun V hV => ?_)
    refine r_iret rfl rfl ?_
    exact ⟨rfl, _, rfl, hV⟩
theorem ct_X11_pays {d : Nat} {S T : am_S} {tp : Nat → Nat} {n : Nat} (hT : uI S 97 0 0 = T) (hn : gI T 97 17 = nI n) (hn2 : n < 1000) (ht : ∀ i, i < min 40 n → gI T 107 i = nI (tp i) ∧ tp i < 65536) : am_CE (d + 666) iX11_pays [.ref 97] S (some (.int (rdA tp n 11))) (fun V => ∃ U, FrC (rdU T 11 n) U ∧ RdC U (rdP tp n 11).2 ∧ (if rdA tp n 11 = 0 then CpM U 12 48 V else V = U)) := by
  refine am_CE_in mmX11_pays rfl rfl rfl ?_
  refine r_aload_n rfl rfl ?_
  refine r_iconst rfl ?_
  refine r_putI rfl rfl (by decide) (by decide) rfl ?_
  try rw [hT]
  refine r_aload_n rfl rfl ?_
  refine r_bipush rfl ?_
  refine r_ldcS rfl ?_
  refine r_callVE rfl (ct_X11_reads_ok (sg := 11) (w := 12) hn hn2 ht (by decide) (by decide)) rfl rfl rfl (by decide) rfl (am_cnt rfl) (fun V hV => ?_)
  refine r_iret rfl rfl ?_
  exact ⟨rfl, _, rfl, hV⟩
