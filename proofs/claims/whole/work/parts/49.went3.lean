/-! sheet, sign, crossed of the reference. -/
def shM (S : am_S) (kd n f st : Int32) : Nat → am_S
  | 0 => S
  | j + 1 => uI (shM S kd n f st j) 99 j (shV kd n f st j)
theorem shM_ne {S : am_S} {kd n f st : Int32} {o : Nat} (h : o ≠ 99) : ∀ j, gI (shM S kd n f st j) o = gI S o
  | 0 => rfl
  | j + 1 => by rw [shM, gI_uI_ne h, shM_ne h j]
theorem ct_X11_sheet_no {d : Nat} {S T : am_S} {kd n f st : Int32} (hT : uI S 97 0 0 = T) (h : ¬ (0 ≤ kd ∧ kd ≤ 3 ∧ n ≤ 6)) : am_CT (d + 2) iX11_sheet [.ref 97, .int kd, .int n, .int f, .int st] S (some (.int (-1))) (T) := by
  refine am_CT_in mmX11_sheet rfl rfl rfl ?_
  refine r_aload_n rfl rfl ?_
  refine r_iconst rfl ?_
  refine r_putI rfl rfl (by decide) (by decide) rfl ?_
  try rw [hT]
  refine r_iload_n rfl rfl ?_
  refine r_i2l rfl ?_
  refine r_lconst rfl ?_
  refine r_ldc2_w rfl ?_
  refine r_callS rfl (by decide) ct_X11_in rfl rfl (am_cnt rfl) ?_
  refine r_if_eq rfl (fun h14 => ?_) (fun h14 => ?_)
  · refine r_iconst rfl ?_
    refine r_iret rfl rfl ?_
    exact ⟨rfl, rfl⟩
  · refine r_iload_n rfl rfl ?_
    refine r_bipush rfl ?_
    refine r_icmp_le rfl (fun h20 => ?_) (fun h20 => ?_)
    · exfalso
      simp only [b01_eq0, wl_m999, wg_m999, wl_m99, wg_m99, wl_m50, wg_m50, wl_m1, wg_m1, wl_0, wg_0, wl_1, wg_1, wl_2, wg_2, wl_3, wg_3, wl_4, wg_4, wl_6, wg_6, wl_9, wg_9, wl_10, wg_10, wl_11, wg_11, wl_20, wg_20, wl_48, wg_48, wl_50, wg_50, wl_57, wg_57, wl_99, wg_99, wl_100, wg_100, wl_199, wg_199, wl_222, wg_222, wl_999, wg_999, wl_9999, wg_9999, fa_wide_le] at *
      grind
    · refine r_iconst rfl ?_
      refine r_iret rfl rfl ?_
      exact ⟨rfl, rfl⟩
theorem ct_X11_sheet_never {d : Nat} {S T : am_S} {kd n f st : Int32} (hT : uI S 97 0 0 = T) (h : 0 ≤ kd ∧ kd < 3 ∧ n < 0) : am_CT (d + 2) iX11_sheet [.ref 97, .int kd, .int n, .int f, .int st] S (some (.int (-2))) (T) := by
  refine am_CT_in mmX11_sheet rfl rfl rfl ?_
  have c1 : 0 ≤ kd ∧ kd ≤ 3 := by grind
  refine r_aload_n rfl rfl ?_
  refine r_iconst rfl ?_
  refine r_putI rfl rfl (by decide) (by decide) rfl ?_
  try rw [hT]
  refine r_iload_n rfl rfl ?_
  refine r_i2l rfl ?_
  refine r_lconst rfl ?_
  refine r_ldc2_w rfl ?_
  refine r_callS rfl (by decide) ct_X11_in rfl rfl (am_cnt rfl) ?_
  refine r_if_eq rfl (fun h14 => ?_) (fun h14 => ?_)
  · simp only [b01_eq0, wl_m999, wg_m999, wl_m99, wg_m99, wl_m50, wg_m50, wl_m1, wg_m1, wl_0, wg_0, wl_1, wg_1, wl_2, wg_2, wl_3, wg_3, wl_4, wg_4, wl_6, wg_6, wl_9, wg_9, wl_10, wg_10, wl_11, wg_11, wl_20, wg_20, wl_48, wg_48, wl_50, wg_50, wl_57, wg_57, wl_99, wg_99, wl_100, wg_100, wl_199, wg_199, wl_222, wg_222, wl_999, wg_999, wl_9999, wg_9999, fa_wide_le] at h14
    exact absurd c1 h14
  · refine r_iload_n rfl rfl ?_
    refine r_bipush rfl ?_
    refine r_icmp_le rfl (fun h20 => ?_) (fun h20 => ?_)
    · refine r_iload_n rfl rfl ?_
      refine r_iconst rfl ?_
      refine r_icmp_eq rfl (fun h27 => ?_) (fun h27 => ?_)
      · exfalso
        grind
      · refine r_iload_n rfl rfl ?_
        refine r_if_ge rfl (fun h31 => ?_) (fun h31 => ?_)
        · exfalso
          grind
        · refine r_bipush rfl ?_
          refine r_iret rfl rfl ?_
          exact ⟨rfl, rfl⟩
    · exfalso
      grind
theorem ct_X11_sheet_ok {d : Nat} {S T : am_S} {kd n f st : Int32} {z : Nat} (hT : uI S 97 0 0 = T) (hz : gI T 97 3 = nI z) (hz6 : z ≤ 6) (h : 0 ≤ kd ∧ kd ≤ 3 ∧ n ≤ 6 ∧ (kd = 3 ∨ 0 ≤ n)) : am_CT (d + 2) iX11_sheet [.ref 97, .int kd, .int n, .int f, .int st] S (some (.int (if kd = 3 then -3 else sumI (shV kd n f st) z))) (shM T kd n f st z) := by
  refine am_CT_in mmX11_sheet rfl rfl rfl ?_
  have c1 : 0 ≤ kd ∧ kd ≤ 3 := ⟨h.1, h.2.1⟩
  have loop : ∀ (k : Nat) (j : Nat) (v8 : Option Value), (j ≤ z) → (z < j + k) → am_Ex (am_Call am_MT (d + 1)) mmX11_sheet none (fun r1 G1 => r1 = (some (.int (if kd = 3 then -3 else sumI (shV kd n f st) z))) ∧ G1 = am_H (shM T kd n f st z)) (fun _ _ _ _ _ _ => False) 46 [some (.ref 97), some (.int kd), some (.int n), some (.int f), some (.int st), some (.int (f + nI j * st)), some (.int (sumI (shV kd n f st) j)), some (.int (nI j)), v8] [] (am_H (shM T kd n f st j)) 0 0 := by
    intro k
    induction k with
    | zero =>
      intro j v8 h1 h2
      omega
    | succ k ih =>
      intro j v8 h1 h2
      have a1 : gI (shM T kd n f st j) 97 3 = nI z := by rw [shM_ne (by decide), hz]
      have b1 : (nI j).toNatClampNeg = j := nI_clamp (by omega)
      have s1 : 0 ≤ nI j := nI_pos' (by omega)
      have ad : f + nI j * st + st = f + nI (j + 1) * st := by rw [← nI_1]; grind
      have nx : ∀ x v8, j < z → x = shV kd n f st j → am_Ex (am_Call am_MT (d + 1)) mmX11_sheet none (fun r1 G1 => r1 = (some (.int (if kd = 3 then -3 else sumI (shV kd n f st) z))) ∧ G1 = am_H (shM T kd n f st z)) (fun _ _ _ _ _ _ => False) 46 [some (.ref 97), some (.int kd), some (.int n), some (.int f), some (.int st), some (.int (f + nI j * st + st)), some (.int (sumI (shV kd n f st) j + x)), some (.int (nI (j + 1))), v8] [] (am_H (uI (shM T kd n f st j) 99 j x)) 0 0 := fun x v8 hjz hx => by
        have e := ih (j + 1) v8 (by omega) (by omega)
        rw [shM, sumI] at e
        rw [ad, hx]
        exact e
      have rd : ∀ x : Int32, gI (uI (shM T kd n f st j) 99 j x) 99 j = x := fun x => by rw [gI_uI, if_pos rfl, if_pos rfl]
      refine r_iload rfl rfl ?_
      refine r_aload_n rfl rfl ?_
      refine r_getI rfl rfl (by decide) (by decide) rfl ?_
      rw [a1]
      refine r_icmp_ge rfl (fun h52 => ?_) (fun h52 => ?_)
      · rw [nI_leI (by omega) (by omega)] at h52
        obtain rfl : j = z := by omega
        refine r_iload_n rfl rfl ?_
        refine r_iconst rfl ?_
        refine r_icmp_ne rfl (fun h140 => ?_) (fun h140 => ?_)
        · refine r_iload rfl rfl ?_
          refine r_iret rfl rfl ?_
          exact ⟨by grind, rfl⟩
        · refine r_bipush rfl ?_
          refine r_goto rfl ?_
          refine r_iret rfl rfl ?_
          exact ⟨by grind, rfl⟩
      · rw [nI_leI (by omega) (by omega)] at h52
        have s2 : nI j < Int32.ofNat 6 := nI_lt (by omega) (by omega)
        refine r_iload_n rfl rfl ?_
        refine r_if_ne rfl (fun h56 => ?_) (fun h56 => ?_)
        · refine r_iload_n rfl rfl ?_
          refine r_iconst rfl ?_
          refine r_icmp_ne rfl (fun h67 => ?_) (fun h67 => ?_)
          · refine r_iload rfl rfl ?_
            refine r_istore (L2 := [_, _, _, _, _, _, _, _, _]) rfl rfl ?_
            refine r_aload_n rfl rfl ?_
            refine r_getC rfl rfl (by decide) (by decide) rfl ?_
            refine r_iload rfl rfl ?_
            refine r_iload_n rfl rfl ?_
            refine r_iconst rfl ?_
            refine r_icmp_eq rfl (fun h88 => ?_) (fun h88 => ?_)
            · refine r_iconst rfl ?_
              refine r_goto rfl ?_
              try rw [b1]
              refine r_iast rfl rfl (by first | decide | assumption) (by first | exact s1 | exact s2) (by first | exact s1 | exact s2) ?_
              refine r_iload rfl rfl ?_
              refine r_aload_n rfl rfl ?_
              refine r_getC rfl rfl (by decide) (by decide) rfl ?_
              refine r_iload rfl rfl ?_
              refine r_iald rfl rfl (by first | decide | assumption) (by first | exact s1 | exact s2) (by first | exact s1 | exact s2) ?_
              rw [b1, rd]
              refine r_iadd rfl ?_
              refine r_istore (L2 := [_, _, _, _, _, _, _, _, _]) rfl rfl ?_
              refine r_iload rfl rfl ?_
              refine r_iload rfl rfl ?_
              refine r_iadd rfl ?_
              refine r_istore (L2 := [_, _, _, _, _, _, _, _, _]) rfl rfl ?_
              refine r_iinc (L2 := [_, _, _, _, _, _, _, _, _]) rfl rfl rfl ?_
              refine r_goto rfl ?_
              rw [nI_1]
              first | refine nx _ _ (by omega) ?_ | (rw [b1]; refine nx _ _ (by omega) ?_)
              simp only [shV, fEntry]
              grind
            · refine r_iload rfl rfl ?_
              refine r_iload_n rfl rfl ?_
              refine r_icmp_lt rfl (fun h94 => ?_) (fun h94 => ?_)
              · refine r_iconst rfl ?_
                refine r_bipush rfl ?_
                refine r_iload rfl rfl ?_
                refine r_min rfl (am_cnt rfl) ?_
                refine r_max rfl (am_cnt rfl) ?_
                try rw [b1]
                refine r_iast rfl rfl (by first | decide | assumption) (by first | exact s1 | exact s2) (by first | exact s1 | exact s2) ?_
                refine r_iload rfl rfl ?_
                refine r_aload_n rfl rfl ?_
                refine r_getC rfl rfl (by decide) (by decide) rfl ?_
                refine r_iload rfl rfl ?_
                refine r_iald rfl rfl (by first | decide | assumption) (by first | exact s1 | exact s2) (by first | exact s1 | exact s2) ?_
                rw [b1, rd]
                refine r_iadd rfl ?_
                refine r_istore (L2 := [_, _, _, _, _, _, _, _, _]) rfl rfl ?_
                refine r_iload rfl rfl ?_
                refine r_iload rfl rfl ?_
                refine r_iadd rfl ?_
                refine r_istore (L2 := [_, _, _, _, _, _, _, _, _]) rfl rfl ?_
                refine r_iinc (L2 := [_, _, _, _, _, _, _, _, _]) rfl rfl rfl ?_
                refine r_goto rfl ?_
                rw [nI_1]
                first | refine nx _ _ (by omega) ?_ | (rw [b1]; refine nx _ _ (by omega) ?_)
                simp only [shV, fEntry]
                grind
              · refine r_iconst rfl ?_
                refine r_goto rfl ?_
                try rw [b1]
                refine r_iast rfl rfl (by first | decide | assumption) (by first | exact s1 | exact s2) (by first | exact s1 | exact s2) ?_
                refine r_iload rfl rfl ?_
                refine r_aload_n rfl rfl ?_
                refine r_getC rfl rfl (by decide) (by decide) rfl ?_
                refine r_iload rfl rfl ?_
                refine r_iald rfl rfl (by first | decide | assumption) (by first | exact s1 | exact s2) (by first | exact s1 | exact s2) ?_
                rw [b1, rd]
                refine r_iadd rfl ?_
                refine r_istore (L2 := [_, _, _, _, _, _, _, _, _]) rfl rfl ?_
                refine r_iload rfl rfl ?_
                refine r_iload rfl rfl ?_
                refine r_iadd rfl ?_
                refine r_istore (L2 := [_, _, _, _, _, _, _, _, _]) rfl rfl ?_
                refine r_iinc (L2 := [_, _, _, _, _, _, _, _, _]) rfl rfl rfl ?_
                refine r_goto rfl ?_
                rw [nI_1]
                first | refine nx _ _ (by omega) ?_ | (rw [b1]; refine nx _ _ (by omega) ?_)
                simp only [shV, fEntry]
                grind
          · refine r_iload rfl rfl ?_
            refine r_i2s rfl ?_
            refine r_goto rfl ?_
            refine r_istore (L2 := [_, _, _, _, _, _, _, _, _]) rfl rfl ?_
            refine r_aload_n rfl rfl ?_
            refine r_getC rfl rfl (by decide) (by decide) rfl ?_
            refine r_iload rfl rfl ?_
            refine r_iload_n rfl rfl ?_
            refine r_iconst rfl ?_
            refine r_icmp_eq rfl (fun h88 => ?_) (fun h88 => ?_)
            · refine r_iconst rfl ?_
              refine r_goto rfl ?_
              try rw [b1]
              refine r_iast rfl rfl (by first | decide | assumption) (by first | exact s1 | exact s2) (by first | exact s1 | exact s2) ?_
              refine r_iload rfl rfl ?_
              refine r_aload_n rfl rfl ?_
              refine r_getC rfl rfl (by decide) (by decide) rfl ?_
              refine r_iload rfl rfl ?_
              refine r_iald rfl rfl (by first | decide | assumption) (by first | exact s1 | exact s2) (by first | exact s1 | exact s2) ?_
              rw [b1, rd]
              refine r_iadd rfl ?_
              refine r_istore (L2 := [_, _, _, _, _, _, _, _, _]) rfl rfl ?_
              refine r_iload rfl rfl ?_
              refine r_iload rfl rfl ?_
              refine r_iadd rfl ?_
              refine r_istore (L2 := [_, _, _, _, _, _, _, _, _]) rfl rfl ?_
              refine r_iinc (L2 := [_, _, _, _, _, _, _, _, _]) rfl rfl rfl ?_
              refine r_goto rfl ?_
              rw [nI_1]
              first | refine nx _ _ (by omega) ?_ | (rw [b1]; refine nx _ _ (by omega) ?_)
              simp only [shV, fEntry]
              grind
            · refine r_iload rfl rfl ?_
              refine r_iload_n rfl rfl ?_
              refine r_icmp_lt rfl (fun h94 => ?_) (fun h94 => ?_)
              · refine r_iconst rfl ?_
                refine r_bipush rfl ?_
                refine r_iload rfl rfl ?_
                refine r_min rfl (am_cnt rfl) ?_
                refine r_max rfl (am_cnt rfl) ?_
                try rw [b1]
                refine r_iast rfl rfl (by first | decide | assumption) (by first | exact s1 | exact s2) (by first | exact s1 | exact s2) ?_
                refine r_iload rfl rfl ?_
                refine r_aload_n rfl rfl ?_
                refine r_getC rfl rfl (by decide) (by decide) rfl ?_
                refine r_iload rfl rfl ?_
                refine r_iald rfl rfl (by first | decide | assumption) (by first | exact s1 | exact s2) (by first | exact s1 | exact s2) ?_
                rw [b1, rd]
                refine r_iadd rfl ?_
                refine r_istore (L2 := [_, _, _, _, _, _, _, _, _]) rfl rfl ?_
                refine r_iload rfl rfl ?_
                refine r_iload rfl rfl ?_
                refine r_iadd rfl ?_
                refine r_istore (L2 := [_, _, _, _, _, _, _, _, _]) rfl rfl ?_
                refine r_iinc (L2 := [_, _, _, _, _, _, _, _, _]) rfl rfl rfl ?_
                refine r_goto rfl ?_
                rw [nI_1]
                first | refine nx _ _ (by omega) ?_ | (rw [b1]; refine nx _ _ (by omega) ?_)
                simp only [shV, fEntry]
                grind
              · refine r_iconst rfl ?_
                refine r_goto rfl ?_
                try rw [b1]
                refine r_iast rfl rfl (by first | decide | assumption) (by first | exact s1 | exact s2) (by first | exact s1 | exact s2) ?_
                refine r_iload rfl rfl ?_
                refine r_aload_n rfl rfl ?_
                refine r_getC rfl rfl (by decide) (by decide) rfl ?_
                refine r_iload rfl rfl ?_
                refine r_iald rfl rfl (by first | decide | assumption) (by first | exact s1 | exact s2) (by first | exact s1 | exact s2) ?_
                rw [b1, rd]
                refine r_iadd rfl ?_
                refine r_istore (L2 := [_, _, _, _, _, _, _, _, _]) rfl rfl ?_
                refine r_iload rfl rfl ?_
                refine r_iload rfl rfl ?_
                refine r_iadd rfl ?_
                refine r_istore (L2 := [_, _, _, _, _, _, _, _, _]) rfl rfl ?_
                refine r_iinc (L2 := [_, _, _, _, _, _, _, _, _]) rfl rfl rfl ?_
                refine r_goto rfl ?_
                rw [nI_1]
                first | refine nx _ _ (by omega) ?_ | (rw [b1]; refine nx _ _ (by omega) ?_)
                simp only [shV, fEntry]
                grind
        · refine r_iload rfl rfl ?_
          refine r_i2b rfl ?_
          refine r_goto rfl ?_
          refine r_istore (L2 := [_, _, _, _, _, _, _, _, _]) rfl rfl ?_
          refine r_aload_n rfl rfl ?_
          refine r_getC rfl rfl (by decide) (by decide) rfl ?_
          refine r_iload rfl rfl ?_
          refine r_iload_n rfl rfl ?_
          refine r_iconst rfl ?_
          refine r_icmp_eq rfl (fun h88 => ?_) (fun h88 => ?_)
          · refine r_iconst rfl ?_
            refine r_goto rfl ?_
            try rw [b1]
            refine r_iast rfl rfl (by first | decide | assumption) (by first | exact s1 | exact s2) (by first | exact s1 | exact s2) ?_
            refine r_iload rfl rfl ?_
            refine r_aload_n rfl rfl ?_
            refine r_getC rfl rfl (by decide) (by decide) rfl ?_
            refine r_iload rfl rfl ?_
            refine r_iald rfl rfl (by first | decide | assumption) (by first | exact s1 | exact s2) (by first | exact s1 | exact s2) ?_
            rw [b1, rd]
            refine r_iadd rfl ?_
            refine r_istore (L2 := [_, _, _, _, _, _, _, _, _]) rfl rfl ?_
            refine r_iload rfl rfl ?_
            refine r_iload rfl rfl ?_
            refine r_iadd rfl ?_
            refine r_istore (L2 := [_, _, _, _, _, _, _, _, _]) rfl rfl ?_
            refine r_iinc (L2 := [_, _, _, _, _, _, _, _, _]) rfl rfl rfl ?_
            refine r_goto rfl ?_
            rw [nI_1]
            first | refine nx _ _ (by omega) ?_ | (rw [b1]; refine nx _ _ (by omega) ?_)
            simp only [shV, fEntry]
            grind
          · refine r_iload rfl rfl ?_
            refine r_iload_n rfl rfl ?_
            refine r_icmp_lt rfl (fun h94 => ?_) (fun h94 => ?_)
            · refine r_iconst rfl ?_
              refine r_bipush rfl ?_
              refine r_iload rfl rfl ?_
              refine r_min rfl (am_cnt rfl) ?_
              refine r_max rfl (am_cnt rfl) ?_
              try rw [b1]
              refine r_iast rfl rfl (by first | decide | assumption) (by first | exact s1 | exact s2) (by first | exact s1 | exact s2) ?_
              refine r_iload rfl rfl ?_
              refine r_aload_n rfl rfl ?_
              refine r_getC rfl rfl (by decide) (by decide) rfl ?_
              refine r_iload rfl rfl ?_
              refine r_iald rfl rfl (by first | decide | assumption) (by first | exact s1 | exact s2) (by first | exact s1 | exact s2) ?_
              rw [b1, rd]
              refine r_iadd rfl ?_
              refine r_istore (L2 := [_, _, _, _, _, _, _, _, _]) rfl rfl ?_
              refine r_iload rfl rfl ?_
              refine r_iload rfl rfl ?_
              refine r_iadd rfl ?_
              refine r_istore (L2 := [_, _, _, _, _, _, _, _, _]) rfl rfl ?_
              refine r_iinc (L2 := [_, _, _, _, _, _, _, _, _]) rfl rfl rfl ?_
              refine r_goto rfl ?_
              rw [nI_1]
              first | refine nx _ _ (by omega) ?_ | (rw [b1]; refine nx _ _ (by omega) ?_)
              simp only [shV, fEntry]
              grind
            · refine r_iconst rfl ?_
              refine r_goto rfl ?_
              try rw [b1]
              refine r_iast rfl rfl (by first | decide | assumption) (by first | exact s1 | exact s2) (by first | exact s1 | exact s2) ?_
              refine r_iload rfl rfl ?_
              refine r_aload_n rfl rfl ?_
              refine r_getC rfl rfl (by decide) (by decide) rfl ?_
              refine r_iload rfl rfl ?_
              refine r_iald rfl rfl (by first | decide | assumption) (by first | exact s1 | exact s2) (by first | exact s1 | exact s2) ?_
              rw [b1, rd]
              refine r_iadd rfl ?_
              refine r_istore (L2 := [_, _, _, _, _, _, _, _, _]) rfl rfl ?_
              refine r_iload rfl rfl ?_
              refine r_iload rfl rfl ?_
              refine r_iadd rfl ?_
              refine r_istore (L2 := [_, _, _, _, _, _, _, _, _]) rfl rfl ?_
              refine r_iinc (L2 := [_, _, _, _, _, _, _, _, _]) rfl rfl rfl ?_
              refine r_goto rfl ?_
              rw [nI_1]
              first | refine nx _ _ (by omega) ?_ | (rw [b1]; refine nx _ _ (by omega) ?_)
              simp only [shV, fEntry]
              grind
  refine r_aload_n rfl rfl ?_
  refine r_iconst rfl ?_
  refine r_putI rfl rfl (by decide) (by decide) rfl ?_
  try rw [hT]
  refine r_iload_n rfl rfl ?_
  refine r_i2l rfl ?_
  refine r_lconst rfl ?_
  refine r_ldc2_w rfl ?_
  refine r_callS rfl (by decide) ct_X11_in rfl rfl (am_cnt rfl) ?_
  refine r_if_eq rfl (fun h14 => ?_) (fun h14 => ?_)
  · simp only [b01_eq0, wl_m999, wg_m999, wl_m99, wg_m99, wl_m50, wg_m50, wl_m1, wg_m1, wl_0, wg_0, wl_1, wg_1, wl_2, wg_2, wl_3, wg_3, wl_4, wg_4, wl_6, wg_6, wl_9, wg_9, wl_10, wg_10, wl_11, wg_11, wl_20, wg_20, wl_48, wg_48, wl_50, wg_50, wl_57, wg_57, wl_99, wg_99, wl_100, wg_100, wl_199, wg_199, wl_222, wg_222, wl_999, wg_999, wl_9999, wg_9999, fa_wide_le] at h14
    exact absurd c1 h14
  · refine r_iload_n rfl rfl ?_
    refine r_bipush rfl ?_
    refine r_icmp_le rfl (fun h20 => ?_) (fun h20 => ?_)
    · refine r_iload_n rfl rfl ?_
      refine r_iconst rfl ?_
      refine r_icmp_eq rfl (fun h27 => ?_) (fun h27 => ?_)
      · refine r_iload_n rfl rfl ?_
        refine r_istore (L2 := [_, _, _, _, _, _, _, _, _]) rfl rfl ?_
        refine r_iconst rfl ?_
        refine r_istore (L2 := [_, _, _, _, _, _, _, _, _]) rfl rfl ?_
        refine r_iconst rfl ?_
        refine r_istore (L2 := [_, _, _, _, _, _, _, _, _]) rfl rfl ?_
        have e := loop (z + 1) 0 none (by omega) (by omega)
        rw [show f + nI 0 * st = f by rw [show nI 0 = 0 from rfl]; grind] at e
        exact e
      · refine r_iload_n rfl rfl ?_
        refine r_if_ge rfl (fun h31 => ?_) (fun h31 => ?_)
        · refine r_iload_n rfl rfl ?_
          refine r_istore (L2 := [_, _, _, _, _, _, _, _, _]) rfl rfl ?_
          refine r_iconst rfl ?_
          refine r_istore (L2 := [_, _, _, _, _, _, _, _, _]) rfl rfl ?_
          refine r_iconst rfl ?_
          refine r_istore (L2 := [_, _, _, _, _, _, _, _, _]) rfl rfl ?_
          have e := loop (z + 1) 0 none (by omega) (by omega)
          rw [show f + nI 0 * st = f by rw [show nI 0 = 0 from rfl]; grind] at e
          exact e
        · exfalso
          grind
    · exact absurd h.2.2.1 h20
theorem natI (x : Int32) : ((x.toBitVec.toNat : Nat) : Int) = x.toInt % 4294967296 := by
  have h := BitVec.toInt_eq_toNat_cond x.toBitVec
  have h2 : x.toInt = x.toBitVec.toInt := rfl
  have h3 := x.toBitVec.isLt
  rw [h2, h]
  split <;> omega
theorem four_k (v s t : Int32) (k : Nat) (hk : k = 0 ∨ k = 8 ∨ k = 16 ∨ k = 24) (hs : (s.toBitVec.smod 32).toNat = k) (ht : ((t.toUInt32 &&& Int32.toUInt32 31).toBitVec % 32).toNat = k) : (v >>> s) &&& 255 = (v.toUInt32 >>> (t.toUInt32 &&& Int32.toUInt32 31)).toInt32 &&& 255 := by
  have a1 := pk_shr v s k hs
  have a2 := pk_ushr v t k ht
  have n1 := natI (v >>> s)
  have n2 := natI v
  rw [pk_and (v >>> s) (m := 255) 8 (by decide), pk_and ((v.toUInt32 >>> (t.toUInt32 &&& Int32.toUInt32 31)).toInt32) (m := 255) 8 (by decide), a2]
  rw [a1, Int.shiftRight_eq_div_pow] at n1
  have hv := v.toBitVec.isLt
  congr 1
  have c8 : ((2 ^ 8 : Nat) : Int) = 256 := by decide
  have c16 : ((2 ^ 16 : Nat) : Int) = 65536 := by decide
  have c24 : ((2 ^ 24 : Nat) : Int) = 16777216 := by decide
  have c0 : ((2 ^ 0 : Nat) : Int) = 1 := by decide
  have p8 : (2 : Nat) ^ 8 = 256 := by decide
  have p16 : (2 : Nat) ^ 16 = 65536 := by decide
  have p24 : (2 : Nat) ^ 24 = 16777216 := by decide
  have p0 : (2 : Nat) ^ 0 = 1 := by decide
  rcases hk with rfl | rfl | rfl | rfl
  · rw [c0] at n1; rw [p0, p8]; omega
  · rw [c8] at n1; rw [p8]; omega
  · rw [c16] at n1; rw [p16, p8]; omega
  · rw [c24] at n1; rw [p24, p8]; omega
theorem four_eq {v : Int32} {j : Nat} (hj : j < 4) : (v >>> ((24 - 8 * nI j) &&& 31)) &&& 255 = fourI v j := by
  unfold fourI
  match j, hj with
  | 0, _ => exact four_k v _ _ 24 (by decide) (by decide) (by decide)
  | 1, _ => exact four_k v _ _ 16 (by decide) (by decide) (by decide)
  | 2, _ => exact four_k v _ _ 8 (by decide) (by decide) (by decide)
  | 3, _ => exact four_k v _ _ 0 (by decide) (by decide) (by decide)
def frM (S : am_S) (v : Int32) (n : Nat) : Nat → am_S
  | 0 => S
  | j + 1 => uI (frM S v n j) 107 (n + j) (fourI v j)
theorem frM_ne {S : am_S} {v : Int32} {n o : Nat} (h : o ≠ 107) : ∀ j, gI (frM S v n j) o = gI S o
  | 0 => rfl
  | j + 1 => by rw [frM, gI_uI_ne h, frM_ne h j]
theorem ct_X11_sign_no {d : Nat} {S T : am_S} {v : Int32} {n : Nat} (hT : uI S 97 0 0 = T) (hn : gI T 97 17 = nI n) (hb : 56 < n) (hb2 : n ≤ 60) : am_CT (d + 1) iX11_sign [.ref 97, .int v] S (some (.int (-1))) (T) := by
  refine am_CT_in mmX11_sign rfl rfl rfl ?_
  have w1 : ¬ gI T 97 17 ≤ 56 := by rw [hn]; exact Int32.not_le.mpr (nI_lt (a := 56) hb (by omega))
  refine r_aload_n rfl rfl ?_
  refine r_iconst rfl ?_
  refine r_putI rfl rfl (by decide) (by decide) rfl ?_
  try rw [hT]
  refine r_aload_n rfl rfl ?_
  refine r_getI rfl rfl (by decide) (by decide) rfl ?_
  refine r_bipush rfl ?_
  refine r_icmp_le rfl (fun h11 => ?_) (fun h11 => ?_)
  · exact absurd h11 w1
  · refine r_iconst rfl ?_
    refine r_iret rfl rfl ?_
    exact ⟨rfl, rfl⟩
theorem ct_X11_sign_ok {d : Nat} {S T : am_S} {v : Int32} {n : Nat} (hT : uI S 97 0 0 = T) (hn : gI T 97 17 = nI n) (hb : n ≤ 56) : am_CT (d + 1) iX11_sign [.ref 97, .int v] S (some (.int (nI (n + 4)))) (uI (frM T v n 4) 97 17 (nI (n + 4))) := by
  refine am_CT_in mmX11_sign rfl rfl rfl ?_
  have w1 : gI T 97 17 ≤ 56 := by rw [hn]; exact nI_le (b := 56) hb (by omega)
  have loop : ∀ (k : Nat) (j : Nat), (j ≤ 4) → (4 < j + k) → am_Ex (am_Call am_MT (d + 0)) mmX11_sign none (fun r1 G1 => r1 = (some (.int (nI (n + 4)))) ∧ G1 = am_H (uI (frM T v n 4) 97 17 (nI (n + 4)))) (fun _ _ _ _ _ _ => False) 18 [some (.ref 97), some (.int v), some (.int (nI j))] [] (am_H (frM T v n j)) 0 0 := by
    intro k
    induction k with
    | zero =>
      intro j h1 h2
      omega
    | succ k ih =>
      intro j h1 h2
      have a1 : gI (frM T v n j) 97 17 = nI n := by rw [frM_ne (by decide), hn]
      have b1 : (nI (n + j)).toNatClampNeg = n + j := nI_clamp (by omega)
      have s1 : 0 ≤ nI (n + j) := nI_pos' (by omega)
      have a2 : gI (uI (frM T v n j) 97 17 (nI (n + 4))) 97 17 = nI (n + 4) := by rw [gI_uI, if_pos rfl, if_pos rfl]
      refine r_iload_n rfl rfl ?_
      refine r_iconst rfl ?_
      refine r_icmp_ge rfl (fun h20 => ?_) (fun h20 => ?_)
      · have hj : j = 4 := by
          rw [show (4 : Int32) = nI 4 from rfl, nI_leI (by omega) (by omega)] at h20
          omega
        subst hj
        refine r_aload_n rfl rfl ?_
        refine r_dup rfl rfl ?_
        refine r_getI rfl rfl (by decide) (by decide) rfl ?_
        refine r_iconst rfl ?_
        refine r_iadd rfl ?_
        rw [a1, show nI n + 4 = nI (n + 4) from nI_add n 4]
        refine r_putI rfl rfl (by decide) (by decide) rfl ?_
        refine r_aload_n rfl rfl ?_
        refine r_getI rfl rfl (by decide) (by decide) rfl ?_
        rw [a2]
        refine r_iret rfl rfl ?_
        exact ⟨rfl, rfl⟩
      · rw [show (4 : Int32) = nI 4 from rfl, nI_leI (by omega) (by omega)] at h20
        have s2 : nI (n + j) < Int32.ofNat 60 := nI_lt (by omega) (by omega)
        refine r_aload_n rfl rfl ?_
        refine r_getC rfl rfl (by decide) (by decide) rfl ?_
        refine r_aload_n rfl rfl ?_
        refine r_getI rfl rfl (by decide) (by decide) rfl ?_
        refine r_iload_n rfl rfl ?_
        refine r_iadd rfl ?_
        rw [a1, nI_add]
        refine r_iload_n rfl rfl ?_
        refine r_bipush rfl ?_
        refine r_bipush rfl ?_
        refine r_iload_n rfl rfl ?_
        refine r_imul rfl ?_
        refine r_isub rfl ?_
        refine r_ishr rfl ?_
        refine r_sipush rfl ?_
        refine r_iand rfl ?_
        rw [four_eq (by omega)]
        refine r_iast rfl rfl (by first | decide | assumption) (by first | exact s1 | exact s2) (by first | exact s1 | exact s2) ?_
        refine r_iinc (L2 := [_, _, _]) rfl rfl rfl ?_
        refine r_goto rfl ?_
        rw [b1, nI_1]
        exact ih (j + 1) (by omega) (by omega)
  refine r_aload_n rfl rfl ?_
  refine r_iconst rfl ?_
  refine r_putI rfl rfl (by decide) (by decide) rfl ?_
  try rw [hT]
  refine r_aload_n rfl rfl ?_
  refine r_getI rfl rfl (by decide) (by decide) rfl ?_
  refine r_bipush rfl ?_
  refine r_icmp_le rfl (fun h11 => ?_) (fun h11 => ?_)
  · refine r_iconst rfl ?_
    refine r_istore_n (L2 := [_, _, _]) rfl rfl ?_
    exact loop 5 0 (by omega) (by omega)
  · exact absurd w1 h11
abbrev spkM (S : am_S) (p m : Nat) : Prop := ¬ gI S 110 (gAt 1 p m) = 0
def cxT (S : am_S) (p q m t : Nat) : Int32 := b01 ((spkM S p m ∧ spkM S q (m + t)) ∧ (0 < t ∨ p < q))
def cxI (S : am_S) (p q af nw m : Nat) : Int32 := sumI (cxT S p q m) (min af (nw - m))
def cxQ (S : am_S) (af : Nat → Nat) (nw p q : Nat) : Int32 := if fBit (gI S 102 p) (nI q) then sumI (cxI S p q (af q) nw) nw else 0
theorem ct_X11_crossed {d : Nat} {S T : am_S} {n nw : Nat} {af : Nat → Nat} (hT : uI S 97 0 0 = T) (hn : gI T 97 3 = nI n) (hz : n ≤ 6) (hnw : gI T 97 23 = nI nw) (hw : nw ≤ 199) (ha : ∀ q, q < n → lateI (gI T 99 q) = nI (af q) ∧ af q ≤ 20) : am_CT (d + 3) iX11_crossed [.ref 97] S (some (.int (sumI (fun p => sumI (cxQ T af nw p) n) n))) (T) := by
  refine am_CT_in mmX11_crossed rfl rfl rfl ?_
  have loop : ∀ (k : Nat) (p : Nat) (v3 : Option Value) (v4 : Option Value) (v5 : Option Value) (v6 : Option Value), (p ≤ n) → (n < p + k) → am_Ex (am_Call am_MT (d + 2)) mmX11_crossed none (fun r1 G1 => r1 = (some (.int (sumI (fun p => sumI (cxQ T af nw p) n) n))) ∧ G1 = am_H (T)) (fun _ _ _ _ _ _ => False) 9 [some (.ref 97), some (.int (sumI (fun p => sumI (cxQ T af nw p) n) p)), some (.int (nI p)), v3, v4, v5, v6] [] (am_H (T)) 0 0 := by
    intro k
    induction k with
    | zero =>
      intro p v3 v4 v5 v6 q1 q2
      omega
    | succ k ih =>
      intro p v3 v4 v5 v6 q1 q2
      have bp : (nI p).toNatClampNeg = p := nI_clamp (by omega)
      have s1 : 0 ≤ nI p := nI_pos' (by omega)
      have loop2 : ∀ (k2 : Nat) (q : Nat) (v4 : Option Value) (v5 : Option Value) (v6 : Option Value), (p < n) → (q ≤ n) → (n < q + k2) → am_Ex (am_Call am_MT (d + 2)) mmX11_crossed none (fun r1 G1 => r1 = (some (.int (sumI (fun p => sumI (cxQ T af nw p) n) n))) ∧ G1 = am_H (T)) (fun _ _ _ _ _ _ => False) 19 [some (.ref 97), some (.int (sumI (fun p => sumI (cxQ T af nw p) n) p + sumI (cxQ T af nw p) q)), some (.int (nI p)), some (.int (nI q)), v4, v5, v6] [] (am_H (T)) 0 0 := by
        intro k2
        induction k2 with
        | zero =>
          intro q v4 v5 v6 p0 p1 p2
          omega
        | succ k2 ih2 =>
          intro q v4 v5 v6 p0 p1 p2
          have s2 : nI p < Int32.ofNat 6 := nI_lt (by omega) (by omega)
          have qend : ∀ x v4 v5 v6, q < n → x = cxQ T af nw p q → am_Ex (am_Call am_MT (d + 2)) mmX11_crossed none (fun r1 G1 => r1 = (some (.int (sumI (fun p => sumI (cxQ T af nw p) n) n))) ∧ G1 = am_H (T)) (fun _ _ _ _ _ _ => False) 19 [some (.ref 97), some (.int (sumI (fun p => sumI (cxQ T af nw p) n) p + sumI (cxQ T af nw p) q + x)), some (.int (nI p)), some (.int (nI (q + 1))), v4, v5, v6] [] (am_H T) 0 0 := fun x v4 v5 v6 hq hx => by
            have e := ih2 (q + 1) v4 v5 v6 p0 (by omega) (by omega)
            rw [sumI, ← Int32.add_assoc, ← hx] at e
            exact e
          have loop3 : ∀ (k3 : Nat) (m : Nat) (v5 : Option Value) (v6 : Option Value), (q < n) → (m ≤ nw) → (nw < m + k3) → (m = 0 ∨ fBit (gI T 102 p) (nI q)) → am_Ex (am_Call am_MT (d + 2)) mmX11_crossed none (fun r1 G1 => r1 = (some (.int (sumI (fun p => sumI (cxQ T af nw p) n) n))) ∧ G1 = am_H (T)) (fun _ _ _ _ _ _ => False) 30 [some (.ref 97), some (.int (sumI (fun p => sumI (cxQ T af nw p) n) p + sumI (cxQ T af nw p) q + sumI (cxI T p q (af q) nw) m)), some (.int (nI p)), some (.int (nI q)), some (.int (nI m)), v5, v6] [] (am_H (T)) 0 0 := by
            intro k3
            induction k3 with
            | zero =>
              intro m v5 v6 r0 r1 r2 r3
              omega
            | succ k3 ih3 =>
              intro m v5 v6 r0 r1 r2 r3
              have hq6 : q < 6 := by omega
              have lq : ∀ {d : Nat}, am_CT (d + 1) iX11_lateOf [.ref 97, .int (nI q)] T (some (.int (nI (af q)))) T := fun {d} => by
                have e := ct_X11_lateOf (d := d) (S := T) (p := nI q) ⟨nI_pos' (by omega), nI_lt (b := 6) hq6 (by omega)⟩
                rw [nI_clamp (by omega), (ha q r0).1] at e
                exact e
              have loop4 : ∀ (k4 : Nat) (t : Nat) (v6 : Option Value), (m < nw) → (t ≤ min (af q) (nw - m)) → (min (af q) (nw - m) < t + k4) → (fBit (gI T 102 p) (nI q)) → am_Ex (am_Call am_MT (d + 2)) mmX11_crossed none (fun r1 G1 => r1 = (some (.int (sumI (fun p => sumI (cxQ T af nw p) n) n))) ∧ G1 = am_H (T)) (fun _ _ _ _ _ _ => False) 55 [some (.ref 97), some (.int (sumI (fun p => sumI (cxQ T af nw p) n) p + sumI (cxQ T af nw p) q + sumI (cxI T p q (af q) nw) m + sumI (cxT T p q m) t)), some (.int (nI p)), some (.int (nI q)), some (.int (nI m)), some (.int (nI t)), v6] [] (am_H (T)) 0 0 := by
                intro k4
                induction k4 with
                | zero =>
                  intro t v6 z0 z1 z2 z3
                  omega
                | succ k4 ih4 =>
                  intro t v6 z0 z1 z2 z3
                  have haf := (ha q r0).2
                  have mend : ∀ v6, t = min (af q) (nw - m) → am_Ex (am_Call am_MT (d + 2)) mmX11_crossed none (fun r1 G1 => r1 = (some (.int (sumI (fun p => sumI (cxQ T af nw p) n) n))) ∧ G1 = am_H (T)) (fun _ _ _ _ _ _ => False) 30 [some (.ref 97), some (.int (sumI (fun p => sumI (cxQ T af nw p) n) p + sumI (cxQ T af nw p) q + sumI (cxI T p q (af q) nw) m + sumI (cxT T p q m) t)), some (.int (nI p)), some (.int (nI q)), some (.int (nI (m + 1))), some (.int (nI t)), v6] [] (am_H T) 0 0 := fun v6 ht => by
                    have e := ih3 (m + 1) (some (.int (nI t))) v6 r0 (by omega) (by omega) (Or.inr z3)
                    rw [sumI, show cxI T p q (af q) nw m = sumI (cxT T p q m) t from by rw [ht]; rfl, ← Int32.add_assoc] at e
                    exact e
                  have tend : ∀ x v6, t < min (af q) (nw - m) → x = cxT T p q m t → am_Ex (am_Call am_MT (d + 2)) mmX11_crossed none (fun r1 G1 => r1 = (some (.int (sumI (fun p => sumI (cxQ T af nw p) n) n))) ∧ G1 = am_H (T)) (fun _ _ _ _ _ _ => False) 55 [some (.ref 97), some (.int (sumI (fun p => sumI (cxQ T af nw p) n) p + sumI (cxQ T af nw p) q + sumI (cxI T p q (af q) nw) m + sumI (cxT T p q m) t + x)), some (.int (nI p)), some (.int (nI q)), some (.int (nI m)), some (.int (nI (t + 1))), v6] [] (am_H T) 0 0 := fun x v6 ht hx => by
                    have e := ih4 (t + 1) v6 z0 (by omega) (by omega) z3
                    rw [sumI, ← Int32.add_assoc, ← hx] at e
                    exact e
                  have tp : nI t ≤ 0 ↔ t = 0 := by rw [show (0 : Int32) = nI 0 from rfl, nI_leI (by omega) (by omega)]; omega
                  have tp2 : 0 < nI t ↔ 0 < t := by rw [show (0 : Int32) = nI 0 from rfl, nI_ltI (by omega) (by omega)]
                  have pq : nI q ≤ nI p ↔ q ≤ p := nI_leI (by omega) (by omega)
                  refine r_iload rfl rfl ?_
                  refine r_aload_n rfl rfl ?_
                  refine r_iload_n rfl rfl ?_
                  refine r_callV rfl lq rfl rfl rfl (by decide) rfl (am_cnt rfl) ?_
                  refine r_icmp_ge rfl (fun h62 => ?_) (fun h62 => ?_)
                  · rw [nI_leI (by omega) (by omega)] at h62
                    refine r_iinc (L2 := [_, _, _, _, _, _, _]) rfl rfl rfl ?_
                    refine r_goto rfl ?_
                    rw [nI_1]
                    exact mend _ (by omega)
                  · rw [nI_leI (by omega) (by omega)] at h62
                    refine r_iload rfl rfl ?_
                    refine r_iload rfl rfl ?_
                    refine r_iadd rfl ?_
                    refine r_aload_n rfl rfl ?_
                    refine r_getI rfl rfl (by decide) (by decide) rfl ?_
                    rw [hnw, nI_add]
                    refine r_icmp_ge rfl (fun h74 => ?_) (fun h74 => ?_)
                    · rw [nI_leI (by omega) (by omega)] at h74
                      refine r_iinc (L2 := [_, _, _, _, _, _, _]) rfl rfl rfl ?_
                      refine r_goto rfl ?_
                      rw [nI_1]
                      exact mend _ (by omega)
                    · rw [nI_leI (by omega) (by omega)] at h74
                      refine r_aload_n rfl rfl ?_
                      refine r_iconst rfl ?_
                      refine r_iload_n rfl rfl ?_
                      refine r_iload rfl rfl ?_
                      refine r_callV rfl (wasN (k := 1) (by omega) (by omega) (by omega)) rfl rfl rfl (by decide) rfl (am_cnt rfl) ?_
                      refine r_if_eq rfl (fun h85 => ?_) (fun h85 => ?_)
                      · refine r_iconst rfl ?_
                        refine r_istore (L2 := [_, _, _, _, _, _, _]) rfl rfl ?_
                        refine r_iload_n rfl rfl ?_
                        refine r_iload rfl rfl ?_
                        refine r_if_eq rfl (fun h112 => ?_) (fun h112 => ?_)
                        · refine r_iconst rfl ?_
                          refine r_callS rfl (by decide) (ct_X11_flag (by simp)) rfl rfl (am_cnt rfl) ?_
                          refine r_iadd rfl ?_
                          refine r_istore_n (L2 := [_, _, _, _, _, _, _]) rfl rfl ?_
                          refine r_iinc (L2 := [_, _, _, _, _, _, _]) rfl rfl rfl ?_
                          refine r_goto rfl ?_
                          rw [nI_1]
                          refine tend _ _ (by omega) ?_
                          simp only [cxT, b01, spkM]
                          grind
                        · exact absurd rfl h112
                      · refine r_aload_n rfl rfl ?_
                        refine r_iconst rfl ?_
                        refine r_iload_n rfl rfl ?_
                        refine r_iload rfl rfl ?_
                        refine r_iload rfl rfl ?_
                        refine r_iadd rfl ?_
                        rw [nI_add]
                        refine r_callV rfl (wasN (k := 1) (by omega) (by omega) (by omega)) rfl rfl rfl (by decide) rfl (am_cnt rfl) ?_
                        refine r_if_eq rfl (fun h99 => ?_) (fun h99 => ?_)
                        · refine r_iconst rfl ?_
                          refine r_istore (L2 := [_, _, _, _, _, _, _]) rfl rfl ?_
                          refine r_iload_n rfl rfl ?_
                          refine r_iload rfl rfl ?_
                          refine r_if_eq rfl (fun h112 => ?_) (fun h112 => ?_)
                          · refine r_iconst rfl ?_
                            refine r_callS rfl (by decide) (ct_X11_flag (by simp)) rfl rfl (am_cnt rfl) ?_
                            refine r_iadd rfl ?_
                            refine r_istore_n (L2 := [_, _, _, _, _, _, _]) rfl rfl ?_
                            refine r_iinc (L2 := [_, _, _, _, _, _, _]) rfl rfl rfl ?_
                            refine r_goto rfl ?_
                            rw [nI_1]
                            refine tend _ _ (by omega) ?_
                            simp only [cxT, b01, spkM]
                            grind
                          · exact absurd rfl h112
                        · refine r_iconst rfl ?_
                          refine r_goto rfl ?_
                          refine r_istore (L2 := [_, _, _, _, _, _, _]) rfl rfl ?_
                          refine r_iload_n rfl rfl ?_
                          refine r_iload rfl rfl ?_
                          refine r_if_eq rfl (fun h112 => ?_) (fun h112 => ?_)
                          · exact absurd h112 (by decide)
                          · refine r_iload rfl rfl ?_
                            refine r_if_gt rfl (fun h117 => ?_) (fun h117 => ?_)
                            · refine r_iconst rfl ?_
                              refine r_goto rfl ?_
                              refine r_callS rfl (by decide) (ct_X11_flag (by simp)) rfl rfl (am_cnt rfl) ?_
                              refine r_iadd rfl ?_
                              refine r_istore_n (L2 := [_, _, _, _, _, _, _]) rfl rfl ?_
                              refine r_iinc (L2 := [_, _, _, _, _, _, _]) rfl rfl rfl ?_
                              refine r_goto rfl ?_
                              rw [nI_1]
                              refine tend _ _ (by omega) ?_
                              simp only [cxT, b01, spkM]
                              grind
                            · refine r_iload_n rfl rfl ?_
                              refine r_iload_n rfl rfl ?_
                              refine r_icmp_ge rfl (fun h122 => ?_) (fun h122 => ?_)
                              · refine r_iconst rfl ?_
                                refine r_callS rfl (by decide) (ct_X11_flag (by simp)) rfl rfl (am_cnt rfl) ?_
                                refine r_iadd rfl ?_
                                refine r_istore_n (L2 := [_, _, _, _, _, _, _]) rfl rfl ?_
                                refine r_iinc (L2 := [_, _, _, _, _, _, _]) rfl rfl rfl ?_
                                refine r_goto rfl ?_
                                rw [nI_1]
                                refine tend _ _ (by omega) ?_
                                simp only [cxT, b01, spkM]
                                grind
                              · refine r_iconst rfl ?_
                                refine r_goto rfl ?_
                                refine r_callS rfl (by decide) (ct_X11_flag (by simp)) rfl rfl (am_cnt rfl) ?_
                                refine r_iadd rfl ?_
                                refine r_istore_n (L2 := [_, _, _, _, _, _, _]) rfl rfl ?_
                                refine r_iinc (L2 := [_, _, _, _, _, _, _]) rfl rfl rfl ?_
                                refine r_goto rfl ?_
                                rw [nI_1]
                                refine tend _ _ (by omega) ?_
                                simp only [cxT, b01, spkM]
                                grind
              refine r_iload rfl rfl ?_
              refine r_aload_n rfl rfl ?_
              refine r_getI rfl rfl (by decide) (by decide) rfl ?_
              rw [hnw]
              refine r_icmp_ge rfl (fun h36 => ?_) (fun h36 => ?_)
              · rw [nI_leI (by omega) (by omega)] at h36
                obtain rfl : m = nw := by omega
                refine r_iinc (L2 := [_, _, _, _, _, _, _]) rfl rfl rfl ?_
                refine r_goto rfl ?_
                rw [nI_1]
                refine qend _ _ _ _ r0 ?_
                first
                  | (rw [z0, m0]; rfl)
                  | (rcases r3 with r3 | r3
                     · rw [cxQ, r3]; split <;> rfl
                     · rw [cxQ, if_pos r3])
              · rw [nI_leI (by omega) (by omega)] at h36
                refine r_aload_n rfl rfl ?_
                refine r_getC rfl rfl (by decide) (by decide) rfl ?_
                refine r_iload_n rfl rfl ?_
                refine r_iald rfl rfl (by first | decide | assumption) (by first | exact s1 | exact s2) (by first | exact s1 | exact s2) ?_
                refine r_iload_n rfl rfl ?_
                refine r_callS rfl (by decide) ct_X11_has rfl rfl (am_cnt rfl) ?_
                refine r_if_eq rfl (fun h49 => ?_) (fun h49 => ?_)
                · rw [b01_eq0, bp] at h49
                  have z0 : cxQ T af nw p q = 0 := if_neg h49
                  have m0 : m = 0 := r3.resolve_right h49
                  refine r_iinc (L2 := [_, _, _, _, _, _, _]) rfl rfl rfl ?_
                  refine r_goto rfl ?_
                  rw [nI_1]
                  refine qend _ _ _ _ r0 ?_
                  first
                    | (rw [z0, m0]; rfl)
                    | (rcases r3 with r3 | r3
                       · rw [cxQ, r3]; split <;> rfl
                       · rw [cxQ, if_pos r3])
                · rw [b01_eq0, bp] at h49
                  have z3 := Decidable.not_not.mp h49
                  refine r_iconst rfl ?_
                  refine r_istore (L2 := [_, _, _, _, _, _, _]) rfl rfl ?_
                  have e := loop4 201 0 v6 (by omega) (by omega) (by omega) z3
                  rw [show sumI (cxT T p q m) 0 = 0 from rfl, Int32.add_zero] at e
                  exact e
          refine r_iload_n rfl rfl ?_
          refine r_aload_n rfl rfl ?_
          refine r_getI rfl rfl (by decide) (by decide) rfl ?_
          rw [hn]
          refine r_icmp_ge rfl (fun h24 => ?_) (fun h24 => ?_)
          · rw [nI_leI (by omega) (by omega)] at h24
            obtain rfl : q = n := by omega
            refine r_iinc (L2 := [_, _, _, _, _, _, _]) rfl rfl rfl ?_
            refine r_goto rfl ?_
            rw [nI_1]
            exact ih (p + 1) _ _ _ _ (by omega) (by omega)
          · rw [nI_leI (by omega) (by omega)] at h24
            refine r_iconst rfl ?_
            refine r_istore (L2 := [_, _, _, _, _, _, _]) rfl rfl ?_
            have e := loop3 (nw + 1) 0 v5 v6 (by omega) (by omega) (by omega) (Or.inl rfl)
            rw [show sumI (cxI T p q (af q) nw) 0 = 0 from rfl, Int32.add_zero] at e
            exact e
      refine r_iload_n rfl rfl ?_
      refine r_aload_n rfl rfl ?_
      refine r_getI rfl rfl (by decide) (by decide) rfl ?_
      rw [hn]
      refine r_icmp_ge rfl (fun h14 => ?_) (fun h14 => ?_)
      · rw [nI_leI (by omega) (by omega)] at h14
        obtain rfl : p = n := by omega
        refine r_iload_n rfl rfl ?_
        refine r_iret rfl rfl ?_
        exact ⟨rfl, rfl⟩
      · rw [nI_leI (by omega) (by omega)] at h14
        refine r_iconst rfl ?_
        refine r_istore_n (L2 := [_, _, _, _, _, _, _]) rfl rfl ?_
        have e := loop2 (n + 1) 0 v4 v5 v6 (by omega) (by omega) (by omega)
        rw [show sumI (cxQ T af nw p) 0 = 0 from rfl, Int32.add_zero] at e
        exact e
  refine r_aload_n rfl rfl ?_
  refine r_iconst rfl ?_
  refine r_putI rfl rfl (by decide) (by decide) rfl ?_
  try rw [hT]
  refine r_iconst rfl ?_
  refine r_istore_n (L2 := [_, _, _, _, _, _, _]) rfl rfl ?_
  refine r_iconst rfl ?_
  refine r_istore_n (L2 := [_, _, _, _, _, _, _]) rfl rfl ?_
  exact loop (n + 1) 0 none none none none (by omega) (by omega)
