/-! Warn and says of the reference. -/
theorem ct_X11_warn_no {d : Nat} {S T : am_S} {p q w s b : Int32} (hT : uI S 97 0 0 = T) (hz : 0 ≤ gI T 97 3) (h : ¬ (twoM T p q ∧ (1 ≤ w ∧ w ≤ 9999) ∧ (1 ≤ s ∧ s ≤ 99) ∧ (1 ≤ b ∧ b ≤ 99))) : am_CT (d + 4) iX11_warn [.ref 97, .int p, .int q, .int w, .int s, .int b] S (some (.int (-1))) (T) := by
  refine am_CT_in mmX11_warn rfl rfl rfl ?_
  refine r_aload_n rfl rfl ?_
  refine r_iconst rfl ?_
  refine r_putI rfl rfl (by decide) (by decide) rfl ?_
  try rw [hT]
  refine r_aload_n rfl rfl ?_
  refine r_iload_n rfl rfl ?_
  refine r_iload_n rfl rfl ?_
  refine r_callV rfl (ct_X11_arePair hz) rfl rfl rfl (by decide) rfl (am_cnt rfl) ?_
  refine r_if_eq rfl (fun h11 => ?_) (fun h11 => ?_)
  · refine r_iconst rfl ?_
    refine r_iret rfl rfl ?_
    exact ⟨rfl, rfl⟩
  · refine r_iload_n rfl rfl ?_
    refine r_i2l rfl ?_
    refine r_lconst rfl ?_
    refine r_ldc2_w rfl ?_
    refine r_callS rfl (by decide) ct_X11_in rfl rfl (am_cnt rfl) ?_
    refine r_if_eq rfl (fun h23 => ?_) (fun h23 => ?_)
    · refine r_iconst rfl ?_
      refine r_iret rfl rfl ?_
      exact ⟨rfl, rfl⟩
    · refine r_iload rfl rfl ?_
      refine r_i2l rfl ?_
      refine r_lconst rfl ?_
      refine r_ldc2_w rfl ?_
      refine r_callS rfl (by decide) ct_X11_in rfl rfl (am_cnt rfl) ?_
      refine r_if_eq rfl (fun h36 => ?_) (fun h36 => ?_)
      · refine r_iconst rfl ?_
        refine r_iret rfl rfl ?_
        exact ⟨rfl, rfl⟩
      · refine r_iload rfl rfl ?_
        refine r_i2l rfl ?_
        refine r_lconst rfl ?_
        refine r_ldc2_w rfl ?_
        refine r_callS rfl (by decide) ct_X11_in rfl rfl (am_cnt rfl) ?_
        refine r_if_ne rfl (fun h49 => ?_) (fun h49 => ?_)
        · exfalso
          simp only [b01_eq0, wl_m999, wg_m999, wl_m99, wg_m99, wl_m50, wg_m50, wl_m1, wg_m1, wl_0, wg_0, wl_1, wg_1, wl_2, wg_2, wl_3, wg_3, wl_4, wg_4, wl_6, wg_6, wl_9, wg_9, wl_10, wg_10, wl_11, wg_11, wl_20, wg_20, wl_48, wg_48, wl_50, wg_50, wl_57, wg_57, wl_99, wg_99, wl_100, wg_100, wl_199, wg_199, wl_222, wg_222, wl_999, wg_999, wl_9999, wg_9999, fa_wide_le] at *
          grind
        · refine r_iconst rfl ?_
          refine r_iret rfl rfl ?_
          exact ⟨rfl, rfl⟩
def wrM (S : am_S) (lt th : Nat → Nat) (n one other w sp br : Nat) : Int32 :=
  if mnV S lt th n other one = 1000000 ∨ w - 1 < slwN sp br sp ∨ (w - 1 - slwN sp br sp) / sp < mnV S lt th n other one + th one then -2 else nI ((w - 1 - slwN sp br sp) / sp - (mnV S lt th n other one + th one))
theorem ct_X11_warn_ok {d : Nat} {S T : am_S} {lt st th : Nat → Nat} {n one other w sp br : Nat} (hT : uI S 97 0 0 = T) (hp : PM T lt st th) (hn : gI T 97 3 = nI n) (hz : n ≤ 6) (h1 : one < n) (hl : other < n) (hne : one ≠ other) (hw1 : 1 ≤ w) (hw : w ≤ 9999) (hs1 : 1 ≤ sp) (hs : sp ≤ 99) (hb1 : 1 ≤ br) (hb : br ≤ 99) : am_CE (d + 4) iX11_warn [.ref 97, .int (nI one), .int (nI other), .int (nI w), .int (nI sp), .int (nI br)] S (some (.int (wrM T lt th n one other w sp br))) (fun U => FrW T U) := by
  refine am_CE_in mmX11_warn rfl rfl rfl ?_
  have two := two_nM hn hz h1 hl hne
  have c1 : 1 ≤ nI w ∧ nI w ≤ 9999 := ⟨nI_le (a := 1) hw1 (by omega), nI_le (b := 9999) hw (by omega)⟩
  have c2 : 1 ≤ nI sp ∧ nI sp ≤ 99 := ⟨nI_le (a := 1) hs1 (by omega), nI_le (b := 99) hs (by omega)⟩
  have c3 : 1 ≤ nI br ∧ nI br ≤ 99 := ⟨nI_le (a := 1) hb1 (by omega), nI_le (b := 99) hb (by omega)⟩
  have bo : (nI one).toNatClampNeg = one := nI_clamp (by omega)
  have s1 : 0 ≤ nI one := nI_pos' (by omega)
  have s2 : nI one < Int32.ofNat 6 := nI_lt (by omega) (by omega)
  have go := hp one (by omega)
  have r0 : nI w - 1 = nI (w - 1) := pk_sub (b := 1) hw1
  have sl := slwN_le (sp := sp) (br := br) sp
  have slm : sp * sp ≤ 99 * 99 := Nat.mul_le_mul hs hs
  have xd : (w - 1 - slwN sp br sp) / sp < 10000 := Nat.lt_of_le_of_lt (Nat.div_le_self _ _) (by omega)
  have nz : ¬ nI sp = 0 := fun z => absurd (nI_inj (b := 0) (by omega) (by omega) z) (by omega)
  have ml := mnV_le (S := T) (lt := lt) (th := th) (n := n) (a := other) (b := one)
  have loop : ∀ (k : Nat) (j : Nat) (U : am_S) (v9 : Option Value), (j ≤ sp) → (sp < j + k) → (FrW T U) → am_Ex (am_Call am_MT (d + 3)) mmX11_warn none (fun r1 G1 => r1 = (some (.int (wrM T lt th n one other w sp br))) ∧ ∃ S2, G1 = am_H S2 ∧ (fun U => FrW T U) S2) (fun _ _ _ _ _ _ => False) 72 [some (.ref 97), some (.int (nI one)), some (.int (nI other)), some (.int (nI w)), some (.int (nI sp)), some (.int (nI br)), some (.int (nI (mnV T lt th n other one))), some (.int (nI (slwN sp br j))), some (.int (nI sp - nI ((j + 1) * br))), v9] [] (am_H (U)) 0 0 := by
    intro k
    induction k with
    | zero =>
      intro j U v9 q1 q2 f1
      omega
    | succ k ih =>
      intro j U v9 q1 q2 f1
      have e2 : (j + 1) * br ≤ 100 * 99 := Nat.mul_le_mul (by omega) hb
      have e3 : (j + 1 + 1) * br = (j + 1) * br + br := Nat.succ_mul _ _
      have e4 : (j + 1) * 1 ≤ (j + 1) * br := Nat.mul_le_mul_left _ hb1
      by_cases hx : sp ≤ (j + 1) * br
      · have w1 : nI sp - nI ((j + 1) * br) ≤ 0 := by
          rw [fa_le, pk_sub_toInt (by omega) (by omega), show (0 : Int32).toInt = 0 from rfl]
          omega
        have fin : slwN sp br j = slwN sp br sp := by
          have := slwN_end (br := br) hx (sp - j)
          rw [show j + (sp - j) = sp by omega] at this
          exact this.symm
        rw [fin]
        refine r_iload rfl rfl ?_
        refine r_if_le rfl (fun h74 => ?_) (fun h74 => ?_)
        · refine r_iload rfl rfl ?_
          refine r_ldc_w rfl ?_
          refine r_icmp_eq rfl (fun h99 => ?_) (fun h99 => ?_)
          · rw [show (1000000 : Int32) = nI 1000000 from rfl, nI_eq (by omega) (by omega)] at h99
            have kv : wrM T lt th n one other w sp br = -2 := by rw [wrM, if_pos (Or.inl h99)]
            rw [kv]
            refine r_bipush rfl ?_
            refine r_iret rfl rfl ?_
            exact ⟨rfl, _, rfl, f1⟩
          · rw [show (1000000 : Int32) = nI 1000000 from rfl, nI_eq (by omega) (by omega)] at h99
            refine r_iload rfl rfl ?_
            refine r_iload_n rfl rfl ?_
            refine r_icmp_lt rfl (fun h105 => ?_) (fun h105 => ?_)
            · rw [nI_ltI (by omega) (by omega)] at h105
              refine r_iload_n rfl rfl ?_
              refine r_iconst rfl ?_
              refine r_isub rfl ?_
              rw [r0]
              refine r_iload rfl rfl ?_
              refine r_isub rfl ?_
              rw [pk_sub (a := w - 1) (b := slwN sp br sp) (by omega)]
              refine r_iload rfl rfl ?_
              refine r_idiv rfl (by first | exact s1 | exact s2 | exact nz) ?_
              rw [show nI (w - 1 - slwN sp br sp) / nI sp = nI ((w - 1 - slwN sp br sp) / sp) from pk_div (by omega) (by omega) (by omega)]
              refine r_istore (L2 := [_, _, _, _, _, _, _, _, _, _]) rfl rfl ?_
              refine r_iload rfl rfl ?_
              refine r_iload rfl rfl ?_
              refine r_isub rfl ?_
              refine r_aload_n rfl rfl ?_
              refine r_getC rfl rfl (by decide) (by decide) rfl ?_
              refine r_iload_n rfl rfl ?_
              refine r_iald rfl rfl (by first | decide | assumption) (by first | exact s1 | exact s2 | exact nz) (by first | exact s1 | exact s2 | exact nz) ?_
              rw [bo, f1.1 101 (by decide), go.2.2.2.2.1]
              refine r_isub rfl ?_
              refine r_istore (L2 := [_, _, _, _, _, _, _, _, _, _]) rfl rfl ?_
              refine r_iload rfl rfl ?_
              refine r_if_ge rfl (fun h138 => ?_) (fun h138 => ?_)
              · have w2 : ¬ (w - 1 - slwN sp br sp) / sp < mnV T lt th n other one + th one := fun z => absurd (wsub2 xd (by omega) z) (Int32.not_lt.mpr h138)
                have kv : wrM T lt th n one other w sp br = nI ((w - 1 - slwN sp br sp) / sp - (mnV T lt th n other one + th one)) := by rw [wrM, if_neg (fun z => z.elim h99 (fun y => y.elim (by omega) w2))]
                rw [kv, wsub1 (by omega)]
                refine r_iload rfl rfl ?_
                refine r_iret rfl rfl ?_
                exact ⟨rfl, _, rfl, f1⟩
              · have w2 : (w - 1 - slwN sp br sp) / sp < mnV T lt th n other one + th one := by
                  apply Decidable.byContradiction
                  intro z
                  rw [wsub1 (by omega)] at h138
                  exact h138 (nI_pos' (by omega))
                have kv : wrM T lt th n one other w sp br = -2 := by rw [wrM, if_pos (Or.inr (Or.inr w2))]
                rw [kv]
                refine r_bipush rfl ?_
                refine r_goto rfl ?_
                refine r_iret rfl rfl ?_
                exact ⟨rfl, _, rfl, f1⟩
            · rw [nI_ltI (by omega) (by omega)] at h105
              have kv : wrM T lt th n one other w sp br = -2 := by rw [wrM, if_pos (Or.inr (Or.inl (by omega)))]
              rw [kv]
              refine r_bipush rfl ?_
              refine r_iret rfl rfl ?_
              exact ⟨rfl, _, rfl, f1⟩
        · exact absurd w1 h74
      · have w1 : ¬ nI sp - nI ((j + 1) * br) ≤ 0 := by
          rw [fa_le, pk_sub_toInt (by omega) (by omega), show (0 : Int32).toInt = 0 from rfl]
          omega
        have st : nI (slwN sp br j) + (nI sp - nI ((j + 1) * br)) = nI (slwN sp br (j + 1)) := by
          rw [pk_sub (a := sp) (b := (j + 1) * br) (by omega), nI_add, slwN]
        have st2 : nI sp - nI ((j + 1) * br) - nI br = nI sp - nI ((j + 1 + 1) * br) := by
          rw [e3, ← nI_add]
          grind
        refine r_iload rfl rfl ?_
        refine r_if_le rfl (fun h74 => ?_) (fun h74 => ?_)
        · exact absurd h74 w1
        · refine r_iload rfl rfl ?_
          refine r_iload rfl rfl ?_
          refine r_iadd rfl ?_
          rw [st]
          refine r_istore (L2 := [_, _, _, _, _, _, _, _, _, _]) rfl rfl ?_
          refine r_iload rfl rfl ?_
          refine r_iload rfl rfl ?_
          refine r_isub rfl ?_
          rw [st2]
          refine r_istore (L2 := [_, _, _, _, _, _, _, _, _, _]) rfl rfl ?_
          refine r_goto rfl ?_
          exact ih (j + 1) U _ (by omega) (by omega) f1
  refine r_aload_n rfl rfl ?_
  refine r_iconst rfl ?_
  refine r_putI rfl rfl (by decide) (by decide) rfl ?_
  try rw [hT]
  refine r_aload_n rfl rfl ?_
  refine r_iload_n rfl rfl ?_
  refine r_iload_n rfl rfl ?_
  refine r_callV rfl (ct_X11_arePair (zM hn hz)) rfl rfl rfl (by decide) rfl (am_cnt rfl) ?_
  refine r_if_eq rfl (fun h11 => ?_) (fun h11 => ?_)
  · exact absurd (two) (b01_eq0.mp h11)
  · refine r_iload_n rfl rfl ?_
    refine r_i2l rfl ?_
    refine r_lconst rfl ?_
    refine r_ldc2_w rfl ?_
    refine r_callS rfl (by decide) ct_X11_in rfl rfl (am_cnt rfl) ?_
    refine r_if_eq rfl (fun h23 => ?_) (fun h23 => ?_)
    · simp only [b01_eq0, wl_m999, wg_m999, wl_m99, wg_m99, wl_m50, wg_m50, wl_m1, wg_m1, wl_0, wg_0, wl_1, wg_1, wl_2, wg_2, wl_3, wg_3, wl_4, wg_4, wl_6, wg_6, wl_9, wg_9, wl_10, wg_10, wl_11, wg_11, wl_20, wg_20, wl_48, wg_48, wl_50, wg_50, wl_57, wg_57, wl_99, wg_99, wl_100, wg_100, wl_199, wg_199, wl_222, wg_222, wl_999, wg_999, wl_9999, wg_9999, fa_wide_le] at h23
      exact absurd c1 h23
    · refine r_iload rfl rfl ?_
      refine r_i2l rfl ?_
      refine r_lconst rfl ?_
      refine r_ldc2_w rfl ?_
      refine r_callS rfl (by decide) ct_X11_in rfl rfl (am_cnt rfl) ?_
      refine r_if_eq rfl (fun h36 => ?_) (fun h36 => ?_)
      · simp only [b01_eq0, wl_m999, wg_m999, wl_m99, wg_m99, wl_m50, wg_m50, wl_m1, wg_m1, wl_0, wg_0, wl_1, wg_1, wl_2, wg_2, wl_3, wg_3, wl_4, wg_4, wl_6, wg_6, wl_9, wg_9, wl_10, wg_10, wl_11, wg_11, wl_20, wg_20, wl_48, wg_48, wl_50, wg_50, wl_57, wg_57, wl_99, wg_99, wl_100, wg_100, wl_199, wg_199, wl_222, wg_222, wl_999, wg_999, wl_9999, wg_9999, fa_wide_le] at h36
        exact absurd c2 h36
      · refine r_iload rfl rfl ?_
        refine r_i2l rfl ?_
        refine r_lconst rfl ?_
        refine r_ldc2_w rfl ?_
        refine r_callS rfl (by decide) ct_X11_in rfl rfl (am_cnt rfl) ?_
        refine r_if_ne rfl (fun h49 => ?_) (fun h49 => ?_)
        · refine r_aload_n rfl rfl ?_
          refine r_iload_n rfl rfl ?_
          refine r_iload_n rfl rfl ?_
          refine r_callVE rfl (mnV_ct hp hn hz frW_0 hl h1) rfl rfl rfl (by decide) rfl (am_cnt rfl) (fun V hV => ?_)
          refine r_istore (L2 := [_, _, _, _, _, _, _, _, _, _]) rfl rfl ?_
          refine r_iconst rfl ?_
          refine r_istore (L2 := [_, _, _, _, _, _, _, _, _, _]) rfl rfl ?_
          refine r_iload rfl rfl ?_
          refine r_iload rfl rfl ?_
          refine r_isub rfl ?_
          refine r_istore (L2 := [_, _, _, _, _, _, _, _, _, _]) rfl rfl ?_
          have e := loop (sp + 1) 0 V none (by omega) (by omega) hV.1
          rw [show (0 + 1) * br = br by omega] at e
          exact e
        · simp only [b01_eq0, wl_m999, wg_m999, wl_m99, wg_m99, wl_m50, wg_m50, wl_m1, wg_m1, wl_0, wg_0, wl_1, wg_1, wl_2, wg_2, wl_3, wg_3, wl_4, wg_4, wl_6, wg_6, wl_9, wg_9, wl_10, wg_10, wl_11, wg_11, wl_20, wg_20, wl_48, wg_48, wl_50, wg_50, wl_57, wg_57, wl_99, wg_99, wl_100, wg_100, wl_199, wg_199, wl_222, wg_222, wl_999, wg_999, wl_9999, wg_9999, fa_wide_le] at h49
          exact absurd c3 h49
