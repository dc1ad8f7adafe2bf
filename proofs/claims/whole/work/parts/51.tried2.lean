/-! would, rules, pair of the reference. -/
theorem ct_X11_would_no {d : Nat} {S T : am_S} {m sd : Int32} (hT : uI S 97 0 0 = T) (h : ¬ (1 ≤ m ∧ m ≤ 199)) : am_CT (d + 8) iX11_would [.ref 97, .int m, .int sd] S (some (.int (-1))) (T) := by
  refine am_CT_in mmX11_would rfl rfl rfl ?_
  refine r_aload_n rfl rfl ?_
  refine r_iconst rfl ?_
  refine r_putI rfl rfl (by decide) (by decide) rfl ?_
  try rw [hT]
  refine r_iload_n rfl rfl ?_
  refine r_i2l rfl ?_
  refine r_lconst rfl ?_
  refine r_ldc2_w rfl ?_
  refine r_callS rfl (by decide) ct_X11_in rfl rfl (am_cnt rfl) ?_
  refine r_if_ne rfl (fun h14 => ?_) (fun h14 => ?_)
  · simp only [b01_eq0, wl_m999, wg_m999, wl_m99, wg_m99, wl_m50, wg_m50, wl_m1, wg_m1, wl_0, wg_0, wl_1, wg_1, wl_2, wg_2, wl_3, wg_3, wl_4, wg_4, wl_6, wg_6, wl_9, wg_9, wl_10, wg_10, wl_11, wg_11, wl_20, wg_20, wl_48, wg_48, wl_50, wg_50, wl_57, wg_57, wl_99, wg_99, wl_100, wg_100, wl_199, wg_199, wl_222, wg_222, wl_999, wg_999, wl_9999, wg_9999, fa_wide_le] at h14
    exact absurd (Decidable.not_not.mp h14) h
  · refine r_iconst rfl ?_
    refine r_iret rfl rfl ?_
    exact ⟨rfl, rfl⟩
theorem ct_X11_would_ok {d : Nat} {S T : am_S} {n nw m : Nat} {lt st th dg : Nat → Nat} {fs : Nat → Nat → Int32} {fz : Nat → Nat} {sd x y : Int32} (hT : uI S 97 0 0 = T) (hC : MCfg T n nw lt st th dg fs fz) (h1 : 1 ≤ m) (hm : m ≤ 199) (hx : CostIs T n dg fs fz sd m x y) : am_CE (d + 8) iX11_would [.ref 97, .int (nI m), .int sd] S (some (.int x)) (fun U => ∃ U1, FrT T U1 ∧ U = e1 U1 y.toInt64) := by
  refine am_CE_in mmX11_would rfl rfl rfl ?_
  have c1 : 1 ≤ nI m ∧ nI m ≤ 199 := ⟨nI_le (a := 1) h1 (by omega), nI_le (b := 199) hm (by omega)⟩
  refine r_aload_n rfl rfl ?_
  refine r_iconst rfl ?_
  refine r_putI rfl rfl (by decide) (by decide) rfl ?_
  try rw [hT]
  refine r_iload_n rfl rfl ?_
  refine r_i2l rfl ?_
  refine r_lconst rfl ?_
  refine r_ldc2_w rfl ?_
  refine r_callS rfl (by decide) ct_X11_in rfl rfl (am_cnt rfl) ?_
  refine r_if_ne rfl (fun h14 => ?_) (fun h14 => ?_)
  · refine r_aload_n rfl rfl ?_
    refine r_iload_n rfl rfl ?_
    refine r_iload_n rfl rfl ?_
    refine r_callVE rfl (ct_X11_costs hC hm hx) rfl rfl rfl (by decide) rfl (am_cnt rfl) (fun U hU => ?_)
    refine r_istore_n (L2 := [_, _, _, _]) rfl rfl ?_
    refine r_aload_n rfl rfl ?_
    refine r_iconst rfl ?_
    refine r_putI rfl rfl (by decide) (by decide) rfl ?_
    refine r_aload_n rfl rfl ?_
    refine r_aload_n rfl rfl ?_
    refine r_getI rfl rfl (by decide) (by decide) rfl ?_
    rw [show gI (uI U 97 1 0) 97 32 = y from by rw [gI_uI, if_pos rfl, if_neg (by decide), hU.2]]
    refine r_i2l rfl ?_
    refine r_callV rfl (ct_X11_enters u971 (by decide)) rfl rfl rfl (by decide) rfl (am_cnt rfl) ?_
    refine r_iload_n rfl rfl ?_
    refine r_iret rfl rfl ?_
    exact ⟨rfl, _, rfl, U, hU.1, rfl⟩
  · simp only [b01_eq0, wl_m999, wg_m999, wl_m99, wg_m99, wl_m50, wg_m50, wl_m1, wg_m1, wl_0, wg_0, wl_1, wg_1, wl_2, wg_2, wl_3, wg_3, wl_4, wg_4, wl_6, wg_6, wl_9, wg_9, wl_10, wg_10, wl_11, wg_11, wl_20, wg_20, wl_48, wg_48, wl_50, wg_50, wl_57, wg_57, wl_99, wg_99, wl_100, wg_100, wl_199, wg_199, wl_222, wg_222, wl_999, wg_999, wl_9999, wg_9999, fa_wide_le] at h14
    exact absurd c1 h14
/-- best, least, of j rules from f on -/
def rlM (fz : Nat → Nat) (c : Nat → Int32) (f : Nat) : Nat → Int32 × Int32
  | 0 => (-2, 0)
  | j + 1 => if (f + j) % 2 = 0 ∧ 0 < fz (f + j) then (if (rlM fz c f j).1 = -2 ∨ c (f + j) < (rlM fz c f j).2 then (nI (f + j), c (f + j)) else rlM fz c f j) else rlM fz c f j
theorem rlM_or {fz : Nat → Nat} {c : Nat → Int32} {f : Nat} : ∀ j, (rlM fz c f j).1 = -2 ∨ ∃ i, i < f + j ∧ (rlM fz c f j).1 = nI i
  | 0 => Or.inl rfl
  | j + 1 => by
    unfold rlM
    have e := rlM_or (fz := fz) (c := c) (f := f) j
    split
    · split
      · exact Or.inr ⟨f + j, by omega, rfl⟩
      · rcases e with e | ⟨i, hi, e⟩
        · exact Or.inl e
        · exact Or.inr ⟨i, by omega, e⟩
    · rcases e with e | ⟨i, hi, e⟩
      · exact Or.inl e
      · exact Or.inr ⟨i, by omega, e⟩
abbrev dg2 : Nat → Nat := fun p => 2 * p
def Idle (S : am_S) : Prop := ∀ p, p < 6 → gI S 111 p = -1
theorem set_back {S : am_S} {p : Nat} {x : Int32} (h : gI S 111 p = -1) : ∀ a, gI (uI (uI S 111 p x) 111 p (-1)) 111 a = gI S 111 a := fun a => by
  rw [uI_uI, gI_uI, if_pos rfl]
  by_cases ha : a = p
  · rw [if_pos ha, ha, h]
  · rw [if_neg ha]
theorem ins_cfg {S : am_S} {n nw p i : Nat} {lt st th : Nat → Nat} {fs : Nat → Nat → Int32} {fz : Nat → Nat} (hC : MCfg S n nw lt st th dg2 fs fz) (hi : Idle S) (h12 : i < 12) : MCfg (uI S 111 p (nI i)) n nw lt st th (dgI dg2 p i) fs fz := by
  obtain ⟨c1, c2, c3, c4, c5, c6⟩ := hC
  refine ⟨by rw [gI_uI_ne (by decide), c1], c2, by rw [gI_uI_ne (by decide), c3], fun q hq => ?_, fun q hq => ?_, fun j hj => ?_⟩
  · rw [gI_uI_ne (by decide), gI_uI_ne (by decide), gI_uI_ne (by decide)]
    exact c4 q hq
  · unfold dgI
    rw [gI_uI, if_pos rfl]
    by_cases h : q = p
    · rw [if_pos h, if_pos h]
      exact ⟨h12, Or.inl rfl⟩
    · rw [if_neg h, if_neg h]
      exact ⟨by show 2 * q < 12; omega, Or.inr ⟨hi q hq, rfl⟩⟩
  · have := c6 j hj
    unfold FmOk at this ⊢
    rw [gI_uI_ne (by decide), gI_uI_ne (by decide)]
    exact this
theorem cost_u {S T : am_S} {n : Nat} {dg : Nat → Nat} {fs : Nat → Nat → Int32} {fz : Nat → Nat} {sd : Int32} {m : Nat} {x y : Int32} (h : CostIs S n dg fs fz sd m x y) (ho : ∀ o, (o = 99 ∨ o = 100 ∨ o = 101 ∨ o = 102 ∨ o = 104 ∨ o = 105) → gI T o = gI S o) (hk : ∀ k, (k = 3 ∨ k = 9 ∨ k = 10 ∨ k = 11 ∨ k = 12) → gI T 97 k = gI S 97 k) : CostIs T n dg fs fz sd m x y := fun B U hB hU => h B U (begB_of hB ho hk) hU
theorem ct_X11_rules_no {d : Nat} {S T : am_S} {p f t m : Int32} (hT : uI S 97 0 0 = T) (hz : 0 ≤ gI T 97 3) (h : ¬ (hasM T p ∧ (0 ≤ f ∧ f ≤ 11) ∧ (f ≤ t ∧ t ≤ 11) ∧ 1 ≤ m ∧ m ≤ 199)) : am_CT (d + 8) iX11_rules [.ref 97, .int p, .int f, .int t, .int m] S (some (.int (-1))) (T) := by
  refine am_CT_in mmX11_rules rfl rfl rfl ?_
  refine r_aload_n rfl rfl ?_
  refine r_iconst rfl ?_
  refine r_putI rfl rfl (by decide) (by decide) rfl ?_
  try rw [hT]
  refine r_aload_n rfl rfl ?_
  refine r_iload_n rfl rfl ?_
  refine r_callV rfl (ct_X11_isPerson hz) rfl rfl rfl (by decide) rfl (am_cnt rfl) ?_
  refine r_if_eq rfl (fun h10 => ?_) (fun h10 => ?_)
  · refine r_iconst rfl ?_
    refine r_iret rfl rfl ?_
    exact ⟨rfl, rfl⟩
  · refine r_iload_n rfl rfl ?_
    refine r_i2l rfl ?_
    refine r_lconst rfl ?_
    refine r_ldc2_w rfl ?_
    refine r_callS rfl (by decide) ct_X11_in rfl rfl (am_cnt rfl) ?_
    refine r_if_eq rfl (fun h22 => ?_) (fun h22 => ?_)
    · refine r_iconst rfl ?_
      refine r_iret rfl rfl ?_
      exact ⟨rfl, rfl⟩
    · refine r_iload_n rfl rfl ?_
      refine r_i2l rfl ?_
      refine r_iload_n rfl rfl ?_
      refine r_i2l rfl ?_
      refine r_ldc2_w rfl ?_
      refine r_callS rfl (by decide) ct_X11_in rfl rfl (am_cnt rfl) ?_
      refine r_if_eq rfl (fun h35 => ?_) (fun h35 => ?_)
      · refine r_iconst rfl ?_
        refine r_iret rfl rfl ?_
        exact ⟨rfl, rfl⟩
      · refine r_iload rfl rfl ?_
        refine r_i2l rfl ?_
        refine r_lconst rfl ?_
        refine r_ldc2_w rfl ?_
        refine r_callS rfl (by decide) ct_X11_in rfl rfl (am_cnt rfl) ?_
        refine r_if_ne rfl (fun h48 => ?_) (fun h48 => ?_)
        · exfalso
          simp only [b01_eq0, wg_0, wl_11, wg_1, wl_199, fa_wide_le] at *
          grind
        · refine r_iconst rfl ?_
          refine r_iret rfl rfl ?_
          exact ⟨rfl, rfl⟩
theorem ct_X11_rules_ok {d : Nat} {S T : am_S} {n nw p f t m : Nat} {lt st th : Nat → Nat} {fs : Nat → Nat → Int32} {fz : Nat → Nat} {c y : Nat → Int32} (hT : uI S 97 0 0 = T) (hC : MCfg T n nw lt st th dg2 fs fz) (hI : Idle T) (hp : p < n) (hf : f ≤ t) (ht : t < 12) (h1 : 1 ≤ m) (hm : m ≤ 199) (hx : ∀ i, i < 12 → i % 2 = 0 → 0 < fz i → CostIs T n (dgI dg2 p i) fs fz 1 m (c i) (y i)) : am_CE (d + 8) iX11_rules [.ref 97, .int (nI p), .int (nI f), .int (nI t), .int (nI m)] S (some (.int (rlM fz c f (t + 1 - f)).1)) (fun U => ∃ U1, FrT T U1 ∧ U = if (rlM fz c f (t + 1 - f)).1 = -2 then U1 else e1 U1 (rlM fz c f (t + 1 - f)).2.toInt64) := by
  refine am_CE_in mmX11_rules rfl rfl rfl ?_
  have hn := hC.1
  have hz := hC.2.1
  have hpc := hasM_nI hn hz hp
  have c1 : 1 ≤ nI m ∧ nI m ≤ 199 := ⟨nI_le (a := 1) h1 (by omega), nI_le (b := 199) hm (by omega)⟩
  have c2 : 0 ≤ nI f ∧ nI f ≤ 11 := ⟨nI_pos' (by omega), nI_le (b := 11) (by omega) (by omega)⟩
  have c3 : nI f ≤ nI t ∧ nI t ≤ 11 := ⟨nI_le hf (by omega), nI_le (b := 11) (by omega) (by omega)⟩
  have bp : (nI p).toNatClampNeg = p := nI_clamp (by omega)
  have s1 : 0 ≤ nI p := nI_pos' (by omega)
  have s2 : nI p < Int32.ofNat 6 := nI_lt (by omega) (by omega)
  have loop : ∀ (k : Nat) (j : Nat) (U : am_S) (v8 : Option Value), (f + j ≤ t + 1) → (t + 1 < f + j + k) → (FrT T U) → am_Ex (am_Call am_MT (d + 7)) mmX11_rules none (fun r1 G1 => r1 = (some (.int (rlM fz c f (t + 1 - f)).1)) ∧ ∃ S2, G1 = am_H S2 ∧ (fun U => ∃ U1, FrT T U1 ∧ U = if (rlM fz c f (t + 1 - f)).1 = -2 then U1 else e1 U1 (rlM fz c f (t + 1 - f)).2.toInt64) S2) (fun _ _ _ _ _ _ => False) 63 [some (.ref 97), some (.int (nI p)), some (.int (nI f)), some (.int (nI t)), some (.int (nI m)), some (.int (rlM fz c f j).1), some (.int (rlM fz c f j).2), some (.int (nI (f + j))), v8] [] (am_H (U)) 0 0 := by
    intro k
    induction k with
    | zero =>
      intro j U v8 q1 q2 g1
      omega
    | succ k ih =>
      intro j U v8 q1 q2 g1
      have hor := rlM_or (fz := fz) (c := c) (f := f) j
      have neg : (rlM fz c f j).1 < 0 ↔ (rlM fz c f j).1 = -2 := by
        rcases hor with h | ⟨i, hi, h⟩
        · rw [h]; decide
        · rw [h]
          exact ⟨fun z => absurd z (nI_pos (by omega)), fun z => absurd (show nI i < 0 by rw [z]; decide) (nI_pos (by omega))⟩
      by_cases hj : j = t + 1 - f
      · have w1 : nI t < nI (f + j) := nI_lt (by omega) (by omega)
        rw [← hj]
        refine r_iload rfl rfl ?_
        refine r_iload_n rfl rfl ?_
        refine r_icmp_gt rfl (fun h66 => ?_) (fun h66 => ?_)
        · refine r_iload rfl rfl ?_
          refine r_if_lt rfl (fun h142 => ?_) (fun h142 => ?_)
          · refine r_iload rfl rfl ?_
            refine r_iret rfl rfl ?_
            refine ⟨rfl, _, rfl, U, g1, ?_⟩
            first | rw [if_pos (neg.mp h142)] | (rw [if_neg (fun z => h142 (neg.mpr z))]; rfl)
          · refine r_aload_n rfl rfl ?_
            refine r_iconst rfl ?_
            refine r_putI rfl rfl (by decide) (by decide) rfl ?_
            refine r_aload_n rfl rfl ?_
            refine r_iload rfl rfl ?_
            refine r_i2l rfl ?_
            refine r_callV rfl (ct_X11_enters u971 (by decide)) rfl rfl rfl (by decide) rfl (am_cnt rfl) ?_
            refine r_iload rfl rfl ?_
            refine r_iret rfl rfl ?_
            refine ⟨rfl, _, rfl, U, g1, ?_⟩
            first | rw [if_pos (neg.mp h142)] | (rw [if_neg (fun z => h142 (neg.mpr z))]; rfl)
        · exact absurd w1 h66
      · have w1 : ¬ nI t < nI (f + j) := nI_nlt (by omega) (by omega)
        have b2 : (nI (f + j)).toNatClampNeg = f + j := nI_clamp (by omega)
        have s3 : 0 ≤ nI (f + j) := nI_pos' (by omega)
        have s4 : nI (f + j) < Int32.ofNat 14 := nI_lt (by omega) (by omega)
        have r2 : nI (f + j) - nI (f + j) / 2 * 2 = nI ((f + j) % 2) := pk_rem (d := 2) (by omega) (by decide) (by decide)
        have fz1 : gI U 105 (nI (f + j)).toNatClampNeg = nI (fz (f + j)) := by rw [b2, g1.1 105 (by decide) (by decide) (by decide) (by decide) (by decide) (by decide) (by decide) (by decide)]; exact (hC.2.2.2.2.2 (f + j) (by omega)).1
        have f40 : fz (f + j) ≤ 40 := (hC.2.2.2.2.2 (f + j) (by omega)).2.2.1
        by_cases hc : (f + j) % 2 = 0 ∧ 0 < fz (f + j)
        · have hidU : Idle U := fun q hq => by rw [g1.2.2.2.2.1 q]; exact hI q hq
          have cU := frT_cfg g1 hC
          have ci := ins_cfg (p := p) cU hidU (show f + j < 12 by omega)
          have uo : ∀ o, (o = 99 ∨ o = 100 ∨ o = 101 ∨ o = 102 ∨ o = 104 ∨ o = 105) → gI (uI U 111 p (nI (f + j))) o = gI T o := fun o ho => by rw [gI_uI_ne (by omega), g1.1 o (by omega) (by omega) (by omega) (by omega) (by omega) (by omega) (by omega) (by omega)]
          have uk : ∀ k, (k = 3 ∨ k = 9 ∨ k = 10 ∨ k = 11 ∨ k = 12) → gI (uI U 111 p (nI (f + j))) 97 k = gI T 97 k := fun k hk => by rw [gI_uI_ne (by decide), g1.2.1 k (by omega) (by omega) (by omega)]
          have cx := cost_u (hx (f + j) (by omega) hc.1 hc.2) uo uk
          have nx : rlM fz c f (j + 1) = if (rlM fz c f j).1 = -2 ∨ c (f + j) < (rlM fz c f j).2 then (nI (f + j), c (f + j)) else rlM fz c f j := by rw [rlM, if_pos hc]
          have bk : ∀ V, FrT (uI U 111 p (nI (f + j))) V → FrT T (uI V 111 p (-1)) := fun V hV => by
            refine ⟨fun o a b c e f g h i => ?_, fun k a b c => ?_, fun a ha => ?_, fun a ha => ?_, fun a => ?_, fun o => ?_, fun c => ?_⟩
            · rw [gI_uI_ne g, hV.1 o a b c e f g h i, gI_uI_ne g, g1.1 o a b c e f g h i]
            · rw [gI_uI_ne (by decide), hV.2.1 k a b c, gI_uI_ne (by decide), g1.2.1 k a b c]
            · rw [gI_uI_ne (by decide), hV.2.2.1 a ha, gI_uI_ne (by decide), g1.2.2.1 a ha]
            · rw [gI_uI_ne (by decide), hV.2.2.2.1 a ha, gI_uI_ne (by decide), g1.2.2.2.1 a ha]
            · rw [gI_uI, if_pos rfl]
              by_cases h : a = p
              · rw [if_pos h, h, hI p (by omega)]
              · rw [if_neg h, hV.2.2.2.2.1 a, gI_uI, if_pos rfl, if_neg h, g1.2.2.2.2.1 a]
            · rw [gJ_uI_f, hV.2.2.2.2.2.1 o, gJ_uI_f, g1.2.2.2.2.2.1 o]
            · rw [gR_uI, hV.2.2.2.2.2.2 c, gR_uI, g1.2.2.2.2.2.2 c]
          have odd : nI (f + j) - nI (f + j) / 2 * 2 = 0 := by rw [r2, hc.1]; rfl
          have n0 : ¬ nI (fz (f + j)) = 0 := nI_ne0 hc.2 (by omega)
          refine r_iload rfl rfl ?_
          refine r_iload_n rfl rfl ?_
          refine r_icmp_gt rfl (fun h66 => ?_) (fun h66 => ?_)
          · exact absurd h66 w1
          · refine r_iload rfl rfl ?_
            refine r_iconst rfl ?_
            refine r_irem rfl (by decide) ?_
            refine r_iconst rfl ?_
            rw [odd]
            refine r_icmp_eq rfl (fun h74 => ?_) (fun h74 => ?_)
            · first | exact absurd h74 (by decide) | exact absurd (by decide) h74
            · refine r_aload_n rfl rfl ?_
              refine r_getC rfl rfl (by decide) (by decide) rfl ?_
              refine r_iload rfl rfl ?_
              refine r_iald rfl rfl (by first | decide | assumption) (by first | exact s1 | exact s2 | exact s3 | exact s4) (by first | exact s1 | exact s2 | exact s3 | exact s4) ?_
              rw [fz1]
              refine r_if_ne rfl (fun h84 => ?_) (fun h84 => ?_)
              · refine r_aload_n rfl rfl ?_
                refine r_getC rfl rfl (by decide) (by decide) rfl ?_
                refine r_iload_n rfl rfl ?_
                refine r_iload rfl rfl ?_
                refine r_iast rfl rfl (by first | decide | assumption) (by first | exact s1 | exact s2 | exact s3 | exact s4) (by first | exact s1 | exact s2 | exact s3 | exact s4) ?_
                rw [bp]
                refine r_aload_n rfl rfl ?_
                refine r_iload rfl rfl ?_
                refine r_iconst rfl ?_
                refine r_callVE rfl (ct_X11_costs ci hm cx) rfl rfl rfl (by decide) rfl (am_cnt rfl) (fun V hV => ?_)
                refine r_istore (L2 := [_, _, _, _, _, _, _, _, _]) rfl rfl ?_
                refine r_aload_n rfl rfl ?_
                refine r_getC rfl rfl (by decide) (by decide) rfl ?_
                refine r_iload_n rfl rfl ?_
                refine r_iconst rfl ?_
                refine r_iast rfl rfl (by first | decide | assumption) (by first | exact s1 | exact s2 | exact s3 | exact s4) (by first | exact s1 | exact s2 | exact s3 | exact s4) ?_
                refine r_iload rfl rfl ?_
                refine r_if_lt rfl (fun h116 => ?_) (fun h116 => ?_)
                · rw [if_pos (Or.inl (neg.mp h116))] at nx
                  refine r_iload rfl rfl ?_
                  refine r_istore (L2 := [_, _, _, _, _, _, _, _, _]) rfl rfl ?_
                  refine r_iload rfl rfl ?_
                  refine r_istore (L2 := [_, _, _, _, _, _, _, _, _]) rfl rfl ?_
                  refine r_iinc (L2 := [_, _, _, _, _, _, _, _, _]) rfl rfl rfl ?_
                  refine r_goto rfl ?_
                  rw [bp, nI_1]
                  have e := ih (j + 1) _ (some (.int (c (f + j)))) (by omega) (by omega) (bk V hV.1)
                  rw [nx] at e
                  exact e
                · refine r_iload rfl rfl ?_
                  refine r_iload rfl rfl ?_
                  refine r_icmp_ge rfl (fun h123 => ?_) (fun h123 => ?_)
                  · rw [if_neg (fun z => z.elim (fun y => h116 (neg.mpr y)) (Int32.not_lt.mpr h123))] at nx
                    refine r_iinc (L2 := [_, _, _, _, _, _, _, _, _]) rfl rfl rfl ?_
                    refine r_goto rfl ?_
                    rw [bp, nI_1]
                    have e := ih (j + 1) _ (some (.int (c (f + j)))) (by omega) (by omega) (bk V hV.1)
                    rw [nx] at e
                    exact e
                  · rw [if_pos (Or.inr (Int32.not_le.mp h123))] at nx
                    refine r_iload rfl rfl ?_
                    refine r_istore (L2 := [_, _, _, _, _, _, _, _, _]) rfl rfl ?_
                    refine r_iload rfl rfl ?_
                    refine r_istore (L2 := [_, _, _, _, _, _, _, _, _]) rfl rfl ?_
                    refine r_iinc (L2 := [_, _, _, _, _, _, _, _, _]) rfl rfl rfl ?_
                    refine r_goto rfl ?_
                    rw [bp, nI_1]
                    have e := ih (j + 1) _ (some (.int (c (f + j)))) (by omega) (by omega) (bk V hV.1)
                    rw [nx] at e
                    exact e
              · exact absurd h84 n0
        · have nx : rlM fz c f (j + 1) = rlM fz c f j := by rw [rlM, if_neg hc]
          refine r_iload rfl rfl ?_
          refine r_iload_n rfl rfl ?_
          refine r_icmp_gt rfl (fun h66 => ?_) (fun h66 => ?_)
          · exact absurd h66 w1
          · refine r_iload rfl rfl ?_
            refine r_iconst rfl ?_
            refine r_irem rfl (by decide) ?_
            refine r_iconst rfl ?_
            refine r_icmp_eq rfl (fun h74 => ?_) (fun h74 => ?_)
            · refine r_iinc (L2 := [_, _, _, _, _, _, _, _, _]) rfl rfl rfl ?_
              refine r_goto rfl ?_
              rw [nI_1]
              have e := ih (j + 1) U v8 (by omega) (by omega) g1
              rw [nx] at e
              exact e
            · rw [r2] at h74
              have hc0 : (f + j) % 2 = 0 := by
                have h3 : ¬ (f + j) % 2 = 1 := fun z => h74 (by rw [z]; rfl)
                omega
              refine r_aload_n rfl rfl ?_
              refine r_getC rfl rfl (by decide) (by decide) rfl ?_
              refine r_iload rfl rfl ?_
              refine r_iald rfl rfl (by first | decide | assumption) (by first | exact s1 | exact s2 | exact s3 | exact s4) (by first | exact s1 | exact s2 | exact s3 | exact s4) ?_
              refine r_if_ne rfl (fun h84 => ?_) (fun h84 => ?_)
              · exfalso
                rw [fz1] at h84
                have h3 : ¬ fz (f + j) = 0 := fun z => h84 (by rw [z]; rfl)
                exact hc ⟨hc0, by omega⟩
              · refine r_goto rfl ?_
                refine r_iinc (L2 := [_, _, _, _, _, _, _, _, _]) rfl rfl rfl ?_
                refine r_goto rfl ?_
                rw [nI_1]
                have e := ih (j + 1) U v8 (by omega) (by omega) g1
                rw [nx] at e
                exact e
  refine r_aload_n rfl rfl ?_
  refine r_iconst rfl ?_
  refine r_putI rfl rfl (by decide) (by decide) rfl ?_
  try rw [hT]
  refine r_aload_n rfl rfl ?_
  refine r_iload_n rfl rfl ?_
  refine r_callV rfl (ct_X11_isPerson (zM hn hz)) rfl rfl rfl (by decide) rfl (am_cnt rfl) ?_
  refine r_if_eq rfl (fun h10 => ?_) (fun h10 => ?_)
  · exact absurd (hpc) (b01_eq0.mp h10)
  · refine r_iload_n rfl rfl ?_
    refine r_i2l rfl ?_
    refine r_lconst rfl ?_
    refine r_ldc2_w rfl ?_
    refine r_callS rfl (by decide) ct_X11_in rfl rfl (am_cnt rfl) ?_
    refine r_if_eq rfl (fun h22 => ?_) (fun h22 => ?_)
    · simp only [b01_eq0, wl_m999, wg_m999, wl_m99, wg_m99, wl_m50, wg_m50, wl_m1, wg_m1, wl_0, wg_0, wl_1, wg_1, wl_2, wg_2, wl_3, wg_3, wl_4, wg_4, wl_6, wg_6, wl_9, wg_9, wl_10, wg_10, wl_11, wg_11, wl_20, wg_20, wl_48, wg_48, wl_50, wg_50, wl_57, wg_57, wl_99, wg_99, wl_100, wg_100, wl_199, wg_199, wl_222, wg_222, wl_999, wg_999, wl_9999, wg_9999, fa_wide_le] at h22
      exact absurd c2 h22
    · refine r_iload_n rfl rfl ?_
      refine r_i2l rfl ?_
      refine r_iload_n rfl rfl ?_
      refine r_i2l rfl ?_
      refine r_ldc2_w rfl ?_
      refine r_callS rfl (by decide) ct_X11_in rfl rfl (am_cnt rfl) ?_
      refine r_if_eq rfl (fun h35 => ?_) (fun h35 => ?_)
      · simp only [b01_eq0, wl_11, fa_wide_le] at h35
        exact absurd c3 h35
      · refine r_iload rfl rfl ?_
        refine r_i2l rfl ?_
        refine r_lconst rfl ?_
        refine r_ldc2_w rfl ?_
        refine r_callS rfl (by decide) ct_X11_in rfl rfl (am_cnt rfl) ?_
        refine r_if_ne rfl (fun h48 => ?_) (fun h48 => ?_)
        · refine r_bipush rfl ?_
          refine r_istore (L2 := [_, _, _, _, _, _, _, _, _]) rfl rfl ?_
          refine r_iconst rfl ?_
          refine r_istore (L2 := [_, _, _, _, _, _, _, _, _]) rfl rfl ?_
          refine r_iload_n rfl rfl ?_
          refine r_istore (L2 := [_, _, _, _, _, _, _, _, _]) rfl rfl ?_
          exact loop (t + 2) 0 T none (by omega) (by omega) frT_0
        · simp only [b01_eq0, wl_m999, wg_m999, wl_m99, wg_m99, wl_m50, wg_m50, wl_m1, wg_m1, wl_0, wg_0, wl_1, wg_1, wl_2, wg_2, wl_3, wg_3, wl_4, wg_4, wl_6, wg_6, wl_9, wg_9, wl_10, wg_10, wl_11, wg_11, wl_20, wg_20, wl_48, wg_48, wl_50, wg_50, wl_57, wg_57, wl_99, wg_99, wl_100, wg_100, wl_199, wg_199, wl_222, wg_222, wl_999, wg_999, wl_9999, wg_9999, fa_wide_le] at h48
          exact absurd c1 h48
/-- pairs tried: least, which -/
def pmX (fz : Nat → Nat) (c : Nat → Nat → Int32) (X : Int32 × Int32 × Int32) (i k : Nat) : Int32 × Int32 × Int32 := if 0 < fz i ∧ 0 < fz k then (if X.1 < 0 ∨ c i k < X.1 then (c i k, nI i, nI k) else X) else X
def pmI (fz : Nat → Nat) (c : Nat → Nat → Int32) (X : Int32 × Int32 × Int32) (i : Nat) : Nat → Int32 × Int32 × Int32
  | 0 => X
  | k + 1 => pmX fz c (pmI fz c X i k) i (2 * k)
def pmO (fz : Nat → Nat) (c : Nat → Nat → Int32) : Nat → Int32 × Int32 × Int32
  | 0 => (-1, 0, 0)
  | i + 1 => pmI fz c (pmO fz c i) (2 * i) 6
theorem ins_cfg2 {S : am_S} {n nw p q i k : Nat} {lt st th : Nat → Nat} {fs : Nat → Nat → Int32} {fz : Nat → Nat} (hC : MCfg S n nw lt st th dg2 fs fz) (hi : Idle S) (h12 : i < 12) (h13 : k < 12) : MCfg (uI (uI S 111 p (nI i)) 111 q (nI k)) n nw lt st th (dgP dg2 p q i k) fs fz := by
  obtain ⟨c1, c2, c3, c4, c5, c6⟩ := hC
  refine ⟨by rw [gI_uI_ne (by decide), gI_uI_ne (by decide), c1], c2, by rw [gI_uI_ne (by decide), gI_uI_ne (by decide), c3], fun r hr => ?_, fun r hr => ?_, fun j hj => ?_⟩
  · rw [gI_uI_ne (by decide), gI_uI_ne (by decide), gI_uI_ne (by decide), gI_uI_ne (by decide), gI_uI_ne (by decide), gI_uI_ne (by decide)]
    exact c4 r hr
  · unfold dgP dgI
    rw [gI_uI, if_pos rfl]
    by_cases h : r = q
    · rw [if_pos h, if_pos h]
      exact ⟨h13, Or.inl rfl⟩
    · rw [if_neg h, if_neg h, gI_uI, if_pos rfl]
      by_cases h2 : r = p
      · rw [if_pos h2, if_pos h2]
        exact ⟨h12, Or.inl rfl⟩
      · rw [if_neg h2, if_neg h2]
        exact ⟨by show 2 * r < 12; omega, Or.inr ⟨hi r hr, rfl⟩⟩
  · have := c6 j hj
    unfold FmOk at this ⊢
    rw [gI_uI_ne (by decide), gI_uI_ne (by decide), gI_uI_ne (by decide), gI_uI_ne (by decide)]
    exact this
theorem ct_X11_pair_no {d : Nat} {S T : am_S} {p q m : Int32} (hT : uI S 97 0 0 = T) (hz : 0 ≤ gI T 97 3) (h : ¬ (twoM T p q ∧ 1 ≤ m ∧ m ≤ 199)) : am_CT (d + 8) iX11_pair [.ref 97, .int p, .int q, .int m] S (some (.int (-1))) (T) := by
  refine am_CT_in mmX11_pair rfl rfl rfl ?_
  refine r_aload_n rfl rfl ?_
  refine r_iconst rfl ?_
  refine r_putI rfl rfl (by decide) (by decide) rfl ?_
  try rw [hT]
  refine r_aload_n rfl rfl ?_
  refine r_iload_n rfl rfl ?_
  refine r_iload_n rfl rfl ?_
  refine r_callV rfl (ct_X11_arePair hz) rfl rfl rfl (by decide) rfl (am_cnt rfl) ?_
  refine r_if_eq rfl (fun h11 => ?_) (fun h11 => ?_)
  · refine r_iconst rfl ?_
    refine r_iret rfl rfl ?_
    exact ⟨rfl, rfl⟩
  · refine r_iload_n rfl rfl ?_
    refine r_i2l rfl ?_
    refine r_lconst rfl ?_
    refine r_ldc2_w rfl ?_
    refine r_callS rfl (by decide) ct_X11_in rfl rfl (am_cnt rfl) ?_
    refine r_if_ne rfl (fun h23 => ?_) (fun h23 => ?_)
    · exfalso
      simp only [b01_eq0, wl_m999, wg_m999, wl_m99, wg_m99, wl_m50, wg_m50, wl_m1, wg_m1, wl_0, wg_0, wl_1, wg_1, wl_2, wg_2, wl_3, wg_3, wl_4, wg_4, wl_6, wg_6, wl_9, wg_9, wl_10, wg_10, wl_11, wg_11, wl_20, wg_20, wl_48, wg_48, wl_50, wg_50, wl_57, wg_57, wl_99, wg_99, wl_100, wg_100, wl_199, wg_199, wl_222, wg_222, wl_999, wg_999, wl_9999, wg_9999, fa_wide_le] at *
      grind
    · refine r_iconst rfl ?_
      refine r_iret rfl rfl ?_
      exact ⟨rfl, rfl⟩
theorem twoM_nI {S : am_S} {n p q : Nat} (hn : gI S 97 3 = nI n) (hz : n ≤ 6) (hp : p < n) (hq : q < n) (hpq : p ≠ q) : twoM S (nI p) (nI q) := ⟨hasM_nI hn hz hp, hasM_nI hn hz hq, fun z => hpq (nI_inj (by omega) (by omega) z)⟩
theorem ct_X11_pair_ok {d : Nat} {S T : am_S} {n nw p q m : Nat} {lt st th : Nat → Nat} {fs : Nat → Nat → Int32} {fz : Nat → Nat} {c y : Nat → Nat → Int32} (hT : uI S 97 0 0 = T) (hC : MCfg T n nw lt st th dg2 fs fz) (hI : Idle T) (hp : p < n) (hq : q < n) (hpq : p ≠ q) (h1 : 1 ≤ m) (hm : m ≤ 199) (hx : ∀ i k, i < 12 → k < 12 → i % 2 = 0 → k % 2 = 0 → 0 < fz i → 0 < fz k → CostIs T n (dgP dg2 p q i k) fs fz 1 m (c i k) (y i k)) : am_CE (d + 8) iX11_pair [.ref 97, .int (nI p), .int (nI q), .int (nI m)] S (some (.int (if (pmO fz c 6).1 < 0 then -2 else (pmO fz c 6).1))) (fun U => ∃ U1, FrT T U1 ∧ U = if (pmO fz c 6).1 < 0 then U1 else e2 U1 (pmO fz c 6).2.1.toInt64 (pmO fz c 6).2.2.toInt64) := by
  refine am_CE_in mmX11_pair rfl rfl rfl ?_
  have hn := hC.1
  have hz := hC.2.1
  have hpc := twoM_nI hn hz hp hq hpq
  have c1 : 1 ≤ nI m ∧ nI m ≤ 199 := ⟨nI_le (a := 1) h1 (by omega), nI_le (b := 199) hm (by omega)⟩
  have bp : (nI p).toNatClampNeg = p := nI_clamp (by omega)
  have bq : (nI q).toNatClampNeg = q := nI_clamp (by omega)
  have s1 : 0 ≤ nI p := nI_pos' (by omega)
  have s2 : nI p < Int32.ofNat 6 := nI_lt (by omega) (by omega)
  have s3 : 0 ≤ nI q := nI_pos' (by omega)
  have s4 : nI q < Int32.ofNat 6 := nI_lt (by omega) (by omega)
  have n2 : ∀ a, nI a + 2 = nI (a + 2) := fun a => nI_add a 2
  have loop : ∀ (k : Nat) (i : Nat) (U : am_S) (v8 : Option Value) (v9 : Option Value), (i ≤ 6) → (6 < i + k) → (FrT T U) → am_Ex (am_Call am_MT (d + 7)) mmX11_pair none (fun r1 G1 => r1 = (some (.int (if (pmO fz c 6).1 < 0 then -2 else (pmO fz c 6).1))) ∧ ∃ S2, G1 = am_H S2 ∧ (fun U => ∃ U1, FrT T U1 ∧ U = if (pmO fz c 6).1 < 0 then U1 else e2 U1 (pmO fz c 6).2.1.toInt64 (pmO fz c 6).2.2.toInt64) S2) (fun _ _ _ _ _ _ => False) 40 [some (.ref 97), some (.int (nI p)), some (.int (nI q)), some (.int (nI m)), some (.int (pmO fz c i).1), some (.int (pmO fz c i).2.1), some (.int (pmO fz c i).2.2), some (.int (nI (2 * i))), v8, v9] [] (am_H (U)) 0 0 := by
    intro k
    induction k with
    | zero =>
      intro i U v8 v9 q1 q2 g1
      omega
    | succ k ih =>
      intro i U v8 v9 q1 q2 g1
      have bi : (nI (2 * i)).toNatClampNeg = 2 * i := nI_clamp (by omega)
      have s5 : 0 ≤ nI (2 * i) := nI_pos' (by omega)
      have loop2 : ∀ (k2 : Nat) (j : Nat) (U : am_S) (v9 : Option Value), (i < 6) → (j ≤ 6) → (6 < j + k2) → (FrT T U) → am_Ex (am_Call am_MT (d + 7)) mmX11_pair none (fun r1 G1 => r1 = (some (.int (if (pmO fz c 6).1 < 0 then -2 else (pmO fz c 6).1))) ∧ ∃ S2, G1 = am_H S2 ∧ (fun U => ∃ U1, FrT T U1 ∧ U = if (pmO fz c 6).1 < 0 then U1 else e2 U1 (pmO fz c 6).2.1.toInt64 (pmO fz c 6).2.2.toInt64) S2) (fun _ _ _ _ _ _ => False) 50 [some (.ref 97), some (.int (nI p)), some (.int (nI q)), some (.int (nI m)), some (.int (pmI fz c (pmO fz c i) (2 * i) j).1), some (.int (pmI fz c (pmO fz c i) (2 * i) j).2.1), some (.int (pmI fz c (pmO fz c i) (2 * i) j).2.2), some (.int (nI (2 * i))), some (.int (nI (2 * j))), v9] [] (am_H (U)) 0 0 := by
        intro k2
        induction k2 with
        | zero =>
          intro j U v9 q0 q3 q4 g2
          omega
        | succ k2 ih2 =>
          intro j U v9 q0 q3 q4 g2
          have bj : (nI (2 * j)).toNatClampNeg = 2 * j := nI_clamp (by omega)
          have s6 : 0 ≤ nI (2 * j) := nI_pos' (by omega)
          have s7 : nI (2 * i) < Int32.ofNat 14 := nI_lt (by omega) (by omega)
          by_cases hj : j = 6
          · subst hj
            refine r_iload rfl rfl ?_
            refine r_bipush rfl ?_
            refine r_icmp_ge rfl (fun h54 => ?_) (fun h54 => ?_)
            · refine r_iinc (L2 := [_, _, _, _, _, _, _, _, _, _]) rfl rfl rfl ?_
              refine r_goto rfl ?_
              rw [n2]
              exact ih (i + 1) U _ _ (by omega) (by omega) g2
            · first | exact absurd h54 (by decide) | exact absurd (by decide) h54
          · have s8 : nI (2 * j) < Int32.ofNat 14 := nI_lt (by omega) (by omega)
            have w1 : ¬ 12 ≤ nI (2 * j) := Int32.not_le.mpr (nI_lt (b := 12) (by omega) (by omega))
            have z1 : gI U 105 (nI (2 * i)).toNatClampNeg = nI (fz (2 * i)) := by rw [bi, g2.1 105 (by decide) (by decide) (by decide) (by decide) (by decide) (by decide) (by decide) (by decide)]; exact (hC.2.2.2.2.2 (2 * i) (by omega)).1
            have z2 : gI U 105 (nI (2 * j)).toNatClampNeg = nI (fz (2 * j)) := by rw [bj, g2.1 105 (by decide) (by decide) (by decide) (by decide) (by decide) (by decide) (by decide) (by decide)]; exact (hC.2.2.2.2.2 (2 * j) (by omega)).1
            have f1 : fz (2 * i) ≤ 40 := (hC.2.2.2.2.2 (2 * i) (by omega)).2.2.1
            have f2 : fz (2 * j) ≤ 40 := (hC.2.2.2.2.2 (2 * j) (by omega)).2.2.1
            by_cases hc : 0 < fz (2 * i) ∧ 0 < fz (2 * j)
            · have hidU : Idle U := fun r hr => by rw [g2.2.2.2.2.1 r]; exact hI r hr
              have cU := frT_cfg g2 hC
              have ci := ins_cfg2 (p := p) (q := q) cU hidU (show 2 * i < 12 by omega) (show 2 * j < 12 by omega)
              have uo : ∀ o, (o = 99 ∨ o = 100 ∨ o = 101 ∨ o = 102 ∨ o = 104 ∨ o = 105) → gI (uI (uI U 111 p (nI (2 * i))) 111 q (nI (2 * j))) o = gI T o := fun o ho => by rw [gI_uI_ne (by omega), gI_uI_ne (by omega), g2.1 o (by omega) (by omega) (by omega) (by omega) (by omega) (by omega) (by omega) (by omega)]
              have uk : ∀ k, (k = 3 ∨ k = 9 ∨ k = 10 ∨ k = 11 ∨ k = 12) → gI (uI (uI U 111 p (nI (2 * i))) 111 q (nI (2 * j))) 97 k = gI T 97 k := fun k hk => by rw [gI_uI_ne (by decide), gI_uI_ne (by decide), g2.2.1 k (by omega) (by omega) (by omega)]
              have cx := cost_u (hx (2 * i) (2 * j) (by omega) (by omega) (by omega) (by omega) hc.1 hc.2) uo uk
              have nx : pmI fz c (pmO fz c i) (2 * i) (j + 1) = if (pmI fz c (pmO fz c i) (2 * i) j).1 < 0 ∨ c (2 * i) (2 * j) < (pmI fz c (pmO fz c i) (2 * i) j).1 then (c (2 * i) (2 * j), nI (2 * i), nI (2 * j)) else pmI fz c (pmO fz c i) (2 * i) j := by rw [pmI, pmX, if_pos hc]
              have bk : ∀ V, FrT (uI (uI U 111 p (nI (2 * i))) 111 q (nI (2 * j))) V → FrT T (uI (uI V 111 p (-1)) 111 q (-1)) := fun V hV => by
                refine ⟨fun o a b c e f g h i => ?_, fun k a b c => ?_, fun a ha => ?_, fun a ha => ?_, fun a => ?_, fun o => ?_, fun c => ?_⟩
                · rw [gI_uI_ne g, gI_uI_ne g, hV.1 o a b c e f g h i, gI_uI_ne g, gI_uI_ne g, g2.1 o a b c e f g h i]
                · rw [gI_uI_ne (by decide), gI_uI_ne (by decide), hV.2.1 k a b c, gI_uI_ne (by decide), gI_uI_ne (by decide), g2.2.1 k a b c]
                · rw [gI_uI_ne (by decide), gI_uI_ne (by decide), hV.2.2.1 a ha, gI_uI_ne (by decide), gI_uI_ne (by decide), g2.2.2.1 a ha]
                · rw [gI_uI_ne (by decide), gI_uI_ne (by decide), hV.2.2.2.1 a ha, gI_uI_ne (by decide), gI_uI_ne (by decide), g2.2.2.2.1 a ha]
                · rw [gI_uI, if_pos rfl]
                  by_cases h : a = q
                  · rw [if_pos h, h, hI q (by omega)]
                  · rw [if_neg h, gI_uI, if_pos rfl]
                    by_cases h2 : a = p
                    · rw [if_pos h2, h2, hI p (by omega)]
                    · rw [if_neg h2, hV.2.2.2.2.1 a, gI_uI, if_pos rfl, if_neg h, gI_uI, if_pos rfl, if_neg h2, g2.2.2.2.2.1 a]
                · rw [gJ_uI_f, gJ_uI_f, hV.2.2.2.2.2.1 o, gJ_uI_f, gJ_uI_f, g2.2.2.2.2.2.1 o]
                · rw [gR_uI, gR_uI, hV.2.2.2.2.2.2 c, gR_uI, gR_uI, g2.2.2.2.2.2.2 c]
              have m1 : ¬ nI (fz (2 * i)) = 0 := nI_ne0 hc.1 (by omega)
              have m2 : ¬ nI (fz (2 * j)) = 0 := nI_ne0 hc.2 (by omega)
              refine r_iload rfl rfl ?_
              refine r_bipush rfl ?_
              refine r_icmp_ge rfl (fun h54 => ?_) (fun h54 => ?_)
              · exact absurd h54 w1
              · refine r_aload_n rfl rfl ?_
                refine r_getC rfl rfl (by decide) (by decide) rfl ?_
                refine r_iload rfl rfl ?_
                refine r_iald rfl rfl (by first | decide | assumption) (by first | exact s1 | exact s2 | exact s3 | exact s4 | exact s5 | exact s6 | exact s7 | exact s8) (by first | exact s1 | exact s2 | exact s3 | exact s4 | exact s5 | exact s6 | exact s7 | exact s8) ?_
                rw [z1]
                refine r_if_eq rfl (fun h64 => ?_) (fun h64 => ?_)
                · exact absurd h64 m1
                · refine r_aload_n rfl rfl ?_
                  refine r_getC rfl rfl (by decide) (by decide) rfl ?_
                  refine r_iload rfl rfl ?_
                  refine r_iald rfl rfl (by first | decide | assumption) (by first | exact s1 | exact s2 | exact s3 | exact s4 | exact s5 | exact s6 | exact s7 | exact s8) (by first | exact s1 | exact s2 | exact s3 | exact s4 | exact s5 | exact s6 | exact s7 | exact s8) ?_
                  rw [z2]
                  refine r_if_ne rfl (fun h74 => ?_) (fun h74 => ?_)
                  · refine r_aload_n rfl rfl ?_
                    refine r_getC rfl rfl (by decide) (by decide) rfl ?_
                    refine r_iload_n rfl rfl ?_
                    refine r_iload rfl rfl ?_
                    refine r_iast rfl rfl (by first | decide | assumption) (by first | exact s1 | exact s2 | exact s3 | exact s4 | exact s5 | exact s6 | exact s7 | exact s8) (by first | exact s1 | exact s2 | exact s3 | exact s4 | exact s5 | exact s6 | exact s7 | exact s8) ?_
                    rw [bp]
                    refine r_aload_n rfl rfl ?_
                    refine r_getC rfl rfl (by decide) (by decide) rfl ?_
                    refine r_iload_n rfl rfl ?_
                    refine r_iload rfl rfl ?_
                    refine r_iast rfl rfl (by first | decide | assumption) (by first | exact s1 | exact s2 | exact s3 | exact s4 | exact s5 | exact s6 | exact s7 | exact s8) (by first | exact s1 | exact s2 | exact s3 | exact s4 | exact s5 | exact s6 | exact s7 | exact s8) ?_
                    rw [bq]
                    refine r_aload_n rfl rfl ?_
                    refine r_iload_n rfl rfl ?_
                    refine r_iconst rfl ?_
                    refine r_callVE rfl (ct_X11_costs ci hm cx) rfl rfl rfl (by decide) rfl (am_cnt rfl) (fun V hV => ?_)
                    refine r_istore (L2 := [_, _, _, _, _, _, _, _, _, _]) rfl rfl ?_
                    refine r_aload_n rfl rfl ?_
                    refine r_getC rfl rfl (by decide) (by decide) rfl ?_
                    refine r_iload_n rfl rfl ?_
                    refine r_iconst rfl ?_
                    refine r_iast rfl rfl (by first | decide | assumption) (by first | exact s1 | exact s2 | exact s3 | exact s4 | exact s5 | exact s6 | exact s7 | exact s8) (by first | exact s1 | exact s2 | exact s3 | exact s4 | exact s5 | exact s6 | exact s7 | exact s8) ?_
                    refine r_aload_n rfl rfl ?_
                    refine r_getC rfl rfl (by decide) (by decide) rfl ?_
                    refine r_iload_n rfl rfl ?_
                    refine r_iconst rfl ?_
                    refine r_iast rfl rfl (by first | decide | assumption) (by first | exact s1 | exact s2 | exact s3 | exact s4 | exact s5 | exact s6 | exact s7 | exact s8) (by first | exact s1 | exact s2 | exact s3 | exact s4 | exact s5 | exact s6 | exact s7 | exact s8) ?_
                    refine r_iload rfl rfl ?_
                    refine r_if_lt rfl (fun h120 => ?_) (fun h120 => ?_)
                    · rw [if_pos (Or.inl h120)] at nx
                      refine r_iload rfl rfl ?_
                      refine r_istore (L2 := [_, _, _, _, _, _, _, _, _, _]) rfl rfl ?_
                      refine r_iload rfl rfl ?_
                      refine r_istore (L2 := [_, _, _, _, _, _, _, _, _, _]) rfl rfl ?_
                      refine r_iload rfl rfl ?_
                      refine r_istore (L2 := [_, _, _, _, _, _, _, _, _, _]) rfl rfl ?_
                      refine r_iinc (L2 := [_, _, _, _, _, _, _, _, _, _]) rfl rfl rfl ?_
                      refine r_goto rfl ?_
                      rw [bp, bq, n2]
                      have e := ih2 (j + 1) _ (some (.int (c (2 * i) (2 * j)))) q0 (by omega) (by omega) (bk V hV.1)
                      rw [nx] at e
                      exact e
                    · refine r_iload rfl rfl ?_
                      refine r_iload rfl rfl ?_
                      refine r_icmp_ge rfl (fun h127 => ?_) (fun h127 => ?_)
                      · rw [if_neg (fun z => z.elim h120 (Int32.not_lt.mpr h127))] at nx
                        refine r_iinc (L2 := [_, _, _, _, _, _, _, _, _, _]) rfl rfl rfl ?_
                        refine r_goto rfl ?_
                        rw [bp, bq, n2]
                        have e := ih2 (j + 1) _ (some (.int (c (2 * i) (2 * j)))) q0 (by omega) (by omega) (bk V hV.1)
                        rw [nx] at e
                        exact e
                      · rw [if_pos (Or.inr (Int32.not_le.mp h127))] at nx
                        refine r_iload rfl rfl ?_
                        refine r_istore (L2 := [_, _, _, _, _, _, _, _, _, _]) rfl rfl ?_
                        refine r_iload rfl rfl ?_
                        refine r_istore (L2 := [_, _, _, _, _, _, _, _, _, _]) rfl rfl ?_
                        refine r_iload rfl rfl ?_
                        refine r_istore (L2 := [_, _, _, _, _, _, _, _, _, _]) rfl rfl ?_
                        refine r_iinc (L2 := [_, _, _, _, _, _, _, _, _, _]) rfl rfl rfl ?_
                        refine r_goto rfl ?_
                        rw [bp, bq, n2]
                        have e := ih2 (j + 1) _ (some (.int (c (2 * i) (2 * j)))) q0 (by omega) (by omega) (bk V hV.1)
                        rw [nx] at e
                        exact e
                  · exact absurd h74 m2
            · have nx : pmI fz c (pmO fz c i) (2 * i) (j + 1) = pmI fz c (pmO fz c i) (2 * i) j := by rw [pmI, pmX, if_neg hc]
              have y1 : ¬ nI (fz (2 * i)) = 0 → ¬ nI (fz (2 * j)) = 0 → False := fun a b => hc ⟨Nat.pos_of_ne_zero (fun z => a (by rw [z]; rfl)), Nat.pos_of_ne_zero (fun z => b (by rw [z]; rfl))⟩
              refine r_iload rfl rfl ?_
              refine r_bipush rfl ?_
              refine r_icmp_ge rfl (fun h54 => ?_) (fun h54 => ?_)
              · exact absurd h54 w1
              · refine r_aload_n rfl rfl ?_
                refine r_getC rfl rfl (by decide) (by decide) rfl ?_
                refine r_iload rfl rfl ?_
                refine r_iald rfl rfl (by first | decide | assumption) (by first | exact s1 | exact s2 | exact s3 | exact s4 | exact s5 | exact s6 | exact s7 | exact s8) (by first | exact s1 | exact s2 | exact s3 | exact s4 | exact s5 | exact s6 | exact s7 | exact s8) ?_
                rw [z1]
                refine r_if_eq rfl (fun h64 => ?_) (fun h64 => ?_)
                · refine r_iinc (L2 := [_, _, _, _, _, _, _, _, _, _]) rfl rfl rfl ?_
                  refine r_goto rfl ?_
                  rw [n2]
                  have e := ih2 (j + 1) U v9 q0 (by omega) (by omega) g2
                  rw [nx] at e
                  exact e
                · refine r_aload_n rfl rfl ?_
                  refine r_getC rfl rfl (by decide) (by decide) rfl ?_
                  refine r_iload rfl rfl ?_
                  refine r_iald rfl rfl (by first | decide | assumption) (by first | exact s1 | exact s2 | exact s3 | exact s4 | exact s5 | exact s6 | exact s7 | exact s8) (by first | exact s1 | exact s2 | exact s3 | exact s4 | exact s5 | exact s6 | exact s7 | exact s8) ?_
                  rw [z2]
                  refine r_if_ne rfl (fun h74 => ?_) (fun h74 => ?_)
                  · exact (y1 h64 h74).elim
                  · refine r_goto rfl ?_
                    refine r_iinc (L2 := [_, _, _, _, _, _, _, _, _, _]) rfl rfl rfl ?_
                    refine r_goto rfl ?_
                    rw [n2]
                    have e := ih2 (j + 1) U v9 q0 (by omega) (by omega) g2
                    rw [nx] at e
                    exact e
      by_cases hi : i = 6
      · subst hi
        refine r_iload rfl rfl ?_
        refine r_bipush rfl ?_
        refine r_icmp_ge rfl (fun h44 => ?_) (fun h44 => ?_)
        · refine r_iload rfl rfl ?_
          refine r_if_ge rfl (fun h156 => ?_) (fun h156 => ?_)
          · have hl : ¬ (pmO fz c 6).1 < 0 := Int32.not_lt.mpr h156
            refine r_aload_n rfl rfl ?_
            refine r_iconst rfl ?_
            refine r_putI rfl rfl (by decide) (by decide) rfl ?_
            refine r_aload_n rfl rfl ?_
            refine r_iload rfl rfl ?_
            refine r_i2l rfl ?_
            refine r_callV rfl (ct_X11_enters u971 (by decide)) rfl rfl rfl (by decide) rfl (am_cnt rfl) ?_
            refine r_aload_n rfl rfl ?_
            refine r_iload rfl rfl ?_
            refine r_i2l rfl ?_
            refine r_callV rfl (ct_X11_enters eAdd_n (by decide)) rfl rfl rfl (by decide) rfl (am_cnt rfl) ?_
            refine r_iload rfl rfl ?_
            refine r_iret rfl rfl ?_
            rw [if_neg hl]
            exact ⟨rfl, _, rfl, U, g1, by rw [if_neg hl]; rfl⟩
          · have hl : (pmO fz c 6).1 < 0 := Int32.not_le.mp h156
            refine r_bipush rfl ?_
            refine r_iret rfl rfl ?_
            rw [if_pos hl]
            exact ⟨rfl, _, rfl, U, g1, by rw [if_pos hl]⟩
        · first | exact absurd h44 (by decide) | exact absurd (by decide) h44
      · have w1 : ¬ 12 ≤ nI (2 * i) := Int32.not_le.mpr (nI_lt (b := 12) (by omega) (by omega))
        refine r_iload rfl rfl ?_
        refine r_bipush rfl ?_
        refine r_icmp_ge rfl (fun h44 => ?_) (fun h44 => ?_)
        · exact absurd h44 w1
        · refine r_iconst rfl ?_
          refine r_istore (L2 := [_, _, _, _, _, _, _, _, _, _]) rfl rfl ?_
          exact loop2 7 0 U v9 (by omega) (by omega) (by omega) g1
  refine r_aload_n rfl rfl ?_
  refine r_iconst rfl ?_
  refine r_putI rfl rfl (by decide) (by decide) rfl ?_
  try rw [hT]
  refine r_aload_n rfl rfl ?_
  refine r_iload_n rfl rfl ?_
  refine r_iload_n rfl rfl ?_
  refine r_callV rfl (ct_X11_arePair (zM hn hz)) rfl rfl rfl (by decide) rfl (am_cnt rfl) ?_
  refine r_if_eq rfl (fun h11 => ?_) (fun h11 => ?_)
  · exact absurd (hpc) (b01_eq0.mp h11)
  · refine r_iload_n rfl rfl ?_
    refine r_i2l rfl ?_
    refine r_lconst rfl ?_
    refine r_ldc2_w rfl ?_
    refine r_callS rfl (by decide) ct_X11_in rfl rfl (am_cnt rfl) ?_
    refine r_if_ne rfl (fun h23 => ?_) (fun h23 => ?_)
    · refine r_iconst rfl ?_
      refine r_istore (L2 := [_, _, _, _, _, _, _, _, _, _]) rfl rfl ?_
      refine r_iconst rfl ?_
      refine r_istore (L2 := [_, _, _, _, _, _, _, _, _, _]) rfl rfl ?_
      refine r_iconst rfl ?_
      refine r_istore (L2 := [_, _, _, _, _, _, _, _, _, _]) rfl rfl ?_
      refine r_iconst rfl ?_
      refine r_istore (L2 := [_, _, _, _, _, _, _, _, _, _]) rfl rfl ?_
      exact loop 7 0 T none none (by omega) (by omega) frT_0
    · simp only [b01_eq0, wl_m999, wg_m999, wl_m99, wg_m99, wl_m50, wg_m50, wl_m1, wg_m1, wl_0, wg_0, wl_1, wg_1, wl_2, wg_2, wl_3, wg_3, wl_4, wg_4, wl_6, wg_6, wl_9, wg_9, wl_10, wg_10, wl_11, wg_11, wl_20, wg_20, wl_48, wg_48, wl_50, wg_50, wl_57, wg_57, wl_99, wg_99, wl_100, wg_100, wl_199, wg_199, wl_222, wg_222, wl_999, wg_999, wl_9999, wg_9999, fa_wide_le] at h23
      exact absurd c1 h23
