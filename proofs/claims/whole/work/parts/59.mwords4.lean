/-! Know and warn of the reference. -/
theorem ct_X11_know_see {d : Nat} {S T : am_S} {n p q : Nat} {m : Int32} (hT : uI S 97 0 0 = T) (hn : gI T 97 3 = nI n) (hz : n ≤ 6) (h1 : p < n) (h2 : q < n) (hne : p ≠ q) (hm : 0 ≤ m ∧ m ≤ 199) (hs : seM T p q ∧ seM T q p) : am_CT (d + 4) iX11_know [.ref 97, .int (nI p), .int (nI q), .int m] S (some (.int 99)) (T) := by
  refine am_CT_in mmX11_know rfl rfl rfl ?_
  have two := two_nM hn hz h1 h2 hne
  have bp : (nI p).toNatClampNeg = p := nI_clamp (by omega)
  have bq : (nI q).toNatClampNeg = q := nI_clamp (by omega)
  have s1 : 0 ≤ nI p := nI_pos' (by omega)
  have s2 : nI p < Int32.ofNat 6 := nI_lt (by omega) (by omega)
  have s3 : 0 ≤ nI q := nI_pos' (by omega)
  have s4 : nI q < Int32.ofNat 6 := nI_lt (by omega) (by omega)
  refine r_aload_n rfl rfl ?_
  refine r_iconst rfl ?_
  refine r_putI rfl rfl (by decide) (by decide) rfl ?_
  try rw [hT]
  refine r_aload_n rfl rfl ?_
  refine r_iload_n rfl rfl ?_
  refine r_iload_n rfl rfl ?_
  refine r_callV rfl (ct_X11_arePair (zM hn hz)) rfl rfl rfl (by decide) rfl (am_cnt rfl) ?_
  refine r_if_eq rfl (fun h11 => ?_) (fun h11 => ?_)
  · exact absurd (two) (b01_eq0.mp h11)
  · refine r_iload_n rfl rfl ?_
    refine r_i2l rfl ?_
    refine r_lconst rfl ?_
    refine r_ldc2_w rfl ?_
    refine r_callS rfl (by decide) ct_X11_in rfl rfl (am_cnt rfl) ?_
    refine r_if_ne rfl (fun h23 => ?_) (fun h23 => ?_)
    · refine r_aload_n rfl rfl ?_
      refine r_getC rfl rfl (by decide) (by decide) rfl ?_
      refine r_iload_n rfl rfl ?_
      refine r_iald rfl rfl (by first | decide | assumption) (by first | exact s1 | exact s2 | exact s3 | exact s4) (by first | exact s1 | exact s2 | exact s3 | exact s4) ?_
      refine r_iload_n rfl rfl ?_
      refine r_callS rfl (by decide) ct_X11_has rfl rfl (am_cnt rfl) ?_
      refine r_if_eq rfl (fun h38 => ?_) (fun h38 => ?_)
      · rw [bp, b01_eq0] at h38
        exact absurd hs.1 h38
      · refine r_aload_n rfl rfl ?_
        refine r_getC rfl rfl (by decide) (by decide) rfl ?_
        refine r_iload_n rfl rfl ?_
        refine r_iald rfl rfl (by first | decide | assumption) (by first | exact s1 | exact s2 | exact s3 | exact s4) (by first | exact s1 | exact s2 | exact s3 | exact s4) ?_
        refine r_iload_n rfl rfl ?_
        refine r_callS rfl (by decide) ct_X11_has rfl rfl (am_cnt rfl) ?_
        refine r_if_eq rfl (fun h51 => ?_) (fun h51 => ?_)
        · rw [bq, b01_eq0] at h51
          exact absurd hs.2 h51
        · refine r_bipush rfl ?_
          refine r_iret rfl rfl ?_
          exact ⟨rfl, rfl⟩
    · simp only [b01_eq0, wl_m999, wg_m999, wl_m99, wg_m99, wl_m50, wg_m50, wl_m1, wg_m1, wl_0, wg_0, wl_1, wg_1, wl_2, wg_2, wl_3, wg_3, wl_4, wg_4, wl_6, wg_6, wl_9, wg_9, wl_10, wg_10, wl_11, wg_11, wl_20, wg_20, wl_48, wg_48, wl_50, wg_50, wl_57, wg_57, wl_99, wg_99, wl_100, wg_100, wl_199, wg_199, wl_222, wg_222, wl_999, wg_999, wl_9999, wg_9999, fa_wide_le] at h23
      exact absurd hm h23
def knT (A B tp tq c t : Nat) : Nat := t + (if c % 2 = 0 then (if A = 1000000 then 1000000 else A + if c = 0 then 0 else tp) else (if B = 1000000 then 1000000 else B + tq))
def knM (A B tp tq m : Nat) : Nat → Nat → Nat → Nat
  | 0, c, _ => c
  | f + 1, c, t => if m < knT A B tp tq c t then c else knM A B tp tq m f (c + 1) (knT A B tp tq c t)
theorem ct_X11_know_ok {d : Nat} {S T : am_S} {lt st th : Nat → Nat} {n p q m : Nat} (hT : uI S 97 0 0 = T) (hp : PM T lt st th) (hn : gI T 97 3 = nI n) (hz : n ≤ 6) (h1 : p < n) (h2 : q < n) (hne : p ≠ q) (hm2 : m ≤ 199) (hs : ¬ (seM T p q ∧ seM T q p)) : am_CE (d + 4) iX11_know [.ref 97, .int (nI p), .int (nI q), .int (nI m)] S (some (.int (nI (knM (mnV T lt th n p q) (mnV T lt th n q p) (th p) (th q) m 99 0 0)))) (fun U => FrW T U) := by
  refine am_CE_in mmX11_know rfl rfl rfl ?_
  have two := two_nM hn hz h1 h2 hne
  have hm : 0 ≤ nI m ∧ nI m ≤ 199 := ⟨nI_pos' (by omega), nI_le (b := 199) hm2 (by omega)⟩
  have bp : (nI p).toNatClampNeg = p := nI_clamp (by omega)
  have bq : (nI q).toNatClampNeg = q := nI_clamp (by omega)
  have s1 : 0 ≤ nI p := nI_pos' (by omega)
  have s2 : nI p < Int32.ofNat 6 := nI_lt (by omega) (by omega)
  have s3 : 0 ≤ nI q := nI_pos' (by omega)
  have s4 : nI q < Int32.ofNat 6 := nI_lt (by omega) (by omega)
  have la := mnV_le (S := T) (lt := lt) (th := th) (n := n) (a := p) (b := q)
  have lb := mnV_le (S := T) (lt := lt) (th := th) (n := n) (a := q) (b := p)
  have gp := hp p (by omega)
  have gq := hp q (by omega)
  have loop : ∀ (k : Nat) (c : Nat) (t : Nat) (W : am_S) (v6 : Option Value) (v7 : Option Value) (v8 : Option Value), (c ≤ 99) → (99 < c + k) → (knM (mnV T lt th n p q) (mnV T lt th n q p) (th p) (th q) m (99 - c) c t = knM (mnV T lt th n p q) (mnV T lt th n q p) (th p) (th q) m 99 0 0) → (t ≤ 199) → (FrW T W) → am_Ex (am_Call am_MT (d + 3)) mmX11_know none (fun r1 G1 => r1 = (some (.int (nI (knM (mnV T lt th n p q) (mnV T lt th n q p) (th p) (th q) m 99 0 0)))) ∧ ∃ S2, G1 = am_H S2 ∧ (fun U => FrW T U) S2) (fun _ _ _ _ _ _ => False) 63 [some (.ref 97), some (.int (nI p)), some (.int (nI q)), some (.int (nI m)), some (.int (nI t)), some (.int (nI c)), v6, v7, v8] [] (am_H (W)) 0 0 := by
    intro k
    induction k with
    | zero =>
      intro c t W v6 v7 v8 q1 q2 q3 q4 f1
      omega
    | succ k ih =>
      intro c t W v6 v7 v8 q1 q2 q3 q4 f1
      rw [← q3]
      by_cases hc99 : c = 99
      · have w9 : (99 : Int32) ≤ nI c := nI_le (a := 99) (by omega) (by omega)
        have e9 : knM (mnV T lt th n p q) (mnV T lt th n q p) (th p) (th q) m (99 - c) c t = c := by rw [hc99]; rfl
        rw [e9]
        refine r_iload rfl rfl ?_
        refine r_bipush rfl ?_
        refine r_icmp_ge rfl (fun h67 => ?_) (fun h67 => ?_)
        · refine r_iload rfl rfl ?_
          refine r_iret rfl rfl ?_
          exact ⟨rfl, _, rfl, f1⟩
        · exact absurd w9 h67
      · have w9 : ¬ (99 : Int32) ≤ nI c := Int32.not_le.mpr (nI_lt (b := 99) (by omega) (by omega))
        have pr := par2 c (by omega)
        have ef : 99 - c = (99 - (c + 1)) + 1 := by omega
        rw [ef, knM] at q3 ⊢
        have kl : knT (mnV T lt th n p q) (mnV T lt th n q p) (th p) (th q) c t ≤ 1000300 := by
          unfold knT
          split
          · split
            · omega
            · split <;> omega
          · split <;> omega
        by_cases hc2 : c % 2 = 0
        · rw [hc2] at pr
          refine r_iload rfl rfl ?_
          refine r_bipush rfl ?_
          refine r_icmp_ge rfl (fun h67 => ?_) (fun h67 => ?_)
          · exact absurd h67 w9
          · refine r_iload rfl rfl ?_
            refine r_iconst rfl ?_
            refine r_irem rfl (by decide) ?_
            rw [pr]
            refine r_if_ne rfl (fun h74 => ?_) (fun h74 => ?_)
            · exact absurd rfl h74
            · refine r_iload_n rfl rfl ?_
              refine r_goto rfl ?_
              refine r_istore (L2 := [_, _, _, _, _, _, _, _, _]) rfl rfl ?_
              refine r_iload rfl rfl ?_
              refine r_iconst rfl ?_
              refine r_irem rfl (by decide) ?_
              rw [pr]
              refine r_if_ne rfl (fun h88 => ?_) (fun h88 => ?_)
              · exact absurd rfl h88
              · refine r_iload_n rfl rfl ?_
                refine r_goto rfl ?_
                refine r_istore (L2 := [_, _, _, _, _, _, _, _, _]) rfl rfl ?_
                refine r_aload_n rfl rfl ?_
                refine r_iload rfl rfl ?_
                refine r_iload rfl rfl ?_
                refine r_callVE rfl (mnV_ct hp hn hz f1 h1 h2) rfl rfl rfl (by decide) rfl (am_cnt rfl) (fun V hV => ?_)
                refine r_istore (L2 := [_, _, _, _, _, _, _, _, _]) rfl rfl ?_
                refine r_iload rfl rfl ?_
                refine r_iload rfl rfl ?_
                refine r_ldc_w rfl ?_
                refine r_icmp_ne rfl (fun h115 => ?_) (fun h115 => ?_)
                · rw [show (1000000 : Int32) = nI 1000000 from rfl, nI_eq (by omega) (by omega)] at h115
                  refine r_iload rfl rfl ?_
                  refine r_iload rfl rfl ?_
                  refine r_if_ne rfl (fun h128 => ?_) (fun h128 => ?_)
                  · rw [show (0 : Int32) = nI 0 from rfl, nI_eq (by omega) (by omega)] at h128
                    have kt : nI t + (nI (mnV T lt th n p q) + nI (th p)) = nI (knT (mnV T lt th n p q) (mnV T lt th n q p) (th p) (th q) c t) := by rw [knT, if_pos hc2, if_neg h115, if_neg h128, ← nI_add, ← nI_add]
                    refine r_aload_n rfl rfl ?_
                    refine r_getC rfl rfl (by decide) (by decide) rfl ?_
                    refine r_iload rfl rfl ?_
                    refine r_iald rfl rfl (by first | decide | assumption) (by first | exact s1 | exact s2 | exact s3 | exact s4 | decide) (by first | exact s1 | exact s2 | exact s3 | exact s4 | decide) ?_
                    try rw [bp, hV.1.1 101 (by decide), f1.1 101 (by decide), gp.2.2.2.2.1]
                    refine r_iadd rfl ?_
                    refine r_iadd rfl ?_
                    rw [kt]
                    refine r_istore (L2 := [_, _, _, _, _, _, _, _, _]) rfl rfl ?_
                    refine r_iload rfl rfl ?_
                    refine r_iload_n rfl rfl ?_
                    refine r_icmp_le rfl (fun h149 => ?_) (fun h149 => ?_)
                    · rw [nI_leI (by omega) (by omega)] at h149
                      rw [if_neg (by omega)] at q3 ⊢
                      refine r_iinc (L2 := [_, _, _, _, _, _, _, _, _]) rfl rfl rfl ?_
                      refine r_goto rfl ?_
                      rw [nI_1, q3]
                      exact ih (c + 1) _ V _ _ _ (by omega) (by omega) q3 (by omega) (frW_t f1 hV.1)
                    · rw [nI_leI (by omega) (by omega)] at h149
                      rw [if_pos (by omega)]
                      refine r_iload rfl rfl ?_
                      refine r_iret rfl rfl ?_
                      exact ⟨rfl, _, rfl, frW_t f1 hV.1⟩
                  · rw [show (0 : Int32) = nI 0 from rfl, nI_eq (by omega) (by omega)] at h128
                    have kt : nI t + (nI (mnV T lt th n p q) + 0) = nI (knT (mnV T lt th n p q) (mnV T lt th n q p) (th p) (th q) c t) := by rw [knT, if_pos hc2, if_neg h115, if_pos h128, ← nI_add, ← nI_add]; rfl
                    refine r_iconst rfl ?_
                    refine r_goto rfl ?_
                    try rw [bp, hV.1.1 101 (by decide), f1.1 101 (by decide), gp.2.2.2.2.1]
                    refine r_iadd rfl ?_
                    refine r_iadd rfl ?_
                    rw [kt]
                    refine r_istore (L2 := [_, _, _, _, _, _, _, _, _]) rfl rfl ?_
                    refine r_iload rfl rfl ?_
                    refine r_iload_n rfl rfl ?_
                    refine r_icmp_le rfl (fun h149 => ?_) (fun h149 => ?_)
                    · rw [nI_leI (by omega) (by omega)] at h149
                      rw [if_neg (by omega)] at q3 ⊢
                      refine r_iinc (L2 := [_, _, _, _, _, _, _, _, _]) rfl rfl rfl ?_
                      refine r_goto rfl ?_
                      rw [nI_1, q3]
                      exact ih (c + 1) _ V _ _ _ (by omega) (by omega) q3 (by omega) (frW_t f1 hV.1)
                    · rw [nI_leI (by omega) (by omega)] at h149
                      rw [if_pos (by omega)]
                      refine r_iload rfl rfl ?_
                      refine r_iret rfl rfl ?_
                      exact ⟨rfl, _, rfl, frW_t f1 hV.1⟩
                · rw [show (1000000 : Int32) = nI 1000000 from rfl, nI_eq (by omega) (by omega)] at h115
                  have kt : nI t + 1000000 = nI (knT (mnV T lt th n p q) (mnV T lt th n q p) (th p) (th q) c t) := by rw [knT, if_pos hc2, if_pos h115, ← nI_add]; rfl
                  refine r_ldc_w rfl ?_
                  refine r_goto rfl ?_
                  refine r_iadd rfl ?_
                  rw [kt]
                  refine r_istore (L2 := [_, _, _, _, _, _, _, _, _]) rfl rfl ?_
                  refine r_iload rfl rfl ?_
                  refine r_iload_n rfl rfl ?_
                  refine r_icmp_le rfl (fun h149 => ?_) (fun h149 => ?_)
                  · rw [nI_leI (by omega) (by omega)] at h149
                    rw [if_neg (by omega)] at q3 ⊢
                    refine r_iinc (L2 := [_, _, _, _, _, _, _, _, _]) rfl rfl rfl ?_
                    refine r_goto rfl ?_
                    rw [nI_1, q3]
                    exact ih (c + 1) _ V _ _ _ (by omega) (by omega) q3 (by omega) (frW_t f1 hV.1)
                  · rw [nI_leI (by omega) (by omega)] at h149
                    rw [if_pos (by omega)]
                    refine r_iload rfl rfl ?_
                    refine r_iret rfl rfl ?_
                    exact ⟨rfl, _, rfl, frW_t f1 hV.1⟩
        · rw [show c % 2 = 1 by omega] at pr
          refine r_iload rfl rfl ?_
          refine r_bipush rfl ?_
          refine r_icmp_ge rfl (fun h67 => ?_) (fun h67 => ?_)
          · exact absurd h67 w9
          · refine r_iload rfl rfl ?_
            refine r_iconst rfl ?_
            refine r_irem rfl (by decide) ?_
            rw [pr]
            refine r_if_ne rfl (fun h74 => ?_) (fun h74 => ?_)
            · refine r_iload_n rfl rfl ?_
              refine r_istore (L2 := [_, _, _, _, _, _, _, _, _]) rfl rfl ?_
              refine r_iload rfl rfl ?_
              refine r_iconst rfl ?_
              refine r_irem rfl (by decide) ?_
              rw [pr]
              refine r_if_ne rfl (fun h88 => ?_) (fun h88 => ?_)
              · refine r_iload_n rfl rfl ?_
                refine r_istore (L2 := [_, _, _, _, _, _, _, _, _]) rfl rfl ?_
                refine r_aload_n rfl rfl ?_
                refine r_iload rfl rfl ?_
                refine r_iload rfl rfl ?_
                refine r_callVE rfl (mnV_ct hp hn hz f1 h2 h1) rfl rfl rfl (by decide) rfl (am_cnt rfl) (fun V hV => ?_)
                refine r_istore (L2 := [_, _, _, _, _, _, _, _, _]) rfl rfl ?_
                refine r_iload rfl rfl ?_
                refine r_iload rfl rfl ?_
                refine r_ldc_w rfl ?_
                refine r_icmp_ne rfl (fun h115 => ?_) (fun h115 => ?_)
                · rw [show (1000000 : Int32) = nI 1000000 from rfl, nI_eq (by omega) (by omega)] at h115
                  have kt : nI t + (nI (mnV T lt th n q p) + nI (th q)) = nI (knT (mnV T lt th n p q) (mnV T lt th n q p) (th p) (th q) c t) := by rw [knT, if_neg hc2, if_neg h115, ← nI_add, ← nI_add]
                  refine r_iload rfl rfl ?_
                  refine r_iload rfl rfl ?_
                  refine r_if_ne rfl (fun h128 => ?_) (fun h128 => ?_)
                  · refine r_aload_n rfl rfl ?_
                    refine r_getC rfl rfl (by decide) (by decide) rfl ?_
                    refine r_iload rfl rfl ?_
                    refine r_iald rfl rfl (by first | decide | assumption) (by first | exact s1 | exact s2 | exact s3 | exact s4 | decide) (by first | exact s1 | exact s2 | exact s3 | exact s4 | decide) ?_
                    try rw [bq, hV.1.1 101 (by decide), f1.1 101 (by decide), gq.2.2.2.2.1]
                    refine r_iadd rfl ?_
                    refine r_iadd rfl ?_
                    rw [kt]
                    refine r_istore (L2 := [_, _, _, _, _, _, _, _, _]) rfl rfl ?_
                    refine r_iload rfl rfl ?_
                    refine r_iload_n rfl rfl ?_
                    refine r_icmp_le rfl (fun h149 => ?_) (fun h149 => ?_)
                    · rw [nI_leI (by omega) (by omega)] at h149
                      rw [if_neg (by omega)] at q3 ⊢
                      refine r_iinc (L2 := [_, _, _, _, _, _, _, _, _]) rfl rfl rfl ?_
                      refine r_goto rfl ?_
                      rw [nI_1, q3]
                      exact ih (c + 1) _ V _ _ _ (by omega) (by omega) q3 (by omega) (frW_t f1 hV.1)
                    · rw [nI_leI (by omega) (by omega)] at h149
                      rw [if_pos (by omega)]
                      refine r_iload rfl rfl ?_
                      refine r_iret rfl rfl ?_
                      exact ⟨rfl, _, rfl, frW_t f1 hV.1⟩
                  · rw [show (0 : Int32) = nI 0 from rfl, nI_eq (by omega) (by omega)] at h128
                    exact absurd (show c % 2 = 0 by omega) hc2
                · rw [show (1000000 : Int32) = nI 1000000 from rfl, nI_eq (by omega) (by omega)] at h115
                  have kt : nI t + 1000000 = nI (knT (mnV T lt th n p q) (mnV T lt th n q p) (th p) (th q) c t) := by rw [knT, if_neg hc2, if_pos h115, ← nI_add]; rfl
                  refine r_ldc_w rfl ?_
                  refine r_goto rfl ?_
                  refine r_iadd rfl ?_
                  rw [kt]
                  refine r_istore (L2 := [_, _, _, _, _, _, _, _, _]) rfl rfl ?_
                  refine r_iload rfl rfl ?_
                  refine r_iload_n rfl rfl ?_
                  refine r_icmp_le rfl (fun h149 => ?_) (fun h149 => ?_)
                  · rw [nI_leI (by omega) (by omega)] at h149
                    rw [if_neg (by omega)] at q3 ⊢
                    refine r_iinc (L2 := [_, _, _, _, _, _, _, _, _]) rfl rfl rfl ?_
                    refine r_goto rfl ?_
                    rw [nI_1, q3]
                    exact ih (c + 1) _ V _ _ _ (by omega) (by omega) q3 (by omega) (frW_t f1 hV.1)
                  · rw [nI_leI (by omega) (by omega)] at h149
                    rw [if_pos (by omega)]
                    refine r_iload rfl rfl ?_
                    refine r_iret rfl rfl ?_
                    exact ⟨rfl, _, rfl, frW_t f1 hV.1⟩
              · first | exact absurd h88 (by decide) | exact absurd (by decide) h88
            · first | exact absurd h74 (by decide) | exact absurd (by decide) h74
  refine r_aload_n rfl rfl ?_
  refine r_iconst rfl ?_
  refine r_putI rfl rfl (by decide) (by decide) rfl ?_
  try rw [hT]
  refine r_aload_n rfl rfl ?_
  refine r_iload_n rfl rfl ?_
  refine r_iload_n rfl rfl ?_
  refine r_callV rfl (ct_X11_arePair (zM hn hz)) rfl rfl rfl (by decide) rfl (am_cnt rfl) ?_
  refine r_if_eq rfl (fun h11 => ?_) (fun h11 => ?_)
  · exact absurd (two) (b01_eq0.mp h11)
  · refine r_iload_n rfl rfl ?_
    refine r_i2l rfl ?_
    refine r_lconst rfl ?_
    refine r_ldc2_w rfl ?_
    refine r_callS rfl (by decide) ct_X11_in rfl rfl (am_cnt rfl) ?_
    refine r_if_ne rfl (fun h23 => ?_) (fun h23 => ?_)
    · refine r_aload_n rfl rfl ?_
      refine r_getC rfl rfl (by decide) (by decide) rfl ?_
      refine r_iload_n rfl rfl ?_
      refine r_iald rfl rfl (by first | decide | assumption) (by first | exact s1 | exact s2 | exact s3 | exact s4) (by first | exact s1 | exact s2 | exact s3 | exact s4) ?_
      refine r_iload_n rfl rfl ?_
      refine r_callS rfl (by decide) ct_X11_has rfl rfl (am_cnt rfl) ?_
      refine r_if_eq rfl (fun h38 => ?_) (fun h38 => ?_)
      · refine r_iconst rfl ?_
        refine r_istore (L2 := [_, _, _, _, _, _, _, _, _]) rfl rfl ?_
        refine r_iconst rfl ?_
        refine r_istore (L2 := [_, _, _, _, _, _, _, _, _]) rfl rfl ?_
        exact loop 100 0 0 T none none none (by omega) (by omega) rfl (by omega) frW_0
      · refine r_aload_n rfl rfl ?_
        refine r_getC rfl rfl (by decide) (by decide) rfl ?_
        refine r_iload_n rfl rfl ?_
        refine r_iald rfl rfl (by first | decide | assumption) (by first | exact s1 | exact s2 | exact s3 | exact s4) (by first | exact s1 | exact s2 | exact s3 | exact s4) ?_
        refine r_iload_n rfl rfl ?_
        refine r_callS rfl (by decide) ct_X11_has rfl rfl (am_cnt rfl) ?_
        refine r_if_eq rfl (fun h51 => ?_) (fun h51 => ?_)
        · refine r_iconst rfl ?_
          refine r_istore (L2 := [_, _, _, _, _, _, _, _, _]) rfl rfl ?_
          refine r_iconst rfl ?_
          refine r_istore (L2 := [_, _, _, _, _, _, _, _, _]) rfl rfl ?_
          exact loop 100 0 0 T none none none (by omega) (by omega) rfl (by omega) frW_0
        · exfalso
          rw [bp, b01_eq0] at h38
          rw [bq, b01_eq0] at h51
          exact hs ⟨Decidable.not_not.mp h38, Decidable.not_not.mp h51⟩
    · simp only [b01_eq0, wl_m999, wg_m999, wl_m99, wg_m99, wl_m50, wg_m50, wl_m1, wg_m1, wl_0, wg_0, wl_1, wg_1, wl_2, wg_2, wl_3, wg_3, wl_4, wg_4, wl_6, wg_6, wl_9, wg_9, wl_10, wg_10, wl_11, wg_11, wl_20, wg_20, wl_48, wg_48, wl_50, wg_50, wl_57, wg_57, wl_99, wg_99, wl_100, wg_100, wl_199, wg_199, wl_222, wg_222, wl_999, wg_999, wl_9999, wg_9999, fa_wide_le] at h23
      exact absurd hm h23
