/-! Minutes of the reference's. -/
def FmOk (S : am_S) (pl : Nat) (cs : Nat → Int32) (L w : Nat) : Prop := gI S 105 pl = nI L ∧ (∀ j, j < L → gI S 104 (48 * pl + j) = mcode (cs j)) ∧ WF w cs L
theorem ix48 {pl j : Nat} : 48 * nI pl + nI j = nI (48 * pl + j) := by
  rw [show (48 : Int32) * nI pl = nI (48 * pl) from pk_mul 48 pl, nI_add]
theorem mcode_lt {c : Int32} : mcode c < 2000 ↔ c < 2000 := by
  unfold mcode
  split
  · rename_i h
    rw [h]
    exact ⟨fun z => absurd z (by decide), fun z => absurd z (by decide)⟩
  · exact Iff.rfl
theorem ct_X11_worked {d : Nat} {S : am_S} {cs : Nat → Int32} {pl L w : Nat} (hpl : pl < 13) (hF : FmOk S pl cs L w) (hw : w ≤ 6) : am_CT (d + 3) iX11_worked [.ref 97, .int (nI pl)] S (some (.int (fVal cs (gI S 108) w (gI S 106) L))) (rI S 106 (fEv cs (gI S 108) w (gI S 106) L).1) := by
  refine am_CT_in mmX11_worked rfl rfl rfl ?_
  obtain ⟨f1, f2, wf⟩ := hF
  have bp : (nI pl).toNatClampNeg = pl := nI_clamp (by omega)
  have s1 : 0 ≤ nI pl := nI_pos' (by omega)
  have s2 : nI pl < Int32.ofNat 14 := nI_lt (by omega) (by omega)
  have hL := wf.1
  have hv : ∀ n, n ≤ L → (fEv cs (gI S 108) w (gI S 106) n).2 = hgt cs n := wf_hgt wf
  have loop : ∀ (k : Nat) (j : Nat) (g : Nat → Int32) (v4 : Option Value), (j ≤ L) → (L < j + k) → (g = (fEv cs (gI S 108) w (gI S 106) j).1) → (¬ L = 0) → am_Ex (am_Call am_MT (d + 2)) mmX11_worked none (fun r1 G1 => r1 = (some (.int (fVal cs (gI S 108) w (gI S 106) L))) ∧ G1 = am_H (rI S 106 (fEv cs (gI S 108) w (gI S 106) L).1)) (fun _ _ _ _ _ _ => False) 15 [some (.ref 97), some (.int (nI pl)), some (.int (nI (hgt cs j))), some (.int (nI j)), v4] [] (am_H (rI S 106 g)) 0 0 := by
    intro k
    induction k with
    | zero =>
      intro j g v4 q1 q2 q3 q4
      omega
    | succ k ih =>
      intro j g v4 q1 q2 q3 q4
      have a1 : gI (rI S 106 g) 105 (nI pl).toNatClampNeg = nI L := by rw [gI_rI_ne (by decide), bp, f1]
      have a2 : gI (rI S 106 g) 106 = g := gI_rI_eq
      have ix := ix48 (pl := pl) (j := j)
      have bx : (nI (48 * pl + j)).toNatClampNeg = 48 * pl + j := nI_clamp (by omega)
      have s3 : 0 ≤ nI (48 * pl + j) := nI_pos' (by omega)
      have hl := hgt_le cs j
      have b1 : (nI (hgt cs j)).toNatClampNeg = hgt cs j := nI_clamp (by omega)
      have s5 : 0 ≤ nI (hgt cs j) := nI_pos' (by omega)
      have s6 : nI (hgt cs j) < Int32.ofNat 48 := nI_lt (by omega) (by omega)
      have es : (fEv cs (gI S 108) w (gI S 106) j) = (g, hgt cs j) := by rw [q3, ← hv j q1]
      by_cases hj : j = L
      · have w1 : nI L ≤ nI j := nI_le (by omega) (by omega)
        have e1 : hgt cs L = 1 := wf.2.2.resolve_left q4
        have fin : g 0 = fVal cs (gI S 108) w (gI S 106) L := by rw [fVal, hv L (Nat.le_refl _), if_pos e1, q3, hj]
        refine r_iload_n rfl rfl ?_
        refine r_aload_n rfl rfl ?_
        refine r_getC rfl rfl (by decide) (by decide) rfl ?_
        refine r_iload_n rfl rfl ?_
        refine r_iald rfl rfl (by first | decide | assumption) (by first | exact s1 | exact s2 | decide) (by first | exact s1 | exact s2 | decide) ?_
        rw [a1]
        refine r_icmp_ge rfl (fun h22 => ?_) (fun h22 => ?_)
        · refine r_aload_n rfl rfl ?_
          refine r_getC rfl rfl (by decide) (by decide) rfl ?_
          refine r_iconst rfl ?_
          refine r_iald rfl rfl (by first | decide | assumption) (by first | exact s1 | exact s2 | decide) (by first | exact s1 | exact s2 | decide) ?_
          refine r_iret rfl rfl ?_
          rw [a2, show (0 : Int32).toNatClampNeg = 0 from rfl, fin, q3, hj]
          exact ⟨rfl, rfl⟩
        · exact absurd w1 h22
      · have w1 : ¬ nI L ≤ nI j := Int32.not_le.mpr (nI_lt (by omega) (by omega))
        have s4 : nI (48 * pl + j) < Int32.ofNat 672 := nI_lt (by omega) (by omega)
        have a3 : gI (rI S 106 g) 104 (nI (48 * pl + j)).toNatClampNeg = mcode (cs j) := by rw [gI_rI_ne (by decide), bx, f2 j (by omega)]
        obtain ⟨w2, w3⟩ := wf.2.1 j (by omega)
        have nxt : ∀ g2 t2, (fEv cs (gI S 108) w (gI S 106) (j + 1)) = (g2, t2) → ∀ v4, am_Ex (am_Call am_MT (d + 2)) mmX11_worked none (fun r1 G1 => r1 = (some (.int (fVal cs (gI S 108) w (gI S 106) L))) ∧ G1 = am_H (rI S 106 (fEv cs (gI S 108) w (gI S 106) L).1)) (fun _ _ _ _ _ _ => False) 15 [some (.ref 97), some (.int (nI pl)), some (.int (nI t2)), some (.int (nI (j + 1))), v4] [] (am_H (rI S 106 g2)) 0 0 := fun g2 t2 h2 v4 => by
          have e1 := hv (j + 1) (by omega)
          rw [h2] at e1
          have e2 : t2 = hgt cs (j + 1) := e1
          rw [e2]
          exact ih (j + 1) g2 v4 (by omega) (by omega) (by rw [h2]) q4
        by_cases hc : cs j < 2000
        · have mc : mcode (cs j) = cs j := if_neg (fun z => by rw [z] at hc; exact absurd hc (by decide))
          rw [mc] at a3
          have st : fEv cs (gI S 108) w (gI S 106) (j + 1) = (upd g (hgt cs j) (fThing (gI S 108) w (cs j)), hgt cs j + 1) := by
            rw [fEv, if_pos hc, es]
            show (if hgt cs j < 40 then _ else _) = _
            rw [if_pos (by omega)]
          rcases w2 hc with ⟨q, hq, hcq⟩ | ⟨q, hq, hcq⟩
          · have th : fThing (gI S 108) w (cs j) = nI q := by rw [fThing, hcq, if_pos (show nI q - 1000 < 0 from pk_sneg (b := 1000) (by omega) hq)]
            have w4 : nI q < 1000 := nI_lt (b := 1000) hq (by omega)
            rw [hcq] at a3 hc
            refine r_iload_n rfl rfl ?_
            refine r_aload_n rfl rfl ?_
            refine r_getC rfl rfl (by decide) (by decide) rfl ?_
            refine r_iload_n rfl rfl ?_
            refine r_iald rfl rfl (by first | decide | assumption) (by first | exact s1 | exact s2 | exact s3 | exact s4 | exact s5 | exact s6) (by first | exact s1 | exact s2 | exact s3 | exact s4 | exact s5 | exact s6) ?_
            rw [a1]
            refine r_icmp_ge rfl (fun h22 => ?_) (fun h22 => ?_)
            · exact absurd h22 w1
            · refine r_aload_n rfl rfl ?_
              refine r_getC rfl rfl (by decide) (by decide) rfl ?_
              refine r_bipush rfl ?_
              refine r_iload_n rfl rfl ?_
              refine r_imul rfl ?_
              refine r_iload_n rfl rfl ?_
              refine r_iadd rfl ?_
              rw [ix]
              refine r_iald rfl rfl (by first | decide | assumption) (by first | exact s1 | exact s2 | exact s3 | exact s4 | exact s5 | exact s6) (by first | exact s1 | exact s2 | exact s3 | exact s4 | exact s5 | exact s6) ?_
              rw [a3]
              refine r_istore (L2 := [_, _, _, _, _]) rfl rfl ?_
              refine r_iload rfl rfl ?_
              refine r_sipush rfl ?_
              refine r_icmp_ge rfl (fun h43 => ?_) (fun h43 => ?_)
              · exact absurd hc (Int32.not_lt.mpr h43)
              · refine r_aload_n rfl rfl ?_
                refine r_getC rfl rfl (by decide) (by decide) rfl ?_
                refine r_iload_n rfl rfl ?_
                refine r_iload rfl rfl ?_
                refine r_sipush rfl ?_
                refine r_icmp_ge rfl (fun h56 => ?_) (fun h56 => ?_)
                · exact absurd w4 (Int32.not_lt.mpr h56)
                · refine r_iload rfl rfl ?_
                  refine r_goto rfl ?_
                  refine r_iast rfl rfl (by first | decide | assumption) (by first | exact s1 | exact s2 | exact s3 | exact s4 | exact s5 | exact s6) (by first | exact s1 | exact s2 | exact s3 | exact s4 | exact s5 | exact s6) ?_
                  refine r_iinc (L2 := [_, _, _, _, _]) rfl rfl rfl ?_
                  refine r_goto rfl ?_
                  refine r_iinc (L2 := [_, _, _, _, _]) rfl rfl rfl ?_
                  refine r_goto rfl ?_
                  rw [b1, uI_rIs, nI_1, nI_1, ← th]
                  exact nxt _ _ st _
          · have e5 : cs j - 1000 = nI q := by rw [hcq, ← nI_add]; show 1000 + nI q - 1000 = nI q; grind
            have th : fThing (gI S 108) w (cs j) = gI S 108 q := by rw [fThing, e5, if_neg (nI_pos (by omega)), if_pos (show nI q < Int32.ofNat w from nI_lt hq (by omega)), nI_clamp (by omega)]
            have w4 : ¬ cs j < 1000 := by rw [hcq]; exact nI_nlt (b := 1000) (by omega) (by omega)
            have bq : (nI q).toNatClampNeg = q := nI_clamp (by omega)
            have s7 : 0 ≤ nI q := nI_pos' (by omega)
            have s8 : nI q < Int32.ofNat 6 := nI_lt (by omega) (by omega)
            have a4 : gI (rI S 106 g) 108 q = fThing (gI S 108) w (cs j) := by rw [gI_rI_ne (by decide), th]
            refine r_iload_n rfl rfl ?_
            refine r_aload_n rfl rfl ?_
            refine r_getC rfl rfl (by decide) (by decide) rfl ?_
            refine r_iload_n rfl rfl ?_
            refine r_iald rfl rfl (by first | decide | assumption) (by first | exact s1 | exact s2 | exact s3 | exact s4 | exact s5 | exact s6 | exact s7 | exact s8) (by first | exact s1 | exact s2 | exact s3 | exact s4 | exact s5 | exact s6 | exact s7 | exact s8) ?_
            rw [a1]
            refine r_icmp_ge rfl (fun h22 => ?_) (fun h22 => ?_)
            · exact absurd h22 w1
            · refine r_aload_n rfl rfl ?_
              refine r_getC rfl rfl (by decide) (by decide) rfl ?_
              refine r_bipush rfl ?_
              refine r_iload_n rfl rfl ?_
              refine r_imul rfl ?_
              refine r_iload_n rfl rfl ?_
              refine r_iadd rfl ?_
              rw [ix]
              refine r_iald rfl rfl (by first | decide | assumption) (by first | exact s1 | exact s2 | exact s3 | exact s4 | exact s5 | exact s6 | exact s7 | exact s8) (by first | exact s1 | exact s2 | exact s3 | exact s4 | exact s5 | exact s6 | exact s7 | exact s8) ?_
              rw [a3]
              refine r_istore (L2 := [_, _, _, _, _]) rfl rfl ?_
              refine r_iload rfl rfl ?_
              refine r_sipush rfl ?_
              refine r_icmp_ge rfl (fun h43 => ?_) (fun h43 => ?_)
              · exact absurd hc (Int32.not_lt.mpr h43)
              · refine r_aload_n rfl rfl ?_
                refine r_getC rfl rfl (by decide) (by decide) rfl ?_
                refine r_iload_n rfl rfl ?_
                refine r_iload rfl rfl ?_
                refine r_sipush rfl ?_
                refine r_icmp_ge rfl (fun h56 => ?_) (fun h56 => ?_)
                · refine r_aload_n rfl rfl ?_
                  refine r_getC rfl rfl (by decide) (by decide) rfl ?_
                  refine r_iload rfl rfl ?_
                  refine r_sipush rfl ?_
                  refine r_isub rfl ?_
                  rw [e5]
                  refine r_iald rfl rfl (by first | decide | assumption) (by first | exact s1 | exact s2 | exact s3 | exact s4 | exact s5 | exact s6 | exact s7 | exact s8) (by first | exact s1 | exact s2 | exact s3 | exact s4 | exact s5 | exact s6 | exact s7 | exact s8) ?_
                  refine r_iast rfl rfl (by first | decide | assumption) (by first | exact s1 | exact s2 | exact s3 | exact s4 | exact s5 | exact s6 | exact s7 | exact s8) (by first | exact s1 | exact s2 | exact s3 | exact s4 | exact s5 | exact s6 | exact s7 | exact s8) ?_
                  refine r_iinc (L2 := [_, _, _, _, _]) rfl rfl rfl ?_
                  refine r_goto rfl ?_
                  refine r_iinc (L2 := [_, _, _, _, _]) rfl rfl rfl ?_
                  refine r_goto rfl ?_
                  rw [b1, bq, a4, uI_rIs, nI_1, nI_1]
                  exact nxt _ _ st _
                · exact absurd (Int32.not_le.mp h56) w4
        · have hc2 : ¬ mcode (cs j) < 2000 := fun z => hc (mcode_lt.mp z)
          have m1 : 1 ≤ hgt cs j → nI (hgt cs j) - 1 = nI (hgt cs j - 1) := fun h => pk_sub (b := 1) h
          have m1b : (nI (hgt cs j - 1)).toNatClampNeg = hgt cs j - 1 := nI_clamp (by omega)
          have s7 : 0 ≤ nI (hgt cs j - 1) := nI_pos' (by omega)
          have s8 : nI (hgt cs j - 1) < Int32.ofNat 48 := nI_lt (by omega) (by omega)
          rcases w3 hc with ⟨hu, h1⟩ | ⟨hu, hb, h2⟩
          · rcases hu with hu | hu
            · have st : fEv cs (gI S 108) w (gI S 106) (j + 1) = (upd g (hgt cs j - 1) (-g (hgt cs j - 1)), hgt cs j) := by
                rw [fEv, if_neg hc, es, hu]
                exact reck_neg h1 (by omega)
              rw [hu, show mcode 2110 = 2126 from rfl] at a3 hc2
              refine r_iload_n rfl rfl ?_
              refine r_aload_n rfl rfl ?_
              refine r_getC rfl rfl (by decide) (by decide) rfl ?_
              refine r_iload_n rfl rfl ?_
              refine r_iald rfl rfl (by first | decide | assumption) (by first | exact s1 | exact s2 | exact s3 | exact s4 | exact s5 | exact s6 | exact s7 | exact s8) (by first | exact s1 | exact s2 | exact s3 | exact s4 | exact s5 | exact s6 | exact s7 | exact s8) ?_
              rw [a1]
              refine r_icmp_ge rfl (fun h22 => ?_) (fun h22 => ?_)
              · exact absurd h22 w1
              · refine r_aload_n rfl rfl ?_
                refine r_getC rfl rfl (by decide) (by decide) rfl ?_
                refine r_bipush rfl ?_
                refine r_iload_n rfl rfl ?_
                refine r_imul rfl ?_
                refine r_iload_n rfl rfl ?_
                refine r_iadd rfl ?_
                rw [ix]
                refine r_iald rfl rfl (by first | decide | assumption) (by first | exact s1 | exact s2 | exact s3 | exact s4 | exact s5 | exact s6 | exact s7 | exact s8) (by first | exact s1 | exact s2 | exact s3 | exact s4 | exact s5 | exact s6 | exact s7 | exact s8) ?_
                rw [a3]
                refine r_istore (L2 := [_, _, _, _, _]) rfl rfl ?_
                refine r_iload rfl rfl ?_
                refine r_sipush rfl ?_
                refine r_icmp_ge rfl (fun h43 => ?_) (fun h43 => ?_)
                · refine r_iload rfl rfl ?_
                  refine r_sipush rfl ?_
                  refine r_icmp_ne rfl (fun h87 => ?_) (fun h87 => ?_)
                  · refine r_iload rfl rfl ?_
                    refine r_sipush rfl ?_
                    refine r_icmp_ne rfl (fun h125 => ?_) (fun h125 => ?_)
                    · first | exact absurd h125 (by decide) | exact absurd (by decide) h125
                    · refine r_aload_n rfl rfl ?_
                      refine r_getC rfl rfl (by decide) (by decide) rfl ?_
                      refine r_iload_n rfl rfl ?_
                      refine r_iconst rfl ?_
                      refine r_isub rfl ?_
                      rw [m1 h1]
                      refine r_aload_n rfl rfl ?_
                      refine r_getC rfl rfl (by decide) (by decide) rfl ?_
                      refine r_iload_n rfl rfl ?_
                      refine r_iconst rfl ?_
                      refine r_isub rfl ?_
                      rw [m1 h1]
                      refine r_iald rfl rfl (by first | decide | assumption) (by first | exact s1 | exact s2 | exact s3 | exact s4 | exact s5 | exact s6 | exact s7 | exact s8) (by first | exact s1 | exact s2 | exact s3 | exact s4 | exact s5 | exact s6 | exact s7 | exact s8) ?_
                      refine r_ineg rfl ?_
                      refine r_iast rfl rfl (by first | decide | assumption) (by first | exact s1 | exact s2 | exact s3 | exact s4 | exact s5 | exact s6 | exact s7 | exact s8) (by first | exact s1 | exact s2 | exact s3 | exact s4 | exact s5 | exact s6 | exact s7 | exact s8) ?_
                      refine r_goto rfl ?_
                      refine r_iinc (L2 := [_, _, _, _, _]) rfl rfl rfl ?_
                      refine r_goto rfl ?_
                      rw [m1b, a2, uI_rIs, nI_1]
                      exact nxt _ _ st _
                  · first | exact absurd h87 (by decide) | exact absurd (by decide) h87
                · first | exact absurd h43 (by decide) | exact absurd (by decide) h43
            · have st : fEv cs (gI S 108) w (gI S 106) (j + 1) = (upd g (hgt cs j - 1) (b01 (g (hgt cs j - 1) = 0)), hgt cs j) := by
                rw [fEv, if_neg hc, es, hu]
                exact reck_not h1 (by omega)
              rw [hu, show mcode 2033 = 2033 from rfl] at a3 hc2
              refine r_iload_n rfl rfl ?_
              refine r_aload_n rfl rfl ?_
              refine r_getC rfl rfl (by decide) (by decide) rfl ?_
              refine r_iload_n rfl rfl ?_
              refine r_iald rfl rfl (by first | decide | assumption) (by first | exact s1 | exact s2 | exact s3 | exact s4 | exact s5 | exact s6 | exact s7 | exact s8) (by first | exact s1 | exact s2 | exact s3 | exact s4 | exact s5 | exact s6 | exact s7 | exact s8) ?_
              rw [a1]
              refine r_icmp_ge rfl (fun h22 => ?_) (fun h22 => ?_)
              · exact absurd h22 w1
              · refine r_aload_n rfl rfl ?_
                refine r_getC rfl rfl (by decide) (by decide) rfl ?_
                refine r_bipush rfl ?_
                refine r_iload_n rfl rfl ?_
                refine r_imul rfl ?_
                refine r_iload_n rfl rfl ?_
                refine r_iadd rfl ?_
                rw [ix]
                refine r_iald rfl rfl (by first | decide | assumption) (by first | exact s1 | exact s2 | exact s3 | exact s4 | exact s5 | exact s6 | exact s7 | exact s8) (by first | exact s1 | exact s2 | exact s3 | exact s4 | exact s5 | exact s6 | exact s7 | exact s8) ?_
                rw [a3]
                refine r_istore (L2 := [_, _, _, _, _]) rfl rfl ?_
                refine r_iload rfl rfl ?_
                refine r_sipush rfl ?_
                refine r_icmp_ge rfl (fun h43 => ?_) (fun h43 => ?_)
                · refine r_iload rfl rfl ?_
                  refine r_sipush rfl ?_
                  refine r_icmp_ne rfl (fun h87 => ?_) (fun h87 => ?_)
                  · first | exact absurd h87 (by decide) | exact absurd (by decide) h87
                  · refine r_aload_n rfl rfl ?_
                    refine r_getC rfl rfl (by decide) (by decide) rfl ?_
                    refine r_iload_n rfl rfl ?_
                    refine r_iconst rfl ?_
                    refine r_isub rfl ?_
                    rw [m1 h1]
                    refine r_aload_n rfl rfl ?_
                    refine r_getC rfl rfl (by decide) (by decide) rfl ?_
                    refine r_iload_n rfl rfl ?_
                    refine r_iconst rfl ?_
                    refine r_isub rfl ?_
                    rw [m1 h1]
                    refine r_iald rfl rfl (by first | decide | assumption) (by first | exact s1 | exact s2 | exact s3 | exact s4 | exact s5 | exact s6 | exact s7 | exact s8) (by first | exact s1 | exact s2 | exact s3 | exact s4 | exact s5 | exact s6 | exact s7 | exact s8) ?_
                    rw [m1b, a2]
                    refine r_if_ne rfl (fun h105 => ?_) (fun h105 => ?_)
                    · rw [b01_f h105] at st
                      refine r_iconst rfl ?_
                      refine r_callS rfl (by decide) (ct_X11_flag (by simp)) rfl rfl (am_cnt rfl) ?_
                      refine r_iast rfl rfl (by first | decide | assumption) (by first | exact s1 | exact s2 | exact s3 | exact s4 | exact s5 | exact s6 | exact s7 | exact s8) (by first | exact s1 | exact s2 | exact s3 | exact s4 | exact s5 | exact s6 | exact s7 | exact s8) ?_
                      refine r_goto rfl ?_
                      refine r_iinc (L2 := [_, _, _, _, _]) rfl rfl rfl ?_
                      refine r_goto rfl ?_
                      rw [m1b, uI_rIs, nI_1]
                      exact nxt _ _ st _
                    · rw [b01_t h105] at st
                      refine r_iconst rfl ?_
                      refine r_goto rfl ?_
                      refine r_callS rfl (by decide) (ct_X11_flag (by simp)) rfl rfl (am_cnt rfl) ?_
                      refine r_iast rfl rfl (by first | decide | assumption) (by first | exact s1 | exact s2 | exact s3 | exact s4 | exact s5 | exact s6 | exact s7 | exact s8) (by first | exact s1 | exact s2 | exact s3 | exact s4 | exact s5 | exact s6 | exact s7 | exact s8) ?_
                      refine r_goto rfl ?_
                      refine r_iinc (L2 := [_, _, _, _, _]) rfl rfl rfl ?_
                      refine r_goto rfl ?_
                      rw [m1b, uI_rIs, nI_1]
                      exact nxt _ _ st _
                · first | exact absurd h43 (by decide) | exact absurd (by decide) h43
          · have mc : mcode (cs j) = cs j := if_neg (fun z => hu (Or.inl z))
            rw [mc] at a3 hc2
            have st : fEv cs (gI S 108) w (gI S 106) (j + 1) = (upd g (hgt cs j - 2) (fJoin (cs j - 2000) (g (hgt cs j - 2)) (g (hgt cs j - 1))), hgt cs j - 1) := by
              rw [fEv, if_neg hc, es]
              exact reck_bin h2 (by omega) hu
            have n33 : ¬ cs j = 2033 := fun z => hu (Or.inr z)
            have n26 : ¬ cs j = 2126 := fun z => by rw [z] at hb; revert hb; decide
            have hb2 : binC (cs j - 2000 + 2000) := by rw [show cs j - 2000 + 2000 = cs j by grind]; exact hb
            have mm : nI (hgt cs j) + -1 = nI (hgt cs j - 1) := nI_m1 (by omega)
            have m2 : nI (hgt cs j - 1) - 1 = nI (hgt cs j - 2) := by rw [show nI (hgt cs j - 1) - 1 = nI (hgt cs j - 1 - 1) from pk_sub (b := 1) (by omega)]; congr 1
            have m2b : (nI (hgt cs j - 2)).toNatClampNeg = hgt cs j - 2 := nI_clamp (by omega)
            have s9 : 0 ≤ nI (hgt cs j - 2) := nI_pos' (by omega)
            have s10 : nI (hgt cs j - 2) < Int32.ofNat 48 := nI_lt (by omega) (by omega)
            refine r_iload_n rfl rfl ?_
            refine r_aload_n rfl rfl ?_
            refine r_getC rfl rfl (by decide) (by decide) rfl ?_
            refine r_iload_n rfl rfl ?_
            refine r_iald rfl rfl (by first | decide | assumption) (by first | exact s1 | exact s2 | exact s3 | exact s4 | exact s5 | exact s6 | exact s7 | exact s8 | exact s9 | exact s10) (by first | exact s1 | exact s2 | exact s3 | exact s4 | exact s5 | exact s6 | exact s7 | exact s8 | exact s9 | exact s10) ?_
            rw [a1]
            refine r_icmp_ge rfl (fun h22 => ?_) (fun h22 => ?_)
            · exact absurd h22 w1
            · refine r_aload_n rfl rfl ?_
              refine r_getC rfl rfl (by decide) (by decide) rfl ?_
              refine r_bipush rfl ?_
              refine r_iload_n rfl rfl ?_
              refine r_imul rfl ?_
              refine r_iload_n rfl rfl ?_
              refine r_iadd rfl ?_
              rw [ix]
              refine r_iald rfl rfl (by first | decide | assumption) (by first | exact s1 | exact s2 | exact s3 | exact s4 | exact s5 | exact s6 | exact s7 | exact s8 | exact s9 | exact s10) (by first | exact s1 | exact s2 | exact s3 | exact s4 | exact s5 | exact s6 | exact s7 | exact s8 | exact s9 | exact s10) ?_
              rw [a3]
              refine r_istore (L2 := [_, _, _, _, _]) rfl rfl ?_
              refine r_iload rfl rfl ?_
              refine r_sipush rfl ?_
              refine r_icmp_ge rfl (fun h43 => ?_) (fun h43 => ?_)
              · refine r_iload rfl rfl ?_
                refine r_sipush rfl ?_
                refine r_icmp_ne rfl (fun h87 => ?_) (fun h87 => ?_)
                · refine r_iload rfl rfl ?_
                  refine r_sipush rfl ?_
                  refine r_icmp_ne rfl (fun h125 => ?_) (fun h125 => ?_)
                  · refine r_iinc (L2 := [_, _, _, _, _]) rfl rfl rfl ?_
                    rw [mm]
                    refine r_aload_n rfl rfl ?_
                    refine r_getC rfl rfl (by decide) (by decide) rfl ?_
                    refine r_iload_n rfl rfl ?_
                    refine r_iconst rfl ?_
                    refine r_isub rfl ?_
                    rw [m2]
                    refine r_iload rfl rfl ?_
                    refine r_sipush rfl ?_
                    refine r_isub rfl ?_
                    refine r_aload_n rfl rfl ?_
                    refine r_getC rfl rfl (by decide) (by decide) rfl ?_
                    refine r_iload_n rfl rfl ?_
                    refine r_iconst rfl ?_
                    refine r_isub rfl ?_
                    rw [m2]
                    refine r_iald rfl rfl (by first | decide | assumption) (by first | exact s1 | exact s2 | exact s3 | exact s4 | exact s5 | exact s6 | exact s7 | exact s8 | exact s9 | exact s10) (by first | exact s1 | exact s2 | exact s3 | exact s4 | exact s5 | exact s6 | exact s7 | exact s8 | exact s9 | exact s10) ?_
                    refine r_aload_n rfl rfl ?_
                    refine r_getC rfl rfl (by decide) (by decide) rfl ?_
                    refine r_iload_n rfl rfl ?_
                    refine r_iald rfl rfl (by first | decide | assumption) (by first | exact s1 | exact s2 | exact s3 | exact s4 | exact s5 | exact s6 | exact s7 | exact s8 | exact s9 | exact s10) (by first | exact s1 | exact s2 | exact s3 | exact s4 | exact s5 | exact s6 | exact s7 | exact s8 | exact s9 | exact s10) ?_
                    refine r_callS rfl (by decide) (ct_X11_acted hb2) rfl rfl (am_cnt rfl) ?_
                    refine r_iast rfl rfl (by first | decide | assumption) (by first | exact s1 | exact s2 | exact s3 | exact s4 | exact s5 | exact s6 | exact s7 | exact s8 | exact s9 | exact s10) (by first | exact s1 | exact s2 | exact s3 | exact s4 | exact s5 | exact s6 | exact s7 | exact s8 | exact s9 | exact s10) ?_
                    refine r_iinc (L2 := [_, _, _, _, _]) rfl rfl rfl ?_
                    refine r_goto rfl ?_
                    rw [m2b, m1b, a2, uI_rIs, nI_1]
                    exact nxt _ _ st _
                  · exact absurd h125 n26
                · exact absurd h87 n33
              · exact absurd (Int32.not_le.mp h43) hc2
  by_cases h0 : L = 0
  · have e0 : fVal cs (gI S 108) w (gI S 106) L = 0 := by rw [h0]; rfl
    have e1 : rI S 106 (fEv cs (gI S 108) w (gI S 106) L).1 = S := by rw [h0]; exact rI_id S 106
    have f0 : gI S 105 (nI pl).toNatClampNeg = 0 := by rw [bp, f1, h0]; rfl
    rw [e0, e1]
    refine r_aload_n rfl rfl ?_
    refine r_getC rfl rfl (by decide) (by decide) rfl ?_
    refine r_iload_n rfl rfl ?_
    refine r_iald rfl rfl (by first | decide | assumption) (by first | exact s1 | exact s2) (by first | exact s1 | exact s2) ?_
    refine r_if_ne rfl (fun h6 => ?_) (fun h6 => ?_)
    · exact absurd f0 h6
    · refine r_iconst rfl ?_
      refine r_iret rfl rfl ?_
      exact ⟨rfl, rfl⟩
  · have f0 : ¬ gI S 105 (nI pl).toNatClampNeg = 0 := by rw [bp, f1]; exact nI_ne0 (by omega) (by omega)
    refine r_aload_n rfl rfl ?_
    refine r_getC rfl rfl (by decide) (by decide) rfl ?_
    refine r_iload_n rfl rfl ?_
    refine r_iald rfl rfl (by first | decide | assumption) (by first | exact s1 | exact s2) (by first | exact s1 | exact s2) ?_
    refine r_if_ne rfl (fun h6 => ?_) (fun h6 => ?_)
    · refine r_iconst rfl ?_
      refine r_istore_n (L2 := [_, _, _, _, _]) rfl rfl ?_
      refine r_iconst rfl ?_
      refine r_istore_n (L2 := [_, _, _, _, _]) rfl rfl ?_
      have e := loop (L + 1) 0 (gI S 106) none (by omega) (by omega) rfl h0
      rw [rI_id] at e
      exact e
    · exact absurd h6 f0
