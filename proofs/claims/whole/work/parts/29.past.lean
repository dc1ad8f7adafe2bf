/-! What went by; rules tried out. -/
theorem isC54 (T : am_S) : IsC T 54 := ⟨rfl, rfl, rfl, rfl, rfl, rfl⟩
theorem isC60 (T : am_S) : IsC T 60 := ⟨rfl, rfl, rfl, rfl, rfl, rfl⟩
theorem fNoted_nI {S : am_S} {q p j : Nat} (hp : p < 6) (hj : j < 200) : fNoted S q (nI p) (nI j) = gI S q (p * 200 + j) := by
  have e : nI p * 200 + nI j = nI (p * 200 + j) := (congrArg (fun z => z + nI j) (pk_mul p 200)).trans (nI_add _ _)
  rw [fNoted, e, if_neg, nI_clamp (by omega)]
  rintro (z | z | z | z)
  · exact nI_pos (by omega) z
  · exact nI_nlt (a := 199) (b := j) (by omega) (by omega) z
  · exact nI_pos (by omega) z
  · exact absurd z (Int32.not_le.mpr (nI_lt (b := 1200) (by omega) (by omega)))
theorem t1_ne {S : am_S} {a : Int64} {c : Nat} (h : c ≠ 74) : gI (t1 S a) c = gI S c := by
  rw [t1, tAdd, gI_uI_ne h, gI_uJ_f, gI_uI_ne h]
theorem t2_ne {S : am_S} {a b : Int64} {c : Nat} (h : c ≠ 74) : gI (t2 S a b) c = gI S c := by
  rw [t2, tAdd, gI_uI_ne h, gI_uJ_f, t1_ne h]
theorem t3_ne {S : am_S} {a b e : Int64} {c : Nat} (h : c ≠ 74) : gI (t3 S a b e) c = gI S c := by
  rw [t3, tAdd, gI_uI_ne h, gI_uJ_f, t2_ne h]
theorem ct_X10_go_ok {d : Nat} {S : am_S} {n nw m : Nat} {dg fz : Nat → Nat} (hP : PasOk 54 n nw dg fz S) (hw : nw ≤ 199) (hm : m ≤ 199) : am_CT (d + 6) iX10_go [.ref 0, .int (nI m)] S (some (.int (gI (pasC 54 n nw dg fz S (min m (199 - nw))) 55 (nw + min m (199 - nw))))) (pasC 54 n nw dg fz S (min m (199 - nw))) := by
  refine am_CT_in mmX10_go rfl rfl rfl ?_
  have c1 : 0 ≤ nI m ∧ nI m ≤ 199 := ⟨nI_pos' (by omega), nI_le (b := 199) hm (by omega)⟩
  refine r_iload_n rfl rfl ?_
  refine r_iconst rfl ?_
  refine r_sipush rfl ?_
  refine r_callS rfl (by decide) ct_X10_isWithin rfl rfl (am_cnt rfl) ?_
  refine r_if_ne rfl (fun h8 => ?_) (fun h8 => ?_)
  · refine r_aload_n rfl rfl ?_
    refine r_getC rfl rfl (by decide) (by decide) rfl ?_
    refine r_aload_n rfl rfl ?_
    refine r_getC rfl rfl (by decide) (by decide) rfl ?_
    refine r_iload_n rfl rfl ?_
    refine r_callV rfl (ct_X9_pass isC54 (by omega) hP hw (by omega)) rfl rfl rfl (by decide) rfl (am_cnt rfl) ?_
    refine r_aload_n rfl rfl ?_
    refine r_getC rfl rfl (by decide) (by decide) rfl ?_
    refine r_aload_n rfl rfl ?_
    refine r_getC rfl rfl (by decide) (by decide) rfl ?_
    refine r_getI rfl rfl (by decide) (by decide) rfl ?_
    refine r_callV rfl (ct_X0_placeAt (o := 54) (isC54 _)) rfl rfl rfl (by decide) rfl (am_cnt rfl) ?_
    refine r_iret rfl rfl ?_
    rw [pasC_now hP.2.2.1, fPlace_nI (by omega)]
    exact ⟨rfl, rfl⟩
  · exact absurd (c1) (b01_eq0.mp h8)
theorem ct_X10_does_0 {d : Nat} {S : am_S} {n nw p : Nat} {dg fz : Nat → Nat} (hP : PasOk 54 n nw dg fz S) (hp : p < n) : am_CT (d + 5) iX10_does [.ref 0, .int (nI p), .int 0] S (some (.int (ddV 54 n dg fz S p))) (ddS 54 n dg fz S p) := by
  refine am_CT_in mmX10_does rfl rfl rfl ?_
  obtain ⟨hn, hz, hnw, hdg, hfz⟩ := hP
  have hp6 : p < 6 := by omega
  have n1 : gI (lkS 54 n S p) 1 1 = nI n := by rw [lkS, gI_rI_ne (by decide), hn]
  have n5 : gI (lkS 54 n S p) 4 p = nI (dg p) := by rw [lkS, gI_rI_ne (by decide), (hdg p hp6).1]
  have n6 : gI (lkS 54 n S p) (18 + 3 * dg p) 1 = nI (fz (dg p)) := by rw [lkS, gI_rI_ne (by omega), (hfz _ (hdg p hp6).2).1]
  refine r_aload_n rfl rfl ?_
  refine r_getC rfl rfl (by decide) (by decide) rfl ?_
  refine r_iload_n rfl rfl ?_
  refine r_callV rfl ct_X9_has rfl rfl rfl (by decide) rfl (am_cnt rfl) ?_
  refine r_if_eq rfl (fun h8 => ?_) (fun h8 => ?_)
  · exact absurd (hasP_nI hn hz hp) (b01_eq0.mp h8)
  · refine r_iload_n rfl rfl ?_
    refine r_if_lt rfl (fun h12 => ?_) (fun h12 => ?_)
    · first | exact absurd h12 (by decide) | exact absurd (by decide) h12
    · refine r_iload_n rfl rfl ?_
      refine r_iconst rfl ?_
      refine r_icmp_le rfl (fun h17 => ?_) (fun h17 => ?_)
      · refine r_aload_n rfl rfl ?_
        refine r_getC rfl rfl (by decide) (by decide) rfl ?_
        refine r_aload_n rfl rfl ?_
        refine r_getC rfl rfl (by decide) (by decide) rfl ?_
        refine r_iload_n rfl rfl ?_
        refine r_callV rfl (ct_X9_look (isC54 _) (by omega) hn hz (hasP_nI hn hz hp)) rfl rfl rfl (by decide) rfl (am_cnt rfl) ?_
        refine r_iload_n rfl rfl ?_
        refine r_if_ne rfl (fun h41 => ?_) (fun h41 => ?_)
        · first | exact absurd h41 (by decide) | exact absurd (by decide) h41
        · refine r_aload_n rfl rfl ?_
          refine r_getC rfl rfl (by decide) (by decide) rfl ?_
          refine r_iload_n rfl rfl ?_
          refine r_callV rfl (ct_X9_deed (S := lkS 54 n S p) n1 hz hp n5 (hdg p hp6).2 n6 (hfz _ (hdg p hp6).2).2) rfl rfl rfl (by decide) rfl (am_cnt rfl) ?_
          refine r_goto rfl ?_
          refine r_iret rfl rfl ?_
          exact ⟨rfl, rfl⟩
      · first | exact absurd h17 (by decide) | exact absurd (by decide) h17
theorem ct_X10_does_1 {d : Nat} {S : am_S} {n nw p : Nat} {dg fz : Nat → Nat} (hP : PasOk 54 n nw dg fz S) (hp : p < n) : am_CT (d + 5) iX10_does [.ref 0, .int (nI p), .int 1] S (some (.int (fPut (vV (lkS 54 n S p) (2 * p + 1) (fz (2 * p + 1))) 99))) (vS (lkS 54 n S p) (2 * p + 1) (fz (2 * p + 1))) := by
  refine am_CT_in mmX10_does rfl rfl rfl ?_
  obtain ⟨hn, hz, hnw, hdg, hfz⟩ := hP
  have hp6 : p < 6 := by omega
  have n6 : gI (lkS 54 n S p) (18 + 3 * (2 * p + 1)) 1 = nI (fz (2 * p + 1)) := by rw [lkS, gI_rI_ne (by omega), (hfz _ (by omega)).1]
  refine r_aload_n rfl rfl ?_
  refine r_getC rfl rfl (by decide) (by decide) rfl ?_
  refine r_iload_n rfl rfl ?_
  refine r_callV rfl ct_X9_has rfl rfl rfl (by decide) rfl (am_cnt rfl) ?_
  refine r_if_eq rfl (fun h8 => ?_) (fun h8 => ?_)
  · exact absurd (hasP_nI hn hz hp) (b01_eq0.mp h8)
  · refine r_iload_n rfl rfl ?_
    refine r_if_lt rfl (fun h12 => ?_) (fun h12 => ?_)
    · first | exact absurd h12 (by decide) | exact absurd (by decide) h12
    · refine r_iload_n rfl rfl ?_
      refine r_iconst rfl ?_
      refine r_icmp_le rfl (fun h17 => ?_) (fun h17 => ?_)
      · refine r_aload_n rfl rfl ?_
        refine r_getC rfl rfl (by decide) (by decide) rfl ?_
        refine r_aload_n rfl rfl ?_
        refine r_getC rfl rfl (by decide) (by decide) rfl ?_
        refine r_iload_n rfl rfl ?_
        refine r_callV rfl (ct_X9_look (isC54 _) (by omega) hn hz (hasP_nI hn hz hp)) rfl rfl rfl (by decide) rfl (am_cnt rfl) ?_
        refine r_iload_n rfl rfl ?_
        refine r_if_ne rfl (fun h41 => ?_) (fun h41 => ?_)
        · refine r_aload_n rfl rfl ?_
          refine r_getC rfl rfl (by decide) (by decide) rfl ?_
          refine r_iload_n rfl rfl ?_
          refine r_callV rfl (ct_X9_speech (S := lkS 54 n S p) hp6 n6 (hfz _ (by omega)).2) rfl rfl rfl (by decide) rfl (am_cnt rfl) ?_
          refine r_iret rfl rfl ?_
          exact ⟨rfl, rfl⟩
        · first | exact absurd h41 (by decide) | exact absurd (by decide) h41
      · first | exact absurd h17 (by decide) | exact absurd (by decide) h17
theorem ct_X10_was_ok {d : Nat} {S : am_S} {n nw p m k : Nat} (hn : gI S 1 1 = nI n) (hz : n ≤ 6) (hnw : gI S 54 0 = nI nw) (hw : nw ≤ 199) (hp : p < n) (hm : m < nw) (hk : k < 4) : am_CT (d + 2) iX10_was [.ref 0, .int (nI p), .int (nI m), .int (nI k)] S (some (.int (gI S (56 + k) (p * 200 + m)))) (S) := by
  refine am_CT_in mmX10_was rfl rfl rfl ?_
  have c1 : 0 ≤ nI m ∧ nI m ≤ gI S 54 0 - 1 := ⟨nI_pos' (by omega), by rw [hnw, show nI nw - 1 = nI (nw - 1) from pk_sub (b := 1) (by omega)]; exact nI_le (by omega) (by omega)⟩
  have c2 : nI k ≤ 3 := nI_le (b := 3) (by omega) (by omega)
  have c3 : ¬ nI k < 0 := nI_pos (by omega)
  match k, hk with
  | 0, _ =>
    refine r_aload_n rfl rfl ?_
    refine r_getC rfl rfl (by decide) (by decide) rfl ?_
    refine r_iload_n rfl rfl ?_
    refine r_callV rfl ct_X9_has rfl rfl rfl (by decide) rfl (am_cnt rfl) ?_
    refine r_if_eq rfl (fun h8 => ?_) (fun h8 => ?_)
    · exact absurd (hasP_nI hn hz hp) (b01_eq0.mp h8)
    · refine r_iload_n rfl rfl ?_
      refine r_iconst rfl ?_
      refine r_aload_n rfl rfl ?_
      refine r_getC rfl rfl (by decide) (by decide) rfl ?_
      refine r_getI rfl rfl (by decide) (by decide) rfl ?_
      refine r_iconst rfl ?_
      refine r_isub rfl ?_
      refine r_callS rfl (by decide) ct_X10_isWithin rfl rfl (am_cnt rfl) ?_
      refine r_if_eq rfl (fun h25 => ?_) (fun h25 => ?_)
      · exact absurd (c1) (b01_eq0.mp h25)
      · refine r_iload_n rfl rfl ?_
        refine r_if_lt rfl (fun h29 => ?_) (fun h29 => ?_)
        · exact absurd h29 c3
        · refine r_iload_n rfl rfl ?_
          refine r_iconst rfl ?_
          refine r_icmp_le rfl (fun h34 => ?_) (fun h34 => ?_)
          · refine r_aload_n rfl rfl ?_
            refine r_getC rfl rfl (by decide) (by decide) rfl ?_
            refine r_getO rfl rfl (by decide) (by decide) rfl ?_
            refine r_astore (L2 := [_, _, _, _, _]) rfl rfl ?_
            refine r_iload_n rfl rfl ?_
            refine r_if_ne rfl (fun h55 => ?_) (fun h55 => ?_)
            · first | exact absurd h55 (by decide) | exact absurd (by decide) h55
            · refine r_aload_n rfl rfl ?_
              refine r_getC rfl rfl (by decide) (by decide) rfl ?_
              refine r_getO rfl rfl (by decide) (by decide) rfl ?_
              refine r_astore (L2 := [_, _, _, _, _]) rfl rfl ?_
              refine r_goto rfl ?_
              refine r_aload_n rfl rfl ?_
              refine r_getC rfl rfl (by decide) (by decide) rfl ?_
              refine r_aload rfl rfl ?_
              refine r_iload_n rfl rfl ?_
              refine r_iload_n rfl rfl ?_
              refine r_callV rfl (ct_X0_noted rfl) rfl rfl rfl (by decide) rfl (am_cnt rfl) ?_
              refine r_iret rfl rfl ?_
              rw [fNoted_nI (by omega) (by omega)]
              exact ⟨rfl, rfl⟩
          · exact absurd c2 h34
  | 1, _ =>
    refine r_aload_n rfl rfl ?_
    refine r_getC rfl rfl (by decide) (by decide) rfl ?_
    refine r_iload_n rfl rfl ?_
    refine r_callV rfl ct_X9_has rfl rfl rfl (by decide) rfl (am_cnt rfl) ?_
    refine r_if_eq rfl (fun h8 => ?_) (fun h8 => ?_)
    · exact absurd (hasP_nI hn hz hp) (b01_eq0.mp h8)
    · refine r_iload_n rfl rfl ?_
      refine r_iconst rfl ?_
      refine r_aload_n rfl rfl ?_
      refine r_getC rfl rfl (by decide) (by decide) rfl ?_
      refine r_getI rfl rfl (by decide) (by decide) rfl ?_
      refine r_iconst rfl ?_
      refine r_isub rfl ?_
      refine r_callS rfl (by decide) ct_X10_isWithin rfl rfl (am_cnt rfl) ?_
      refine r_if_eq rfl (fun h25 => ?_) (fun h25 => ?_)
      · exact absurd (c1) (b01_eq0.mp h25)
      · refine r_iload_n rfl rfl ?_
        refine r_if_lt rfl (fun h29 => ?_) (fun h29 => ?_)
        · exact absurd h29 c3
        · refine r_iload_n rfl rfl ?_
          refine r_iconst rfl ?_
          refine r_icmp_le rfl (fun h34 => ?_) (fun h34 => ?_)
          · refine r_aload_n rfl rfl ?_
            refine r_getC rfl rfl (by decide) (by decide) rfl ?_
            refine r_getO rfl rfl (by decide) (by decide) rfl ?_
            refine r_astore (L2 := [_, _, _, _, _]) rfl rfl ?_
            refine r_iload_n rfl rfl ?_
            refine r_if_ne rfl (fun h55 => ?_) (fun h55 => ?_)
            · refine r_iload_n rfl rfl ?_
              refine r_iconst rfl ?_
              refine r_icmp_ne rfl (fun h72 => ?_) (fun h72 => ?_)
              · refine r_iload_n rfl rfl ?_
                refine r_iconst rfl ?_
                refine r_icmp_ne rfl (fun h89 => ?_) (fun h89 => ?_)
                · refine r_aload_n rfl rfl ?_
                  refine r_getC rfl rfl (by decide) (by decide) rfl ?_
                  refine r_aload rfl rfl ?_
                  refine r_iload_n rfl rfl ?_
                  refine r_iload_n rfl rfl ?_
                  refine r_callV rfl (ct_X0_noted rfl) rfl rfl rfl (by decide) rfl (am_cnt rfl) ?_
                  refine r_iret rfl rfl ?_
                  rw [fNoted_nI (by omega) (by omega)]
                  exact ⟨rfl, rfl⟩
                · first | exact absurd h89 (by decide) | exact absurd (by decide) h89
              · first | exact absurd h72 (by decide) | exact absurd (by decide) h72
            · first | exact absurd h55 (by decide) | exact absurd (by decide) h55
          · exact absurd c2 h34
  | 2, _ =>
    refine r_aload_n rfl rfl ?_
    refine r_getC rfl rfl (by decide) (by decide) rfl ?_
    refine r_iload_n rfl rfl ?_
    refine r_callV rfl ct_X9_has rfl rfl rfl (by decide) rfl (am_cnt rfl) ?_
    refine r_if_eq rfl (fun h8 => ?_) (fun h8 => ?_)
    · exact absurd (hasP_nI hn hz hp) (b01_eq0.mp h8)
    · refine r_iload_n rfl rfl ?_
      refine r_iconst rfl ?_
      refine r_aload_n rfl rfl ?_
      refine r_getC rfl rfl (by decide) (by decide) rfl ?_
      refine r_getI rfl rfl (by decide) (by decide) rfl ?_
      refine r_iconst rfl ?_
      refine r_isub rfl ?_
      refine r_callS rfl (by decide) ct_X10_isWithin rfl rfl (am_cnt rfl) ?_
      refine r_if_eq rfl (fun h25 => ?_) (fun h25 => ?_)
      · exact absurd (c1) (b01_eq0.mp h25)
      · refine r_iload_n rfl rfl ?_
        refine r_if_lt rfl (fun h29 => ?_) (fun h29 => ?_)
        · exact absurd h29 c3
        · refine r_iload_n rfl rfl ?_
          refine r_iconst rfl ?_
          refine r_icmp_le rfl (fun h34 => ?_) (fun h34 => ?_)
          · refine r_aload_n rfl rfl ?_
            refine r_getC rfl rfl (by decide) (by decide) rfl ?_
            refine r_getO rfl rfl (by decide) (by decide) rfl ?_
            refine r_astore (L2 := [_, _, _, _, _]) rfl rfl ?_
            refine r_iload_n rfl rfl ?_
            refine r_if_ne rfl (fun h55 => ?_) (fun h55 => ?_)
            · refine r_iload_n rfl rfl ?_
              refine r_iconst rfl ?_
              refine r_icmp_ne rfl (fun h72 => ?_) (fun h72 => ?_)
              · first | exact absurd h72 (by decide) | exact absurd (by decide) h72
              · refine r_aload_n rfl rfl ?_
                refine r_getC rfl rfl (by decide) (by decide) rfl ?_
                refine r_getO rfl rfl (by decide) (by decide) rfl ?_
                refine r_astore (L2 := [_, _, _, _, _]) rfl rfl ?_
                refine r_goto rfl ?_
                refine r_aload_n rfl rfl ?_
                refine r_getC rfl rfl (by decide) (by decide) rfl ?_
                refine r_aload rfl rfl ?_
                refine r_iload_n rfl rfl ?_
                refine r_iload_n rfl rfl ?_
                refine r_callV rfl (ct_X0_noted rfl) rfl rfl rfl (by decide) rfl (am_cnt rfl) ?_
                refine r_iret rfl rfl ?_
                rw [fNoted_nI (by omega) (by omega)]
                exact ⟨rfl, rfl⟩
            · first | exact absurd h55 (by decide) | exact absurd (by decide) h55
          · exact absurd c2 h34
  | 3, _ =>
    refine r_aload_n rfl rfl ?_
    refine r_getC rfl rfl (by decide) (by decide) rfl ?_
    refine r_iload_n rfl rfl ?_
    refine r_callV rfl ct_X9_has rfl rfl rfl (by decide) rfl (am_cnt rfl) ?_
    refine r_if_eq rfl (fun h8 => ?_) (fun h8 => ?_)
    · exact absurd (hasP_nI hn hz hp) (b01_eq0.mp h8)
    · refine r_iload_n rfl rfl ?_
      refine r_iconst rfl ?_
      refine r_aload_n rfl rfl ?_
      refine r_getC rfl rfl (by decide) (by decide) rfl ?_
      refine r_getI rfl rfl (by decide) (by decide) rfl ?_
      refine r_iconst rfl ?_
      refine r_isub rfl ?_
      refine r_callS rfl (by decide) ct_X10_isWithin rfl rfl (am_cnt rfl) ?_
      refine r_if_eq rfl (fun h25 => ?_) (fun h25 => ?_)
      · exact absurd (c1) (b01_eq0.mp h25)
      · refine r_iload_n rfl rfl ?_
        refine r_if_lt rfl (fun h29 => ?_) (fun h29 => ?_)
        · exact absurd h29 c3
        · refine r_iload_n rfl rfl ?_
          refine r_iconst rfl ?_
          refine r_icmp_le rfl (fun h34 => ?_) (fun h34 => ?_)
          · refine r_aload_n rfl rfl ?_
            refine r_getC rfl rfl (by decide) (by decide) rfl ?_
            refine r_getO rfl rfl (by decide) (by decide) rfl ?_
            refine r_astore (L2 := [_, _, _, _, _]) rfl rfl ?_
            refine r_iload_n rfl rfl ?_
            refine r_if_ne rfl (fun h55 => ?_) (fun h55 => ?_)
            · refine r_iload_n rfl rfl ?_
              refine r_iconst rfl ?_
              refine r_icmp_ne rfl (fun h72 => ?_) (fun h72 => ?_)
              · refine r_iload_n rfl rfl ?_
                refine r_iconst rfl ?_
                refine r_icmp_ne rfl (fun h89 => ?_) (fun h89 => ?_)
                · first | exact absurd h89 (by decide) | exact absurd (by decide) h89
                · refine r_aload_n rfl rfl ?_
                  refine r_getC rfl rfl (by decide) (by decide) rfl ?_
                  refine r_getO rfl rfl (by decide) (by decide) rfl ?_
                  refine r_astore (L2 := [_, _, _, _, _]) rfl rfl ?_
                  refine r_aload_n rfl rfl ?_
                  refine r_getC rfl rfl (by decide) (by decide) rfl ?_
                  refine r_aload rfl rfl ?_
                  refine r_iload_n rfl rfl ?_
                  refine r_iload_n rfl rfl ?_
                  refine r_callV rfl (ct_X0_noted rfl) rfl rfl rfl (by decide) rfl (am_cnt rfl) ?_
                  refine r_iret rfl rfl ?_
                  rw [fNoted_nI (by omega) (by omega)]
                  exact ⟨rfl, rfl⟩
              · first | exact absurd h72 (by decide) | exact absurd (by decide) h72
            · first | exact absurd h55 (by decide) | exact absurd (by decide) h55
          · exact absurd c2 h34
/-- how far off at a place of the course that stands -/
def offI (S : am_S) (j : Nat) : Int32 := absI (gI S 55 j - gI S 1 4)
theorem ct_X10_cost {d : Nat} {S : am_S} {nw : Nat} (hnw : gI S 54 0 = nI nw) (hw : nw ≤ 199) : am_CT (d + 4) iX10_cost [.ref 0] S (some (.int (sumI (fun j => offI S (j + 1)) nw))) (t2 S (setI (fun m => gI S 55 m = gI S 1 4) nw).toInt64 (topI (offI S) 0 (nw + 1)).toInt64) := by
  refine am_CT_in mmX10_cost rfl rfl rfl ?_
  have e1 : nI 0 = 0 := rfl
  have n2 : ∀ a b : Int64, gI (t2 S a b) 54 0 = nI nw := fun a b => by rw [t2_ne (by decide), hnw]
  refine r_aload_n rfl rfl ?_
  refine r_getC rfl rfl (by decide) (by decide) rfl ?_
  refine r_aload_n rfl rfl ?_
  refine r_getC rfl rfl (by decide) (by decide) rfl ?_
  refine r_aload_n rfl rfl ?_
  refine r_getC rfl rfl (by decide) (by decide) rfl ?_
  refine r_getI rfl rfl (by decide) (by decide) rfl ?_
  refine r_callV rfl (ct_X0_settledFrom (isC54 _) hnw hw) rfl rfl rfl (by decide) rfl (am_cnt rfl) ?_
  refine r_i2l rfl ?_
  refine r_aload_n rfl rfl ?_
  refine r_getC rfl rfl (by decide) (by decide) rfl ?_
  refine r_iconst rfl ?_
  refine r_aload_n rfl rfl ?_
  refine r_getC rfl rfl (by decide) (by decide) rfl ?_
  refine r_getI rfl rfl (by decide) (by decide) rfl ?_
  refine r_aload_n rfl rfl ?_
  refine r_getC rfl rfl (by decide) (by decide) rfl ?_
  refine r_getI rfl rfl (by decide) (by decide) rfl ?_
  rw [hnw]
  refine r_callV rfl (ct_X0_widest (f := 0) (t := nw) (isC54 _) (by omega) hw) rfl rfl rfl (by decide) rfl (am_cnt rfl) ?_
  refine r_i2l rfl ?_
  refine r_callV rfl ct_X7_tellTwo rfl rfl rfl (by decide) rfl (am_cnt rfl) ?_
  refine r_aload_n rfl rfl ?_
  refine r_getC rfl rfl (by decide) (by decide) rfl ?_
  refine r_aload_n rfl rfl ?_
  refine r_getC rfl rfl (by decide) (by decide) rfl ?_
  refine r_getI rfl rfl (by decide) (by decide) rfl ?_
  refine r_callV rfl (ct_X0_costTo (isC54 _) (n2 _ _) hw) rfl rfl rfl (by decide) rfl (am_cnt rfl) ?_
  refine r_iret rfl rfl ?_
  simp only [t2_ne (show (55 : Nat) ≠ 74 by decide), t2_ne (show (1 : Nat) ≠ 74 by decide)]
  exact ⟨rfl, rfl⟩
theorem ct_X10_swings {d : Nat} {S : am_S} {nw : Nat} (hnw : gI S 54 0 = nI nw) (hw : nw ≤ 199) : am_CT (d + 4) iX10_swings [.ref 0] S (some (.int (turnI (fun m => gI S 55 m - gI S 1 4) (nw + 1)).1)) (t2 S (topI (offI S) 0 (nw / 2 + 1)).toInt64 (topI (offI S) (nw / 2 + 1) (nw + 1 - (nw / 2 + 1))).toInt64) := by
  refine am_CT_in mmX10_swings rfl rfl rfl ?_
  have n2 : ∀ a b : Int64, gI (t2 S a b) 54 0 = nI nw := fun a b => by rw [t2_ne (by decide), hnw]
  have e2 : gI S 54 0 / 2 = nI (nw / 2) := by rw [hnw]; exact pk_div (a := nw) (d := 2) (by omega) (by decide) (by decide)
  refine r_aload_n rfl rfl ?_
  refine r_getC rfl rfl (by decide) (by decide) rfl ?_
  refine r_getI rfl rfl (by decide) (by decide) rfl ?_
  refine r_iconst rfl ?_
  refine r_idiv rfl (by decide) ?_
  rw [e2]
  refine r_istore_n (L2 := [_, _]) rfl rfl ?_
  refine r_aload_n rfl rfl ?_
  refine r_getC rfl rfl (by decide) (by decide) rfl ?_
  refine r_aload_n rfl rfl ?_
  refine r_getC rfl rfl (by decide) (by decide) rfl ?_
  refine r_iconst rfl ?_
  refine r_iload_n rfl rfl ?_
  refine r_aload_n rfl rfl ?_
  refine r_getC rfl rfl (by decide) (by decide) rfl ?_
  refine r_getI rfl rfl (by decide) (by decide) rfl ?_
  refine r_callV rfl (ct_X0_widest (f := 0) (t := nw / 2) (isC54 _) (by omega) (by omega)) rfl rfl rfl (by decide) rfl (am_cnt rfl) ?_
  refine r_i2l rfl ?_
  refine r_aload_n rfl rfl ?_
  refine r_getC rfl rfl (by decide) (by decide) rfl ?_
  refine r_iload_n rfl rfl ?_
  refine r_iconst rfl ?_
  refine r_iadd rfl ?_
  rw [nI_1]
  refine r_aload_n rfl rfl ?_
  refine r_getC rfl rfl (by decide) (by decide) rfl ?_
  refine r_getI rfl rfl (by decide) (by decide) rfl ?_
  rw [hnw]
  refine r_aload_n rfl rfl ?_
  refine r_getC rfl rfl (by decide) (by decide) rfl ?_
  refine r_getI rfl rfl (by decide) (by decide) rfl ?_
  refine r_callV rfl (ct_X0_widest (f := nw / 2 + 1) (t := nw) (isC54 _) (by omega) hw) rfl rfl rfl (by decide) rfl (am_cnt rfl) ?_
  refine r_i2l rfl ?_
  refine r_callV rfl ct_X7_tellTwo rfl rfl rfl (by decide) rfl (am_cnt rfl) ?_
  refine r_aload_n rfl rfl ?_
  refine r_getC rfl rfl (by decide) (by decide) rfl ?_
  refine r_aload_n rfl rfl ?_
  refine r_getC rfl rfl (by decide) (by decide) rfl ?_
  refine r_getI rfl rfl (by decide) (by decide) rfl ?_
  refine r_callV rfl (ct_X0_turnsRound (isC54 _) (n2 _ _) hw) rfl rfl rfl (by decide) rfl (am_cnt rfl) ?_
  refine r_iret rfl rfl ?_
  simp only [t2_ne (show (55 : Nat) ≠ 74 by decide), t2_ne (show (1 : Nat) ≠ 74 by decide)]
  refine ⟨?_, ?_⟩ <;> first | rfl | trivial
/-- all, most, run -/
def echoI (f h : Nat → Int32) : Nat → Int32 × Int32 × Int32
  | 0 => (0, 0, 0)
  | n + 1 => ((echoI f h n).1 + (if ¬ f n = 0 ∧ f n = h n then 1 else 0), maxI (echoI f h n).2.1 (if ¬ f n = 0 ∧ f n = h n then (echoI f h n).2.2 + 1 else 0), if ¬ f n = 0 ∧ f n = h n then (echoI f h n).2.2 + 1 else 0)
theorem ct_X10_echo_no {d : Nat} {S : am_S} {p : Int32} (h : ¬ hasP S p) : am_CT (d + 3) iX10_echo [.ref 0, .int p] S (some (.int (-1))) (S) := by
  refine am_CT_in mmX10_echo rfl rfl rfl ?_
  refine r_aload_n rfl rfl ?_
  refine r_getC rfl rfl (by decide) (by decide) rfl ?_
  refine r_iload_n rfl rfl ?_
  refine r_callV rfl ct_X9_has rfl rfl rfl (by decide) rfl (am_cnt rfl) ?_
  refine r_if_ne rfl (fun h8 => ?_) (fun h8 => ?_)
  · exact (h8 (b01_f (h))).elim
  · refine r_iconst rfl ?_
    refine r_iret rfl rfl ?_
    exact ⟨rfl, rfl⟩
theorem ct_X10_echo_ok {d : Nat} {S : am_S} {n nw p : Nat} (hn : gI S 1 1 = nI n) (hz : n ≤ 6) (hnw : gI S 54 0 = nI nw) (hw : nw ≤ 199) (hp : p < n) : am_CT (d + 3) iX10_echo [.ref 0, .int (nI p)] S (some (.int (echoI (fun m => gI S 57 (p * 200 + m)) (fun m => gI S 58 (p * 200 + m)) nw).1)) (t1 S (echoI (fun m => gI S 57 (p * 200 + m)) (fun m => gI S 58 (p * 200 + m)) nw).2.1.toInt64) := by
  refine am_CT_in mmX10_echo rfl rfl rfl ?_
  have loop : ∀ (k : Nat) (j : Nat) (a : Int32) (b : Int32) (c : Int32) (v6 : Option Value) (v7 : Option Value), (j ≤ nw) → (nw < j + k) → ((a, b, c) = echoI (fun m => gI S 57 (p * 200 + m)) (fun m => gI S 58 (p * 200 + m)) j) → am_Ex (am_Call am_MT (d + 2)) mmX10_echo none (fun r1 G1 => r1 = (some (.int (echoI (fun m => gI S 57 (p * 200 + m)) (fun m => gI S 58 (p * 200 + m)) nw).1)) ∧ G1 = am_H (t1 S (echoI (fun m => gI S 57 (p * 200 + m)) (fun m => gI S 58 (p * 200 + m)) nw).2.1.toInt64)) (fun _ _ _ _ _ _ => False) 23 [some (.ref 0), some (.int (nI p)), some (.int a), some (.int b), some (.int c), some (.int (nI j)), v6, v7] [] (am_H (S)) 0 0 := by
    intro k
    induction k with
    | zero =>
      intro j a b c v6 v7 h1 h2 h3
      omega
    | succ k ih =>
      intro j a b c v6 v7 h1 h2 h3
      refine r_iload rfl rfl ?_
      refine r_aload_n rfl rfl ?_
      refine r_getC rfl rfl (by decide) (by decide) rfl ?_
      refine r_getI rfl rfl (by decide) (by decide) rfl ?_
      refine r_icmp_ge rfl (fun h32 => ?_) (fun h32 => ?_)
      · rw [hnw, nI_leI (by omega) (by omega)] at h32
        obtain rfl : j = nw := by omega
        refine r_aload_n rfl rfl ?_
        refine r_getC rfl rfl (by decide) (by decide) rfl ?_
        refine r_iload_n rfl rfl ?_
        refine r_i2l rfl ?_
        refine r_callV rfl ct_X7_tellOne rfl rfl rfl (by decide) rfl (am_cnt rfl) ?_
        refine r_iload_n rfl rfl ?_
        refine r_iret rfl rfl ?_
        rw [← h3]
        exact ⟨rfl, rfl⟩
      · rw [hnw, nI_leI (by omega) (by omega)] at h32
        refine r_aload_n rfl rfl ?_
        refine r_getC rfl rfl (by decide) (by decide) rfl ?_
        refine r_aload_n rfl rfl ?_
        refine r_getC rfl rfl (by decide) (by decide) rfl ?_
        refine r_getO rfl rfl (by decide) (by decide) rfl ?_
        refine r_iload_n rfl rfl ?_
        refine r_iload rfl rfl ?_
        refine r_callV rfl (ct_X0_noted rfl) rfl rfl rfl (by decide) rfl (am_cnt rfl) ?_
        rw [fNoted_nI (by omega) (by omega)]
        refine r_istore (L2 := [_, _, _, _, _, _, _, _]) rfl rfl ?_
        refine r_iload rfl rfl ?_
        refine r_if_eq rfl (fun h56 => ?_) (fun h56 => ?_)
        · have hc : ¬ (¬ gI S 57 (p * 200 + j) = 0 ∧ gI S 57 (p * 200 + j) = gI S 58 (p * 200 + j)) := fun z => z.1 h56
          refine r_iconst rfl ?_
          refine r_istore (L2 := [_, _, _, _, _, _, _, _]) rfl rfl ?_
          refine r_iload rfl rfl ?_
          refine r_if_eq rfl (fun h90 => ?_) (fun h90 => ?_)
          · refine r_iconst rfl ?_
            refine r_istore (L2 := [_, _, _, _, _, _, _, _]) rfl rfl ?_
            refine r_iload_n rfl rfl ?_
            refine r_iload rfl rfl ?_
            refine r_if_eq rfl (fun h106 => ?_) (fun h106 => ?_)
            · refine r_iconst rfl ?_
              refine r_iadd rfl ?_
              refine r_istore_n (L2 := [_, _, _, _, _, _, _, _]) rfl rfl ?_
              refine r_iload_n rfl rfl ?_
              refine r_iload rfl rfl ?_
              refine r_max rfl (am_cnt rfl) ?_
              refine r_istore_n (L2 := [_, _, _, _, _, _, _, _]) rfl rfl ?_
              refine r_iinc (L2 := [_, _, _, _, _, _, _, _]) rfl rfl rfl ?_
              refine r_goto rfl ?_
              rw [nI_1]
              exact ih (j + 1) _ _ _ _ _ (by omega) (by omega) (by rw [echoI, ← h3]; first | (simp only [if_pos hc]; rfl) | (simp only [if_neg hc]; rfl))
            · first | exact absurd h106 (by decide) | exact absurd (by decide) h106
          · first | exact absurd h90 (by decide) | exact absurd (by decide) h90
        · refine r_iload rfl rfl ?_
          refine r_aload_n rfl rfl ?_
          refine r_getC rfl rfl (by decide) (by decide) rfl ?_
          refine r_aload_n rfl rfl ?_
          refine r_getC rfl rfl (by decide) (by decide) rfl ?_
          refine r_getO rfl rfl (by decide) (by decide) rfl ?_
          refine r_iload_n rfl rfl ?_
          refine r_iload rfl rfl ?_
          refine r_callV rfl (ct_X0_noted rfl) rfl rfl rfl (by decide) rfl (am_cnt rfl) ?_
          rw [fNoted_nI (by omega) (by omega)]
          refine r_icmp_ne rfl (fun h78 => ?_) (fun h78 => ?_)
          · have hc : ¬ (¬ gI S 57 (p * 200 + j) = 0 ∧ gI S 57 (p * 200 + j) = gI S 58 (p * 200 + j)) := fun z => h78 z.2
            refine r_iconst rfl ?_
            refine r_istore (L2 := [_, _, _, _, _, _, _, _]) rfl rfl ?_
            refine r_iload rfl rfl ?_
            refine r_if_eq rfl (fun h90 => ?_) (fun h90 => ?_)
            · refine r_iconst rfl ?_
              refine r_istore (L2 := [_, _, _, _, _, _, _, _]) rfl rfl ?_
              refine r_iload_n rfl rfl ?_
              refine r_iload rfl rfl ?_
              refine r_if_eq rfl (fun h106 => ?_) (fun h106 => ?_)
              · refine r_iconst rfl ?_
                refine r_iadd rfl ?_
                refine r_istore_n (L2 := [_, _, _, _, _, _, _, _]) rfl rfl ?_
                refine r_iload_n rfl rfl ?_
                refine r_iload rfl rfl ?_
                refine r_max rfl (am_cnt rfl) ?_
                refine r_istore_n (L2 := [_, _, _, _, _, _, _, _]) rfl rfl ?_
                refine r_iinc (L2 := [_, _, _, _, _, _, _, _]) rfl rfl rfl ?_
                refine r_goto rfl ?_
                rw [nI_1]
                exact ih (j + 1) _ _ _ _ _ (by omega) (by omega) (by rw [echoI, ← h3]; first | (simp only [if_pos hc]; rfl) | (simp only [if_neg hc]; rfl))
              · first | exact absurd h106 (by decide) | exact absurd (by decide) h106
            · first | exact absurd h90 (by decide) | exact absurd (by decide) h90
          · have hc : ¬ gI S 57 (p * 200 + j) = 0 ∧ gI S 57 (p * 200 + j) = gI S 58 (p * 200 + j) := ⟨h56, h78⟩
            refine r_iconst rfl ?_
            refine r_goto rfl ?_
            refine r_istore (L2 := [_, _, _, _, _, _, _, _]) rfl rfl ?_
            refine r_iload rfl rfl ?_
            refine r_if_eq rfl (fun h90 => ?_) (fun h90 => ?_)
            · first | exact absurd h90 (by decide) | exact absurd (by decide) h90
            · refine r_iload rfl rfl ?_
              refine r_iconst rfl ?_
              refine r_iadd rfl ?_
              refine r_goto rfl ?_
              refine r_istore (L2 := [_, _, _, _, _, _, _, _]) rfl rfl ?_
              refine r_iload_n rfl rfl ?_
              refine r_iload rfl rfl ?_
              refine r_if_eq rfl (fun h106 => ?_) (fun h106 => ?_)
              · first | exact absurd h106 (by decide) | exact absurd (by decide) h106
              · refine r_iconst rfl ?_
                refine r_goto rfl ?_
                refine r_iadd rfl ?_
                refine r_istore_n (L2 := [_, _, _, _, _, _, _, _]) rfl rfl ?_
                refine r_iload_n rfl rfl ?_
                refine r_iload rfl rfl ?_
                refine r_max rfl (am_cnt rfl) ?_
                refine r_istore_n (L2 := [_, _, _, _, _, _, _, _]) rfl rfl ?_
                refine r_iinc (L2 := [_, _, _, _, _, _, _, _]) rfl rfl rfl ?_
                refine r_goto rfl ?_
                rw [nI_1]
                exact ih (j + 1) _ _ _ _ _ (by omega) (by omega) (by rw [echoI, ← h3]; first | (simp only [if_pos hc]; rfl) | (simp only [if_neg hc]; rfl))
  refine r_aload_n rfl rfl ?_
  refine r_getC rfl rfl (by decide) (by decide) rfl ?_
  refine r_iload_n rfl rfl ?_
  refine r_callV rfl ct_X9_has rfl rfl rfl (by decide) rfl (am_cnt rfl) ?_
  refine r_if_ne rfl (fun h8 => ?_) (fun h8 => ?_)
  · refine r_iconst rfl ?_
    refine r_istore_n (L2 := [_, _, _, _, _, _, _, _]) rfl rfl ?_
    refine r_iconst rfl ?_
    refine r_istore_n (L2 := [_, _, _, _, _, _, _, _]) rfl rfl ?_
    refine r_iconst rfl ?_
    refine r_istore (L2 := [_, _, _, _, _, _, _, _]) rfl rfl ?_
    refine r_iconst rfl ?_
    refine r_istore (L2 := [_, _, _, _, _, _, _, _]) rfl rfl ?_
    exact loop (nw + 1) 0 _ _ _ none none (by omega) (by omega) rfl
  · exact absurd (hasP_nI hn hz hp) (b01_eq0.mp h8)
theorem ct_X10_doneByAll {d : Nat} {S : am_S} {n m : Nat} (hn : gI S 1 1 = nI n) (hz : n ≤ 6) (hm : m < 200) : am_CT (d + 2) iX10_doneByAll [.ref 0, .int (nI m)] S (some (.int (sumI (fun i => gI S 56 (i * 200 + m)) n))) (S) := by
  refine am_CT_in mmX10_doneByAll rfl rfl rfl ?_
  have loop : ∀ (k : Nat) (j : Nat), (j ≤ n) → (n < j + k) → am_Ex (am_Call am_MT (d + 1)) mmX10_doneByAll none (fun r1 G1 => r1 = (some (.int (sumI (fun i => gI S 56 (i * 200 + m)) n))) ∧ G1 = am_H (S)) (fun _ _ _ _ _ _ => False) 4 [some (.ref 0), some (.int (nI m)), some (.int (sumI (fun i => gI S 56 (i * 200 + m)) j)), some (.int (nI j))] [] (am_H (S)) 0 0 := by
    intro k
    induction k with
    | zero =>
      intro j h1 h2
      omega
    | succ k ih =>
      intro j h1 h2
      refine r_iload_n rfl rfl ?_
      refine r_aload_n rfl rfl ?_
      refine r_getC rfl rfl (by decide) (by decide) rfl ?_
      refine r_getI rfl rfl (by decide) (by decide) rfl ?_
      refine r_icmp_ge rfl (fun h12 => ?_) (fun h12 => ?_)
      · rw [hn, nI_leI (by omega) (by omega)] at h12
        obtain rfl : j = n := by omega
        refine r_iload_n rfl rfl ?_
        refine r_iret rfl rfl ?_
        exact ⟨rfl, rfl⟩
      · rw [hn, nI_leI (by omega) (by omega)] at h12
        refine r_iload_n rfl rfl ?_
        refine r_aload_n rfl rfl ?_
        refine r_getC rfl rfl (by decide) (by decide) rfl ?_
        refine r_aload_n rfl rfl ?_
        refine r_getC rfl rfl (by decide) (by decide) rfl ?_
        refine r_getO rfl rfl (by decide) (by decide) rfl ?_
        refine r_iload_n rfl rfl ?_
        refine r_iload_n rfl rfl ?_
        refine r_callV rfl (ct_X0_noted rfl) rfl rfl rfl (by decide) rfl (am_cnt rfl) ?_
        rw [fNoted_nI (by omega) (by omega)]
        refine r_iadd rfl ?_
        refine r_istore_n (L2 := [_, _, _, _]) rfl rfl ?_
        refine r_iinc (L2 := [_, _, _, _]) rfl rfl rfl ?_
        refine r_goto rfl ?_
        rw [nI_1]
        exact ih (j + 1) (by omega) (by omega)
  refine r_iconst rfl ?_
  refine r_istore_n (L2 := [_, _, _, _]) rfl rfl ?_
  refine r_iconst rfl ?_
  refine r_istore_n (L2 := [_, _, _, _]) rfl rfl ?_
  exact loop (n + 1) 0 (by omega) (by omega)
/-- all, most, run, against -/
def waitI (f g : Nat → Int32) : Nat → Int32 × Int32 × Int32 × Int32
  | 0 => (0, 0, 0, 0)
  | n + 1 => ((waitI f g n).1 + (if f n = 0 then 1 else 0), maxI (waitI f g n).2.1 (if f n = 0 then (waitI f g n).2.2.1 + 1 else 0), (if f n = 0 then (waitI f g n).2.2.1 + 1 else 0), (waitI f g n).2.2.2 + (if sgn (f n) * sgn (g n) < 0 then 1 else 0))
theorem ct_X10_waits_no {d : Nat} {S : am_S} {p : Int32} (h : ¬ hasP S p) : am_CT (d + 4) iX10_waits [.ref 0, .int p] S (some (.int (-1))) (S) := by
  refine am_CT_in mmX10_waits rfl rfl rfl ?_
  refine r_aload_n rfl rfl ?_
  refine r_getC rfl rfl (by decide) (by decide) rfl ?_
  refine r_iload_n rfl rfl ?_
  refine r_callV rfl ct_X9_has rfl rfl rfl (by decide) rfl (am_cnt rfl) ?_
  refine r_if_ne rfl (fun h8 => ?_) (fun h8 => ?_)
  · exact (h8 (b01_f (h))).elim
  · refine r_iconst rfl ?_
    refine r_iret rfl rfl ?_
    exact ⟨rfl, rfl⟩
def waitC (S : am_S) (n p nw : Nat) : Int32 × Int32 × Int32 × Int32 := waitI (fun m => gI S 56 (p * 200 + m)) (fun m => sumI (fun i => gI S 56 (i * 200 + m)) n) nw
theorem waitC_s {S : am_S} {n p j : Nat} : waitC S n p (j + 1) = ((waitC S n p j).1 + (if gI S 56 (p * 200 + j) = 0 then 1 else 0), maxI (waitC S n p j).2.1 (if gI S 56 (p * 200 + j) = 0 then (waitC S n p j).2.2.1 + 1 else 0), (if gI S 56 (p * 200 + j) = 0 then (waitC S n p j).2.2.1 + 1 else 0), (waitC S n p j).2.2.2 + (if sgn (gI S 56 (p * 200 + j)) * sgn (sumI (fun i => gI S 56 (i * 200 + j)) n) < 0 then 1 else 0)) := rfl
theorem ct_X10_waits_ok {d : Nat} {S : am_S} {n nw p : Nat} (hn : gI S 1 1 = nI n) (hz : n ≤ 6) (hnw : gI S 54 0 = nI nw) (hw : nw ≤ 199) (hp : p < n) : am_CT (d + 4) iX10_waits [.ref 0, .int (nI p)] S (some (.int (waitC S n p nw).1)) (t2 S (waitC S n p nw).2.1.toInt64 (waitC S n p nw).2.2.2.toInt64) := by
  refine am_CT_in mmX10_waits rfl rfl rfl ?_
  have loop : ∀ (k : Nat) (j : Nat) (a : Int32) (b : Int32) (c : Int32) (e : Int32) (v7 : Option Value), (j ≤ nw) → (nw < j + k) → ((a, b, c, e) = waitC S n p j) → am_Ex (am_Call am_MT (d + 3)) mmX10_waits none (fun r1 G1 => r1 = (some (.int (waitC S n p nw).1)) ∧ G1 = am_H (t2 S (waitC S n p nw).2.1.toInt64 (waitC S n p nw).2.2.2.toInt64)) (fun _ _ _ _ _ _ => False) 26 [some (.ref 0), some (.int (nI p)), some (.int a), some (.int b), some (.int c), some (.int e), some (.int (nI j)), v7] [] (am_H (S)) 0 0 := by
    intro k
    induction k with
    | zero =>
      intro j a b c e v7 h1 h2 h3
      omega
    | succ k ih =>
      intro j a b c e v7 h1 h2 h3
      refine r_iload rfl rfl ?_
      refine r_aload_n rfl rfl ?_
      refine r_getC rfl rfl (by decide) (by decide) rfl ?_
      refine r_getI rfl rfl (by decide) (by decide) rfl ?_
      refine r_icmp_ge rfl (fun h35 => ?_) (fun h35 => ?_)
      · rw [hnw, nI_leI (by omega) (by omega)] at h35
        obtain rfl : j = nw := by omega
        refine r_aload_n rfl rfl ?_
        refine r_getC rfl rfl (by decide) (by decide) rfl ?_
        refine r_iload_n rfl rfl ?_
        refine r_i2l rfl ?_
        refine r_iload rfl rfl ?_
        refine r_i2l rfl ?_
        refine r_callV rfl ct_X7_tellTwo rfl rfl rfl (by decide) rfl (am_cnt rfl) ?_
        refine r_iload_n rfl rfl ?_
        refine r_iret rfl rfl ?_
        rw [← h3]
        exact ⟨rfl, rfl⟩
      · rw [hnw, nI_leI (by omega) (by omega)] at h35
        refine r_aload_n rfl rfl ?_
        refine r_getC rfl rfl (by decide) (by decide) rfl ?_
        refine r_aload_n rfl rfl ?_
        refine r_getC rfl rfl (by decide) (by decide) rfl ?_
        refine r_getO rfl rfl (by decide) (by decide) rfl ?_
        refine r_iload_n rfl rfl ?_
        refine r_iload rfl rfl ?_
        refine r_callV rfl (ct_X0_noted rfl) rfl rfl rfl (by decide) rfl (am_cnt rfl) ?_
        rw [fNoted_nI (by omega) (by omega)]
        refine r_istore (L2 := [_, _, _, _, _, _, _, _]) rfl rfl ?_
        refine r_iload rfl rfl ?_
        refine r_if_ne rfl (fun h59 => ?_) (fun h59 => ?_)
        · refine r_iconst rfl ?_
          refine r_istore (L2 := [_, _, _, _, _, _, _, _]) rfl rfl ?_
          refine r_iload_n rfl rfl ?_
          refine r_iload rfl rfl ?_
          refine r_if_ne rfl (fun h75 => ?_) (fun h75 => ?_)
          · refine r_iconst rfl ?_
            refine r_iadd rfl ?_
            refine r_istore_n (L2 := [_, _, _, _, _, _, _, _]) rfl rfl ?_
            refine r_iload_n rfl rfl ?_
            refine r_iload rfl rfl ?_
            refine r_max rfl (am_cnt rfl) ?_
            refine r_istore_n (L2 := [_, _, _, _, _, _, _, _]) rfl rfl ?_
            refine r_iload rfl rfl ?_
            refine r_iload rfl rfl ?_
            refine r_callS rfl (by decide) ct_J6_signum_0f7a4 rfl rfl (am_cnt rfl) ?_
            refine r_aload_n rfl rfl ?_
            refine r_iload rfl rfl ?_
            refine r_callV rfl (ct_X10_doneByAll hn hz (by omega)) rfl rfl rfl (by decide) rfl (am_cnt rfl) ?_
            refine r_callS rfl (by decide) ct_J6_signum_0f7a4 rfl rfl (am_cnt rfl) ?_
            refine r_imul rfl ?_
            refine r_if_ge rfl (fun h109 => ?_) (fun h109 => ?_)
            · have g9 := Int32.not_lt.mpr h109
              refine r_iconst rfl ?_
              refine r_iadd rfl ?_
              refine r_istore (L2 := [_, _, _, _, _, _, _, _]) rfl rfl ?_
              refine r_iinc (L2 := [_, _, _, _, _, _, _, _]) rfl rfl rfl ?_
              refine r_goto rfl ?_
              rw [nI_1]
              exact ih (j + 1) _ _ _ _ _ (by omega) (by omega) (by rw [waitC_s, ← h3]; first | (simp only [if_pos h59, if_pos g9]; rfl) | (simp only [if_pos h59, if_neg g9]; rfl) | (simp only [if_neg h59, if_pos g9]; rfl) | (simp only [if_neg h59, if_neg g9]; rfl))
            · have g9 := Int32.not_le.mp h109
              refine r_iconst rfl ?_
              refine r_goto rfl ?_
              refine r_iadd rfl ?_
              refine r_istore (L2 := [_, _, _, _, _, _, _, _]) rfl rfl ?_
              refine r_iinc (L2 := [_, _, _, _, _, _, _, _]) rfl rfl rfl ?_
              refine r_goto rfl ?_
              rw [nI_1]
              exact ih (j + 1) _ _ _ _ _ (by omega) (by omega) (by rw [waitC_s, ← h3]; first | (simp only [if_pos h59, if_pos g9]; rfl) | (simp only [if_pos h59, if_neg g9]; rfl) | (simp only [if_neg h59, if_pos g9]; rfl) | (simp only [if_neg h59, if_neg g9]; rfl))
          · exact absurd h75 h59
        · refine r_iload rfl rfl ?_
          refine r_iconst rfl ?_
          refine r_iadd rfl ?_
          refine r_goto rfl ?_
          refine r_istore (L2 := [_, _, _, _, _, _, _, _]) rfl rfl ?_
          refine r_iload_n rfl rfl ?_
          refine r_iload rfl rfl ?_
          refine r_if_ne rfl (fun h75 => ?_) (fun h75 => ?_)
          · exact absurd h59 h75
          · refine r_iconst rfl ?_
            refine r_goto rfl ?_
            refine r_iadd rfl ?_
            refine r_istore_n (L2 := [_, _, _, _, _, _, _, _]) rfl rfl ?_
            refine r_iload_n rfl rfl ?_
            refine r_iload rfl rfl ?_
            refine r_max rfl (am_cnt rfl) ?_
            refine r_istore_n (L2 := [_, _, _, _, _, _, _, _]) rfl rfl ?_
            refine r_iload rfl rfl ?_
            refine r_iload rfl rfl ?_
            refine r_callS rfl (by decide) ct_J6_signum_0f7a4 rfl rfl (am_cnt rfl) ?_
            refine r_aload_n rfl rfl ?_
            refine r_iload rfl rfl ?_
            refine r_callV rfl (ct_X10_doneByAll hn hz (by omega)) rfl rfl rfl (by decide) rfl (am_cnt rfl) ?_
            refine r_callS rfl (by decide) ct_J6_signum_0f7a4 rfl rfl (am_cnt rfl) ?_
            refine r_imul rfl ?_
            refine r_if_ge rfl (fun h109 => ?_) (fun h109 => ?_)
            · have g9 := Int32.not_lt.mpr h109
              refine r_iconst rfl ?_
              refine r_iadd rfl ?_
              refine r_istore (L2 := [_, _, _, _, _, _, _, _]) rfl rfl ?_
              refine r_iinc (L2 := [_, _, _, _, _, _, _, _]) rfl rfl rfl ?_
              refine r_goto rfl ?_
              rw [nI_1]
              exact ih (j + 1) _ _ _ _ _ (by omega) (by omega) (by rw [waitC_s, ← h3]; first | (simp only [if_pos h59, if_pos g9]; rfl) | (simp only [if_pos h59, if_neg g9]; rfl) | (simp only [if_neg h59, if_pos g9]; rfl) | (simp only [if_neg h59, if_neg g9]; rfl))
            · have g9 := Int32.not_le.mp h109
              refine r_iconst rfl ?_
              refine r_goto rfl ?_
              refine r_iadd rfl ?_
              refine r_istore (L2 := [_, _, _, _, _, _, _, _]) rfl rfl ?_
              refine r_iinc (L2 := [_, _, _, _, _, _, _, _]) rfl rfl rfl ?_
              refine r_goto rfl ?_
              rw [nI_1]
              exact ih (j + 1) _ _ _ _ _ (by omega) (by omega) (by rw [waitC_s, ← h3]; first | (simp only [if_pos h59, if_pos g9]; rfl) | (simp only [if_pos h59, if_neg g9]; rfl) | (simp only [if_neg h59, if_pos g9]; rfl) | (simp only [if_neg h59, if_neg g9]; rfl))
  refine r_aload_n rfl rfl ?_
  refine r_getC rfl rfl (by decide) (by decide) rfl ?_
  refine r_iload_n rfl rfl ?_
  refine r_callV rfl ct_X9_has rfl rfl rfl (by decide) rfl (am_cnt rfl) ?_
  refine r_if_ne rfl (fun h8 => ?_) (fun h8 => ?_)
  · refine r_iconst rfl ?_
    refine r_istore_n (L2 := [_, _, _, _, _, _, _, _]) rfl rfl ?_
    refine r_iconst rfl ?_
    refine r_istore_n (L2 := [_, _, _, _, _, _, _, _]) rfl rfl ?_
    refine r_iconst rfl ?_
    refine r_istore (L2 := [_, _, _, _, _, _, _, _]) rfl rfl ?_
    refine r_iconst rfl ?_
    refine r_istore (L2 := [_, _, _, _, _, _, _, _]) rfl rfl ?_
    refine r_iconst rfl ?_
    refine r_istore (L2 := [_, _, _, _, _, _, _, _]) rfl rfl ?_
    exact loop (nw + 1) 0 _ _ _ _ none (by omega) (by omega) rfl
  · exact absurd (hasP_nI hn hz hp) (b01_eq0.mp h8)
