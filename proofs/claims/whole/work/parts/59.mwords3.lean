/-! Soon and know of the reference. -/
theorem ct_X11_soon_no {d : Nat} {S T : am_S} {p q : Int32} (hT : uI S 97 0 0 = T) (hz : 0 ≤ gI T 97 3) (h : ¬ twoM T p q) : am_CT (d + 4) iX11_soon [.ref 97, .int p, .int q] S (some (.int (-1))) (T) := by
  refine am_CT_in mmX11_soon rfl rfl rfl ?_
  refine r_aload_n rfl rfl ?_
  refine r_iconst rfl ?_
  refine r_putI rfl rfl (by decide) (by decide) rfl ?_
  try rw [hT]
  refine r_aload_n rfl rfl ?_
  refine r_iload_n rfl rfl ?_
  refine r_iload_n rfl rfl ?_
  refine r_callV rfl (ct_X11_arePair hz) rfl rfl rfl (by decide) rfl (am_cnt rfl) ?_
  refine r_if_ne rfl (fun h11 => ?_) (fun h11 => ?_)
  · exact (h11 (b01_f (h))).elim
  · refine r_iconst rfl ?_
    refine r_iret rfl rfl ?_
    exact ⟨rfl, rfl⟩
/-- minutes from one to another -/
def mnV (S : am_S) (lt th : Nat → Nat) (n a b : Nat) : Nat := mnM (farR S lt th b n n) a
theorem mnV_le {S : am_S} {lt th : Nat → Nat} {n a b : Nat} : mnV S lt th n a b ≤ 1000000 := mnM_le (farR_le n) a
theorem mnV_ct {d : Nat} {S W : am_S} {lt st th : Nat → Nat} {n a b : Nat} (hp : PM S lt st th) (hn : gI S 97 3 = nI n) (hz : n ≤ 6) (hW : FrW S W) (ha : a < n) (hb : b < n) : am_CE (d + 3) iX11_minutesTo [.ref 97, .int (nI a), .int (nI b)] W (some (.int (nI (mnV S lt th n a b)))) (fun U => FrW W U ∧ FarOk (farR S lt th b n n) U) := min_d hp hn hz hW ha hb
abbrev seM (S : am_S) (p q : Nat) : Prop := fBit (gI S 103 p) (nI q)
def sbM (S : am_S) (lt th : Nat → Nat) (n p q : Nat) : Nat := if seM S p q then 0 else mnV S lt th n q p
def snM (S : am_S) (lt th : Nat → Nat) (n p q : Nat) : Int32 := if mnV S lt th n p q = 1000000 ∨ sbM S lt th n p q = 1000000 then -2 else nI (mnV S lt th n p q + th q + sbM S lt th n p q)
theorem ct_X11_soon_ok {d : Nat} {S T : am_S} {lt st th : Nat → Nat} {n p q : Nat} (hT : uI S 97 0 0 = T) (hp : PM T lt st th) (hn : gI T 97 3 = nI n) (hz : n ≤ 6) (h1 : p < n) (h2 : q < n) (hne : p ≠ q) : am_CE (d + 4) iX11_soon [.ref 97, .int (nI p), .int (nI q)] S (some (.int (snM T lt th n p q))) (fun U => ∃ U1, FrW T U1 ∧ U = if snM T lt th n p q = -2 then U1 else e1 U1 (b01 (seM T p q)).toInt64) := by
  refine am_CE_in mmX11_soon rfl rfl rfl ?_
  have two := two_nM hn hz h1 h2 hne
  have bp : (nI p).toNatClampNeg = p := nI_clamp (by omega)
  have bq : (nI q).toNatClampNeg = q := nI_clamp (by omega)
  have s1 : 0 ≤ nI p := nI_pos' (by omega)
  have s2 : nI p < Int32.ofNat 6 := nI_lt (by omega) (by omega)
  have s3 : 0 ≤ nI q := nI_pos' (by omega)
  have s4 : nI q < Int32.ofNat 6 := nI_lt (by omega) (by omega)
  have la := mnV_le (S := T) (lt := lt) (th := th) (n := n) (a := p) (b := q)
  have lb := mnV_le (S := T) (lt := lt) (th := th) (n := n) (a := q) (b := p)
  have gq := hp q (by omega)
  have g1 : ∀ U, FrW T U → gI U 103 p = gI T 103 p := fun U h => by rw [h.1 103 (by decide)]
  have sb : ∀ x : Nat, sbM T lt th n p q = x → x ≤ 1000000 → ¬ mnV T lt th n p q = 1000000 → ¬ x = 1000000 → snM T lt th n p q = nI (mnV T lt th n p q) + nI (th q) + nI x ∧ ¬ snM T lt th n p q = -2 := fun x hx hx2 ha hb => by
    have e : snM T lt th n p q = nI (mnV T lt th n p q + th q + x) := by rw [snM, hx, if_neg (fun z => z.elim ha hb)]
    refine ⟨by rw [e, nI_add, nI_add], fun z => ?_⟩
    rw [e] at z
    exact nI_neg (n := mnV T lt th n p q + th q + x) (by omega) (by rw [z]; decide)
  by_cases hs : seM T p q
  · have e0 : sbM T lt th n p q = 0 := if_pos hs
    by_cases ha : mnV T lt th n p q = 1000000
    · have e2 : snM T lt th n p q = -2 := if_pos (Or.inl ha)
      rw [e2]
      refine r_aload_n rfl rfl ?_
      refine r_iconst rfl ?_
      refine r_putI rfl rfl (by decide) (by decide) rfl ?_
      try rw [hT]
      refine r_aload_n rfl rfl ?_
      refine r_iload_n rfl rfl ?_
      refine r_iload_n rfl rfl ?_
      refine r_callV rfl (ct_X11_arePair (zM hn hz)) rfl rfl rfl (by decide) rfl (am_cnt rfl) ?_
      refine r_if_ne rfl (fun h11 => ?_) (fun h11 => ?_)
      · refine r_aload_n rfl rfl ?_
        refine r_iload_n rfl rfl ?_
        refine r_iload_n rfl rfl ?_
        refine r_callVE rfl (mnV_ct hp hn hz frW_0 h1 h2) rfl rfl rfl (by decide) rfl (am_cnt rfl) (fun U hU => ?_)
        refine r_istore_n (L2 := [_, _, _, _, _, _]) rfl rfl ?_
        refine r_aload_n rfl rfl ?_
        refine r_getC rfl rfl (by decide) (by decide) rfl ?_
        refine r_iload_n rfl rfl ?_
        refine r_iald rfl rfl (by first | decide | assumption) (by first | exact s1 | exact s2 | exact s3 | exact s4) (by first | exact s1 | exact s2 | exact s3 | exact s4) ?_
        refine r_iload_n rfl rfl ?_
        refine r_callS rfl (by decide) ct_X11_has rfl rfl (am_cnt rfl) ?_
        refine r_istore (L2 := [_, _, _, _, _, _]) rfl rfl ?_
        refine r_iload rfl rfl ?_
        refine r_if_eq rfl (fun h37 => ?_) (fun h37 => ?_)
        · rw [bp, g1 U hU.1, b01_eq0] at h37
          exact absurd hs h37
        · refine r_iconst rfl ?_
          refine r_goto rfl ?_
          refine r_istore (L2 := [_, _, _, _, _, _]) rfl rfl ?_
          refine r_iload_n rfl rfl ?_
          refine r_ldc_w rfl ?_
          refine r_icmp_eq rfl (fun h56 => ?_) (fun h56 => ?_)
          · refine r_bipush rfl ?_
            refine r_iret rfl rfl ?_
            exact ⟨rfl, _, rfl, U, hU.1, (if_pos rfl).symm⟩
          · exact absurd (congrArg nI ha) h56
      · exact absurd (two) (b01_eq0.mp h11)
    · obtain ⟨e1', e2⟩ := sb 0 e0 (by omega) ha (by omega)
      rw [e1'] at e2 ⊢
      refine r_aload_n rfl rfl ?_
      refine r_iconst rfl ?_
      refine r_putI rfl rfl (by decide) (by decide) rfl ?_
      try rw [hT]
      refine r_aload_n rfl rfl ?_
      refine r_iload_n rfl rfl ?_
      refine r_iload_n rfl rfl ?_
      refine r_callV rfl (ct_X11_arePair (zM hn hz)) rfl rfl rfl (by decide) rfl (am_cnt rfl) ?_
      refine r_if_ne rfl (fun h11 => ?_) (fun h11 => ?_)
      · refine r_aload_n rfl rfl ?_
        refine r_iload_n rfl rfl ?_
        refine r_iload_n rfl rfl ?_
        refine r_callVE rfl (mnV_ct hp hn hz frW_0 h1 h2) rfl rfl rfl (by decide) rfl (am_cnt rfl) (fun U hU => ?_)
        refine r_istore_n (L2 := [_, _, _, _, _, _]) rfl rfl ?_
        refine r_aload_n rfl rfl ?_
        refine r_getC rfl rfl (by decide) (by decide) rfl ?_
        refine r_iload_n rfl rfl ?_
        refine r_iald rfl rfl (by first | decide | assumption) (by first | exact s1 | exact s2 | exact s3 | exact s4) (by first | exact s1 | exact s2 | exact s3 | exact s4) ?_
        refine r_iload_n rfl rfl ?_
        refine r_callS rfl (by decide) ct_X11_has rfl rfl (am_cnt rfl) ?_
        refine r_istore (L2 := [_, _, _, _, _, _]) rfl rfl ?_
        refine r_iload rfl rfl ?_
        refine r_if_eq rfl (fun h37 => ?_) (fun h37 => ?_)
        · rw [bp, g1 U hU.1, b01_eq0] at h37
          exact absurd hs h37
        · refine r_iconst rfl ?_
          refine r_goto rfl ?_
          refine r_istore (L2 := [_, _, _, _, _, _]) rfl rfl ?_
          refine r_iload_n rfl rfl ?_
          refine r_ldc_w rfl ?_
          refine r_icmp_eq rfl (fun h56 => ?_) (fun h56 => ?_)
          · rw [show (1000000 : Int32) = nI 1000000 from rfl, nI_eq (by omega) (by omega)] at h56
            exact absurd h56 ha
          · refine r_iload rfl rfl ?_
            refine r_ldc_w rfl ?_
            refine r_icmp_ne rfl (fun h64 => ?_) (fun h64 => ?_)
            · refine r_aload_n rfl rfl ?_
              refine r_iconst rfl ?_
              refine r_putI rfl rfl (by decide) (by decide) rfl ?_
              refine r_aload_n rfl rfl ?_
              refine r_iload rfl rfl ?_
              refine r_callS rfl (by decide) (ct_X11_flag b01_or) rfl rfl (am_cnt rfl) ?_
              refine r_i2l rfl ?_
              refine r_callV rfl (ct_X11_enters u971 (by decide)) rfl rfl rfl (by decide) rfl (am_cnt rfl) ?_
              refine r_iload_n rfl rfl ?_
              refine r_aload_n rfl rfl ?_
              refine r_getC rfl rfl (by decide) (by decide) rfl ?_
              refine r_iload_n rfl rfl ?_
              refine r_iald rfl rfl (by first | decide | assumption) (by first | exact s1 | exact s2 | exact s3 | exact s4) (by first | exact s1 | exact s2 | exact s3 | exact s4) ?_
              rw [bq, eAdd, gI_uI_ne (by decide), gI_uJ_f, gI_uI_ne (by decide), hU.1.1 101 (by decide), gq.2.2.2.2.1]
              refine r_iadd rfl ?_
              refine r_iload rfl rfl ?_
              refine r_iadd rfl ?_
              refine r_iret rfl rfl ?_
              rw [bp, g1 U hU.1]
              exact ⟨rfl, _, rfl, U, hU.1, (if_neg e2).symm⟩
            · first | exact absurd h64 (by decide) | exact absurd (by decide) h64
      · exact absurd (two) (b01_eq0.mp h11)
  · have e0 : sbM T lt th n p q = mnV T lt th n q p := if_neg hs
    by_cases ha : mnV T lt th n p q = 1000000
    · have e2 : snM T lt th n p q = -2 := if_pos (Or.inl ha)
      rw [e2]
      refine r_aload_n rfl rfl ?_
      refine r_iconst rfl ?_
      refine r_putI rfl rfl (by decide) (by decide) rfl ?_
      try rw [hT]
      refine r_aload_n rfl rfl ?_
      refine r_iload_n rfl rfl ?_
      refine r_iload_n rfl rfl ?_
      refine r_callV rfl (ct_X11_arePair (zM hn hz)) rfl rfl rfl (by decide) rfl (am_cnt rfl) ?_
      refine r_if_ne rfl (fun h11 => ?_) (fun h11 => ?_)
      · refine r_aload_n rfl rfl ?_
        refine r_iload_n rfl rfl ?_
        refine r_iload_n rfl rfl ?_
        refine r_callVE rfl (mnV_ct hp hn hz frW_0 h1 h2) rfl rfl rfl (by decide) rfl (am_cnt rfl) (fun U hU => ?_)
        refine r_istore_n (L2 := [_, _, _, _, _, _]) rfl rfl ?_
        refine r_aload_n rfl rfl ?_
        refine r_getC rfl rfl (by decide) (by decide) rfl ?_
        refine r_iload_n rfl rfl ?_
        refine r_iald rfl rfl (by first | decide | assumption) (by first | exact s1 | exact s2 | exact s3 | exact s4) (by first | exact s1 | exact s2 | exact s3 | exact s4) ?_
        refine r_iload_n rfl rfl ?_
        refine r_callS rfl (by decide) ct_X11_has rfl rfl (am_cnt rfl) ?_
        refine r_istore (L2 := [_, _, _, _, _, _]) rfl rfl ?_
        refine r_iload rfl rfl ?_
        refine r_if_eq rfl (fun h37 => ?_) (fun h37 => ?_)
        · refine r_aload_n rfl rfl ?_
          refine r_iload_n rfl rfl ?_
          refine r_iload_n rfl rfl ?_
          refine r_callVE rfl (mnV_ct hp hn hz hU.1 h2 h1) rfl rfl rfl (by decide) rfl (am_cnt rfl) (fun V hV => ?_)
          refine r_istore (L2 := [_, _, _, _, _, _]) rfl rfl ?_
          refine r_iload_n rfl rfl ?_
          refine r_ldc_w rfl ?_
          refine r_icmp_eq rfl (fun h56 => ?_) (fun h56 => ?_)
          · refine r_bipush rfl ?_
            refine r_iret rfl rfl ?_
            exact ⟨rfl, _, rfl, V, frW_t hU.1 hV.1, (if_pos rfl).symm⟩
          · exact absurd (congrArg nI ha) h56
        · rw [bp, g1 U hU.1, b01_eq0] at h37
          exact absurd (Decidable.not_not.mp h37) hs
      · exact absurd (two) (b01_eq0.mp h11)
    · by_cases hb : mnV T lt th n q p = 1000000
      · have e2 : snM T lt th n p q = -2 := if_pos (Or.inr (by rw [e0]; exact hb))
        rw [e2]
        refine r_aload_n rfl rfl ?_
        refine r_iconst rfl ?_
        refine r_putI rfl rfl (by decide) (by decide) rfl ?_
        try rw [hT]
        refine r_aload_n rfl rfl ?_
        refine r_iload_n rfl rfl ?_
        refine r_iload_n rfl rfl ?_
        refine r_callV rfl (ct_X11_arePair (zM hn hz)) rfl rfl rfl (by decide) rfl (am_cnt rfl) ?_
        refine r_if_ne rfl (fun h11 => ?_) (fun h11 => ?_)
        · refine r_aload_n rfl rfl ?_
          refine r_iload_n rfl rfl ?_
          refine r_iload_n rfl rfl ?_
          refine r_callVE rfl (mnV_ct hp hn hz frW_0 h1 h2) rfl rfl rfl (by decide) rfl (am_cnt rfl) (fun U hU => ?_)
          refine r_istore_n (L2 := [_, _, _, _, _, _]) rfl rfl ?_
          refine r_aload_n rfl rfl ?_
          refine r_getC rfl rfl (by decide) (by decide) rfl ?_
          refine r_iload_n rfl rfl ?_
          refine r_iald rfl rfl (by first | decide | assumption) (by first | exact s1 | exact s2 | exact s3 | exact s4) (by first | exact s1 | exact s2 | exact s3 | exact s4) ?_
          refine r_iload_n rfl rfl ?_
          refine r_callS rfl (by decide) ct_X11_has rfl rfl (am_cnt rfl) ?_
          refine r_istore (L2 := [_, _, _, _, _, _]) rfl rfl ?_
          refine r_iload rfl rfl ?_
          refine r_if_eq rfl (fun h37 => ?_) (fun h37 => ?_)
          · refine r_aload_n rfl rfl ?_
            refine r_iload_n rfl rfl ?_
            refine r_iload_n rfl rfl ?_
            refine r_callVE rfl (mnV_ct hp hn hz hU.1 h2 h1) rfl rfl rfl (by decide) rfl (am_cnt rfl) (fun V hV => ?_)
            refine r_istore (L2 := [_, _, _, _, _, _]) rfl rfl ?_
            refine r_iload_n rfl rfl ?_
            refine r_ldc_w rfl ?_
            refine r_icmp_eq rfl (fun h56 => ?_) (fun h56 => ?_)
            · rw [show (1000000 : Int32) = nI 1000000 from rfl, nI_eq (by omega) (by omega)] at h56
              exact absurd h56 ha
            · refine r_iload rfl rfl ?_
              refine r_ldc_w rfl ?_
              refine r_icmp_ne rfl (fun h64 => ?_) (fun h64 => ?_)
              · exact absurd (congrArg nI hb) h64
              · refine r_bipush rfl ?_
                refine r_iret rfl rfl ?_
                exact ⟨rfl, _, rfl, V, frW_t hU.1 hV.1, (if_pos rfl).symm⟩
          · rw [bp, g1 U hU.1, b01_eq0] at h37
            exact absurd (Decidable.not_not.mp h37) hs
        · exact absurd (two) (b01_eq0.mp h11)
      · obtain ⟨e1', e2⟩ := sb _ e0 (by omega) ha hb
        rw [e1'] at e2 ⊢
        refine r_aload_n rfl rfl ?_
        refine r_iconst rfl ?_
        refine r_putI rfl rfl (by decide) (by decide) rfl ?_
        try rw [hT]
        refine r_aload_n rfl rfl ?_
        refine r_iload_n rfl rfl ?_
        refine r_iload_n rfl rfl ?_
        refine r_callV rfl (ct_X11_arePair (zM hn hz)) rfl rfl rfl (by decide) rfl (am_cnt rfl) ?_
        refine r_if_ne rfl (fun h11 => ?_) (fun h11 => ?_)
        · refine r_aload_n rfl rfl ?_
          refine r_iload_n rfl rfl ?_
          refine r_iload_n rfl rfl ?_
          refine r_callVE rfl (mnV_ct hp hn hz frW_0 h1 h2) rfl rfl rfl (by decide) rfl (am_cnt rfl) (fun U hU => ?_)
          refine r_istore_n (L2 := [_, _, _, _, _, _]) rfl rfl ?_
          refine r_aload_n rfl rfl ?_
          refine r_getC rfl rfl (by decide) (by decide) rfl ?_
          refine r_iload_n rfl rfl ?_
          refine r_iald rfl rfl (by first | decide | assumption) (by first | exact s1 | exact s2 | exact s3 | exact s4) (by first | exact s1 | exact s2 | exact s3 | exact s4) ?_
          refine r_iload_n rfl rfl ?_
          refine r_callS rfl (by decide) ct_X11_has rfl rfl (am_cnt rfl) ?_
          refine r_istore (L2 := [_, _, _, _, _, _]) rfl rfl ?_
          refine r_iload rfl rfl ?_
          refine r_if_eq rfl (fun h37 => ?_) (fun h37 => ?_)
          · refine r_aload_n rfl rfl ?_
            refine r_iload_n rfl rfl ?_
            refine r_iload_n rfl rfl ?_
            refine r_callVE rfl (mnV_ct hp hn hz hU.1 h2 h1) rfl rfl rfl (by decide) rfl (am_cnt rfl) (fun V hV => ?_)
            refine r_istore (L2 := [_, _, _, _, _, _]) rfl rfl ?_
            refine r_iload_n rfl rfl ?_
            refine r_ldc_w rfl ?_
            refine r_icmp_eq rfl (fun h56 => ?_) (fun h56 => ?_)
            · rw [show (1000000 : Int32) = nI 1000000 from rfl, nI_eq (by omega) (by omega)] at h56
              exact absurd h56 ha
            · refine r_iload rfl rfl ?_
              refine r_ldc_w rfl ?_
              refine r_icmp_ne rfl (fun h64 => ?_) (fun h64 => ?_)
              · refine r_aload_n rfl rfl ?_
                refine r_iconst rfl ?_
                refine r_putI rfl rfl (by decide) (by decide) rfl ?_
                refine r_aload_n rfl rfl ?_
                refine r_iload rfl rfl ?_
                refine r_callS rfl (by decide) (ct_X11_flag b01_or) rfl rfl (am_cnt rfl) ?_
                refine r_i2l rfl ?_
                refine r_callV rfl (ct_X11_enters u971 (by decide)) rfl rfl rfl (by decide) rfl (am_cnt rfl) ?_
                refine r_iload_n rfl rfl ?_
                refine r_aload_n rfl rfl ?_
                refine r_getC rfl rfl (by decide) (by decide) rfl ?_
                refine r_iload_n rfl rfl ?_
                refine r_iald rfl rfl (by first | decide | assumption) (by first | exact s1 | exact s2 | exact s3 | exact s4) (by first | exact s1 | exact s2 | exact s3 | exact s4) ?_
                rw [bq, eAdd, gI_uI_ne (by decide), gI_uJ_f, gI_uI_ne (by decide), hV.1.1 101 (by decide), hU.1.1 101 (by decide), gq.2.2.2.2.1]
                refine r_iadd rfl ?_
                refine r_iload rfl rfl ?_
                refine r_iadd rfl ?_
                refine r_iret rfl rfl ?_
                rw [bp, g1 U hU.1]
                exact ⟨rfl, _, rfl, V, frW_t hU.1 hV.1, (if_neg e2).symm⟩
              · rw [show (1000000 : Int32) = nI 1000000 from rfl, nI_eq (by omega) (by omega)] at h64
                exact absurd h64 hb
          · rw [bp, g1 U hU.1, b01_eq0] at h37
            exact absurd (Decidable.not_not.mp h37) hs
        · exact absurd (two) (b01_eq0.mp h11)
theorem ct_X11_know_no {d : Nat} {S T : am_S} {p q m : Int32} (hT : uI S 97 0 0 = T) (hz : 0 ≤ gI T 97 3) (h : ¬ (twoM T p q ∧ 0 ≤ m ∧ m ≤ 199)) : am_CT (d + 4) iX11_know [.ref 97, .int p, .int q, .int m] S (some (.int (-1))) (T) := by
  refine am_CT_in mmX11_know rfl rfl rfl ?_
  refine r_aload_n rfl rfl ?_
  refine r_iconst rfl ?_
  refine r_putI rfl rfl (by decide) (by decide) rfl ?_
  try rw [hT]
  refine r_aload_n rfl rfl ?_
  refine r_iload_n rfl rfl ?_
  refine r_iload_n rfl rfl ?_
  refine r_callV rfl (ct_X11_arePair hz) rfl rfl rfl (by decide) rfl (am_cnt rfl) ?_
  refine r_if_eq rfl (fun h11 => ?_) (fun h11 => ?_)
  · refine r_iconst rfl ?_
    refine r_iret rfl rfl ?_
    exact ⟨rfl, rfl⟩
  · refine r_iload_n rfl rfl ?_
    refine r_i2l rfl ?_
    refine r_lconst rfl ?_
    refine r_ldc2_w rfl ?_
    refine r_callS rfl (by decide) ct_X11_in rfl rfl (am_cnt rfl) ?_
    refine r_if_ne rfl (fun h23 => ?_) (fun h23 => ?_)
    · exfalso
      simp only [b01_eq0, wl_m999, wg_m999, wl_m99, wg_m99, wl_m50, wg_m50, wl_m1, wg_m1, wl_0, wg_0, wl_1, wg_1, wl_2, wg_2, wl_3, wg_3, wl_4, wg_4, wl_6, wg_6, wl_9, wg_9, wl_10, wg_10, wl_11, wg_11, wl_20, wg_20, wl_48, wg_48, wl_50, wg_50, wl_57, wg_57, wl_99, wg_99, wl_100, wg_100, wl_199, wg_199, wl_222, wg_222, wl_999, wg_999, wl_9999, wg_9999, fa_wide_le] at *
      grind
    · refine r_iconst rfl ?_
      refine r_iret rfl rfl ?_
      exact ⟨rfl, rfl⟩
