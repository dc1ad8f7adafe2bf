/-! A thing as the machine reads it. -/
theorem dig_ct {d : Nat} {S : am_S} {tp : Nat → Nat} {to : Nat} {s : RdS} (hT : TpM S tp to) (hs : RdC S s) (h1 : s.1 ≤ to) : am_CT (d + 2) iX11_isDigit [.ref 97] S (some (.int (b01 (isD tp to s.1)))) S := ct_X11_isDigit hT hs.1 h1
theorem hsg_r {S : am_S} {sg : Nat} (h : gR S 6 = 1000000 + sg) : gR S 6 = (999999 + sg) + 1 := by omega
theorem ct_X11_thing_no {d : Nat} {S : am_S} {tp : Nat → Nat} {to sg : Nat} {s : RdS} {g : RdS → Bool × RdS} (hT : TpM S tp to) (hs : RdC S s) (h1 : s.1 ≤ to) (h5 : s.2.1 ≤ 5) (hl : s.2.2.length ≤ s.1) (hsg : gR S 6 = 1000000 + sg) (hs12 : sg < 12) (hd : ¬ isD tp to s.1) (hgo : ∀ s : RdS, s.1 ≤ to → s.2.1 ≤ 5 → RdL to s (g s)) (hg : ∀ U (r : RdS), s.1 + 1 ≤ r.1 → TpM U tp to → RdC U r → r.1 ≤ to → r.2.1 ≤ 5 → r.2.2.length ≤ r.1 → gR U 6 = 1000000 + sg → am_CE (d + 4) iX11_ranked [.ref 97, .int 0] U (some (.int (b01 ((g r).1 = true)))) (fun T => FrC U T ∧ RdC T (g r).2)) : am_CE (d + 5) iX11_thing [.ref 97] S (some (.int (b01 ((thG g tp to sg s).1 = true)))) (fun T => FrC S T ∧ RdC T (thG g tp to sg s).2) := by
  refine am_CE_in mmX11_thing rfl rfl rfl ?_
  have h40 := hT.2.1
  have hr := hsg_r hsg
  have so : 999999 + sg + 1 = 1000000 + sg := by omega
  have dg0 : b01 (isD tp to s.1) = 0 := b01_f hd
  have al := aI_ok (tp := tp) (to := to) (p := s.1) (l := am_str sg) (str_ok sg hs12).2
  have al2 := aI_ok (tp := tp) (to := to) (p := s.1) (l := am_str 2) (by decide)
  match ha : amg tp to (am_str sg) s.1 with
  | some i =>
    have w : ¬ aI (amg tp to (am_str sg) s.1) < 0 := fun z => by rw [al, ha] at z; cases z
    have vi : aI (amg tp to (am_str sg) s.1) = nI i := by rw [ha]; rfl
    have e : thG g tp to sg s = (true, s.1 + 1, s.2.1, nI (1000 + i) :: s.2.2) := by rw [thG, if_neg hd, ha]
    rw [e]
    refine r_aload_n rfl rfl ?_
    refine r_callV rfl (dig_ct hT hs h1) rfl rfl rfl (by decide) rfl (am_cnt rfl) ?_
    refine r_if_eq rfl (fun h4 => ?_) (fun h4 => ?_)
    · refine r_aload_n rfl rfl ?_
      refine r_aload_n rfl rfl ?_
      refine r_getE rfl rfl (by decide) (by decide) rfl (by assumption) ?_
      rw [so]
      refine r_callV rfl (among_ct hT hs h1 hs12) rfl rfl rfl (by decide) rfl (am_cnt rfl) ?_
      refine r_istore_n (L2 := [_, _, _]) rfl rfl ?_
      refine r_iload_n rfl rfl ?_
      refine r_if_lt rfl (fun h74 => ?_) (fun h74 => ?_)
      · exact absurd h74 w
      · refine r_aload_n rfl rfl ?_
        refine r_sipush rfl ?_
        refine r_iload_n rfl rfl ?_
        refine r_iadd rfl ?_
        refine r_callV rfl (ct_X11_marks hs.2.2.1 (by omega)) rfl rfl rfl (by decide) rfl (am_cnt rfl) ?_
        refine r_aload_n rfl rfl ?_
        refine r_dup rfl rfl ?_
        refine r_getI rfl rfl (by decide) (by decide) rfl ?_
        refine r_iconst rfl ?_
        refine r_iadd rfl ?_
        refine r_putI rfl rfl (by decide) (by decide) rfl ?_
        refine r_iconst rfl ?_
        refine r_zret rfl rfl (by exact Or.inr rfl) ?_
        refine ⟨rfl, _, rfl, frC_97 (frC_mark frC_0) (Or.inl rfl), ?_⟩
        rw [vi, show (1000 : Int32) + nI i = nI (1000 + i) from nI_add 1000 i]
        exact rdC_at (rdC_mark hs) (by rw [gI_uI_ne (by decide), gI_uI_ne (by decide), hs.1, nI_1])
    · exact absurd dg0 h4
  | none =>
    have w : aI (amg tp to (am_str sg) s.1) < 0 := al.mpr ha
    have e0 : thG g tp to sg s = if amg tp to (am_str 2) s.1 = none ∨ s.2.1 = 5 then (false, s)
      else if (g (s.1 + 1, s.2.1 + 1, s.2.2)).1 = true ∧ ¬ amg tp to (am_str 3) (g (s.1 + 1, s.2.1 + 1, s.2.2)).2.1 = none then (true, (g (s.1 + 1, s.2.1 + 1, s.2.2)).2.1 + 1, (g (s.1 + 1, s.2.1 + 1, s.2.2)).2.2.1 - 1, (g (s.1 + 1, s.2.1 + 1, s.2.2)).2.2.2)
      else (false, (g (s.1 + 1, s.2.1 + 1, s.2.2)).2) := by rw [thG, if_neg hd, ha]
    by_cases hc : amg tp to (am_str 2) s.1 = none ∨ s.2.1 = 5
    · rw [if_pos hc] at e0
      rw [e0]
      have n5 : s.2.1 = 5 → gI S 97 20 = 5 := fun z => by rw [hs.2.1, z]; rfl
      refine r_aload_n rfl rfl ?_
      refine r_callV rfl (dig_ct hT hs h1) rfl rfl rfl (by decide) rfl (am_cnt rfl) ?_
      refine r_if_eq rfl (fun h4 => ?_) (fun h4 => ?_)
      · refine r_aload_n rfl rfl ?_
        refine r_aload_n rfl rfl ?_
        refine r_getE rfl rfl (by decide) (by decide) rfl (by assumption) ?_
        rw [so]
        refine r_callV rfl (among_ct hT hs h1 hs12) rfl rfl rfl (by decide) rfl (am_cnt rfl) ?_
        refine r_istore_n (L2 := [_, _, _]) rfl rfl ?_
        refine r_iload_n rfl rfl ?_
        refine r_if_lt rfl (fun h74 => ?_) (fun h74 => ?_)
        · refine r_aload_n rfl rfl ?_
          refine r_ldcS rfl ?_
          refine r_callV rfl (among_ct (i := 2) hT hs h1 (by decide)) rfl rfl rfl (by decide) rfl (am_cnt rfl) ?_
          refine r_if_lt rfl (fun h104 => ?_) (fun h104 => ?_)
          · refine r_iconst rfl ?_
            refine r_zret rfl rfl (by exact Or.inl rfl) ?_
            exact ⟨rfl, _, rfl, frC_0, hs⟩
          · rw [al2] at h104
            refine r_aload_n rfl rfl ?_
            refine r_getI rfl rfl (by decide) (by decide) rfl ?_
            refine r_iconst rfl ?_
            refine r_icmp_ne rfl (fun h112 => ?_) (fun h112 => ?_)
            · exact absurd (n5 (hc.resolve_left h104)) h112
            · refine r_iconst rfl ?_
              refine r_zret rfl rfl (by exact Or.inl rfl) ?_
              exact ⟨rfl, _, rfl, frC_0, hs⟩
        · exact absurd w (Int32.not_lt.mpr (Int32.not_lt.mp h74))
      · exact absurd dg0 h4
    · rw [if_neg hc] at e0
      have lt := amg_lt (fun z => hc (Or.inl z))
      have ne5 : s.2.1 < 5 := by
        have : s.2.1 ≠ 5 := fun z => hc (Or.inr z)
        omega
      have n5 : ¬ gI S 97 20 = 5 := fun z => by
        rw [hs.2.1, show (5 : Int32) = nI 5 from rfl, nI_eq (by omega) (by omega)] at z
        omega
      obtain ⟨a1, a2, a3, a4, a5⟩ := hgo (s.1 + 1, s.2.1 + 1, s.2.2) lt ne5
      have b3 : (g (s.1 + 1, s.2.1 + 1, s.2.2)).2.2.2.length + (s.1 + 1) ≤ s.2.2.length + (g (s.1 + 1, s.2.1 + 1, s.2.2)).2.1 := a3
      have c0 : RdC (uI S 97 18 (gI S 97 18 + 1)) (s.1 + 1, s.2) := rdC_at hs (by rw [hs.1, nI_1])
      have c1 : RdC (uI (uI S 97 18 (gI S 97 18 + 1)) 97 20 (gI (uI S 97 18 (gI S 97 18 + 1)) 97 20 + 1)) (s.1 + 1, s.2.1 + 1, s.2.2) := rdC_ne c0 (by rw [c0.2.1, nI_1])
      have f1 : FrC S (uI (uI S 97 18 (gI S 97 18 + 1)) 97 20 (gI (uI S 97 18 (gI S 97 18 + 1)) 97 20 + 1)) := frC_97 (frC_97 frC_0 (Or.inl rfl)) (Or.inr rfl)
      have gc := hg _ (s.1 + 1, s.2.1 + 1, s.2.2) (Nat.le_refl _) (tpM_fr f1 hT) c1 lt ne5 (by show s.2.2.length ≤ s.1 + 1; omega) (by rw [f1.2.2.2.2.2, hsg])
      have al3 := aI_ok (tp := tp) (to := to) (p := (g (s.1 + 1, s.2.1 + 1, s.2.2)).2.1) (l := am_str 3) (by decide)
      by_cases hb : (g (s.1 + 1, s.2.1 + 1, s.2.2)).1 = true
      · have w2 : b01 ((g (s.1 + 1, s.2.1 + 1, s.2.2)).1 = true) = 1 := b01_t hb
        have b5 : (g (s.1 + 1, s.2.1 + 1, s.2.2)).2.2.1 = s.2.1 + 1 := a5 hb
        by_cases h3 : amg tp to (am_str 3) (g (s.1 + 1, s.2.1 + 1, s.2.2)).2.1 = none
        · rw [if_neg (fun z => z.2 h3)] at e0
          rw [e0]
          have w3 := al3.mpr h3
          refine r_aload_n rfl rfl ?_
          refine r_callV rfl (dig_ct hT hs h1) rfl rfl rfl (by decide) rfl (am_cnt rfl) ?_
          refine r_if_eq rfl (fun h4 => ?_) (fun h4 => ?_)
          · refine r_aload_n rfl rfl ?_
            refine r_aload_n rfl rfl ?_
            refine r_getE rfl rfl (by decide) (by decide) rfl (by assumption) ?_
            rw [so]
            refine r_callV rfl (among_ct hT hs h1 hs12) rfl rfl rfl (by decide) rfl (am_cnt rfl) ?_
            refine r_istore_n (L2 := [_, _, _]) rfl rfl ?_
            refine r_iload_n rfl rfl ?_
            refine r_if_lt rfl (fun h74 => ?_) (fun h74 => ?_)
            · refine r_aload_n rfl rfl ?_
              refine r_ldcS rfl ?_
              refine r_callV rfl (among_ct (i := 2) hT hs h1 (by decide)) rfl rfl rfl (by decide) rfl (am_cnt rfl) ?_
              refine r_if_lt rfl (fun h104 => ?_) (fun h104 => ?_)
              · exact absurd (al2.mp h104) (fun z => hc (Or.inl z))
              · refine r_aload_n rfl rfl ?_
                refine r_getI rfl rfl (by decide) (by decide) rfl ?_
                refine r_iconst rfl ?_
                refine r_icmp_ne rfl (fun h112 => ?_) (fun h112 => ?_)
                · refine r_aload_n rfl rfl ?_
                  refine r_dup rfl rfl ?_
                  refine r_getI rfl rfl (by decide) (by decide) rfl ?_
                  refine r_iconst rfl ?_
                  refine r_iadd rfl ?_
                  refine r_putI rfl rfl (by decide) (by decide) rfl ?_
                  refine r_aload_n rfl rfl ?_
                  refine r_dup rfl rfl ?_
                  refine r_getI rfl rfl (by decide) (by decide) rfl ?_
                  refine r_iconst rfl ?_
                  refine r_iadd rfl ?_
                  refine r_putI rfl rfl (by decide) (by decide) rfl ?_
                  refine r_aload_n rfl rfl ?_
                  refine r_iconst rfl ?_
                  refine r_callVE rfl gc rfl rfl rfl (by decide) rfl (am_cnt rfl) (fun V hV => ?_)
                  refine r_if_eq rfl (fun h142 => ?_) (fun h142 => ?_)
                  · rw [w2] at h142
                    exact absurd h142 (by decide)
                  · refine r_aload_n rfl rfl ?_
                    refine r_ldcS rfl ?_
                    refine r_callV rfl (among_ct (i := 3) (tpM_fr (frC_t f1 hV.1) hT) hV.2 a2 (by decide)) rfl rfl rfl (by decide) rfl (am_cnt rfl) ?_
                    refine r_if_ge rfl (fun h151 => ?_) (fun h151 => ?_)
                    · exact absurd w3 (Int32.not_lt.mpr h151)
                    · refine r_iconst rfl ?_
                      refine r_zret rfl rfl (by exact Or.inl rfl) ?_
                      exact ⟨rfl, _, rfl, frC_t f1 hV.1, hV.2⟩
                · exact absurd h112 n5
            · exact absurd w h74
          · exact absurd dg0 h4
        · rw [if_pos ⟨hb, h3⟩] at e0
          rw [e0]
          have w3 : ¬ aI (amg tp to (am_str 3) (g (s.1 + 1, s.2.1 + 1, s.2.2)).2.1) < 0 := fun z => h3 (al3.mp z)
          refine r_aload_n rfl rfl ?_
          refine r_callV rfl (dig_ct hT hs h1) rfl rfl rfl (by decide) rfl (am_cnt rfl) ?_
          refine r_if_eq rfl (fun h4 => ?_) (fun h4 => ?_)
          · refine r_aload_n rfl rfl ?_
            refine r_aload_n rfl rfl ?_
            refine r_getE rfl rfl (by decide) (by decide) rfl (by assumption) ?_
            rw [so]
            refine r_callV rfl (among_ct hT hs h1 hs12) rfl rfl rfl (by decide) rfl (am_cnt rfl) ?_
            refine r_istore_n (L2 := [_, _, _]) rfl rfl ?_
            refine r_iload_n rfl rfl ?_
            refine r_if_lt rfl (fun h74 => ?_) (fun h74 => ?_)
            · refine r_aload_n rfl rfl ?_
              refine r_ldcS rfl ?_
              refine r_callV rfl (among_ct (i := 2) hT hs h1 (by decide)) rfl rfl rfl (by decide) rfl (am_cnt rfl) ?_
              refine r_if_lt rfl (fun h104 => ?_) (fun h104 => ?_)
              · exact absurd (al2.mp h104) (fun z => hc (Or.inl z))
              · refine r_aload_n rfl rfl ?_
                refine r_getI rfl rfl (by decide) (by decide) rfl ?_
                refine r_iconst rfl ?_
                refine r_icmp_ne rfl (fun h112 => ?_) (fun h112 => ?_)
                · refine r_aload_n rfl rfl ?_
                  refine r_dup rfl rfl ?_
                  refine r_getI rfl rfl (by decide) (by decide) rfl ?_
                  refine r_iconst rfl ?_
                  refine r_iadd rfl ?_
                  refine r_putI rfl rfl (by decide) (by decide) rfl ?_
                  refine r_aload_n rfl rfl ?_
                  refine r_dup rfl rfl ?_
                  refine r_getI rfl rfl (by decide) (by decide) rfl ?_
                  refine r_iconst rfl ?_
                  refine r_iadd rfl ?_
                  refine r_putI rfl rfl (by decide) (by decide) rfl ?_
                  refine r_aload_n rfl rfl ?_
                  refine r_iconst rfl ?_
                  refine r_callVE rfl gc rfl rfl rfl (by decide) rfl (am_cnt rfl) (fun V hV => ?_)
                  refine r_if_eq rfl (fun h142 => ?_) (fun h142 => ?_)
                  · rw [w2] at h142
                    exact absurd h142 (by decide)
                  · refine r_aload_n rfl rfl ?_
                    refine r_ldcS rfl ?_
                    refine r_callV rfl (among_ct (i := 3) (tpM_fr (frC_t f1 hV.1) hT) hV.2 a2 (by decide)) rfl rfl rfl (by decide) rfl (am_cnt rfl) ?_
                    refine r_if_ge rfl (fun h151 => ?_) (fun h151 => ?_)
                    · refine r_aload_n rfl rfl ?_
                      refine r_dup rfl rfl ?_
                      refine r_getI rfl rfl (by decide) (by decide) rfl ?_
                      refine r_iconst rfl ?_
                      refine r_iadd rfl ?_
                      refine r_putI rfl rfl (by decide) (by decide) rfl ?_
                      refine r_aload_n rfl rfl ?_
                      refine r_dup rfl rfl ?_
                      refine r_getI rfl rfl (by decide) (by decide) rfl ?_
                      refine r_iconst rfl ?_
                      refine r_isub rfl ?_
                      refine r_putI rfl rfl (by decide) (by decide) rfl ?_
                      refine r_iconst rfl ?_
                      refine r_zret rfl rfl (by exact Or.inr rfl) ?_
                      have r1 := rdC_at (p := (g (s.1 + 1, s.2.1 + 1, s.2.2)).2.1 + 1) (x := gI V 97 18 + 1) hV.2 (by rw [hV.2.1, nI_1])
                      exact ⟨rfl, _, rfl, frC_97 (frC_97 (frC_t f1 hV.1) (Or.inl rfl)) (Or.inr rfl), rdC_ne r1 (by rw [r1.2.1]; exact pk_sub (b := 1) (by show 1 ≤ (g (s.1 + 1, s.2.1 + 1, s.2.2)).2.2.1; omega))⟩
                    · exact absurd (Int32.not_le.mp h151) w3
                · exact absurd h112 n5
            · exact absurd w h74
          · exact absurd dg0 h4
      · rw [if_neg (fun z => hb z.1)] at e0
        rw [e0]
        have w2 : b01 ((g (s.1 + 1, s.2.1 + 1, s.2.2)).1 = true) = 0 := b01_f hb
        refine r_aload_n rfl rfl ?_
        refine r_callV rfl (dig_ct hT hs h1) rfl rfl rfl (by decide) rfl (am_cnt rfl) ?_
        refine r_if_eq rfl (fun h4 => ?_) (fun h4 => ?_)
        · refine r_aload_n rfl rfl ?_
          refine r_aload_n rfl rfl ?_
          refine r_getE rfl rfl (by decide) (by decide) rfl (by assumption) ?_
          rw [so]
          refine r_callV rfl (among_ct hT hs h1 hs12) rfl rfl rfl (by decide) rfl (am_cnt rfl) ?_
          refine r_istore_n (L2 := [_, _, _]) rfl rfl ?_
          refine r_iload_n rfl rfl ?_
          refine r_if_lt rfl (fun h74 => ?_) (fun h74 => ?_)
          · refine r_aload_n rfl rfl ?_
            refine r_ldcS rfl ?_
            refine r_callV rfl (among_ct (i := 2) hT hs h1 (by decide)) rfl rfl rfl (by decide) rfl (am_cnt rfl) ?_
            refine r_if_lt rfl (fun h104 => ?_) (fun h104 => ?_)
            · exact absurd (al2.mp h104) (fun z => hc (Or.inl z))
            · refine r_aload_n rfl rfl ?_
              refine r_getI rfl rfl (by decide) (by decide) rfl ?_
              refine r_iconst rfl ?_
              refine r_icmp_ne rfl (fun h112 => ?_) (fun h112 => ?_)
              · refine r_aload_n rfl rfl ?_
                refine r_dup rfl rfl ?_
                refine r_getI rfl rfl (by decide) (by decide) rfl ?_
                refine r_iconst rfl ?_
                refine r_iadd rfl ?_
                refine r_putI rfl rfl (by decide) (by decide) rfl ?_
                refine r_aload_n rfl rfl ?_
                refine r_dup rfl rfl ?_
                refine r_getI rfl rfl (by decide) (by decide) rfl ?_
                refine r_iconst rfl ?_
                refine r_iadd rfl ?_
                refine r_putI rfl rfl (by decide) (by decide) rfl ?_
                refine r_aload_n rfl rfl ?_
                refine r_iconst rfl ?_
                refine r_callVE rfl gc rfl rfl rfl (by decide) rfl (am_cnt rfl) (fun V hV => ?_)
                refine r_if_eq rfl (fun h142 => ?_) (fun h142 => ?_)
                · refine r_iconst rfl ?_
                  refine r_zret rfl rfl (by exact Or.inl rfl) ?_
                  exact ⟨rfl, _, rfl, frC_t f1 hV.1, hV.2⟩
                · exact absurd w2 h142
              · exact absurd h112 n5
          · exact absurd w h74
        · exact absurd dg0 h4
