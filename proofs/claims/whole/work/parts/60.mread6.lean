/-! What is ranked, by the machine. -/
theorem rkL_f {g : RdS → Bool × RdS} {tp : Nat → Nat} {to k : Nat} : ∀ m t, rkL g tp to k m false t = (false, t)
  | 0, _ => rfl
  | j + 1, _ => by rw [rkL, if_neg (fun y => by cases y.1)]
theorem ct_X11_ranked_lo {d : Nat} {S : am_S} {tp : Nat → Nat} {to sg k0 : Nat} {s : RdS} {g : RdS → Bool × RdS} (hk : k0 ≤ 4) (hT : TpM S tp to) (hs : RdC S s) (h1 : s.1 ≤ to) (h5 : s.2.1 ≤ 5) (hl : s.2.2.length ≤ s.1) (hsg : gR S 6 = 1000000 + sg) (hgo : ∀ s : RdS, s.1 ≤ to → s.2.1 ≤ 5 → RdL to s (g s)) (hg : ∀ U (r : RdS), s.1 ≤ r.1 → TpM U tp to → RdC U r → r.1 ≤ to → r.2.1 ≤ 5 → r.2.2.length ≤ r.1 → gR U 6 = 1000000 + sg → am_CE (d + 4) iX11_ranked [.ref 97, .int (nI (k0 + 1))] U (some (.int (b01 ((g r).1 = true)))) (fun T => FrC U T ∧ RdC T (g r).2)) : am_CE (d + 5) iX11_ranked [.ref 97, .int (nI k0)] S (some (.int (b01 ((rkL g tp to k0 60 (g s).1 (g s).2).1 = true)))) (fun T => FrC S T ∧ RdC T (rkL g tp to k0 60 (g s).1 (g s).2).2) := by
  refine am_CE_in mmX11_ranked rfl rfl rfl ?_
  have h40 := hT.2.1
  have so := str_ok (opsM k0) (by unfold opsM; omega)
  have loop : ∀ (k : Nat) (c : Nat) (m : Nat) (b : Bool) (t : RdS) (T : am_S) (v5 : Option Value), (c ≤ 1) → (to - t.1 + c < k) → ((c = 1 ∧ rkL g tp to k0 m b t = rkL g tp to k0 60 (g s).1 (g s).2 ∧ to - t.1 < m) ∨ (c = 0 ∧ (b, t) = rkL g tp to k0 60 (g s).1 (g s).2)) → (t.1 ≤ to) → (t.2.1 ≤ 5) → (t.2.2.length ≤ t.1) → (FrC S T) → (RdC T t) → (s.1 ≤ t.1) → am_Ex (am_Call am_MT (d + 4)) mmX11_ranked none (fun r1 G1 => r1 = (some (.int (b01 ((rkL g tp to k0 60 (g s).1 (g s).2).1 = true)))) ∧ ∃ S2, G1 = am_H S2 ∧ (fun T => FrC S T ∧ RdC T (rkL g tp to k0 60 (g s).1 (g s).2).2) S2) (fun _ _ _ _ _ _ => False) 63 [some (.ref 97), some (.int (nI k0)), some (.ref (1000000 + opsM k0)), some (.int (b01 (b = true))), some (.int (nI c)), v5] [] (am_H (T)) 0 0 := by
    intro k
    induction k with
    | zero =>
      intro c m b t T v5 q1 q2 q3 q4 q5 q6 f1 f2 q7
      omega
    | succ k ih =>
      intro c m b t T v5 q1 q2 q3 q4 q5 q6 f1 f2 q7
      have hT2 := tpM_fr f1 hT
      rcases q3 with ⟨hc, hr, hm⟩ | ⟨hc, hr⟩
      · subst hc
        obtain ⟨m2, rfl⟩ : ∃ j, m = j + 1 := ⟨m - 1, by omega⟩
        have al := aI_ok (tp := tp) (to := to) (p := t.1) (l := am_str (opsM k0)) so.2
        match b, hr with
        | false, hr =>
          rw [rkL_f] at hr
          rw [← hr]
          refine r_iload_n rfl rfl ?_
          refine r_if_eq rfl (fun h64 => ?_) (fun h64 => ?_)
          · refine r_iload_n rfl rfl ?_
            refine r_zret rfl rfl (by exact b01_or) ?_
            exact ⟨rfl, _, rfl, f1, f2⟩
          · exact absurd (b01_f (by decide)) h64
        | true, hr =>
          have b1 : ¬ b01 (true = true) = 0 := by rw [b01_t rfl]; decide
          rw [rkL] at hr
          by_cases ha : amg tp to (am_str (opsM k0)) t.1 = none
          · rw [if_neg (fun z => z.2 ha)] at hr
            rw [← hr]
            have w := al.mpr ha
            refine r_iload_n rfl rfl ?_
            refine r_if_eq rfl (fun h64 => ?_) (fun h64 => ?_)
            · exact absurd h64 b1
            · refine r_iload rfl rfl ?_
              refine r_if_eq rfl (fun h69 => ?_) (fun h69 => ?_)
              · exact absurd h69 (by decide)
              · refine r_aload_n rfl rfl ?_
                refine r_aload_n rfl rfl ?_
                refine r_callV rfl (among_ct hT2 f2 q4 (by unfold opsM; omega)) rfl rfl rfl (by decide) rfl (am_cnt rfl) ?_
                refine r_if_lt rfl (fun h77 => ?_) (fun h77 => ?_)
                · refine r_iload_n rfl rfl ?_
                  refine r_zret rfl rfl (by exact b01_or) ?_
                  exact ⟨rfl, _, rfl, f1, f2⟩
                · exact absurd w h77
          · rw [if_pos ⟨rfl, ha⟩] at hr
            have w : ¬ aI (amg tp to (am_str (opsM k0)) t.1) < 0 := fun z => ha (al.mp z)
            have lt := amg_lt ha
            obtain ⟨a1, a2, a3, a4, a5⟩ := hgo (t.1 + 1, t.2) lt q5
            have a1b : t.1 + 1 ≤ (g (t.1 + 1, t.2)).2.1 := a1
            have b3 : (g (t.1 + 1, t.2)).2.2.2.length + (t.1 + 1) ≤ t.2.2.length + (g (t.1 + 1, t.2)).2.1 := a3
            have bp : (nI t.1).toNatClampNeg = t.1 := nI_clamp (by omega)
            have s1 : 0 ≤ nI t.1 := nI_pos' (by omega)
            have s2 : nI t.1 < Int32.ofNat 60 := nI_lt (by omega) (by omega)
            have tv := (hT2.2.2 t.1 lt).1
            have t18 : gI T 97 18 = nI t.1 := f2.1
            have c1 : RdC (uI T 97 18 (gI T 97 18 + 1)) (t.1 + 1, t.2) := rdC_at f2 (by rw [t18, nI_1])
            have f3 : FrC S (uI T 97 18 (gI T 97 18 + 1)) := frC_97 f1 (Or.inl rfl)
            have gc := hg _ (t.1 + 1, t.2) (by show s.1 ≤ t.1 + 1; omega) (tpM_fr f3 hT) c1 lt q5 (by show t.2.2.length ≤ t.1 + 1; omega) (by rw [f3.2.2.2.2.2, hsg])
            have k2 : nI k0 = 2 ↔ k0 = 2 := by rw [show (2 : Int32) = nI 2 from rfl]; exact nI_eq (by omega) (by omega)
            have mk : (2000 : Int32) + nI (tp t.1) = nI (2000 + tp t.1) := nI_add 2000 (tp t.1)
            by_cases hb : (g (t.1 + 1, t.2)).1 = true
            · rw [if_pos hb] at hr
              have w2 : ¬ b01 ((g (t.1 + 1, t.2)).1 = true) = 0 := by rw [b01_t hb]; decide
              refine r_iload_n rfl rfl ?_
              refine r_if_eq rfl (fun h64 => ?_) (fun h64 => ?_)
              · exact absurd h64 b1
              · refine r_iload rfl rfl ?_
                refine r_if_eq rfl (fun h69 => ?_) (fun h69 => ?_)
                · exact absurd h69 (by decide)
                · refine r_aload_n rfl rfl ?_
                  refine r_aload_n rfl rfl ?_
                  refine r_callV rfl (among_ct hT2 f2 q4 (by unfold opsM; omega)) rfl rfl rfl (by decide) rfl (am_cnt rfl) ?_
                  refine r_if_lt rfl (fun h77 => ?_) (fun h77 => ?_)
                  · exact absurd h77 w
                  · refine r_aload_n rfl rfl ?_
                    refine r_getC rfl rfl (by decide) (by decide) rfl ?_
                    refine r_aload_n rfl rfl ?_
                    refine r_getI rfl rfl (by decide) (by decide) rfl ?_
                    rw [t18]
                    refine r_iald rfl rfl (by first | decide | assumption) (by first | exact s1 | exact s2) (by first | exact s1 | exact s2) ?_
                    rw [bp, tv]
                    refine r_istore (L2 := [_, _, _, _, _, _]) rfl rfl ?_
                    refine r_aload_n rfl rfl ?_
                    refine r_dup rfl rfl ?_
                    refine r_getI rfl rfl (by decide) (by decide) rfl ?_
                    refine r_iconst rfl ?_
                    refine r_iadd rfl ?_
                    refine r_putI rfl rfl (by decide) (by decide) rfl ?_
                    refine r_aload_n rfl rfl ?_
                    refine r_iload_n rfl rfl ?_
                    refine r_iconst rfl ?_
                    refine r_iadd rfl ?_
                    rw [nI_1]
                    refine r_callVE rfl gc rfl rfl rfl (by decide) rfl (am_cnt rfl) (fun V hV => ?_)
                    refine r_istore_n (L2 := [_, _, _, _, _, _]) rfl rfl ?_
                    refine r_iload_n rfl rfl ?_
                    refine r_if_eq rfl (fun h110 => ?_) (fun h110 => ?_)
                    · exact absurd h110 w2
                    · refine r_aload_n rfl rfl ?_
                      refine r_sipush rfl ?_
                      refine r_iload rfl rfl ?_
                      refine r_iadd rfl ?_
                      rw [mk]
                      refine r_callV rfl (ct_X11_marks hV.2.2.2.1 (by omega)) rfl rfl rfl (by decide) rfl (am_cnt rfl) ?_
                      refine r_iload_n rfl rfl ?_
                      refine r_iconst rfl ?_
                      refine r_icmp_eq rfl (fun h125 => ?_) (fun h125 => ?_)
                      · rw [if_pos (k2.mp h125)] at hr
                        refine r_iconst rfl ?_
                        refine r_istore (L2 := [_, _, _, _, _, _]) rfl rfl ?_
                        refine r_goto rfl ?_
                        first
                        | exact ih 0 m2 (g (t.1 + 1, t.2)).1 ((g (t.1 + 1, t.2)).2.1, (g (t.1 + 1, t.2)).2.2.1, nI (2000 + tp t.1) :: (g (t.1 + 1, t.2)).2.2.2) _ _ (by omega) (by show to - (g (t.1 + 1, t.2)).2.1 + 0 < _; omega) (Or.inr ⟨rfl, hr⟩) a2 a4 (by show (g (t.1 + 1, t.2)).2.2.2.length + 1 ≤ (g (t.1 + 1, t.2)).2.1; omega) (frC_mark (frC_t f3 hV.1)) (rdC_mark hV.2) (by show s.1 ≤ (g (t.1 + 1, t.2)).2.1; omega)
                        | exact ih 1 m2 (g (t.1 + 1, t.2)).1 ((g (t.1 + 1, t.2)).2.1, (g (t.1 + 1, t.2)).2.2.1, nI (2000 + tp t.1) :: (g (t.1 + 1, t.2)).2.2.2) _ _ (by omega) (by show to - (g (t.1 + 1, t.2)).2.1 + 1 < _; omega) (Or.inl ⟨rfl, hr, by show to - (g (t.1 + 1, t.2)).2.1 < _; omega⟩) a2 a4 (by show (g (t.1 + 1, t.2)).2.2.2.length + 1 ≤ (g (t.1 + 1, t.2)).2.1; omega) (frC_mark (frC_t f3 hV.1)) (rdC_mark hV.2) (by show s.1 ≤ (g (t.1 + 1, t.2)).2.1; omega)
                      · rw [if_neg (fun z => h125 (k2.mpr z))] at hr
                        refine r_iconst rfl ?_
                        refine r_goto rfl ?_
                        refine r_istore (L2 := [_, _, _, _, _, _]) rfl rfl ?_
                        refine r_goto rfl ?_
                        first
                        | exact ih 0 m2 (g (t.1 + 1, t.2)).1 ((g (t.1 + 1, t.2)).2.1, (g (t.1 + 1, t.2)).2.2.1, nI (2000 + tp t.1) :: (g (t.1 + 1, t.2)).2.2.2) _ _ (by omega) (by show to - (g (t.1 + 1, t.2)).2.1 + 0 < _; omega) (Or.inr ⟨rfl, hr⟩) a2 a4 (by show (g (t.1 + 1, t.2)).2.2.2.length + 1 ≤ (g (t.1 + 1, t.2)).2.1; omega) (frC_mark (frC_t f3 hV.1)) (rdC_mark hV.2) (by show s.1 ≤ (g (t.1 + 1, t.2)).2.1; omega)
                        | exact ih 1 m2 (g (t.1 + 1, t.2)).1 ((g (t.1 + 1, t.2)).2.1, (g (t.1 + 1, t.2)).2.2.1, nI (2000 + tp t.1) :: (g (t.1 + 1, t.2)).2.2.2) _ _ (by omega) (by show to - (g (t.1 + 1, t.2)).2.1 + 1 < _; omega) (Or.inl ⟨rfl, hr, by show to - (g (t.1 + 1, t.2)).2.1 < _; omega⟩) a2 a4 (by show (g (t.1 + 1, t.2)).2.2.2.length + 1 ≤ (g (t.1 + 1, t.2)).2.1; omega) (frC_mark (frC_t f3 hV.1)) (rdC_mark hV.2) (by show s.1 ≤ (g (t.1 + 1, t.2)).2.1; omega)
            · rw [if_neg hb] at hr
              have w2 : b01 ((g (t.1 + 1, t.2)).1 = true) = 0 := b01_f hb
              refine r_iload_n rfl rfl ?_
              refine r_if_eq rfl (fun h64 => ?_) (fun h64 => ?_)
              · exact absurd h64 b1
              · refine r_iload rfl rfl ?_
                refine r_if_eq rfl (fun h69 => ?_) (fun h69 => ?_)
                · exact absurd h69 (by decide)
                · refine r_aload_n rfl rfl ?_
                  refine r_aload_n rfl rfl ?_
                  refine r_callV rfl (among_ct hT2 f2 q4 (by unfold opsM; omega)) rfl rfl rfl (by decide) rfl (am_cnt rfl) ?_
                  refine r_if_lt rfl (fun h77 => ?_) (fun h77 => ?_)
                  · exact absurd h77 w
                  · refine r_aload_n rfl rfl ?_
                    refine r_getC rfl rfl (by decide) (by decide) rfl ?_
                    refine r_aload_n rfl rfl ?_
                    refine r_getI rfl rfl (by decide) (by decide) rfl ?_
                    rw [t18]
                    refine r_iald rfl rfl (by first | decide | assumption) (by first | exact s1 | exact s2) (by first | exact s1 | exact s2) ?_
                    rw [bp, tv]
                    refine r_istore (L2 := [_, _, _, _, _, _]) rfl rfl ?_
                    refine r_aload_n rfl rfl ?_
                    refine r_dup rfl rfl ?_
                    refine r_getI rfl rfl (by decide) (by decide) rfl ?_
                    refine r_iconst rfl ?_
                    refine r_iadd rfl ?_
                    refine r_putI rfl rfl (by decide) (by decide) rfl ?_
                    refine r_aload_n rfl rfl ?_
                    refine r_iload_n rfl rfl ?_
                    refine r_iconst rfl ?_
                    refine r_iadd rfl ?_
                    rw [nI_1]
                    refine r_callVE rfl gc rfl rfl rfl (by decide) rfl (am_cnt rfl) (fun V hV => ?_)
                    refine r_istore_n (L2 := [_, _, _, _, _, _]) rfl rfl ?_
                    refine r_iload_n rfl rfl ?_
                    refine r_if_eq rfl (fun h110 => ?_) (fun h110 => ?_)
                    · refine r_iload_n rfl rfl ?_
                      refine r_iconst rfl ?_
                      refine r_icmp_eq rfl (fun h125 => ?_) (fun h125 => ?_)
                      · rw [if_pos (k2.mp h125)] at hr
                        refine r_iconst rfl ?_
                        refine r_istore (L2 := [_, _, _, _, _, _]) rfl rfl ?_
                        refine r_goto rfl ?_
                        first
                        | exact ih 0 m2 (g (t.1 + 1, t.2)).1 (g (t.1 + 1, t.2)).2 _ _ (by omega) (by omega) (Or.inr ⟨rfl, hr⟩) a2 a4 (by omega) (frC_t f3 hV.1) hV.2 (by omega)
                        | exact ih 1 m2 (g (t.1 + 1, t.2)).1 (g (t.1 + 1, t.2)).2 _ _ (by omega) (by omega) (Or.inl ⟨rfl, hr, by omega⟩) a2 a4 (by omega) (frC_t f3 hV.1) hV.2 (by omega)
                      · rw [if_neg (fun z => h125 (k2.mpr z))] at hr
                        refine r_iconst rfl ?_
                        refine r_goto rfl ?_
                        refine r_istore (L2 := [_, _, _, _, _, _]) rfl rfl ?_
                        refine r_goto rfl ?_
                        first
                        | exact ih 0 m2 (g (t.1 + 1, t.2)).1 (g (t.1 + 1, t.2)).2 _ _ (by omega) (by omega) (Or.inr ⟨rfl, hr⟩) a2 a4 (by omega) (frC_t f3 hV.1) hV.2 (by omega)
                        | exact ih 1 m2 (g (t.1 + 1, t.2)).1 (g (t.1 + 1, t.2)).2 _ _ (by omega) (by omega) (Or.inl ⟨rfl, hr, by omega⟩) a2 a4 (by omega) (frC_t f3 hV.1) hV.2 (by omega)
                    · exact absurd w2 h110
      · subst hc
        rw [← hr]
        refine r_iload_n rfl rfl ?_
        refine r_if_eq rfl (fun h64 => ?_) (fun h64 => ?_)
        · refine r_iload_n rfl rfl ?_
          refine r_zret rfl rfl (by exact b01_or) ?_
          exact ⟨rfl, _, rfl, f1, f2⟩
        · refine r_iload rfl rfl ?_
          refine r_if_eq rfl (fun h69 => ?_) (fun h69 => ?_)
          · refine r_iload_n rfl rfl ?_
            refine r_zret rfl rfl (by exact b01_or) ?_
            exact ⟨rfl, _, rfl, f1, f2⟩
          · exact absurd rfl h69
  obtain ⟨a1, a2, a3, a4, a5⟩ := hgo s h1 h5
  have gc := hg S s (Nat.le_refl _) hT hs h1 h5 hl hsg
  have k5 : ¬ nI k0 = 5 := fun z => by
    rw [show (5 : Int32) = nI 5 from rfl, nI_eq (by omega) (by omega)] at z
    omega
  refine r_iload_n rfl rfl ?_
  refine r_iconst rfl ?_
  refine r_icmp_ne rfl (fun h2 => ?_) (fun h2 => ?_)
  · refine r_iload_n rfl rfl ?_
    refine r_if_ne rfl (fun h11 => ?_) (fun h11 => ?_)
    · have kk : ¬ k0 = 0 := fun z => h11 (by rw [z]; rfl)
      refine r_iload_n rfl rfl ?_
      refine r_iconst rfl ?_
      refine r_icmp_ne rfl (fun h21 => ?_) (fun h21 => ?_)
      · have kk1 : ¬ k0 = 1 := fun z => h21 (by rw [z]; rfl)
        refine r_iload_n rfl rfl ?_
        refine r_iconst rfl ?_
        refine r_icmp_ne rfl (fun h31 => ?_) (fun h31 => ?_)
        · have kk2 : ¬ k0 = 2 := fun z => h31 (by rw [z]; rfl)
          refine r_iload_n rfl rfl ?_
          refine r_iconst rfl ?_
          refine r_icmp_ne rfl (fun h41 => ?_) (fun h41 => ?_)
          · have kk3 : ¬ k0 = 3 := fun z => h41 (by rw [z]; rfl)
            have kk : opsM k0 = 9 := by
              unfold opsM
              omega
            refine r_ldcS rfl ?_
            refine r_astore_n (L2 := [_, _, _, _, _, _]) rfl rfl ?_
            refine r_aload_n rfl rfl ?_
            refine r_iload_n rfl rfl ?_
            refine r_iconst rfl ?_
            refine r_iadd rfl ?_
            rw [nI_1]
            refine r_callVE rfl gc rfl rfl rfl (by decide) rfl (am_cnt rfl) (fun V hV => ?_)
            refine r_istore_n (L2 := [_, _, _, _, _, _]) rfl rfl ?_
            refine r_iconst rfl ?_
            refine r_istore (L2 := [_, _, _, _, _, _]) rfl rfl ?_
            have e := loop 62 1 60 (g s).1 (g s).2 V none (by omega) (by omega) (Or.inl ⟨rfl, rfl, by omega⟩) a2 a4 (by omega) hV.1 hV.2 a1
            rw [kk] at e
            exact e
          · have kk : opsM k0 = 8 := by
              rw [show (3 : Int32) = nI 3 from rfl, nI_eq (by omega) (by omega)] at h41
              rw [h41]
              rfl
            refine r_ldcS rfl ?_
            refine r_goto rfl ?_
            refine r_astore_n (L2 := [_, _, _, _, _, _]) rfl rfl ?_
            refine r_aload_n rfl rfl ?_
            refine r_iload_n rfl rfl ?_
            refine r_iconst rfl ?_
            refine r_iadd rfl ?_
            rw [nI_1]
            refine r_callVE rfl gc rfl rfl rfl (by decide) rfl (am_cnt rfl) (fun V hV => ?_)
            refine r_istore_n (L2 := [_, _, _, _, _, _]) rfl rfl ?_
            refine r_iconst rfl ?_
            refine r_istore (L2 := [_, _, _, _, _, _]) rfl rfl ?_
            have e := loop 62 1 60 (g s).1 (g s).2 V none (by omega) (by omega) (Or.inl ⟨rfl, rfl, by omega⟩) a2 a4 (by omega) hV.1 hV.2 a1
            rw [kk] at e
            exact e
        · have kk : opsM k0 = 7 := by
            rw [show (2 : Int32) = nI 2 from rfl, nI_eq (by omega) (by omega)] at h31
            rw [h31]
            rfl
          refine r_ldcS rfl ?_
          refine r_goto rfl ?_
          refine r_astore_n (L2 := [_, _, _, _, _, _]) rfl rfl ?_
          refine r_aload_n rfl rfl ?_
          refine r_iload_n rfl rfl ?_
          refine r_iconst rfl ?_
          refine r_iadd rfl ?_
          rw [nI_1]
          refine r_callVE rfl gc rfl rfl rfl (by decide) rfl (am_cnt rfl) (fun V hV => ?_)
          refine r_istore_n (L2 := [_, _, _, _, _, _]) rfl rfl ?_
          refine r_iconst rfl ?_
          refine r_istore (L2 := [_, _, _, _, _, _]) rfl rfl ?_
          have e := loop 62 1 60 (g s).1 (g s).2 V none (by omega) (by omega) (Or.inl ⟨rfl, rfl, by omega⟩) a2 a4 (by omega) hV.1 hV.2 a1
          rw [kk] at e
          exact e
      · have kk : opsM k0 = 6 := by
          rw [show (1 : Int32) = nI 1 from rfl, nI_eq (by omega) (by omega)] at h21
          rw [h21]
          rfl
        refine r_ldcS rfl ?_
        refine r_goto rfl ?_
        refine r_astore_n (L2 := [_, _, _, _, _, _]) rfl rfl ?_
        refine r_aload_n rfl rfl ?_
        refine r_iload_n rfl rfl ?_
        refine r_iconst rfl ?_
        refine r_iadd rfl ?_
        rw [nI_1]
        refine r_callVE rfl gc rfl rfl rfl (by decide) rfl (am_cnt rfl) (fun V hV => ?_)
        refine r_istore_n (L2 := [_, _, _, _, _, _]) rfl rfl ?_
        refine r_iconst rfl ?_
        refine r_istore (L2 := [_, _, _, _, _, _]) rfl rfl ?_
        have e := loop 62 1 60 (g s).1 (g s).2 V none (by omega) (by omega) (Or.inl ⟨rfl, rfl, by omega⟩) a2 a4 (by omega) hV.1 hV.2 a1
        rw [kk] at e
        exact e
    · have kk : opsM k0 = 5 := by
        rw [show (0 : Int32) = nI 0 from rfl, nI_eq (by omega) (by omega)] at h11
        rw [h11]
        rfl
      refine r_ldcS rfl ?_
      refine r_goto rfl ?_
      refine r_astore_n (L2 := [_, _, _, _, _, _]) rfl rfl ?_
      refine r_aload_n rfl rfl ?_
      refine r_iload_n rfl rfl ?_
      refine r_iconst rfl ?_
      refine r_iadd rfl ?_
      rw [nI_1]
      refine r_callVE rfl gc rfl rfl rfl (by decide) rfl (am_cnt rfl) (fun V hV => ?_)
      refine r_istore_n (L2 := [_, _, _, _, _, _]) rfl rfl ?_
      refine r_iconst rfl ?_
      refine r_istore (L2 := [_, _, _, _, _, _]) rfl rfl ?_
      have e := loop 62 1 60 (g s).1 (g s).2 V none (by omega) (by omega) (Or.inl ⟨rfl, rfl, by omega⟩) a2 a4 (by omega) hV.1 hV.2 a1
      rw [kk] at e
      exact e
  · exact absurd h2 k5
