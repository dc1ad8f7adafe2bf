/-! The descent as a whole. -/
theorem ct_X11_ranked_hi {d : Nat} {S : am_S} {x : Bool} {P : am_S → Prop} (ha : am_CE (d + 4) iX11_ahead [.ref 97] S (some (.int (b01 (x = true)))) P) : am_CE (d + 5) iX11_ranked [.ref 97, .int (nI 5)] S (some (.int (b01 (x = true)))) (P) := by
  refine am_CE_in mmX11_ranked rfl rfl rfl ?_
  refine r_iload_n rfl rfl ?_
  refine r_iconst rfl ?_
  refine r_icmp_ne rfl (fun h2 => ?_) (fun h2 => ?_)
  · exact absurd rfl h2
  · refine r_aload_n rfl rfl ?_
    refine r_callVE rfl ha rfl rfl rfl (by decide) rfl (am_cnt rfl) (fun V hV => ?_)
    refine r_zret rfl rfl (by exact b01_or) ?_
    exact ⟨rfl, _, rfl, hV⟩
theorem rd_ct {tp : Nat → Nat} {to sg : Nat} (hs12 : sg < 12) : ∀ f, (∀ (d : Nat) (S : am_S) (s : RdS), TpM S tp to → RdC S s → s.1 ≤ to → s.2.1 ≤ 5 → s.2.2.length ≤ s.1 → gR S 6 = 1000000 + sg → 8 * (to - s.1) + 1 ≤ f → am_CE (d + 2 * f + 4) iX11_thing [.ref 97] S (some (.int (b01 ((rdF tp to sg f 6 s).1 = true)))) (fun T => FrC S T ∧ RdC T (rdF tp to sg f 6 s).2)) ∧ (∀ (d : Nat) (S : am_S) (s : RdS), TpM S tp to → RdC S s → s.1 ≤ to → s.2.1 ≤ 5 → s.2.2.length ≤ s.1 → gR S 6 = 1000000 + sg → 8 * (to - s.1) + 2 ≤ f → am_CE (d + 2 * f + 4) iX11_ahead [.ref 97] S (some (.int (b01 ((rdF tp to sg f 5 s).1 = true)))) (fun T => FrC S T ∧ RdC T (rdF tp to sg f 5 s).2)) ∧ (∀ (d : Nat) (S : am_S) (s : RdS) (k : Nat), k ≤ 5 → TpM S tp to → RdC S s → s.1 ≤ to → s.2.1 ≤ 5 → s.2.2.length ≤ s.1 → gR S 6 = 1000000 + sg → 8 * (to - s.1) + (7 - k) ≤ f → am_CE (d + 2 * f + 4) iX11_ranked [.ref 97, .int (nI k)] S (some (.int (b01 ((rdF tp to sg f k s).1 = true)))) (fun T => FrC S T ∧ RdC T (rdF tp to sg f k s).2))
  | 0 => ⟨fun d S s _ _ _ _ _ _ h => by omega, fun d S s _ _ _ _ _ _ h => by omega, fun d S s k _ _ _ _ _ _ _ h => by omega⟩
  | f + 1 => by
    obtain ⟨i1, i2, i3⟩ := rd_ct hs12 f
    have dp : ∀ d, d + 2 * (f + 1) + 4 = d + 2 * f + 1 + 5 := fun d => by omega
    have dp2 : ∀ d, d + 1 + 2 * f + 4 = d + 2 * f + 1 + 4 := fun d => by omega
    have A : ∀ (d : Nat) (S : am_S) (s : RdS), TpM S tp to → RdC S s → s.1 ≤ to → s.2.1 ≤ 5 → s.2.2.length ≤ s.1 → gR S 6 = 1000000 + sg → 8 * (to - s.1) + 2 ≤ f + 1 → am_CE (d + 2 * f + 5) iX11_ahead [.ref 97] S (some (.int (b01 ((rdF tp to sg (f + 1) 5 s).1 = true)))) (fun T => FrC S T ∧ RdC T (rdF tp to sg (f + 1) 5 s).2) := fun d S s hT hs h1 h5 hl hr hf => by
      have e : rdF tp to sg (f + 1) 5 s = ahG (rdF tp to sg f 5) (rdF tp to sg f 6) tp to s := by rw [rdF, if_neg (by decide), if_pos rfl]
      rw [e]
      exact ct_X11_ahead (d := d + 2 * f) hT hs h1 h5 hl hr (rdF_ok f 5) (fun U r a b c e g x y => by
        by_cases hrt : s.1 < to
        · exact i2 d U r b c e g x y (by omega)
        · omega) (fun U r a b c e g x y => i1 d U r b c e g x y (by omega))
    refine ⟨fun d S s hT hs h1 h5 hl hr hf => ?_, fun d S s hT hs h1 h5 hl hr hf => ?_, fun d S s k hk hT hs h1 h5 hl hr hf => ?_⟩
    · have e : rdF tp to sg (f + 1) 6 s = thG (rdF tp to sg f 0) tp to sg s := by rw [rdF, if_pos rfl]
      rw [e, dp]
      by_cases hd : isD tp to s.1
      · exact ct_X11_thing_dig hT hs h1 hl hd
      · exact ct_X11_thing_no hT hs h1 h5 hl hr hs12 hd (rdF_ok f 0) (fun U r a b c e g x y => by
          rw [← dp2]
          exact i3 (d + 1) U r 0 (by omega) b c e g x y (by omega))
    · have a := A (d + 1) S s hT hs h1 h5 hl hr hf
      rw [show d + 1 + 2 * f + 5 = d + 2 * (f + 1) + 4 by omega] at a
      exact a
    · rw [dp]
      by_cases k5 : k = 5
      · subst k5
        exact ct_X11_ranked_hi (A d S s hT hs h1 h5 hl hr hf)
      · have e : rdF tp to sg (f + 1) k s = rkL (rdF tp to sg f (k + 1)) tp to k 60 (rdF tp to sg f (k + 1) s).1 (rdF tp to sg f (k + 1) s).2 := by rw [rdF, if_neg (by omega), if_neg k5]
        rw [e]
        exact ct_X11_ranked_lo (by omega) hT hs h1 h5 hl hr (rdF_ok f (k + 1)) (fun U r a b c e g x y => by
          rw [← dp2]
          exact i3 (d + 1) U r (k + 1) (by omega) b c e g x y (by omega))
