/-! A number; what is ranked. -/
theorem ct_X11_thing_dig {d : Nat} {S : am_S} {tp : Nat → Nat} {to sg : Nat} {s : RdS} {g : RdS → Bool × RdS} (hT : TpM S tp to) (hs : RdC S s) (h1 : s.1 ≤ to) (hl : s.2.2.length ≤ s.1) (hd : isD tp to s.1) : am_CE (d + 5) iX11_thing [.ref 97] S (some (.int (b01 ((thG g tp to sg s).1 = true)))) (fun T => FrC S T ∧ RdC T (thG g tp to sg s).2) := by
  refine am_CE_in mmX11_thing rfl rfl rfl ?_
  have h40 := hT.2.1
  have e0 : thG g tp to sg s = (true, (nmG tp to 3 s.1 0).1, s.2.1, nI (nmG tp to 3 s.1 0).2 :: s.2.2) := by rw [thG, if_pos hd]
  have dg0 : ¬ b01 (isD tp to s.1) = 0 := by rw [b01_t hd]; decide
  have loop : ∀ (k : Nat) (i : Nat) (p : Nat) (v : Nat) (T : am_S), (i ≤ 3) → (3 < i + k) → (nmG tp to (3 - i) p v = nmG tp to 3 s.1 0) → (p ≤ to) → (FrC S T) → (RdC T (p, s.2)) → am_Ex (am_Call am_MT (d + 4)) mmX11_thing none (fun r1 G1 => r1 = (some (.int (b01 ((thG g tp to sg s).1 = true)))) ∧ ∃ S2, G1 = am_H S2 ∧ (fun T => FrC S T ∧ RdC T (thG g tp to sg s).2) S2) (fun _ _ _ _ _ _ => False) 11 [some (.ref 97), some (.int (nI v)), some (.int (nI i))] [] (am_H (T)) 0 0 := by
    intro k
    induction k with
    | zero =>
      intro i p v T q1 q2 q3 q4 f1 f2
      omega
    | succ k ih =>
      intro i p v T q1 q2 q3 q4 f1 f2
      have fin : (p, v) = nmG tp to 3 s.1 0 → am_Ex (am_Call am_MT (d + 4)) mmX11_thing none (fun r1 G1 => r1 = (some (.int (b01 ((thG g tp to sg s).1 = true)))) ∧ ∃ S2, G1 = am_H S2 ∧ (fun T => FrC S T ∧ RdC T (thG g tp to sg s).2) S2) (fun _ _ _ _ _ _ => False) 57 [some (.ref 97), some (.int (nI v)), some (.int (nI i))] [] (am_H T) 0 0 := fun hz => by
        rw [e0, ← hz]
        refine r_aload_n rfl rfl ?_
        refine r_iload_n rfl rfl ?_
        refine r_callV rfl (ct_X11_marks f2.2.2.1 (by show s.2.2.length < 48; omega)) rfl rfl rfl (by decide) rfl (am_cnt rfl) ?_
        refine r_iconst rfl ?_
        refine r_zret rfl rfl (by exact Or.inr rfl) ?_
        exact ⟨rfl, _, rfl, frC_mark f1, rdC_mark f2⟩
      by_cases hi : i = 3
      · have w1 : (3 : Int32) ≤ nI i := nI_le (a := 3) (by omega) (by omega)
        have hz : (p, v) = nmG tp to 3 s.1 0 := by rw [← q3, hi]; rfl
        refine r_iload_n rfl rfl ?_
        refine r_iconst rfl ?_
        refine r_icmp_ge rfl (fun h13 => ?_) (fun h13 => ?_)
        · exact fin hz
        · exact absurd w1 h13
      · have w1 : ¬ (3 : Int32) ≤ nI i := Int32.not_le.mpr (nI_lt (b := 3) (by omega) (by omega))
        have e3 : 3 - i = (3 - (i + 1)) + 1 := by omega
        rw [e3, nmG] at q3
        by_cases hp : isD tp to p
        · rw [if_pos hp] at q3
          have dp : ¬ b01 (isD tp to p) = 0 := by rw [b01_t hp]; decide
          have bp : (nI p).toNatClampNeg = p := nI_clamp (by omega)
          have s1 : 0 ≤ nI p := nI_pos' (by omega)
          have s2 : nI p < Int32.ofNat 60 := nI_lt (by omega) (by omega)
          have tv := ((tpM_fr f1 hT).2.2 p hp.1).1
          have t18 : gI T 97 18 = nI p := f2.1
          have ev : (10 : Int32) * nI v + nI (tp p) - 48 = nI (10 * v + tp p - 48) := by
            rw [show (10 : Int32) * nI v = nI (10 * v) from pk_mul 10 v, nI_add]
            exact pk_sub (b := 48) (by have := hp.2.1; omega)
          refine r_iload_n rfl rfl ?_
          refine r_iconst rfl ?_
          refine r_icmp_ge rfl (fun h13 => ?_) (fun h13 => ?_)
          · exact absurd h13 w1
          · refine r_aload_n rfl rfl ?_
            refine r_callV rfl (dig_ct (s := (p, s.2)) (tpM_fr f1 hT) f2 q4) rfl rfl rfl (by decide) rfl (am_cnt rfl) ?_
            refine r_if_eq rfl (fun h20 => ?_) (fun h20 => ?_)
            · exact absurd h20 dp
            · refine r_bipush rfl ?_
              refine r_iload_n rfl rfl ?_
              refine r_imul rfl ?_
              refine r_aload_n rfl rfl ?_
              refine r_getC rfl rfl (by decide) (by decide) rfl ?_
              refine r_aload_n rfl rfl ?_
              refine r_getI rfl rfl (by decide) (by decide) rfl ?_
              rw [t18]
              refine r_iald rfl rfl (by first | decide | assumption) (by first | exact s1 | exact s2) (by first | exact s1 | exact s2) ?_
              rw [bp, tv]
              refine r_iadd rfl ?_
              refine r_bipush rfl ?_
              refine r_isub rfl ?_
              rw [ev]
              refine r_istore_n (L2 := [_, _, _]) rfl rfl ?_
              refine r_aload_n rfl rfl ?_
              refine r_dup rfl rfl ?_
              refine r_getI rfl rfl (by decide) (by decide) rfl ?_
              refine r_iconst rfl ?_
              refine r_iadd rfl ?_
              refine r_putI rfl rfl (by decide) (by decide) rfl ?_
              refine r_iinc (L2 := [_, _, _]) rfl rfl rfl ?_
              refine r_goto rfl ?_
              rw [nI_1]
              exact ih (i + 1) (p + 1) _ _ (by omega) (by omega) q3 hp.1 (frC_97 f1 (Or.inl rfl)) (rdC_at (s := (p, s.2)) f2 (by rw [t18, nI_1]))
        · rw [if_neg hp] at q3
          have dp : b01 (isD tp to p) = 0 := b01_f hp
          refine r_iload_n rfl rfl ?_
          refine r_iconst rfl ?_
          refine r_icmp_ge rfl (fun h13 => ?_) (fun h13 => ?_)
          · exact absurd h13 w1
          · refine r_aload_n rfl rfl ?_
            refine r_callV rfl (dig_ct (s := (p, s.2)) (tpM_fr f1 hT) f2 q4) rfl rfl rfl (by decide) rfl (am_cnt rfl) ?_
            refine r_if_eq rfl (fun h20 => ?_) (fun h20 => ?_)
            · exact fin q3
            · exact absurd dp h20
  refine r_aload_n rfl rfl ?_
  refine r_callV rfl (dig_ct hT hs h1) rfl rfl rfl (by decide) rfl (am_cnt rfl) ?_
  refine r_if_eq rfl (fun h4 => ?_) (fun h4 => ?_)
  · exact absurd h4 dg0
  · refine r_iconst rfl ?_
    refine r_istore_n (L2 := [_, _, _]) rfl rfl ?_
    refine r_iconst rfl ?_
    refine r_istore_n (L2 := [_, _, _]) rfl rfl ?_
    exact loop 4 0 s.1 0 S (by omega) (by omega) rfl h1 frC_0 hs
