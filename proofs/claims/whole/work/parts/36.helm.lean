/-! One alone who steers: cell 79, winds 80, costs 81, now 82, next 83. -/
theorem gJ_uJ_eq {S : am_S} {o k : Nat} {v : Int64} : gJ (uJ S o k v) o = vp_updL (gJ S o) k v := funext fun b => by rw [gJ_uJ, if_pos rfl]; rfl
theorem rJ_id (S : am_S) (o : Nat) : rJ S o (gJ S o) = S := by
  unfold rJ
  conv => rhs; rw [← Prod.eta S, ← Prod.eta S.2]
  congr 2
  funext a b
  simp only [am_upr, gJ]
  by_cases h : a = o
  · subst h; simp
  · simp [h]
theorem rJ_rJ (S : am_S) (o : Nat) (g h : Nat → Int64) : rJ (rJ S o g) o h = rJ S o h := by
  unfold rJ
  congr 2
  funext a b
  simp only [am_upr]
  by_cases h : a = o <;> simp [h]
theorem uJ_rJ (S : am_S) (o k : Nat) (v : Int64) : uJ S o k v = rJ S o (vp_updL (gJ S o) k v) := by
  unfold uJ rJ
  congr 2
  funext a b
  simp only [am_up2, am_upr, vp_updL, gJ]
  by_cases h : a = o
  · subst h
    simp
  · simp [h]
theorem uJ_rJs (S : am_S) (o k : Nat) (v : Int64) (g : Nat → Int64) : uJ (rJ S o g) o k v = rJ S o (vp_updL g k v) := by rw [uJ_rJ, rJ_rJ, gJ_rJ_eq]
theorem gR_rJ (S : am_S) (o : Nat) (g : Nat → Int64) (c : Nat) : gR (rJ S o g) c = gR S c := rfl
/-- how far two are apart -/
def dst (a b : Nat) : Nat := (a - b) + (b - a)
theorem absD {A B : Nat} (hA : A < 1073741824) (hB : B < 1073741824) : absI (nI A - nI B) = nI (dst A B) := by
  unfold absI dst
  by_cases h : B ≤ A
  · rw [if_pos (by rw [pk_sub h]; exact nI_pos' (by omega)), pk_sub h, Nat.sub_eq_zero_of_le h, Nat.add_zero]
  · have h2 : A < B := by omega
    rw [if_neg (Int32.not_le.mpr (pk_sneg hB h2)), Nat.sub_eq_zero_of_le (by omega), Nat.zero_add, ← pk_sub (a := B) (b := A) (by omega)]
    grind
def sumN (f : Nat → Nat) : Nat → Nat
  | 0 => 0
  | n + 1 => sumN f n + f n
/-- cases in which the winds of m minutes bring it i - m -/
def wnd (dn sl up : Nat) : Nat → Nat → Nat
  | 0, i => if i = 0 then 1 else 0
  | m + 1, i => wnd dn sl up m i * dn + (if 1 ≤ i then wnd dn sl up m (i - 1) * sl else 0) + (if 2 ≤ i then wnd dn sl up m (i - 2) * up else 0)
theorem wnd_le {dn sl up : Nat} (h : dn + sl + up = 10) : ∀ m i, wnd dn sl up m i ≤ 10 ^ m
  | 0, i => by unfold wnd; split <;> simp
  | m + 1, i => by
    have a := Nat.mul_le_mul_right dn (wnd_le h m i)
    have b := Nat.mul_le_mul_right sl (wnd_le h m (i - 1))
    have c := Nat.mul_le_mul_right up (wnd_le h m (i - 2))
    have e : 10 ^ (m + 1) = 10 ^ m * dn + 10 ^ m * sl + 10 ^ m * up := by rw [← Nat.mul_add, ← Nat.mul_add, h, Nat.pow_succ]
    unfold wnd
    rw [e]
    have b2 : (if 1 ≤ i then wnd dn sl up m (i - 1) * sl else 0) ≤ 10 ^ m * sl := by split <;> omega
    have c2 : (if 2 ≤ i then wnd dn sl up m (i - 2) * up else 0) ≤ 10 ^ m * up := by split <;> omega
    omega
def WndOk (dn sl up : Nat) (S : am_S) : Prop := gI S 1 5 = nI dn ∧ gI S 1 6 = nI up ∧ dn + sl + up = 10
def wH (S : am_S) (dn sl up m t : Nat) : Nat → Int64 := fun j => if j < 11 then (if t ≤ j then lN (wnd dn sl up (m + 1) j) else lN (wnd dn sl up m j)) else gJ S 80 j
def wG (S : am_S) (dn sl up m : Nat) : Nat → Int64 := fun j => if j < 11 then lN (wnd dn sl up m j) else gJ S 80 j
theorem wH_11 {S : am_S} {dn sl up m : Nat} : wH S dn sl up m 11 = wG S dn sl up m := by
  funext j
  unfold wH wG
  by_cases h : j < 11
  · rw [if_pos h, if_pos h, if_neg (by omega)]
  · rw [if_neg h, if_neg h]
theorem wH_0 {S : am_S} {dn sl up m : Nat} : wH S dn sl up m 0 = wG S dn sl up (m + 1) := by
  funext j
  unfold wH wG
  by_cases h : j < 11
  · rw [if_pos h, if_pos h, if_pos (by omega)]
  · rw [if_neg h, if_neg h]
theorem wH_up {S : am_S} {dn sl up m i : Nat} {x : Int64} (hi : i < 11) (hx : x = lN (wnd dn sl up (m + 1) i)) : vp_updL (wH S dn sl up m (i + 1)) i x = wH S dn sl up m i := by
  funext j
  by_cases h : j = i
  · rw [h, pk_uLs, hx, wH, if_pos hi, if_pos (Nat.le_refl _)]
  · rw [pk_uLn h]
    unfold wH
    by_cases h1 : j < 11
    · rw [if_pos h1, if_pos h1]
      by_cases h2 : i + 1 ≤ j
      · rw [if_pos h2, if_pos (by omega)]
      · rw [if_neg h2, if_neg (by omega)]
    · rw [if_neg h1, if_neg h1]
theorem ct_X2_spread {d : Nat} {S : am_S} {dn sl up u : Nat} (hY : WndOk dn sl up S) (hu : u ≤ 5) : am_CT (d + 1) iX2_spread [.ref 79, .ref 1, .int (nI u)] S (none) (rJ S 80 (wG S dn sl up u)) := by
  refine am_CT_in mmX2_spread rfl rfl rfl ?_
  obtain ⟨hd, hup, hs⟩ := hY
  have hsl : 10 - nI dn - nI up = nI sl := by
    rw [show (10 : Int32) = nI 10 from rfl, pk_sub (by omega), pk_sub (by omega)]
    congr 1
    omega
  have loop3 : ∀ (k3 : Nat) (m : Nat) (v5 : Option Value) (v6 : Option Value) (v7 : Option Value), (m ≤ u) → (u < m + k3) → am_Ex (am_Call am_MT (d + 0)) mmX2_spread none (fun r1 G1 => r1 = (none) ∧ G1 = am_H (rJ S 80 (wG S dn sl up u))) (fun _ _ _ _ _ _ => False) 47 [some (.ref 79), some (.ref 1), some (.int (nI u)), some (.int (nI sl)), some (.int (nI m)), v5, v6, v7] [] (am_H (rJ S 80 (wG S dn sl up m))) 0 0 := by
    intro k3
    induction k3 with
    | zero =>
      intro m v5 v6 v7 h1 h2
      omega
    | succ k3 ih3 =>
      intro m v5 v6 v7 h1 h2
      have loop4 : ∀ (k4 : Nat) (t : Nat) (v6 : Option Value) (v7 : Option Value), (m < u) → (t ≤ 11) → (11 < k4 + (11 - t)) → am_Ex (am_Call am_MT (d + 0)) mmX2_spread none (fun r1 G1 => r1 = (none) ∧ G1 = am_H (rJ S 80 (wG S dn sl up u))) (fun _ _ _ _ _ _ => False) 62 [some (.ref 79), some (.ref 1), some (.int (nI u)), some (.int (nI sl)), some (.int (nI m)), some (.int (nI t + (-1))), v6, v7] [] (am_H (rJ S 80 (wH S dn sl up m t))) 0 0 := by
        intro k4
        induction k4 with
        | zero =>
          intro t v6 v7 q0 q1 q2
          omega
        | succ k4 ih4 =>
          intro t v6 v7 q0 q1 q2
          by_cases ht : t = 0
          · subst ht
            refine r_iload rfl rfl ?_
            refine r_if_lt rfl (fun h64 => ?_) (fun h64 => ?_)
            · refine r_iinc (L2 := [_, _, _, _, _, _, _, _]) rfl rfl rfl ?_
              refine r_goto rfl ?_
              rw [wH_0, nI_1]
              exact ih3 (m + 1) _ _ _ (by omega) (by omega)
            · exact absurd h64 (by decide)
          · obtain ⟨i, rfl⟩ : ∃ i, t = i + 1 := ⟨t - 1, by omega⟩
            rw [pk_m1]
            have g1 : ∀ j, j ≤ i → gJ (rJ S 80 (wH S dn sl up m (i + 1))) 80 j = lN (wnd dn sl up m j) := fun j hj => by
              rw [gJ_rJ_eq, wH, if_pos (by omega), if_neg (by omega)]
            have b1 : (nI i).toNatClampNeg = i := nI_clamp (by omega)
            have s1 : 0 ≤ nI i := nI_pos' (by omega)
            have s2 : nI i < Int32.ofNat 11 := nI_lt (by omega) (by omega)
            have fin : ∀ x, x = lN (wnd dn sl up (m + 1) i) → uJ (rJ S 80 (wH S dn sl up m (i + 1))) 80 i x = rJ S 80 (wH S dn sl up m i) := fun x hx => by rw [uJ_rJs, wH_up (by omega) hx]
            have en : ∀ T v6 v7, T = rJ S 80 (wH S dn sl up m i) → am_Ex (am_Call am_MT (d + 0)) mmX2_spread none (fun r1 G1 => r1 = none ∧ G1 = am_H (rJ S 80 (wG S dn sl up u))) (fun _ _ _ _ _ _ => False) 62 [some (.ref 79), some (.ref 1), some (.int (nI u)), some (.int (nI sl)), some (.int (nI m)), some (.int (nI i + (-1))), v6, v7] [] (am_H T) 0 0 := fun T v6 v7 hT => by
              rw [hT]
              exact ih4 i _ _ q0 (by omega) (by omega)
            by_cases hi0 : i = 0
            · subst hi0
              refine r_iload rfl rfl ?_
              refine r_if_lt rfl (fun h64 => ?_) (fun h64 => ?_)
              · first | exact absurd h64 (by decide) | exact absurd (by decide) h64
              · refine r_aload_n rfl rfl ?_
                refine r_getC rfl rfl (by decide) (by decide) rfl ?_
                refine r_iload rfl rfl ?_
                refine r_lald rfl rfl (by first | decide | assumption) (by first | exact s1 | exact s2) (by first | exact s1 | exact s2) ?_
                refine r_aload_n rfl rfl ?_
                refine r_getI rfl rfl (by decide) (by decide) rfl ?_
                refine r_i2l rfl ?_
                refine r_lmul rfl ?_
                refine r_lstore (L2 := [_, _, _, _, _, _, _, _]) rfl rfl ?_
                refine r_lload rfl rfl ?_
                refine r_iload rfl rfl ?_
                refine r_iconst rfl ?_
                refine r_icmp_lt rfl (fun h87 => ?_) (fun h87 => ?_)
                · refine r_lconst rfl ?_
                  refine r_ladd rfl ?_
                  refine r_lstore (L2 := [_, _, _, _, _, _, _, _]) rfl rfl ?_
                  refine r_lload rfl rfl ?_
                  refine r_iload rfl rfl ?_
                  refine r_iconst rfl ?_
                  refine r_icmp_lt rfl (fun h114 => ?_) (fun h114 => ?_)
                  · refine r_lconst rfl ?_
                    refine r_ladd rfl ?_
                    refine r_lstore (L2 := [_, _, _, _, _, _, _, _]) rfl rfl ?_
                    refine r_aload_n rfl rfl ?_
                    refine r_getC rfl rfl (by decide) (by decide) rfl ?_
                    refine r_iload rfl rfl ?_
                    refine r_lload rfl rfl ?_
                    refine r_last rfl rfl (by first | decide | assumption) (by first | exact s1 | exact s2) (by first | exact s1 | exact s2) ?_
                    refine r_iinc (L2 := [_, _, _, _, _, _, _, _]) rfl rfl rfl ?_
                    refine r_goto rfl ?_
                    rw [b1]
                    refine en _ _ _ (fin _ ?_)
                    rw [g1 0 (by omega), gI_rJ_f, hd, nI_l (by omega), lN_mul, Int64.add_zero, Int64.add_zero]
                    rfl
                  · first | exact absurd h114 (by decide) | exact absurd (by decide) h114
                · first | exact absurd h87 (by decide) | exact absurd (by decide) h87
            · have i1 : nI i - 1 = nI (i - 1) := pk_sub (b := 1) (by omega)
              have c1 : (nI i - 1).toNatClampNeg = i - 1 := by rw [i1, nI_clamp (by omega)]
              have s3 : 0 ≤ nI i - 1 := by rw [i1]; exact nI_pos' (by omega)
              have s4 : nI i - 1 < Int32.ofNat 11 := by rw [i1]; exact nI_lt (by omega) (by omega)
              have w0 : ¬ nI i < 0 := nI_pos (by omega)
              have w1 : ¬ nI i < 1 := nI_nlt (b := 1) (by omega) (by omega)
              by_cases hi1 : i = 1
              · subst hi1
                refine r_iload rfl rfl ?_
                refine r_if_lt rfl (fun h64 => ?_) (fun h64 => ?_)
                · exact absurd h64 w0
                · refine r_aload_n rfl rfl ?_
                  refine r_getC rfl rfl (by decide) (by decide) rfl ?_
                  refine r_iload rfl rfl ?_
                  refine r_lald rfl rfl (by first | decide | assumption) (by first | exact s1 | exact s2 | exact s3 | exact s4) (by first | exact s1 | exact s2 | exact s3 | exact s4) ?_
                  refine r_aload_n rfl rfl ?_
                  refine r_getI rfl rfl (by decide) (by decide) rfl ?_
                  refine r_i2l rfl ?_
                  refine r_lmul rfl ?_
                  refine r_lstore (L2 := [_, _, _, _, _, _, _, _]) rfl rfl ?_
                  refine r_lload rfl rfl ?_
                  refine r_iload rfl rfl ?_
                  refine r_iconst rfl ?_
                  refine r_icmp_lt rfl (fun h87 => ?_) (fun h87 => ?_)
                  · exact absurd h87 w1
                  · refine r_aload_n rfl rfl ?_
                    refine r_getC rfl rfl (by decide) (by decide) rfl ?_
                    refine r_iload rfl rfl ?_
                    refine r_iconst rfl ?_
                    refine r_isub rfl ?_
                    refine r_lald rfl rfl (by first | decide | assumption) (by first | exact s1 | exact s2 | exact s3 | exact s4) (by first | exact s1 | exact s2 | exact s3 | exact s4) ?_
                    refine r_iload_n rfl rfl ?_
                    refine r_i2l rfl ?_
                    refine r_lmul rfl ?_
                    refine r_goto rfl ?_
                    refine r_ladd rfl ?_
                    refine r_lstore (L2 := [_, _, _, _, _, _, _, _]) rfl rfl ?_
                    refine r_lload rfl rfl ?_
                    refine r_iload rfl rfl ?_
                    refine r_iconst rfl ?_
                    refine r_icmp_lt rfl (fun h114 => ?_) (fun h114 => ?_)
                    · refine r_lconst rfl ?_
                      refine r_ladd rfl ?_
                      refine r_lstore (L2 := [_, _, _, _, _, _, _, _]) rfl rfl ?_
                      refine r_aload_n rfl rfl ?_
                      refine r_getC rfl rfl (by decide) (by decide) rfl ?_
                      refine r_iload rfl rfl ?_
                      refine r_lload rfl rfl ?_
                      refine r_last rfl rfl (by first | decide | assumption) (by first | exact s1 | exact s2 | exact s3 | exact s4) (by first | exact s1 | exact s2 | exact s3 | exact s4) ?_
                      refine r_iinc (L2 := [_, _, _, _, _, _, _, _]) rfl rfl rfl ?_
                      refine r_goto rfl ?_
                      rw [b1, c1]
                      refine en _ _ _ (fin _ ?_)
                      rw [g1 1 (by omega), g1 (1 - 1) (by omega), gI_rJ_f, hd, nI_l (by omega), nI_l (by omega), lN_mul, lN_mul, lN_add, Int64.add_zero]
                      rfl
                    · first | exact absurd h114 (by decide) | exact absurd (by decide) h114
              · have i2 : nI i - 2 = nI (i - 2) := pk_sub (b := 2) (by omega)
                have c2 : (nI i - 2).toNatClampNeg = i - 2 := by rw [i2, nI_clamp (by omega)]
                have s5 : 0 ≤ nI i - 2 := by rw [i2]; exact nI_pos' (by omega)
                have s6 : nI i - 2 < Int32.ofNat 11 := by rw [i2]; exact nI_lt (by omega) (by omega)
                have w2 : ¬ nI i < 2 := nI_nlt (b := 2) (by omega) (by omega)
                refine r_iload rfl rfl ?_
                refine r_if_lt rfl (fun h64 => ?_) (fun h64 => ?_)
                · exact absurd h64 w0
                · refine r_aload_n rfl rfl ?_
                  refine r_getC rfl rfl (by decide) (by decide) rfl ?_
                  refine r_iload rfl rfl ?_
                  refine r_lald rfl rfl (by first | decide | assumption) (by first | exact s1 | exact s2 | exact s3 | exact s4 | exact s5 | exact s6) (by first | exact s1 | exact s2 | exact s3 | exact s4 | exact s5 | exact s6) ?_
                  refine r_aload_n rfl rfl ?_
                  refine r_getI rfl rfl (by decide) (by decide) rfl ?_
                  refine r_i2l rfl ?_
                  refine r_lmul rfl ?_
                  refine r_lstore (L2 := [_, _, _, _, _, _, _, _]) rfl rfl ?_
                  refine r_lload rfl rfl ?_
                  refine r_iload rfl rfl ?_
                  refine r_iconst rfl ?_
                  refine r_icmp_lt rfl (fun h87 => ?_) (fun h87 => ?_)
                  · exact absurd h87 w1
                  · refine r_aload_n rfl rfl ?_
                    refine r_getC rfl rfl (by decide) (by decide) rfl ?_
                    refine r_iload rfl rfl ?_
                    refine r_iconst rfl ?_
                    refine r_isub rfl ?_
                    refine r_lald rfl rfl (by first | decide | assumption) (by first | exact s1 | exact s2 | exact s3 | exact s4 | exact s5 | exact s6) (by first | exact s1 | exact s2 | exact s3 | exact s4 | exact s5 | exact s6) ?_
                    refine r_iload_n rfl rfl ?_
                    refine r_i2l rfl ?_
                    refine r_lmul rfl ?_
                    refine r_goto rfl ?_
                    refine r_ladd rfl ?_
                    refine r_lstore (L2 := [_, _, _, _, _, _, _, _]) rfl rfl ?_
                    refine r_lload rfl rfl ?_
                    refine r_iload rfl rfl ?_
                    refine r_iconst rfl ?_
                    refine r_icmp_lt rfl (fun h114 => ?_) (fun h114 => ?_)
                    · exact absurd h114 w2
                    · refine r_aload_n rfl rfl ?_
                      refine r_getC rfl rfl (by decide) (by decide) rfl ?_
                      refine r_iload rfl rfl ?_
                      refine r_iconst rfl ?_
                      refine r_isub rfl ?_
                      refine r_lald rfl rfl (by first | decide | assumption) (by first | exact s1 | exact s2 | exact s3 | exact s4 | exact s5 | exact s6) (by first | exact s1 | exact s2 | exact s3 | exact s4 | exact s5 | exact s6) ?_
                      refine r_aload_n rfl rfl ?_
                      refine r_getI rfl rfl (by decide) (by decide) rfl ?_
                      refine r_i2l rfl ?_
                      refine r_lmul rfl ?_
                      refine r_goto rfl ?_
                      refine r_ladd rfl ?_
                      refine r_lstore (L2 := [_, _, _, _, _, _, _, _]) rfl rfl ?_
                      refine r_aload_n rfl rfl ?_
                      refine r_getC rfl rfl (by decide) (by decide) rfl ?_
                      refine r_iload rfl rfl ?_
                      refine r_lload rfl rfl ?_
                      refine r_last rfl rfl (by first | decide | assumption) (by first | exact s1 | exact s2 | exact s3 | exact s4 | exact s5 | exact s6) (by first | exact s1 | exact s2 | exact s3 | exact s4 | exact s5 | exact s6) ?_
                      refine r_iinc (L2 := [_, _, _, _, _, _, _, _]) rfl rfl rfl ?_
                      refine r_goto rfl ?_
                      rw [b1, c1, c2]
                      refine en _ _ _ (fin _ ?_)
                      rw [g1 i (by omega), g1 (i - 1) (by omega), g1 (i - 2) (by omega), gI_rJ_f, hd, hup, nI_l (by omega), nI_l (by omega), nI_l (by omega), lN_mul, lN_mul, lN_mul, lN_add, lN_add, wnd, if_pos (by omega), if_pos (by omega)]
      refine r_iload rfl rfl ?_
      refine r_iload_n rfl rfl ?_
      refine r_icmp_ge rfl (fun h50 => ?_) (fun h50 => ?_)
      · rw [nI_leI (by omega) (by omega)] at h50
        obtain rfl : m = u := by omega
        refine r_vret rfl ?_
        exact ⟨rfl, rfl⟩
      · rw [nI_leI (by omega) (by omega)] at h50
        refine r_aload_n rfl rfl ?_
        refine r_getC rfl rfl (by decide) (by decide) rfl ?_
        refine r_alen rfl rfl (by decide) ?_
        refine r_iconst rfl ?_
        refine r_isub rfl ?_
        refine r_istore (L2 := [_, _, _, _, _, _, _, _]) rfl rfl ?_
        have e := loop4 12 11 v6 v7 (by omega) (by omega) (by omega)
        rw [wH_11] at e
        exact e
  have loop : ∀ (k : Nat) (j : Nat), (j ≤ 11) → (11 < j + k) → am_Ex (am_Call am_MT (d + 0)) mmX2_spread none (fun r1 G1 => r1 = (none) ∧ G1 = am_H (rJ S 80 (wG S dn sl up u))) (fun _ _ _ _ _ _ => False) 2 [some (.ref 79), some (.ref 1), some (.int (nI u)), some (.int (nI j)), none, none, none, none] [] (am_H (rJ S 80 (fun i => if i < j then 0 else gJ S 80 i))) 0 0 := by
    intro k
    induction k with
    | zero =>
      intro j h1 h2
      omega
    | succ k ih =>
      intro j h1 h2
      have b1 : (nI j).toNatClampNeg = j := nI_clamp (by omega)
      have s1 : 0 ≤ nI j := nI_pos' (by omega)
      have up1 : uJ (rJ S 80 (fun i => if i < j then 0 else gJ S 80 i)) 80 j 0 = rJ S 80 (fun i => if i < j + 1 then 0 else gJ S 80 i) := by
        rw [uJ_rJs]
        congr 1
        funext i
        unfold vp_updL
        by_cases hi : i = j
        · subst hi
          rw [if_pos rfl, if_pos (by omega)]
        · rw [if_neg hi]
          show (if i < j then (0 : Int64) else gJ S 80 i) = _
          by_cases h3 : i < j
          · rw [if_pos h3, if_pos (by omega)]
          · rw [if_neg h3, if_neg (by omega)]
      have up2 : j = 11 → uJ (rJ S 80 (fun i => if i < j then 0 else gJ S 80 i)) 80 0 1 = rJ S 80 (wG S dn sl up 0) := fun hj => by
        rw [uJ_rJs, hj]
        congr 1
        funext i
        unfold vp_updL wG wnd
        by_cases hi : i = 0
        · subst hi
          rw [if_pos rfl, if_pos (by omega), if_pos rfl]
          rfl
        · rw [if_neg hi, if_neg hi]
          rfl
      refine r_iload_n rfl rfl ?_
      refine r_aload_n rfl rfl ?_
      refine r_getC rfl rfl (by decide) (by decide) rfl ?_
      refine r_alen rfl rfl (by decide) ?_
      refine r_icmp_ge rfl (fun h8 => ?_) (fun h8 => ?_)
      · have hj : j = 11 := by
          rw [show Int32.ofNat 11 = nI 11 from rfl, nI_leI (by omega) (by omega)] at h8
          omega
        refine r_aload_n rfl rfl ?_
        refine r_getC rfl rfl (by decide) (by decide) rfl ?_
        refine r_iconst rfl ?_
        refine r_lconst rfl ?_
        refine r_last rfl rfl (by first | decide | assumption) (by first | decide | exact s1 | exact s2) (by first | decide | exact s1 | exact s2) ?_
        refine r_bipush rfl ?_
        refine r_aload_n rfl rfl ?_
        refine r_getI rfl rfl (by decide) (by decide) rfl ?_
        refine r_isub rfl ?_
        refine r_aload_n rfl rfl ?_
        refine r_getI rfl rfl (by decide) (by decide) rfl ?_
        refine r_isub rfl ?_
        rw [gI_uJ_f, gI_rJ_f, hd, hup, hsl]
        refine r_istore_n (L2 := [_, _, _, _, _, _, _, _]) rfl rfl ?_
        refine r_iconst rfl ?_
        refine r_istore (L2 := [_, _, _, _, _, _, _, _]) rfl rfl ?_
        rw [show (0 : Int32).toNatClampNeg = 0 from rfl, up2 hj]
        exact loop3 (u + 1) 0 none none none (by omega) (by omega)
      · have hj : j < 11 := by
          rw [show Int32.ofNat 11 = nI 11 from rfl, nI_leI (by omega) (by omega)] at h8
          omega
        have s2 : nI j < Int32.ofNat 11 := nI_lt (by omega) (by omega)
        refine r_aload_n rfl rfl ?_
        refine r_getC rfl rfl (by decide) (by decide) rfl ?_
        refine r_iload_n rfl rfl ?_
        refine r_lconst rfl ?_
        refine r_last rfl rfl (by first | decide | assumption) (by first | decide | exact s1 | exact s2) (by first | decide | exact s1 | exact s2) ?_
        refine r_iinc (L2 := [_, _, _, _, _, _, _, _]) rfl rfl rfl ?_
        refine r_goto rfl ?_
        rw [b1, up1, nI_1]
        exact ih (j + 1) (by omega) (by omega)
  refine r_iconst rfl ?_
  refine r_istore_n (L2 := [_, _, _, _, _, _, _, _]) rfl rfl ?_
  have e := loop 12 0 (by omega) (by omega)
  rw [show (fun i => if i < 0 then (0 : Int64) else gJ S 80 i) = gJ S 80 from funext fun i => if_neg (by omega), rJ_id] at e
  exact e
theorem put30 {q : Nat} (h : q ≤ 60) : fPut (nI q - 30) 30 = nI q - 30 := by
  have e : (nI q - 30).toInt = (q : Int) - 30 := pk_sub_toInt (b := 30) (by omega) (by omega)
  unfold fPut
  rw [if_neg, if_neg]
  · rw [fa_lt, e, show (30 : Int32).toInt = 30 from rfl]; omega
  · rw [fa_lt, e, show (-(30 : Int32)).toInt = -30 from by decide]; omega
theorem reach30 {q : Nat} : 30 + (nI q - 30) = nI q := by grind
theorem ct_X2_inReach {d : Nat} {S : am_S} {q : Nat} (hq : q ≤ 60) : am_CT (d + 2) iX2_inReach [.int (nI q - 30)] S (some (.int (nI q))) (S) := by
  refine am_CT_in mmX2_inReach rfl rfl rfl ?_
  refine r_bipush rfl ?_
  refine r_iload_n rfl rfl ?_
  refine r_bipush rfl ?_
  refine r_callS rfl (by decide) ct_X10_putTo rfl rfl (am_cnt rfl) ?_
  refine r_iadd rfl ?_
  refine r_iret rfl rfl ?_
  rw [put30 hq, reach30]
  exact ⟨rfl, rfl⟩
def hop (C N : Nat → Nat) (dn sl up p j : Nat) : Nat := C j * p + N (j - 1) * dn + N j * sl + N (j + 1) * up
def HJ (S : am_S) (C N : Nat → Nat) (lo hi : Nat) : Prop := ∀ j, lo ≤ j → j ≤ hi → gJ S 81 j = lN (C j) ∧ gJ S 83 j = lN (N j)
theorem ct_X2_hopedFor {d : Nat} {S : am_S} {C N : Nat → Nat} {dn sl up p q : Nat} (hY : WndOk dn sl up S) (hJ : HJ S C N (q - 1) (q + 1)) (h1 : 1 ≤ q) (h2 : q ≤ 59) : am_CT (d + 3) iX2_hopedFor [.ref 79, .ref 1, .int (nI q - 30), .long (lN p)] S (some (.long (lN (hop C N dn sl up p q)))) (S) := by
  refine am_CT_in mmX2_hopedFor rfl rfl rfl ?_
  obtain ⟨hd, hup, hs⟩ := hY
  have hsl : 10 - nI dn - nI up = nI sl := by
    rw [show (10 : Int32) = nI 10 from rfl, pk_sub (by omega), pk_sub (by omega)]
    congr 1
    omega
  have m1 : nI q - 30 - 1 = nI (q - 1) - 30 := by
    rw [← pk_sub (a := q) (b := 1) h1, show nI 1 = 1 from rfl]
    grind
  have p1 : nI q - 30 + 1 = nI (q + 1) - 30 := by
    rw [← nI_1]
    grind
  have b0 : (nI q).toNatClampNeg = q := nI_clamp (by omega)
  have b1 : (nI (q - 1)).toNatClampNeg = q - 1 := nI_clamp (by omega)
  have b2 : (nI (q + 1)).toNatClampNeg = q + 1 := nI_clamp (by omega)
  have s0 : 0 ≤ nI q ∧ nI q < Int32.ofNat 61 := ⟨nI_pos' (by omega), nI_lt (by omega) (by omega)⟩
  have s1 : 0 ≤ nI (q - 1) ∧ nI (q - 1) < Int32.ofNat 61 := ⟨nI_pos' (by omega), nI_lt (by omega) (by omega)⟩
  have s2 : 0 ≤ nI (q + 1) ∧ nI (q + 1) < Int32.ofNat 61 := ⟨nI_pos' (by omega), nI_lt (by omega) (by omega)⟩
  refine r_bipush rfl ?_
  refine r_aload_n rfl rfl ?_
  refine r_getI rfl rfl (by decide) (by decide) rfl ?_
  refine r_isub rfl ?_
  refine r_aload_n rfl rfl ?_
  refine r_getI rfl rfl (by decide) (by decide) rfl ?_
  refine r_isub rfl ?_
  rw [hd, hup, hsl]
  refine r_istore (L2 := [_, _, _, _, _, _]) rfl rfl ?_
  refine r_aload_n rfl rfl ?_
  refine r_getC rfl rfl (by decide) (by decide) rfl ?_
  refine r_iload_n rfl rfl ?_
  refine r_callS rfl (by decide) (ct_X2_inReach (by omega)) rfl rfl (am_cnt rfl) ?_
  refine r_lald rfl rfl (by first | decide | assumption) (by first | exact s0.1 | exact s0.2 | exact s1.1 | exact s1.2 | exact s2.1 | exact s2.2) (by first | exact s0.1 | exact s0.2 | exact s1.1 | exact s1.2 | exact s2.1 | exact s2.2) ?_
  refine r_lload_n rfl rfl ?_
  refine r_lmul rfl ?_
  refine r_aload_n rfl rfl ?_
  refine r_getC rfl rfl (by decide) (by decide) rfl ?_
  refine r_iload_n rfl rfl ?_
  refine r_iconst rfl ?_
  refine r_isub rfl ?_
  rw [m1]
  refine r_callS rfl (by decide) (ct_X2_inReach (by omega)) rfl rfl (am_cnt rfl) ?_
  refine r_lald rfl rfl (by first | decide | assumption) (by first | exact s0.1 | exact s0.2 | exact s1.1 | exact s1.2 | exact s2.1 | exact s2.2) (by first | exact s0.1 | exact s0.2 | exact s1.1 | exact s1.2 | exact s2.1 | exact s2.2) ?_
  refine r_aload_n rfl rfl ?_
  refine r_getI rfl rfl (by decide) (by decide) rfl ?_
  refine r_i2l rfl ?_
  refine r_lmul rfl ?_
  refine r_ladd rfl ?_
  refine r_aload_n rfl rfl ?_
  refine r_getC rfl rfl (by decide) (by decide) rfl ?_
  refine r_iload_n rfl rfl ?_
  refine r_callS rfl (by decide) (ct_X2_inReach (by omega)) rfl rfl (am_cnt rfl) ?_
  refine r_lald rfl rfl (by first | decide | assumption) (by first | exact s0.1 | exact s0.2 | exact s1.1 | exact s1.2 | exact s2.1 | exact s2.2) (by first | exact s0.1 | exact s0.2 | exact s1.1 | exact s1.2 | exact s2.1 | exact s2.2) ?_
  refine r_iload rfl rfl ?_
  refine r_i2l rfl ?_
  refine r_lmul rfl ?_
  refine r_ladd rfl ?_
  refine r_aload_n rfl rfl ?_
  refine r_getC rfl rfl (by decide) (by decide) rfl ?_
  refine r_iload_n rfl rfl ?_
  refine r_iconst rfl ?_
  refine r_iadd rfl ?_
  rw [p1]
  refine r_callS rfl (by decide) (ct_X2_inReach (by omega)) rfl rfl (am_cnt rfl) ?_
  refine r_lald rfl rfl (by first | decide | assumption) (by first | exact s0.1 | exact s0.2 | exact s1.1 | exact s1.2 | exact s2.1 | exact s2.2) (by first | exact s0.1 | exact s0.2 | exact s1.1 | exact s1.2 | exact s2.1 | exact s2.2) ?_
  refine r_aload_n rfl rfl ?_
  refine r_getI rfl rfl (by decide) (by decide) rfl ?_
  refine r_i2l rfl ?_
  refine r_lmul rfl ?_
  refine r_ladd rfl ?_
  refine r_lret rfl ?_
  rw [b0, b1, b2, (hJ q (by omega) (by omega)).1, (hJ q (by omega) (by omega)).2, (hJ (q - 1) (by omega) (by omega)).2, (hJ (q + 1) (by omega) (by omega)).2, hd, hup, nI_l (by omega), nI_l (by omega), nI_l (by omega)]
  simp only [lN_mul, lN_add]
  refine ⟨?_, ?_⟩ <;> first | rfl | trivial
/-- the t-th thing to try, and what is best of the first t + 1 -/
def mvN (q t : Nat) : Nat := if t % 2 = 1 then q - (t + 1) / 2 else q + t / 2
def puI (t : Nat) : Int32 := if t % 2 = 1 then -nI ((t + 1) / 2) else nI (t / 2)
def lst (h : Nat → Nat) (q : Nat) : Nat → Nat × Int32
  | 0 => (h q, 0)
  | t + 1 => if h (mvN q (t + 1)) < (lst h q t).1 then (h (mvN q (t + 1)), puI (t + 1)) else lst h q t
theorem lst_le {h : Nat → Nat} {q : Nat} : ∀ t, (lst h q t).1 ≤ h q
  | 0 => Nat.le_refl _
  | t + 1 => by
    have := lst_le (h := h) (q := q) t
    unfold lst
    split
    · simp only; omega
    · exact this
theorem neg_s {q s : Nat} (h : s ≤ q) : nI q - 30 + -nI s = nI (q - s) - 30 := by
  rw [← pk_sub h]
  grind
theorem pos_s {q s : Nat} : nI q - 30 + nI s = nI (q + s) - 30 := by
  rw [← nI_add]
  grind
theorem ct_X2_leastAt {d : Nat} {S : am_S} {C N : Nat → Nat} {dn sl up p q mo : Nat} (hY : WndOk dn sl up S) (hJ : HJ S C N (q - mo - 1) (q + mo + 1)) (h1 : mo + 1 ≤ q) (h2 : q + mo ≤ 59) (hm : mo ≤ 4) (hb : ∀ j, q - mo ≤ j → j ≤ q + mo → hop C N dn sl up p j < 9223372036854775808) : am_CT (d + 4) iX2_leastAt [.ref 79, .ref 1, .int (nI q - 30), .int (nI mo), .long (lN p)] S (some (.long (lN (lst (hop C N dn sl up p) q (2 * mo)).1))) (uI S 79 4 (lst (hop C N dn sl up p) q (2 * mo)).2) := by
  refine am_CT_in mmX2_leastAt rfl rfl rfl ?_
  have hY2 : ∀ x, WndOk dn sl up (uI S 79 4 x) := fun x => ⟨by rw [gI_uI_ne (by decide)]; exact hY.1, by rw [gI_uI_ne (by decide)]; exact hY.2.1, hY.2.2⟩
  have ct : ∀ {d : Nat} x j, q - mo ≤ j → j ≤ q + mo → am_CT (d + 3) iX2_hopedFor [.ref 79, .ref 1, .int (nI j - 30), .long (lN p)] (uI S 79 4 x) (some (.long (lN (hop C N dn sl up p j)))) (uI S 79 4 x) := fun {d} x j a b => ct_X2_hopedFor (S := uI S 79 4 x) (hY2 x) (fun i y z => hJ i (by omega) (by omega)) (by omega) (by omega)
  have lb : ∀ t, (lst (hop C N dn sl up p) q t).1 < 9223372036854775808 := fun t => Nat.lt_of_le_of_lt (lst_le t) (hb q (by omega) (by omega))
  have lE : ∀ t, mvN q (t + 1) = q - (t + 2) / 2 ∨ mvN q (t + 1) = q + (t + 1) / 2 := fun t => by unfold mvN; split; exact Or.inl rfl; exact Or.inr rfl
  have loop : ∀ (k : Nat) (s : Nat) (v9 : Option Value) (v10 : Option Value) (v11 : Option Value), (1 ≤ s ∧ s ≤ mo + 1) → (mo + 1 < s + k) → am_Ex (am_Call am_MT (d + 3)) mmX2_leastAt none (fun r1 G1 => r1 = (some (.long (lN (lst (hop C N dn sl up p) q (2 * mo)).1))) ∧ G1 = am_H (uI S 79 4 (lst (hop C N dn sl up p) q (2 * mo)).2)) (fun _ _ _ _ _ _ => False) 18 [some (.ref 79), some (.ref 1), some (.int (nI q - 30)), some (.int (nI mo)), some (.long (lN p)), none, some (.long (lN (lst (hop C N dn sl up p) q (2 * (s - 1))).1)), none, some (.int (nI s)), v9, v10, v11] [] (am_H (uI S 79 4 (lst (hop C N dn sl up p) q (2 * (s - 1))).2)) 0 0 := by
    intro k
    induction k with
    | zero =>
      intro s v9 v10 v11 q1 q2
      omega
    | succ k ih =>
      intro s v9 v10 v11 q1 q2
      by_cases hs : s = mo + 1
      · subst hs
        refine r_iload rfl rfl ?_
        refine r_iload_n rfl rfl ?_
        refine r_icmp_gt rfl (fun h21 => ?_) (fun h21 => ?_)
        · refine r_lload rfl rfl ?_
          refine r_lret rfl ?_
          exact ⟨rfl, rfl⟩
        · exact absurd (nI_lt (by omega) (by omega)) h21
      · have t0 : ¬ nI mo < nI s := nI_nlt (by omega) (by omega)
        have n1 : -nI s ≤ nI s := by rw [fa_le, sb_negT (by omega), nI_toInt (by omega)]; omega
        have n3 : nI s < nI s + 2 * nI s := by
          rw [show (2 : Int32) * nI s = nI (2 * s) from pk_mul 2 s, nI_add]
          exact nI_lt (by omega) (by omega)
        have n2 : -nI s + 2 * nI s = nI s := by grind
        have l1 : lst (hop C N dn sl up p) q (2 * (s - 1) + 1) = if hop C N dn sl up p (q - s) < (lst (hop C N dn sl up p) q (2 * (s - 1))).1 then (hop C N dn sl up p (q - s), -nI s) else lst (hop C N dn sl up p) q (2 * (s - 1)) := by
          rw [lst, show mvN q (2 * (s - 1) + 1) = q - s by (unfold mvN; rw [if_pos (by omega)]; congr 1; omega), show puI (2 * (s - 1) + 1) = -nI s by (unfold puI; rw [if_pos (by omega)]; congr 2; omega)]
        have l2 : lst (hop C N dn sl up p) q (2 * s) = if hop C N dn sl up p (q + s) < (lst (hop C N dn sl up p) q (2 * (s - 1) + 1)).1 then (hop C N dn sl up p (q + s), nI s) else lst (hop C N dn sl up p) q (2 * (s - 1) + 1) := by
          rw [show 2 * s = (2 * (s - 1) + 1) + 1 by omega, lst, show mvN q (2 * (s - 1) + 1 + 1) = q + s by (unfold mvN; rw [if_neg (by omega)]; congr 1; omega), show puI (2 * (s - 1) + 1 + 1) = nI s by (unfold puI; rw [if_neg (by omega)]; congr 1; omega)]
        have pC : ∀ v10 v11, am_Ex (am_Call am_MT (d + 3)) mmX2_leastAt none (fun r1 G1 => r1 = (some (.long (lN (lst (hop C N dn sl up p) q (2 * mo)).1))) ∧ G1 = am_H (uI S 79 4 (lst (hop C N dn sl up p) q (2 * mo)).2)) (fun _ _ _ _ _ _ => False) 29 [some (.ref 79), some (.ref 1), some (.int (nI q - 30)), some (.int (nI mo)), some (.long (lN p)), none, some (.long (lN (lst (hop C N dn sl up p) q (2 * s)).1)), none, some (.int (nI s)), some (.int (nI s + 2 * nI s)), v10, v11] [] (am_H (uI S 79 4 (lst (hop C N dn sl up p) q (2 * s)).2)) 0 0 := fun v10 v11 => by
          refine r_iload rfl rfl ?_
          refine r_iload rfl rfl ?_
          refine r_icmp_gt rfl (fun h33 => ?_) (fun h33 => ?_)
          · refine r_iinc (L2 := [_, _, _, _, _, _, _, _, _, _, _, _]) rfl rfl rfl ?_
            refine r_goto rfl ?_
            rw [nI_1]
            exact ih (s + 1) _ _ _ (by omega) (by omega)
          · exact absurd n3 h33
        have pB : ∀ v10 v11, am_Ex (am_Call am_MT (d + 3)) mmX2_leastAt none (fun r1 G1 => r1 = (some (.long (lN (lst (hop C N dn sl up p) q (2 * mo)).1))) ∧ G1 = am_H (uI S 79 4 (lst (hop C N dn sl up p) q (2 * mo)).2)) (fun _ _ _ _ _ _ => False) 29 [some (.ref 79), some (.ref 1), some (.int (nI q - 30)), some (.int (nI mo)), some (.long (lN p)), none, some (.long (lN (lst (hop C N dn sl up p) q (2 * (s - 1) + 1)).1)), none, some (.int (nI s)), some (.int (nI s)), v10, v11] [] (am_H (uI S 79 4 (lst (hop C N dn sl up p) q (2 * (s - 1) + 1)).2)) 0 0 := fun v10 v11 => by
          refine r_iload rfl rfl ?_
          refine r_iload rfl rfl ?_
          refine r_icmp_gt rfl (fun h33 => ?_) (fun h33 => ?_)
          · exact absurd h33 (nI_nlt (by omega) (by omega))
          · refine r_aload_n rfl rfl ?_
            refine r_aload_n rfl rfl ?_
            refine r_iload_n rfl rfl ?_
            refine r_iload rfl rfl ?_
            refine r_iadd rfl ?_
            refine r_lload rfl rfl ?_
            rw [pos_s]
            refine r_callV rfl (ct _ (q + s) (by omega) (by omega)) rfl rfl rfl (by decide) rfl (am_cnt rfl) ?_
            refine r_lstore (L2 := [_, _, _, _, _, _, _, _, _, _, _, _]) rfl rfl ?_
            refine r_lload rfl rfl ?_
            refine r_lload rfl rfl ?_
            refine r_lcmp rfl ?_
            refine r_if_ge rfl (fun h54 => ?_) (fun h54 => ?_)
            · rw [lc_ge, pk_lLE (lb _) (hb _ (by omega) (by omega))] at h54
              rw [if_neg (by omega)] at l2
              refine r_iload rfl rfl ?_
              refine r_iconst rfl ?_
              refine r_iload rfl rfl ?_
              refine r_imul rfl ?_
              refine r_iadd rfl ?_
              refine r_istore (L2 := [_, _, _, _, _, _, _, _, _, _, _, _]) rfl rfl ?_
              refine r_goto rfl ?_
              have e := pC (some (.long (lN (hop C N dn sl up p (q + s))))) none
              rw [l2] at e
              first | exact e | (rw [uI_uI]; exact e)
            · rw [lc_ge, pk_lLE (lb _) (hb _ (by omega) (by omega))] at h54
              rw [if_pos (by omega)] at l2
              refine r_lload rfl rfl ?_
              refine r_lstore (L2 := [_, _, _, _, _, _, _, _, _, _, _, _]) rfl rfl ?_
              refine r_aload_n rfl rfl ?_
              refine r_iload rfl rfl ?_
              refine r_putI rfl rfl (by decide) (by decide) rfl ?_
              refine r_iload rfl rfl ?_
              refine r_iconst rfl ?_
              refine r_iload rfl rfl ?_
              refine r_imul rfl ?_
              refine r_iadd rfl ?_
              refine r_istore (L2 := [_, _, _, _, _, _, _, _, _, _, _, _]) rfl rfl ?_
              refine r_goto rfl ?_
              have e := pC (some (.long (lN (hop C N dn sl up p (q + s))))) none
              rw [l2] at e
              first | exact e | (rw [uI_uI]; exact e)
        have pA : ∀ v10 v11, am_Ex (am_Call am_MT (d + 3)) mmX2_leastAt none (fun r1 G1 => r1 = (some (.long (lN (lst (hop C N dn sl up p) q (2 * mo)).1))) ∧ G1 = am_H (uI S 79 4 (lst (hop C N dn sl up p) q (2 * mo)).2)) (fun _ _ _ _ _ _ => False) 29 [some (.ref 79), some (.ref 1), some (.int (nI q - 30)), some (.int (nI mo)), some (.long (lN p)), none, some (.long (lN (lst (hop C N dn sl up p) q (2 * (s - 1))).1)), none, some (.int (nI s)), some (.int (-nI s)), v10, v11] [] (am_H (uI S 79 4 (lst (hop C N dn sl up p) q (2 * (s - 1))).2)) 0 0 := fun v10 v11 => by
          refine r_iload rfl rfl ?_
          refine r_iload rfl rfl ?_
          refine r_icmp_gt rfl (fun h33 => ?_) (fun h33 => ?_)
          · exact absurd h33 (Int32.not_lt.mpr n1)
          · refine r_aload_n rfl rfl ?_
            refine r_aload_n rfl rfl ?_
            refine r_iload_n rfl rfl ?_
            refine r_iload rfl rfl ?_
            refine r_iadd rfl ?_
            refine r_lload rfl rfl ?_
            rw [neg_s (by omega)]
            refine r_callV rfl (ct _ (q - s) (by omega) (by omega)) rfl rfl rfl (by decide) rfl (am_cnt rfl) ?_
            refine r_lstore (L2 := [_, _, _, _, _, _, _, _, _, _, _, _]) rfl rfl ?_
            refine r_lload rfl rfl ?_
            refine r_lload rfl rfl ?_
            refine r_lcmp rfl ?_
            refine r_if_ge rfl (fun h54 => ?_) (fun h54 => ?_)
            · rw [lc_ge, pk_lLE (lb _) (hb _ (by omega) (by omega))] at h54
              rw [if_neg (by omega)] at l1
              refine r_iload rfl rfl ?_
              refine r_iconst rfl ?_
              refine r_iload rfl rfl ?_
              refine r_imul rfl ?_
              refine r_iadd rfl ?_
              rw [n2]
              refine r_istore (L2 := [_, _, _, _, _, _, _, _, _, _, _, _]) rfl rfl ?_
              refine r_goto rfl ?_
              have e := pB (some (.long (lN (hop C N dn sl up p (q - s))))) none
              rw [l1] at e
              first | exact e | (rw [uI_uI]; exact e)
            · rw [lc_ge, pk_lLE (lb _) (hb _ (by omega) (by omega))] at h54
              rw [if_pos (by omega)] at l1
              refine r_lload rfl rfl ?_
              refine r_lstore (L2 := [_, _, _, _, _, _, _, _, _, _, _, _]) rfl rfl ?_
              refine r_aload_n rfl rfl ?_
              refine r_iload rfl rfl ?_
              refine r_putI rfl rfl (by decide) (by decide) rfl ?_
              refine r_iload rfl rfl ?_
              refine r_iconst rfl ?_
              refine r_iload rfl rfl ?_
              refine r_imul rfl ?_
              refine r_iadd rfl ?_
              rw [n2]
              refine r_istore (L2 := [_, _, _, _, _, _, _, _, _, _, _, _]) rfl rfl ?_
              refine r_goto rfl ?_
              have e := pB (some (.long (lN (hop C N dn sl up p (q - s))))) none
              rw [l1] at e
              first | exact e | (rw [uI_uI]; exact e)
        refine r_iload rfl rfl ?_
        refine r_iload_n rfl rfl ?_
        refine r_icmp_gt rfl (fun h21 => ?_) (fun h21 => ?_)
        · exact absurd h21 t0
        · refine r_iload rfl rfl ?_
          refine r_ineg rfl ?_
          refine r_istore (L2 := [_, _, _, _, _, _, _, _, _, _, _, _]) rfl rfl ?_
          exact pA _ _
  have c0 : am_CT (d + 3) iX2_hopedFor [.ref 79, .ref 1, .int (nI q - 30), .long (lN p)] S (some (.long (lN (hop C N dn sl up p q)))) S := ct_X2_hopedFor hY (fun i y z => hJ i (by omega) (by omega)) (by omega) (by omega)
  refine r_aload_n rfl rfl ?_
  refine r_aload_n rfl rfl ?_
  refine r_iload_n rfl rfl ?_
  refine r_lload rfl rfl ?_
  refine r_callV rfl c0 rfl rfl rfl (by decide) rfl (am_cnt rfl) ?_
  refine r_lstore (L2 := [_, _, _, _, _, _, _, _, _, _, _, _]) rfl rfl ?_
  refine r_aload_n rfl rfl ?_
  refine r_iconst rfl ?_
  refine r_putI rfl rfl (by decide) (by decide) rfl ?_
  refine r_iconst rfl ?_
  refine r_istore (L2 := [_, _, _, _, _, _, _, _, _, _, _, _]) rfl rfl ?_
  exact loop (mo + 1) 1 none none none (by omega) (by omega)
