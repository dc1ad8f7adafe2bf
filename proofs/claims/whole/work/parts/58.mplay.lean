/-! The reference's best rules for both; by turns. -/
def q4 (i j a b : Nat) : Nat → Int32
  | 0 => nI i
  | 1 => nI j
  | 2 => nI a
  | _ => nI b
def PyM (m : Pay) (S : am_S) : Prop := ∃ cs L, FmOk S 12 cs L 4 ∧ ∀ i j a b, i < 3 → j < 3 → a < 3 → b < 3 → (gI S 119 (3 * i + j)).toInt64 * (fVal cs (q4 i j a b) 4 (fun _ => 0) L).toInt64 = iJ (m i j a b)
def FrN (S T : am_S) : Prop := (∀ o, o ≠ 97 → o ≠ 106 → o ≠ 108 → gI T o = gI S o) ∧ (∀ k, (k < 40 ∨ 43 < k) → gI T 97 k = gI S 97 k) ∧ (∀ o, gJ T o = gJ S o) ∧ ∀ c, gR T c = gR S c
theorem frN_0 {S : am_S} : FrN S S := ⟨fun _ _ _ _ => rfl, fun _ _ => rfl, fun _ => rfl, fun _ => rfl⟩
theorem frN_D {S T U : am_S} (h : FrN S T) (h2 : FrD T U) : FrN S U := ⟨fun o a b c => by rw [h2.1 o b c, h.1 o a b c], fun k a => by rw [h2.1 97 (by decide) (by decide), h.2.1 k a], fun o => by rw [h2.2.1 o, h.2.2.1 o], fun c => by rw [h2.2.2 c, h.2.2.2 c]⟩
theorem frN_t {S T U : am_S} (h : FrN S T) (h2 : FrN T U) : FrN S U := ⟨fun o a b c => by rw [h2.1 o a b c, h.1 o a b c], fun k a => by rw [h2.2.1 k a, h.2.1 k a], fun o => by rw [h2.2.2.1 o, h.2.2.1 o], fun c => by rw [h2.2.2.2 c, h.2.2.2 c]⟩
theorem frN_uI {S T : am_S} {k : Nat} {x : Int32} (h : FrN S T) (hk : 40 ≤ k ∧ k ≤ 43) : FrN S (uI T 97 k x) := ⟨fun o a b c => by rw [gI_uI_ne a, h.1 o a b c], fun j a => by rw [gI_uI, if_pos rfl, if_neg (by omega), h.2.1 j a], fun o => by rw [gJ_uI_f, h.2.2.1 o], fun c => by rw [gR_uI, h.2.2.2 c]⟩
theorem frD_0 {S : am_S} : FrD S S := ⟨fun _ _ _ => rfl, fun _ => rfl, fun _ => rfl⟩
theorem frD_tt {S T U : am_S} (h : FrD S T) (h2 : FrD T U) : FrD S U := ⟨fun o a b => by rw [h2.1 o a b, h.1 o a b], fun o => by rw [h2.2.1 o, h.2.1 o], fun c => by rw [h2.2.2 c, h.2.2 c]⟩
theorem pyM_o {m : Pay} {S T : am_S} (h : PyM m S) (ho : ∀ o, (o = 104 ∨ o = 105 ∨ o = 119) → gI T o = gI S o) : PyM m T := by
  obtain ⟨cs, L, h1, h2⟩ := h
  refine ⟨cs, L, ?_, fun i j a b x y z w => ?_⟩
  · unfold FmOk at h1 ⊢
    rw [ho 105 (by omega), ho 104 (by omega)]
    exact h1
  · rw [ho 119 (by omega)]
    exact h2 i j a b x y z w
theorem pyM_D {m : Pay} {S T : am_S} (h : PyM m S) (f : FrD S T) : PyM m T := pyM_o h fun o ho => f.1 o (by omega) (by omega)
theorem pyM_N {m : Pay} {S T : am_S} (h : PyM m S) (f : FrN S T) : PyM m T := pyM_o h fun o ho => f.1 o (by omega) (by omega) (by omega)
theorem ct_X11_worth {d : Nat} {S : am_S} {m : Pay} {i j a b : Nat} (hM : PyM m S) (hi : i < 3) (hj : j < 3) (ha : a < 3) (hb : b < 3) : am_CE (d + 4) iX11_worth [.ref 97, .int (nI i), .int (nI j), .int (nI a), .int (nI b)] S (some (.long (iJ (m i j a b)))) (fun T => FrD S T) := by
  refine am_CE_in mmX11_worth rfl rfl rfl ?_
  obtain ⟨cs, L, hF, hv⟩ := hM
  have e1 : (3 : Int32) * nI i + nI j = nI (3 * i + j) := (congrArg (fun z => z + nI j) (pk_mul 3 i)).trans (nI_add _ _)
  have b1 : (nI (3 * i + j)).toNatClampNeg = 3 * i + j := nI_clamp (by omega)
  have s1 : 0 ≤ nI (3 * i + j) := nI_pos' (by omega)
  have s2 : nI (3 * i + j) < Int32.ofNat 9 := nI_lt (by omega) (by omega)
  have f1 : FmOk (uI (uI (uI (uI S 108 0 (nI i)) 108 1 (nI j)) 108 2 (nI a)) 108 3 (nI b)) 12 cs L 4 := by
    unfold FmOk at hF ⊢
    rw [gI_uI_ne (by decide), gI_uI_ne (by decide), gI_uI_ne (by decide), gI_uI_ne (by decide), gI_uI_ne (by decide), gI_uI_ne (by decide), gI_uI_ne (by decide), gI_uI_ne (by decide)]
    exact hF
  have v1 : ∀ g, fVal cs (gI (uI (uI (uI (uI S 108 0 (nI i)) 108 1 (nI j)) 108 2 (nI a)) 108 3 (nI b)) 108) 4 g L = fVal cs (q4 i j a b) 4 (fun _ => 0) L := fun g => fVal_ind hF.2.2 (fun k hk => by
    match k, hk with
    | 0, _ => rfl
    | 1, _ => rfl
    | 2, _ => rfl
    | 3, _ => rfl) (by decide)
  have w : ∀ {d : Nat}, am_CT (d + 3) iX11_worked [.ref 97, .int (nI 12)] (uI (uI (uI (uI S 108 0 (nI i)) 108 1 (nI j)) 108 2 (nI a)) 108 3 (nI b)) (some (.int (fVal cs (q4 i j a b) 4 (fun _ => 0) L))) (rI (uI (uI (uI (uI S 108 0 (nI i)) 108 1 (nI j)) 108 2 (nI a)) 108 3 (nI b)) 106 (fEv cs (gI (uI (uI (uI (uI S 108 0 (nI i)) 108 1 (nI j)) 108 2 (nI a)) 108 3 (nI b)) 108) 4 (gI (uI (uI (uI (uI S 108 0 (nI i)) 108 1 (nI j)) 108 2 (nI a)) 108 3 (nI b)) 106) L).1) := fun {d} => by
    have e := ct_X11_worked (d := d) (S := uI (uI (uI (uI S 108 0 (nI i)) 108 1 (nI j)) 108 2 (nI a)) 108 3 (nI b)) (pl := 12) (by decide) f1 (by decide)
    rw [v1] at e
    exact e
  refine r_aload_n rfl rfl ?_
  refine r_getC rfl rfl (by decide) (by decide) rfl ?_
  refine r_iconst rfl ?_
  refine r_iload_n rfl rfl ?_
  refine r_iast rfl rfl (by first | decide | assumption) (by first | decide | exact s1 | exact s2) (by first | decide | exact s1 | exact s2) ?_
  refine r_aload_n rfl rfl ?_
  refine r_getC rfl rfl (by decide) (by decide) rfl ?_
  refine r_iconst rfl ?_
  refine r_iload_n rfl rfl ?_
  refine r_iast rfl rfl (by first | decide | assumption) (by first | decide | exact s1 | exact s2) (by first | decide | exact s1 | exact s2) ?_
  refine r_aload_n rfl rfl ?_
  refine r_getC rfl rfl (by decide) (by decide) rfl ?_
  refine r_iconst rfl ?_
  refine r_iload_n rfl rfl ?_
  refine r_iast rfl rfl (by first | decide | assumption) (by first | decide | exact s1 | exact s2) (by first | decide | exact s1 | exact s2) ?_
  refine r_aload_n rfl rfl ?_
  refine r_getC rfl rfl (by decide) (by decide) rfl ?_
  refine r_iconst rfl ?_
  refine r_iload rfl rfl ?_
  refine r_iast rfl rfl (by first | decide | assumption) (by first | decide | exact s1 | exact s2) (by first | decide | exact s1 | exact s2) ?_
  refine r_aload_n rfl rfl ?_
  refine r_getC rfl rfl (by decide) (by decide) rfl ?_
  refine r_iconst rfl ?_
  refine r_iload_n rfl rfl ?_
  refine r_imul rfl ?_
  refine r_iload_n rfl rfl ?_
  refine r_iadd rfl ?_
  rw [e1]
  refine r_iald rfl rfl (by first | decide | assumption) (by first | decide | exact s1 | exact s2) (by first | decide | exact s1 | exact s2) ?_
  rw [b1, gI_uI_ne (by decide), gI_uI_ne (by decide), gI_uI_ne (by decide), gI_uI_ne (by decide)]
  refine r_i2l rfl ?_
  refine r_aload_n rfl rfl ?_
  refine r_bipush rfl ?_
  refine r_callV rfl w rfl rfl rfl (by decide) rfl (am_cnt rfl) ?_
  refine r_i2l rfl ?_
  refine r_lmul rfl ?_
  refine r_lret rfl ?_
  rw [hv i j a b hi hj ha hb]
  refine ⟨rfl, _, rfl, fun o p q => ?_, fun o => ?_, fun c => ?_⟩
  · rw [gI_rI_ne p]
    show gI (uI (uI (uI (uI S 108 0 _) 108 1 _) 108 2 _) 108 3 _) o = _
    rw [gI_uI_ne q, gI_uI_ne q, gI_uI_ne q, gI_uI_ne q]
  · rfl
  · rfl
theorem ct_X11_thingOf {d : Nat} {S : am_S} {R i : Nat} (hR : R < 1000) (hi : i < 3) : am_CT (d + 1) iX11_thingOf [.int (nI R), .int (nI i)] S (some (.int (nI (dgt R i)))) (S) := by
  refine am_CT_in mmX11_thingOf rfl rfl rfl ?_
  have d1 : nI R / 100 = nI (R / 100) := pk_div (d := 100) (by omega) (by decide) (by decide)
  have d2 : nI R / 10 = nI (R / 10) := pk_div (d := 10) (by omega) (by decide) (by decide)
  have d3 : nI (R / 10) - nI (R / 10) / 10 * 10 = nI (R / 10 % 10) := pk_rem (d := 10) (by omega) (by decide) (by decide)
  have d4 : nI R - nI R / 10 * 10 = nI (R % 10) := pk_rem (d := 10) (by omega) (by decide) (by decide)
  rw [dgt]
  refine r_iload_n rfl rfl ?_
  refine r_if_ne rfl (fun h1 => ?_) (fun h1 => ?_)
  · rw [show (0 : Int32) = nI 0 from rfl, nI_eq (by omega) (by omega)] at h1
    refine r_iload_n rfl rfl ?_
    refine r_iconst rfl ?_
    refine r_icmp_ne rfl (fun h13 => ?_) (fun h13 => ?_)
    · rw [show (1 : Int32) = nI 1 from rfl, nI_eq (by omega) (by omega)] at h13
      refine r_iload_n rfl rfl ?_
      refine r_bipush rfl ?_
      refine r_irem rfl (by decide) ?_
      refine r_iret rfl rfl ?_
      first
      | (rw [if_pos h1]; exact ⟨rfl, rfl⟩)
      | (rw [if_neg h1, if_pos h13]; exact ⟨rfl, rfl⟩)
      | (rw [if_neg h1, if_neg h13, d4]; exact ⟨rfl, rfl⟩)
    · rw [show (1 : Int32) = nI 1 from rfl, nI_eq (by omega) (by omega)] at h13
      refine r_iload_n rfl rfl ?_
      refine r_bipush rfl ?_
      refine r_idiv rfl (by decide) ?_
      rw [d2]
      refine r_bipush rfl ?_
      refine r_irem rfl (by decide) ?_
      rw [d3]
      refine r_goto rfl ?_
      refine r_iret rfl rfl ?_
      first
      | (rw [if_pos h1]; exact ⟨rfl, rfl⟩)
      | (rw [if_neg h1, if_pos h13]; exact ⟨rfl, rfl⟩)
      | (rw [if_neg h1, if_neg h13, d4]; exact ⟨rfl, rfl⟩)
  · rw [show (0 : Int32) = nI 0 from rfl, nI_eq (by omega) (by omega)] at h1
    refine r_iload_n rfl rfl ?_
    refine r_bipush rfl ?_
    refine r_idiv rfl (by decide) ?_
    rw [d1]
    refine r_goto rfl ?_
    refine r_iret rfl rfl ?_
    first
    | (rw [if_pos h1]; exact ⟨rfl, rfl⟩)
    | (rw [if_neg h1, if_pos h13]; exact ⟨rfl, rfl⟩)
    | (rw [if_neg h1, if_neg h13, d4]; exact ⟨rfl, rfl⟩)
theorem ct_X11_worthOf {d : Nat} {S : am_S} {m : Pay} {a b : Nat} (hM : PyM m S) (ha : Dig (dgt a)) (hb : Dig (dgt b)) (ha2 : a < 1000) (hb2 : b < 1000) : am_CE (d + 5) iX11_worthOf [.ref 97, .int (nI a), .int (nI b)] S (some (.long (iJ (smZ m (dgt a) (dgt b))))) (fun T => FrD S T) := by
  refine am_CE_in mmX11_worthOf rfl rfl rfl ?_
  have loop : ∀ (k : Nat) (i : Nat) (T : am_S) (v6 : Option Value), (i ≤ 3) → (3 < i + k) → (FrD S T) → am_Ex (am_Call am_MT (d + 4)) mmX11_worthOf none (fun r1 G1 => r1 = (some (.long (iJ (smZ m (dgt a) (dgt b))))) ∧ ∃ S2, G1 = am_H S2 ∧ (fun T => FrD S T) S2) (fun _ _ _ _ _ _ => False) 5 [some (.ref 97), some (.int (nI a)), some (.int (nI b)), some (.long (iJ (sumZ (fun i => sumZ (fun j => m i j (dgt a i) (dgt b j)) 3) i))), none, some (.int (nI i)), v6] [] (am_H (T)) 0 0 := by
    intro k
    induction k with
    | zero =>
      intro i T v6 q1 q2 f1
      omega
    | succ k ih =>
      intro i T v6 q1 q2 f1
      have loop2 : ∀ (k2 : Nat) (j : Nat) (U : am_S), (i < 3) → (j ≤ 3) → (3 < j + k2) → (FrD S U) → am_Ex (am_Call am_MT (d + 4)) mmX11_worthOf none (fun r1 G1 => r1 = (some (.long (iJ (smZ m (dgt a) (dgt b))))) ∧ ∃ S2, G1 = am_H S2 ∧ (fun T => FrD S T) S2) (fun _ _ _ _ _ _ => False) 14 [some (.ref 97), some (.int (nI a)), some (.int (nI b)), some (.long (iJ (sumZ (fun i => sumZ (fun j => m i j (dgt a i) (dgt b j)) 3) i + sumZ (fun j => m i j (dgt a i) (dgt b j)) j))), none, some (.int (nI i)), some (.int (nI j))] [] (am_H (U)) 0 0 := by
        intro k2
        induction k2 with
        | zero =>
          intro j U q0 p1 p2 g1
          omega
        | succ k2 ih2 =>
          intro j U q0 p1 p2 g1
          refine r_iload rfl rfl ?_
          refine r_iconst rfl ?_
          refine r_icmp_ge rfl (fun h17 => ?_) (fun h17 => ?_)
          · have hj : j = 3 := by
              rw [show (3 : Int32) = nI 3 from rfl, nI_leI (by omega) (by omega)] at h17
              omega
            subst hj
            refine r_iinc (L2 := [_, _, _, _, _, _, _]) rfl rfl rfl ?_
            refine r_goto rfl ?_
            rw [nI_1]
            exact ih (i + 1) U _ (by omega) (by omega) g1
          · have hj : j < 3 := by
              rw [show (3 : Int32) = nI 3 from rfl, nI_leI (by omega) (by omega)] at h17
              omega
            refine r_lload_n rfl rfl ?_
            refine r_aload_n rfl rfl ?_
            refine r_iload rfl rfl ?_
            refine r_iload rfl rfl ?_
            refine r_iload_n rfl rfl ?_
            refine r_iload rfl rfl ?_
            refine r_callS rfl (by decide) (ct_X11_thingOf ha2 q0) rfl rfl (am_cnt rfl) ?_
            refine r_iload_n rfl rfl ?_
            refine r_iload rfl rfl ?_
            refine r_callS rfl (by decide) (ct_X11_thingOf hb2 hj) rfl rfl (am_cnt rfl) ?_
            refine r_callVE rfl (ct_X11_worth (pyM_D hM g1) q0 hj (ha i q0) (hb j hj)) rfl rfl rfl (by decide) rfl (am_cnt rfl) (fun V hV => ?_)
            refine r_ladd rfl ?_
            refine r_lstore_n (L2 := [_, _, _, _, _, _, _]) rfl rfl ?_
            refine r_iinc (L2 := [_, _, _, _, _, _, _]) rfl rfl rfl ?_
            refine r_goto rfl ?_
            rw [iJ_add, Int.add_assoc, nI_1]
            exact ih2 (j + 1) V q0 (by omega) (by omega) (frD_tt g1 hV)
      refine r_iload rfl rfl ?_
      refine r_iconst rfl ?_
      refine r_icmp_ge rfl (fun h8 => ?_) (fun h8 => ?_)
      · have hi : i = 3 := by
          rw [show (3 : Int32) = nI 3 from rfl, nI_leI (by omega) (by omega)] at h8
          omega
        subst hi
        refine r_lload_n rfl rfl ?_
        refine r_lret rfl ?_
        exact ⟨rfl, _, rfl, f1⟩
      · have hi : i < 3 := by
          rw [show (3 : Int32) = nI 3 from rfl, nI_leI (by omega) (by omega)] at h8
          omega
        refine r_iconst rfl ?_
        refine r_istore (L2 := [_, _, _, _, _, _, _]) rfl rfl ?_
        have e := loop2 4 0 T hi (by omega) (by omega) f1
        rw [show sumZ (fun i => sumZ (fun j => m i j (dgt a i) (dgt b j)) 3) i + sumZ (fun j => m i j (dgt a i) (dgt b j)) 0 = sumZ (fun i => sumZ (fun j => m i j (dgt a i) (dgt b j)) 3) i from Int.add_zero _] at e
        exact e
  refine r_lconst rfl ?_
  refine r_lstore_n (L2 := [_, _, _, _, _, _, _]) rfl rfl ?_
  refine r_iconst rfl ?_
  refine r_istore (L2 := [_, _, _, _, _, _, _]) rfl rfl ?_
  exact loop 4 0 S none (by omega) (by omega) frD_0
/-- the number of a rule -/
def rno (k : Nat) : Nat := k / 9 * 100 + k / 3 % 3 * 10 + k % 3
theorem rno_d {k : Nat} (h : k < 27) : ∀ i, dgt (rno k) i = ru k i := fun i => by
  unfold dgt rno ru
  split
  · omega
  · split <;> omega
theorem rno_lt {k : Nat} (h : k < 27) : rno k < 1000 := by unfold rno; omega
theorem ct_X11_ruleAt {d : Nat} {S : am_S} {k2 : Nat} (hR : k2 < 27) : am_CT (d + 1) iX11_ruleAt [.int (nI k2)] S (some (.int (nI (rno k2)))) (S) := by
  refine am_CT_in mmX11_ruleAt rfl rfl rfl ?_
  have d9 : nI k2 / 9 = nI (k2 / 9) := pk_div (d := 9) (by omega) (by decide) (by decide)
  have d3 : nI k2 / 3 = nI (k2 / 3) := pk_div (d := 3) (by omega) (by decide) (by decide)
  have m3 : nI k2 - nI k2 / 3 * 3 = nI (k2 % 3) := pk_rem (d := 3) (by omega) (by decide) (by decide)
  have m33 : nI k2 / 3 - nI k2 / 3 / 3 * 3 = nI (k2 / 3 % 3) := by
    rw [d3]
    exact pk_rem (d := 3) (by omega) (by decide) (by decide)
  refine r_iload_n rfl rfl ?_
  refine r_bipush rfl ?_
  refine r_idiv rfl (by decide) ?_
  refine r_bipush rfl ?_
  refine r_imul rfl ?_
  refine r_iload_n rfl rfl ?_
  refine r_iconst rfl ?_
  refine r_idiv rfl (by decide) ?_
  refine r_iconst rfl ?_
  refine r_irem rfl (by decide) ?_
  refine r_bipush rfl ?_
  refine r_imul rfl ?_
  refine r_iadd rfl ?_
  refine r_iload_n rfl rfl ?_
  refine r_iconst rfl ?_
  refine r_irem rfl (by decide) ?_
  refine r_iadd rfl ?_
  refine r_iret rfl rfl ?_
  rw [d9, m33, m3, show nI (k2 / 9) * 100 = nI (k2 / 9 * 100) from pk_mul _ 100, show nI (k2 / 3 % 3) * 10 = nI (k2 / 3 % 3 * 10) from pk_mul _ 10, nI_add, nI_add]
  exact ⟨rfl, rfl⟩
