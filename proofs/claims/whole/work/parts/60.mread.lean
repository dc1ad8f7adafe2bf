/-! The reference reads a text: tape 107, codes from 624 of 104. -/
def TpM (S : am_S) (tp : Nat → Nat) (to : Nat) : Prop := gI S 97 19 = nI to ∧ to ≤ 40 ∧ ∀ i, i < to → gI S 107 i = nI (tp i) ∧ tp i < 65536
abbrev isD (tp : Nat → Nat) (to p : Nat) : Prop := p < to ∧ 48 ≤ tp p ∧ tp p ≤ 57
theorem wide48 {x : Nat} (h : x < 65536) : (48 ≤ (nI x).toInt64 ∧ (nI x).toInt64 ≤ 57) ↔ (48 ≤ x ∧ x ≤ 57) := by
  rw [show (48 : Int64) = (nI 48).toInt64 from rfl, show (57 : Int64) = (nI 57).toInt64 from rfl, fa_wide_le, fa_wide_le, nI_leI (by omega) (by omega), nI_leI (by omega) (by omega)]
theorem ct_X11_isDigit {d : Nat} {S : am_S} {tp : Nat → Nat} {to p : Nat} (hT : TpM S tp to) (hp : gI S 97 18 = nI p) (hp2 : p ≤ to) : am_CT (d + 2) iX11_isDigit [.ref 97] S (some (.int (b01 (isD tp to p)))) (S) := by
  refine am_CT_in mmX11_isDigit rfl rfl rfl ?_
  obtain ⟨h19, h40, ht⟩ := hT
  have bp : (nI p).toNatClampNeg = p := nI_clamp (by omega)
  have s1 : 0 ≤ nI p := nI_pos' (by omega)
  by_cases hlt : p < to
  · have s2 : nI p < Int32.ofNat 60 := nI_lt (by omega) (by omega)
    have w1 : ¬ nI to ≤ nI p := Int32.not_le.mpr (nI_lt hlt (by omega))
    obtain ⟨t1, t2⟩ := ht p hlt
    refine r_aload_n rfl rfl ?_
    refine r_getI rfl rfl (by decide) (by decide) rfl ?_
    refine r_aload_n rfl rfl ?_
    refine r_getI rfl rfl (by decide) (by decide) rfl ?_
    rw [hp, h19]
    refine r_icmp_ge rfl (fun h8 => ?_) (fun h8 => ?_)
    · exact absurd h8 w1
    · refine r_aload_n rfl rfl ?_
      refine r_getC rfl rfl (by decide) (by decide) rfl ?_
      refine r_aload_n rfl rfl ?_
      refine r_getI rfl rfl (by decide) (by decide) rfl ?_
      rw [hp]
      refine r_iald rfl rfl (by first | decide | assumption) (by first | exact s1 | exact s2 | exact Or.inl rfl | exact Or.inr rfl) (by first | exact s1 | exact s2 | exact Or.inl rfl | exact Or.inr rfl) ?_
      rw [bp, t1]
      refine r_i2l rfl ?_
      refine r_ldc2_w rfl ?_
      refine r_ldc2_w rfl ?_
      refine r_callS rfl (by decide) ct_X11_in rfl rfl (am_cnt rfl) ?_
      refine r_if_eq rfl (fun h30 => ?_) (fun h30 => ?_)
      · rw [b01_eq0, wide48 t2] at h30
        rw [b01_f (fun z => h30 z.2)]
        refine r_iconst rfl ?_
        refine r_zret rfl rfl (by first | exact s1 | exact s2 | exact Or.inl rfl | exact Or.inr rfl) ?_
        exact ⟨rfl, rfl⟩
      · rw [b01_eq0, wide48 t2] at h30
        rw [b01_t ⟨hlt, Decidable.not_not.mp h30⟩]
        refine r_iconst rfl ?_
        refine r_goto rfl ?_
        refine r_zret rfl rfl (by first | exact s1 | exact s2 | exact Or.inl rfl | exact Or.inr rfl) ?_
        exact ⟨rfl, rfl⟩
  · have w1 : nI to ≤ nI p := nI_le (by omega) (by omega)
    have e0 : b01 (isD tp to p) = 0 := b01_f (fun z => hlt z.1)
    rw [e0]
    refine r_aload_n rfl rfl ?_
    refine r_getI rfl rfl (by decide) (by decide) rfl ?_
    refine r_aload_n rfl rfl ?_
    refine r_getI rfl rfl (by decide) (by decide) rfl ?_
    rw [hp, h19]
    refine r_icmp_ge rfl (fun h8 => ?_) (fun h8 => ?_)
    · refine r_iconst rfl ?_
      refine r_zret rfl rfl (by exact Or.inl rfl) ?_
      exact ⟨rfl, rfl⟩
    · exact absurd w1 h8
def amg (tp : Nat → Nat) (to : Nat) (l : List Nat) (p : Nat) : Option Nat := if p < to then ixN (tp p) l 0 else none
def aI : Option Nat → Int32
  | none => -1
  | some i => nI i
theorem ct_X11_among {d : Nat} {S : am_S} {tp : Nat → Nat} {to p i : Nat} (hT : TpM S tp to) (hp : gI S 97 18 = nI p) (hp2 : p ≤ to) (hi : i < 12) (hc : ∀ k, k < (am_str i).length → (am_str i).getD k 0 < 1000) (hl : (am_str i).length ≤ 6) : am_CT (d + 1) iX11_among [.ref 97, .ref (1000000 + i)] S (some (.int (aI (amg tp to (am_str i) p)))) (S) := by
  refine am_CT_in mmX11_among rfl rfl rfl ?_
  obtain ⟨h19, h40, ht⟩ := hT
  have bp : (nI p).toNatClampNeg = p := nI_clamp (by omega)
  have s1 : 0 ≤ nI p := nI_pos' (by omega)
  have o1 : 1000000 + i - 1000000 = i := by omega
  have loop : ∀ (k : Nat) (j : Nat), (j ≤ (am_str i).length) → ((am_str i).length < j + k) → (p < to → ixN (tp p) ((am_str i).drop j) j = ixN (tp p) (am_str i) 0) → am_Ex (am_Call am_MT (d + 0)) mmX11_among none (fun r1 G1 => r1 = (some (.int (aI (amg tp to (am_str i) p)))) ∧ G1 = am_H (S)) (fun _ _ _ _ _ _ => False) 2 [some (.ref 97), some (.ref (1000000 + i)), some (.int (nI j))] [] (am_H (S)) 0 0 := by
    intro k
    induction k with
    | zero =>
      intro j q1 q2 q3
      omega
    | succ k ih =>
      intro j q1 q2 q3
      have bj : (nI j).toNatClampNeg = j := nI_clamp (by omega)
      have s3 : 0 ≤ nI j := nI_pos' (by omega)
      by_cases hj : j = (am_str i).length
      · have w1 : nI (am_str i).length ≤ nI j := nI_le (by omega) (by omega)
        have e0 : amg tp to (am_str i) p = none := by
          unfold amg
          split
          · rename_i h
            rw [← q3 h, hj, List.drop_length]
            rfl
          · rfl
        rw [e0]
        refine r_iload_n rfl rfl ?_
        refine r_aload_n rfl rfl ?_
        refine r_slen rfl (by omega) (by omega) (am_cnt rfl) ?_
        rw [o1]
        refine r_icmp_ge rfl (fun h7 => ?_) (fun h7 => ?_)
        · refine r_iconst rfl ?_
          refine r_iret rfl rfl ?_
          exact ⟨rfl, rfl⟩
        · exact absurd w1 h7
      · have w1 : ¬ nI (am_str i).length ≤ nI j := Int32.not_le.mpr (nI_lt (by omega) (by omega))
        by_cases hlt : p < to
        · have s2 : nI p < Int32.ofNat 60 := nI_lt (by omega) (by omega)
          have w2 : ¬ nI to ≤ nI p := Int32.not_le.mpr (nI_lt hlt (by omega))
          obtain ⟨t1, t2⟩ := ht p hlt
          have cj := hc j (by omega)
          have dr : (am_str i).drop j = (am_str i).getD j 0 :: (am_str i).drop (j + 1) := by
            rw [List.drop_eq_getElem_cons (by omega), List.getD_eq_getElem?_getD, List.getElem?_eq_getElem (by omega)]
            rfl
          have q4 := q3 hlt
          rw [dr, ixN] at q4
          refine r_iload_n rfl rfl ?_
          refine r_aload_n rfl rfl ?_
          refine r_slen rfl (by omega) (by omega) (am_cnt rfl) ?_
          rw [o1]
          refine r_icmp_ge rfl (fun h7 => ?_) (fun h7 => ?_)
          · exact absurd h7 w1
          · refine r_aload_n rfl rfl ?_
            refine r_getI rfl rfl (by decide) (by decide) rfl ?_
            refine r_aload_n rfl rfl ?_
            refine r_getI rfl rfl (by decide) (by decide) rfl ?_
            rw [hp, h19]
            refine r_icmp_ge rfl (fun h18 => ?_) (fun h18 => ?_)
            · exact absurd h18 w2
            · refine r_aload_n rfl rfl ?_
              refine r_iload_n rfl rfl ?_
              refine r_schar rfl (by omega) (by omega) (by rw [o1]; exact fun z => z.elim (nI_neg (by omega)) (fun y => by rw [bj] at y; omega)) (am_cnt rfl) ?_
              rw [o1, bj]
              refine r_aload_n rfl rfl ?_
              refine r_getC rfl rfl (by decide) (by decide) rfl ?_
              refine r_aload_n rfl rfl ?_
              refine r_getI rfl rfl (by decide) (by decide) rfl ?_
              rw [hp]
              refine r_iald rfl rfl (by first | decide | assumption) (by first | exact s1 | exact s2) (by first | exact s1 | exact s2) ?_
              rw [bp, t1]
              refine r_icmp_ne rfl (fun h35 => ?_) (fun h35 => ?_)
              · rw [nI_eq (by omega) (by omega)] at h35
                rw [if_neg (fun z => h35 z.symm)] at q4
                refine r_iinc (L2 := [_, _, _]) rfl rfl rfl ?_
                refine r_goto rfl ?_
                rw [nI_1]
                exact ih (j + 1) (by omega) (by omega) (fun _ => q4)
              · rw [nI_eq (by omega) (by omega)] at h35
                rw [if_pos h35.symm] at q4
                rw [show amg tp to (am_str i) p = some j from by rw [amg, if_pos hlt, ← q4]]
                refine r_iload_n rfl rfl ?_
                refine r_iret rfl rfl ?_
                exact ⟨rfl, rfl⟩
        · have w2 : nI to ≤ nI p := nI_le (by omega) (by omega)
          have e0 : amg tp to (am_str i) p = none := if_neg hlt
          rw [e0]
          refine r_iload_n rfl rfl ?_
          refine r_aload_n rfl rfl ?_
          refine r_slen rfl (by omega) (by omega) (am_cnt rfl) ?_
          rw [o1]
          refine r_icmp_ge rfl (fun h7 => ?_) (fun h7 => ?_)
          · exact absurd h7 w1
          · refine r_aload_n rfl rfl ?_
            refine r_getI rfl rfl (by decide) (by decide) rfl ?_
            refine r_aload_n rfl rfl ?_
            refine r_getI rfl rfl (by decide) (by decide) rfl ?_
            rw [hp, h19]
            refine r_icmp_ge rfl (fun h18 => ?_) (fun h18 => ?_)
            · refine r_iconst rfl ?_
              refine r_iret rfl rfl ?_
              exact ⟨rfl, rfl⟩
            · exact absurd w2 h18
  refine r_iconst rfl ?_
  refine r_istore_n (L2 := [_, _, _]) rfl rfl ?_
  exact loop 7 0 (by omega) (by omega) (fun _ => rfl)
theorem ct_X11_marks {d : Nat} {S : am_S} {n : Nat} {x : Int32} (hn : gI S 105 13 = nI n) (hb : n < 48) : am_CT (d + 1) iX11_marks [.ref 97, .int x] S (none) (uI (uI S 104 (624 + n) x) 105 13 (nI (n + 1))) := by
  refine am_CT_in mmX11_marks rfl rfl rfl ?_
  have e1 : (624 : Int32) + nI n = nI (624 + n) := nI_add 624 n
  have b1 : (nI (624 + n)).toNatClampNeg = 624 + n := nI_clamp (by omega)
  have s1 : 0 ≤ nI (624 + n) := nI_pos' (by omega)
  have s2 : nI (624 + n) < Int32.ofNat 672 := nI_lt (by omega) (by omega)
  have c13 : (13 : Int32).toNatClampNeg = 13 := by decide
  refine r_aload_n rfl rfl ?_
  refine r_getC rfl rfl (by decide) (by decide) rfl ?_
  refine r_sipush rfl ?_
  refine r_aload_n rfl rfl ?_
  refine r_getC rfl rfl (by decide) (by decide) rfl ?_
  refine r_bipush rfl ?_
  refine r_iald rfl rfl (by first | decide | assumption) (by first | decide | exact s1 | exact s2) (by first | decide | exact s1 | exact s2) ?_
  rw [c13, hn]
  refine r_iadd rfl ?_
  rw [e1]
  refine r_iload_n rfl rfl ?_
  refine r_iast rfl rfl (by first | decide | assumption) (by first | decide | exact s1 | exact s2) (by first | decide | exact s1 | exact s2) ?_
  refine r_aload_n rfl rfl ?_
  refine r_getC rfl rfl (by decide) (by decide) rfl ?_
  refine r_bipush rfl ?_
  refine r_dup2 rfl rfl rfl ?_
  refine r_iald rfl rfl (by first | decide | assumption) (by first | decide | exact s1 | exact s2) (by first | decide | exact s1 | exact s2) ?_
  rw [c13, gI_uI_ne (by decide), hn]
  refine r_iconst rfl ?_
  refine r_iadd rfl ?_
  refine r_iast rfl rfl (by first | decide | assumption) (by first | decide | exact s1 | exact s2) (by first | decide | exact s1 | exact s2) ?_
  refine r_vret rfl ?_
  rw [b1, nI_1]
  exact ⟨rfl, rfl⟩
