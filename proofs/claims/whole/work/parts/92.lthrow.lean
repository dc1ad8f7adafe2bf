/-! What the class throws; the law's helpers. -/
abbrev xst (q : Nat) (st0 : List Value) (G : am_G) : am_P := fun pc _ st G1 nc ns => q = pc ∧ st0 = st ∧ G = G1 ∧ 0 = nc ∧ 0 = ns
theorem tx_does {S : am_S} {p w : Int32} (h : ¬ (hasP S p ∧ 0 ≤ w ∧ w ≤ 1)) : am_Ex (am_Call am_MT 750) (mmT mmX10_does) none (fun _ _ => False) (xst 20 [] (am_H S)) 0 (am_entL (am_mL (mmT mmX10_does)) [.ref 0, .int p, .int w]) [] (am_H S) 0 0 := by
  refine r_aload_n rfl rfl ?_
  refine r_getC rfl rfl (by decide) (by decide) rfl ?_
  refine r_iload_n rfl rfl ?_
  refine r_callV rfl ct_X9_has rfl rfl rfl (by decide) rfl (am_cnt rfl) ?_
  refine r_if_eq rfl (fun h8 => ?_) (fun h8 => ?_)
  · exact r_newX rfl ⟨rfl, rfl, rfl, rfl, rfl⟩
  · refine r_iload_n rfl rfl ?_
    refine r_if_lt rfl (fun h12 => ?_) (fun h12 => ?_)
    · exact r_newX rfl ⟨rfl, rfl, rfl, rfl, rfl⟩
    · refine r_iload_n rfl rfl ?_
      refine r_iconst rfl ?_
      refine r_icmp_le rfl (fun h17 => ?_) (fun h17 => ?_)
      · exfalso
        simp only [b01_eq0] at *
        grind
      · exact r_newX rfl ⟨rfl, rfl, rfl, rfl, rfl⟩
theorem tx_go {S : am_S} {m : Int32} (h : ¬ (0 ≤ m ∧ m ≤ 199)) : am_Ex (am_Call am_MT 750) (mmT mmX10_go) none (fun _ _ => False) (xst 11 [] (am_H S)) 0 (am_entL (am_mL (mmT mmX10_go)) [.ref 0, .int m]) [] (am_H S) 0 0 := by
  refine r_iload_n rfl rfl ?_
  refine r_iconst rfl ?_
  refine r_sipush rfl ?_
  refine r_callS rfl (by decide) ct_X10_isWithin rfl rfl (am_cnt rfl) ?_
  refine r_if_ne rfl (fun h8 => ?_) (fun h8 => ?_)
  · exfalso
    simp only [b01_eq0] at *
    grind
  · exact r_newX rfl ⟨rfl, rfl, rfl, rfl, rfl⟩
theorem tx_place {S : am_S} {m : Int32} (h : ¬ (0 ≤ m ∧ m ≤ gI S 54 0)) : am_Ex (am_Call am_MT 750) (mmT mmX10_place) none (fun _ _ => False) (xst 15 [] (am_H S)) 0 (am_entL (am_mL (mmT mmX10_place)) [.ref 0, .int m]) [] (am_H S) 0 0 := by
  refine r_iload_n rfl rfl ?_
  refine r_iconst rfl ?_
  refine r_aload_n rfl rfl ?_
  refine r_getC rfl rfl (by decide) (by decide) rfl ?_
  refine r_getI rfl rfl (by decide) (by decide) rfl ?_
  refine r_callS rfl (by decide) ct_X10_isWithin rfl rfl (am_cnt rfl) ?_
  refine r_if_ne rfl (fun h12 => ?_) (fun h12 => ?_)
  · exfalso
    simp only [b01_eq0] at *
    grind
  · exact r_newX rfl ⟨rfl, rfl, rfl, rfl, rfl⟩
theorem tx_was {S : am_S} {p m w : Int32} (h : ¬ (hasP S p ∧ (0 ≤ m ∧ m ≤ gI S 54 0 - 1) ∧ 0 ≤ w ∧ w ≤ 3)) : am_Ex (am_Call am_MT 750) (mmT mmX10_was) none (fun _ _ => False) (xst 37 [] (am_H S)) 0 (am_entL (am_mL (mmT mmX10_was)) [.ref 0, .int p, .int m, .int w]) [] (am_H S) 0 0 := by
  refine r_aload_n rfl rfl ?_
  refine r_getC rfl rfl (by decide) (by decide) rfl ?_
  refine r_iload_n rfl rfl ?_
  refine r_callV rfl ct_X9_has rfl rfl rfl (by decide) rfl (am_cnt rfl) ?_
  refine r_if_eq rfl (fun h8 => ?_) (fun h8 => ?_)
  · exact r_newX rfl ⟨rfl, rfl, rfl, rfl, rfl⟩
  · refine r_iload_n rfl rfl ?_
    refine r_iconst rfl ?_
    refine r_aload_n rfl rfl ?_
    refine r_getC rfl rfl (by decide) (by decide) rfl ?_
    refine r_getI rfl rfl (by decide) (by decide) rfl ?_
    refine r_iconst rfl ?_
    refine r_isub rfl ?_
    refine r_callS rfl (by decide) ct_X10_isWithin rfl rfl (am_cnt rfl) ?_
    refine r_if_eq rfl (fun h25 => ?_) (fun h25 => ?_)
    · exact r_newX rfl ⟨rfl, rfl, rfl, rfl, rfl⟩
    · refine r_iload_n rfl rfl ?_
      refine r_if_lt rfl (fun h29 => ?_) (fun h29 => ?_)
      · exact r_newX rfl ⟨rfl, rfl, rfl, rfl, rfl⟩
      · refine r_iload_n rfl rfl ?_
        refine r_iconst rfl ?_
        refine r_icmp_le rfl (fun h34 => ?_) (fun h34 => ?_)
        · exfalso
          simp only [b01_eq0] at *
          grind
        · exact r_newX rfl ⟨rfl, rfl, rfl, rfl, rfl⟩
theorem tx_row {S : am_S} {i : Int32} (h : ¬ (0 ≤ i ∧ i < gI S 74 1)) : am_Ex (am_Call am_MT 750) (mmT mmX10_row) none (fun _ _ => False) (xst 15 [] (am_H S)) 0 (am_entL (am_mL (mmT mmX10_row)) [.ref 0, .int i]) [] (am_H S) 0 0 := by
  refine r_iload_n rfl rfl ?_
  refine r_if_lt rfl (fun h1 => ?_) (fun h1 => ?_)
  · exact r_newX rfl ⟨rfl, rfl, rfl, rfl, rfl⟩
  · refine r_iload_n rfl rfl ?_
    refine r_aload_n rfl rfl ?_
    refine r_getC rfl rfl (by decide) (by decide) rfl ?_
    refine r_getI rfl rfl (by decide) (by decide) rfl ?_
    refine r_icmp_lt rfl (fun h12 => ?_) (fun h12 => ?_)
    · exfalso
      grind
    · exact r_newX rfl ⟨rfl, rfl, rfl, rfl, rfl⟩
