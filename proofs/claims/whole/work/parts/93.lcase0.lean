/-! The law, case by case (0 .. 11). -/
theorem lw_c0 {N : Nat} {xs : Nat → Int32} {Q : Option Value → am_G → Prop} {X : am_P} {i : Int32} {o5 o6 o7 : Option Value} {nc ns : Nat} {S : am_S} (R : RM S) (V : LwV N i) (K : LwK (some (N, xs)) Q X i nc ns) (h5 : ivO o5) (h6 : ivO o6) (h7 : ivO o7) : am_Ex (am_Call am_MT 750) mmL_law (some (N, xs)) Q X 240 (LL i o5 o6 o7) [] (am_H S) nc ns := by
  obtain ⟨x, P, hA, hB⟩ := jn_person (d := 50) R (xs (i + 1).toNatClampNeg) (xs (i + 2).toNatClampNeg) (xs (i + 3).toNatClampNeg)
  refine r_aload_n rfl rfl ?_
  refine r_aload_n rfl rfl ?_
  refine r_iload rfl rfl ?_
  refine r_iconst rfl ?_
  refine r_iadd rfl ?_
  refine r_sld rfl V.2.1 ?_
  refine r_aload_n rfl rfl ?_
  refine r_iload rfl rfl ?_
  refine r_iconst rfl ?_
  refine r_iadd rfl ?_
  refine r_sld rfl V.2.2.1 ?_
  refine r_aload_n rfl rfl ?_
  refine r_iload rfl rfl ?_
  refine r_iconst rfl ?_
  refine r_iadd rfl ?_
  refine r_sld rfl V.2.2.2.1 ?_
  refine r_callVX rfl hA rfl rfl rfl (by decide) rfl (am_cnt rfl) (fun T hT => ?_)
  obtain ⟨Q1, hQ, hR⟩ := hB T hT
  refine r_aload_n rfl rfl ?_
  refine r_aload_n rfl rfl ?_
  refine r_iload rfl rfl ?_
  refine r_iconst rfl ?_
  refine r_iadd rfl ?_
  refine r_sld rfl V.2.1 ?_
  refine r_aload_n rfl rfl ?_
  refine r_iload rfl rfl ?_
  refine r_iconst rfl ?_
  refine r_iadd rfl ?_
  refine r_sld rfl V.2.2.1 ?_
  refine r_aload_n rfl rfl ?_
  refine r_iload rfl rfl ?_
  refine r_iconst rfl ?_
  refine r_iadd rfl ?_
  refine r_sld rfl V.2.2.2.1 ?_
  refine r_callVX rfl hQ rfl rfl rfl (by decide) rfl (am_cnt rfl) (fun U hU => ?_)
  refine r_icmp_eq rfl (fun _ => ?_) (fun h => absurd rfl h)
  exact K U o5 o6 o7 _ _ (hR U hU) h5 h6 h7 (by omega) (by omega)
theorem lw_c1 {N : Nat} {xs : Nat → Int32} {Q : Option Value → am_G → Prop} {X : am_P} {i : Int32} {o5 o6 o7 : Option Value} {nc ns : Nat} {S : am_S} (R : RM S) (V : LwV N i) (K : LwK (some (N, xs)) Q X i nc ns) (h5 : ivO o5) (h6 : ivO o6) (h7 : ivO o7) : am_Ex (am_Call am_MT 750) mmL_law (some (N, xs)) Q X 289 (LL i o5 o6 o7) [] (am_H S) nc ns := by
  obtain ⟨x, P, hA, hB⟩ := jn_set (d := 50) R (xs (i + 1).toNatClampNeg) (xs (i + 2).toNatClampNeg) (xs (i + 3).toNatClampNeg)
  refine r_aload_n rfl rfl ?_
  refine r_aload_n rfl rfl ?_
  refine r_iload rfl rfl ?_
  refine r_iconst rfl ?_
  refine r_iadd rfl ?_
  refine r_sld rfl V.2.1 ?_
  refine r_aload_n rfl rfl ?_
  refine r_iload rfl rfl ?_
  refine r_iconst rfl ?_
  refine r_iadd rfl ?_
  refine r_sld rfl V.2.2.1 ?_
  refine r_aload_n rfl rfl ?_
  refine r_iload rfl rfl ?_
  refine r_iconst rfl ?_
  refine r_iadd rfl ?_
  refine r_sld rfl V.2.2.2.1 ?_
  refine r_callVX rfl hA rfl rfl rfl (by decide) rfl (am_cnt rfl) (fun T hT => ?_)
  obtain ⟨Q1, hQ, hR⟩ := hB T hT
  refine r_aload_n rfl rfl ?_
  refine r_aload_n rfl rfl ?_
  refine r_iload rfl rfl ?_
  refine r_iconst rfl ?_
  refine r_iadd rfl ?_
  refine r_sld rfl V.2.1 ?_
  refine r_aload_n rfl rfl ?_
  refine r_iload rfl rfl ?_
  refine r_iconst rfl ?_
  refine r_iadd rfl ?_
  refine r_sld rfl V.2.2.1 ?_
  refine r_aload_n rfl rfl ?_
  refine r_iload rfl rfl ?_
  refine r_iconst rfl ?_
  refine r_iadd rfl ?_
  refine r_sld rfl V.2.2.2.1 ?_
  refine r_callVX rfl hQ rfl rfl rfl (by decide) rfl (am_cnt rfl) (fun U hU => ?_)
  refine r_icmp_eq rfl (fun _ => ?_) (fun h => absurd rfl h)
  exact K U o5 o6 o7 _ _ (hR U hU) h5 h6 h7 (by omega) (by omega)
theorem lw_c2 {N : Nat} {xs : Nat → Int32} {Q : Option Value → am_G → Prop} {X : am_P} {i : Int32} {o5 o6 o7 : Option Value} {nc ns : Nat} {S : am_S} (R : RM S) (V : LwV N i) (K : LwK (some (N, xs)) Q X i nc ns) (h5 : ivO o5) (h6 : ivO o6) (h7 : ivO o7) : am_Ex (am_Call am_MT 750) mmL_law (some (N, xs)) Q X 338 (LL i o5 o6 o7) [] (am_H S) nc ns := by
  refine r_aload_n rfl rfl ?_
  refine r_aload_n rfl rfl ?_
  refine r_iload rfl rfl ?_
  refine r_iconst rfl ?_
  refine r_iadd rfl ?_
  refine r_sld rfl V.2.1 ?_
  refine r_aload_n rfl rfl ?_
  refine r_iload rfl rfl ?_
  refine r_iconst rfl ?_
  refine r_iadd rfl ?_
  refine r_sld rfl V.2.2.1 ?_
  refine r_aload_n rfl rfl ?_
  refine r_iload rfl rfl ?_
  refine r_iconst rfl ?_
  refine r_iadd rfl ?_
  refine r_sld rfl V.2.2.2.1 ?_
  refine r_aload_n rfl rfl ?_
  refine r_iload rfl rfl ?_
  refine r_iconst rfl ?_
  refine r_iadd rfl ?_
  refine r_sld rfl V.2.2.2.2.1 ?_
  refine r_if_eq rfl (fun hz => ?_) (fun hz => ?_)
  · refine r_iconst rfl ?_
    obtain ⟨x, P, hA, hB⟩ := jn_link (d := 50) R (xs (i + 1).toNatClampNeg) (xs (i + 2).toNatClampNeg) (xs (i + 3).toNatClampNeg) 0
    refine r_callVX rfl hA rfl rfl rfl (by decide) rfl (am_cnt rfl) (fun T hT => ?_)
    obtain ⟨Q1, hQ, hR⟩ := hB T hT
    refine r_aload_n rfl rfl ?_
    refine r_aload_n rfl rfl ?_
    refine r_iload rfl rfl ?_
    refine r_iconst rfl ?_
    refine r_iadd rfl ?_
    refine r_sld rfl V.2.1 ?_
    refine r_aload_n rfl rfl ?_
    refine r_iload rfl rfl ?_
    refine r_iconst rfl ?_
    refine r_iadd rfl ?_
    refine r_sld rfl V.2.2.1 ?_
    refine r_aload_n rfl rfl ?_
    refine r_iload rfl rfl ?_
    refine r_iconst rfl ?_
    refine r_iadd rfl ?_
    refine r_sld rfl V.2.2.2.1 ?_
    refine r_aload_n rfl rfl ?_
    refine r_iload rfl rfl ?_
    refine r_iconst rfl ?_
    refine r_iadd rfl ?_
    refine r_sld rfl V.2.2.2.2.1 ?_
    refine r_if_eq rfl (fun _ => ?_) (fun h => absurd hz h)
    refine r_iconst rfl ?_
    refine r_callVX rfl hQ rfl rfl rfl (by decide) rfl (am_cnt rfl) (fun U hU => ?_)
    refine r_icmp_eq rfl (fun _ => ?_) (fun h => absurd rfl h)
    exact K U o5 o6 o7 _ _ (hR U hU) h5 h6 h7 (by omega) (by omega)
  · refine r_iconst rfl ?_
    refine r_goto rfl ?_
    obtain ⟨x, P, hA, hB⟩ := jn_link (d := 50) R (xs (i + 1).toNatClampNeg) (xs (i + 2).toNatClampNeg) (xs (i + 3).toNatClampNeg) 1
    refine r_callVX rfl hA rfl rfl rfl (by decide) rfl (am_cnt rfl) (fun T hT => ?_)
    obtain ⟨Q1, hQ, hR⟩ := hB T hT
    refine r_aload_n rfl rfl ?_
    refine r_aload_n rfl rfl ?_
    refine r_iload rfl rfl ?_
    refine r_iconst rfl ?_
    refine r_iadd rfl ?_
    refine r_sld rfl V.2.1 ?_
    refine r_aload_n rfl rfl ?_
    refine r_iload rfl rfl ?_
    refine r_iconst rfl ?_
    refine r_iadd rfl ?_
    refine r_sld rfl V.2.2.1 ?_
    refine r_aload_n rfl rfl ?_
    refine r_iload rfl rfl ?_
    refine r_iconst rfl ?_
    refine r_iadd rfl ?_
    refine r_sld rfl V.2.2.2.1 ?_
    refine r_aload_n rfl rfl ?_
    refine r_iload rfl rfl ?_
    refine r_iconst rfl ?_
    refine r_iadd rfl ?_
    refine r_sld rfl V.2.2.2.2.1 ?_
    refine r_if_eq rfl (fun h => absurd h hz) (fun _ => ?_)
    refine r_iconst rfl ?_
    refine r_goto rfl ?_
    refine r_callVX rfl hQ rfl rfl rfl (by decide) rfl (am_cnt rfl) (fun U hU => ?_)
    refine r_icmp_eq rfl (fun _ => ?_) (fun h => absurd rfl h)
    exact K U o5 o6 o7 _ _ (hR U hU) h5 h6 h7 (by omega) (by omega)
theorem lw_c3 {N : Nat} {xs : Nat → Int32} {Q : Option Value → am_G → Prop} {X : am_P} {i : Int32} {o5 o6 o7 : Option Value} {nc ns : Nat} {S : am_S} (R : RM S) (V : LwV N i) (K : LwK (some (N, xs)) Q X i nc ns) (h5 : ivO o5) (h6 : ivO o6) (h7 : ivO o7) : am_Ex (am_Call am_MT 750) mmL_law (some (N, xs)) Q X 415 (LL i o5 o6 o7) [] (am_H S) nc ns := by
  obtain ⟨x, P, hA, hB⟩ := jn_beam (d := 50) R (xs (i + 1).toNatClampNeg) (xs (i + 2).toNatClampNeg)
  refine r_aload_n rfl rfl ?_
  refine r_aload_n rfl rfl ?_
  refine r_iload rfl rfl ?_
  refine r_iconst rfl ?_
  refine r_iadd rfl ?_
  refine r_sld rfl V.2.1 ?_
  refine r_aload_n rfl rfl ?_
  refine r_iload rfl rfl ?_
  refine r_iconst rfl ?_
  refine r_iadd rfl ?_
  refine r_sld rfl V.2.2.1 ?_
  refine r_callVX rfl hA rfl rfl rfl (by decide) rfl (am_cnt rfl) (fun T hT => ?_)
  obtain ⟨Q1, hQ, hR⟩ := hB T hT
  refine r_aload_n rfl rfl ?_
  refine r_aload_n rfl rfl ?_
  refine r_iload rfl rfl ?_
  refine r_iconst rfl ?_
  refine r_iadd rfl ?_
  refine r_sld rfl V.2.1 ?_
  refine r_aload_n rfl rfl ?_
  refine r_iload rfl rfl ?_
  refine r_iconst rfl ?_
  refine r_iadd rfl ?_
  refine r_sld rfl V.2.2.1 ?_
  refine r_callVX rfl hQ rfl rfl rfl (by decide) rfl (am_cnt rfl) (fun U hU => ?_)
  refine r_icmp_eq rfl (fun _ => ?_) (fun h => absurd rfl h)
  exact K U o5 o6 o7 _ _ (hR U hU) h5 h6 h7 (by omega) (by omega)
theorem lw_c4 {N : Nat} {xs : Nat → Int32} {Q : Option Value → am_G → Prop} {X : am_P} {i : Int32} {o5 o6 o7 : Option Value} {nc ns : Nat} {S : am_S} (R : RM S) (V : LwV N i) (K : LwK (some (N, xs)) Q X i nc ns) (h5 : ivO o5) (h6 : ivO o6) (h7 : ivO o7) : am_Ex (am_Call am_MT 750) mmL_law (some (N, xs)) Q X 452 (LL i o5 o6 o7) [] (am_H S) nc ns := by
  obtain ⟨x, P, hA, hB⟩ := jn_sheet (d := 50) R (xs (i + 1).toNatClampNeg) (xs (i + 2).toNatClampNeg) (xs (i + 3).toNatClampNeg) (xs (i + 4).toNatClampNeg)
  refine r_aload_n rfl rfl ?_
  refine r_aload_n rfl rfl ?_
  refine r_iload rfl rfl ?_
  refine r_iconst rfl ?_
  refine r_iadd rfl ?_
  refine r_sld rfl V.2.1 ?_
  refine r_aload_n rfl rfl ?_
  refine r_iload rfl rfl ?_
  refine r_iconst rfl ?_
  refine r_iadd rfl ?_
  refine r_sld rfl V.2.2.1 ?_
  refine r_aload_n rfl rfl ?_
  refine r_iload rfl rfl ?_
  refine r_iconst rfl ?_
  refine r_iadd rfl ?_
  refine r_sld rfl V.2.2.2.1 ?_
  refine r_aload_n rfl rfl ?_
  refine r_iload rfl rfl ?_
  refine r_iconst rfl ?_
  refine r_iadd rfl ?_
  refine r_sld rfl V.2.2.2.2.1 ?_
  refine r_callVX rfl hA rfl rfl rfl (by decide) rfl (am_cnt rfl) (fun T hT => ?_)
  obtain ⟨Q1, hQ, hR⟩ := hB T hT
  refine r_aload_n rfl rfl ?_
  refine r_aload_n rfl rfl ?_
  refine r_iload rfl rfl ?_
  refine r_iconst rfl ?_
  refine r_iadd rfl ?_
  refine r_sld rfl V.2.1 ?_
  refine r_aload_n rfl rfl ?_
  refine r_iload rfl rfl ?_
  refine r_iconst rfl ?_
  refine r_iadd rfl ?_
  refine r_sld rfl V.2.2.1 ?_
  refine r_aload_n rfl rfl ?_
  refine r_iload rfl rfl ?_
  refine r_iconst rfl ?_
  refine r_iadd rfl ?_
  refine r_sld rfl V.2.2.2.1 ?_
  refine r_aload_n rfl rfl ?_
  refine r_iload rfl rfl ?_
  refine r_iconst rfl ?_
  refine r_iadd rfl ?_
  refine r_sld rfl V.2.2.2.2.1 ?_
  refine r_callVX rfl hQ rfl rfl rfl (by decide) rfl (am_cnt rfl) (fun U hU => ?_)
  refine r_icmp_eq rfl (fun _ => ?_) (fun h => absurd rfl h)
  exact K U o5 o6 o7 _ _ (hR U hU) h5 h6 h7 (by omega) (by omega)
theorem lw_c5 {N : Nat} {xs : Nat → Int32} {Q : Option Value → am_G → Prop} {X : am_P} {i : Int32} {o5 o6 o7 : Option Value} {nc ns : Nat} {S : am_S} (R : RM S) (V : LwV N i) (K : LwK (some (N, xs)) Q X i nc ns) (h5 : ivO o5) (h6 : ivO o6) (h7 : ivO o7) : am_Ex (am_Call am_MT 750) mmL_law (some (N, xs)) Q X 513 (LL i o5 o6 o7) [] (am_H S) nc ns := by
  obtain ⟨x, P, hA, hB⟩ := jn_sign (d := 50) R (xs (i + 1).toNatClampNeg)
  refine r_aload_n rfl rfl ?_
  refine r_aload_n rfl rfl ?_
  refine r_iload rfl rfl ?_
  refine r_iconst rfl ?_
  refine r_iadd rfl ?_
  refine r_sld rfl V.2.1 ?_
  refine r_callVX rfl hA rfl rfl rfl (by decide) rfl (am_cnt rfl) (fun T hT => ?_)
  obtain ⟨Q1, hQ, hR⟩ := hB T hT
  refine r_aload_n rfl rfl ?_
  refine r_aload_n rfl rfl ?_
  refine r_iload rfl rfl ?_
  refine r_iconst rfl ?_
  refine r_iadd rfl ?_
  refine r_sld rfl V.2.1 ?_
  refine r_callVX rfl hQ rfl rfl rfl (by decide) rfl (am_cnt rfl) (fun U hU => ?_)
  refine r_icmp_eq rfl (fun _ => ?_) (fun h => absurd rfl h)
  exact K U o5 o6 o7 _ _ (hR U hU) h5 h6 h7 (by omega) (by omega)
theorem lw_c6 {N : Nat} {xs : Nat → Int32} {Q : Option Value → am_G → Prop} {X : am_P} {i : Int32} {o5 o6 o7 : Option Value} {nc ns : Nat} {S : am_S} (R : RM S) (V : LwV N i) (K : LwK (some (N, xs)) Q X i nc ns) (h5 : ivO o5) (h6 : ivO o6) (h7 : ivO o7) : am_Ex (am_Call am_MT 750) mmL_law (some (N, xs)) Q X 538 (LL i o5 o6 o7) [] (am_H S) nc ns := by
  obtain ⟨x, P, hA, hB⟩ := jn_end (d := 50) R (xs (i + 1).toNatClampNeg)
  refine r_aload_n rfl rfl ?_
  refine r_aload_n rfl rfl ?_
  refine r_iload rfl rfl ?_
  refine r_iconst rfl ?_
  refine r_iadd rfl ?_
  refine r_sld rfl V.2.1 ?_
  refine r_callVX rfl hA rfl rfl rfl (by decide) rfl (am_cnt rfl) (fun T hT => ?_)
  obtain ⟨Q1, hQ, hR⟩ := hB T hT
  refine r_aload_n rfl rfl ?_
  refine r_aload_n rfl rfl ?_
  refine r_iload rfl rfl ?_
  refine r_iconst rfl ?_
  refine r_iadd rfl ?_
  refine r_sld rfl V.2.1 ?_
  refine r_callVX rfl hQ rfl rfl rfl (by decide) rfl (am_cnt rfl) (fun U hU => ?_)
  refine r_icmp_eq rfl (fun _ => ?_) (fun h => absurd rfl h)
  exact K U o5 o6 o7 _ _ (hR U hU) h5 h6 h7 (by omega) (by omega)
theorem lw_c7 {N : Nat} {xs : Nat → Int32} {Q : Option Value → am_G → Prop} {X : am_P} {i : Int32} {o5 o6 o7 : Option Value} {nc ns : Nat} {S : am_S} (R : RM S) (V : LwV N i) (K : LwK (some (N, xs)) Q X i nc ns) (h5 : ivO o5) (h6 : ivO o6) (h7 : ivO o7) : am_Ex (am_Call am_MT 750) mmL_law (some (N, xs)) Q X 563 (LL i o5 o6 o7) [] (am_H S) nc ns := by
  obtain ⟨x, P, hA, hB⟩ := jn_rule (d := 50) R (xs (i + 1).toNatClampNeg)
  refine r_aload_n rfl rfl ?_
  refine r_aload_n rfl rfl ?_
  refine r_iload rfl rfl ?_
  refine r_iconst rfl ?_
  refine r_iadd rfl ?_
  refine r_sld rfl V.2.1 ?_
  refine r_callVX rfl hA rfl rfl rfl (by decide) rfl (am_cnt rfl) (fun T hT => ?_)
  obtain ⟨Q1, hQ, hR⟩ := hB T hT
  refine r_aload_n rfl rfl ?_
  refine r_aload_n rfl rfl ?_
  refine r_iload rfl rfl ?_
  refine r_iconst rfl ?_
  refine r_iadd rfl ?_
  refine r_sld rfl V.2.1 ?_
  refine r_callVX rfl hQ rfl rfl rfl (by decide) rfl (am_cnt rfl) (fun U hU => ?_)
  refine r_icmp_eq rfl (fun _ => ?_) (fun h => absurd rfl h)
  exact K U o5 o6 o7 _ _ (hR U hU) h5 h6 h7 (by omega) (by omega)
theorem lw_c8 {N : Nat} {xs : Nat → Int32} {Q : Option Value → am_G → Prop} {X : am_P} {i : Int32} {o5 o6 o7 : Option Value} {nc ns : Nat} {S : am_S} (R : RM S) (V : LwV N i) (K : LwK (some (N, xs)) Q X i nc ns) (h5 : ivO o5) (h6 : ivO o6) (h7 : ivO o7) (hc : nc + 1 ≤ 601024) (hs : ns + 6 ≤ 7293034) (HH : ∀ (S : am_S) (p w : Int32), RM S → LwH (some (N, xs)) Q X 602 [.ref 130, .int w, .int p, .ref 0] S (HpO Value.int Int32.toInt64 iX11_does [.ref 97, .int p, .int w] S)) : am_Ex (am_Call am_MT 750) mmL_law (some (N, xs)) Q X 588 (LL i o5 o6 o7) [] (am_H S) nc ns := by
  refine r_aload_n rfl rfl ?_
  refine r_aload_n rfl rfl ?_
  refine r_iload rfl rfl ?_
  refine r_iconst rfl ?_
  refine r_iadd rfl ?_
  refine r_sld rfl V.2.1 ?_
  refine r_aload_n rfl rfl ?_
  refine r_iload rfl rfl ?_
  refine r_iconst rfl ?_
  refine r_iadd rfl ?_
  refine r_sld rfl V.2.2.1 ?_
  refine r_aload_n rfl rfl ?_
  refine r_statX rfl (HH S (xs (i + 1).toNatClampNeg) (xs (i + 2).toNatClampNeg) R _ _ _ (LL_wf h5 h6 h7) hc hs (fun r G1 hO => ?_))
  rcases hO with ⟨rfl, x, T, rfl, Q1, hQ, hU9⟩ | ⟨rfl, rfl, x, Q1, hQ, hU9⟩
  · refine r_istore (L2 := LL i (some (.int 0)) o6 o7) rfl rfl ?_
    refine r_aload_n rfl rfl ?_
    refine r_aload_n rfl rfl ?_
    refine r_iload rfl rfl ?_
    refine r_iconst rfl ?_
    refine r_iadd rfl ?_
    refine r_sld rfl V.2.1 ?_
    refine r_aload_n rfl rfl ?_
    refine r_iload rfl rfl ?_
    refine r_iconst rfl ?_
    refine r_iadd rfl ?_
    refine r_sld rfl V.2.2.1 ?_
    refine r_callVX rfl hQ rfl rfl rfl (by decide) rfl (am_cnt rfl) (fun U hU => ?_)
    obtain ⟨hR, h0, hJ⟩ := hU9 U hU
    refine r_istore (L2 := LL i (some (.int 0)) (some (.int x)) o7) rfl rfl ?_
    refine r_aload_n rfl rfl ?_
    refine r_callV rfl (ct_X11_thrown (d := 749)) rfl rfl rfl (by decide) rfl (am_cnt rfl) ?_
    refine r_iload rfl rfl ?_
    refine r_icmp_eq rfl (fun _ => ?_) (fun h => absurd h0 h)
    refine r_iload rfl rfl ?_
    refine r_if_ne rfl (fun h => absurd rfl h) (fun _ => ?_)
    refine r_aload_n rfl rfl ?_
    refine r_iconst rfl ?_
    refine r_lald rfl rfl (by decide) (by decide) (by decide) ?_
    refine r_iload rfl rfl ?_
    refine r_i2l rfl ?_
    refine r_lcmp rfl ?_
    have e0 : gJ U 130 (0 : Int32).toNatClampNeg = x.toInt64 := hJ
    refine r_if_eq rfl (fun _ => ?_) (fun h => absurd (by rw [e0]; exact lg_same) h)
    refine r_goto rfl ?_
    exact K U _ _ _ _ _ hR iv_i iv_i h7 (by omega) (by omega)
  · refine r_istore (L2 := LL i (some (.int 1)) o6 o7) rfl rfl ?_
    refine r_aload_n rfl rfl ?_
    refine r_aload_n rfl rfl ?_
    refine r_iload rfl rfl ?_
    refine r_iconst rfl ?_
    refine r_iadd rfl ?_
    refine r_sld rfl V.2.1 ?_
    refine r_aload_n rfl rfl ?_
    refine r_iload rfl rfl ?_
    refine r_iconst rfl ?_
    refine r_iadd rfl ?_
    refine r_sld rfl V.2.2.1 ?_
    refine r_callVX rfl hQ rfl rfl rfl (by decide) rfl (am_cnt rfl) (fun U hU => ?_)
    obtain ⟨hR, h0⟩ := hU9 U hU
    refine r_istore (L2 := LL i (some (.int 1)) (some (.int x)) o7) rfl rfl ?_
    refine r_aload_n rfl rfl ?_
    refine r_callV rfl (ct_X11_thrown (d := 749)) rfl rfl rfl (by decide) rfl (am_cnt rfl) ?_
    refine r_iload rfl rfl ?_
    refine r_icmp_eq rfl (fun _ => ?_) (fun h => absurd h0 h)
    refine r_iload rfl rfl ?_
    refine r_if_ne rfl (fun _ => ?_) (fun h => absurd h (by decide))
    refine r_goto rfl ?_
    exact K U _ _ _ _ _ hR iv_i iv_i h7 (by omega) (by omega)
theorem lw_c9 {N : Nat} {xs : Nat → Int32} {Q : Option Value → am_G → Prop} {X : am_P} {i : Int32} {o5 o6 o7 : Option Value} {nc ns : Nat} {S : am_S} (R : RM S) (V : LwV N i) (K : LwK (some (N, xs)) Q X i nc ns) (h5 : ivO o5) (h6 : ivO o6) (h7 : ivO o7) (hc : nc + 1 ≤ 601024) (hs : ns + 6 ≤ 7293034) (HH : ∀ (S : am_S) (p : Int32), RM S → LwH (some (N, xs)) Q X 664 [.ref 130, .int p, .ref 0] S (HpO Value.int Int32.toInt64 iX11_go [.ref 97, .int p] S)) : am_Ex (am_Call am_MT 750) mmL_law (some (N, xs)) Q X 656 (LL i o5 o6 o7) [] (am_H S) nc ns := by
  refine r_aload_n rfl rfl ?_
  refine r_aload_n rfl rfl ?_
  refine r_iload rfl rfl ?_
  refine r_iconst rfl ?_
  refine r_iadd rfl ?_
  refine r_sld rfl V.2.1 ?_
  refine r_aload_n rfl rfl ?_
  refine r_statX rfl (HH S (xs (i + 1).toNatClampNeg) R _ _ _ (LL_wf h5 h6 h7) hc hs (fun r G1 hO => ?_))
  rcases hO with ⟨rfl, x, T, rfl, Q1, hQ, hU9⟩ | ⟨rfl, rfl, x, Q1, hQ, hU9⟩
  · refine r_istore (L2 := LL i (some (.int 0)) o6 o7) rfl rfl ?_
    refine r_aload_n rfl rfl ?_
    refine r_aload_n rfl rfl ?_
    refine r_iload rfl rfl ?_
    refine r_iconst rfl ?_
    refine r_iadd rfl ?_
    refine r_sld rfl V.2.1 ?_
    refine r_callVX rfl hQ rfl rfl rfl (by decide) rfl (am_cnt rfl) (fun U hU => ?_)
    obtain ⟨hR, h0, hJ⟩ := hU9 U hU
    refine r_istore (L2 := LL i (some (.int 0)) (some (.int x)) o7) rfl rfl ?_
    refine r_aload_n rfl rfl ?_
    refine r_callV rfl (ct_X11_thrown (d := 749)) rfl rfl rfl (by decide) rfl (am_cnt rfl) ?_
    refine r_iload rfl rfl ?_
    refine r_icmp_eq rfl (fun _ => ?_) (fun h => absurd h0 h)
    refine r_iload rfl rfl ?_
    refine r_if_ne rfl (fun h => absurd rfl h) (fun _ => ?_)
    refine r_aload_n rfl rfl ?_
    refine r_iconst rfl ?_
    refine r_lald rfl rfl (by decide) (by decide) (by decide) ?_
    refine r_iload rfl rfl ?_
    refine r_i2l rfl ?_
    refine r_lcmp rfl ?_
    have e0 : gJ U 130 (0 : Int32).toNatClampNeg = x.toInt64 := hJ
    refine r_if_eq rfl (fun _ => ?_) (fun h => absurd (by rw [e0]; exact lg_same) h)
    refine r_goto rfl ?_
    exact K U _ _ _ _ _ hR iv_i iv_i h7 (by omega) (by omega)
  · refine r_istore (L2 := LL i (some (.int 1)) o6 o7) rfl rfl ?_
    refine r_aload_n rfl rfl ?_
    refine r_aload_n rfl rfl ?_
    refine r_iload rfl rfl ?_
    refine r_iconst rfl ?_
    refine r_iadd rfl ?_
    refine r_sld rfl V.2.1 ?_
    refine r_callVX rfl hQ rfl rfl rfl (by decide) rfl (am_cnt rfl) (fun U hU => ?_)
    obtain ⟨hR, h0⟩ := hU9 U hU
    refine r_istore (L2 := LL i (some (.int 1)) (some (.int x)) o7) rfl rfl ?_
    refine r_aload_n rfl rfl ?_
    refine r_callV rfl (ct_X11_thrown (d := 749)) rfl rfl rfl (by decide) rfl (am_cnt rfl) ?_
    refine r_iload rfl rfl ?_
    refine r_icmp_eq rfl (fun _ => ?_) (fun h => absurd h0 h)
    refine r_iload rfl rfl ?_
    refine r_if_ne rfl (fun _ => ?_) (fun h => absurd h (by decide))
    refine r_goto rfl ?_
    exact K U _ _ _ _ _ hR iv_i iv_i h7 (by omega) (by omega)
theorem lw_c10 {N : Nat} {xs : Nat → Int32} {Q : Option Value → am_G → Prop} {X : am_P} {i : Int32} {o5 o6 o7 : Option Value} {nc ns : Nat} {S : am_S} (R : RM S) (V : LwV N i) (K : LwK (some (N, xs)) Q X i nc ns) (h5 : ivO o5) (h6 : ivO o6) (h7 : ivO o7) : am_Ex (am_Call am_MT 750) mmL_law (some (N, xs)) Q X 712 (LL i o5 o6 o7) [] (am_H S) nc ns := by
  obtain ⟨x, P, hA, hB⟩ := jn_begin (d := 50) R 
  refine r_aload_n rfl rfl ?_
  refine r_callVX rfl hA rfl rfl rfl (by decide) rfl (am_cnt rfl) (fun T hT => ?_)
  obtain ⟨Q1, hQ, hR⟩ := hB T hT
  refine r_aload_n rfl rfl ?_
  refine r_callVX rfl hQ rfl rfl rfl (by decide) rfl (am_cnt rfl) (fun U hU => ?_)
  refine r_icmp_eq rfl (fun _ => ?_) (fun h => absurd rfl h)
  exact K U o5 o6 o7 _ _ (hR U hU) h5 h6 h7 (by omega) (by omega)
theorem lw_c11 {N : Nat} {xs : Nat → Int32} {Q : Option Value → am_G → Prop} {X : am_P} {i : Int32} {o5 o6 o7 : Option Value} {nc ns : Nat} {S : am_S} (R : RM S) (V : LwV N i) (K : LwK (some (N, xs)) Q X i nc ns) (h5 : ivO o5) (h6 : ivO o6) (h7 : ivO o7) (hc : nc + 1 ≤ 601024) (hs : ns + 6 ≤ 7293034) (HH : ∀ (S : am_S) (p : Int32), RM S → LwH (some (N, xs)) Q X 733 [.ref 130, .int p, .ref 0] S (HpO Value.int Int32.toInt64 iX11_place [.ref 97, .int p] S)) : am_Ex (am_Call am_MT 750) mmL_law (some (N, xs)) Q X 725 (LL i o5 o6 o7) [] (am_H S) nc ns := by
  refine r_aload_n rfl rfl ?_
  refine r_aload_n rfl rfl ?_
  refine r_iload rfl rfl ?_
  refine r_iconst rfl ?_
  refine r_iadd rfl ?_
  refine r_sld rfl V.2.1 ?_
  refine r_aload_n rfl rfl ?_
  refine r_statX rfl (HH S (xs (i + 1).toNatClampNeg) R _ _ _ (LL_wf h5 h6 h7) hc hs (fun r G1 hO => ?_))
  rcases hO with ⟨rfl, x, T, rfl, Q1, hQ, hU9⟩ | ⟨rfl, rfl, x, Q1, hQ, hU9⟩
  · refine r_istore (L2 := LL i (some (.int 0)) o6 o7) rfl rfl ?_
    refine r_aload_n rfl rfl ?_
    refine r_aload_n rfl rfl ?_
    refine r_iload rfl rfl ?_
    refine r_iconst rfl ?_
    refine r_iadd rfl ?_
    refine r_sld rfl V.2.1 ?_
    refine r_callVX rfl hQ rfl rfl rfl (by decide) rfl (am_cnt rfl) (fun U hU => ?_)
    obtain ⟨hR, h0, hJ⟩ := hU9 U hU
    refine r_istore (L2 := LL i (some (.int 0)) (some (.int x)) o7) rfl rfl ?_
    refine r_aload_n rfl rfl ?_
    refine r_callV rfl (ct_X11_thrown (d := 749)) rfl rfl rfl (by decide) rfl (am_cnt rfl) ?_
    refine r_iload rfl rfl ?_
    refine r_icmp_eq rfl (fun _ => ?_) (fun h => absurd h0 h)
    refine r_iload rfl rfl ?_
    refine r_if_ne rfl (fun h => absurd rfl h) (fun _ => ?_)
    refine r_aload_n rfl rfl ?_
    refine r_iconst rfl ?_
    refine r_lald rfl rfl (by decide) (by decide) (by decide) ?_
    refine r_iload rfl rfl ?_
    refine r_i2l rfl ?_
    refine r_lcmp rfl ?_
    have e0 : gJ U 130 (0 : Int32).toNatClampNeg = x.toInt64 := hJ
    refine r_if_eq rfl (fun _ => ?_) (fun h => absurd (by rw [e0]; exact lg_same) h)
    refine r_goto rfl ?_
    exact K U _ _ _ _ _ hR iv_i iv_i h7 (by omega) (by omega)
  · refine r_istore (L2 := LL i (some (.int 1)) o6 o7) rfl rfl ?_
    refine r_aload_n rfl rfl ?_
    refine r_aload_n rfl rfl ?_
    refine r_iload rfl rfl ?_
    refine r_iconst rfl ?_
    refine r_iadd rfl ?_
    refine r_sld rfl V.2.1 ?_
    refine r_callVX rfl hQ rfl rfl rfl (by decide) rfl (am_cnt rfl) (fun U hU => ?_)
    obtain ⟨hR, h0⟩ := hU9 U hU
    refine r_istore (L2 := LL i (some (.int 1)) (some (.int x)) o7) rfl rfl ?_
    refine r_aload_n rfl rfl ?_
    refine r_callV rfl (ct_X11_thrown (d := 749)) rfl rfl rfl (by decide) rfl (am_cnt rfl) ?_
    refine r_iload rfl rfl ?_
    refine r_icmp_eq rfl (fun _ => ?_) (fun h => absurd h0 h)
    refine r_iload rfl rfl ?_
    refine r_if_ne rfl (fun _ => ?_) (fun h => absurd h (by decide))
    refine r_goto rfl ?_
    exact K U _ _ _ _ _ hR iv_i iv_i h7 (by omega) (by omega)
