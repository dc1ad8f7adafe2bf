/-! The law, case by case (12 .. 23). -/
theorem lw_c12 {N : Nat} {xs : Nat → Int32} {Q : Option Value → am_G → Prop} {X : am_P} {i : Int32} {o5 o6 o7 : Option Value} {nc ns : Nat} {S : am_S} (R : RM S) (V : LwV N i) (K : LwK (some (N, xs)) Q X i nc ns) (h5 : ivO o5) (h6 : ivO o6) (h7 : ivO o7) (hc : nc + 1 ≤ 601024) (hs : ns + 6 ≤ 7293034) (HH : ∀ (S : am_S) (p w u : Int32), RM S → LwH (some (N, xs)) Q X 801 [.ref 130, .int u, .int w, .int p, .ref 0] S (HpO Value.int Int32.toInt64 iX11_was [.ref 97, .int p, .int w, .int u] S)) : am_Ex (am_Call am_MT 750) mmL_law (some (N, xs)) Q X 781 (LL i o5 o6 o7) [] (am_H S) nc ns := by
  refine r_aload_n rfl rfl ?_
  refine r_aload_n rfl rfl ?_
  refine r_iload rfl rfl ?_
  refine r_iconst rfl ?_
  refine r_iadd rfl ?_
  refine r_sld rfl V.2.1 ?_
  refine r_aload_n rfl rfl ?_
  refine r_iload rfl rfl ?_
  refine r_iconst rfl ?_
  refine r_iadd rfl ?_
  refine r_sld rfl V.2.2.1 ?_
  refine r_aload_n rfl rfl ?_
  refine r_iload rfl rfl ?_
  refine r_iconst rfl ?_
  refine r_iadd rfl ?_
  refine r_sld rfl V.2.2.2.1 ?_
  refine r_aload_n rfl rfl ?_
  refine r_statX rfl (HH S (xs (i + 1).toNatClampNeg) (xs (i + 2).toNatClampNeg) (xs (i + 3).toNatClampNeg) R _ _ _ (LL_wf h5 h6 h7) hc hs (fun r G1 hO => ?_))
  rcases hO with ⟨rfl, x, T, rfl, Q1, hQ, hU9⟩ | ⟨rfl, rfl, x, Q1, hQ, hU9⟩
  · refine r_istore (L2 := LL i (some (.int 0)) o6 o7) rfl rfl ?_
    refine r_aload_n rfl rfl ?_
    refine r_aload_n rfl rfl ?_
    refine r_iload rfl rfl ?_
    refine r_iconst rfl ?_
    refine r_iadd rfl ?_
    refine r_sld rfl V.2.1 ?_
    refine r_aload_n rfl rfl ?_
    refine r_iload rfl rfl ?_
    refine r_iconst rfl ?_
    refine r_iadd rfl ?_
    refine r_sld rfl V.2.2.1 ?_
    refine r_aload_n rfl rfl ?_
    refine r_iload rfl rfl ?_
    refine r_iconst rfl ?_
    refine r_iadd rfl ?_
    refine r_sld rfl V.2.2.2.1 ?_
    refine r_callVX rfl hQ rfl rfl rfl (by decide) rfl (am_cnt rfl) (fun U hU => ?_)
    obtain ⟨hR, h0, hJ⟩ := hU9 U hU
    refine r_istore (L2 := LL i (some (.int 0)) (some (.int x)) o7) rfl rfl ?_
    refine r_aload_n rfl rfl ?_
    refine r_callV rfl (ct_X11_thrown (d := 749)) rfl rfl rfl (by decide) rfl (am_cnt rfl) ?_
    refine r_iload rfl rfl ?_
    refine r_icmp_eq rfl (fun _ => ?_) (fun h => absurd h0 h)
    refine r_iload rfl rfl ?_
    refine r_if_ne rfl (fun h => absurd rfl h) (fun _ => ?_)
    refine r_aload_n rfl rfl ?_
    refine r_iconst rfl ?_
    refine r_lald rfl rfl (by decide) (by decide) (by decide) ?_
    refine r_iload rfl rfl ?_
    refine r_i2l rfl ?_
    refine r_lcmp rfl ?_
    have e0 : gJ U 130 (0 : Int32).toNatClampNeg = x.toInt64 := hJ
    refine r_if_eq rfl (fun _ => ?_) (fun h => absurd (by rw [e0]; exact lg_same) h)
    refine r_goto rfl ?_
    exact K U _ _ _ _ _ hR iv_i iv_i h7 (by omega) (by omega)
  · refine r_istore (L2 := LL i (some (.int 1)) o6 o7) rfl rfl ?_
    refine r_aload_n rfl rfl ?_
    refine r_aload_n rfl rfl ?_
    refine r_iload rfl rfl ?_
    refine r_iconst rfl ?_
    refine r_iadd rfl ?_
    refine r_sld rfl V.2.1 ?_
    refine r_aload_n rfl rfl ?_
    refine r_iload rfl rfl ?_
    refine r_iconst rfl ?_
    refine r_iadd rfl ?_
    refine r_sld rfl V.2.2.1 ?_
    refine r_aload_n rfl rfl ?_
    refine r_iload rfl rfl ?_
    refine r_iconst rfl ?_
    refine r_iadd rfl ?_
    refine r_sld rfl V.2.2.2.1 ?_
    refine r_callVX rfl hQ rfl rfl rfl (by decide) rfl (am_cnt rfl) (fun U hU => ?_)
    obtain ⟨hR, h0⟩ := hU9 U hU
    refine r_istore (L2 := LL i (some (.int 1)) (some (.int x)) o7) rfl rfl ?_
    refine r_aload_n rfl rfl ?_
    refine r_callV rfl (ct_X11_thrown (d := 749)) rfl rfl rfl (by decide) rfl (am_cnt rfl) ?_
    refine r_iload rfl rfl ?_
    refine r_icmp_eq rfl (fun _ => ?_) (fun h => absurd h0 h)
    refine r_iload rfl rfl ?_
    refine r_if_ne rfl (fun _ => ?_) (fun h => absurd h (by decide))
    refine r_goto rfl ?_
    exact K U _ _ _ _ _ hR iv_i iv_i h7 (by omega) (by omega)
theorem lw_c13 {N : Nat} {xs : Nat → Int32} {Q : Option Value → am_G → Prop} {X : am_P} {i : Int32} {o5 o6 o7 : Option Value} {nc ns : Nat} {S : am_S} (R : RM S) (V : LwV N i) (K : LwK (some (N, xs)) Q X i nc ns) (h5 : ivO o5) (h6 : ivO o6) (h7 : ivO o7) : am_Ex (am_Call am_MT 750) mmL_law (some (N, xs)) Q X 861 (LL i o5 o6 o7) [] (am_H S) nc ns := by
  obtain ⟨x, P, hA, hB⟩ := jn_cost (d := 50) R 
  refine r_aload_n rfl rfl ?_
  refine r_callVX rfl hA rfl rfl rfl (by decide) rfl (am_cnt rfl) (fun T hT => ?_)
  obtain ⟨Q1, hQ, hR⟩ := hB T hT
  refine r_aload_n rfl rfl ?_
  refine r_callVX rfl hQ rfl rfl rfl (by decide) rfl (am_cnt rfl) (fun U hU => ?_)
  refine r_icmp_eq rfl (fun _ => ?_) (fun h => absurd rfl h)
  exact K U o5 o6 o7 _ _ (hR U hU) h5 h6 h7 (by omega) (by omega)
theorem lw_c14 {N : Nat} {xs : Nat → Int32} {Q : Option Value → am_G → Prop} {X : am_P} {i : Int32} {o5 o6 o7 : Option Value} {nc ns : Nat} {S : am_S} (R : RM S) (V : LwV N i) (K : LwK (some (N, xs)) Q X i nc ns) (h5 : ivO o5) (h6 : ivO o6) (h7 : ivO o7) : am_Ex (am_Call am_MT 750) mmL_law (some (N, xs)) Q X 874 (LL i o5 o6 o7) [] (am_H S) nc ns := by
  obtain ⟨x, P, hA, hB⟩ := jn_crossed (d := 50) R 
  refine r_aload_n rfl rfl ?_
  refine r_callVX rfl hA rfl rfl rfl (by decide) rfl (am_cnt rfl) (fun T hT => ?_)
  obtain ⟨Q1, hQ, hR⟩ := hB T hT
  refine r_aload_n rfl rfl ?_
  refine r_callVX rfl hQ rfl rfl rfl (by decide) rfl (am_cnt rfl) (fun U hU => ?_)
  refine r_icmp_eq rfl (fun _ => ?_) (fun h => absurd rfl h)
  exact K U o5 o6 o7 _ _ (hR U hU) h5 h6 h7 (by omega) (by omega)
theorem lw_c15 {N : Nat} {xs : Nat → Int32} {Q : Option Value → am_G → Prop} {X : am_P} {i : Int32} {o5 o6 o7 : Option Value} {nc ns : Nat} {S : am_S} (R : RM S) (V : LwV N i) (K : LwK (some (N, xs)) Q X i nc ns) (h5 : ivO o5) (h6 : ivO o6) (h7 : ivO o7) : am_Ex (am_Call am_MT 750) mmL_law (some (N, xs)) Q X 887 (LL i o5 o6 o7) [] (am_H S) nc ns := by
  obtain ⟨x, P, hA, hB⟩ := jn_by (d := 50) R (xs (i + 1).toNatClampNeg) (xs (i + 2).toNatClampNeg) (xs (i + 3).toNatClampNeg)
  refine r_aload_n rfl rfl ?_
  refine r_aload_n rfl rfl ?_
  refine r_iload rfl rfl ?_
  refine r_iconst rfl ?_
  refine r_iadd rfl ?_
  refine r_sld rfl V.2.1 ?_
  refine r_aload_n rfl rfl ?_
  refine r_iload rfl rfl ?_
  refine r_iconst rfl ?_
  refine r_iadd rfl ?_
  refine r_sld rfl V.2.2.1 ?_
  refine r_aload_n rfl rfl ?_
  refine r_iload rfl rfl ?_
  refine r_iconst rfl ?_
  refine r_iadd rfl ?_
  refine r_sld rfl V.2.2.2.1 ?_
  refine r_callVX rfl hA rfl rfl rfl (by decide) rfl (am_cnt rfl) (fun T hT => ?_)
  obtain ⟨Q1, hQ, hR⟩ := hB T hT
  refine r_aload_n rfl rfl ?_
  refine r_aload_n rfl rfl ?_
  refine r_iload rfl rfl ?_
  refine r_iconst rfl ?_
  refine r_iadd rfl ?_
  refine r_sld rfl V.2.1 ?_
  refine r_aload_n rfl rfl ?_
  refine r_iload rfl rfl ?_
  refine r_iconst rfl ?_
  refine r_iadd rfl ?_
  refine r_sld rfl V.2.2.1 ?_
  refine r_aload_n rfl rfl ?_
  refine r_iload rfl rfl ?_
  refine r_iconst rfl ?_
  refine r_iadd rfl ?_
  refine r_sld rfl V.2.2.2.1 ?_
  refine r_callVX rfl hQ rfl rfl rfl (by decide) rfl (am_cnt rfl) (fun U hU => ?_)
  refine r_icmp_eq rfl (fun _ => ?_) (fun h => absurd rfl h)
  exact K U o5 o6 o7 _ _ (hR U hU) h5 h6 h7 (by omega) (by omega)
theorem lw_c16 {N : Nat} {xs : Nat → Int32} {Q : Option Value → am_G → Prop} {X : am_P} {i : Int32} {o5 o6 o7 : Option Value} {nc ns : Nat} {S : am_S} (R : RM S) (V : LwV N i) (K : LwK (some (N, xs)) Q X i nc ns) (h5 : ivO o5) (h6 : ivO o6) (h7 : ivO o7) : am_Ex (am_Call am_MT 750) mmL_law (some (N, xs)) Q X 936 (LL i o5 o6 o7) [] (am_H S) nc ns := by
  obtain ⟨x, P, hA, hB⟩ := jn_would (d := 50) R (xs (i + 1).toNatClampNeg) (xs (i + 2).toNatClampNeg)
  refine r_aload_n rfl rfl ?_
  refine r_aload_n rfl rfl ?_
  refine r_iload rfl rfl ?_
  refine r_iconst rfl ?_
  refine r_iadd rfl ?_
  refine r_sld rfl V.2.1 ?_
  refine r_aload_n rfl rfl ?_
  refine r_iload rfl rfl ?_
  refine r_iconst rfl ?_
  refine r_iadd rfl ?_
  refine r_sld rfl V.2.2.1 ?_
  refine r_callVX rfl hA rfl rfl rfl (by decide) rfl (am_cnt rfl) (fun T hT => ?_)
  obtain ⟨Q1, hQ, hR⟩ := hB T hT
  refine r_aload_n rfl rfl ?_
  refine r_aload_n rfl rfl ?_
  refine r_iload rfl rfl ?_
  refine r_iconst rfl ?_
  refine r_iadd rfl ?_
  refine r_sld rfl V.2.1 ?_
  refine r_aload_n rfl rfl ?_
  refine r_iload rfl rfl ?_
  refine r_iconst rfl ?_
  refine r_iadd rfl ?_
  refine r_sld rfl V.2.2.1 ?_
  refine r_callVX rfl hQ rfl rfl rfl (by decide) rfl (am_cnt rfl) (fun U hU => ?_)
  refine r_icmp_eq rfl (fun _ => ?_) (fun h => absurd rfl h)
  exact K U o5 o6 o7 _ _ (hR U hU) h5 h6 h7 (by omega) (by omega)
theorem lw_c17 {N : Nat} {xs : Nat → Int32} {Q : Option Value → am_G → Prop} {X : am_P} {i : Int32} {o5 o6 o7 : Option Value} {nc ns : Nat} {S : am_S} (R : RM S) (V : LwV N i) (K : LwK (some (N, xs)) Q X i nc ns) (h5 : ivO o5) (h6 : ivO o6) (h7 : ivO o7) : am_Ex (am_Call am_MT 750) mmL_law (some (N, xs)) Q X 973 (LL i o5 o6 o7) [] (am_H S) nc ns := by
  obtain ⟨x, P, hA, hB⟩ := jn_rules (d := 50) R (xs (i + 1).toNatClampNeg) (xs (i + 2).toNatClampNeg) (xs (i + 3).toNatClampNeg) (xs (i + 4).toNatClampNeg)
  refine r_aload_n rfl rfl ?_
  refine r_aload_n rfl rfl ?_
  refine r_iload rfl rfl ?_
  refine r_iconst rfl ?_
  refine r_iadd rfl ?_
  refine r_sld rfl V.2.1 ?_
  refine r_aload_n rfl rfl ?_
  refine r_iload rfl rfl ?_
  refine r_iconst rfl ?_
  refine r_iadd rfl ?_
  refine r_sld rfl V.2.2.1 ?_
  refine r_aload_n rfl rfl ?_
  refine r_iload rfl rfl ?_
  refine r_iconst rfl ?_
  refine r_iadd rfl ?_
  refine r_sld rfl V.2.2.2.1 ?_
  refine r_aload_n rfl rfl ?_
  refine r_iload rfl rfl ?_
  refine r_iconst rfl ?_
  refine r_iadd rfl ?_
  refine r_sld rfl V.2.2.2.2.1 ?_
  refine r_callVX rfl hA rfl rfl rfl (by decide) rfl (am_cnt rfl) (fun T hT => ?_)
  obtain ⟨Q1, hQ, hR⟩ := hB T hT
  refine r_aload_n rfl rfl ?_
  refine r_aload_n rfl rfl ?_
  refine r_iload rfl rfl ?_
  refine r_iconst rfl ?_
  refine r_iadd rfl ?_
  refine r_sld rfl V.2.1 ?_
  refine r_aload_n rfl rfl ?_
  refine r_iload rfl rfl ?_
  refine r_iconst rfl ?_
  refine r_iadd rfl ?_
  refine r_sld rfl V.2.2.1 ?_
  refine r_aload_n rfl rfl ?_
  refine r_iload rfl rfl ?_
  refine r_iconst rfl ?_
  refine r_iadd rfl ?_
  refine r_sld rfl V.2.2.2.1 ?_
  refine r_aload_n rfl rfl ?_
  refine r_iload rfl rfl ?_
  refine r_iconst rfl ?_
  refine r_iadd rfl ?_
  refine r_sld rfl V.2.2.2.2.1 ?_
  refine r_callVX rfl hQ rfl rfl rfl (by decide) rfl (am_cnt rfl) (fun U hU => ?_)
  refine r_icmp_eq rfl (fun _ => ?_) (fun h => absurd rfl h)
  exact K U o5 o6 o7 _ _ (hR U hU) h5 h6 h7 (by omega) (by omega)
theorem lw_c18 {N : Nat} {xs : Nat → Int32} {Q : Option Value → am_G → Prop} {X : am_P} {i : Int32} {o5 o6 o7 : Option Value} {nc ns : Nat} {S : am_S} (R : RM S) (V : LwV N i) (K : LwK (some (N, xs)) Q X i nc ns) (h5 : ivO o5) (h6 : ivO o6) (h7 : ivO o7) : am_Ex (am_Call am_MT 750) mmL_law (some (N, xs)) Q X 1034 (LL i o5 o6 o7) [] (am_H S) nc ns := by
  obtain ⟨x, P, hA, hB⟩ := jn_pair (d := 50) R (xs (i + 1).toNatClampNeg) (xs (i + 2).toNatClampNeg) (xs (i + 3).toNatClampNeg)
  refine r_aload_n rfl rfl ?_
  refine r_aload_n rfl rfl ?_
  refine r_iload rfl rfl ?_
  refine r_iconst rfl ?_
  refine r_iadd rfl ?_
  refine r_sld rfl V.2.1 ?_
  refine r_aload_n rfl rfl ?_
  refine r_iload rfl rfl ?_
  refine r_iconst rfl ?_
  refine r_iadd rfl ?_
  refine r_sld rfl V.2.2.1 ?_
  refine r_aload_n rfl rfl ?_
  refine r_iload rfl rfl ?_
  refine r_iconst rfl ?_
  refine r_iadd rfl ?_
  refine r_sld rfl V.2.2.2.1 ?_
  refine r_callVX rfl hA rfl rfl rfl (by decide) rfl (am_cnt rfl) (fun T hT => ?_)
  obtain ⟨Q1, hQ, hR⟩ := hB T hT
  refine r_aload_n rfl rfl ?_
  refine r_aload_n rfl rfl ?_
  refine r_iload rfl rfl ?_
  refine r_iconst rfl ?_
  refine r_iadd rfl ?_
  refine r_sld rfl V.2.1 ?_
  refine r_aload_n rfl rfl ?_
  refine r_iload rfl rfl ?_
  refine r_iconst rfl ?_
  refine r_iadd rfl ?_
  refine r_sld rfl V.2.2.1 ?_
  refine r_aload_n rfl rfl ?_
  refine r_iload rfl rfl ?_
  refine r_iconst rfl ?_
  refine r_iadd rfl ?_
  refine r_sld rfl V.2.2.2.1 ?_
  refine r_callVX rfl hQ rfl rfl rfl (by decide) rfl (am_cnt rfl) (fun U hU => ?_)
  refine r_icmp_eq rfl (fun _ => ?_) (fun h => absurd rfl h)
  exact K U o5 o6 o7 _ _ (hR U hU) h5 h6 h7 (by omega) (by omega)
theorem lw_c19 {N : Nat} {xs : Nat → Int32} {Q : Option Value → am_G → Prop} {X : am_P} {i : Int32} {o5 o6 o7 : Option Value} {nc ns : Nat} {S : am_S} (R : RM S) (V : LwV N i) (K : LwK (some (N, xs)) Q X i nc ns) (h5 : ivO o5) (h6 : ivO o6) (h7 : ivO o7) : am_Ex (am_Call am_MT 750) mmL_law (some (N, xs)) Q X 1083 (LL i o5 o6 o7) [] (am_H S) nc ns := by
  obtain ⟨x, P, hA, hB⟩ := jn_echo (d := 50) R (xs (i + 1).toNatClampNeg)
  refine r_aload_n rfl rfl ?_
  refine r_aload_n rfl rfl ?_
  refine r_iload rfl rfl ?_
  refine r_iconst rfl ?_
  refine r_iadd rfl ?_
  refine r_sld rfl V.2.1 ?_
  refine r_callVX rfl hA rfl rfl rfl (by decide) rfl (am_cnt rfl) (fun T hT => ?_)
  obtain ⟨Q1, hQ, hR⟩ := hB T hT
  refine r_aload_n rfl rfl ?_
  refine r_aload_n rfl rfl ?_
  refine r_iload rfl rfl ?_
  refine r_iconst rfl ?_
  refine r_iadd rfl ?_
  refine r_sld rfl V.2.1 ?_
  refine r_callVX rfl hQ rfl rfl rfl (by decide) rfl (am_cnt rfl) (fun U hU => ?_)
  refine r_icmp_eq rfl (fun _ => ?_) (fun h => absurd rfl h)
  exact K U o5 o6 o7 _ _ (hR U hU) h5 h6 h7 (by omega) (by omega)
theorem lw_c20 {N : Nat} {xs : Nat → Int32} {Q : Option Value → am_G → Prop} {X : am_P} {i : Int32} {o5 o6 o7 : Option Value} {nc ns : Nat} {S : am_S} (R : RM S) (V : LwV N i) (K : LwK (some (N, xs)) Q X i nc ns) (h5 : ivO o5) (h6 : ivO o6) (h7 : ivO o7) : am_Ex (am_Call am_MT 750) mmL_law (some (N, xs)) Q X 1108 (LL i o5 o6 o7) [] (am_H S) nc ns := by
  obtain ⟨x, P, hA, hB⟩ := jn_waits (d := 50) R (xs (i + 1).toNatClampNeg)
  refine r_aload_n rfl rfl ?_
  refine r_aload_n rfl rfl ?_
  refine r_iload rfl rfl ?_
  refine r_iconst rfl ?_
  refine r_iadd rfl ?_
  refine r_sld rfl V.2.1 ?_
  refine r_callVX rfl hA rfl rfl rfl (by decide) rfl (am_cnt rfl) (fun T hT => ?_)
  obtain ⟨Q1, hQ, hR⟩ := hB T hT
  refine r_aload_n rfl rfl ?_
  refine r_aload_n rfl rfl ?_
  refine r_iload rfl rfl ?_
  refine r_iconst rfl ?_
  refine r_iadd rfl ?_
  refine r_sld rfl V.2.1 ?_
  refine r_callVX rfl hQ rfl rfl rfl (by decide) rfl (am_cnt rfl) (fun U hU => ?_)
  refine r_icmp_eq rfl (fun _ => ?_) (fun h => absurd rfl h)
  exact K U o5 o6 o7 _ _ (hR U hU) h5 h6 h7 (by omega) (by omega)
theorem lw_c21 {N : Nat} {xs : Nat → Int32} {Q : Option Value → am_G → Prop} {X : am_P} {i : Int32} {o5 o6 o7 : Option Value} {nc ns : Nat} {S : am_S} (R : RM S) (V : LwV N i) (K : LwK (some (N, xs)) Q X i nc ns) (h5 : ivO o5) (h6 : ivO o6) (h7 : ivO o7) : am_Ex (am_Call am_MT 750) mmL_law (some (N, xs)) Q X 1133 (LL i o5 o6 o7) [] (am_H S) nc ns := by
  obtain ⟨x, P, hA, hB⟩ := jn_swings (d := 50) R 
  refine r_aload_n rfl rfl ?_
  refine r_callVX rfl hA rfl rfl rfl (by decide) rfl (am_cnt rfl) (fun T hT => ?_)
  obtain ⟨Q1, hQ, hR⟩ := hB T hT
  refine r_aload_n rfl rfl ?_
  refine r_callVX rfl hQ rfl rfl rfl (by decide) rfl (am_cnt rfl) (fun U hU => ?_)
  refine r_icmp_eq rfl (fun _ => ?_) (fun h => absurd rfl h)
  exact K U o5 o6 o7 _ _ (hR U hU) h5 h6 h7 (by omega) (by omega)
theorem lw_c22 {N : Nat} {xs : Nat → Int32} {Q : Option Value → am_G → Prop} {X : am_P} {i : Int32} {o5 o6 o7 : Option Value} {nc ns : Nat} {S : am_S} (R : RM S) (V : LwV N i) (K : LwK (some (N, xs)) Q X i nc ns) (h5 : ivO o5) (h6 : ivO o6) (h7 : ivO o7) : am_Ex (am_Call am_MT 750) mmL_law (some (N, xs)) Q X 1146 (LL i o5 o6 o7) [] (am_H S) nc ns := by
  obtain ⟨x, P, hA, hB⟩ := jn_steer (d := 50) R (xs (i + 1).toNatClampNeg) (xs (i + 2).toNatClampNeg) (xs (i + 3).toNatClampNeg) (xs (i + 4).toNatClampNeg)
  refine r_aload_n rfl rfl ?_
  refine r_aload_n rfl rfl ?_
  refine r_iload rfl rfl ?_
  refine r_iconst rfl ?_
  refine r_iadd rfl ?_
  refine r_sld rfl V.2.1 ?_
  refine r_aload_n rfl rfl ?_
  refine r_iload rfl rfl ?_
  refine r_iconst rfl ?_
  refine r_iadd rfl ?_
  refine r_sld rfl V.2.2.1 ?_
  refine r_aload_n rfl rfl ?_
  refine r_iload rfl rfl ?_
  refine r_iconst rfl ?_
  refine r_iadd rfl ?_
  refine r_sld rfl V.2.2.2.1 ?_
  refine r_aload_n rfl rfl ?_
  refine r_iload rfl rfl ?_
  refine r_iconst rfl ?_
  refine r_iadd rfl ?_
  refine r_sld rfl V.2.2.2.2.1 ?_
  refine r_callVX rfl hA rfl rfl rfl (by decide) rfl (am_cnt rfl) (fun T hT => ?_)
  obtain ⟨Q1, hQ, hR⟩ := hB T hT
  refine r_aload_n rfl rfl ?_
  refine r_aload_n rfl rfl ?_
  refine r_iload rfl rfl ?_
  refine r_iconst rfl ?_
  refine r_iadd rfl ?_
  refine r_sld rfl V.2.1 ?_
  refine r_aload_n rfl rfl ?_
  refine r_iload rfl rfl ?_
  refine r_iconst rfl ?_
  refine r_iadd rfl ?_
  refine r_sld rfl V.2.2.1 ?_
  refine r_aload_n rfl rfl ?_
  refine r_iload rfl rfl ?_
  refine r_iconst rfl ?_
  refine r_iadd rfl ?_
  refine r_sld rfl V.2.2.2.1 ?_
  refine r_aload_n rfl rfl ?_
  refine r_iload rfl rfl ?_
  refine r_iconst rfl ?_
  refine r_iadd rfl ?_
  refine r_sld rfl V.2.2.2.2.1 ?_
  refine r_callVX rfl hQ rfl rfl rfl (by decide) rfl (am_cnt rfl) (fun U hU => ?_)
  refine r_icmp_eq rfl (fun _ => ?_) (fun h => absurd rfl h)
  exact K U o5 o6 o7 _ _ (hR U hU) h5 h6 h7 (by omega) (by omega)
theorem lw_c23 {N : Nat} {xs : Nat → Int32} {Q : Option Value → am_G → Prop} {X : am_P} {i : Int32} {o5 o6 o7 : Option Value} {nc ns : Nat} {S : am_S} (R : RM S) (V : LwV N i) (K : LwK (some (N, xs)) Q X i nc ns) (h5 : ivO o5) (h6 : ivO o6) (h7 : ivO o7) : am_Ex (am_Call am_MT 750) mmL_law (some (N, xs)) Q X 1207 (LL i o5 o6 o7) [] (am_H S) nc ns := by
  obtain ⟨x, P, hA, hB⟩ := jn_blind (d := 50) R (xs (i + 1).toNatClampNeg) (xs (i + 2).toNatClampNeg) (xs (i + 3).toNatClampNeg) (xs (i + 4).toNatClampNeg)
  refine r_aload_n rfl rfl ?_
  refine r_aload_n rfl rfl ?_
  refine r_iload rfl rfl ?_
  refine r_iconst rfl ?_
  refine r_iadd rfl ?_
  refine r_sld rfl V.2.1 ?_
  refine r_aload_n rfl rfl ?_
  refine r_iload rfl rfl ?_
  refine r_iconst rfl ?_
  refine r_iadd rfl ?_
  refine r_sld rfl V.2.2.1 ?_
  refine r_aload_n rfl rfl ?_
  refine r_iload rfl rfl ?_
  refine r_iconst rfl ?_
  refine r_iadd rfl ?_
  refine r_sld rfl V.2.2.2.1 ?_
  refine r_aload_n rfl rfl ?_
  refine r_iload rfl rfl ?_
  refine r_iconst rfl ?_
  refine r_iadd rfl ?_
  refine r_sld rfl V.2.2.2.2.1 ?_
  refine r_callVX rfl hA rfl rfl rfl (by decide) rfl (am_cnt rfl) (fun T hT => ?_)
  obtain ⟨Q1, hQ, hR⟩ := hB T hT
  refine r_aload_n rfl rfl ?_
  refine r_aload_n rfl rfl ?_
  refine r_iload rfl rfl ?_
  refine r_iconst rfl ?_
  refine r_iadd rfl ?_
  refine r_sld rfl V.2.1 ?_
  refine r_aload_n rfl rfl ?_
  refine r_iload rfl rfl ?_
  refine r_iconst rfl ?_
  refine r_iadd rfl ?_
  refine r_sld rfl V.2.2.1 ?_
  refine r_aload_n rfl rfl ?_
  refine r_iload rfl rfl ?_
  refine r_iconst rfl ?_
  refine r_iadd rfl ?_
  refine r_sld rfl V.2.2.2.1 ?_
  refine r_aload_n rfl rfl ?_
  refine r_iload rfl rfl ?_
  refine r_iconst rfl ?_
  refine r_iadd rfl ?_
  refine r_sld rfl V.2.2.2.2.1 ?_
  refine r_callVX rfl hQ rfl rfl rfl (by decide) rfl (am_cnt rfl) (fun U hU => ?_)
  refine r_icmp_eq rfl (fun _ => ?_) (fun h => absurd rfl h)
  exact K U o5 o6 o7 _ _ (hR U hU) h5 h6 h7 (by omega) (by omega)
