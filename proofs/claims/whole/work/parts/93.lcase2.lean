/-! The law, case by case (24 .. 34). -/
theorem lw_c24 {N : Nat} {xs : Nat → Int32} {Q : Option Value → am_G → Prop} {X : am_P} {i : Int32} {o5 o6 o7 : Option Value} {nc ns : Nat} {S : am_S} (R : RM S) (V : LwV N i) (K : LwK (some (N, xs)) Q X i nc ns) (h5 : ivO o5) (h6 : ivO o6) (h7 : ivO o7) : am_Ex (am_Call am_MT 750) mmL_law (some (N, xs)) Q X 1268 (LL i o5 o6 o7) [] (am_H S) nc ns := by
  obtain ⟨x, P, hA, hB⟩ := jn_pull (d := 50) R (xs (i + 1).toNatClampNeg) (xs (i + 2).toNatClampNeg) (xs (i + 3).toNatClampNeg) (xs (i + 4).toNatClampNeg)
  refine r_aload_n rfl rfl ?_
  refine r_aload_n rfl rfl ?_
  refine r_iload rfl rfl ?_
  refine r_iconst rfl ?_
  refine r_iadd rfl ?_
  refine r_sld rfl V.2.1 ?_
  refine r_aload_n rfl rfl ?_
  refine r_iload rfl rfl ?_
  refine r_iconst rfl ?_
  refine r_iadd rfl ?_
  refine r_sld rfl V.2.2.1 ?_
  refine r_aload_n rfl rfl ?_
  refine r_iload rfl rfl ?_
  refine r_iconst rfl ?_
  refine r_iadd rfl ?_
  refine r_sld rfl V.2.2.2.1 ?_
  refine r_aload_n rfl rfl ?_
  refine r_iload rfl rfl ?_
  refine r_iconst rfl ?_
  refine r_iadd rfl ?_
  refine r_sld rfl V.2.2.2.2.1 ?_
  refine r_callVX rfl hA rfl rfl rfl (by decide) rfl (am_cnt rfl) (fun T hT => ?_)
  obtain ⟨Q1, hQ, hR⟩ := hB T hT
  refine r_aload_n rfl rfl ?_
  refine r_aload_n rfl rfl ?_
  refine r_iload rfl rfl ?_
  refine r_iconst rfl ?_
  refine r_iadd rfl ?_
  refine r_sld rfl V.2.1 ?_
  refine r_aload_n rfl rfl ?_
  refine r_iload rfl rfl ?_
  refine r_iconst rfl ?_
  refine r_iadd rfl ?_
  refine r_sld rfl V.2.2.1 ?_
  refine r_aload_n rfl rfl ?_
  refine r_iload rfl rfl ?_
  refine r_iconst rfl ?_
  refine r_iadd rfl ?_
  refine r_sld rfl V.2.2.2.1 ?_
  refine r_aload_n rfl rfl ?_
  refine r_iload rfl rfl ?_
  refine r_iconst rfl ?_
  refine r_iadd rfl ?_
  refine r_sld rfl V.2.2.2.2.1 ?_
  refine r_callVX rfl hQ rfl rfl rfl (by decide) rfl (am_cnt rfl) (fun U hU => ?_)
  refine r_icmp_eq rfl (fun _ => ?_) (fun h => absurd rfl h)
  exact K U o5 o6 o7 _ _ (hR U hU) h5 h6 h7 (by omega) (by omega)
theorem lw_c25 {N : Nat} {xs : Nat → Int32} {Q : Option Value → am_G → Prop} {X : am_P} {i : Int32} {o5 o6 o7 : Option Value} {nc ns : Nat} {S : am_S} (R : RM S) (V : LwV N i) (K : LwK (some (N, xs)) Q X i nc ns) (h5 : ivO o5) (h6 : ivO o6) (h7 : ivO o7) : am_Ex (am_Call am_MT 750) mmL_law (some (N, xs)) Q X 1329 (LL i o5 o6 o7) [] (am_H S) nc ns := by
  obtain ⟨x, P, hA, hB⟩ := jn_edge (d := 50) R (xs (i + 1).toNatClampNeg)
  refine r_aload_n rfl rfl ?_
  refine r_aload_n rfl rfl ?_
  refine r_iload rfl rfl ?_
  refine r_iconst rfl ?_
  refine r_iadd rfl ?_
  refine r_sld rfl V.2.1 ?_
  refine r_callVX rfl hA rfl rfl rfl (by decide) rfl (am_cnt rfl) (fun T hT => ?_)
  obtain ⟨Q1, hQ, hR⟩ := hB T hT
  refine r_aload_n rfl rfl ?_
  refine r_aload_n rfl rfl ?_
  refine r_iload rfl rfl ?_
  refine r_iconst rfl ?_
  refine r_iadd rfl ?_
  refine r_sld rfl V.2.1 ?_
  refine r_callVX rfl hQ rfl rfl rfl (by decide) rfl (am_cnt rfl) (fun U hU => ?_)
  refine r_icmp_eq rfl (fun _ => ?_) (fun h => absurd rfl h)
  exact K U o5 o6 o7 _ _ (hR U hU) h5 h6 h7 (by omega) (by omega)
theorem lw_c26 {N : Nat} {xs : Nat → Int32} {Q : Option Value → am_G → Prop} {X : am_P} {i : Int32} {o5 o6 o7 : Option Value} {nc ns : Nat} {S : am_S} (R : RM S) (V : LwV N i) (K : LwK (some (N, xs)) Q X i nc ns) (h5 : ivO o5) (h6 : ivO o6) (h7 : ivO o7) : am_Ex (am_Call am_MT 750) mmL_law (some (N, xs)) Q X 1354 (LL i o5 o6 o7) [] (am_H S) nc ns := by
  obtain ⟨x, P, hA, hB⟩ := jn_gentle (d := 50) R (xs (i + 1).toNatClampNeg) (xs (i + 2).toNatClampNeg)
  refine r_aload_n rfl rfl ?_
  refine r_aload_n rfl rfl ?_
  refine r_iload rfl rfl ?_
  refine r_iconst rfl ?_
  refine r_iadd rfl ?_
  refine r_sld rfl V.2.1 ?_
  refine r_aload_n rfl rfl ?_
  refine r_iload rfl rfl ?_
  refine r_iconst rfl ?_
  refine r_iadd rfl ?_
  refine r_sld rfl V.2.2.1 ?_
  refine r_callVX rfl hA rfl rfl rfl (by decide) rfl (am_cnt rfl) (fun T hT => ?_)
  obtain ⟨Q1, hQ, hR⟩ := hB T hT
  refine r_aload_n rfl rfl ?_
  refine r_aload_n rfl rfl ?_
  refine r_iload rfl rfl ?_
  refine r_iconst rfl ?_
  refine r_iadd rfl ?_
  refine r_sld rfl V.2.1 ?_
  refine r_aload_n rfl rfl ?_
  refine r_iload rfl rfl ?_
  refine r_iconst rfl ?_
  refine r_iadd rfl ?_
  refine r_sld rfl V.2.2.1 ?_
  refine r_callVX rfl hQ rfl rfl rfl (by decide) rfl (am_cnt rfl) (fun U hU => ?_)
  refine r_icmp_eq rfl (fun _ => ?_) (fun h => absurd rfl h)
  exact K U o5 o6 o7 _ _ (hR U hU) h5 h6 h7 (by omega) (by omega)
theorem lw_c27 {N : Nat} {xs : Nat → Int32} {Q : Option Value → am_G → Prop} {X : am_P} {i : Int32} {o5 o6 o7 : Option Value} {nc ns : Nat} {S : am_S} (R : RM S) (V : LwV N i) (K : LwK (some (N, xs)) Q X i nc ns) (h5 : ivO o5) (h6 : ivO o6) (h7 : ivO o7) : am_Ex (am_Call am_MT 750) mmL_law (some (N, xs)) Q X 1391 (LL i o5 o6 o7) [] (am_H S) nc ns := by
  obtain ⟨x, P, hA, hB⟩ := jn_weight (d := 50) R (xs (i + 1).toNatClampNeg) (xs (i + 2).toNatClampNeg) (xs (i + 3).toNatClampNeg)
  refine r_aload_n rfl rfl ?_
  refine r_aload_n rfl rfl ?_
  refine r_iload rfl rfl ?_
  refine r_iconst rfl ?_
  refine r_iadd rfl ?_
  refine r_sld rfl V.2.1 ?_
  refine r_aload_n rfl rfl ?_
  refine r_iload rfl rfl ?_
  refine r_iconst rfl ?_
  refine r_iadd rfl ?_
  refine r_sld rfl V.2.2.1 ?_
  refine r_aload_n rfl rfl ?_
  refine r_iload rfl rfl ?_
  refine r_iconst rfl ?_
  refine r_iadd rfl ?_
  refine r_sld rfl V.2.2.2.1 ?_
  refine r_callVX rfl hA rfl rfl rfl (by decide) rfl (am_cnt rfl) (fun T hT => ?_)
  obtain ⟨Q1, hQ, hR⟩ := hB T hT
  refine r_aload_n rfl rfl ?_
  refine r_aload_n rfl rfl ?_
  refine r_iload rfl rfl ?_
  refine r_iconst rfl ?_
  refine r_iadd rfl ?_
  refine r_sld rfl V.2.1 ?_
  refine r_aload_n rfl rfl ?_
  refine r_iload rfl rfl ?_
  refine r_iconst rfl ?_
  refine r_iadd rfl ?_
  refine r_sld rfl V.2.2.1 ?_
  refine r_aload_n rfl rfl ?_
  refine r_iload rfl rfl ?_
  refine r_iconst rfl ?_
  refine r_iadd rfl ?_
  refine r_sld rfl V.2.2.2.1 ?_
  refine r_callVX rfl hQ rfl rfl rfl (by decide) rfl (am_cnt rfl) (fun U hU => ?_)
  refine r_icmp_eq rfl (fun _ => ?_) (fun h => absurd rfl h)
  exact K U o5 o6 o7 _ _ (hR U hU) h5 h6 h7 (by omega) (by omega)
theorem lw_c28 {N : Nat} {xs : Nat → Int32} {Q : Option Value → am_G → Prop} {X : am_P} {i : Int32} {o5 o6 o7 : Option Value} {nc ns : Nat} {S : am_S} (R : RM S) (V : LwV N i) (K : LwK (some (N, xs)) Q X i nc ns) (h5 : ivO o5) (h6 : ivO o6) (h7 : ivO o7) : am_Ex (am_Call am_MT 750) mmL_law (some (N, xs)) Q X 1440 (LL i o5 o6 o7) [] (am_H S) nc ns := by
  obtain ⟨x, P, hA, hB⟩ := jn_pays (d := 50) R 
  refine r_aload_n rfl rfl ?_
  refine r_callVX rfl hA rfl rfl rfl (by decide) rfl (am_cnt rfl) (fun T hT => ?_)
  obtain ⟨Q1, hQ, hR⟩ := hB T hT
  refine r_aload_n rfl rfl ?_
  refine r_callVX rfl hQ rfl rfl rfl (by decide) rfl (am_cnt rfl) (fun U hU => ?_)
  refine r_icmp_eq rfl (fun _ => ?_) (fun h => absurd rfl h)
  exact K U o5 o6 o7 _ _ (hR U hU) h5 h6 h7 (by omega) (by omega)
theorem lw_c29 {N : Nat} {xs : Nat → Int32} {Q : Option Value → am_G → Prop} {X : am_P} {i : Int32} {o5 o6 o7 : Option Value} {nc ns : Nat} {S : am_S} (R : RM S) (V : LwV N i) (K : LwK (some (N, xs)) Q X i nc ns) (h5 : ivO o5) (h6 : ivO o6) (h7 : ivO o7) : am_Ex (am_Call am_MT 750) mmL_law (some (N, xs)) Q X 1453 (LL i o5 o6 o7) [] (am_H S) nc ns := by
  obtain ⟨x, P, hA, hB⟩ := jn_two (d := 50) R 
  refine r_aload_n rfl rfl ?_
  refine r_callVX rfl hA rfl rfl rfl (by decide) rfl (am_cnt rfl) (fun T hT => ?_)
  obtain ⟨Q1, hQ, hR⟩ := hB T hT
  refine r_aload_n rfl rfl ?_
  refine r_callVX rfl hQ rfl rfl rfl (by decide) rfl (am_cnt rfl) (fun U hU => ?_)
  refine r_lcmp rfl ?_
  refine r_if_eq rfl (fun _ => ?_) (fun h => absurd lg_same h)
  exact K U o5 o6 o7 _ _ (hR U hU) h5 h6 h7 (by omega) (by omega)
theorem lw_c30 {N : Nat} {xs : Nat → Int32} {Q : Option Value → am_G → Prop} {X : am_P} {i : Int32} {o5 o6 o7 : Option Value} {nc ns : Nat} {S : am_S} (R : RM S) (V : LwV N i) (K : LwK (some (N, xs)) Q X i nc ns) (h5 : ivO o5) (h6 : ivO o6) (h7 : ivO o7) : am_Ex (am_Call am_MT 750) mmL_law (some (N, xs)) Q X 1467 (LL i o5 o6 o7) [] (am_H S) nc ns := by
  obtain ⟨x, P, hA, hB⟩ := jn_stand (d := 50) R (xs (i + 1).toNatClampNeg) (xs (i + 2).toNatClampNeg)
  refine r_aload_n rfl rfl ?_
  refine r_aload_n rfl rfl ?_
  refine r_iload rfl rfl ?_
  refine r_iconst rfl ?_
  refine r_iadd rfl ?_
  refine r_sld rfl V.2.1 ?_
  refine r_aload_n rfl rfl ?_
  refine r_iload rfl rfl ?_
  refine r_iconst rfl ?_
  refine r_iadd rfl ?_
  refine r_sld rfl V.2.2.1 ?_
  refine r_callVX rfl hA rfl rfl rfl (by decide) rfl (am_cnt rfl) (fun T hT => ?_)
  obtain ⟨Q1, hQ, hR⟩ := hB T hT
  refine r_aload_n rfl rfl ?_
  refine r_aload_n rfl rfl ?_
  refine r_iload rfl rfl ?_
  refine r_iconst rfl ?_
  refine r_iadd rfl ?_
  refine r_sld rfl V.2.1 ?_
  refine r_aload_n rfl rfl ?_
  refine r_iload rfl rfl ?_
  refine r_iconst rfl ?_
  refine r_iadd rfl ?_
  refine r_sld rfl V.2.2.1 ?_
  refine r_callVX rfl hQ rfl rfl rfl (by decide) rfl (am_cnt rfl) (fun U hU => ?_)
  refine r_icmp_eq rfl (fun _ => ?_) (fun h => absurd rfl h)
  exact K U o5 o6 o7 _ _ (hR U hU) h5 h6 h7 (by omega) (by omega)
theorem lw_c31 {N : Nat} {xs : Nat → Int32} {Q : Option Value → am_G → Prop} {X : am_P} {i : Int32} {o5 o6 o7 : Option Value} {nc ns : Nat} {S : am_S} (R : RM S) (V : LwV N i) (K : LwK (some (N, xs)) Q X i nc ns) (h5 : ivO o5) (h6 : ivO o6) (h7 : ivO o7) : am_Ex (am_Call am_MT 750) mmL_law (some (N, xs)) Q X 1504 (LL i o5 o6 o7) [] (am_H S) nc ns := by
  obtain ⟨x, P, hA, hB⟩ := jn_gap (d := 50) R 
  refine r_aload_n rfl rfl ?_
  refine r_callVX rfl hA rfl rfl rfl (by decide) rfl (am_cnt rfl) (fun T hT => ?_)
  obtain ⟨Q1, hQ, hR⟩ := hB T hT
  refine r_aload_n rfl rfl ?_
  refine r_callVX rfl hQ rfl rfl rfl (by decide) rfl (am_cnt rfl) (fun U hU => ?_)
  refine r_lcmp rfl ?_
  refine r_if_eq rfl (fun _ => ?_) (fun h => absurd lg_same h)
  exact K U o5 o6 o7 _ _ (hR U hU) h5 h6 h7 (by omega) (by omega)
theorem lw_c32 {N : Nat} {xs : Nat → Int32} {Q : Option Value → am_G → Prop} {X : am_P} {i : Int32} {o5 o6 o7 : Option Value} {nc ns : Nat} {S : am_S} (R : RM S) (V : LwV N i) (K : LwK (some (N, xs)) Q X i nc ns) (h5 : ivO o5) (h6 : ivO o6) (h7 : ivO o7) : am_Ex (am_Call am_MT 750) mmL_law (some (N, xs)) Q X 1518 (LL i o5 o6 o7) [] (am_H S) nc ns := by
  obtain ⟨x, P, hA, hB⟩ := jn_says (d := 50) R (xs (i + 1).toNatClampNeg) (xs (i + 2).toNatClampNeg)
  refine r_aload_n rfl rfl ?_
  refine r_aload_n rfl rfl ?_
  refine r_iload rfl rfl ?_
  refine r_iconst rfl ?_
  refine r_iadd rfl ?_
  refine r_sld rfl V.2.1 ?_
  refine r_aload_n rfl rfl ?_
  refine r_iload rfl rfl ?_
  refine r_iconst rfl ?_
  refine r_iadd rfl ?_
  refine r_sld rfl V.2.2.1 ?_
  refine r_callVX rfl hA rfl rfl rfl (by decide) rfl (am_cnt rfl) (fun T hT => ?_)
  obtain ⟨Q1, hQ, hR⟩ := hB T hT
  refine r_aload_n rfl rfl ?_
  refine r_aload_n rfl rfl ?_
  refine r_iload rfl rfl ?_
  refine r_iconst rfl ?_
  refine r_iadd rfl ?_
  refine r_sld rfl V.2.1 ?_
  refine r_aload_n rfl rfl ?_
  refine r_iload rfl rfl ?_
  refine r_iconst rfl ?_
  refine r_iadd rfl ?_
  refine r_sld rfl V.2.2.1 ?_
  refine r_callVX rfl hQ rfl rfl rfl (by decide) rfl (am_cnt rfl) (fun U hU => ?_)
  refine r_icmp_eq rfl (fun _ => ?_) (fun h => absurd rfl h)
  exact K U o5 o6 o7 _ _ (hR U hU) h5 h6 h7 (by omega) (by omega)
theorem lw_c33 {N : Nat} {xs : Nat → Int32} {Q : Option Value → am_G → Prop} {X : am_P} {i : Int32} {o5 o6 o7 : Option Value} {nc ns : Nat} {S : am_S} (R : RM S) (V : LwV N i) (K : LwK (some (N, xs)) Q X i nc ns) (h5 : ivO o5) (h6 : ivO o6) (h7 : ivO o7) : am_Ex (am_Call am_MT 750) mmL_law (some (N, xs)) Q X 1555 (LL i o5 o6 o7) [] (am_H S) nc ns := by
  obtain ⟨x, P, hA, hB⟩ := jn_soon (d := 50) R (xs (i + 1).toNatClampNeg) (xs (i + 2).toNatClampNeg)
  refine r_aload_n rfl rfl ?_
  refine r_aload_n rfl rfl ?_
  refine r_iload rfl rfl ?_
  refine r_iconst rfl ?_
  refine r_iadd rfl ?_
  refine r_sld rfl V.2.1 ?_
  refine r_aload_n rfl rfl ?_
  refine r_iload rfl rfl ?_
  refine r_iconst rfl ?_
  refine r_iadd rfl ?_
  refine r_sld rfl V.2.2.1 ?_
  refine r_callVX rfl hA rfl rfl rfl (by decide) rfl (am_cnt rfl) (fun T hT => ?_)
  obtain ⟨Q1, hQ, hR⟩ := hB T hT
  refine r_aload_n rfl rfl ?_
  refine r_aload_n rfl rfl ?_
  refine r_iload rfl rfl ?_
  refine r_iconst rfl ?_
  refine r_iadd rfl ?_
  refine r_sld rfl V.2.1 ?_
  refine r_aload_n rfl rfl ?_
  refine r_iload rfl rfl ?_
  refine r_iconst rfl ?_
  refine r_iadd rfl ?_
  refine r_sld rfl V.2.2.1 ?_
  refine r_callVX rfl hQ rfl rfl rfl (by decide) rfl (am_cnt rfl) (fun U hU => ?_)
  refine r_icmp_eq rfl (fun _ => ?_) (fun h => absurd rfl h)
  exact K U o5 o6 o7 _ _ (hR U hU) h5 h6 h7 (by omega) (by omega)
theorem lw_c34 {N : Nat} {xs : Nat → Int32} {Q : Option Value → am_G → Prop} {X : am_P} {i : Int32} {o5 o6 o7 : Option Value} {nc ns : Nat} {S : am_S} (R : RM S) (V : LwV N i) (K : LwK (some (N, xs)) Q X i nc ns) (h5 : ivO o5) (h6 : ivO o6) (h7 : ivO o7) : am_Ex (am_Call am_MT 750) mmL_law (some (N, xs)) Q X 1592 (LL i o5 o6 o7) [] (am_H S) nc ns := by
  obtain ⟨x, P, hA, hB⟩ := jn_know (d := 50) R (xs (i + 1).toNatClampNeg) (xs (i + 2).toNatClampNeg) (xs (i + 3).toNatClampNeg)
  refine r_aload_n rfl rfl ?_
  refine r_aload_n rfl rfl ?_
  refine r_iload rfl rfl ?_
  refine r_iconst rfl ?_
  refine r_iadd rfl ?_
  refine r_sld rfl V.2.1 ?_
  refine r_aload_n rfl rfl ?_
  refine r_iload rfl rfl ?_
  refine r_iconst rfl ?_
  refine r_iadd rfl ?_
  refine r_sld rfl V.2.2.1 ?_
  refine r_aload_n rfl rfl ?_
  refine r_iload rfl rfl ?_
  refine r_iconst rfl ?_
  refine r_iadd rfl ?_
  refine r_sld rfl V.2.2.2.1 ?_
  refine r_callVX rfl hA rfl rfl rfl (by decide) rfl (am_cnt rfl) (fun T hT => ?_)
  obtain ⟨Q1, hQ, hR⟩ := hB T hT
  refine r_aload_n rfl rfl ?_
  refine r_aload_n rfl rfl ?_
  refine r_iload rfl rfl ?_
  refine r_iconst rfl ?_
  refine r_iadd rfl ?_
  refine r_sld rfl V.2.1 ?_
  refine r_aload_n rfl rfl ?_
  refine r_iload rfl rfl ?_
  refine r_iconst rfl ?_
  refine r_iadd rfl ?_
  refine r_sld rfl V.2.2.1 ?_
  refine r_aload_n rfl rfl ?_
  refine r_iload rfl rfl ?_
  refine r_iconst rfl ?_
  refine r_iadd rfl ?_
  refine r_sld rfl V.2.2.2.1 ?_
  refine r_callVX rfl hQ rfl rfl rfl (by decide) rfl (am_cnt rfl) (fun U hU => ?_)
  refine r_icmp_eq rfl (fun _ => ?_) (fun h => absurd rfl h)
  exact K U o5 o6 o7 _ _ (hR U hU) h5 h6 h7 (by omega) (by omega)
