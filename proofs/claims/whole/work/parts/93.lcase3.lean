/-! The law, case by case (35 .. 45). -/
theorem lw_c35 {N : Nat} {xs : Nat → Int32} {Q : Option Value → am_G → Prop} {X : am_P} {i : Int32} {o5 o6 o7 : Option Value} {nc ns : Nat} {S : am_S} (R : RM S) (V : LwV N i) (K : LwK (some (N, xs)) Q X i nc ns) (h5 : ivO o5) (h6 : ivO o6) (h7 : ivO o7) : am_Ex (am_Call am_MT 750) mmL_law (some (N, xs)) Q X 1641 (LL i o5 o6 o7) [] (am_H S) nc ns := by
  obtain ⟨x, P, hA, hB⟩ := jn_crier (d := 50) R 
  refine r_aload_n rfl rfl ?_
  refine r_callVX rfl hA rfl rfl rfl (by decide) rfl (am_cnt rfl) (fun T hT => ?_)
  obtain ⟨Q1, hQ, hR⟩ := hB T hT
  refine r_aload_n rfl rfl ?_
  refine r_callVX rfl hQ rfl rfl rfl (by decide) rfl (am_cnt rfl) (fun U hU => ?_)
  refine r_icmp_eq rfl (fun _ => ?_) (fun h => absurd rfl h)
  exact K U o5 o6 o7 _ _ (hR U hU) h5 h6 h7 (by omega) (by omega)
theorem lw_c36 {N : Nat} {xs : Nat → Int32} {Q : Option Value → am_G → Prop} {X : am_P} {i : Int32} {o5 o6 o7 : Option Value} {nc ns : Nat} {S : am_S} (R : RM S) (V : LwV N i) (K : LwK (some (N, xs)) Q X i nc ns) (h5 : ivO o5) (h6 : ivO o6) (h7 : ivO o7) : am_Ex (am_Call am_MT 750) mmL_law (some (N, xs)) Q X 1654 (LL i o5 o6 o7) [] (am_H S) nc ns := by
  obtain ⟨x, P, hA, hB⟩ := jn_deaf (d := 50) R (xs (i + 1).toNatClampNeg)
  refine r_aload_n rfl rfl ?_
  refine r_aload_n rfl rfl ?_
  refine r_iload rfl rfl ?_
  refine r_iconst rfl ?_
  refine r_iadd rfl ?_
  refine r_sld rfl V.2.1 ?_
  refine r_callVX rfl hA rfl rfl rfl (by decide) rfl (am_cnt rfl) (fun T hT => ?_)
  obtain ⟨Q1, hQ, hR⟩ := hB T hT
  refine r_aload_n rfl rfl ?_
  refine r_aload_n rfl rfl ?_
  refine r_iload rfl rfl ?_
  refine r_iconst rfl ?_
  refine r_iadd rfl ?_
  refine r_sld rfl V.2.1 ?_
  refine r_callVX rfl hQ rfl rfl rfl (by decide) rfl (am_cnt rfl) (fun U hU => ?_)
  refine r_icmp_eq rfl (fun _ => ?_) (fun h => absurd rfl h)
  exact K U o5 o6 o7 _ _ (hR U hU) h5 h6 h7 (by omega) (by omega)
theorem lw_c37 {N : Nat} {xs : Nat → Int32} {Q : Option Value → am_G → Prop} {X : am_P} {i : Int32} {o5 o6 o7 : Option Value} {nc ns : Nat} {S : am_S} (R : RM S) (V : LwV N i) (K : LwK (some (N, xs)) Q X i nc ns) (h5 : ivO o5) (h6 : ivO o6) (h7 : ivO o7) : am_Ex (am_Call am_MT 750) mmL_law (some (N, xs)) Q X 1679 (LL i o5 o6 o7) [] (am_H S) nc ns := by
  obtain ⟨x, P, hA, hB⟩ := jn_warn (d := 50) R (xs (i + 1).toNatClampNeg) (xs (i + 2).toNatClampNeg) (xs (i + 3).toNatClampNeg) (xs (i + 4).toNatClampNeg) (xs (i + 5).toNatClampNeg)
  refine r_aload_n rfl rfl ?_
  refine r_aload_n rfl rfl ?_
  refine r_iload rfl rfl ?_
  refine r_iconst rfl ?_
  refine r_iadd rfl ?_
  refine r_sld rfl V.2.1 ?_
  refine r_aload_n rfl rfl ?_
  refine r_iload rfl rfl ?_
  refine r_iconst rfl ?_
  refine r_iadd rfl ?_
  refine r_sld rfl V.2.2.1 ?_
  refine r_aload_n rfl rfl ?_
  refine r_iload rfl rfl ?_
  refine r_iconst rfl ?_
  refine r_iadd rfl ?_
  refine r_sld rfl V.2.2.2.1 ?_
  refine r_aload_n rfl rfl ?_
  refine r_iload rfl rfl ?_
  refine r_iconst rfl ?_
  refine r_iadd rfl ?_
  refine r_sld rfl V.2.2.2.2.1 ?_
  refine r_aload_n rfl rfl ?_
  refine r_iload rfl rfl ?_
  refine r_iconst rfl ?_
  refine r_iadd rfl ?_
  refine r_sld rfl V.2.2.2.2.2 ?_
  refine r_callVX rfl hA rfl rfl rfl (by decide) rfl (am_cnt rfl) (fun T hT => ?_)
  obtain ⟨Q1, hQ, hR⟩ := hB T hT
  refine r_aload_n rfl rfl ?_
  refine r_aload_n rfl rfl ?_
  refine r_iload rfl rfl ?_
  refine r_iconst rfl ?_
  refine r_iadd rfl ?_
  refine r_sld rfl V.2.1 ?_
  refine r_aload_n rfl rfl ?_
  refine r_iload rfl rfl ?_
  refine r_iconst rfl ?_
  refine r_iadd rfl ?_
  refine r_sld rfl V.2.2.1 ?_
  refine r_aload_n rfl rfl ?_
  refine r_iload rfl rfl ?_
  refine r_iconst rfl ?_
  refine r_iadd rfl ?_
  refine r_sld rfl V.2.2.2.1 ?_
  refine r_aload_n rfl rfl ?_
  refine r_iload rfl rfl ?_
  refine r_iconst rfl ?_
  refine r_iadd rfl ?_
  refine r_sld rfl V.2.2.2.2.1 ?_
  refine r_aload_n rfl rfl ?_
  refine r_iload rfl rfl ?_
  refine r_iconst rfl ?_
  refine r_iadd rfl ?_
  refine r_sld rfl V.2.2.2.2.2 ?_
  refine r_callVX rfl hQ rfl rfl rfl (by decide) rfl (am_cnt rfl) (fun U hU => ?_)
  refine r_icmp_eq rfl (fun _ => ?_) (fun h => absurd rfl h)
  exact K U o5 o6 o7 _ _ (hR U hU) h5 h6 h7 (by omega) (by omega)
theorem lw_c38 {N : Nat} {xs : Nat → Int32} {Q : Option Value → am_G → Prop} {X : am_P} {i : Int32} {o5 o6 o7 : Option Value} {nc ns : Nat} {S : am_S} (R : RM S) (V : LwV N i) (K : LwK (some (N, xs)) Q X i nc ns) (h5 : ivO o5) (h6 : ivO o6) (h7 : ivO o7) : am_Ex (am_Call am_MT 750) mmL_law (some (N, xs)) Q X 1752 (LL i o5 o6 o7) [] (am_H S) nc ns := by
  obtain ⟨x, P, hA, hB⟩ := jn_fog (d := 50) R (xs (i + 1).toNatClampNeg) (xs (i + 2).toNatClampNeg) (xs (i + 3).toNatClampNeg) (xs (i + 4).toNatClampNeg)
  refine r_aload_n rfl rfl ?_
  refine r_aload_n rfl rfl ?_
  refine r_iload rfl rfl ?_
  refine r_iconst rfl ?_
  refine r_iadd rfl ?_
  refine r_sld rfl V.2.1 ?_
  refine r_aload_n rfl rfl ?_
  refine r_iload rfl rfl ?_
  refine r_iconst rfl ?_
  refine r_iadd rfl ?_
  refine r_sld rfl V.2.2.1 ?_
  refine r_aload_n rfl rfl ?_
  refine r_iload rfl rfl ?_
  refine r_iconst rfl ?_
  refine r_iadd rfl ?_
  refine r_sld rfl V.2.2.2.1 ?_
  refine r_aload_n rfl rfl ?_
  refine r_iload rfl rfl ?_
  refine r_iconst rfl ?_
  refine r_iadd rfl ?_
  refine r_sld rfl V.2.2.2.2.1 ?_
  refine r_callVX rfl hA rfl rfl rfl (by decide) rfl (am_cnt rfl) (fun T hT => ?_)
  obtain ⟨Q1, hQ, hR⟩ := hB T hT
  refine r_aload_n rfl rfl ?_
  refine r_aload_n rfl rfl ?_
  refine r_iload rfl rfl ?_
  refine r_iconst rfl ?_
  refine r_iadd rfl ?_
  refine r_sld rfl V.2.1 ?_
  refine r_aload_n rfl rfl ?_
  refine r_iload rfl rfl ?_
  refine r_iconst rfl ?_
  refine r_iadd rfl ?_
  refine r_sld rfl V.2.2.1 ?_
  refine r_aload_n rfl rfl ?_
  refine r_iload rfl rfl ?_
  refine r_iconst rfl ?_
  refine r_iadd rfl ?_
  refine r_sld rfl V.2.2.2.1 ?_
  refine r_aload_n rfl rfl ?_
  refine r_iload rfl rfl ?_
  refine r_iconst rfl ?_
  refine r_iadd rfl ?_
  refine r_sld rfl V.2.2.2.2.1 ?_
  refine r_callVX rfl hQ rfl rfl rfl (by decide) rfl (am_cnt rfl) (fun U hU => ?_)
  refine r_icmp_eq rfl (fun _ => ?_) (fun h => absurd rfl h)
  exact K U o5 o6 o7 _ _ (hR U hU) h5 h6 h7 (by omega) (by omega)
theorem lw_c39 {N : Nat} {xs : Nat → Int32} {Q : Option Value → am_G → Prop} {X : am_P} {i : Int32} {o5 o6 o7 : Option Value} {nc ns : Nat} {S : am_S} (R : RM S) (V : LwV N i) (K : LwK (some (N, xs)) Q X i nc ns) (h5 : ivO o5) (h6 : ivO o6) (h7 : ivO o7) : am_Ex (am_Call am_MT 750) mmL_law (some (N, xs)) Q X 1813 (LL i o5 o6 o7) [] (am_H S) nc ns := by
  obtain ⟨x, P, hA, hB⟩ := jn_chance (d := 50) R (xs (i + 1).toNatClampNeg) (xs (i + 2).toNatClampNeg) (xs (i + 3).toNatClampNeg)
  refine r_aload_n rfl rfl ?_
  refine r_aload_n rfl rfl ?_
  refine r_iload rfl rfl ?_
  refine r_iconst rfl ?_
  refine r_iadd rfl ?_
  refine r_sld rfl V.2.1 ?_
  refine r_aload_n rfl rfl ?_
  refine r_iload rfl rfl ?_
  refine r_iconst rfl ?_
  refine r_iadd rfl ?_
  refine r_sld rfl V.2.2.1 ?_
  refine r_aload_n rfl rfl ?_
  refine r_iload rfl rfl ?_
  refine r_iconst rfl ?_
  refine r_iadd rfl ?_
  refine r_sld rfl V.2.2.2.1 ?_
  refine r_callVX rfl hA rfl rfl rfl (by decide) rfl (am_cnt rfl) (fun T hT => ?_)
  obtain ⟨Q1, hQ, hR⟩ := hB T hT
  refine r_aload_n rfl rfl ?_
  refine r_aload_n rfl rfl ?_
  refine r_iload rfl rfl ?_
  refine r_iconst rfl ?_
  refine r_iadd rfl ?_
  refine r_sld rfl V.2.1 ?_
  refine r_aload_n rfl rfl ?_
  refine r_iload rfl rfl ?_
  refine r_iconst rfl ?_
  refine r_iadd rfl ?_
  refine r_sld rfl V.2.2.1 ?_
  refine r_aload_n rfl rfl ?_
  refine r_iload rfl rfl ?_
  refine r_iconst rfl ?_
  refine r_iadd rfl ?_
  refine r_sld rfl V.2.2.2.1 ?_
  refine r_callVX rfl hQ rfl rfl rfl (by decide) rfl (am_cnt rfl) (fun U hU => ?_)
  refine r_icmp_eq rfl (fun _ => ?_) (fun h => absurd rfl h)
  exact K U o5 o6 o7 _ _ (hR U hU) h5 h6 h7 (by omega) (by omega)
theorem lw_c40 {N : Nat} {xs : Nat → Int32} {Q : Option Value → am_G → Prop} {X : am_P} {i : Int32} {o5 o6 o7 : Option Value} {nc ns : Nat} {S : am_S} (R : RM S) (V : LwV N i) (K : LwK (some (N, xs)) Q X i nc ns) (h5 : ivO o5) (h6 : ivO o6) (h7 : ivO o7) : am_Ex (am_Call am_MT 750) mmL_law (some (N, xs)) Q X 1862 (LL i o5 o6 o7) [] (am_H S) nc ns := by
  obtain ⟨x, P, hA, hB⟩ := jn_sure (d := 50) R (xs (i + 1).toNatClampNeg) (xs (i + 2).toNatClampNeg) (xs (i + 3).toNatClampNeg)
  refine r_aload_n rfl rfl ?_
  refine r_aload_n rfl rfl ?_
  refine r_iload rfl rfl ?_
  refine r_iconst rfl ?_
  refine r_iadd rfl ?_
  refine r_sld rfl V.2.1 ?_
  refine r_aload_n rfl rfl ?_
  refine r_iload rfl rfl ?_
  refine r_iconst rfl ?_
  refine r_iadd rfl ?_
  refine r_sld rfl V.2.2.1 ?_
  refine r_aload_n rfl rfl ?_
  refine r_iload rfl rfl ?_
  refine r_iconst rfl ?_
  refine r_iadd rfl ?_
  refine r_sld rfl V.2.2.2.1 ?_
  refine r_callVX rfl hA rfl rfl rfl (by decide) rfl (am_cnt rfl) (fun T hT => ?_)
  obtain ⟨Q1, hQ, hR⟩ := hB T hT
  refine r_aload_n rfl rfl ?_
  refine r_aload_n rfl rfl ?_
  refine r_iload rfl rfl ?_
  refine r_iconst rfl ?_
  refine r_iadd rfl ?_
  refine r_sld rfl V.2.1 ?_
  refine r_aload_n rfl rfl ?_
  refine r_iload rfl rfl ?_
  refine r_iconst rfl ?_
  refine r_iadd rfl ?_
  refine r_sld rfl V.2.2.1 ?_
  refine r_aload_n rfl rfl ?_
  refine r_iload rfl rfl ?_
  refine r_iconst rfl ?_
  refine r_iadd rfl ?_
  refine r_sld rfl V.2.2.2.1 ?_
  refine r_callVX rfl hQ rfl rfl rfl (by decide) rfl (am_cnt rfl) (fun U hU => ?_)
  refine r_icmp_eq rfl (fun _ => ?_) (fun h => absurd rfl h)
  exact K U o5 o6 o7 _ _ (hR U hU) h5 h6 h7 (by omega) (by omega)
theorem lw_c41 {N : Nat} {xs : Nat → Int32} {Q : Option Value → am_G → Prop} {X : am_P} {i : Int32} {o5 o6 o7 : Option Value} {nc ns : Nat} {S : am_S} (R : RM S) (V : LwV N i) (K : LwK (some (N, xs)) Q X i nc ns) (h5 : ivO o5) (h6 : ivO o6) (h7 : ivO o7) : am_Ex (am_Call am_MT 750) mmL_law (some (N, xs)) Q X 1911 (LL i o5 o6 o7) [] (am_H S) nc ns := by
  obtain ⟨x, P, hA, hB⟩ := jn_seed (d := 50) R (xs (i + 1).toNatClampNeg)
  refine r_aload_n rfl rfl ?_
  refine r_aload_n rfl rfl ?_
  refine r_iload rfl rfl ?_
  refine r_iconst rfl ?_
  refine r_iadd rfl ?_
  refine r_sld rfl V.2.1 ?_
  refine r_callVX rfl hA rfl rfl rfl (by decide) rfl (am_cnt rfl) (fun T hT => ?_)
  obtain ⟨Q1, hQ, hR⟩ := hB T hT
  refine r_aload_n rfl rfl ?_
  refine r_aload_n rfl rfl ?_
  refine r_iload rfl rfl ?_
  refine r_iconst rfl ?_
  refine r_iadd rfl ?_
  refine r_sld rfl V.2.1 ?_
  refine r_callVX rfl hQ rfl rfl rfl (by decide) rfl (am_cnt rfl) (fun U hU => ?_)
  refine r_icmp_eq rfl (fun _ => ?_) (fun h => absurd rfl h)
  exact K U o5 o6 o7 _ _ (hR U hU) h5 h6 h7 (by omega) (by omega)
theorem lw_c42 {N : Nat} {xs : Nat → Int32} {Q : Option Value → am_G → Prop} {X : am_P} {i : Int32} {o5 o6 o7 : Option Value} {nc ns : Nat} {S : am_S} (R : RM S) (V : LwV N i) (K : LwK (some (N, xs)) Q X i nc ns) (h5 : ivO o5) (h6 : ivO o6) (h7 : ivO o7) (hc : nc + 6 ≤ 601024) (hs : ns + 5009 ≤ 7293034) (HK : LwC (some (N, xs)) Q X) : am_Ex (am_Call am_MT 750) mmL_law (some (N, xs)) Q X 1936 (LL i o5 o6 o7) [] (am_H S) nc ns := by
  obtain ⟨x, P, hA, hB⟩ := jn_keep (d := 50) R (xs (i + 1).toNatClampNeg)
  refine r_aload_n rfl rfl ?_
  refine r_aload_n rfl rfl ?_
  refine r_iload rfl rfl ?_
  refine r_iconst rfl ?_
  refine r_iadd rfl ?_
  refine r_sld rfl V.2.1 ?_
  refine r_virtX rfl (HK _ _ _ _ _ _ _ (LL_wf h5 h6 h7) hc hs hA (fun T hT => ?_))
  obtain ⟨Q1, hQ, hR⟩ := hB T hT
  refine r_aload_n rfl rfl ?_
  refine r_aload_n rfl rfl ?_
  refine r_iload rfl rfl ?_
  refine r_iconst rfl ?_
  refine r_iadd rfl ?_
  refine r_sld rfl V.2.1 ?_
  refine r_callVX rfl hQ rfl rfl rfl (by decide) rfl (am_cnt rfl) (fun U hU => ?_)
  refine r_icmp_eq rfl (fun _ => ?_) (fun h => absurd rfl h)
  exact K U o5 o6 o7 _ _ (hR U hU) h5 h6 h7 (Nat.le_refl _) (Nat.le_refl _)
theorem lw_c43 {N : Nat} {xs : Nat → Int32} {Q : Option Value → am_G → Prop} {X : am_P} {i : Int32} {o5 o6 o7 : Option Value} {nc ns : Nat} {S : am_S} (R : RM S) (V : LwV N i) (K : LwK (some (N, xs)) Q X i nc ns) (h5 : ivO o5) (h6 : ivO o6) (h7 : ivO o7) : am_Ex (am_Call am_MT 750) mmL_law (some (N, xs)) Q X 1961 (LL i o5 o6 o7) [] (am_H S) nc ns := by
  obtain ⟨x, P, hA, hB⟩ := jn_again (d := 50) R (xs (i + 1).toNatClampNeg)
  refine r_aload_n rfl rfl ?_
  refine r_aload_n rfl rfl ?_
  refine r_iload rfl rfl ?_
  refine r_iconst rfl ?_
  refine r_iadd rfl ?_
  refine r_sld rfl V.2.1 ?_
  refine r_callVX rfl hA rfl rfl rfl (by decide) rfl (am_cnt rfl) (fun T hT => ?_)
  obtain ⟨Q1, hQ, hR⟩ := hB T hT
  refine r_aload_n rfl rfl ?_
  refine r_aload_n rfl rfl ?_
  refine r_iload rfl rfl ?_
  refine r_iconst rfl ?_
  refine r_iadd rfl ?_
  refine r_sld rfl V.2.1 ?_
  refine r_callVX rfl hQ rfl rfl rfl (by decide) rfl (am_cnt rfl) (fun U hU => ?_)
  refine r_icmp_eq rfl (fun _ => ?_) (fun h => absurd rfl h)
  exact K U o5 o6 o7 _ _ (hR U hU) h5 h6 h7 (by omega) (by omega)
theorem lw_c44 {N : Nat} {xs : Nat → Int32} {Q : Option Value → am_G → Prop} {X : am_P} {i : Int32} {o5 o6 o7 : Option Value} {nc ns : Nat} {S : am_S} (R : RM S) (V : LwV N i) (K : LwK (some (N, xs)) Q X i nc ns) (h5 : ivO o5) (h6 : ivO o6) (h7 : ivO o7) : am_Ex (am_Call am_MT 750) mmL_law (some (N, xs)) Q X 1986 (LL i o5 o6 o7) [] (am_H S) nc ns := by
  obtain ⟨x, P, hA, hB⟩ := jn_count (d := 50) R (xs (i + 1).toNatClampNeg)
  refine r_aload_n rfl rfl ?_
  refine r_aload_n rfl rfl ?_
  refine r_iload rfl rfl ?_
  refine r_iconst rfl ?_
  refine r_iadd rfl ?_
  refine r_sld rfl V.2.1 ?_
  refine r_callVX rfl hA rfl rfl rfl (by decide) rfl (am_cnt rfl) (fun T hT => ?_)
  obtain ⟨Q1, hQ, hR⟩ := hB T hT
  refine r_aload_n rfl rfl ?_
  refine r_aload_n rfl rfl ?_
  refine r_iload rfl rfl ?_
  refine r_iconst rfl ?_
  refine r_iadd rfl ?_
  refine r_sld rfl V.2.1 ?_
  refine r_callVX rfl hQ rfl rfl rfl (by decide) rfl (am_cnt rfl) (fun U hU => ?_)
  refine r_icmp_eq rfl (fun _ => ?_) (fun h => absurd rfl h)
  exact K U o5 o6 o7 _ _ (hR U hU) h5 h6 h7 (by omega) (by omega)
theorem lw_c45 {N : Nat} {xs : Nat → Int32} {Q : Option Value → am_G → Prop} {X : am_P} {i : Int32} {o5 o6 o7 : Option Value} {nc ns : Nat} {S : am_S} (R : RM S) (V : LwV N i) (K : LwK (some (N, xs)) Q X i nc ns) (h5 : ivO o5) (h6 : ivO o6) (h7 : ivO o7) (hc : nc + 1 ≤ 601024) (hs : ns + 6 ≤ 7293034) (HH : ∀ (S : am_S) (p : Int32), RM S → LwH (some (N, xs)) Q X 2019 [.ref 130, .int p, .ref 0] S (HpO Value.long id iX11_row [.ref 97, .int p] S)) : am_Ex (am_Call am_MT 750) mmL_law (some (N, xs)) Q X 2011 (LL i o5 o6 o7) [] (am_H S) nc ns := by
  refine r_aload_n rfl rfl ?_
  refine r_aload_n rfl rfl ?_
  refine r_iload rfl rfl ?_
  refine r_iconst rfl ?_
  refine r_iadd rfl ?_
  refine r_sld rfl V.2.1 ?_
  refine r_aload_n rfl rfl ?_
  refine r_statX rfl (HH S (xs (i + 1).toNatClampNeg) R _ _ _ (LL_wf h5 h6 h7) hc hs (fun r G1 hO => ?_))
  rcases hO with ⟨rfl, x, T, rfl, Q1, hQ, hU9⟩ | ⟨rfl, rfl, x, Q1, hQ, hU9⟩
  · refine r_istore (L2 := LL i (some (.int 0)) o6 o7) rfl rfl ?_
    refine r_aload_n rfl rfl ?_
    refine r_aload_n rfl rfl ?_
    refine r_iload rfl rfl ?_
    refine r_iconst rfl ?_
    refine r_iadd rfl ?_
    refine r_sld rfl V.2.1 ?_
    refine r_callVX rfl hQ rfl rfl rfl (by decide) rfl (am_cnt rfl) (fun U hU => ?_)
    obtain ⟨hR, h0, hJ⟩ := hU9 U hU
    refine r_lstore (L2 := LL i (some (.int 0)) (some (.long x)) none) rfl rfl ?_
    refine r_aload_n rfl rfl ?_
    refine r_callV rfl (ct_X11_thrown (d := 749)) rfl rfl rfl (by decide) rfl (am_cnt rfl) ?_
    refine r_iload rfl rfl ?_
    refine r_icmp_eq rfl (fun _ => ?_) (fun h => absurd h0 h)
    refine r_iload rfl rfl ?_
    refine r_if_ne rfl (fun h => absurd rfl h) (fun _ => ?_)
    refine r_aload_n rfl rfl ?_
    refine r_iconst rfl ?_
    refine r_lald rfl rfl (by decide) (by decide) (by decide) ?_
    refine r_lload rfl rfl ?_
    refine r_lcmp rfl ?_
    have e0 : gJ U 130 (0 : Int32).toNatClampNeg = x := hJ
    refine r_if_eq rfl (fun _ => ?_) (fun h => absurd (by rw [e0]; exact lg_same) h)
    refine r_goto rfl ?_
    exact K U _ _ _ _ _ hR iv_i iv_l iv_n (by omega) (by omega)
  · refine r_istore (L2 := LL i (some (.int 1)) o6 o7) rfl rfl ?_
    refine r_aload_n rfl rfl ?_
    refine r_aload_n rfl rfl ?_
    refine r_iload rfl rfl ?_
    refine r_iconst rfl ?_
    refine r_iadd rfl ?_
    refine r_sld rfl V.2.1 ?_
    refine r_callVX rfl hQ rfl rfl rfl (by decide) rfl (am_cnt rfl) (fun U hU => ?_)
    obtain ⟨hR, h0⟩ := hU9 U hU
    refine r_lstore (L2 := LL i (some (.int 1)) (some (.long x)) none) rfl rfl ?_
    refine r_aload_n rfl rfl ?_
    refine r_callV rfl (ct_X11_thrown (d := 749)) rfl rfl rfl (by decide) rfl (am_cnt rfl) ?_
    refine r_iload rfl rfl ?_
    refine r_icmp_eq rfl (fun _ => ?_) (fun h => absurd h0 h)
    refine r_iload rfl rfl ?_
    refine r_if_ne rfl (fun _ => ?_) (fun h => absurd h (by decide))
    refine r_goto rfl ?_
    exact K U _ _ _ _ _ hR iv_i iv_l iv_n (by omega) (by omega)
