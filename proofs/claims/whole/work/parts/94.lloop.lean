/-! The law's loop. -/
theorem sub6_lt {N a : Nat} (h : N < a + 6) (hN : N < 100000 ∧ a < 100000 := by omega) : Int32.ofNat N - 6 < nI a := by
  rw [Int32.lt_iff_toInt_lt, Int32.toInt_sub]
  have e1 : (Int32.ofNat N).toInt = (N : Int) := nI_toInt (n := N) (by omega)
  have e2 : (nI a).toInt = (a : Int) := nI_toInt (by omega)
  have e3 : (6 : Int32).toInt = 6 := by decide
  rw [e1, e2, e3, Int.bmod_eq_of_le (by omega) (by omega)]
  omega
theorem lw_V {N a : Nat} (hN : N < 100000) (h : a + 6 ≤ N) : LwV N (nI a) := by
  have v : ∀ k, k < 6 → vp_in (nI (a + k)) N := fun k hk => vp_in_nI (by omega) (by omega)
  have e : ∀ k : Nat, nI a + nI k = nI (a + k) := fun k => nI_add a k
  refine ⟨v 0 (by omega), ?_, ?_, ?_, ?_, ?_⟩
  · rw [show nI a + 1 = nI (a + 1) from e 1]; exact v 1 (by omega)
  · rw [show nI a + 2 = nI (a + 2) from e 2]; exact v 2 (by omega)
  · rw [show nI a + 3 = nI (a + 3) from e 3]; exact v 3 (by omega)
  · rw [show nI a + 4 = nI (a + 4) from e 4]; exact v 4 (by omega)
  · rw [show nI a + 5 = nI (a + 5) from e 5]; exact v 5 (by omega)
theorem lw_n {ns n k m : Nat} (h : ns + k * (n + 1) ≤ m) : ns + k ≤ m := Nat.le_trans (Nat.add_le_add_left (Nat.le_mul_of_pos_right k (Nat.succ_pos n)) ns) h
theorem lw_out {v : Nat} (h : v < 18) : (45 : Int) < (nI (v + 46)).toInt := by
  rw [nI_toInt (by omega)]
  omega
theorem lw_tail {N : Nat} {xs : Nat → Int32} {Q : Option Value → am_G → Prop} {X : am_P} {i : Int32} {o5 o6 o7 : Option Value} {nc ns : Nat} {G : am_G} (k : am_Ex (am_Call am_MT 750) mmL_law (some (N, xs)) Q X 23 (LL (i + 6) o5 o6 o7) [] G nc ns) : am_Ex (am_Call am_MT 750) mmL_law (some (N, xs)) Q X 2066 (LL i o5 o6 o7) [] G nc ns := by
  refine r_iinc (L2 := LL (i + 6) o5 o6 o7) rfl rfl rfl ?_
  refine r_goto rfl ?_
  exact k
theorem lw_loop {N : Nat} {xs : Nat → Int32} {Q : Option Value → am_G → Prop} {X : am_P} (hN : N ≤ 3072) (hQ : ∀ G, Q (some (.int 1)) G) (HK : LwC (some (N, xs)) Q X) (H8 : ∀ (S : am_S) (p w : Int32), RM S → LwH (some (N, xs)) Q X 602 [.ref 130, .int w, .int p, .ref 0] S (HpO Value.int Int32.toInt64 iX11_does [.ref 97, .int p, .int w] S)) (H9 : ∀ (S : am_S) (p : Int32), RM S → LwH (some (N, xs)) Q X 664 [.ref 130, .int p, .ref 0] S (HpO Value.int Int32.toInt64 iX11_go [.ref 97, .int p] S)) (H11 : ∀ (S : am_S) (p : Int32), RM S → LwH (some (N, xs)) Q X 733 [.ref 130, .int p, .ref 0] S (HpO Value.int Int32.toInt64 iX11_place [.ref 97, .int p] S)) (H12 : ∀ (S : am_S) (p w u : Int32), RM S → LwH (some (N, xs)) Q X 801 [.ref 130, .int u, .int w, .int p, .ref 0] S (HpO Value.int Int32.toInt64 iX11_was [.ref 97, .int p, .int w, .int u] S)) (H45 : ∀ (S : am_S) (p : Int32), RM S → LwH (some (N, xs)) Q X 2019 [.ref 130, .int p, .ref 0] S (HpO Value.long id iX11_row [.ref 97, .int p] S)) : ∀ (n j : Nat), N ≤ 6 * (j + n) + 5 → 6 * j ≤ N → ∀ (S : am_S) (o5 o6 o7 : Option Value) (nc ns : Nat), RM S → ivO o5 → ivO o6 → ivO o7 → nc + 6 * n ≤ 601024 → ns + 5009 * n ≤ 7293034 → am_Ex (am_Call am_MT 750) mmL_law (some (N, xs)) Q X 23 (LL (nI (6 * j)) o5 o6 o7) [] (am_H S) nc ns := by
  intro n
  induction n with
  | zero =>
    intro j h1 h2 S o5 o6 o7 nc ns R h5 h6 h7 hc hs
    refine r_iload rfl rfl ?_
    refine r_aload_n rfl rfl ?_
    refine r_slenX rfl ?_
    refine r_bipush rfl ?_
    refine r_isub rfl ?_
    refine r_icmp_gt rfl (fun h => ?_) (fun h => ?_)
    · refine r_iconst rfl ?_
      refine r_zret rfl rfl (Or.inr rfl) ?_
      exact hQ _
    · exact absurd (sub6_lt (a := 6 * j) (by omega) (by omega)) h
  | succ n ih =>
    intro j h1 h2 S o5 o6 o7 nc ns R h5 h6 h7 hc hs
    refine r_iload rfl rfl ?_
    refine r_aload_n rfl rfl ?_
    refine r_slenX rfl ?_
    refine r_bipush rfl ?_
    refine r_isub rfl ?_
    refine r_icmp_gt rfl (fun h => ?_) (fun h => ?_)
    · refine r_iconst rfl ?_
      refine r_zret rfl rfl (Or.inr rfl) ?_
      exact hQ _
    · have hj : 6 * j + 6 ≤ N := by
        apply Decidable.byContradiction
        intro z
        exact h (sub6_lt (a := 6 * j) (by omega) (by omega))
      have V : LwV N (nI (6 * j)) := lw_V (by omega) hj
      have K : LwK (some (N, xs)) Q X (nI (6 * j)) nc ns := fun S2 p5 p6 p7 nc2 ns2 R2 q5 q6 q7 hc2 hs2 => by
        refine lw_tail ?_
        rw [show nI (6 * j) + 6 = nI (6 * (j + 1)) from (nI_add (6 * j) 6)]
        exact ih (j + 1) (by omega) (by omega) S2 p5 p6 p7 nc2 ns2 R2 q5 q6 q7 (by omega) (by omega)
      refine r_aload_n rfl rfl ?_
      refine r_iload rfl rfl ?_
      refine r_sld rfl V.1 ?_
      refine r_bipush rfl ?_
      refine r_iand rfl ?_
      obtain ⟨v, hv, e⟩ := pk_andE (xs (nI (6 * j)).toNatClampNeg) (m := 63) 6 (by decide)
      rw [e]
      have hv : v < 64 := hv
      match v, hv with
      | 0, _ => exact r_tableIn rfl (by decide) (by decide) rfl rfl (lw_c0 R V K h5 h6 h7)
      | 1, _ => exact r_tableIn rfl (by decide) (by decide) rfl rfl (lw_c1 R V K h5 h6 h7)
      | 2, _ => exact r_tableIn rfl (by decide) (by decide) rfl rfl (lw_c2 R V K h5 h6 h7)
      | 3, _ => exact r_tableIn rfl (by decide) (by decide) rfl rfl (lw_c3 R V K h5 h6 h7)
      | 4, _ => exact r_tableIn rfl (by decide) (by decide) rfl rfl (lw_c4 R V K h5 h6 h7)
      | 5, _ => exact r_tableIn rfl (by decide) (by decide) rfl rfl (lw_c5 R V K h5 h6 h7)
      | 6, _ => exact r_tableIn rfl (by decide) (by decide) rfl rfl (lw_c6 R V K h5 h6 h7)
      | 7, _ => exact r_tableIn rfl (by decide) (by decide) rfl rfl (lw_c7 R V K h5 h6 h7)
      | 8, _ => exact r_tableIn rfl (by decide) (by decide) rfl rfl (lw_c8 R V K h5 h6 h7 (by omega) (by omega) H8)
      | 9, _ => exact r_tableIn rfl (by decide) (by decide) rfl rfl (lw_c9 R V K h5 h6 h7 (by omega) (by omega) H9)
      | 10, _ => exact r_tableIn rfl (by decide) (by decide) rfl rfl (lw_c10 R V K h5 h6 h7)
      | 11, _ => exact r_tableIn rfl (by decide) (by decide) rfl rfl (lw_c11 R V K h5 h6 h7 (by omega) (by omega) H11)
      | 12, _ => exact r_tableIn rfl (by decide) (by decide) rfl rfl (lw_c12 R V K h5 h6 h7 (by omega) (by omega) H12)
      | 13, _ => exact r_tableIn rfl (by decide) (by decide) rfl rfl (lw_c13 R V K h5 h6 h7)
      | 14, _ => exact r_tableIn rfl (by decide) (by decide) rfl rfl (lw_c14 R V K h5 h6 h7)
      | 15, _ => exact r_tableIn rfl (by decide) (by decide) rfl rfl (lw_c15 R V K h5 h6 h7)
      | 16, _ => exact r_tableIn rfl (by decide) (by decide) rfl rfl (lw_c16 R V K h5 h6 h7)
      | 17, _ => exact r_tableIn rfl (by decide) (by decide) rfl rfl (lw_c17 R V K h5 h6 h7)
      | 18, _ => exact r_tableIn rfl (by decide) (by decide) rfl rfl (lw_c18 R V K h5 h6 h7)
      | 19, _ => exact r_tableIn rfl (by decide) (by decide) rfl rfl (lw_c19 R V K h5 h6 h7)
      | 20, _ => exact r_tableIn rfl (by decide) (by decide) rfl rfl (lw_c20 R V K h5 h6 h7)
      | 21, _ => exact r_tableIn rfl (by decide) (by decide) rfl rfl (lw_c21 R V K h5 h6 h7)
      | 22, _ => exact r_tableIn rfl (by decide) (by decide) rfl rfl (lw_c22 R V K h5 h6 h7)
      | 23, _ => exact r_tableIn rfl (by decide) (by decide) rfl rfl (lw_c23 R V K h5 h6 h7)
      | 24, _ => exact r_tableIn rfl (by decide) (by decide) rfl rfl (lw_c24 R V K h5 h6 h7)
      | 25, _ => exact r_tableIn rfl (by decide) (by decide) rfl rfl (lw_c25 R V K h5 h6 h7)
      | 26, _ => exact r_tableIn rfl (by decide) (by decide) rfl rfl (lw_c26 R V K h5 h6 h7)
      | 27, _ => exact r_tableIn rfl (by decide) (by decide) rfl rfl (lw_c27 R V K h5 h6 h7)
      | 28, _ => exact r_tableIn rfl (by decide) (by decide) rfl rfl (lw_c28 R V K h5 h6 h7)
      | 29, _ => exact r_tableIn rfl (by decide) (by decide) rfl rfl (lw_c29 R V K h5 h6 h7)
      | 30, _ => exact r_tableIn rfl (by decide) (by decide) rfl rfl (lw_c30 R V K h5 h6 h7)
      | 31, _ => exact r_tableIn rfl (by decide) (by decide) rfl rfl (lw_c31 R V K h5 h6 h7)
      | 32, _ => exact r_tableIn rfl (by decide) (by decide) rfl rfl (lw_c32 R V K h5 h6 h7)
      | 33, _ => exact r_tableIn rfl (by decide) (by decide) rfl rfl (lw_c33 R V K h5 h6 h7)
      | 34, _ => exact r_tableIn rfl (by decide) (by decide) rfl rfl (lw_c34 R V K h5 h6 h7)
      | 35, _ => exact r_tableIn rfl (by decide) (by decide) rfl rfl (lw_c35 R V K h5 h6 h7)
      | 36, _ => exact r_tableIn rfl (by decide) (by decide) rfl rfl (lw_c36 R V K h5 h6 h7)
      | 37, _ => exact r_tableIn rfl (by decide) (by decide) rfl rfl (lw_c37 R V K h5 h6 h7)
      | 38, _ => exact r_tableIn rfl (by decide) (by decide) rfl rfl (lw_c38 R V K h5 h6 h7)
      | 39, _ => exact r_tableIn rfl (by decide) (by decide) rfl rfl (lw_c39 R V K h5 h6 h7)
      | 40, _ => exact r_tableIn rfl (by decide) (by decide) rfl rfl (lw_c40 R V K h5 h6 h7)
      | 41, _ => exact r_tableIn rfl (by decide) (by decide) rfl rfl (lw_c41 R V K h5 h6 h7)
      | 42, _ => exact r_tableIn rfl (by decide) (by decide) rfl rfl (lw_c42 R V K h5 h6 h7 (by omega) (lw_n hs) HK)
      | 43, _ => exact r_tableIn rfl (by decide) (by decide) rfl rfl (lw_c43 R V K h5 h6 h7)
      | 44, _ => exact r_tableIn rfl (by decide) (by decide) rfl rfl (lw_c44 R V K h5 h6 h7)
      | 45, _ => exact r_tableIn rfl (by decide) (by decide) rfl rfl (lw_c45 R V K h5 h6 h7 (by omega) (by omega) H45)
      | v + 46, hv => exact r_tableOut rfl (Or.inr (lw_out (by omega))) rfl (K S o5 o6 o7 nc ns R h5 h6 h7 (by omega) (by omega))
