/-! Pulls of a part: cell 84, its numbers 85. -/
def pulG (late : Nat) (k x : Int32) (g : Nat → Int32) : Nat → Nat → Int32
  | 0 => upd g 0 x
  | m + 1 => upd (pulG late k x g m) (m + 1) (fPut (pulG late k x g m m - k * (if m < late then x else pulG late k x g m (m - late)) / 10) 99999)
theorem ct_X6_swing {d : Nat} {S : am_S} {lt n : Nat} {kk x : Int32} (hl : lt ≤ 20) (hn : n ≤ 199) : am_CT (d + 2) iX6_swing [.ref 84, .int (nI lt), .int kk, .int x, .int (nI n)] S (none) (rI (uI S 84 1 (nI n)) 85 (pulG lt kk x (gI S 85) n)) := by
  refine am_CT_in mmX6_swing rfl rfl rfl ?_
  have loop : ∀ (k : Nat) (j : Nat) (v6 : Option Value) (v7 : Option Value), (j ≤ n) → (n < j + k) → am_Ex (am_Call am_MT (d + 1)) mmX6_swing none (fun r1 G1 => r1 = (none) ∧ G1 = am_H (rI (uI S 84 1 (nI n)) 85 (pulG lt kk x (gI S 85) n))) (fun _ _ _ _ _ _ => False) 39 [some (.ref 84), some (.int (nI lt)), some (.int kk), some (.int x), some (.int (nI n)), some (.int (nI j)), v6, v7] [] (am_H (rI (uI S 84 1 (nI n)) 85 (pulG lt kk x (gI S 85) j))) 0 0 := by
    intro k
    induction k with
    | zero =>
      intro j v6 v7 h1 h2
      omega
    | succ k ih =>
      intro j v6 v7 h1 h2
      have a1 : gI (rI (uI S 84 1 (nI n)) 85 (pulG lt kk x (gI S 85) j)) 84 1 = nI n := by rw [gI_rI_ne (by decide), gI_uI, if_pos rfl, if_pos rfl]
      have a2 : gI (rI (uI S 84 1 (nI n)) 85 (pulG lt kk x (gI S 85) j)) 85 = pulG lt kk x (gI S 85) j := gI_rI_eq
      have b1 : (nI j).toNatClampNeg = j := nI_clamp (by omega)
      have b2 : (nI j + 1).toNatClampNeg = j + 1 := by rw [nI_1, nI_clamp (by omega)]
      have s1 : 0 ≤ nI j := nI_pos' (by omega)
      have s2 : nI j < Int32.ofNat 200 := nI_lt (by omega) (by omega)
      have s3 : 0 ≤ nI j + 1 := by rw [nI_1]; exact nI_pos' (by omega)
      by_cases hjl : j < lt
      · have q1 : nI j - nI lt < 0 := pk_sneg (by omega) hjl
        refine r_iload rfl rfl ?_
        refine r_aload_n rfl rfl ?_
        refine r_getI rfl rfl (by decide) (by decide) rfl ?_
        refine r_icmp_ge rfl (fun h45 => ?_) (fun h45 => ?_)
        · rw [a1, nI_leI (by omega) (by omega)] at h45
          obtain rfl : j = n := by omega
          refine r_vret rfl ?_
          exact ⟨rfl, rfl⟩
        · rw [a1, nI_leI (by omega) (by omega)] at h45
          have s4 : nI j + 1 < Int32.ofNat 200 := by rw [nI_1]; exact nI_lt (by omega) (by omega)
          refine r_iload rfl rfl ?_
          refine r_iload_n rfl rfl ?_
          refine r_isub rfl ?_
          refine r_istore (L2 := [_, _, _, _, _, _, _, _]) rfl rfl ?_
          refine r_iload rfl rfl ?_
          refine r_if_lt rfl (fun h56 => ?_) (fun h56 => ?_)
          · refine r_iload_n rfl rfl ?_
            refine r_goto rfl ?_
            refine r_istore (L2 := [_, _, _, _, _, _, _, _]) rfl rfl ?_
            refine r_aload_n rfl rfl ?_
            refine r_getC rfl rfl (by decide) (by decide) rfl ?_
            refine r_iload rfl rfl ?_
            refine r_iconst rfl ?_
            refine r_iadd rfl ?_
            refine r_aload_n rfl rfl ?_
            refine r_getC rfl rfl (by decide) (by decide) rfl ?_
            refine r_iload rfl rfl ?_
            refine r_iald rfl rfl (by first | decide | assumption) (by first | exact s1 | exact s2 | exact s3 | exact s4) (by first | exact s1 | exact s2 | exact s3 | exact s4) ?_
            refine r_iload_n rfl rfl ?_
            refine r_iload rfl rfl ?_
            refine r_imul rfl ?_
            refine r_bipush rfl ?_
            refine r_idiv rfl (by decide) ?_
            refine r_isub rfl ?_
            refine r_ldc rfl ?_
            refine r_callS rfl (by decide) ct_X10_putTo rfl rfl (am_cnt rfl) ?_
            refine r_iast rfl rfl (by first | decide | assumption) (by first | exact s1 | exact s2 | exact s3 | exact s4) (by first | exact s1 | exact s2 | exact s3 | exact s4) ?_
            refine r_iinc (L2 := [_, _, _, _, _, _, _, _]) rfl rfl rfl ?_
            refine r_goto rfl ?_
            rw [b1, b2, a2, uI_rIs, nI_1]
            have e := ih (j + 1) (some (.int (nI j - nI lt))) (some (.int x)) (by omega) (by omega)
            rw [pulG, if_pos hjl] at e
            exact e
          · exact absurd q1 h56
      · have q1 : nI j - nI lt = nI (j - lt) := pk_sub (by omega)
        have s5 : 0 ≤ nI j - nI lt := by rw [q1]; exact nI_pos' (by omega)
        have s6 : nI j - nI lt < Int32.ofNat 200 := by rw [q1]; exact nI_lt (by omega) (by omega)
        have s7 : nI j - nI lt ≤ nI j := by rw [q1]; exact nI_le (by omega) (by omega)
        have b3 : (nI j - nI lt).toNatClampNeg = j - lt := by rw [q1, nI_clamp (by omega)]
        refine r_iload rfl rfl ?_
        refine r_aload_n rfl rfl ?_
        refine r_getI rfl rfl (by decide) (by decide) rfl ?_
        refine r_icmp_ge rfl (fun h45 => ?_) (fun h45 => ?_)
        · rw [a1, nI_leI (by omega) (by omega)] at h45
          obtain rfl : j = n := by omega
          refine r_vret rfl ?_
          exact ⟨rfl, rfl⟩
        · rw [a1, nI_leI (by omega) (by omega)] at h45
          have s4 : nI j + 1 < Int32.ofNat 200 := by rw [nI_1]; exact nI_lt (by omega) (by omega)
          refine r_iload rfl rfl ?_
          refine r_iload_n rfl rfl ?_
          refine r_isub rfl ?_
          refine r_istore (L2 := [_, _, _, _, _, _, _, _]) rfl rfl ?_
          refine r_iload rfl rfl ?_
          refine r_if_lt rfl (fun h56 => ?_) (fun h56 => ?_)
          · exact absurd s5 (Int32.not_le.mpr h56)
          · refine r_iload rfl rfl ?_
            refine r_iload rfl rfl ?_
            refine r_icmp_le rfl (fun h63 => ?_) (fun h63 => ?_)
            · refine r_aload_n rfl rfl ?_
              refine r_getC rfl rfl (by decide) (by decide) rfl ?_
              refine r_iload rfl rfl ?_
              refine r_iald rfl rfl (by first | decide | assumption) (by first | exact s1 | exact s2 | exact s3 | exact s4 | exact s5 | exact s6) (by first | exact s1 | exact s2 | exact s3 | exact s4 | exact s5 | exact s6) ?_
              refine r_istore (L2 := [_, _, _, _, _, _, _, _]) rfl rfl ?_
              refine r_aload_n rfl rfl ?_
              refine r_getC rfl rfl (by decide) (by decide) rfl ?_
              refine r_iload rfl rfl ?_
              refine r_iconst rfl ?_
              refine r_iadd rfl ?_
              refine r_aload_n rfl rfl ?_
              refine r_getC rfl rfl (by decide) (by decide) rfl ?_
              refine r_iload rfl rfl ?_
              refine r_iald rfl rfl (by first | decide | assumption) (by first | exact s1 | exact s2 | exact s3 | exact s4 | exact s5 | exact s6) (by first | exact s1 | exact s2 | exact s3 | exact s4 | exact s5 | exact s6) ?_
              refine r_iload_n rfl rfl ?_
              refine r_iload rfl rfl ?_
              refine r_imul rfl ?_
              refine r_bipush rfl ?_
              refine r_idiv rfl (by decide) ?_
              refine r_isub rfl ?_
              refine r_ldc rfl ?_
              refine r_callS rfl (by decide) ct_X10_putTo rfl rfl (am_cnt rfl) ?_
              refine r_iast rfl rfl (by first | decide | assumption) (by first | exact s1 | exact s2 | exact s3 | exact s4 | exact s5 | exact s6) (by first | exact s1 | exact s2 | exact s3 | exact s4 | exact s5 | exact s6) ?_
              refine r_iinc (L2 := [_, _, _, _, _, _, _, _]) rfl rfl rfl ?_
              refine r_goto rfl ?_
              rw [b1, b2, b3, a2, uI_rIs, nI_1]
              have e := ih (j + 1) (some (.int (nI j - nI lt))) (some (.int (pulG lt kk x (gI S 85) j (j - lt)))) (by omega) (by omega)
              rw [pulG, if_neg hjl] at e
              exact e
            · exact absurd s7 h63
  have f1 : ¬ nI n < 0 := nI_pos (by omega)
  have f2 : nI n ≤ 199 := nI_le (b := 199) hn (by omega)
  refine r_aload_n rfl rfl ?_
  refine r_iload rfl rfl ?_
  refine r_if_ge rfl (fun h3 => ?_) (fun h3 => ?_)
  · refine r_iload rfl rfl ?_
    refine r_sipush rfl ?_
    refine r_icmp_le rfl (fun h15 => ?_) (fun h15 => ?_)
    · refine r_iload rfl rfl ?_
      refine r_putI rfl rfl (by decide) (by decide) rfl ?_
      refine r_aload_n rfl rfl ?_
      refine r_getC rfl rfl (by decide) (by decide) rfl ?_
      refine r_iconst rfl ?_
      refine r_iload_n rfl rfl ?_
      refine r_iast rfl rfl (by first | decide | assumption) (by decide) (by decide) ?_
      refine r_iconst rfl ?_
      refine r_istore (L2 := [_, _, _, _, _, _, _, _]) rfl rfl ?_
      have e := loop (n + 1) 0 none none (by omega) (by omega)
      rw [pulG] at e
      rw [uI_rI (uI S 84 1 (nI n)) 85, gI_uI_ne (by decide)]
      exact e
    · exact absurd f2 h15
  · exact absurd (Int32.not_le.mp h3) f1
theorem ct_X6_widest {d : Nat} {S : am_S} {f t ls : Nat} (hls : gI S 84 1 = nI ls) (hlb : ls ≤ 199) (hf : f ≤ 200) (ht : t ≤ ls) : am_CT (d + 1) iX6_widest [.ref 84, .int (nI f), .int (nI t)] S (some (.int (topI (fun j => absI (gI S 85 j)) f (t + 1 - f)))) (S) := by
  refine am_CT_in mmX6_widest rfl rfl rfl ?_
  have loop : ∀ (k : Nat) (j : Nat), (f + j ≤ t + 1 ∨ j = 0) → (t + 1 < j + k) → am_Ex (am_Call am_MT (d + 0)) mmX6_widest none (fun r1 G1 => r1 = (some (.int (topI (fun j => absI (gI S 85 j)) f (t + 1 - f)))) ∧ G1 = am_H (S)) (fun _ _ _ _ _ _ => False) 9 [some (.ref 84), some (.int (nI f)), some (.int (nI t)), some (.int (topI (fun j => absI (gI S 85 j)) f j)), some (.int (nI (f + j)))] [] (am_H (S)) 0 0 := by
    intro k
    induction k with
    | zero =>
      intro j h1 h2
      omega
    | succ k ih =>
      intro j h1 h2
      have s1 : 0 ≤ nI (f + j) := nI_pos' (by omega)
      have b1 : (nI (f + j)).toNatClampNeg = f + j := nI_clamp (by omega)
      refine r_iload rfl rfl ?_
      refine r_iload_n rfl rfl ?_
      refine r_icmp_gt rfl (fun h12 => ?_) (fun h12 => ?_)
      · rw [nI_ltI (by omega) (by omega)] at h12
        obtain rfl : j = t + 1 - f := by omega
        refine r_iload_n rfl rfl ?_
        refine r_iret rfl rfl ?_
        exact ⟨rfl, rfl⟩
      · rw [nI_ltI (by omega) (by omega)] at h12
        have s2 : nI (f + j) < Int32.ofNat 200 := nI_lt (by omega) (by omega)
        refine r_iload rfl rfl ?_
        refine r_aload_n rfl rfl ?_
        refine r_getI rfl rfl (by decide) (by decide) rfl ?_
        refine r_icmp_gt rfl (fun h21 => ?_) (fun h21 => ?_)
        · rw [hls, nI_ltI (by omega) (by omega)] at h21
          omega
        · refine r_iload_n rfl rfl ?_
          refine r_aload_n rfl rfl ?_
          refine r_getC rfl rfl (by decide) (by decide) rfl ?_
          refine r_iload rfl rfl ?_
          refine r_iald rfl rfl (by first | decide | assumption) (by first | exact s1 | exact s2) (by first | exact s1 | exact s2) ?_
          refine r_abs rfl (am_cnt rfl) ?_
          refine r_max rfl (am_cnt rfl) ?_
          refine r_istore_n (L2 := [_, _, _, _, _]) rfl rfl ?_
          refine r_iinc (L2 := [_, _, _, _, _]) rfl rfl rfl ?_
          refine r_goto rfl ?_
          rw [b1, nI_1]
          exact ih (j + 1) (by omega) (by omega)
  have e0 : (if nI f < 0 then (0 : Int32) else nI f) = nI f := if_neg (nI_pos (by omega))
  refine r_iconst rfl ?_
  refine r_istore_n (L2 := [_, _, _, _, _]) rfl rfl ?_
  refine r_iload_n rfl rfl ?_
  refine r_iconst rfl ?_
  refine r_max rfl (am_cnt rfl) ?_
  refine r_istore (L2 := [_, _, _, _, _]) rfl rfl ?_
  rw [e0]
  exact loop (t + 2) 0 (Or.inr rfl) (by omega)
theorem ct_X6_turns {d : Nat} {S : am_S} {ls : Nat} (hls : gI S 84 1 = nI ls) (hlb : ls ≤ 199) : am_CT (d + 2) iX6_turns [.ref 84] S (some (.int (turnI (fun m => gI S 85 m) (ls + 1)).1)) (S) := by
  refine am_CT_in mmX6_turns rfl rfl rfl ?_
  have loop : ∀ (k : Nat) (j : Nat) (n : Int32) (sd : Int32) (v5 : Option Value), (j ≤ ls + 1) → (ls + 1 < j + k) → ((n, sd) = turnI (fun m => gI S 85 m) j) → am_Ex (am_Call am_MT (d + 1)) mmX6_turns none (fun r1 G1 => r1 = (some (.int (turnI (fun m => gI S 85 m) (ls + 1)).1)) ∧ G1 = am_H (S)) (fun _ _ _ _ _ _ => False) 6 [some (.ref 84), some (.int n), some (.int sd), some (.int (nI j)), v5] [] (am_H (S)) 0 0 := by
    intro k
    induction k with
    | zero =>
      intro j n sd v5 h1 h2 h3
      omega
    | succ k ih =>
      intro j n sd v5 h1 h2 h3
      have s1 : 0 ≤ nI j := nI_pos' (by omega)
      have b1 : (nI j).toNatClampNeg = j := nI_clamp (by omega)
      refine r_iload_n rfl rfl ?_
      refine r_aload_n rfl rfl ?_
      refine r_getI rfl rfl (by decide) (by decide) rfl ?_
      refine r_icmp_gt rfl (fun h11 => ?_) (fun h11 => ?_)
      · rw [hls, nI_ltI (by omega) (by omega)] at h11
        obtain rfl : j = ls + 1 := by omega
        rw [show n = _ from congrArg Prod.fst h3]
        refine r_iload_n rfl rfl ?_
        refine r_iret rfl rfl ?_
        exact ⟨rfl, rfl⟩
      · rw [hls, nI_ltI (by omega) (by omega)] at h11
        have s2 : nI j < Int32.ofNat 200 := nI_lt (by omega) (by omega)
        refine r_aload_n rfl rfl ?_
        refine r_getC rfl rfl (by decide) (by decide) rfl ?_
        refine r_iload_n rfl rfl ?_
        refine r_iald rfl rfl (by first | decide | assumption) (by first | exact s1 | exact s2) (by first | exact s1 | exact s2) ?_
        refine r_callS rfl (by decide) ct_J6_signum_0f7a4 rfl rfl (am_cnt rfl) ?_
        refine r_istore (L2 := [_, _, _, _, _]) rfl rfl ?_
        refine r_iload_n rfl rfl ?_
        refine r_iload rfl rfl ?_
        refine r_iload_n rfl rfl ?_
        refine r_imul rfl ?_
        refine r_if_ge rfl (fun h30 => ?_) (fun h30 => ?_)
        · refine r_iconst rfl ?_
          refine r_iadd rfl ?_
          refine r_istore_n (L2 := [_, _, _, _, _]) rfl rfl ?_
          refine r_iload rfl rfl ?_
          refine r_if_ne rfl (fun h42 => ?_) (fun h42 => ?_)
          · refine r_iload rfl rfl ?_
            refine r_istore_n (L2 := [_, _, _, _, _]) rfl rfl ?_
            refine r_iinc (L2 := [_, _, _, _, _]) rfl rfl rfl ?_
            refine r_goto rfl ?_
            rw [b1] at h30 h42
            rw [b1, nI_1]
            exact ih (j + 1) _ _ _ (by omega) (by omega) (by rw [turnI, ← h3]; simp only; grind)
          · refine r_iload_n rfl rfl ?_
            refine r_goto rfl ?_
            refine r_istore_n (L2 := [_, _, _, _, _]) rfl rfl ?_
            refine r_iinc (L2 := [_, _, _, _, _]) rfl rfl rfl ?_
            refine r_goto rfl ?_
            rw [b1] at h30 h42
            rw [b1, nI_1]
            exact ih (j + 1) _ _ _ (by omega) (by omega) (by rw [turnI, ← h3]; simp only; grind)
        · refine r_iconst rfl ?_
          refine r_goto rfl ?_
          refine r_iadd rfl ?_
          refine r_istore_n (L2 := [_, _, _, _, _]) rfl rfl ?_
          refine r_iload rfl rfl ?_
          refine r_if_ne rfl (fun h42 => ?_) (fun h42 => ?_)
          · refine r_iload rfl rfl ?_
            refine r_istore_n (L2 := [_, _, _, _, _]) rfl rfl ?_
            refine r_iinc (L2 := [_, _, _, _, _]) rfl rfl rfl ?_
            refine r_goto rfl ?_
            rw [b1] at h30 h42
            rw [b1, nI_1]
            exact ih (j + 1) _ _ _ (by omega) (by omega) (by rw [turnI, ← h3]; simp only; grind)
          · refine r_iload_n rfl rfl ?_
            refine r_goto rfl ?_
            refine r_istore_n (L2 := [_, _, _, _, _]) rfl rfl ?_
            refine r_iinc (L2 := [_, _, _, _, _]) rfl rfl rfl ?_
            refine r_goto rfl ?_
            rw [b1] at h30 h42
            rw [b1, nI_1]
            exact ih (j + 1) _ _ _ (by omega) (by omega) (by rw [turnI, ← h3]; simp only; grind)
  refine r_iconst rfl ?_
  refine r_istore_n (L2 := [_, _, _, _, _]) rfl rfl ?_
  refine r_iconst rfl ?_
  refine r_istore_n (L2 := [_, _, _, _, _]) rfl rfl ?_
  refine r_iconst rfl ?_
  refine r_istore_n (L2 := [_, _, _, _, _]) rfl rfl ?_
  exact loop (ls + 2) 0 _ _ none (by omega) (by omega) rfl
theorem ct_X6_calmFrom {d : Nat} {S : am_S} {ls : Nat} (hls : gI S 84 1 = nI ls) (hlb : ls ≤ 199) : am_CT (d + 1) iX6_calmFrom [.ref 84] S (some (.int (setI (fun m => ¬ 1 < absI (gI S 85 m)) ls))) (S) := by
  refine am_CT_in mmX6_calmFrom rfl rfl rfl ?_
  have loop : ∀ (k : Nat) (j : Nat), (j ≤ ls + 1) → (ls + 1 < j + k) → (∀ i, ls + 1 - j ≤ i → i < ls + 1 → ¬ 1 < absI (gI S 85 i)) → am_Ex (am_Call am_MT (d + 0)) mmX6_calmFrom none (fun r1 G1 => r1 = (some (.int (setI (fun m => ¬ 1 < absI (gI S 85 m)) ls))) ∧ G1 = am_H (S)) (fun _ _ _ _ _ _ => False) 7 [some (.ref 84), some (.int (if j = 0 then -1 else nI (ls + 1 - j))), some (.int (nI (ls + 1 - j) + (-1)))] [] (am_H (S)) 0 0 := by
    intro k
    induction k with
    | zero =>
      intro j h1 h2 h3
      omega
    | succ k ih =>
      intro j h1 h2 h3
      have hz : ∀ jj, jj = j → (jj = ls + 1 ∨ ¬ ¬ 1 < absI (gI S 85 (ls + 1 - jj - 1))) → (if j = 0 then (-1 : Int32) else nI (ls + 1 - j)) = setI (fun m => ¬ 1 < absI (gI S 85 m)) ls := by
        intro jj hj hz
        subst hj
        rw [setI, trun_all (fun m => ¬ 1 < absI (gI S 85 m)) jj (ls + 1) h1 h3 hz]
      by_cases hjn : j = ls + 1
      · subst hjn
        refine r_iload_n rfl rfl ?_
        refine r_if_lt rfl (fun h8 => ?_) (fun h8 => ?_)
        · rw [hz (ls + 1) rfl (Or.inl rfl)]
          refine r_iload_n rfl rfl ?_
          refine r_iret rfl rfl ?_
          exact ⟨rfl, rfl⟩
        · rw [Nat.sub_self] at h8
          exact absurd (by decide) h8
      · rw [nI_m1 (by omega)]
        have e1 : ls + 1 - j - 1 = ls - j := by omega
        rw [e1]
        have s1 : 0 ≤ nI (ls - j) := nI_pos' (by omega)
        have s2 : nI (ls - j) < Int32.ofNat 200 := nI_lt (by omega) (by omega)
        have b1 : (nI (ls - j)).toNatClampNeg = ls - j := nI_clamp (by omega)
        refine r_iload_n rfl rfl ?_
        refine r_if_lt rfl (fun h8 => ?_) (fun h8 => ?_)
        · exact absurd h8 (nI_neg (by omega))
        · refine r_aload_n rfl rfl ?_
          refine r_getC rfl rfl (by decide) (by decide) rfl ?_
          refine r_iload_n rfl rfl ?_
          refine r_iald rfl rfl (by first | decide | assumption) (by first | exact s1 | exact s2) (by first | exact s1 | exact s2) ?_
          refine r_abs rfl (am_cnt rfl) ?_
          refine r_iconst rfl ?_
          refine r_icmp_gt rfl (fun h21 => ?_) (fun h21 => ?_)
          · rw [b1] at h21
            rw [hz j rfl (Or.inr (by rw [e1]; exact fun z => z h21))]
            refine r_iload_n rfl rfl ?_
            refine r_iret rfl rfl ?_
            exact ⟨rfl, rfl⟩
          · rw [b1] at h21
            refine r_iload_n rfl rfl ?_
            refine r_istore_n (L2 := [_, _, _]) rfl rfl ?_
            refine r_iinc (L2 := [_, _, _]) rfl rfl rfl ?_
            refine r_goto rfl ?_
            have e2 := ih (j + 1) (by omega) (by omega) (fun i a b => by
              by_cases hi : i = ls - j
              · rw [hi]; exact h21
              · exact h3 i (by omega) b)
            rw [if_neg (by omega), show ls + 1 - (j + 1) = ls - j by omega] at e2
            exact e2
  refine r_iconst rfl ?_
  refine r_istore_n (L2 := [_, _, _]) rfl rfl ?_
  refine r_aload_n rfl rfl ?_
  refine r_getI rfl rfl (by decide) (by decide) rfl ?_
  refine r_istore_n (L2 := [_, _, _]) rfl rfl ?_
  rw [hls]
  have e2 := loop (ls + 2) 0 (by omega) (by omega) (fun i a b => by omega)
  rw [if_pos rfl, nI_m1 (by omega)] at e2
  exact e2
