/-! Pulls of a part: the reference's row 118. -/
theorem ct_X11_pulls {d : Nat} {S : am_S} {lt n : Nat} {kk x : Int32} (hl : lt ≤ 20) (hn : n ≤ 199) : am_CT (d + 2) iX11_pulls [.ref 97, .int (nI lt), .int kk, .int x, .int (nI n)] S (none) (rI S 118 (pulG lt kk x (gI S 118) n)) := by
  refine am_CT_in mmX11_pulls rfl rfl rfl ?_
  have loop : ∀ (k : Nat) (j : Nat) (v6 : Option Value), (j ≤ n) → (n < j + k) → am_Ex (am_Call am_MT (d + 1)) mmX11_pulls none (fun r1 G1 => r1 = (none) ∧ G1 = am_H (rI S 118 (pulG lt kk x (gI S 118) n))) (fun _ _ _ _ _ _ => False) 10 [some (.ref 97), some (.int (nI lt)), some (.int kk), some (.int x), some (.int (nI n)), some (.int (nI (j + 1))), v6] [] (am_H (rI S 118 (pulG lt kk x (gI S 118) j))) 0 0 := by
    intro k
    induction k with
    | zero =>
      intro j v6 h1 h2
      omega
    | succ k ih =>
      intro j v6 h1 h2
      have a2 : gI (rI S 118 (pulG lt kk x (gI S 118) j)) 118 = pulG lt kk x (gI S 118) j := gI_rI_eq
      have p1 : nI (j + 1) - 1 = nI j := nI_pred j
      have b1 : (nI j).toNatClampNeg = j := nI_clamp (by omega)
      have b2 : (nI (j + 1)).toNatClampNeg = j + 1 := nI_clamp (by omega)
      have s1 : 0 ≤ nI j := nI_pos' (by omega)
      have s2 : nI j < Int32.ofNat 200 := nI_lt (by omega) (by omega)
      have s3 : 0 ≤ nI (j + 1) := nI_pos' (by omega)
      by_cases hj : j = n
      · have w1 : nI n < nI (j + 1) := nI_lt (by omega) (by omega)
        rw [hj] at w1 ⊢
        refine r_iload rfl rfl ?_
        refine r_iload rfl rfl ?_
        refine r_icmp_gt rfl (fun h14 => ?_) (fun h14 => ?_)
        · refine r_vret rfl ?_
          exact ⟨rfl, rfl⟩
        · exact absurd w1 h14
      · have w1 : ¬ nI n < nI (j + 1) := nI_nlt (by omega) (by omega)
        have s4 : nI (j + 1) < Int32.ofNat 200 := nI_lt (by omega) (by omega)
        have w99 : (0 : Int32) ≤ 99999 := by decide
        by_cases hjl : j < lt
        · have q1 : nI j - nI lt < 0 := pk_sneg (by omega) hjl
          refine r_iload rfl rfl ?_
          refine r_iload rfl rfl ?_
          refine r_icmp_gt rfl (fun h14 => ?_) (fun h14 => ?_)
          · exact absurd h14 w1
          · refine r_iload rfl rfl ?_
            refine r_iconst rfl ?_
            refine r_isub rfl ?_
            rw [p1]
            refine r_iload_n rfl rfl ?_
            refine r_isub rfl ?_
            refine r_if_ge rfl (fun h23 => ?_) (fun h23 => ?_)
            · exact absurd q1 (Int32.not_lt.mpr h23)
            · refine r_iload_n rfl rfl ?_
              refine r_goto rfl ?_
              refine r_istore (L2 := [_, _, _, _, _, _, _]) rfl rfl ?_
              refine r_aload_n rfl rfl ?_
              refine r_getC rfl rfl (by decide) (by decide) rfl ?_
              refine r_iload rfl rfl ?_
              refine r_aload_n rfl rfl ?_
              refine r_getC rfl rfl (by decide) (by decide) rfl ?_
              refine r_iload rfl rfl ?_
              refine r_iconst rfl ?_
              refine r_isub rfl ?_
              rw [p1]
              refine r_iald rfl rfl (by first | decide | assumption) (by first | exact s1 | exact s2 | exact s3 | exact s4) (by first | exact s1 | exact s2 | exact s3 | exact s4) ?_
              refine r_iload_n rfl rfl ?_
              refine r_iload rfl rfl ?_
              refine r_imul rfl ?_
              refine r_bipush rfl ?_
              refine r_idiv rfl (by decide) ?_
              refine r_isub rfl ?_
              refine r_ldc_w rfl ?_
              refine r_callS rfl (by decide) (ct_X11_put w99) rfl rfl (am_cnt rfl) ?_
              refine r_iast rfl rfl (by first | decide | assumption) (by first | exact s1 | exact s2 | exact s3 | exact s4) (by first | exact s1 | exact s2 | exact s3 | exact s4) ?_
              refine r_iinc (L2 := [_, _, _, _, _, _, _]) rfl rfl rfl ?_
              refine r_goto rfl ?_
              rw [b1, b2, a2, uI_rIs, nI_1]
              have e := ih (j + 1) (some (.int x)) (by omega) (by omega)
              rw [pulG, if_pos hjl] at e
              exact e
        · have q1 : nI j - nI lt = nI (j - lt) := pk_sub (by omega)
          have w2 : ¬ nI (j - lt) < 0 := nI_pos (by omega)
          have s5 : 0 ≤ nI (j - lt) := nI_pos' (by omega)
          have s6 : nI (j - lt) < Int32.ofNat 200 := nI_lt (by omega) (by omega)
          have b3 : (nI (j - lt)).toNatClampNeg = j - lt := nI_clamp (by omega)
          refine r_iload rfl rfl ?_
          refine r_iload rfl rfl ?_
          refine r_icmp_gt rfl (fun h14 => ?_) (fun h14 => ?_)
          · exact absurd h14 w1
          · refine r_iload rfl rfl ?_
            refine r_iconst rfl ?_
            refine r_isub rfl ?_
            rw [p1]
            refine r_iload_n rfl rfl ?_
            refine r_isub rfl ?_
            rw [q1]
            refine r_if_ge rfl (fun h23 => ?_) (fun h23 => ?_)
            · refine r_aload_n rfl rfl ?_
              refine r_getC rfl rfl (by decide) (by decide) rfl ?_
              refine r_iload rfl rfl ?_
              refine r_iconst rfl ?_
              refine r_isub rfl ?_
              rw [p1]
              refine r_iload_n rfl rfl ?_
              refine r_isub rfl ?_
              rw [q1]
              refine r_iald rfl rfl (by first | decide | assumption) (by first | exact s1 | exact s2 | exact s3 | exact s4 | exact s5 | exact s6) (by first | exact s1 | exact s2 | exact s3 | exact s4 | exact s5 | exact s6) ?_
              refine r_istore (L2 := [_, _, _, _, _, _, _]) rfl rfl ?_
              refine r_aload_n rfl rfl ?_
              refine r_getC rfl rfl (by decide) (by decide) rfl ?_
              refine r_iload rfl rfl ?_
              refine r_aload_n rfl rfl ?_
              refine r_getC rfl rfl (by decide) (by decide) rfl ?_
              refine r_iload rfl rfl ?_
              refine r_iconst rfl ?_
              refine r_isub rfl ?_
              rw [p1]
              refine r_iald rfl rfl (by first | decide | assumption) (by first | exact s1 | exact s2 | exact s3 | exact s4 | exact s5 | exact s6) (by first | exact s1 | exact s2 | exact s3 | exact s4 | exact s5 | exact s6) ?_
              refine r_iload_n rfl rfl ?_
              refine r_iload rfl rfl ?_
              refine r_imul rfl ?_
              refine r_bipush rfl ?_
              refine r_idiv rfl (by decide) ?_
              refine r_isub rfl ?_
              refine r_ldc_w rfl ?_
              refine r_callS rfl (by decide) (ct_X11_put w99) rfl rfl (am_cnt rfl) ?_
              refine r_iast rfl rfl (by first | decide | assumption) (by first | exact s1 | exact s2 | exact s3 | exact s4 | exact s5 | exact s6) (by first | exact s1 | exact s2 | exact s3 | exact s4 | exact s5 | exact s6) ?_
              refine r_iinc (L2 := [_, _, _, _, _, _, _]) rfl rfl rfl ?_
              refine r_goto rfl ?_
              rw [b1, b2, b3, a2, uI_rIs, nI_1]
              have e := ih (j + 1) (some (.int (pulG lt kk x (gI S 118) j (j - lt)))) (by omega) (by omega)
              rw [pulG, if_neg hjl] at e
              exact e
            · exact absurd (Int32.not_le.mp h23) w2
  refine r_aload_n rfl rfl ?_
  refine r_getC rfl rfl (by decide) (by decide) rfl ?_
  refine r_iconst rfl ?_
  refine r_iload_n rfl rfl ?_
  refine r_iast rfl rfl (by first | decide | assumption) (by decide) (by decide) ?_
  refine r_iconst rfl ?_
  refine r_istore (L2 := [_, _, _, _, _, _, _]) rfl rfl ?_
  have e := loop (n + 1) 0 none (by omega) (by omega)
  rw [pulG] at e
  rw [uI_rI]
  exact e
def plS (S : am_S) (lt : Nat) (kk x : Int32) (n : Nat) : am_S := rI S 118 (pulG lt kk x (gI S 118) n)
theorem plS_v {S : am_S} {lt n j : Nat} {kk x : Int32} (h : j ≤ n) : gI (plS S lt kk x n) 118 j = pv lt kk x j := by rw [plS, gI_rI_eq, pulG_pv h]
def PvOk (S : am_S) (lt : Nat) (kk x : Int32) (n : Nat) : Prop := ∀ j, j ≤ n → gI S 118 j = pv lt kk x j
theorem ct_X11_greatest {d : Nat} {S : am_S} {lt n f e : Nat} {kk x : Int32} (hn : n ≤ 199) (hp : PvOk S lt kk x n) (hf : f ≤ e) (he : e ≤ n + 1) : am_CT (d + 1) iX11_greatest [.ref 97, .int (nI f), .int (nI e)] S (some (.int (wdI lt kk x f (e - f)))) (S) := by
  refine am_CT_in mmX11_greatest rfl rfl rfl ?_
  have loop : ∀ (k : Nat) (j : Nat), (f + j ≤ e) → (e < f + j + k) → am_Ex (am_Call am_MT (d + 0)) mmX11_greatest none (fun r1 G1 => r1 = (some (.int (wdI lt kk x f (e - f)))) ∧ G1 = am_H (S)) (fun _ _ _ _ _ _ => False) 5 [some (.ref 97), some (.int (nI f)), some (.int (nI e)), some (.int (wdI lt kk x f j)), some (.int (nI (f + j)))] [] (am_H (S)) 0 0 := by
    intro k
    induction k with
    | zero =>
      intro j h1 h2
      omega
    | succ k ih =>
      intro j h1 h2
      have b1 : (nI (f + j)).toNatClampNeg = f + j := nI_clamp (by omega)
      have s1 : 0 ≤ nI (f + j) := nI_pos' (by omega)
      have nx : f + j < e → (if wdI lt kk x f j < (if 0 ≤ gI S 118 (nI (f + j)).toNatClampNeg then gI S 118 (nI (f + j)).toNatClampNeg else 0 - gI S 118 (nI (f + j)).toNatClampNeg) then (if 0 ≤ gI S 118 (nI (f + j)).toNatClampNeg then gI S 118 (nI (f + j)).toNatClampNeg else 0 - gI S 118 (nI (f + j)).toNatClampNeg) else wdI lt kk x f j) = wdI lt kk x f (j + 1) := fun h => by
        rw [b1, hp (f + j) (by omega)]
        rfl
      refine r_iload rfl rfl ?_
      refine r_iload_n rfl rfl ?_
      refine r_icmp_ge rfl (fun h8 => ?_) (fun h8 => ?_)
      · rw [nI_leI (by omega) (by omega)] at h8
        obtain rfl : j = e - f := by omega
        refine r_iload_n rfl rfl ?_
        refine r_iret rfl rfl ?_
        exact ⟨rfl, rfl⟩
      · rw [nI_leI (by omega) (by omega)] at h8
        have s2 : nI (f + j) < Int32.ofNat 200 := nI_lt (by omega) (by omega)
        refine r_iload_n rfl rfl ?_
        refine r_aload_n rfl rfl ?_
        refine r_getC rfl rfl (by decide) (by decide) rfl ?_
        refine r_iload rfl rfl ?_
        refine r_iald rfl rfl (by first | decide | assumption) (by first | exact s1 | exact s2) (by first | exact s1 | exact s2) ?_
        refine r_abs rfl (am_cnt rfl) ?_
        refine r_max rfl (am_cnt rfl) ?_
        rw [nx (by omega)]
        refine r_istore_n (L2 := [_, _, _, _, _]) rfl rfl ?_
        refine r_iinc (L2 := [_, _, _, _, _]) rfl rfl rfl ?_
        refine r_goto rfl ?_
        rw [nI_1]
        exact ih (j + 1) (by omega) (by omega)
  refine r_iconst rfl ?_
  refine r_istore_n (L2 := [_, _, _, _, _]) rfl rfl ?_
  refine r_iload_n rfl rfl ?_
  refine r_istore (L2 := [_, _, _, _, _]) rfl rfl ?_
  exact loop (e + 1) 0 (by omega) (by omega)
theorem ct_X11_calm {d : Nat} {S : am_S} {lt n : Nat} {kk x : Int32} (hn : n ≤ 199) (hp : PvOk S lt kk x n) : am_CT (d + 1) iX11_calm [.ref 97, .int (nI n)] S (some (.int (cmI lt kk x n))) (S) := by
  refine am_CT_in mmX11_calm rfl rfl rfl ?_
  have loop : ∀ (k : Nat) (j : Nat), (j ≤ n + 1) → (n + 1 < j + k) → (∀ i, n + 1 - j ≤ i → i < n + 1 → ¬ 1 < absI (pv lt kk x i)) → am_Ex (am_Call am_MT (d + 0)) mmX11_calm none (fun r1 G1 => r1 = (some (.int (cmI lt kk x n))) ∧ G1 = am_H (S)) (fun _ _ _ _ _ _ => False) 4 [some (.ref 97), some (.int (nI n)), some (.int (nI (n + 1 - j)))] [] (am_H (S)) 0 0 := by
    intro k
    induction k with
    | zero =>
      intro j h1 h2 h3
      omega
    | succ k ih =>
      intro j h1 h2 h3
      have hz : ∀ jj, jj = j → (jj = n + 1 ∨ ¬ ¬ 1 < absI (pv lt kk x (n + 1 - jj - 1))) → (if j = 0 then (-1 : Int32) else nI (n + 1 - j)) = cmI lt kk x n := by
        intro jj hj hz
        subst hj
        rw [cmI, setI, trun_all (fun m => ¬ 1 < absI (pv lt kk x m)) jj (n + 1) h1 h3 hz]
      have fin : (if nI n < nI (n + 1 - j) then (-1 : Int32) else nI (n + 1 - j)) = if j = 0 then (-1 : Int32) else nI (n + 1 - j) := by
        by_cases h0 : j = 0
        · rw [if_pos h0, if_pos (nI_lt (by omega) (by omega))]
        · rw [if_neg h0, if_neg (nI_nlt (by omega) (by omega))]
      by_cases hjn : j = n + 1
      · have e0 := hz (n + 1) hjn.symm (Or.inl rfl)
        rw [← fin] at e0
        rw [← e0, hjn, Nat.sub_self]
        refine r_iload_n rfl rfl ?_
        refine r_if_le rfl (fun h5 => ?_) (fun h5 => ?_)
        · refine r_iload_n rfl rfl ?_
          refine r_iload_n rfl rfl ?_
          refine r_icmp_le rfl (fun h31 => ?_) (fun h31 => ?_)
          · rw [if_neg (Int32.not_lt.mpr h31)]
            refine r_iload_n rfl rfl ?_
            refine r_iret rfl rfl ?_
            exact ⟨rfl, rfl⟩
          · rw [if_pos (Int32.not_le.mp h31)]
            refine r_iconst rfl ?_
            refine r_goto rfl ?_
            refine r_iret rfl rfl ?_
            exact ⟨rfl, rfl⟩
        · exact absurd (by decide) h5
      · have w1 : ¬ nI (n + 1 - j) ≤ 0 := nI_nle (by omega) (by omega)
        have e1 : nI (n + 1 - j) - 1 = nI (n - j) := by rw [show nI (n + 1 - j) - 1 = nI (n + 1 - j - 1) from pk_sub (b := 1) (by omega)]; congr 1; omega
        have b1 : (nI (n - j)).toNatClampNeg = n - j := nI_clamp (by omega)
        have s1 : 0 ≤ nI (n - j) := nI_pos' (by omega)
        have s2 : nI (n - j) < Int32.ofNat 200 := nI_lt (by omega) (by omega)
        have pj : gI S 118 (nI (n - j)).toNatClampNeg = pv lt kk x (n - j) := by rw [b1, hp (n - j) (by omega)]
        have hab : (if (0 : Int32) ≤ pv lt kk x (n - j) then pv lt kk x (n - j) else 0 - pv lt kk x (n - j)) = absI (pv lt kk x (n - j)) := rfl
        refine r_iload_n rfl rfl ?_
        refine r_if_le rfl (fun h5 => ?_) (fun h5 => ?_)
        · exact absurd h5 w1
        · refine r_aload_n rfl rfl ?_
          refine r_getC rfl rfl (by decide) (by decide) rfl ?_
          refine r_iload_n rfl rfl ?_
          refine r_iconst rfl ?_
          refine r_isub rfl ?_
          rw [e1]
          refine r_iald rfl rfl (by first | decide | assumption) (by first | exact s1 | exact s2) (by first | exact s1 | exact s2) ?_
          rw [pj]
          refine r_abs rfl (am_cnt rfl) ?_
          refine r_iconst rfl ?_
          rw [hab]
          refine r_icmp_gt rfl (fun h20 => ?_) (fun h20 => ?_)
          · have e0 := hz j rfl (Or.inr (by rw [show n + 1 - j - 1 = n - j by omega]; exact fun z => z h20))
            rw [← fin] at e0
            rw [← e0]
            refine r_iload_n rfl rfl ?_
            refine r_iload_n rfl rfl ?_
            refine r_icmp_le rfl (fun h31 => ?_) (fun h31 => ?_)
            · rw [if_neg (Int32.not_lt.mpr h31)]
              refine r_iload_n rfl rfl ?_
              refine r_iret rfl rfl ?_
              exact ⟨rfl, rfl⟩
            · rw [if_pos (Int32.not_le.mp h31)]
              refine r_iconst rfl ?_
              refine r_goto rfl ?_
              refine r_iret rfl rfl ?_
              exact ⟨rfl, rfl⟩
          · refine r_iinc (L2 := [_, _, _]) rfl rfl rfl ?_
            refine r_goto rfl ?_
            rw [nI_m1 (by omega), show n + 1 - j - 1 = n + 1 - (j + 1) by omega]
            exact ih (j + 1) (by omega) (by omega) (fun i a b => by
              by_cases hi : i = n - j
              · rw [hi]; exact h20
              · exact h3 i (by omega) b)
  refine r_iload_n rfl rfl ?_
  refine r_iconst rfl ?_
  refine r_iadd rfl ?_
  refine r_istore_n (L2 := [_, _, _]) rfl rfl ?_
  rw [nI_1]
  exact loop (n + 2) 0 (by omega) (by omega) (fun i a b => by omega)
theorem ct_X11_pull_no {d : Nat} {S T : am_S} {lt kk x n : Int32} (hT : uI S 97 0 0 = T) (h : ¬ ((0 ≤ lt ∧ lt ≤ 20) ∧ (1 ≤ kk ∧ kk ≤ 20) ∧ (1 ≤ x ∧ x ≤ 999) ∧ (2 ≤ n ∧ n ≤ 199))) : am_CT (d + 3) iX11_pull [.ref 97, .int lt, .int kk, .int x, .int n] S (some (.int (-1))) (T) := by
  refine am_CT_in mmX11_pull rfl rfl rfl ?_
  refine r_aload_n rfl rfl ?_
  refine r_iconst rfl ?_
  refine r_putI rfl rfl (by decide) (by decide) rfl ?_
  try rw [hT]
  refine r_iload_n rfl rfl ?_
  refine r_i2l rfl ?_
  refine r_lconst rfl ?_
  refine r_ldc2_w rfl ?_
  refine r_callS rfl (by decide) ct_X11_in rfl rfl (am_cnt rfl) ?_
  refine r_if_eq rfl (fun h14 => ?_) (fun h14 => ?_)
  · refine r_iconst rfl ?_
    refine r_iret rfl rfl ?_
    exact ⟨rfl, rfl⟩
  · refine r_iload_n rfl rfl ?_
    refine r_i2l rfl ?_
    refine r_lconst rfl ?_
    refine r_ldc2_w rfl ?_
    refine r_callS rfl (by decide) ct_X11_in rfl rfl (am_cnt rfl) ?_
    refine r_if_eq rfl (fun h26 => ?_) (fun h26 => ?_)
    · refine r_iconst rfl ?_
      refine r_iret rfl rfl ?_
      exact ⟨rfl, rfl⟩
    · refine r_iload_n rfl rfl ?_
      refine r_i2l rfl ?_
      refine r_lconst rfl ?_
      refine r_ldc2_w rfl ?_
      refine r_callS rfl (by decide) ct_X11_in rfl rfl (am_cnt rfl) ?_
      refine r_if_eq rfl (fun h38 => ?_) (fun h38 => ?_)
      · refine r_iconst rfl ?_
        refine r_iret rfl rfl ?_
        exact ⟨rfl, rfl⟩
      · refine r_iload rfl rfl ?_
        refine r_i2l rfl ?_
        refine r_ldc2_w rfl ?_
        refine r_ldc2_w rfl ?_
        refine r_callS rfl (by decide) ct_X11_in rfl rfl (am_cnt rfl) ?_
        refine r_if_ne rfl (fun h53 => ?_) (fun h53 => ?_)
        · exfalso
          simp only [b01_eq0, wl_m999, wg_m999, wl_m99, wg_m99, wl_m50, wg_m50, wl_m1, wg_m1, wl_0, wg_0, wl_1, wg_1, wl_2, wg_2, wl_3, wg_3, wl_4, wg_4, wl_6, wg_6, wl_9, wg_9, wl_10, wg_10, wl_11, wg_11, wl_20, wg_20, wl_48, wg_48, wl_50, wg_50, wl_57, wg_57, wl_99, wg_99, wl_100, wg_100, wl_199, wg_199, wl_222, wg_222, wl_999, wg_999, wl_9999, wg_9999, fa_wide_le] at *
          grind
        · refine r_iconst rfl ?_
          refine r_iret rfl rfl ?_
          exact ⟨rfl, rfl⟩
theorem ct_X11_pull_ok {d : Nat} {S T : am_S} {lt n : Nat} {kk x : Int32} (hT : uI S 97 0 0 = T) (hl : lt ≤ 20) (hk : 1 ≤ kk ∧ kk ≤ 20) (hx : 1 ≤ x ∧ x ≤ 999) (h2 : 2 ≤ n) (hn : n ≤ 199) : am_CT (d + 3) iX11_pull [.ref 97, .int (nI lt), .int kk, .int x, .int (nI n)] S (some (.int (wdI lt kk x (n / 2) (n + 1 - n / 2)))) (e3 (plS T lt kk x n) (wdI lt kk x 0 (n / 2)).toInt64 (tnI lt kk x n).toInt64 (cmI lt kk x n).toInt64) := by
  refine am_CT_in mmX11_pull rfl rfl rfl ?_
  have c1 : 0 ≤ nI lt ∧ nI lt ≤ 20 := ⟨nI_pos' (by omega), nI_le (b := 20) hl (by omega)⟩
  have c2 : 2 ≤ nI n ∧ nI n ≤ 199 := ⟨nI_le (a := 2) h2 (by omega), nI_le (b := 199) hn (by omega)⟩
  have d2 : nI n / 2 = nI (n / 2) := pk_div (d := 2) (by omega) (by decide) (by decide)
  have p0 : PvOk (plS T lt kk x n) lt kk x n := fun j hj => plS_v hj
  have pe : ∀ U : am_S, gI U 118 = gI (plS T lt kk x n) 118 → PvOk U lt kk x n := fun U hU j hj => by rw [hU]; exact p0 j hj
  have g0 : ∀ {d : Nat}, am_CT (d + 1) iX11_greatest [.ref 97, .int 0, .int (nI (n / 2))] (uI (plS T lt kk x n) 97 1 0) (some (.int (wdI lt kk x 0 (n / 2)))) (uI (plS T lt kk x n) 97 1 0) := fun {d} => ct_X11_greatest (f := 0) (e := n / 2) hn (pe _ (by rw [gI_uI_ne (by decide)])) (by omega) (by omega)
  have loop : ∀ (k : Nat) (j : Nat) (a : Int32) (b : Int32) (v8 : Option Value), (j ≤ n + 1) → (n + 1 < j + k) → ((a, b) = turnI (pv lt kk x) j) → am_Ex (am_Call am_MT (d + 2)) mmX11_pull none (fun r1 G1 => r1 = (some (.int (wdI lt kk x (n / 2) (n + 1 - n / 2)))) ∧ G1 = am_H (e3 (plS T lt kk x n) (wdI lt kk x 0 (n / 2)).toInt64 (tnI lt kk x n).toInt64 (cmI lt kk x n).toInt64)) (fun _ _ _ _ _ _ => False) 76 [some (.ref 97), some (.int (nI lt)), some (.int kk), some (.int x), some (.int (nI n)), some (.int a), some (.int b), some (.int (nI j)), v8] [] (am_H (plS T lt kk x n)) 0 0 := by
    intro k
    induction k with
    | zero =>
      intro j a b v8 h1 h3 h4
      omega
    | succ k ih =>
      intro j a b v8 h1 h3 h4
      have bj : (nI j).toNatClampNeg = j := nI_clamp (by omega)
      have s1 : 0 ≤ nI j := nI_pos' (by omega)
      by_cases hj : j = n + 1
      · have w1 : nI n < nI j := nI_lt (by omega) (by omega)
        have ea : a = tnI lt kk x n := by rw [tnI, ← hj, ← h4]
        rw [ea]
        refine r_iload rfl rfl ?_
        refine r_iload rfl rfl ?_
        refine r_icmp_gt rfl (fun h80 => ?_) (fun h80 => ?_)
        · refine r_aload_n rfl rfl ?_
          refine r_iconst rfl ?_
          refine r_putI rfl rfl (by decide) (by decide) rfl ?_
          refine r_aload_n rfl rfl ?_
          refine r_aload_n rfl rfl ?_
          refine r_iconst rfl ?_
          refine r_iload rfl rfl ?_
          refine r_iconst rfl ?_
          refine r_idiv rfl (by decide) ?_
          rw [d2]
          refine r_callV rfl g0 rfl rfl rfl (by decide) rfl (am_cnt rfl) ?_
          refine r_i2l rfl ?_
          refine r_callV rfl (ct_X11_enters u971 (by decide)) rfl rfl rfl (by decide) rfl (am_cnt rfl) ?_
          refine r_aload_n rfl rfl ?_
          refine r_iload rfl rfl ?_
          refine r_i2l rfl ?_
          refine r_callV rfl (ct_X11_enters eAdd_n (by decide)) rfl rfl rfl (by decide) rfl (am_cnt rfl) ?_
          refine r_aload_n rfl rfl ?_
          refine r_aload_n rfl rfl ?_
          refine r_iload rfl rfl ?_
          refine r_callV rfl (ct_X11_calm (lt := lt) (kk := kk) (x := x) hn (pe _ (by rw [eAdd_ne (by decide), eAdd_ne (by decide), gI_uI_ne (by decide)]))) rfl rfl rfl (by decide) rfl (am_cnt rfl) ?_
          refine r_i2l rfl ?_
          refine r_callV rfl (ct_X11_enters eAdd_n (by decide)) rfl rfl rfl (by decide) rfl (am_cnt rfl) ?_
          refine r_aload_n rfl rfl ?_
          refine r_iload rfl rfl ?_
          refine r_iconst rfl ?_
          refine r_idiv rfl (by decide) ?_
          refine r_iload rfl rfl ?_
          refine r_iconst rfl ?_
          refine r_iadd rfl ?_
          rw [nI_1, d2]
          refine r_callV rfl (ct_X11_greatest (lt := lt) (kk := kk) (x := x) (f := n / 2) (e := n + 1) hn (pe _ (by rw [eAdd_ne (by decide), eAdd_ne (by decide), eAdd_ne (by decide), gI_uI_ne (by decide)])) (by omega) (by omega)) rfl rfl rfl (by decide) rfl (am_cnt rfl) ?_
          refine r_iret rfl rfl ?_
          exact ⟨rfl, rfl⟩
        · exact absurd w1 h80
      · have w1 : ¬ nI n < nI j := nI_nlt (by omega) (by omega)
        have s2 : nI j < Int32.ofNat 200 := nI_lt (by omega) (by omega)
        have gj : gI (plS T lt kk x n) 118 (nI j).toNatClampNeg = pv lt kk x j := by rw [bj, plS_v (by omega)]
        have tn : turnI (pv lt kk x) (j + 1) = (a + (if sgn (pv lt kk x j) * b < 0 then 1 else 0), if sgn (pv lt kk x j) = 0 then b else sgn (pv lt kk x j)) := by rw [turnI, ← h4]
        refine r_iload rfl rfl ?_
        refine r_iload rfl rfl ?_
        refine r_icmp_gt rfl (fun h80 => ?_) (fun h80 => ?_)
        · exact absurd h80 w1
        · refine r_aload_n rfl rfl ?_
          refine r_getC rfl rfl (by decide) (by decide) rfl ?_
          refine r_iload rfl rfl ?_
          refine r_iald rfl rfl (by first | decide | assumption) (by first | exact s1 | exact s2) (by first | exact s1 | exact s2) ?_
          rw [gj]
          refine r_callS rfl (by decide) ct_J6_signum_0f7a4 rfl rfl (am_cnt rfl) ?_
          refine r_istore (L2 := [_, _, _, _, _, _, _, _, _]) rfl rfl ?_
          refine r_iload rfl rfl ?_
          refine r_iload rfl rfl ?_
          refine r_iload rfl rfl ?_
          refine r_imul rfl ?_
          refine r_if_ge rfl (fun h102 => ?_) (fun h102 => ?_)
          · refine r_iconst rfl ?_
            refine r_callS rfl (by decide) (ct_X11_flag (by simp)) rfl rfl (am_cnt rfl) ?_
            refine r_iadd rfl ?_
            refine r_istore (L2 := [_, _, _, _, _, _, _, _, _]) rfl rfl ?_
            refine r_iload rfl rfl ?_
            refine r_if_ne rfl (fun h118 => ?_) (fun h118 => ?_)
            · refine r_iload rfl rfl ?_
              refine r_istore (L2 := [_, _, _, _, _, _, _, _, _]) rfl rfl ?_
              refine r_iinc (L2 := [_, _, _, _, _, _, _, _, _]) rfl rfl rfl ?_
              refine r_goto rfl ?_
              rw [nI_1]
              refine ih (j + 1) _ _ _ (by omega) (by omega) ?_
              rw [tn]
              grind
            · refine r_iload rfl rfl ?_
              refine r_goto rfl ?_
              refine r_istore (L2 := [_, _, _, _, _, _, _, _, _]) rfl rfl ?_
              refine r_iinc (L2 := [_, _, _, _, _, _, _, _, _]) rfl rfl rfl ?_
              refine r_goto rfl ?_
              rw [nI_1]
              refine ih (j + 1) _ _ _ (by omega) (by omega) ?_
              rw [tn]
              grind
          · refine r_iconst rfl ?_
            refine r_goto rfl ?_
            refine r_callS rfl (by decide) (ct_X11_flag (by simp)) rfl rfl (am_cnt rfl) ?_
            refine r_iadd rfl ?_
            refine r_istore (L2 := [_, _, _, _, _, _, _, _, _]) rfl rfl ?_
            refine r_iload rfl rfl ?_
            refine r_if_ne rfl (fun h118 => ?_) (fun h118 => ?_)
            · refine r_iload rfl rfl ?_
              refine r_istore (L2 := [_, _, _, _, _, _, _, _, _]) rfl rfl ?_
              refine r_iinc (L2 := [_, _, _, _, _, _, _, _, _]) rfl rfl rfl ?_
              refine r_goto rfl ?_
              rw [nI_1]
              refine ih (j + 1) _ _ _ (by omega) (by omega) ?_
              rw [tn]
              grind
            · refine r_iload rfl rfl ?_
              refine r_goto rfl ?_
              refine r_istore (L2 := [_, _, _, _, _, _, _, _, _]) rfl rfl ?_
              refine r_iinc (L2 := [_, _, _, _, _, _, _, _, _]) rfl rfl rfl ?_
              refine r_goto rfl ?_
              rw [nI_1]
              refine ih (j + 1) _ _ _ (by omega) (by omega) ?_
              rw [tn]
              grind
  refine r_aload_n rfl rfl ?_
  refine r_iconst rfl ?_
  refine r_putI rfl rfl (by decide) (by decide) rfl ?_
  try rw [hT]
  refine r_iload_n rfl rfl ?_
  refine r_i2l rfl ?_
  refine r_lconst rfl ?_
  refine r_ldc2_w rfl ?_
  refine r_callS rfl (by decide) ct_X11_in rfl rfl (am_cnt rfl) ?_
  refine r_if_eq rfl (fun h14 => ?_) (fun h14 => ?_)
  · simp only [b01_eq0, wl_m999, wg_m999, wl_m99, wg_m99, wl_m50, wg_m50, wl_m1, wg_m1, wl_0, wg_0, wl_1, wg_1, wl_2, wg_2, wl_3, wg_3, wl_4, wg_4, wl_6, wg_6, wl_9, wg_9, wl_10, wg_10, wl_11, wg_11, wl_20, wg_20, wl_48, wg_48, wl_50, wg_50, wl_57, wg_57, wl_99, wg_99, wl_100, wg_100, wl_199, wg_199, wl_222, wg_222, wl_999, wg_999, wl_9999, wg_9999, fa_wide_le] at h14
    exact absurd c1 h14
  · refine r_iload_n rfl rfl ?_
    refine r_i2l rfl ?_
    refine r_lconst rfl ?_
    refine r_ldc2_w rfl ?_
    refine r_callS rfl (by decide) ct_X11_in rfl rfl (am_cnt rfl) ?_
    refine r_if_eq rfl (fun h26 => ?_) (fun h26 => ?_)
    · simp only [b01_eq0, wl_m999, wg_m999, wl_m99, wg_m99, wl_m50, wg_m50, wl_m1, wg_m1, wl_0, wg_0, wl_1, wg_1, wl_2, wg_2, wl_3, wg_3, wl_4, wg_4, wl_6, wg_6, wl_9, wg_9, wl_10, wg_10, wl_11, wg_11, wl_20, wg_20, wl_48, wg_48, wl_50, wg_50, wl_57, wg_57, wl_99, wg_99, wl_100, wg_100, wl_199, wg_199, wl_222, wg_222, wl_999, wg_999, wl_9999, wg_9999, fa_wide_le] at h26
      exact absurd hk h26
    · refine r_iload_n rfl rfl ?_
      refine r_i2l rfl ?_
      refine r_lconst rfl ?_
      refine r_ldc2_w rfl ?_
      refine r_callS rfl (by decide) ct_X11_in rfl rfl (am_cnt rfl) ?_
      refine r_if_eq rfl (fun h38 => ?_) (fun h38 => ?_)
      · simp only [b01_eq0, wl_m999, wg_m999, wl_m99, wg_m99, wl_m50, wg_m50, wl_m1, wg_m1, wl_0, wg_0, wl_1, wg_1, wl_2, wg_2, wl_3, wg_3, wl_4, wg_4, wl_6, wg_6, wl_9, wg_9, wl_10, wg_10, wl_11, wg_11, wl_20, wg_20, wl_48, wg_48, wl_50, wg_50, wl_57, wg_57, wl_99, wg_99, wl_100, wg_100, wl_199, wg_199, wl_222, wg_222, wl_999, wg_999, wl_9999, wg_9999, fa_wide_le] at h38
        exact absurd hx h38
      · refine r_iload rfl rfl ?_
        refine r_i2l rfl ?_
        refine r_ldc2_w rfl ?_
        refine r_ldc2_w rfl ?_
        refine r_callS rfl (by decide) ct_X11_in rfl rfl (am_cnt rfl) ?_
        refine r_if_ne rfl (fun h53 => ?_) (fun h53 => ?_)
        · refine r_aload_n rfl rfl ?_
          refine r_iload_n rfl rfl ?_
          refine r_iload_n rfl rfl ?_
          refine r_iload_n rfl rfl ?_
          refine r_iload rfl rfl ?_
          refine r_callV rfl (ct_X11_pulls hl hn) rfl rfl rfl (by decide) rfl (am_cnt rfl) ?_
          refine r_iconst rfl ?_
          refine r_istore (L2 := [_, _, _, _, _, _, _, _, _]) rfl rfl ?_
          refine r_iconst rfl ?_
          refine r_istore (L2 := [_, _, _, _, _, _, _, _, _]) rfl rfl ?_
          refine r_iconst rfl ?_
          refine r_istore (L2 := [_, _, _, _, _, _, _, _, _]) rfl rfl ?_
          exact loop (n + 2) 0 _ _ none (by omega) (by omega) rfl
        · simp only [b01_eq0, wl_m999, wg_m999, wl_m99, wg_m99, wl_m50, wg_m50, wl_m1, wg_m1, wl_0, wg_0, wl_1, wg_1, wl_2, wg_2, wl_3, wg_3, wl_4, wg_4, wl_6, wg_6, wl_9, wg_9, wl_10, wg_10, wl_11, wg_11, wl_20, wg_20, wl_48, wg_48, wl_50, wg_50, wl_57, wg_57, wl_99, wg_99, wl_100, wg_100, wl_199, wg_199, wl_222, wg_222, wl_999, wg_999, wl_9999, wg_9999, fa_wide_le] at h53
          exact absurd c2 h53
def PlOnly (S T : am_S) : Prop := ∃ g, T = rI S 118 g
theorem plOnly_s {S T : am_S} {lt n : Nat} {kk x : Int32} (h : PlOnly S T) : PlOnly S (plS T lt kk x n) := by
  obtain ⟨g, rfl⟩ := h
  exact ⟨_, by rw [plS, rI_rI]⟩
theorem plOnly_0 {S : am_S} : PlOnly S S := ⟨gI S 118, by rw [rI_id]⟩
theorem ct_X11_edge_no {d : Nat} {S T : am_S} {lt : Int32} (hT : uI S 97 0 0 = T) (h : ¬ (0 ≤ lt ∧ lt ≤ 20)) : am_CT (d + 3) iX11_edge [.ref 97, .int lt] S (some (.int (-1))) (T) := by
  refine am_CT_in mmX11_edge rfl rfl rfl ?_
  refine r_aload_n rfl rfl ?_
  refine r_iconst rfl ?_
  refine r_putI rfl rfl (by decide) (by decide) rfl ?_
  try rw [hT]
  refine r_iload_n rfl rfl ?_
  refine r_i2l rfl ?_
  refine r_lconst rfl ?_
  refine r_ldc2_w rfl ?_
  refine r_callS rfl (by decide) ct_X11_in rfl rfl (am_cnt rfl) ?_
  refine r_if_ne rfl (fun h14 => ?_) (fun h14 => ?_)
  · simp only [b01_eq0, wl_m999, wg_m999, wl_m99, wg_m99, wl_m50, wg_m50, wl_m1, wg_m1, wl_0, wg_0, wl_1, wg_1, wl_2, wg_2, wl_3, wg_3, wl_4, wg_4, wl_6, wg_6, wl_9, wg_9, wl_10, wg_10, wl_11, wg_11, wl_20, wg_20, wl_48, wg_48, wl_50, wg_50, wl_57, wg_57, wl_99, wg_99, wl_100, wg_100, wl_199, wg_199, wl_222, wg_222, wl_999, wg_999, wl_9999, wg_9999, fa_wide_le] at h14
    exact absurd (Decidable.not_not.mp h14) h
  · refine r_iconst rfl ?_
    refine r_iret rfl rfl ?_
    exact ⟨rfl, rfl⟩
theorem ct_X11_edge_ok {d : Nat} {S T : am_S} {lt : Nat} (hT : uI S 97 0 0 = T) (hl : lt ≤ 20) : am_CE (d + 3) iX11_edge [.ref 97, .int (nI lt)] S (some (.int (if edgN lt = 21 then -2 else nI (edgN lt)))) (PlOnly T) := by
  refine am_CE_in mmX11_edge rfl rfl rfl ?_
  have c1 : 0 ≤ nI lt ∧ nI lt ≤ 20 := ⟨nI_pos' (by omega), nI_le (b := 20) hl (by omega)⟩
  have loop : ∀ (k : Nat) (j : Nat) (U : am_S), (1 ≤ j ∧ j ≤ 21) → (21 < j + k) → (fstF (fun k => 100 < wdI lt (nI k) 100 99 101) j (21 - j) = edgN lt) → (PlOnly T U) → am_Ex (am_Call am_MT (d + 2)) mmX11_edge none (fun r1 G1 => r1 = (some (.int (if edgN lt = 21 then -2 else nI (edgN lt)))) ∧ ∃ S2, G1 = am_H S2 ∧ (PlOnly T) S2) (fun _ _ _ _ _ _ => False) 21 [some (.ref 97), some (.int (nI lt)), some (.int (nI j))] [] (am_H (U)) 0 0 := by
    intro k
    induction k with
    | zero =>
      intro j U q1 q2 q3 q4
      omega
    | succ k ih =>
      intro j U q1 q2 q3 q4
      have en : j = 21 → edgN lt = 21 := fun h => by rw [← q3, h]; rfl
      have en2 : j ≤ 20 → 100 < wdI lt (nI j) 100 99 101 → edgN lt = j := fun h1 h => by
        rw [← q3, show 21 - j = (20 - j) + 1 by omega, fstF, if_pos h]
      have en3 : j ≤ 20 → ¬ 100 < wdI lt (nI j) 100 99 101 → fstF (fun k => 100 < wdI lt (nI k) 100 99 101) (j + 1) (21 - (j + 1)) = edgN lt := fun h1 h => by
        rw [← q3, show 21 - j = (21 - (j + 1)) + 1 by omega, fstF, if_neg h]
      have w1 : ∀ {d : Nat}, am_CT (d + 1) iX11_greatest [.ref 97, .int 99, .int 200] (plS U lt (nI j) 100 199) (some (.int (wdI lt (nI j) 100 99 101))) (plS U lt (nI j) 100 199) := fun {d} => ct_X11_greatest (n := 199) (f := 99) (e := 200) (by omega) (fun i hi => plS_v hi) (by omega) (by omega)
      refine r_iload_n rfl rfl ?_
      refine r_bipush rfl ?_
      refine r_icmp_gt rfl (fun h24 => ?_) (fun h24 => ?_)
      · have hj : j = 21 := by
          rw [show (20 : Int32) = nI 20 from rfl, nI_ltI (by omega) (by omega)] at h24
          omega
        refine r_bipush rfl ?_
        refine r_iret rfl rfl ?_
        rw [en hj, if_pos rfl]
        exact ⟨rfl, _, rfl, q4⟩
      · rw [show (20 : Int32) = nI 20 from rfl, nI_ltI (by omega) (by omega)] at h24
        refine r_aload_n rfl rfl ?_
        refine r_iload_n rfl rfl ?_
        refine r_iload_n rfl rfl ?_
        refine r_bipush rfl ?_
        refine r_sipush rfl ?_
        refine r_callV rfl (ct_X11_pulls (n := 199) hl (by omega)) rfl rfl rfl (by decide) rfl (am_cnt rfl) ?_
        refine r_aload_n rfl rfl ?_
        refine r_bipush rfl ?_
        refine r_sipush rfl ?_
        refine r_callV rfl w1 rfl rfl rfl (by decide) rfl (am_cnt rfl) ?_
        refine r_bipush rfl ?_
        refine r_icmp_le rfl (fun h49 => ?_) (fun h49 => ?_)
        · refine r_iinc (L2 := [_, _, _]) rfl rfl rfl ?_
          refine r_goto rfl ?_
          rw [nI_1]
          exact ih (j + 1) _ (by omega) (by omega) (en3 (by omega) (Int32.not_lt.mpr h49)) (plOnly_s q4)
        · refine r_iload_n rfl rfl ?_
          refine r_iret rfl rfl ?_
          rw [en2 (by omega) (Int32.not_le.mp h49), if_neg (by omega)]
          exact ⟨rfl, _, rfl, plOnly_s q4⟩
  refine r_aload_n rfl rfl ?_
  refine r_iconst rfl ?_
  refine r_putI rfl rfl (by decide) (by decide) rfl ?_
  try rw [hT]
  refine r_iload_n rfl rfl ?_
  refine r_i2l rfl ?_
  refine r_lconst rfl ?_
  refine r_ldc2_w rfl ?_
  refine r_callS rfl (by decide) ct_X11_in rfl rfl (am_cnt rfl) ?_
  refine r_if_ne rfl (fun h14 => ?_) (fun h14 => ?_)
  · refine r_iconst rfl ?_
    refine r_istore_n (L2 := [_, _, _]) rfl rfl ?_
    exact loop 21 1 T (by omega) (by omega) rfl plOnly_0
  · simp only [b01_eq0, wl_m999, wg_m999, wl_m99, wg_m99, wl_m50, wg_m50, wl_m1, wg_m1, wl_0, wg_0, wl_1, wg_1, wl_2, wg_2, wl_3, wg_3, wl_4, wg_4, wl_6, wg_6, wl_9, wg_9, wl_10, wg_10, wl_11, wg_11, wl_20, wg_20, wl_48, wg_48, wl_50, wg_50, wl_57, wg_57, wl_99, wg_99, wl_100, wg_100, wl_199, wg_199, wl_222, wg_222, wl_999, wg_999, wl_9999, wg_9999, fa_wide_le] at h14
    exact absurd c1 h14
theorem ct_X11_gentle_no {d : Nat} {S T : am_S} {lt x : Int32} (hT : uI S 97 0 0 = T) (h : ¬ ((0 ≤ lt ∧ lt ≤ 20) ∧ (1 ≤ x ∧ x ≤ 999))) : am_CT (d + 3) iX11_gentle [.ref 97, .int lt, .int x] S (some (.int (-1))) (T) := by
  refine am_CT_in mmX11_gentle rfl rfl rfl ?_
  refine r_aload_n rfl rfl ?_
  refine r_iconst rfl ?_
  refine r_putI rfl rfl (by decide) (by decide) rfl ?_
  try rw [hT]
  refine r_iload_n rfl rfl ?_
  refine r_i2l rfl ?_
  refine r_lconst rfl ?_
  refine r_ldc2_w rfl ?_
  refine r_callS rfl (by decide) ct_X11_in rfl rfl (am_cnt rfl) ?_
  refine r_if_eq rfl (fun h14 => ?_) (fun h14 => ?_)
  · refine r_iconst rfl ?_
    refine r_iret rfl rfl ?_
    exact ⟨rfl, rfl⟩
  · refine r_iload_n rfl rfl ?_
    refine r_i2l rfl ?_
    refine r_lconst rfl ?_
    refine r_ldc2_w rfl ?_
    refine r_callS rfl (by decide) ct_X11_in rfl rfl (am_cnt rfl) ?_
    refine r_if_ne rfl (fun h26 => ?_) (fun h26 => ?_)
    · exfalso
      simp only [b01_eq0, wl_m999, wg_m999, wl_m99, wg_m99, wl_m50, wg_m50, wl_m1, wg_m1, wl_0, wg_0, wl_1, wg_1, wl_2, wg_2, wl_3, wg_3, wl_4, wg_4, wl_6, wg_6, wl_9, wg_9, wl_10, wg_10, wl_11, wg_11, wl_20, wg_20, wl_48, wg_48, wl_50, wg_50, wl_57, wg_57, wl_99, wg_99, wl_100, wg_100, wl_199, wg_199, wl_222, wg_222, wl_999, wg_999, wl_9999, wg_9999, fa_wide_le] at *
      grind
    · refine r_iconst rfl ?_
      refine r_iret rfl rfl ?_
      exact ⟨rfl, rfl⟩
theorem cmI_or {lt : Nat} {kk x : Int32} {n : Nat} (hn : n ≤ 199) : cmI lt kk x n = -1 ∨ ∃ i, i ≤ n ∧ cmI lt kk x n = nI i := by
  unfold cmI setI
  split
  · exact Or.inl rfl
  · exact Or.inr ⟨_, by omega, rfl⟩
theorem gnt_or {lt : Nat} {x : Int32} : ∀ j, gntI lt x j = (-2, 200) ∨ ∃ i q, i ≤ j ∧ q ≤ 199 ∧ gntI lt x j = (nI i, nI q)
  | 0 => Or.inl rfl
  | j + 1 => by
    unfold gntI
    have e := gnt_or (lt := lt) (x := x) j
    split
    · rename_i h
      rcases cmI_or (lt := lt) (kk := nI (j + 1)) (x := x) (n := 199) (by omega) with c | ⟨i, hi, c⟩
      · exact absurd c h.1
      · exact Or.inr ⟨j + 1, i, by omega, hi, by rw [c]⟩
    · rcases e with e | ⟨i, q, hi, hq, e⟩
      · exact Or.inl e
      · exact Or.inr ⟨i, q, by omega, hq, e⟩
def gnmP (S : am_S) (b s : Int32) (T : am_S) : Prop := if b = -2 then PlOnly S T else ∃ T1, PlOnly S T1 ∧ T = e1 T1 s.toInt64
theorem ct_X11_gentle_ok {d : Nat} {S T : am_S} {lt : Nat} {x : Int32} (hT : uI S 97 0 0 = T) (hl : lt ≤ 20) (hx : 1 ≤ x ∧ x ≤ 999) : am_CE (d + 3) iX11_gentle [.ref 97, .int (nI lt), .int x] S (some (.int (gntI lt x 20).1)) (gnmP T (gntI lt x 20).1 (gntI lt x 20).2) := by
  refine am_CE_in mmX11_gentle rfl rfl rfl ?_
  have c1 : 0 ≤ nI lt ∧ nI lt ≤ 20 := ⟨nI_pos' (by omega), nI_le (b := 20) hl (by omega)⟩
  have loop : ∀ (k : Nat) (j : Nat) (U : am_S) (b : Int32) (s : Int32) (v6 : Option Value), (j ≤ 20) → (20 < j + k) → ((gntI lt x j = (-2, 200) ∧ b = -2 ∧ s = 0) ∨ (∃ i q, i ≤ j ∧ q ≤ 199 ∧ gntI lt x j = (nI i, nI q) ∧ b = nI i ∧ s = nI q)) → (PlOnly T U) → am_Ex (am_Call am_MT (d + 2)) mmX11_gentle none (fun r1 G1 => r1 = (some (.int (gntI lt x 20).1)) ∧ ∃ S2, G1 = am_H S2 ∧ (gnmP T (gntI lt x 20).1 (gntI lt x 20).2) S2) (fun _ _ _ _ _ _ => False) 40 [some (.ref 97), some (.int (nI lt)), some (.int x), some (.int b), some (.int s), some (.int (nI (j + 1))), v6] [] (am_H (U)) 0 0 := by
    intro k
    induction k with
    | zero =>
      intro j U b s v6 q1 q2 q3 q4
      omega
    | succ k ih =>
      intro j U b s v6 q1 q2 q3 q4
      have bneg : b < 0 ↔ gntI lt x j = (-2, 200) := by
        rcases q3 with ⟨h1, h2, h3⟩ | ⟨i, q, hi, hq, h1, h2, h3⟩
        · rw [h2]; exact ⟨fun _ => h1, fun _ => by decide⟩
        · rw [h2]
          refine ⟨fun z => absurd z (nI_pos (by omega)), fun z => ?_⟩
          rw [h1] at z
          have z1 : nI i = -2 := congrArg Prod.fst z
          rw [z1]
          decide
      have nx : gntI lt x (j + 1) = if ¬ cmI lt (nI (j + 1)) x 199 = -1 ∧ cmI lt (nI (j + 1)) x 199 < (gntI lt x j).2 then (nI (j + 1), cmI lt (nI (j + 1)) x 199) else gntI lt x j := rfl
      have cor := cmI_or (lt := lt) (kk := nI (j + 1)) (x := x) (n := 199) (by omega)
      have cm : ∀ {d : Nat}, am_CT (d + 1) iX11_calm [.ref 97, .int 199] (plS U lt (nI (j + 1)) x 199) (some (.int (cmI lt (nI (j + 1)) x 199))) (plS U lt (nI (j + 1)) x 199) := fun {d} => ct_X11_calm (n := 199) (by omega) (fun i hi => plS_v hi)
      have q5 := plOnly_s (lt := lt) (n := 199) (kk := nI (j + 1)) (x := x) q4
      have new : ∀ (h0 : ¬ cmI lt (nI (j + 1)) x 199 < 0) (h1 : b < 0 ∨ cmI lt (nI (j + 1)) x 199 < s), ∃ q, q ≤ 199 ∧ gntI lt x (j + 1) = (nI (j + 1), nI q) ∧ cmI lt (nI (j + 1)) x 199 = nI q := fun h0 h1 => by
        rcases cor with c | ⟨i, hi, c⟩
        · rw [c] at h0; exact absurd (by decide) h0
        · refine ⟨i, hi, ?_, c⟩
          rw [nx, c, if_pos]
          refine ⟨fun z => by rw [c, z] at h0; exact h0 (by decide), ?_⟩
          rcases q3 with ⟨g1, g2, g3⟩ | ⟨i2, q, hi2, hq, g1, g2, g3⟩
          · rw [g1]; exact nI_lt (b := 200) (by omega) (by omega)
          · rw [g1, ← g3, ← c]
            rcases h1 with h1 | h1
            · rw [g2] at h1; exact absurd h1 (nI_pos (by omega))
            · exact h1
      have old : (cmI lt (nI (j + 1)) x 199 < 0 ∨ (¬ b < 0 ∧ ¬ cmI lt (nI (j + 1)) x 199 < s)) → gntI lt x (j + 1) = gntI lt x j := fun h => by
        rw [nx, if_neg]
        intro z
        rcases cor with c | ⟨i, hi, c⟩
        · exact z.1 c
        · rcases h with h | ⟨h1, h2⟩
          · rw [c] at h; exact absurd h (nI_pos (by omega))
          · rcases q3 with ⟨g1, g2, g3⟩ | ⟨i2, q, hi2, hq, g1, g2, g3⟩
            · exact h1 (bneg.mpr g1)
            · rw [g1] at z
              rw [g3] at h2
              exact h2 z.2
      have olq : gntI lt x (j + 1) = gntI lt x j → (gntI lt x (j + 1) = (-2, 200) ∧ b = -2 ∧ s = 0) ∨ (∃ i q, i ≤ j + 1 ∧ q ≤ 199 ∧ gntI lt x (j + 1) = (nI i, nI q) ∧ b = nI i ∧ s = nI q) := fun h => by
        rw [h]
        rcases q3 with g | ⟨i2, q, hi2, g⟩
        · exact Or.inl g
        · exact Or.inr ⟨i2, q, by omega, g⟩
      refine r_iload rfl rfl ?_
      refine r_bipush rfl ?_
      refine r_icmp_gt rfl (fun h44 => ?_) (fun h44 => ?_)
      · have hj : j = 20 := by
          rw [show (20 : Int32) = nI 20 from rfl, nI_ltI (by omega) (by omega)] at h44
          omega
        rw [hj] at q3 bneg
        refine r_iload_n rfl rfl ?_
        refine r_if_lt rfl (fun h97 => ?_) (fun h97 => ?_)
        · refine r_iload_n rfl rfl ?_
          refine r_iret rfl rfl ?_
          unfold gnmP
          rcases q3 with ⟨g1, g2, g3⟩ | ⟨i2, q, hi2, hq, g1, g2, g3⟩
          · rw [g1, g2]
            first | exact ⟨rfl, _, rfl, by rw [if_pos rfl]; exact q4⟩ | exact absurd (bneg.mpr g1) h97
          · have gb : ¬ nI i2 = -2 := fun z => absurd (show nI i2 < 0 by rw [z]; decide) (nI_pos (by omega))
            rw [g1, g2]
            first | exact ⟨rfl, _, rfl, by rw [if_neg gb]; exact ⟨U, q4, by rw [g3]; rfl⟩⟩ | (rw [g2] at h97; exact absurd h97 (nI_pos (by omega)))
        · refine r_aload_n rfl rfl ?_
          refine r_iconst rfl ?_
          refine r_putI rfl rfl (by decide) (by decide) rfl ?_
          refine r_aload_n rfl rfl ?_
          refine r_iload rfl rfl ?_
          refine r_i2l rfl ?_
          refine r_callV rfl (ct_X11_enters u971 (by decide)) rfl rfl rfl (by decide) rfl (am_cnt rfl) ?_
          refine r_iload_n rfl rfl ?_
          refine r_iret rfl rfl ?_
          unfold gnmP
          rcases q3 with ⟨g1, g2, g3⟩ | ⟨i2, q, hi2, hq, g1, g2, g3⟩
          · rw [g1, g2]
            first | exact ⟨rfl, _, rfl, by rw [if_pos rfl]; exact q4⟩ | exact absurd (bneg.mpr g1) h97
          · have gb : ¬ nI i2 = -2 := fun z => absurd (show nI i2 < 0 by rw [z]; decide) (nI_pos (by omega))
            rw [g1, g2]
            first | exact ⟨rfl, _, rfl, by rw [if_neg gb]; exact ⟨U, q4, by rw [g3]; rfl⟩⟩ | (rw [g2] at h97; exact absurd h97 (nI_pos (by omega)))
      · rw [show (20 : Int32) = nI 20 from rfl, nI_ltI (by omega) (by omega)] at h44
        refine r_aload_n rfl rfl ?_
        refine r_iload_n rfl rfl ?_
        refine r_iload rfl rfl ?_
        refine r_iload_n rfl rfl ?_
        refine r_sipush rfl ?_
        refine r_callV rfl (ct_X11_pulls (n := 199) hl (by omega)) rfl rfl rfl (by decide) rfl (am_cnt rfl) ?_
        refine r_aload_n rfl rfl ?_
        refine r_sipush rfl ?_
        refine r_callV rfl cm rfl rfl rfl (by decide) rfl (am_cnt rfl) ?_
        refine r_istore (L2 := [_, _, _, _, _, _, _]) rfl rfl ?_
        refine r_iload rfl rfl ?_
        refine r_if_lt rfl (fun h69 => ?_) (fun h69 => ?_)
        · refine r_iinc (L2 := [_, _, _, _, _, _, _]) rfl rfl rfl ?_
          refine r_goto rfl ?_
          rw [nI_1]
          first
            | exact ih (j + 1) _ _ _ _ (by omega) (by omega) (olq (old (Or.inl h69))) q5
            | exact ih (j + 1) _ _ _ _ (by omega) (by omega) (olq (old (Or.inr ⟨h73, Int32.not_lt.mpr h80⟩))) q5
            | (obtain ⟨q, hq, hq1, hq2⟩ := new h69 (by first | exact Or.inl h73 | exact Or.inr (Int32.not_le.mp h80))
               exact ih (j + 1) _ _ _ _ (by omega) (by omega) (Or.inr ⟨j + 1, q, by omega, hq, hq1, rfl, hq2⟩) q5)
        · refine r_iload_n rfl rfl ?_
          refine r_if_lt rfl (fun h73 => ?_) (fun h73 => ?_)
          · refine r_iload rfl rfl ?_
            refine r_istore_n (L2 := [_, _, _, _, _, _, _]) rfl rfl ?_
            refine r_iload rfl rfl ?_
            refine r_istore (L2 := [_, _, _, _, _, _, _]) rfl rfl ?_
            refine r_iinc (L2 := [_, _, _, _, _, _, _]) rfl rfl rfl ?_
            refine r_goto rfl ?_
            rw [nI_1]
            first
              | exact ih (j + 1) _ _ _ _ (by omega) (by omega) (olq (old (Or.inl h69))) q5
              | exact ih (j + 1) _ _ _ _ (by omega) (by omega) (olq (old (Or.inr ⟨h73, Int32.not_lt.mpr h80⟩))) q5
              | (obtain ⟨q, hq, hq1, hq2⟩ := new h69 (by first | exact Or.inl h73 | exact Or.inr (Int32.not_le.mp h80))
                 exact ih (j + 1) _ _ _ _ (by omega) (by omega) (Or.inr ⟨j + 1, q, by omega, hq, hq1, rfl, hq2⟩) q5)
          · refine r_iload rfl rfl ?_
            refine r_iload rfl rfl ?_
            refine r_icmp_ge rfl (fun h80 => ?_) (fun h80 => ?_)
            · refine r_iinc (L2 := [_, _, _, _, _, _, _]) rfl rfl rfl ?_
              refine r_goto rfl ?_
              rw [nI_1]
              first
                | exact ih (j + 1) _ _ _ _ (by omega) (by omega) (olq (old (Or.inl h69))) q5
                | exact ih (j + 1) _ _ _ _ (by omega) (by omega) (olq (old (Or.inr ⟨h73, Int32.not_lt.mpr h80⟩))) q5
                | (obtain ⟨q, hq, hq1, hq2⟩ := new h69 (by first | exact Or.inl h73 | exact Or.inr (Int32.not_le.mp h80))
                   exact ih (j + 1) _ _ _ _ (by omega) (by omega) (Or.inr ⟨j + 1, q, by omega, hq, hq1, rfl, hq2⟩) q5)
            · refine r_iload rfl rfl ?_
              refine r_istore_n (L2 := [_, _, _, _, _, _, _]) rfl rfl ?_
              refine r_iload rfl rfl ?_
              refine r_istore (L2 := [_, _, _, _, _, _, _]) rfl rfl ?_
              refine r_iinc (L2 := [_, _, _, _, _, _, _]) rfl rfl rfl ?_
              refine r_goto rfl ?_
              rw [nI_1]
              first
                | exact ih (j + 1) _ _ _ _ (by omega) (by omega) (olq (old (Or.inl h69))) q5
                | exact ih (j + 1) _ _ _ _ (by omega) (by omega) (olq (old (Or.inr ⟨h73, Int32.not_lt.mpr h80⟩))) q5
                | (obtain ⟨q, hq, hq1, hq2⟩ := new h69 (by first | exact Or.inl h73 | exact Or.inr (Int32.not_le.mp h80))
                   exact ih (j + 1) _ _ _ _ (by omega) (by omega) (Or.inr ⟨j + 1, q, by omega, hq, hq1, rfl, hq2⟩) q5)
  refine r_aload_n rfl rfl ?_
  refine r_iconst rfl ?_
  refine r_putI rfl rfl (by decide) (by decide) rfl ?_
  try rw [hT]
  refine r_iload_n rfl rfl ?_
  refine r_i2l rfl ?_
  refine r_lconst rfl ?_
  refine r_ldc2_w rfl ?_
  refine r_callS rfl (by decide) ct_X11_in rfl rfl (am_cnt rfl) ?_
  refine r_if_eq rfl (fun h14 => ?_) (fun h14 => ?_)
  · simp only [b01_eq0, wl_m999, wg_m999, wl_m99, wg_m99, wl_m50, wg_m50, wl_m1, wg_m1, wl_0, wg_0, wl_1, wg_1, wl_2, wg_2, wl_3, wg_3, wl_4, wg_4, wl_6, wg_6, wl_9, wg_9, wl_10, wg_10, wl_11, wg_11, wl_20, wg_20, wl_48, wg_48, wl_50, wg_50, wl_57, wg_57, wl_99, wg_99, wl_100, wg_100, wl_199, wg_199, wl_222, wg_222, wl_999, wg_999, wl_9999, wg_9999, fa_wide_le] at h14
    exact absurd c1 h14
  · refine r_iload_n rfl rfl ?_
    refine r_i2l rfl ?_
    refine r_lconst rfl ?_
    refine r_ldc2_w rfl ?_
    refine r_callS rfl (by decide) ct_X11_in rfl rfl (am_cnt rfl) ?_
    refine r_if_ne rfl (fun h26 => ?_) (fun h26 => ?_)
    · refine r_bipush rfl ?_
      refine r_istore_n (L2 := [_, _, _, _, _, _, _]) rfl rfl ?_
      refine r_iconst rfl ?_
      refine r_istore (L2 := [_, _, _, _, _, _, _]) rfl rfl ?_
      refine r_iconst rfl ?_
      refine r_istore (L2 := [_, _, _, _, _, _, _]) rfl rfl ?_
      exact loop 21 0 T _ _ none (by omega) (by omega) (Or.inl ⟨rfl, rfl, rfl⟩) plOnly_0
    · simp only [b01_eq0, wl_m999, wg_m999, wl_m99, wg_m99, wl_m50, wg_m50, wl_m1, wg_m1, wl_0, wg_0, wl_1, wg_1, wl_2, wg_2, wl_3, wg_3, wl_4, wg_4, wl_6, wg_6, wl_9, wg_9, wl_10, wg_10, wl_11, wg_11, wl_20, wg_20, wl_48, wg_48, wl_50, wg_50, wl_57, wg_57, wl_99, wg_99, wl_100, wg_100, wl_199, wg_199, wl_222, wg_222, wl_999, wg_999, wl_9999, wg_9999, fa_wide_le] at h26
      exact absurd hx h26
