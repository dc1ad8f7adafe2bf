/-! The best of all; answers by turns; what they tell, of the reference. -/
def b2v (m : Pay) (k : Nat) : Int := smZ m (ru (k / 27)) (ru (k % 27))
def b2I (m : Pay) : Nat → Nat
  | 0 => 0
  | n + 1 => if b2v m (b2I m n) < b2v m (n + 1) then n + 1 else b2I m n
theorem b2I_le (m : Pay) : ∀ n, b2I m n ≤ n
  | 0 => Nat.le_refl _
  | n + 1 => by
    unfold b2I
    have := b2I_le m n
    split <;> omega
theorem b2v_ok {m : Pay} (hB : Bd m) {k : Nat} (h : k < 729) : okZ (b2v m k) := sm_ok hB (ru_lt (by omega)) (ru_lt (by omega))
def Bt (m : Pay) (n : Nat) (g : Int32) (x : Int) (T : am_S) : Prop := (g = 0 ∧ n = 0) ∨ (¬ g = 0 ∧ 1 ≤ n ∧ x = b2v m (b2I m (n - 1)) ∧ gI T 97 40 = nI (rno (b2I m (n - 1) / 27)) ∧ gI T 97 41 = nI (rno (b2I m (n - 1) % 27)))
theorem bt_ok {m : Pay} {n : Nat} {g : Int32} {x : Int} {T : am_S} (hB : Bd m) (hn : n ≤ 729) (h : Bt m n g x T) (hg : ¬ g = 0) : okZ x := by
  rcases h with ⟨a, _⟩ | ⟨_, a, b, _⟩
  · exact absurd a hg
  · rw [b]
    have := b2I_le m (n - 1)
    exact b2v_ok hB (by omega)
theorem bt_set {m : Pay} {n : Nat} {g : Int32} {x : Int} {T U : am_S} (h : Bt m n g x T) (hs : g = 0 ∨ x < b2v m n) (h1 : gI U 97 40 = nI (rno (n / 27))) (h2 : gI U 97 41 = nI (rno (n % 27))) : Bt m (n + 1) 1 (b2v m n) U := by
  have e : b2I m n = n := by
    rcases h with ⟨a, b⟩ | ⟨a, b, c, _⟩
    · rw [b]; rfl
    · obtain ⟨k, rfl⟩ : ∃ k, n = k + 1 := ⟨n - 1, by omega⟩
      rcases hs with hs | hs
      · exact absurd hs a
      · rw [c, Nat.add_sub_cancel] at hs
        rw [b2I, if_pos hs]
  refine Or.inr ⟨by decide, by omega, ?_, ?_, ?_⟩ <;> rw [Nat.add_sub_cancel, e]
  · exact h1
  · exact h2
theorem bt_keep {m : Pay} {n : Nat} {g : Int32} {x : Int} {T U : am_S} (h : Bt m n g x T) (hg : ¬ g = 0) (hs : ¬ x < b2v m n) (hU : gI U 97 = gI T 97) : Bt m (n + 1) g x U := by
  rcases h with ⟨a, b⟩ | ⟨a, b, c, e, f⟩
  · exact absurd a hg
  · obtain ⟨k, rfl⟩ : ∃ k, n = k + 1 := ⟨n - 1, by omega⟩
    rw [Nat.add_sub_cancel] at c e f
    rw [c] at hs
    have e2 : b2I m (k + 1) = b2I m k := by rw [b2I, if_neg hs]
    refine Or.inr ⟨a, by omega, ?_, ?_, ?_⟩ <;> rw [Nat.add_sub_cancel, e2]
    · exact c
    · rw [hU]; exact e
    · rw [hU]; exact f
theorem dgt_rno {k : Nat} (h : k < 27) : dgt (rno k) = ru k := funext (rno_d h)
theorem ct_X11_bestOfTwo {d : Nat} {S : am_S} {m : Pay} (hM : PyM m S) (hB : Bd m) : am_CE (d + 6) iX11_bestOfTwo [.ref 97] S (some (.long (iJ (b2v m (b2I m 728))))) (fun T => FrN S T ∧ gI T 97 40 = nI (rno (b2I m 728 / 27)) ∧ gI T 97 41 = nI (rno (b2I m 728 % 27))) := by
  refine am_CE_in mmX11_bestOfTwo rfl rfl rfl ?_
  have loop : ∀ (k : Nat) (i : Nat) (T : am_S) (g : Int32) (x : Int) (v5 : Option Value) (v6 : Option Value) (v7 : Option Value), (i ≤ 27) → (27 < i + k) → (FrN S T) → (Bt m (27 * i) g x T) → am_Ex (am_Call am_MT (d + 5)) mmX11_bestOfTwo none (fun r1 G1 => r1 = (some (.long (iJ (b2v m (b2I m 728))))) ∧ ∃ S2, G1 = am_H S2 ∧ (fun T => FrN S T ∧ gI T 97 40 = nI (rno (b2I m 728 / 27)) ∧ gI T 97 41 = nI (rno (b2I m 728 % 27))) S2) (fun _ _ _ _ _ _ => False) 7 [some (.ref 97), some (.int g), some (.long (iJ x)), none, some (.int (nI i)), v5, v6, v7] [] (am_H (T)) 0 0 := by
    intro k
    induction k with
    | zero =>
      intro i T g x v5 v6 v7 q1 q2 f1 f2
      omega
    | succ k ih =>
      intro i T g x v5 v6 v7 q1 q2 f1 f2
      have loop2 : ∀ (k2 : Nat) (j : Nat) (U : am_S) (g : Int32) (x : Int) (v6 : Option Value) (v7 : Option Value), (i < 27) → (j ≤ 27) → (27 < j + k2) → (FrN S U) → (Bt m (27 * i + j) g x U) → am_Ex (am_Call am_MT (d + 5)) mmX11_bestOfTwo none (fun r1 G1 => r1 = (some (.long (iJ (b2v m (b2I m 728))))) ∧ ∃ S2, G1 = am_H S2 ∧ (fun T => FrN S T ∧ gI T 97 40 = nI (rno (b2I m 728 / 27)) ∧ gI T 97 41 = nI (rno (b2I m 728 % 27))) S2) (fun _ _ _ _ _ _ => False) 17 [some (.ref 97), some (.int g), some (.long (iJ x)), none, some (.int (nI i)), some (.int (nI j)), v6, v7] [] (am_H (U)) 0 0 := by
        intro k2
        induction k2 with
        | zero =>
          intro j U g x v6 v7 q0 p1 p2 g1 g2
          omega
        | succ k2 ih2 =>
          intro j U g x v6 v7 q0 p1 p2 g1 g2
          have vv : j < 27 → smZ m (dgt (rno i)) (dgt (rno j)) = b2v m (27 * i + j) := fun hj => by
            rw [dgt_rno q0, dgt_rno hj, b2v, show (27 * i + j) / 27 = i by omega, show (27 * i + j) % 27 = j by omega]
          have vo : j < 27 → okZ (b2v m (27 * i + j)) := fun hj => b2v_ok hB (by omega)
          refine r_iload rfl rfl ?_
          refine r_bipush rfl ?_
          refine r_icmp_ge rfl (fun h21 => ?_) (fun h21 => ?_)
          · have hj : j = 27 := by
              rw [show (27 : Int32) = nI 27 from rfl, nI_leI (by omega) (by omega)] at h21
              omega
            subst hj
            refine r_iinc (L2 := [_, _, _, _, _, _, _, _]) rfl rfl rfl ?_
            refine r_goto rfl ?_
            rw [nI_1]
            exact ih (i + 1) U _ _ _ _ _ (by omega) (by omega) g1 g2
          · have hj : j < 27 := by
              rw [show (27 : Int32) = nI 27 from rfl, nI_leI (by omega) (by omega)] at h21
              omega
            have vv2 := vv hj
            have vo2 := vo hj
            refine r_aload_n rfl rfl ?_
            refine r_iload rfl rfl ?_
            refine r_callS rfl (by decide) (ct_X11_ruleAt q0) rfl rfl (am_cnt rfl) ?_
            refine r_iload rfl rfl ?_
            refine r_callS rfl (by decide) (ct_X11_ruleAt hj) rfl rfl (am_cnt rfl) ?_
            refine r_callVE rfl (ct_X11_worthOf (pyM_N hM g1) (by rw [dgt_rno q0]; exact ru_lt q0) (by rw [dgt_rno hj]; exact ru_lt hj) (rno_lt q0) (rno_lt hj)) rfl rfl rfl (by decide) rfl (am_cnt rfl) (fun V hV => ?_)
            rw [vv2]
            refine r_lstore (L2 := [_, _, _, _, _, _, _, _]) rfl rfl ?_
            refine r_iload_n rfl rfl ?_
            refine r_if_eq rfl (fun h41 => ?_) (fun h41 => ?_)
            · have hs : g = 0 ∨ x < b2v m (27 * i + j) := Or.inl h41
              refine r_iconst rfl ?_
              refine r_istore_n (L2 := [_, _, _, _, _, _, _, _]) rfl rfl ?_
              refine r_lload rfl rfl ?_
              refine r_lstore_n (L2 := [_, _, _, _, _, _, _, _]) rfl rfl ?_
              refine r_aload_n rfl rfl ?_
              refine r_iload rfl rfl ?_
              refine r_callS rfl (by decide) (ct_X11_ruleAt q0) rfl rfl (am_cnt rfl) ?_
              refine r_putI rfl rfl (by decide) (by decide) rfl ?_
              refine r_aload_n rfl rfl ?_
              refine r_iload rfl rfl ?_
              refine r_callS rfl (by decide) (ct_X11_ruleAt hj) rfl rfl (am_cnt rfl) ?_
              refine r_putI rfl rfl (by decide) (by decide) rfl ?_
              refine r_iinc (L2 := [_, _, _, _, _, _, _, _]) rfl rfl rfl ?_
              refine r_goto rfl ?_
              rw [nI_1]
              first
              | exact ih2 (j + 1) _ _ _ _ _ q0 (by omega) (by omega) (frN_D g1 hV) (bt_keep g2 h41 hs (hV.1 97 (by decide) (by decide)))
              | exact ih2 (j + 1) _ _ _ _ _ q0 (by omega) (by omega) (frN_uI (frN_uI (frN_D g1 hV) (by decide)) (by decide)) (bt_set (n := 27 * i + j) g2 hs (by rw [show (27 * i + j) / 27 = i by omega]; simp [gI_uI]) (by rw [show (27 * i + j) % 27 = j by omega]; simp [gI_uI]))
            · refine r_lload rfl rfl ?_
              refine r_lload_n rfl rfl ?_
              refine r_lcmp rfl ?_
              refine r_if_le rfl (fun h48 => ?_) (fun h48 => ?_)
              · rw [lc_le, iJ_le vo2 (bt_ok hB (by omega) g2 h41)] at h48
                have hs : ¬ x < b2v m (27 * i + j) := Int.not_lt.mpr h48
                refine r_iinc (L2 := [_, _, _, _, _, _, _, _]) rfl rfl rfl ?_
                refine r_goto rfl ?_
                rw [nI_1]
                first
                | exact ih2 (j + 1) _ _ _ _ _ q0 (by omega) (by omega) (frN_D g1 hV) (bt_keep g2 h41 hs (hV.1 97 (by decide) (by decide)))
                | exact ih2 (j + 1) _ _ _ _ _ q0 (by omega) (by omega) (frN_uI (frN_uI (frN_D g1 hV) (by decide)) (by decide)) (bt_set (n := 27 * i + j) g2 hs (by rw [show (27 * i + j) / 27 = i by omega]; simp [gI_uI]) (by rw [show (27 * i + j) % 27 = j by omega]; simp [gI_uI]))
              · rw [lc_le, iJ_le vo2 (bt_ok hB (by omega) g2 h41)] at h48
                have hs : g = 0 ∨ x < b2v m (27 * i + j) := Or.inr (Int.not_le.mp h48)
                refine r_iconst rfl ?_
                refine r_istore_n (L2 := [_, _, _, _, _, _, _, _]) rfl rfl ?_
                refine r_lload rfl rfl ?_
                refine r_lstore_n (L2 := [_, _, _, _, _, _, _, _]) rfl rfl ?_
                refine r_aload_n rfl rfl ?_
                refine r_iload rfl rfl ?_
                refine r_callS rfl (by decide) (ct_X11_ruleAt q0) rfl rfl (am_cnt rfl) ?_
                refine r_putI rfl rfl (by decide) (by decide) rfl ?_
                refine r_aload_n rfl rfl ?_
                refine r_iload rfl rfl ?_
                refine r_callS rfl (by decide) (ct_X11_ruleAt hj) rfl rfl (am_cnt rfl) ?_
                refine r_putI rfl rfl (by decide) (by decide) rfl ?_
                refine r_iinc (L2 := [_, _, _, _, _, _, _, _]) rfl rfl rfl ?_
                refine r_goto rfl ?_
                rw [nI_1]
                first
                | exact ih2 (j + 1) _ _ _ _ _ q0 (by omega) (by omega) (frN_D g1 hV) (bt_keep g2 h41 hs (hV.1 97 (by decide) (by decide)))
                | exact ih2 (j + 1) _ _ _ _ _ q0 (by omega) (by omega) (frN_uI (frN_uI (frN_D g1 hV) (by decide)) (by decide)) (bt_set (n := 27 * i + j) g2 hs (by rw [show (27 * i + j) / 27 = i by omega]; simp [gI_uI]) (by rw [show (27 * i + j) % 27 = j by omega]; simp [gI_uI]))
      refine r_iload rfl rfl ?_
      refine r_bipush rfl ?_
      refine r_icmp_ge rfl (fun h11 => ?_) (fun h11 => ?_)
      · have hi : i = 27 := by
          rw [show (27 : Int32) = nI 27 from rfl, nI_leI (by omega) (by omega)] at h11
          omega
        subst hi
        refine r_lload_n rfl rfl ?_
        refine r_lret rfl ?_
        rcases f2 with ⟨_, b⟩ | ⟨_, _, c, e, f⟩
        · omega
        · rw [c]
          exact ⟨rfl, _, rfl, f1, e, f⟩
      · have hi : i < 27 := by
          rw [show (27 : Int32) = nI 27 from rfl, nI_leI (by omega) (by omega)] at h11
          omega
        refine r_iconst rfl ?_
        refine r_istore (L2 := [_, _, _, _, _, _, _, _]) rfl rfl ?_
        exact loop2 28 0 T _ _ _ _ hi (by omega) (by omega) f1 f2
  refine r_iconst rfl ?_
  refine r_istore_n (L2 := [_, _, _, _, _, _, _, _]) rfl rfl ?_
  refine r_lconst rfl ?_
  refine r_lstore_n (L2 := [_, _, _, _, _, _, _, _]) rfl rfl ?_
  refine r_iconst rfl ?_
  refine r_istore (L2 := [_, _, _, _, _, _, _, _]) rfl rfl ?_
  exact loop 28 0 S 0 0 none none none (by omega) (by omega) frN_0 (Or.inl ⟨rfl, rfl⟩)
def elL (S : am_S) (f : Nat → Int64) : Nat → am_S
  | 0 => uI S 97 1 0
  | n + 1 => eAdd (elL S f n) (f n) n
theorem elL_n {S : am_S} {f : Nat → Int64} : ∀ n, gI (elL S f n) 97 1 = nI n
  | 0 => by
    rw [elL, gI_uI, if_pos rfl, if_pos rfl]
    rfl
  | n + 1 => by rw [elL, eAdd_n]
theorem elL_97 {S : am_S} {f : Nat → Int64} {k : Nat} (h : k ≠ 1) : ∀ n, gI (elL S f n) 97 k = gI S 97 k
  | 0 => by rw [elL, gI_uI, if_pos rfl, if_neg h]
  | n + 1 => by rw [elL, eAdd_97 h, elL_97 h n]
def bs6M (m : Pay) (a : Nat) : Int64 := (nI (if a < 3 then ru (b2I m 728 / 27) a else ru (b2I m 728 % 27) (a - 3))).toInt64
theorem ct_X11_two {d : Nat} {S T : am_S} {m : Pay} (hT : uI S 97 0 0 = T) (hM : PyM m T) (hB : Bd m) : am_CE (d + 7) iX11_two [.ref 97] S (some (.long (iJ (b2v m (b2I m 728))))) (fun U => ∃ T1, FrN T T1 ∧ U = elL T1 (bs6M m) 6) := by
  refine am_CE_in mmX11_two rfl rfl rfl ?_
  have l1 := b2I_le m 728
  have r1 : b2I m 728 / 27 < 27 := by omega
  have r2 : b2I m 728 % 27 < 27 := by omega
  have loop2 : ∀ (k2 : Nat) (j : Nat) (T1 : am_S), (j ≤ 3) → (3 < j + k2) → (FrN T T1) → (gI T1 97 40 = nI (rno (b2I m 728 / 27)) ∧ gI T1 97 41 = nI (rno (b2I m 728 % 27))) → am_Ex (am_Call am_MT (d + 6)) mmX11_two none (fun r1 G1 => r1 = (some (.long (iJ (b2v m (b2I m 728))))) ∧ ∃ S2, G1 = am_H S2 ∧ (fun U => ∃ T1, FrN T T1 ∧ U = elL T1 (bs6M m) 6) S2) (fun _ _ _ _ _ _ => False) 43 [some (.ref 97), some (.long (iJ (b2v m (b2I m 728)))), none, some (.int (nI j))] [] (am_H (elL T1 (bs6M m) (3 + j))) 0 0 := by
    intro k2
    induction k2 with
    | zero =>
      intro j T1 q1 q2 f1 f2
      omega
    | succ k2 ih2 =>
      intro j T1 q1 q2 f1 f2
      have v1 : j < 3 → (nI (dgt (rno (b2I m 728 % 27)) j)).toInt64 = bs6M m (3 + j) := fun h => by
        rw [rno_d r2, bs6M, if_neg (by omega), show 3 + j - 3 = j by omega]
      have v2 : gI (elL T1 (bs6M m) (3 + j)) 97 41 = nI (rno (b2I m 728 % 27)) := by rw [elL_97 (by decide), f2.2]
      refine r_iload_n rfl rfl ?_
      refine r_iconst rfl ?_
      refine r_icmp_ge rfl (fun h45 => ?_) (fun h45 => ?_)
      · have hj : j = 3 := by
          rw [show (3 : Int32) = nI 3 from rfl, nI_leI (by omega) (by omega)] at h45
          omega
        subst hj
        refine r_lload_n rfl rfl ?_
        refine r_lret rfl ?_
        exact ⟨rfl, _, rfl, T1, f1, rfl⟩
      · have hj : j < 3 := by
          rw [show (3 : Int32) = nI 3 from rfl, nI_leI (by omega) (by omega)] at h45
          omega
        refine r_aload_n rfl rfl ?_
        refine r_aload_n rfl rfl ?_
        refine r_getI rfl rfl (by decide) (by decide) rfl ?_
        rw [v2]
        refine r_iload_n rfl rfl ?_
        refine r_callS rfl (by decide) (ct_X11_thingOf (rno_lt r2) hj) rfl rfl (am_cnt rfl) ?_
        refine r_i2l rfl ?_
        rw [v1 hj]
        refine r_callV rfl (ct_X11_enters (elL_n (3 + j)) (by omega)) rfl rfl rfl (by decide) rfl (am_cnt rfl) ?_
        refine r_iinc (L2 := [_, _, _, _]) rfl rfl rfl ?_
        refine r_goto rfl ?_
        rw [nI_1]
        exact ih2 (j + 1) T1 (by omega) (by omega) f1 f2
  have loop : ∀ (k : Nat) (j : Nat) (T1 : am_S), (j ≤ 3) → (3 < j + k) → (FrN T T1) → (gI T1 97 40 = nI (rno (b2I m 728 / 27)) ∧ gI T1 97 41 = nI (rno (b2I m 728 % 27))) → am_Ex (am_Call am_MT (d + 6)) mmX11_two none (fun r1 G1 => r1 = (some (.long (iJ (b2v m (b2I m 728))))) ∧ ∃ S2, G1 = am_H S2 ∧ (fun U => ∃ T1, FrN T T1 ∧ U = elL T1 (bs6M m) 6) S2) (fun _ _ _ _ _ _ => False) 17 [some (.ref 97), some (.long (iJ (b2v m (b2I m 728)))), none, some (.int (nI j))] [] (am_H (elL T1 (bs6M m) j)) 0 0 := by
    intro k
    induction k with
    | zero =>
      intro j T1 q1 q2 f1 f2
      omega
    | succ k ih =>
      intro j T1 q1 q2 f1 f2
      have v1 : j < 3 → (nI (dgt (rno (b2I m 728 / 27)) j)).toInt64 = bs6M m j := fun h => by
        rw [rno_d r1, bs6M, if_pos h]
      have v2 : gI (elL T1 (bs6M m) j) 97 40 = nI (rno (b2I m 728 / 27)) := by rw [elL_97 (by decide), f2.1]
      refine r_iload_n rfl rfl ?_
      refine r_iconst rfl ?_
      refine r_icmp_ge rfl (fun h19 => ?_) (fun h19 => ?_)
      · have hj : j = 3 := by
          rw [show (3 : Int32) = nI 3 from rfl, nI_leI (by omega) (by omega)] at h19
          omega
        subst hj
        refine r_iconst rfl ?_
        refine r_istore_n (L2 := [_, _, _, _]) rfl rfl ?_
        exact loop2 4 0 T1 (by omega) (by omega) f1 f2
      · have hj : j < 3 := by
          rw [show (3 : Int32) = nI 3 from rfl, nI_leI (by omega) (by omega)] at h19
          omega
        refine r_aload_n rfl rfl ?_
        refine r_aload_n rfl rfl ?_
        refine r_getI rfl rfl (by decide) (by decide) rfl ?_
        rw [v2]
        refine r_iload_n rfl rfl ?_
        refine r_callS rfl (by decide) (ct_X11_thingOf (rno_lt r1) hj) rfl rfl (am_cnt rfl) ?_
        refine r_i2l rfl ?_
        rw [v1 hj]
        refine r_callV rfl (ct_X11_enters (elL_n j) (by omega)) rfl rfl rfl (by decide) rfl (am_cnt rfl) ?_
        refine r_iinc (L2 := [_, _, _, _]) rfl rfl rfl ?_
        refine r_goto rfl ?_
        rw [nI_1]
        exact ih (j + 1) T1 (by omega) (by omega) f1 f2
  refine r_aload_n rfl rfl ?_
  refine r_iconst rfl ?_
  refine r_putI rfl rfl (by decide) (by decide) rfl ?_
  try rw [hT]
  refine r_aload_n rfl rfl ?_
  refine r_callVE rfl (ct_X11_bestOfTwo hM hB) rfl rfl rfl (by decide) rfl (am_cnt rfl) (fun U hU => ?_)
  refine r_lstore_n (L2 := [_, _, _, _]) rfl rfl ?_
  refine r_aload_n rfl rfl ?_
  refine r_iconst rfl ?_
  refine r_putI rfl rfl (by decide) (by decide) rfl ?_
  refine r_iconst rfl ?_
  refine r_istore_n (L2 := [_, _, _, _]) rfl rfl ?_
  exact loop 4 0 U (by omega) (by omega) hU.1 hU.2
theorem ct_X11_partOf_one {d : Nat} {S : am_S} {m : Pay} {y : Nat → Nat} {s t R : Nat} (hM : PyM m S) (hR : R < 1000) (hy : ∀ i, i < 3 → dgt R i = y i ∧ y i < 3) (hs : s < 3) (ht : t < 3) : am_CE (d + 5) iX11_partOf [.ref 97, .int 0, .int (nI s), .int (nI t), .int (nI R)] S (some (.long (iJ (br1 m y s t)))) (fun T => FrD S T) := by
  refine am_CE_in mmX11_partOf rfl rfl rfl ?_
  have loop : ∀ (k : Nat) (k2 : Nat) (T : am_S), (k2 ≤ 3) → (3 < k2 + k) → (FrD S T) → am_Ex (am_Call am_MT (d + 4)) mmX11_partOf none (fun r1 G1 => r1 = (some (.long (iJ (br1 m y s t)))) ∧ ∃ S2, G1 = am_H S2 ∧ (fun T => FrD S T) S2) (fun _ _ _ _ _ _ => False) 6 [some (.ref 97), some (.int 0), some (.int (nI s)), some (.int (nI t)), some (.int (nI R)), some (.long (iJ (sumZ (fun k => m s k t (y k)) k2))), none, some (.int (nI k2))] [] (am_H (T)) 0 0 := by
    intro k
    induction k with
    | zero =>
      intro k2 T q1 q2 f1
      omega
    | succ k ih =>
      intro k2 T q1 q2 f1
      refine r_iload rfl rfl ?_
      refine r_iconst rfl ?_
      refine r_icmp_ge rfl (fun h9 => ?_) (fun h9 => ?_)
      · have hk : k2 = 3 := by
          rw [show (3 : Int32) = nI 3 from rfl, nI_leI (by omega) (by omega)] at h9
          omega
        subst hk
        refine r_lload rfl rfl ?_
        refine r_lret rfl ?_
        exact ⟨rfl, _, rfl, f1⟩
      · have hk : k2 < 3 := by
          rw [show (3 : Int32) = nI 3 from rfl, nI_leI (by omega) (by omega)] at h9
          omega
        refine r_lload rfl rfl ?_
        refine r_iload_n rfl rfl ?_
        refine r_if_ne rfl (fun h15 => ?_) (fun h15 => ?_)
        · exact absurd rfl h15
        · refine r_aload_n rfl rfl ?_
          refine r_iload_n rfl rfl ?_
          refine r_iload rfl rfl ?_
          refine r_iload_n rfl rfl ?_
          refine r_iload rfl rfl ?_
          refine r_iload rfl rfl ?_
          refine r_callS rfl (by decide) (ct_X11_thingOf hR hk) rfl rfl (am_cnt rfl) ?_
          rw [(hy k2 hk).1]
          refine r_callVE rfl (ct_X11_worth (pyM_D hM f1) hs hk ht (hy k2 hk).2) rfl rfl rfl (by decide) rfl (am_cnt rfl) (fun V hV => ?_)
          refine r_goto rfl ?_
          refine r_ladd rfl ?_
          refine r_lstore (L2 := [_, _, _, _, _, _, _, _]) rfl rfl ?_
          refine r_iinc (L2 := [_, _, _, _, _, _, _, _]) rfl rfl rfl ?_
          refine r_goto rfl ?_
          rw [iJ_add, nI_1]
          exact ih (k2 + 1) V (by omega) (by omega) (frD_tt f1 hV)
  refine r_lconst rfl ?_
  refine r_lstore (L2 := [_, _, _, _, _, _, _, _]) rfl rfl ?_
  refine r_iconst rfl ?_
  refine r_istore (L2 := [_, _, _, _, _, _, _, _]) rfl rfl ?_
  exact loop 4 0 S (by omega) (by omega) frD_0
theorem ct_X11_partOf_other {d : Nat} {S : am_S} {m : Pay} {x : Nat → Nat} {s t R : Nat} (hM : PyM m S) (hR : R < 1000) (hy : ∀ i, i < 3 → dgt R i = x i ∧ x i < 3) (hs : s < 3) (ht : t < 3) : am_CE (d + 5) iX11_partOf [.ref 97, .int 1, .int (nI s), .int (nI t), .int (nI R)] S (some (.long (iJ (br2 m x s t)))) (fun T => FrD S T) := by
  refine am_CE_in mmX11_partOf rfl rfl rfl ?_
  have loop : ∀ (k : Nat) (k2 : Nat) (T : am_S), (k2 ≤ 3) → (3 < k2 + k) → (FrD S T) → am_Ex (am_Call am_MT (d + 4)) mmX11_partOf none (fun r1 G1 => r1 = (some (.long (iJ (br2 m x s t)))) ∧ ∃ S2, G1 = am_H S2 ∧ (fun T => FrD S T) S2) (fun _ _ _ _ _ _ => False) 6 [some (.ref 97), some (.int 1), some (.int (nI s)), some (.int (nI t)), some (.int (nI R)), some (.long (iJ (sumZ (fun k => m k s (x k) t) k2))), none, some (.int (nI k2))] [] (am_H (T)) 0 0 := by
    intro k
    induction k with
    | zero =>
      intro k2 T q1 q2 f1
      omega
    | succ k ih =>
      intro k2 T q1 q2 f1
      refine r_iload rfl rfl ?_
      refine r_iconst rfl ?_
      refine r_icmp_ge rfl (fun h9 => ?_) (fun h9 => ?_)
      · have hk : k2 = 3 := by
          rw [show (3 : Int32) = nI 3 from rfl, nI_leI (by omega) (by omega)] at h9
          omega
        subst hk
        refine r_lload rfl rfl ?_
        refine r_lret rfl ?_
        exact ⟨rfl, _, rfl, f1⟩
      · have hk : k2 < 3 := by
          rw [show (3 : Int32) = nI 3 from rfl, nI_leI (by omega) (by omega)] at h9
          omega
        refine r_lload rfl rfl ?_
        refine r_iload_n rfl rfl ?_
        refine r_if_ne rfl (fun h15 => ?_) (fun h15 => ?_)
        · refine r_aload_n rfl rfl ?_
          refine r_iload rfl rfl ?_
          refine r_iload_n rfl rfl ?_
          refine r_iload rfl rfl ?_
          refine r_iload rfl rfl ?_
          refine r_callS rfl (by decide) (ct_X11_thingOf hR hk) rfl rfl (am_cnt rfl) ?_
          rw [(hy k2 hk).1]
          refine r_iload_n rfl rfl ?_
          refine r_callVE rfl (ct_X11_worth (pyM_D hM f1) hk hs (hy k2 hk).2 ht) rfl rfl rfl (by decide) rfl (am_cnt rfl) (fun V hV => ?_)
          refine r_ladd rfl ?_
          refine r_lstore (L2 := [_, _, _, _, _, _, _, _]) rfl rfl ?_
          refine r_iinc (L2 := [_, _, _, _, _, _, _, _]) rfl rfl rfl ?_
          refine r_goto rfl ?_
          rw [iJ_add, nI_1]
          exact ih (k2 + 1) V (by omega) (by omega) (frD_tt f1 hV)
        · first | exact absurd h15 (by decide) | exact absurd (by decide) h15
  refine r_lconst rfl ?_
  refine r_lstore (L2 := [_, _, _, _, _, _, _, _]) rfl rfl ?_
  refine r_iconst rfl ?_
  refine r_istore (L2 := [_, _, _, _, _, _, _, _]) rfl rfl ?_
  exact loop 4 0 S (by omega) (by omega) frD_0
