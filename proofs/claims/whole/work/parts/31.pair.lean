/-! Pairs of rules tried out; what crossed. -/
theorem ct_X10_pair_no {d : Nat} {S : am_S} {p q m : Int32} (h : ¬ (twoP S p q ∧ 1 ≤ m ∧ m ≤ 199)) : am_CT (d + 7) iX10_pair [.ref 0, .int p, .int q, .int m] S (some (.int (-1))) (S) := by
  refine am_CT_in mmX10_pair rfl rfl rfl ?_
  refine r_aload_n rfl rfl ?_
  refine r_getC rfl rfl (by decide) (by decide) rfl ?_
  refine r_iload_n rfl rfl ?_
  refine r_iload_n rfl rfl ?_
  refine r_callV rfl ct_X9_hasTwo rfl rfl rfl (by decide) rfl (am_cnt rfl) ?_
  refine r_if_eq rfl (fun h9 => ?_) (fun h9 => ?_)
  · refine r_iconst rfl ?_
    refine r_iret rfl rfl ?_
    exact ⟨rfl, rfl⟩
  · refine r_iload_n rfl rfl ?_
    refine r_iconst rfl ?_
    refine r_sipush rfl ?_
    refine r_callS rfl (by decide) ct_X10_isWithin rfl rfl (am_cnt rfl) ?_
    refine r_if_ne rfl (fun h20 => ?_) (fun h20 => ?_)
    · exfalso
      simp only [b01_eq0] at *
      grind
    · refine r_iconst rfl ?_
      refine r_iret rfl rfl ?_
      exact ⟨rfl, rfl⟩
def dgP (dg : Nat → Nat) (p q i k : Nat) : Nat → Nat := dgI (dgI dg p i) q k
/-- one pair: state, least -/
def prS (n : Nat) (dg fz : Nat → Nat) (p q m : Nat) (X : am_S × Int32) (i k : Nat) : am_S := tryS n (dgP dg p q i k) fz (uI (uI X.1 4 p (nI i)) 4 q (nI k)) 1 m
def prV (n : Nat) (dg fz : Nat → Nat) (p q m : Nat) (X : am_S × Int32) (i k : Nat) : Int32 := tryV n (dgP dg p q i k) fz (uI (uI X.1 4 p (nI i)) 4 q (nI k)) 1 m
def prX (n : Nat) (dg fz : Nat → Nat) (p q m : Nat) (X : am_S × Int32) (i k : Nat) : am_S × Int32 :=
  if 0 < fz i ∧ 0 < fz k then (if X.2 = -2 ∨ prV n dg fz p q m X i k < X.2 then (t2 (prS n dg fz p q m X i k) (nI i).toInt64 (nI k).toInt64, prV n dg fz p q m X i k) else (prS n dg fz p q m X i k, X.2)) else X
def prI (n : Nat) (dg fz : Nat → Nat) (p q m : Nat) (X : am_S × Int32) (i : Nat) : Nat → am_S × Int32
  | 0 => X
  | k + 1 => prX n dg fz p q m (prI n dg fz p q m X i k) i (2 * k)
def prO (n : Nat) (dg fz : Nat → Nat) (S : am_S) (p q m : Nat) : Nat → am_S × Int32
  | 0 => (S, -2)
  | i + 1 => prI n dg fz p q m (prO n dg fz S p q m i) (2 * i) 6
/-- up to who does what -/
def CfgAny (n : Nat) (fz : Nat → Nat) (S : am_S) : Prop := ∃ dg, CfgOk n dg fz S
def CfgBut (n : Nat) (dg fz : Nat → Nat) (p q : Nat) (S : am_S) : Prop := gI S 1 1 = nI n ∧ n ≤ 6 ∧ (∀ r, r < 6 → dg r < 12 ∧ (r ≠ p → r ≠ q → gI S 4 r = nI (dg r))) ∧ (∀ i, i < 12 → gI S (18 + 3 * i) 1 = nI (fz i) ∧ fz i ≤ 40)
theorem cfgBut_do {n : Nat} {dg fz : Nat → Nat} {p q i k : Nat} {S : am_S} (h : CfgBut n dg fz p q S) (hi : i < 12) (hk : k < 12) : CfgOk n (dgP dg p q i k) fz (uI (uI S 4 p (nI i)) 4 q (nI k)) := by
  obtain ⟨a, b, c, e⟩ := h
  refine ⟨by rw [gI_uI_ne (by decide), gI_uI_ne (by decide), a], b, fun r hr => ?_, fun j hj => ?_⟩
  · unfold dgP dgI
    by_cases hq : r = q
    · rw [if_pos hq, gI_uI, if_pos rfl, if_pos hq]
      exact ⟨rfl, hk⟩
    · rw [if_neg hq, gI_uI, if_pos rfl, if_neg hq]
      by_cases hp : r = p
      · rw [if_pos hp, gI_uI, if_pos rfl, if_pos hp]
        exact ⟨rfl, hi⟩
      · rw [if_neg hp, gI_uI, if_pos rfl, if_neg hp]
        exact ⟨(c r hr).2 hp hq, (c r hr).1⟩
  · rw [gI_uI_ne (by omega), gI_uI_ne (by omega)]
    exact e j hj
theorem cfgBut_of {n : Nat} {dg fz : Nat → Nat} {p q i k : Nat} {S : am_S} (hd : ∀ r, r < 6 → dg r < 12) (h : CfgOk n (dgP dg p q i k) fz S) : CfgBut n dg fz p q S := by
  obtain ⟨a, b, c, e⟩ := h
  refine ⟨a, b, fun r hr => ⟨hd r hr, fun hp hq => ?_⟩, e⟩
  have := (c r hr).1
  unfold dgP dgI at this
  rw [if_neg hq, if_neg hp] at this
  exact this
theorem cfgBut_t2 {n : Nat} {dg fz : Nat → Nat} {p q : Nat} {S : am_S} {x y : Int64} (h : CfgBut n dg fz p q S) : CfgBut n dg fz p q (t2 S x y) := by
  obtain ⟨a, b, c, e⟩ := h
  refine ⟨by rw [t2_ne (by decide), a], b, fun r hr => ?_, fun j hj => ?_⟩
  · rw [t2_ne (by decide)]
    exact c r hr
  · rw [t2_ne (by omega)]
    exact e j hj
theorem cfgBut_dg {n : Nat} {dg fz : Nat → Nat} {p q : Nat} {S : am_S} (h : CfgBut n dg fz p q S) : ∀ r, r < 6 → dg r < 12 := fun r hr => (h.2.2.1 r hr).1
theorem prX_but {n : Nat} {dg fz : Nat → Nat} {p q m i k : Nat} {X : am_S × Int32} (h : CfgBut n dg fz p q X.1) (hi : i < 12) (hk : k < 12) : CfgBut n dg fz p q (prX n dg fz p q m X i k).1 := by
  have e := cfgBut_of (cfgBut_dg h) (tryS_cfg (sd := 1) (m := m) (cfgBut_do h hi hk))
  unfold prX
  split
  · split
    · exact cfgBut_t2 e
    · exact e
  · exact h
theorem prI_but {n : Nat} {dg fz : Nat → Nat} {p q m i : Nat} {X : am_S × Int32} (h : CfgBut n dg fz p q X.1) (hi : i < 12) : ∀ k, k ≤ 6 → CfgBut n dg fz p q (prI n dg fz p q m X i k).1
  | 0, _ => h
  | k + 1, hk => by
    rw [prI]
    exact prX_but (prI_but h hi k (by omega)) hi (by omega)
theorem prO_but {n : Nat} {dg fz : Nat → Nat} {S : am_S} {p q m : Nat} (h : CfgOk n dg fz S) : ∀ i, i ≤ 6 → CfgBut n dg fz p q (prO n dg fz S p q m i).1
  | 0, _ => ⟨h.1, h.2.1, fun r hr => ⟨(h.2.2.1 r hr).2, fun _ _ => (h.2.2.1 r hr).1⟩, h.2.2.2⟩
  | i + 1, hi => by
    rw [prO]
    exact prI_but (prO_but h i (by omega)) (by omega) 6 (by omega)
theorem deedP_even {n : Nat} {dg fz : Nat → Nat} {p q : Nat} {S : am_S} {i : Nat} (h : CfgBut n dg fz p q S) (hi : i < 6) : deedP S (nI (2 * i)) ↔ 0 < fz (2 * i) := by
  have h2 : CfgOk n (dgP dg p q 0 0) fz (uI (uI S 4 p (nI 0)) 4 q (nI 0)) := cfgBut_do h (by omega) (by omega)
  have e := deedP_nI h2 (i := 2 * i) (by omega)
  have e2 : deedP (uI (uI S 4 p (nI 0)) 4 q (nI 0)) (nI (2 * i)) ↔ deedP S (nI (2 * i)) := by
    unfold deedP
    have : cF (nI (2 * i)) ≠ 4 := by unfold cF; omega
    rw [gI_uI_ne this, gI_uI_ne this]
  rw [← e2, e]
  constructor
  · exact fun z => z.2
  · exact fun z => ⟨by omega, z⟩
theorem ct_X10_pair_ok {d : Nat} {S : am_S} {n p q m : Nat} {dg fz : Nat → Nat} (hP : CfgOk n dg fz S) (hp : p < n) (hq : q < n) (hpq : p ≠ q) (h1 : 1 ≤ m) (hm : m ≤ 199) : am_CT (d + 7) iX10_pair [.ref 0, .int (nI p), .int (nI q), .int (nI m)] S (some (.int (prO n dg fz S p q m 6).2)) (uI (uI (prO n dg fz S p q m 6).1 4 p (nI (2 * p))) 4 q (nI (2 * q))) := by
  refine am_CT_in mmX10_pair rfl rfl rfl ?_
  have hn := hP.1
  have hz := hP.2.1
  have c1 : 1 ≤ nI m ∧ nI m ≤ 199 := ⟨nI_le (a := 1) h1 (by omega), nI_le (b := 199) hm (by omega)⟩
  have c2 : twoP S (nI p) (nI q) := ⟨hasP_nI hn hz hp, hasP_nI hn hz hq, fun z => hpq (by
    have := congrArg Int32.toNatClampNeg z
    rw [nI_clamp (by omega), nI_clamp (by omega)] at this
    exact this)⟩
  have bp : (nI p).toNatClampNeg = p := nI_clamp (by omega)
  have bq : (nI q).toNatClampNeg = q := nI_clamp (by omega)
  have s1 : 0 ≤ nI p := nI_pos' (by omega)
  have s2 : nI p < Int32.ofNat 6 := nI_lt (by omega) (by omega)
  have s3 : 0 ≤ nI q := nI_pos' (by omega)
  have s4 : nI q < Int32.ofNat 6 := nI_lt (by omega) (by omega)
  have b2 : 2 * nI p = nI (2 * p) := by rw [Int32.mul_comm, show nI p * 2 = nI (p * 2) from pk_mul p 2, Nat.mul_comm]
  have b3 : 2 * nI q = nI (2 * q) := by rw [Int32.mul_comm, show nI q * 2 = nI (q * 2) from pk_mul q 2, Nat.mul_comm]
  have n2 : ∀ a, nI a + 2 = nI (a + 2) := fun a => nI_add a 2
  have loop : ∀ (k : Nat) (i : Nat) (v6 : Option Value) (v7 : Option Value), (i ≤ 6) → (6 < i + k) → am_Ex (am_Call am_MT (d + 6)) mmX10_pair none (fun r1 G1 => r1 = (some (.int (prO n dg fz S p q m 6).2)) ∧ G1 = am_H (uI (uI (prO n dg fz S p q m 6).1 4 p (nI (2 * p))) 4 q (nI (2 * q)))) (fun _ _ _ _ _ _ => False) 32 [some (.ref 0), some (.int (nI p)), some (.int (nI q)), some (.int (nI m)), some (.int (prO n dg fz S p q m i).2), some (.int (nI (2 * i))), v6, v7] [] (am_H ((prO n dg fz S p q m i).1)) 0 0 := by
    intro k
    induction k with
    | zero =>
      intro i v6 v7 q1 q2
      omega
    | succ k ih =>
      intro i v6 v7 q1 q2
      have hO := prO_but (p := p) (q := q) (m := m) hP i q1
      have loop2 : ∀ (k2 : Nat) (j : Nat) (v7 : Option Value), (i < 6) → (j ≤ 6) → (6 < j + k2) → am_Ex (am_Call am_MT (d + 6)) mmX10_pair none (fun r1 G1 => r1 = (some (.int (prO n dg fz S p q m 6).2)) ∧ G1 = am_H (uI (uI (prO n dg fz S p q m 6).1 4 p (nI (2 * p))) 4 q (nI (2 * q)))) (fun _ _ _ _ _ _ => False) 42 [some (.ref 0), some (.int (nI p)), some (.int (nI q)), some (.int (nI m)), some (.int (prI n dg fz p q m (prO n dg fz S p q m i) (2 * i) j).2), some (.int (nI (2 * i))), some (.int (nI (2 * j))), v7] [] (am_H ((prI n dg fz p q m (prO n dg fz S p q m i) (2 * i) j).1)) 0 0 := by
        intro k2
        induction k2 with
        | zero =>
          intro j v7 q0 q3 q4
          omega
        | succ k2 ih2 =>
          intro j v7 q0 q3 q4
          have hI := prI_but (m := m) hO (i := 2 * i) (by omega) j q3
          have d1 := deedP_even hI (i := i) q0
          by_cases hj : j = 6
          · subst hj
            refine r_iload rfl rfl ?_
            refine r_bipush rfl ?_
            refine r_icmp_ge rfl (fun h46 => ?_) (fun h46 => ?_)
            · refine r_iinc (L2 := [_, _, _, _, _, _, _, _]) rfl rfl rfl ?_
              refine r_goto rfl ?_
              rw [n2]
              exact ih (i + 1) _ _ (by omega) (by omega)
            · first | exact absurd h46 (by decide) | exact absurd (by decide) h46
          · have d2 := deedP_even hI (i := j) (by omega)
            have w1 : ¬ 12 ≤ nI (2 * j) := Int32.not_le.mpr (nI_lt (b := 12) (by omega) (by omega))
            have hdo := cfgBut_do hI (i := 2 * i) (k := 2 * j) (by omega) (by omega)
            by_cases hc : 0 < fz (2 * i) ∧ 0 < fz (2 * j)
            · have x1 : prI n dg fz p q m (prO n dg fz S p q m i) (2 * i) (j + 1) = if (prI n dg fz p q m (prO n dg fz S p q m i) (2 * i) j).2 = -2 ∨ prV n dg fz p q m (prI n dg fz p q m (prO n dg fz S p q m i) (2 * i) j) (2 * i) (2 * j) < (prI n dg fz p q m (prO n dg fz S p q m i) (2 * i) j).2 then (t2 (prS n dg fz p q m (prI n dg fz p q m (prO n dg fz S p q m i) (2 * i) j) (2 * i) (2 * j)) (nI (2 * i)).toInt64 (nI (2 * j)).toInt64, prV n dg fz p q m (prI n dg fz p q m (prO n dg fz S p q m i) (2 * i) j) (2 * i) (2 * j)) else (prS n dg fz p q m (prI n dg fz p q m (prO n dg fz S p q m i) (2 * i) j) (2 * i) (2 * j), (prI n dg fz p q m (prO n dg fz S p q m i) (2 * i) j).2) := by rw [prI, prX, if_pos hc]
              refine r_iload rfl rfl ?_
              refine r_bipush rfl ?_
              refine r_icmp_ge rfl (fun h46 => ?_) (fun h46 => ?_)
              · exact absurd h46 w1
              · refine r_aload_n rfl rfl ?_
                refine r_getC rfl rfl (by decide) (by decide) rfl ?_
                refine r_iload rfl rfl ?_
                refine r_callV rfl ct_X9_isDeed rfl rfl rfl (by decide) rfl (am_cnt rfl) ?_
                refine r_if_eq rfl (fun h58 => ?_) (fun h58 => ?_)
                · exact absurd (d1.mpr hc.1) (b01_eq0.mp h58)
                · refine r_aload_n rfl rfl ?_
                  refine r_getC rfl rfl (by decide) (by decide) rfl ?_
                  refine r_iload rfl rfl ?_
                  refine r_callV rfl ct_X9_isDeed rfl rfl rfl (by decide) rfl (am_cnt rfl) ?_
                  refine r_if_eq rfl (fun h70 => ?_) (fun h70 => ?_)
                  · exact absurd (d2.mpr hc.2) (b01_eq0.mp h70)
                  · refine r_aload_n rfl rfl ?_
                    refine r_getC rfl rfl (by decide) (by decide) rfl ?_
                    refine r_getC rfl rfl (by decide) (by decide) rfl ?_
                    refine r_iload_n rfl rfl ?_
                    refine r_iload rfl rfl ?_
                    refine r_iast rfl rfl (by first | decide | assumption) (by first | exact s1 | exact s2 | exact s3 | exact s4) (by first | exact s1 | exact s2 | exact s3 | exact s4) ?_
                    rw [bp]
                    refine r_aload_n rfl rfl ?_
                    refine r_getC rfl rfl (by decide) (by decide) rfl ?_
                    refine r_getC rfl rfl (by decide) (by decide) rfl ?_
                    refine r_iload_n rfl rfl ?_
                    refine r_iload rfl rfl ?_
                    refine r_iast rfl rfl (by first | decide | assumption) (by first | exact s1 | exact s2 | exact s3 | exact s4) (by first | exact s1 | exact s2 | exact s3 | exact s4) ?_
                    rw [bq]
                    refine r_aload_n rfl rfl ?_
                    refine r_iload_n rfl rfl ?_
                    refine r_iconst rfl ?_
                    refine r_callV rfl (ct_X10_tryOut hdo hm) rfl rfl rfl (by decide) rfl (am_cnt rfl) ?_
                    refine r_istore (L2 := [_, _, _, _, _, _, _, _]) rfl rfl ?_
                    refine r_iload rfl rfl ?_
                    refine r_bipush rfl ?_
                    refine r_icmp_eq rfl (fun h107 => ?_) (fun h107 => ?_)
                    · rw [if_pos (Or.inl h107)] at x1
                      refine r_iload rfl rfl ?_
                      refine r_istore (L2 := [_, _, _, _, _, _, _, _]) rfl rfl ?_
                      refine r_aload_n rfl rfl ?_
                      refine r_getC rfl rfl (by decide) (by decide) rfl ?_
                      refine r_iload rfl rfl ?_
                      refine r_i2l rfl ?_
                      refine r_iload rfl rfl ?_
                      refine r_i2l rfl ?_
                      refine r_callV rfl ct_X7_tellTwo rfl rfl rfl (by decide) rfl (am_cnt rfl) ?_
                      refine r_iinc (L2 := [_, _, _, _, _, _, _, _]) rfl rfl rfl ?_
                      refine r_goto rfl ?_
                      rw [n2]
                      have e := ih2 (j + 1) (some (.int (prV n dg fz p q m (prI n dg fz p q m (prO n dg fz S p q m i) (2 * i) j) (2 * i) (2 * j)))) q0 (by omega) (by omega)
                      rw [x1] at e
                      exact e
                    · refine r_iload rfl rfl ?_
                      refine r_iload rfl rfl ?_
                      refine r_icmp_ge rfl (fun h114 => ?_) (fun h114 => ?_)
                      · rw [if_neg (fun z => z.elim h107 (Int32.not_lt.mpr h114))] at x1
                        refine r_iinc (L2 := [_, _, _, _, _, _, _, _]) rfl rfl rfl ?_
                        refine r_goto rfl ?_
                        rw [n2]
                        have e := ih2 (j + 1) (some (.int (prV n dg fz p q m (prI n dg fz p q m (prO n dg fz S p q m i) (2 * i) j) (2 * i) (2 * j)))) q0 (by omega) (by omega)
                        rw [x1] at e
                        exact e
                      · rw [if_pos (show (prI n dg fz p q m (prO n dg fz S p q m i) (2 * i) j).2 = -2 ∨ prV n dg fz p q m (prI n dg fz p q m (prO n dg fz S p q m i) (2 * i) j) (2 * i) (2 * j) < (prI n dg fz p q m (prO n dg fz S p q m i) (2 * i) j).2 from Or.inr (Int32.not_le.mp h114))] at x1
                        refine r_iload rfl rfl ?_
                        refine r_istore (L2 := [_, _, _, _, _, _, _, _]) rfl rfl ?_
                        refine r_aload_n rfl rfl ?_
                        refine r_getC rfl rfl (by decide) (by decide) rfl ?_
                        refine r_iload rfl rfl ?_
                        refine r_i2l rfl ?_
                        refine r_iload rfl rfl ?_
                        refine r_i2l rfl ?_
                        refine r_callV rfl ct_X7_tellTwo rfl rfl rfl (by decide) rfl (am_cnt rfl) ?_
                        refine r_iinc (L2 := [_, _, _, _, _, _, _, _]) rfl rfl rfl ?_
                        refine r_goto rfl ?_
                        rw [n2]
                        have e := ih2 (j + 1) (some (.int (prV n dg fz p q m (prI n dg fz p q m (prO n dg fz S p q m i) (2 * i) j) (2 * i) (2 * j)))) q0 (by omega) (by omega)
                        rw [x1] at e
                        exact e
            · have x1 : prI n dg fz p q m (prO n dg fz S p q m i) (2 * i) (j + 1) = prI n dg fz p q m (prO n dg fz S p q m i) (2 * i) j := by rw [prI, prX, if_neg hc]
              refine r_iload rfl rfl ?_
              refine r_bipush rfl ?_
              refine r_icmp_ge rfl (fun h46 => ?_) (fun h46 => ?_)
              · exact absurd h46 w1
              · refine r_aload_n rfl rfl ?_
                refine r_getC rfl rfl (by decide) (by decide) rfl ?_
                refine r_iload rfl rfl ?_
                refine r_callV rfl ct_X9_isDeed rfl rfl rfl (by decide) rfl (am_cnt rfl) ?_
                refine r_if_eq rfl (fun h58 => ?_) (fun h58 => ?_)
                · refine r_iinc (L2 := [_, _, _, _, _, _, _, _]) rfl rfl rfl ?_
                  refine r_goto rfl ?_
                  rw [n2]
                  have e := ih2 (j + 1) v7 q0 (by omega) (by omega)
                  rw [x1] at e
                  exact e
                · refine r_aload_n rfl rfl ?_
                  refine r_getC rfl rfl (by decide) (by decide) rfl ?_
                  refine r_iload rfl rfl ?_
                  refine r_callV rfl ct_X9_isDeed rfl rfl rfl (by decide) rfl (am_cnt rfl) ?_
                  refine r_if_eq rfl (fun h70 => ?_) (fun h70 => ?_)
                  · refine r_iinc (L2 := [_, _, _, _, _, _, _, _]) rfl rfl rfl ?_
                    refine r_goto rfl ?_
                    rw [n2]
                    have e := ih2 (j + 1) v7 q0 (by omega) (by omega)
                    rw [x1] at e
                    exact e
                  · exact absurd (⟨Decidable.not_not.mp fun z => h58 (b01_f (fun y => z (d1.mp y))), Decidable.not_not.mp fun z => h70 (b01_f (fun y => z (d2.mp y)))⟩) hc
      by_cases hi : i = 6
      · subst hi
        refine r_iload rfl rfl ?_
        refine r_bipush rfl ?_
        refine r_icmp_ge rfl (fun h36 => ?_) (fun h36 => ?_)
        · refine r_aload_n rfl rfl ?_
          refine r_getC rfl rfl (by decide) (by decide) rfl ?_
          refine r_getC rfl rfl (by decide) (by decide) rfl ?_
          refine r_iload_n rfl rfl ?_
          refine r_iconst rfl ?_
          refine r_iload_n rfl rfl ?_
          refine r_imul rfl ?_
          refine r_iast rfl rfl (by first | decide | assumption) (by first | exact s1 | exact s2 | exact s3 | exact s4) (by first | exact s1 | exact s2 | exact s3 | exact s4) ?_
          refine r_aload_n rfl rfl ?_
          refine r_getC rfl rfl (by decide) (by decide) rfl ?_
          refine r_getC rfl rfl (by decide) (by decide) rfl ?_
          refine r_iload_n rfl rfl ?_
          refine r_iconst rfl ?_
          refine r_iload_n rfl rfl ?_
          refine r_imul rfl ?_
          refine r_iast rfl rfl (by first | decide | assumption) (by first | exact s1 | exact s2 | exact s3 | exact s4) (by first | exact s1 | exact s2 | exact s3 | exact s4) ?_
          refine r_iload rfl rfl ?_
          refine r_iret rfl rfl ?_
          rw [bp, bq, b2, b3]
          exact ⟨rfl, rfl⟩
        · first | exact absurd h36 (by decide) | exact absurd (by decide) h36
      · have w1 : ¬ 12 ≤ nI (2 * i) := Int32.not_le.mpr (nI_lt (b := 12) (by omega) (by omega))
        refine r_iload rfl rfl ?_
        refine r_bipush rfl ?_
        refine r_icmp_ge rfl (fun h36 => ?_) (fun h36 => ?_)
        · exact absurd h36 w1
        · refine r_iconst rfl ?_
          refine r_istore (L2 := [_, _, _, _, _, _, _, _]) rfl rfl ?_
          exact loop2 7 0 v7 (by omega) (by omega) (by omega)
  refine r_aload_n rfl rfl ?_
  refine r_getC rfl rfl (by decide) (by decide) rfl ?_
  refine r_iload_n rfl rfl ?_
  refine r_iload_n rfl rfl ?_
  refine r_callV rfl ct_X9_hasTwo rfl rfl rfl (by decide) rfl (am_cnt rfl) ?_
  refine r_if_eq rfl (fun h9 => ?_) (fun h9 => ?_)
  · exact absurd (c2) (b01_eq0.mp h9)
  · refine r_iload_n rfl rfl ?_
    refine r_iconst rfl ?_
    refine r_sipush rfl ?_
    refine r_callS rfl (by decide) ct_X10_isWithin rfl rfl (am_cnt rfl) ?_
    refine r_if_ne rfl (fun h20 => ?_) (fun h20 => ?_)
    · refine r_bipush rfl ?_
      refine r_istore (L2 := [_, _, _, _, _, _, _, _]) rfl rfl ?_
      refine r_iconst rfl ?_
      refine r_istore (L2 := [_, _, _, _, _, _, _, _]) rfl rfl ?_
      exact loop 7 0 none none (by omega) (by omega)
    · exact absurd (c1) (b01_eq0.mp h20)
/-- whether one spoke -/
abbrev spk (S : am_S) (p m : Nat) : Prop := ¬ gI S 57 (p * 200 + m) = 0
theorem spoke_nI {d : Nat} {S : am_S} {p m : Nat} (hp : p < 6) (hm : m < 200) : am_CT (d + 2) iX0_spoke [.ref 54, .int (nI p), .int (nI m)] S (some (.int (b01 (spk S p m)))) S := by
  have e := ct_X0_spoke (d := d) (S := S) (o := 54) (p := nI p) (m := nI m) (isC54 _)
  rw [fNoted_nI hp hm] at e
  exact e
theorem ct_X10_sameMinute {d : Nat} {S : am_S} {nw p q : Nat} (hnw : gI S 54 0 = nI nw) (hw : nw ≤ 199) (hp : p < 6) (hq : q < 6) : am_CT (d + 3) iX10_sameMinute [.ref 0, .int (nI p), .int (nI q)] S (some (.int (sumI (fun m => b01 (spk S p m ∧ spk S q m)) nw))) (S) := by
  refine am_CT_in mmX10_sameMinute rfl rfl rfl ?_
  have loop : ∀ (k : Nat) (j : Nat), (j ≤ nw) → (nw < j + k) → am_Ex (am_Call am_MT (d + 2)) mmX10_sameMinute none (fun r1 G1 => r1 = (some (.int (sumI (fun m => b01 (spk S p m ∧ spk S q m)) nw))) ∧ G1 = am_H (S)) (fun _ _ _ _ _ _ => False) 5 [some (.ref 0), some (.int (nI p)), some (.int (nI q)), some (.int (sumI (fun m => b01 (spk S p m ∧ spk S q m)) j)), some (.int (nI j))] [] (am_H (S)) 0 0 := by
    intro k
    induction k with
    | zero =>
      intro j h1 h2
      omega
    | succ k ih =>
      intro j h1 h2
      refine r_iload rfl rfl ?_
      refine r_aload_n rfl rfl ?_
      refine r_getC rfl rfl (by decide) (by decide) rfl ?_
      refine r_getI rfl rfl (by decide) (by decide) rfl ?_
      refine r_icmp_ge rfl (fun h14 => ?_) (fun h14 => ?_)
      · rw [hnw, nI_leI (by omega) (by omega)] at h14
        obtain rfl : j = nw := by omega
        refine r_iload_n rfl rfl ?_
        refine r_iret rfl rfl ?_
        exact ⟨rfl, rfl⟩
      · rw [hnw, nI_leI (by omega) (by omega)] at h14
        refine r_iload_n rfl rfl ?_
        refine r_aload_n rfl rfl ?_
        refine r_getC rfl rfl (by decide) (by decide) rfl ?_
        refine r_iload_n rfl rfl ?_
        refine r_iload rfl rfl ?_
        refine r_callV rfl (spoke_nI hp (by omega)) rfl rfl rfl (by decide) rfl (am_cnt rfl) ?_
        refine r_if_eq rfl (fun h28 => ?_) (fun h28 => ?_)
        · have e0 : b01 (spk S p j ∧ spk S q j) = 0 := b01_f (fun z => (b01_eq0.mp h28) z.1)
          refine r_iconst rfl ?_
          refine r_iadd rfl ?_
          refine r_istore_n (L2 := [_, _, _, _, _]) rfl rfl ?_
          refine r_iinc (L2 := [_, _, _, _, _]) rfl rfl rfl ?_
          refine r_goto rfl ?_
          rw [nI_1]
          have e := ih (j + 1) (by omega) (by omega)
          rw [sumI, e0] at e
          exact e
        · refine r_aload_n rfl rfl ?_
          refine r_getC rfl rfl (by decide) (by decide) rfl ?_
          refine r_iload_n rfl rfl ?_
          refine r_iload rfl rfl ?_
          refine r_callV rfl (spoke_nI hq (by omega)) rfl rfl rfl (by decide) rfl (am_cnt rfl) ?_
          refine r_if_eq rfl (fun h41 => ?_) (fun h41 => ?_)
          · have e0 : b01 (spk S p j ∧ spk S q j) = 0 := b01_f (fun z => (b01_eq0.mp h41) z.2)
            refine r_iconst rfl ?_
            refine r_iadd rfl ?_
            refine r_istore_n (L2 := [_, _, _, _, _]) rfl rfl ?_
            refine r_iinc (L2 := [_, _, _, _, _]) rfl rfl rfl ?_
            refine r_goto rfl ?_
            rw [nI_1]
            have e := ih (j + 1) (by omega) (by omega)
            rw [sumI, e0] at e
            exact e
          · have e0 : b01 (spk S p j ∧ spk S q j) = 1 := b01_t ⟨Decidable.not_not.mp fun z => h28 (b01_f z), Decidable.not_not.mp fun z => h41 (b01_f z)⟩
            refine r_iconst rfl ?_
            refine r_goto rfl ?_
            refine r_iadd rfl ?_
            refine r_istore_n (L2 := [_, _, _, _, _]) rfl rfl ?_
            refine r_iinc (L2 := [_, _, _, _, _]) rfl rfl rfl ?_
            refine r_goto rfl ?_
            rw [nI_1]
            have e := ih (j + 1) (by omega) (by omega)
            rw [sumI, e0] at e
            exact e
  refine r_iconst rfl ?_
  refine r_istore_n (L2 := [_, _, _, _, _]) rfl rfl ?_
  refine r_iconst rfl ?_
  refine r_istore (L2 := [_, _, _, _, _]) rfl rfl ?_
  exact loop (nw + 1) 0 (by omega) (by omega)
/-- words of q in later minutes, but too soon -/
def soonI (S : am_S) (p q af nw : Nat) (m : Nat) : Int32 := if spk S p m then sumI (fun t => b01 (spk S q (m + 1 + t))) (min (m + af) nw - (m + 1)) else 0
theorem hears_nI {S : am_S} {q af : Nat} (ha : lateI (gI S (6 + 2 * q) 0) = nI af) (hq : q < 6) {d : Nat} : am_CT (d + 1) iX4_hearsAfter [.ref (6 + 2 * q)] S (some (.int (nI af))) S := by
  rw [← ha]
  exact ct_X4_hearsAfter (kn_person hq)
theorem ct_X10_saidTooSoon {d : Nat} {S : am_S} {nw p q af : Nat} (hnw : gI S 54 0 = nI nw) (hw : nw ≤ 199) (hp : p < 6) (hq : q < 6) (ha : lateI (gI S (6 + 2 * q) 0) = nI af) (ha2 : af ≤ 20) : am_CT (d + 3) iX10_saidTooSoon [.ref 0, .int (nI p), .int (nI q)] S (some (.int (sumI (soonI S p q af nw) nw))) (S) := by
  refine am_CT_in mmX10_saidTooSoon rfl rfl rfl ?_
  have bq : (nI q).toNatClampNeg = q := nI_clamp (by omega)
  have s3 : 0 ≤ nI q := nI_pos' (by omega)
  have s4 : nI q < Int32.ofNat 6 := nI_lt (by omega) (by omega)
  have loop : ∀ (k : Nat) (j : Nat) (v6 : Option Value), (j ≤ nw) → (nw < j + k) → am_Ex (am_Call am_MT (d + 2)) mmX10_saidTooSoon none (fun r1 G1 => r1 = (some (.int (sumI (soonI S p q af nw) nw))) ∧ G1 = am_H (S)) (fun _ _ _ _ _ _ => False) 19 [some (.ref 0), some (.int (nI p)), some (.int (nI q)), some (.int (nI af)), some (.int (sumI (soonI S p q af nw) j)), some (.int (nI j)), v6] [] (am_H (S)) 0 0 := by
    intro k
    induction k with
    | zero =>
      intro j v6 h1 h2
      omega
    | succ k ih =>
      intro j v6 h1 h2
      have loop2 : ∀ (k2 : Nat) (t : Nat), (j < nw ∧ spk S p j) → (t ≤ min (j + af) nw - (j + 1)) → (200 < t + k2) → am_Ex (am_Call am_MT (d + 2)) mmX10_saidTooSoon none (fun r1 G1 => r1 = (some (.int (sumI (soonI S p q af nw) nw))) ∧ G1 = am_H (S)) (fun _ _ _ _ _ _ => False) 50 [some (.ref 0), some (.int (nI p)), some (.int (nI q)), some (.int (nI af)), some (.int (sumI (soonI S p q af nw) j + sumI (fun t => b01 (spk S q (j + 1 + t))) t)), some (.int (nI j)), some (.int (nI (j + 1 + t)))] [] (am_H (S)) 0 0 := by
        intro k2
        induction k2 with
        | zero =>
          intro t q0 q1 q2
          omega
        | succ k2 ih2 =>
          intro t q0 q1 q2
          have go : t = min (j + af) nw - (j + 1) → sumI (soonI S p q af nw) j + sumI (fun t => b01 (spk S q (j + 1 + t))) t = sumI (soonI S p q af nw) (j + 1) := fun z => by rw [sumI, soonI, if_pos q0.2, ← z]
          refine r_iload rfl rfl ?_
          refine r_iload rfl rfl ?_
          refine r_iload_n rfl rfl ?_
          refine r_iadd rfl ?_
          rw [nI_add]
          refine r_icmp_ge rfl (fun h56 => ?_) (fun h56 => ?_)
          · rw [nI_leI (by omega) (by omega)] at h56
            rw [go (by omega)]
            refine r_iinc (L2 := [_, _, _, _, _, _, _]) rfl rfl rfl ?_
            refine r_goto rfl ?_
            rw [nI_1]
            exact ih (j + 1) _ (by omega) (by omega)
          · rw [nI_leI (by omega) (by omega)] at h56
            refine r_iload rfl rfl ?_
            refine r_aload_n rfl rfl ?_
            refine r_getC rfl rfl (by decide) (by decide) rfl ?_
            refine r_getI rfl rfl (by decide) (by decide) rfl ?_
            refine r_icmp_ge rfl (fun h68 => ?_) (fun h68 => ?_)
            · rw [hnw, nI_leI (by omega) (by omega)] at h68
              rw [go (by omega)]
              refine r_iinc (L2 := [_, _, _, _, _, _, _]) rfl rfl rfl ?_
              refine r_goto rfl ?_
              rw [nI_1]
              exact ih (j + 1) _ (by omega) (by omega)
            · rw [hnw, nI_leI (by omega) (by omega)] at h68
              refine r_iload rfl rfl ?_
              refine r_aload_n rfl rfl ?_
              refine r_getC rfl rfl (by decide) (by decide) rfl ?_
              refine r_iload_n rfl rfl ?_
              refine r_iload rfl rfl ?_
              refine r_callV rfl (spoke_nI hq (by omega)) rfl rfl rfl (by decide) rfl (am_cnt rfl) ?_
              refine r_if_eq rfl (fun h83 => ?_) (fun h83 => ?_)
              · have e0 : b01 (spk S q (j + 1 + t)) = 0 := h83
                refine r_iconst rfl ?_
                refine r_iadd rfl ?_
                refine r_istore (L2 := [_, _, _, _, _, _, _]) rfl rfl ?_
                refine r_iinc (L2 := [_, _, _, _, _, _, _]) rfl rfl rfl ?_
                refine r_goto rfl ?_
                rw [nI_1, Int32.add_assoc]
                have e := ih2 (t + 1) q0 (by omega) (by omega)
                rw [sumI, e0] at e
                exact e
              · have e0 : b01 (spk S q (j + 1 + t)) = 1 := b01_or.resolve_left h83
                refine r_iconst rfl ?_
                refine r_goto rfl ?_
                refine r_iadd rfl ?_
                refine r_istore (L2 := [_, _, _, _, _, _, _]) rfl rfl ?_
                refine r_iinc (L2 := [_, _, _, _, _, _, _]) rfl rfl rfl ?_
                refine r_goto rfl ?_
                rw [nI_1, Int32.add_assoc]
                have e := ih2 (t + 1) q0 (by omega) (by omega)
                rw [sumI, e0] at e
                exact e
      refine r_iload rfl rfl ?_
      refine r_aload_n rfl rfl ?_
      refine r_getC rfl rfl (by decide) (by decide) rfl ?_
      refine r_getI rfl rfl (by decide) (by decide) rfl ?_
      refine r_icmp_ge rfl (fun h28 => ?_) (fun h28 => ?_)
      · rw [hnw, nI_leI (by omega) (by omega)] at h28
        obtain rfl : j = nw := by omega
        refine r_iload rfl rfl ?_
        refine r_iret rfl rfl ?_
        exact ⟨rfl, rfl⟩
      · rw [hnw, nI_leI (by omega) (by omega)] at h28
        refine r_aload_n rfl rfl ?_
        refine r_getC rfl rfl (by decide) (by decide) rfl ?_
        refine r_iload_n rfl rfl ?_
        refine r_iload rfl rfl ?_
        refine r_callV rfl (spoke_nI hp (by omega)) rfl rfl rfl (by decide) rfl (am_cnt rfl) ?_
        refine r_if_eq rfl (fun h41 => ?_) (fun h41 => ?_)
        · have e0 : soonI S p q af nw j = 0 := if_neg (b01_eq0.mp h41)
          refine r_iinc (L2 := [_, _, _, _, _, _, _]) rfl rfl rfl ?_
          refine r_goto rfl ?_
          rw [nI_1]
          have e := ih (j + 1) v6 (by omega) (by omega)
          rw [sumI, e0, Int32.add_zero] at e
          exact e
        · have e0 : spk S p j := Decidable.not_not.mp fun z => h41 (b01_f z)
          refine r_iload rfl rfl ?_
          refine r_iconst rfl ?_
          refine r_iadd rfl ?_
          refine r_istore (L2 := [_, _, _, _, _, _, _]) rfl rfl ?_
          rw [nI_1]
          have e := loop2 201 0 ⟨by omega, e0⟩ (by omega) (by omega)
          rw [sumI, Int32.add_zero] at e
          exact e
  refine r_aload_n rfl rfl ?_
  refine r_getC rfl rfl (by decide) (by decide) rfl ?_
  refine r_getC rfl rfl (by decide) (by decide) rfl ?_
  refine r_iload_n rfl rfl ?_
  refine r_aaldP rfl rfl (by first | exact s3 | exact s4) (by first | exact s3 | exact s4) ?_
  rw [bq]
  refine r_callV rfl (hears_nI (q := q) ha hq) rfl rfl (kn_person hq) (by decide) rfl (am_cnt rfl) ?_
  refine r_istore_n (L2 := [_, _, _, _, _, _, _]) rfl rfl ?_
  refine r_iconst rfl ?_
  refine r_istore (L2 := [_, _, _, _, _, _, _]) rfl rfl ?_
  refine r_iconst rfl ?_
  refine r_istore (L2 := [_, _, _, _, _, _, _]) rfl rfl ?_
  exact loop (nw + 1) 0 none (by omega) (by omega)
/-- pairs that crossed, of one and another -/
def crosI (S : am_S) (af : Nat → Nat) (nw p q : Nat) : Int32 := if fBit (gI S (6 + 2 * p) 3) (nI q) then sumI (fun m => b01 (spk S p m ∧ spk S q m)) nw + sumI (soonI S p q (af q) nw) nw + sumI (soonI S q p (af p) nw) nw else 0
theorem ct_X10_crossed {d : Nat} {S : am_S} {n nw : Nat} {af : Nat → Nat} (hn : gI S 1 1 = nI n) (hz : n ≤ 6) (hnw : gI S 54 0 = nI nw) (hw : nw ≤ 199) (ha : ∀ q, q < n → lateI (gI S (6 + 2 * q) 0) = nI (af q) ∧ af q ≤ 20) : am_CT (d + 4) iX10_crossed [.ref 0] S (some (.int (sumI (fun p => sumI (fun t => crosI S af nw p (p + 1 + t)) (n - (p + 1))) n))) (S) := by
  refine am_CT_in mmX10_crossed rfl rfl rfl ?_
  have hz6 : gI S 1 1 ≤ 6 := by rw [hn]; exact nI_le (b := 6) hz (by omega)
  have loop : ∀ (k : Nat) (i : Nat) (v3 : Option Value), (i ≤ n) → (n < i + k) → am_Ex (am_Call am_MT (d + 3)) mmX10_crossed none (fun r1 G1 => r1 = (some (.int (sumI (fun p => sumI (fun t => crosI S af nw p (p + 1 + t)) (n - (p + 1))) n))) ∧ G1 = am_H (S)) (fun _ _ _ _ _ _ => False) 4 [some (.ref 0), some (.int (sumI (fun p => sumI (fun t => crosI S af nw p (p + 1 + t)) (n - (p + 1))) i)), some (.int (nI i)), v3] [] (am_H (S)) 0 0 := by
    intro k
    induction k with
    | zero =>
      intro i v3 h1 h2
      omega
    | succ k ih =>
      intro i v3 h1 h2
      have loop2 : ∀ (k2 : Nat) (t : Nat), (i < n) → (t ≤ n - (i + 1)) → (6 < t + k2) → am_Ex (am_Call am_MT (d + 3)) mmX10_crossed none (fun r1 G1 => r1 = (some (.int (sumI (fun p => sumI (fun t => crosI S af nw p (p + 1 + t)) (n - (p + 1))) n))) ∧ G1 = am_H (S)) (fun _ _ _ _ _ _ => False) 19 [some (.ref 0), some (.int (sumI (fun p => sumI (fun t => crosI S af nw p (p + 1 + t)) (n - (p + 1))) i + sumI (fun t => crosI S af nw i (i + 1 + t)) t)), some (.int (nI i)), some (.int (nI (i + 1 + t)))] [] (am_H (S)) 0 0 := by
        intro k2
        induction k2 with
        | zero =>
          intro t q0 q1 q2
          omega
        | succ k2 ih2 =>
          intro t q0 q1 q2
          refine r_iload_n rfl rfl ?_
          refine r_aload_n rfl rfl ?_
          refine r_getC rfl rfl (by decide) (by decide) rfl ?_
          refine r_getI rfl rfl (by decide) (by decide) rfl ?_
          refine r_icmp_ge rfl (fun h27 => ?_) (fun h27 => ?_)
          · rw [hn, nI_leI (by omega) (by omega)] at h27
            refine r_iinc (L2 := [_, _, _, _]) rfl rfl rfl ?_
            refine r_goto rfl ?_
            rw [nI_1]
            have e := ih (i + 1) (some (.int (nI (i + 1 + t)))) (by omega) (by omega)
            rw [sumI, show n - (i + 1) = t by omega] at e
            exact e
          · rw [hn, nI_leI (by omega) (by omega)] at h27
            have two : twoP S (nI i) (nI (i + 1 + t)) := ⟨hasP_nI hn hz q0, hasP_nI hn hz (by omega), fun z => by
              have := congrArg Int32.toNatClampNeg z
              rw [nI_clamp (by omega), nI_clamp (by omega)] at this
              omega⟩
            have bi : cP (nI i) = 6 + 2 * i := by unfold cP; rw [nI_clamp (by omega)]
            refine r_aload_n rfl rfl ?_
            refine r_getC rfl rfl (by decide) (by decide) rfl ?_
            refine r_iload_n rfl rfl ?_
            refine r_iload_n rfl rfl ?_
            refine r_callV rfl (ct_X9_isNear hz6) rfl rfl rfl (by decide) rfl (am_cnt rfl) ?_
            refine r_if_eq rfl (fun h39 => ?_) (fun h39 => ?_)
            · rw [b01_eq0, bi] at h39
              have e0 : crosI S af nw i (i + 1 + t) = 0 := if_neg (fun z => h39 ⟨two, z⟩)
              refine r_iinc (L2 := [_, _, _, _]) rfl rfl rfl ?_
              refine r_goto rfl ?_
              rw [nI_1]
              have e := ih2 (t + 1) q0 (by omega) (by omega)
              first | (rw [sumI, e0, Int32.add_zero] at e; exact e) | (rw [sumI, crosI, if_pos e0, ← Int32.add_assoc] at e; exact e)
            · rw [b01_eq0, bi] at h39
              have e0 := (Decidable.not_not.mp h39).2
              refine r_iload_n rfl rfl ?_
              refine r_aload_n rfl rfl ?_
              refine r_iload_n rfl rfl ?_
              refine r_iload_n rfl rfl ?_
              refine r_callV rfl (ct_X10_sameMinute hnw hw (by omega) (by omega)) rfl rfl rfl (by decide) rfl (am_cnt rfl) ?_
              refine r_aload_n rfl rfl ?_
              refine r_iload_n rfl rfl ?_
              refine r_iload_n rfl rfl ?_
              refine r_callV rfl (ct_X10_saidTooSoon hnw hw (by omega) (by omega) (ha _ (by omega)).1 (ha _ (by omega)).2) rfl rfl rfl (by decide) rfl (am_cnt rfl) ?_
              refine r_iadd rfl ?_
              refine r_aload_n rfl rfl ?_
              refine r_iload_n rfl rfl ?_
              refine r_iload_n rfl rfl ?_
              refine r_callV rfl (ct_X10_saidTooSoon hnw hw (by omega) (by omega) (ha _ (by omega)).1 (ha _ (by omega)).2) rfl rfl rfl (by decide) rfl (am_cnt rfl) ?_
              refine r_iadd rfl ?_
              refine r_iadd rfl ?_
              refine r_istore_n (L2 := [_, _, _, _]) rfl rfl ?_
              refine r_iinc (L2 := [_, _, _, _]) rfl rfl rfl ?_
              refine r_goto rfl ?_
              rw [nI_1]
              have e := ih2 (t + 1) q0 (by omega) (by omega)
              first | (rw [sumI, e0, Int32.add_zero] at e; exact e) | (rw [sumI, crosI, if_pos e0, ← Int32.add_assoc] at e; exact e)
      refine r_iload_n rfl rfl ?_
      refine r_aload_n rfl rfl ?_
      refine r_getC rfl rfl (by decide) (by decide) rfl ?_
      refine r_getI rfl rfl (by decide) (by decide) rfl ?_
      refine r_icmp_ge rfl (fun h12 => ?_) (fun h12 => ?_)
      · rw [hn, nI_leI (by omega) (by omega)] at h12
        obtain rfl : i = n := by omega
        refine r_iload_n rfl rfl ?_
        refine r_iret rfl rfl ?_
        exact ⟨rfl, rfl⟩
      · rw [hn, nI_leI (by omega) (by omega)] at h12
        refine r_iload_n rfl rfl ?_
        refine r_iconst rfl ?_
        refine r_iadd rfl ?_
        refine r_istore_n (L2 := [_, _, _, _]) rfl rfl ?_
        rw [nI_1]
        have e := loop2 7 0 (by omega) (by omega) (by omega)
        rw [sumI, Int32.add_zero] at e
        exact e
  refine r_iconst rfl ?_
  refine r_istore_n (L2 := [_, _, _, _]) rfl rfl ?_
  refine r_iconst rfl ?_
  refine r_istore_n (L2 := [_, _, _, _]) rfl rfl ?_
  exact loop (n + 1) 0 none (by omega) (by omega)
