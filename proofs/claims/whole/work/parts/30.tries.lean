/-! Rules tried out beside the course that stands; what crossed. -/
def CfgOk (n : Nat) (dg fz : Nat → Nat) (S : am_S) : Prop := gI S 1 1 = nI n ∧ n ≤ 6 ∧ (∀ p, p < 6 → gI S 4 p = nI (dg p) ∧ dg p < 12) ∧ (∀ i, i < 12 → gI S (18 + 3 * i) 1 = nI (fz i) ∧ fz i ≤ 40)
def trl (S : am_S) (sd : Int32) : am_S := uI (uI (uI (uI S 60 1 (gI S 54 1)) 60 2 sd) 60 0 0) 61 0 (gI S 54 1)
theorem trl_ne {S : am_S} {sd : Int32} {a : Nat} (h : a ≠ 60) (h1 : a ≠ 61) : gI (trl S sd) a = gI S a := by
  rw [trl, gI_uI_ne h1, gI_uI_ne h, gI_uI_ne h, gI_uI_ne h]
def tryS (n : Nat) (dg fz : Nat → Nat) (S : am_S) (sd : Int32) (m : Nat) : am_S := pasC 60 n 0 dg fz (trl S sd) m
def tryV (n : Nat) (dg fz : Nat → Nat) (S : am_S) (sd : Int32) (m : Nat) : Int32 := sumI (fun j => absI (gI (tryS n dg fz S sd m) 61 (j + 1) - gI S 1 4)) m
theorem trl_ok {n : Nat} {dg fz : Nat → Nat} {S : am_S} {sd : Int32} (h : CfgOk n dg fz S) : PasOk 60 n 0 dg fz (trl S sd) := by
  obtain ⟨a, b, c, e⟩ := h
  refine ⟨by rw [trl_ne (by decide) (by decide), a], b, ?_, fun p hp => ?_, fun i hi => ?_⟩
  · rw [trl, gI_uI_ne (by decide), gI_uI, if_pos rfl, if_pos rfl]
    rfl
  · rw [trl_ne (by decide) (by decide)]
    exact c p hp
  · rw [trl_ne (by omega) (by omega)]
    exact e i hi
theorem tryS_stay {n : Nat} {dg fz : Nat → Nat} {S : am_S} {sd : Int32} {m a : Nat} (hd : ∀ p, p < 6 → dg p < 12) (hn : n ≤ 6) (h1 : a ≠ 5) (h2 : a < 18 ∨ 53 < a ∨ a % 3 ≠ 2) (h3 : a < 60 ∨ 65 < a) : gI (tryS n dg fz S sd m) a = gI S a := by
  rw [tryS, pasC_stay (by decide) hd hn h1 h2 h3, trl_ne (by omega) (by omega)]
theorem tryS_cfg {n : Nat} {dg fz : Nat → Nat} {S : am_S} {sd : Int32} {m : Nat} (h : CfgOk n dg fz S) : CfgOk n dg fz (tryS n dg fz S sd m) := by
  obtain ⟨a, b, c, e⟩ := h
  have hd : ∀ p, p < 6 → dg p < 12 := fun p hp => (c p hp).2
  refine ⟨by rw [tryS_stay hd b (by decide) (by decide) (by decide), a], b, fun p hp => ?_, fun i hi => ?_⟩
  · rw [tryS_stay hd b (by decide) (by decide) (by decide)]
    exact c p hp
  · rw [tryS_stay hd b (by omega) (by omega) (by omega)]
    exact e i hi
theorem ct_X10_tryOut {d : Nat} {S : am_S} {n m : Nat} {dg fz : Nat → Nat} {sd : Int32} (hP : CfgOk n dg fz S) (hm : m ≤ 199) : am_CT (d + 6) iX10_tryOut [.ref 0, .int (nI m), .int sd] S (some (.int (tryV n dg fz S sd m))) (tryS n dg fz S sd m) := by
  refine am_CT_in mmX10_tryOut rfl rfl rfl ?_
  have hd : ∀ p, p < 6 → dg p < 12 := fun p hp => (hP.2.2.1 p hp).2
  have e0 : min m (199 - 0) = m := by omega
  have q0 : uI (uI (uI (uI S 60 1 (gI S 54 1)) 60 2 sd) 60 0 0) 61 0 (gI (uI (uI S 60 1 (gI S 54 1)) 60 2 sd) 60 1) = trl S sd := by
    rw [trl, gI_uI, if_pos rfl, if_neg (by decide), gI_uI, if_pos rfl, if_pos rfl]
  have hn2 : gI (tryS n dg fz S sd m) 60 0 = nI m := by
    rw [tryS, pasC_now (trl_ok hP).2.2.1, Nat.zero_add]
  have q4 : gI (tryS n dg fz S sd m) 1 4 = gI S 1 4 := by rw [tryS_stay hd hP.2.1 (by decide) (by decide) (by decide)]
  have hps : am_CT (d + 5) iX9_pass [.ref 1, .ref 60, .int (nI m)] (trl S sd) none (tryS n dg fz S sd m) := by
    have e := ct_X9_pass (d := d) (m := m) isC60 (by decide) (trl_ok (sd := sd) hP) (by decide) (by omega)
    rw [e0] at e
    exact e
  refine r_aload_n rfl rfl ?_
  refine r_getC rfl rfl (by decide) (by decide) rfl ?_
  refine r_aload_n rfl rfl ?_
  refine r_getC rfl rfl (by decide) (by decide) rfl ?_
  refine r_getI rfl rfl (by decide) (by decide) rfl ?_
  refine r_putI rfl rfl (by decide) (by decide) rfl ?_
  refine r_aload_n rfl rfl ?_
  refine r_getC rfl rfl (by decide) (by decide) rfl ?_
  refine r_iload_n rfl rfl ?_
  refine r_putI rfl rfl (by decide) (by decide) rfl ?_
  refine r_aload_n rfl rfl ?_
  refine r_getC rfl rfl (by decide) (by decide) rfl ?_
  refine r_callV rfl (ct_X0_restart (o := 60) (isC60 _)) rfl rfl rfl (by decide) rfl (am_cnt rfl) ?_
  rw [q0]
  refine r_aload_n rfl rfl ?_
  refine r_getC rfl rfl (by decide) (by decide) rfl ?_
  refine r_aload_n rfl rfl ?_
  refine r_getC rfl rfl (by decide) (by decide) rfl ?_
  refine r_iload_n rfl rfl ?_
  refine r_callV rfl hps rfl rfl rfl (by decide) rfl (am_cnt rfl) ?_
  refine r_aload_n rfl rfl ?_
  refine r_getC rfl rfl (by decide) (by decide) rfl ?_
  refine r_aload_n rfl rfl ?_
  refine r_getC rfl rfl (by decide) (by decide) rfl ?_
  refine r_getI rfl rfl (by decide) (by decide) rfl ?_
  refine r_callV rfl (ct_X0_costTo (o := 60) (isC60 _) hn2 hm) rfl rfl rfl (by decide) rfl (am_cnt rfl) ?_
  refine r_iret rfl rfl ?_
  rw [q4]
  exact ⟨rfl, rfl⟩
theorem ct_X10_would_no {d : Nat} {S : am_S} {m sd : Int32} (h : ¬ (1 ≤ m ∧ m ≤ 199)) : am_CT (d + 7) iX10_would [.ref 0, .int m, .int sd] S (some (.int (-1))) (S) := by
  refine am_CT_in mmX10_would rfl rfl rfl ?_
  refine r_iload_n rfl rfl ?_
  refine r_iconst rfl ?_
  refine r_sipush rfl ?_
  refine r_callS rfl (by decide) ct_X10_isWithin rfl rfl (am_cnt rfl) ?_
  refine r_if_ne rfl (fun h8 => ?_) (fun h8 => ?_)
  · exact (h8 (b01_f (h))).elim
  · refine r_iconst rfl ?_
    refine r_iret rfl rfl ?_
    exact ⟨rfl, rfl⟩
theorem ct_X10_would_ok {d : Nat} {S : am_S} {n m : Nat} {dg fz : Nat → Nat} {sd : Int32} (hP : CfgOk n dg fz S) (h1 : 1 ≤ m) (hm : m ≤ 199) : am_CT (d + 7) iX10_would [.ref 0, .int (nI m), .int sd] S (some (.int (tryV n dg fz S sd m))) (t1 (tryS n dg fz S sd m) (gI (tryS n dg fz S sd m) 61 m).toInt64) := by
  refine am_CT_in mmX10_would rfl rfl rfl ?_
  have c1 : 1 ≤ nI m ∧ nI m ≤ 199 := ⟨nI_le (a := 1) h1 (by omega), nI_le (b := 199) hm (by omega)⟩
  have hn2 : gI (tryS n dg fz S sd m) 60 0 = nI m := by
    rw [tryS, pasC_now (trl_ok hP).2.2.1, Nat.zero_add]
  refine r_iload_n rfl rfl ?_
  refine r_iconst rfl ?_
  refine r_sipush rfl ?_
  refine r_callS rfl (by decide) ct_X10_isWithin rfl rfl (am_cnt rfl) ?_
  refine r_if_ne rfl (fun h8 => ?_) (fun h8 => ?_)
  · refine r_aload_n rfl rfl ?_
    refine r_iload_n rfl rfl ?_
    refine r_iload_n rfl rfl ?_
    refine r_callV rfl (ct_X10_tryOut hP hm) rfl rfl rfl (by decide) rfl (am_cnt rfl) ?_
    refine r_istore_n (L2 := [_, _, _, _]) rfl rfl ?_
    refine r_aload_n rfl rfl ?_
    refine r_getC rfl rfl (by decide) (by decide) rfl ?_
    refine r_aload_n rfl rfl ?_
    refine r_getC rfl rfl (by decide) (by decide) rfl ?_
    refine r_aload_n rfl rfl ?_
    refine r_getC rfl rfl (by decide) (by decide) rfl ?_
    refine r_getI rfl rfl (by decide) (by decide) rfl ?_
    refine r_callV rfl (ct_X0_placeAt (o := 60) (isC60 _)) rfl rfl rfl (by decide) rfl (am_cnt rfl) ?_
    rw [hn2, fPlace_nI (by omega)]
    refine r_i2l rfl ?_
    refine r_callV rfl ct_X7_tellOne rfl rfl rfl (by decide) rfl (am_cnt rfl) ?_
    refine r_iload_n rfl rfl ?_
    refine r_iret rfl rfl ?_
    exact ⟨rfl, rfl⟩
  · exact absurd (c1) (b01_eq0.mp h8)
/-- a rule of one person's instead -/
def dgI (dg : Nat → Nat) (p i : Nat) : Nat → Nat := fun q => if q = p then i else dg q
theorem cfg_dgI {n : Nat} {dg fz : Nat → Nat} {S : am_S} {p i : Nat} (h : CfgOk n dg fz S) (hi : i < 12) : CfgOk n (dgI dg p i) fz (uI S 4 p (nI i)) := by
  obtain ⟨a, b, c, e⟩ := h
  refine ⟨by rw [gI_uI_ne (by decide), a], b, fun q hq => ?_, fun j hj => ?_⟩
  · unfold dgI
    by_cases hqp : q = p
    · rw [if_pos hqp, gI_uI, if_pos rfl, if_pos hqp]
      exact ⟨rfl, hi⟩
    · rw [if_neg hqp, gI_uI, if_pos rfl, if_neg hqp]
      exact c q hq
  · rw [gI_uI_ne (by omega)]
    exact e j hj
theorem cfg_t1 {n : Nat} {dg fz : Nat → Nat} {S : am_S} {x : Int64} (h : CfgOk n dg fz S) : CfgOk n dg fz (t1 S x) := by
  obtain ⟨a, b, c, e⟩ := h
  refine ⟨by rw [t1_ne (by decide), a], b, fun q hq => ?_, fun j hj => ?_⟩
  · rw [t1_ne (by decide)]
    exact c q hq
  · rw [t1_ne (by omega)]
    exact e j hj
theorem cfg_t2 {n : Nat} {dg fz : Nat → Nat} {S : am_S} {x y : Int64} (h : CfgOk n dg fz S) : CfgOk n dg fz (t2 S x y) := by
  obtain ⟨a, b, c, e⟩ := h
  refine ⟨by rw [t2_ne (by decide), a], b, fun q hq => ?_, fun j hj => ?_⟩
  · rw [t2_ne (by decide)]
    exact c q hq
  · rw [t2_ne (by omega)]
    exact e j hj
/-- of rules from f on, j of them tried: state, best, least; whose doing is now as dgR says -/
def dgR (dg fz : Nat → Nat) (p f : Nat) : Nat → (Nat → Nat)
  | 0 => dg
  | j + 1 => if (f + j) % 2 = 0 ∧ 0 < fz (f + j) then dgI (dgR dg fz p f j) p (f + j) else dgR dg fz p f j
def rulX (n : Nat) (dg fz : Nat → Nat) (S : am_S) (p f m : Nat) : Nat → am_S × Int32 × Int32
  | 0 => (S, -2, 0)
  | j + 1 => if (f + j) % 2 = 0 ∧ 0 < fz (f + j) then
      (tryS n (dgR dg fz p f (j + 1)) fz (uI (rulX n dg fz S p f m j).1 4 p (nI (f + j))) 1 m,
       if (rulX n dg fz S p f m j).2.1 = -2 ∨ tryV n (dgR dg fz p f (j + 1)) fz (uI (rulX n dg fz S p f m j).1 4 p (nI (f + j))) 1 m < (rulX n dg fz S p f m j).2.2 then (nI (f + j), tryV n (dgR dg fz p f (j + 1)) fz (uI (rulX n dg fz S p f m j).1 4 p (nI (f + j))) 1 m) else (rulX n dg fz S p f m j).2)
    else rulX n dg fz S p f m j
theorem rulX_cfg {n : Nat} {dg fz : Nat → Nat} {S : am_S} {p f m : Nat} (h : CfgOk n dg fz S) : ∀ j, f + j ≤ 12 → CfgOk n (dgR dg fz p f j) fz (rulX n dg fz S p f m j).1
  | 0, _ => h
  | j + 1, hj => by
    have e := rulX_cfg (p := p) (f := f) (m := m) h j (by omega)
    unfold rulX
    by_cases hc : (f + j) % 2 = 0 ∧ 0 < fz (f + j)
    · have e2 : dgR dg fz p f (j + 1) = dgI (dgR dg fz p f j) p (f + j) := by rw [dgR, if_pos hc]
      rw [if_pos hc, e2]
      exact tryS_cfg (cfg_dgI e (by omega))
    · rw [if_neg hc, dgR, if_neg hc]
      exact e
theorem deedP_nI {n : Nat} {dg fz : Nat → Nat} {S : am_S} {i : Nat} (h : CfgOk n dg fz S) (hi : i < 12) : deedP S (nI i) ↔ i % 2 = 0 ∧ 0 < fz i := by
  obtain ⟨a, b, c, e⟩ := h
  have q := e i hi
  have c1 : (nI i).toNatClampNeg = i := nI_clamp (by omega)
  have d2 : nI i / 2 = nI (i / 2) := pk_div (a := i) (d := 2) (by omega) (by decide) (by decide)
  have d3 : nI i / 2 * 2 = nI (i / 2 * 2) := by rw [d2]; exact pk_mul _ 2
  have d4 : nI i - nI i / 2 * 2 = nI (i % 2) := by rw [d3, pk_sub (by omega)]; congr 1; omega
  unfold deedP cF
  rw [c1, d4, q.1]
  constructor
  · intro z
    refine ⟨?_, ?_⟩
    · have : nI (i % 2) = nI 0 := z.2.2.1
      have := congrArg Int32.toNatClampNeg this
      rw [nI_clamp (by omega), nI_clamp (by omega)] at this
      exact this
    · exact (nI_ltI (a := 0) (by omega) (by omega)).mp z.2.2.2
  · intro z
    refine ⟨nI_pos' (by omega), nI_lt (b := 12) hi (by omega), by rw [z.1]; rfl, nI_lt (a := 0) z.2 (by omega)⟩
theorem ct_X10_rules_no {d : Nat} {S : am_S} {p f t m : Int32} (h : ¬ (hasP S p ∧ 0 ≤ f ∧ t < 12 ∧ f ≤ t ∧ 1 ≤ m ∧ m ≤ 199)) : am_CT (d + 7) iX10_rules [.ref 0, .int p, .int f, .int t, .int m] S (some (.int (-1))) (S) := by
  refine am_CT_in mmX10_rules rfl rfl rfl ?_
  refine r_aload_n rfl rfl ?_
  refine r_getC rfl rfl (by decide) (by decide) rfl ?_
  refine r_iload_n rfl rfl ?_
  refine r_callV rfl ct_X9_has rfl rfl rfl (by decide) rfl (am_cnt rfl) ?_
  refine r_if_eq rfl (fun h8 => ?_) (fun h8 => ?_)
  · refine r_iconst rfl ?_
    refine r_iret rfl rfl ?_
    exact ⟨rfl, rfl⟩
  · refine r_iload_n rfl rfl ?_
    refine r_if_lt rfl (fun h12 => ?_) (fun h12 => ?_)
    · refine r_iconst rfl ?_
      refine r_iret rfl rfl ?_
      exact ⟨rfl, rfl⟩
    · refine r_iload_n rfl rfl ?_
      refine r_bipush rfl ?_
      refine r_icmp_ge rfl (fun h18 => ?_) (fun h18 => ?_)
      · refine r_iconst rfl ?_
        refine r_iret rfl rfl ?_
        exact ⟨rfl, rfl⟩
      · refine r_iload_n rfl rfl ?_
        refine r_iload_n rfl rfl ?_
        refine r_icmp_gt rfl (fun h23 => ?_) (fun h23 => ?_)
        · refine r_iconst rfl ?_
          refine r_iret rfl rfl ?_
          exact ⟨rfl, rfl⟩
        · refine r_iload rfl rfl ?_
          refine r_iconst rfl ?_
          refine r_sipush rfl ?_
          refine r_callS rfl (by decide) ct_X10_isWithin rfl rfl (am_cnt rfl) ?_
          refine r_if_ne rfl (fun h35 => ?_) (fun h35 => ?_)
          · exfalso
            simp only [b01_eq0] at *
            grind
          · refine r_iconst rfl ?_
            refine r_iret rfl rfl ?_
            exact ⟨rfl, rfl⟩
def rulS (n : Nat) (dg fz : Nat → Nat) (S : am_S) (p f m c : Nat) : am_S := uI (rulX n dg fz S p f m c).1 4 p (nI (2 * p))
theorem ct_X10_rules_ok {d : Nat} {S : am_S} {n p f t m : Nat} {dg fz : Nat → Nat} (hP : CfgOk n dg fz S) (hp : p < n) (hf : f ≤ t) (ht : t < 12) (h1 : 1 ≤ m) (hm : m ≤ 199) : am_CT (d + 7) iX10_rules [.ref 0, .int (nI p), .int (nI f), .int (nI t), .int (nI m)] S (some (.int (rulX n dg fz S p f m (t + 1 - f)).2.1)) ((if (rulX n dg fz S p f m (t + 1 - f)).2.1 = -2 then rulS n dg fz S p f m (t + 1 - f) else t1 (rulS n dg fz S p f m (t + 1 - f)) (rulX n dg fz S p f m (t + 1 - f)).2.2.toInt64)) := by
  refine am_CT_in mmX10_rules rfl rfl rfl ?_
  have hn := hP.1
  have hz := hP.2.1
  have c1 : 1 ≤ nI m ∧ nI m ≤ 199 := ⟨nI_le (a := 1) h1 (by omega), nI_le (b := 199) hm (by omega)⟩
  have c2 : ¬ nI f < 0 := nI_pos (by omega)
  have c3 : ¬ 12 ≤ nI t := Int32.not_le.mpr (nI_lt (b := 12) ht (by omega))
  have c4 : nI f ≤ nI t := nI_le hf (by omega)
  have bp : (nI p).toNatClampNeg = p := nI_clamp (by omega)
  have s1 : 0 ≤ nI p := nI_pos' (by omega)
  have s2 : nI p < Int32.ofNat 6 := nI_lt (by omega) (by omega)
  have b2 : 2 * nI p = nI (2 * p) := by rw [Int32.mul_comm, show nI p * 2 = nI (p * 2) from pk_mul p 2, Nat.mul_comm]
  have loop : ∀ (k : Nat) (j : Nat) (b : Int32) (c : Int32) (v8 : Option Value), (f + j ≤ t + 1) → (t + 1 < f + j + k) → ((b, c) = (rulX n dg fz S p f m j).2) → am_Ex (am_Call am_MT (d + 6)) mmX10_rules none (fun r1 G1 => r1 = (some (.int (rulX n dg fz S p f m (t + 1 - f)).2.1)) ∧ G1 = am_H ((if (rulX n dg fz S p f m (t + 1 - f)).2.1 = -2 then rulS n dg fz S p f m (t + 1 - f) else t1 (rulS n dg fz S p f m (t + 1 - f)) (rulX n dg fz S p f m (t + 1 - f)).2.2.toInt64))) (fun _ _ _ _ _ _ => False) 50 [some (.ref 0), some (.int (nI p)), some (.int (nI f)), some (.int (nI t)), some (.int (nI m)), some (.int b), some (.int c), some (.int (nI (f + j))), v8] [] (am_H ((rulX n dg fz S p f m j).1)) 0 0 := by
    intro k
    induction k with
    | zero =>
      intro j b c v8 q1 q2 q3
      omega
    | succ k ih =>
      intro j b c v8 q1 q2 q3
      have hcf := rulX_cfg (p := p) (f := f) (m := m) hP j (by omega)
      by_cases hj : j = t + 1 - f
      · subst hj
        have w1 : ¬ nI (f + (t + 1 - f)) ≤ nI t := Int32.not_le.mpr (nI_lt (by omega) (by omega))
        have w2 : (rulX n dg fz S p f m (t + 1 - f)).2.1 = b := by rw [← q3]
        have w3 : (rulX n dg fz S p f m (t + 1 - f)).2.2 = c := by rw [← q3]
        rw [w2, w3]
        refine r_iload rfl rfl ?_
        refine r_iload_n rfl rfl ?_
        refine r_icmp_gt rfl (fun h53 => ?_) (fun h53 => ?_)
        · refine r_aload_n rfl rfl ?_
          refine r_getC rfl rfl (by decide) (by decide) rfl ?_
          refine r_getC rfl rfl (by decide) (by decide) rfl ?_
          refine r_iload_n rfl rfl ?_
          refine r_iconst rfl ?_
          refine r_iload_n rfl rfl ?_
          refine r_imul rfl ?_
          refine r_iast rfl rfl (by first | decide | assumption) (by first | exact s1 | exact s2) (by first | exact s1 | exact s2) ?_
          refine r_iload rfl rfl ?_
          refine r_bipush rfl ?_
          refine r_icmp_eq rfl (fun h132 => ?_) (fun h132 => ?_)
          · rw [if_pos h132]
            refine r_iload rfl rfl ?_
            refine r_iret rfl rfl ?_
            rw [bp, b2]
            exact ⟨rfl, rfl⟩
          · rw [if_neg h132]
            refine r_aload_n rfl rfl ?_
            refine r_getC rfl rfl (by decide) (by decide) rfl ?_
            refine r_iload rfl rfl ?_
            refine r_i2l rfl ?_
            refine r_callV rfl ct_X7_tellOne rfl rfl rfl (by decide) rfl (am_cnt rfl) ?_
            refine r_iload rfl rfl ?_
            refine r_iret rfl rfl ?_
            rw [bp, b2]
            exact ⟨rfl, rfl⟩
        · exact absurd (Int32.not_lt.mp h53) w1
      · have w1 : nI (f + j) ≤ nI t := nI_le (by omega) (by omega)
        have hdp := deedP_nI hcf (i := f + j) (by omega)
        by_cases hc : (f + j) % 2 = 0 ∧ 0 < fz (f + j)
        · have e2 : dgR dg fz p f (j + 1) = dgI (dgR dg fz p f j) p (f + j) := by rw [dgR, if_pos hc]
          have hcf2 := cfg_dgI (p := p) (i := f + j) hcf (by omega)
          rw [← e2] at hcf2
          have x1 : (rulX n dg fz S p f m (j + 1)).1 = tryS n (dgR dg fz p f (j + 1)) fz (uI (rulX n dg fz S p f m j).1 4 p (nI (f + j))) 1 m := by rw [rulX, if_pos hc]
          have x2 : (rulX n dg fz S p f m (j + 1)).2 = if b = -2 ∨ tryV n (dgR dg fz p f (j + 1)) fz (uI (rulX n dg fz S p f m j).1 4 p (nI (f + j))) 1 m < c then (nI (f + j), tryV n (dgR dg fz p f (j + 1)) fz (uI (rulX n dg fz S p f m j).1 4 p (nI (f + j))) 1 m) else (b, c) := by rw [rulX, if_pos hc, ← q3]
          refine r_iload rfl rfl ?_
          refine r_iload_n rfl rfl ?_
          refine r_icmp_gt rfl (fun h53 => ?_) (fun h53 => ?_)
          · exact absurd w1 (Int32.not_le.mpr h53)
          · refine r_aload_n rfl rfl ?_
            refine r_getC rfl rfl (by decide) (by decide) rfl ?_
            refine r_iload rfl rfl ?_
            refine r_callV rfl ct_X9_isDeed rfl rfl rfl (by decide) rfl (am_cnt rfl) ?_
            refine r_if_eq rfl (fun h65 => ?_) (fun h65 => ?_)
            · exact absurd (hdp.mpr hc) (b01_eq0.mp h65)
            · refine r_aload_n rfl rfl ?_
              refine r_getC rfl rfl (by decide) (by decide) rfl ?_
              refine r_getC rfl rfl (by decide) (by decide) rfl ?_
              refine r_iload_n rfl rfl ?_
              refine r_iload rfl rfl ?_
              refine r_iast rfl rfl (by first | decide | assumption) (by first | exact s1 | exact s2) (by first | exact s1 | exact s2) ?_
              rw [bp]
              refine r_aload_n rfl rfl ?_
              refine r_iload rfl rfl ?_
              refine r_iconst rfl ?_
              refine r_callV rfl (ct_X10_tryOut hcf2 hm) rfl rfl rfl (by decide) rfl (am_cnt rfl) ?_
              refine r_istore (L2 := [_, _, _, _, _, _, _, _, _]) rfl rfl ?_
              refine r_iload rfl rfl ?_
              refine r_bipush rfl ?_
              refine r_icmp_eq rfl (fun h92 => ?_) (fun h92 => ?_)
              · have hb := Or.inl (b := tryV n (dgR dg fz p f (j + 1)) fz (uI (rulX n dg fz S p f m j).1 4 p (nI (f + j))) 1 m < c) h92
                refine r_iload rfl rfl ?_
                refine r_istore (L2 := [_, _, _, _, _, _, _, _, _]) rfl rfl ?_
                refine r_iload rfl rfl ?_
                refine r_istore (L2 := [_, _, _, _, _, _, _, _, _]) rfl rfl ?_
                refine r_iinc (L2 := [_, _, _, _, _, _, _, _, _]) rfl rfl rfl ?_
                refine r_goto rfl ?_
                rw [nI_1, ← x1]
                exact ih (j + 1) _ _ _ (by omega) (by omega) (by rw [x2]; first | rw [if_pos hb] | rw [if_neg hb])
              · refine r_iload rfl rfl ?_
                refine r_iload rfl rfl ?_
                refine r_icmp_ge rfl (fun h99 => ?_) (fun h99 => ?_)
                · have hb : ¬ (b = -2 ∨ tryV n (dgR dg fz p f (j + 1)) fz (uI (rulX n dg fz S p f m j).1 4 p (nI (f + j))) 1 m < c) := fun z => z.elim h92 (Int32.not_lt.mpr h99)
                  refine r_iinc (L2 := [_, _, _, _, _, _, _, _, _]) rfl rfl rfl ?_
                  refine r_goto rfl ?_
                  rw [nI_1, ← x1]
                  exact ih (j + 1) _ _ _ (by omega) (by omega) (by rw [x2]; first | rw [if_pos hb] | rw [if_neg hb])
                · have hb := Or.inr (a := b = -2) (Int32.not_le.mp h99)
                  refine r_iload rfl rfl ?_
                  refine r_istore (L2 := [_, _, _, _, _, _, _, _, _]) rfl rfl ?_
                  refine r_iload rfl rfl ?_
                  refine r_istore (L2 := [_, _, _, _, _, _, _, _, _]) rfl rfl ?_
                  refine r_iinc (L2 := [_, _, _, _, _, _, _, _, _]) rfl rfl rfl ?_
                  refine r_goto rfl ?_
                  rw [nI_1, ← x1]
                  exact ih (j + 1) _ _ _ (by omega) (by omega) (by rw [x2]; first | rw [if_pos hb] | rw [if_neg hb])
        · have x1 : rulX n dg fz S p f m (j + 1) = rulX n dg fz S p f m j := by rw [rulX, if_neg hc]
          refine r_iload rfl rfl ?_
          refine r_iload_n rfl rfl ?_
          refine r_icmp_gt rfl (fun h53 => ?_) (fun h53 => ?_)
          · exact absurd w1 (Int32.not_le.mpr h53)
          · refine r_aload_n rfl rfl ?_
            refine r_getC rfl rfl (by decide) (by decide) rfl ?_
            refine r_iload rfl rfl ?_
            refine r_callV rfl ct_X9_isDeed rfl rfl rfl (by decide) rfl (am_cnt rfl) ?_
            refine r_if_eq rfl (fun h65 => ?_) (fun h65 => ?_)
            · refine r_iinc (L2 := [_, _, _, _, _, _, _, _, _]) rfl rfl rfl ?_
              refine r_goto rfl ?_
              rw [nI_1, ← x1]
              exact ih (j + 1) _ _ _ (by omega) (by omega) (by rw [x1, q3])
            · exact absurd (b01_f (fun z => hc (hdp.mp z))) h65
  refine r_aload_n rfl rfl ?_
  refine r_getC rfl rfl (by decide) (by decide) rfl ?_
  refine r_iload_n rfl rfl ?_
  refine r_callV rfl ct_X9_has rfl rfl rfl (by decide) rfl (am_cnt rfl) ?_
  refine r_if_eq rfl (fun h8 => ?_) (fun h8 => ?_)
  · exact absurd (hasP_nI hn hz hp) (b01_eq0.mp h8)
  · refine r_iload_n rfl rfl ?_
    refine r_if_lt rfl (fun h12 => ?_) (fun h12 => ?_)
    · exact absurd h12 c2
    · refine r_iload_n rfl rfl ?_
      refine r_bipush rfl ?_
      refine r_icmp_ge rfl (fun h18 => ?_) (fun h18 => ?_)
      · exact absurd h18 c3
      · refine r_iload_n rfl rfl ?_
        refine r_iload_n rfl rfl ?_
        refine r_icmp_gt rfl (fun h23 => ?_) (fun h23 => ?_)
        · exact absurd c4 (Int32.not_le.mpr h23)
        · refine r_iload rfl rfl ?_
          refine r_iconst rfl ?_
          refine r_sipush rfl ?_
          refine r_callS rfl (by decide) ct_X10_isWithin rfl rfl (am_cnt rfl) ?_
          refine r_if_ne rfl (fun h35 => ?_) (fun h35 => ?_)
          · refine r_bipush rfl ?_
            refine r_istore (L2 := [_, _, _, _, _, _, _, _, _]) rfl rfl ?_
            refine r_iconst rfl ?_
            refine r_istore (L2 := [_, _, _, _, _, _, _, _, _]) rfl rfl ?_
            refine r_iload_n rfl rfl ?_
            refine r_istore (L2 := [_, _, _, _, _, _, _, _, _]) rfl rfl ?_
            exact loop (t + 2) 0 _ _ none (by omega) (by omega) rfl
          · exact absurd (c1) (b01_eq0.mp h35)
