/-! Joint calls: two who each see their end. -/
theorem rm_t {S C U : am_S} {m : Nat} {f : Nat → Int64} (R : RM S) (h6 : m ≤ 6) (h1 : Kp S C) (hC : tC C m f) (h2 : Kp C U) (h3 : Kc C U) (hM : tM U m f) : RM U := by
  obtain ⟨n, nw, a, b⟩ := R
  exact ⟨n, nw, rc_k (h1.t h2) a, tld_of h6 (tC_k h3.1 h3.2 hC) hM⟩
theorem kn_frM {S T : am_S} (h : FrM S T) : Kn S T := ⟨⟨fun o k hs => by rw [h.1 o (by unfold scr at hs; omega)], h.2.2⟩, by rw [h.1 74 (by omega)], by rw [h.1 97 (by omega)], fun j => by rw [h.2.1], fun j => by rw [h.2.1]⟩
theorem kn_frN {S T : am_S} (h : FrN S T) : Kn S T := ⟨⟨fun o k hs => by
  by_cases z : o = 97
  · subst z
    exact h.2.1 k (by unfold scr at hs; omega)
  · rw [h.1 o z (by unfold scr at hs; omega) (by unfold scr at hs; omega)], h.2.2.2⟩, by rw [h.1 74 (by omega) (by omega) (by omega)], h.2.1 1 (by omega), fun j => by rw [h.2.2.1], fun j => by rw [h.2.2.1]⟩
theorem kn_frD {S T : am_S} (h : FrD S T) : Kn S T := ⟨⟨fun o k hs => by rw [h.1 o (by unfold scr at hs; omega) (by unfold scr at hs; omega)], h.2.2⟩, by rw [h.1 74 (by omega) (by omega)], by rw [h.1 97 (by omega) (by omega)], fun j => by rw [h.2.1], fun j => by rw [h.2.1]⟩
theorem kp_telL {S : am_S} {f : Nat → Int64} : ∀ n, Kp S (telL S f n)
  | 0 => kp_t0
  | n + 1 => (kp_telL n).t kp_tAdd
theorem tC_L {S : am_S} {f : Nat → Int64} : ∀ n, tC (telL S f n) n f
  | 0 => tC_0
  | n + 1 => tC_a (tC_L n) rfl
theorem kp_elL {S : am_S} {f : Nat → Int64} : ∀ n, Kp S (elL S f n)
  | 0 => kp_e0
  | n + 1 => (kp_elL n).t kp_eAdd
theorem kc_elL {S : am_S} {f : Nat → Int64} : ∀ n, Kc S (elL S f n)
  | 0 => kc_e0
  | n + 1 => (kc_elL n).t kc_eAdd
theorem tM_L {S : am_S} {f : Nat → Int64} : ∀ n, tM (elL S f n) n f
  | 0 => tM_0
  | n + 1 => tM_a (tM_L n) rfl
theorem tM_e {S : am_S} {n : Nat} {f g : Nat → Int64} (h : tM S n f) (e : ∀ j, j < n → f j = g j) : tM S n g := ⟨h.1, fun j hj => by rw [h.2 j hj, e j hj]⟩
theorem tM_k {S T : am_S} {n : Nat} {f : Nat → Int64} (h : Kn S T) (h1 : tM S n f) : tM T n f := ⟨by rw [h.2.2.1, h1.1], fun j hj => by rw [h.2.2.2.2, h1.2 j hj]⟩
theorem w_mul (x y : Int32) : x.toInt64 * y.toInt64 = iJ (x.toInt * y.toInt) := by
  have e : ∀ z : Int32, z.toInt64 = Int64.ofInt z.toInt := fun z => by
    rw [← Int32.toInt_toInt64 z, Int64.ofInt_toInt]
  rw [e x, e y]
  unfold iJ
  rw [Int64.ofInt_mul]
/-- what each case brings -/
def payS (S : am_S) (L : Nat) : Pay := fun i j a b => (gI S 119 (i * 3 + j)).toInt * (fVal (gI S 89) (q4 i j a b) 4 (fun _ => 0) L).toInt
theorem pay_MW {S : am_S} {n nw : Nat} (R : RC S n nw) : ∃ L, MW (payS S L) S ∧ Bd (payS S L) ∧ ∀ T, Kp S T → PyM (payS S L) T := by
  obtain ⟨⟨L, l1, l2, l3⟩, w⟩ := R.2.2.2.2.2.2.2.1
  refine ⟨L, fun i j a b hi hj ha hb => ?_, fun i j a b hi hj ha hb => ?_, fun T k => ⟨gI S 89, L, FmOk_c (S := S) (k.1 105 12 (by unfold scr; omega)) (fun j hj => k.1 104 _ (by unfold scr; omega)) (fun _ => rfl) l2, fun i j a b hi hj ha hb => ?_⟩⟩
  · rw [w_mul, l3 i j a b hi hj ha hb, (w (i * 3 + j) (by omega)).1]
    rfl
  · have b1 := (w (i * 3 + j) (by omega)).2
    have h0 : (0 : Int) ≤ (gI S 119 (i * 3 + j)).toInt := by
      have := Int32.le_iff_toInt_le.mp b1.1
      have e0 : (0 : Int32).toInt = 0 := by decide
      omega
    have h9 : (gI S 119 (i * 3 + j)).toInt ≤ 99 := by
      have := Int32.le_iff_toInt_le.mp b1.2
      have e0 : (99 : Int32).toInt = 99 := by decide
      omega
    unfold payS
    generalize hx : (fVal (gI S 89) (q4 i j a b) 4 (fun _ => 0) L) = x
    have x1 := Int32.le_toInt x
    have x2 := Int32.toInt_lt x
    generalize (gI S 119 (i * 3 + j)).toInt = u at h0 h9
    generalize x.toInt = v at x1 x2
    have m1 : u * (-2147483648) ≤ u * v := Int.mul_le_mul_of_nonneg_left (by omega) h0
    have m2 : u * v ≤ u * 2147483648 := Int.mul_le_mul_of_nonneg_left (by omega) h0
    omega
  · rw [w_mul, k.1 119 _ (by unfold scr; omega), show 3 * i + j = i * 3 + j by omega]
    rfl
theorem bs6_eq {m : Pay} {j : Nat} (hj : j < 6) : bs6M m j = bst6 m j := by
  obtain ⟨e, -⟩ := best_eq m
  have l0 := bo_lt (m := m) (k := pbI m 26) 0 (by omega)
  have l1 := bo_lt (m := m) (k := pbI m 26) 1 (by omega)
  have l2 := bo_lt (m := m) (k := pbI m 26) 2 (by omega)
  unfold bs6M bst6
  by_cases h : j < 3
  · rw [if_pos h, if_pos h, show b2I m 728 / 27 = pbI m 26 by omega]
  · rw [if_neg h, if_neg h, show b2I m 728 % 27 = bo m (pbI m 26) 0 * 9 + bo m (pbI m 26) 1 * 3 + bo m (pbI m 26) 2 by omega, ru_of bo_lt (j - 3) (by omega)]
theorem jn_two {d : Nat} {S : am_S} (R : RM S) : JnL (d + 700) iX10_two [.ref 0] iX11_two [.ref 97] S := by
  have R0 := R
  obtain ⟨n, nw, c, tl⟩ := R
  obtain ⟨L, hM, hB, hP⟩ := pay_MW c
  generalize payS S L = m at hM hB hP
  have A : am_CE (d + 700) _ _ _ _ _ := ct_X10_two hM hB
  refine jn_EE A (fun T hT => ?_)
  obtain ⟨T1, hT1, rfl⟩ := hT
  have k1 : Kp S (telL T1 (bst6 m) 6) := (kn_frM hT1).1.t (kp_telL 6)
  have B : am_CE (d + 700) _ _ _ _ _ := ct_X11_two (S := telL T1 (bst6 m) 6) rfl (hP _ (k1.t kp_th)) hB
  rw [(best_eq m).2] at B
  refine ⟨_, B, fun U hU => ?_⟩
  obtain ⟨U1, hU1, rfl⟩ := hU
  exact rm_t R0 (by decide) k1 (tC_L 6) ((kp_th.t (kn_frN hU1).1).t (kp_elL 6)) ((kc_th.t (kn_frN hU1).c).t (kc_elL 6)) (tM_e (tM_L 6) (fun j hj => bs6_eq hj))
theorem rule_dig {n : Int32} (h : okRule n) : ∃ a, a < 1000 ∧ n = nI a ∧ Dig (dgt a) := by
  obtain ⟨h1, h2, h3⟩ := h
  obtain ⟨a, ha, rfl⟩ := in_nI (m := 222) (by decide) h1
  have e1 : nI a - nI a / 10 * 10 = nI (a % 10) := pk_rem (d := 10) (by omega) (by decide) (by decide)
  have e2 : nI a / 10 = nI (a / 10) := pk_div (d := 10) (by omega) (by decide) (by decide)
  have e3 : nI (a / 10) - nI (a / 10) / 10 * 10 = nI (a / 10 % 10) := pk_rem (d := 10) (by omega) (by decide) (by decide)
  rw [e1] at h2
  rw [e2, e3] at h3
  have g2 : a % 10 ≤ 2 := (nI_leI (b := 2) (by omega) (by decide)).mp h2
  have g3 : a / 10 % 10 ≤ 2 := (nI_leI (b := 2) (by omega) (by decide)).mp h3
  refine ⟨a, by omega, rfl, fun i hi => ?_⟩
  unfold dgt
  split
  · omega
  · split <;> omega
theorem jn_stand {d : Nat} {S : am_S} (R : RM S) (x y : Int32) : Jn (d + 700) iX10_stand [.ref 0, .int x, .int y] iX11_stand [.ref 97, .int x, .int y] S := by
  have R0 := R
  obtain ⟨n, nw, c, tl⟩ := R
  by_cases h : okRule x ∧ okRule y
  · obtain ⟨h1, h2⟩ := h
    obtain ⟨a, ha, rfl, da⟩ := rule_dig h1
    obtain ⟨b, hb, rfl, db⟩ := rule_dig h2
    obtain ⟨L, hM, hB, hP⟩ := pay_MW c
    generalize payS S L = m at hM hB hP
    have A : am_CE (d + 700) _ _ _ _ _ := ct_X10_stand_ok hM hB da db ha hb h1 h2
    refine jn_EE A (fun T hT => ?_)
    obtain ⟨T1, hT1, rfl⟩ := hT
    have k1 : Kp S (t3 T1 (rnoI (plyR m a b).1).toInt64 (rnoI (plyR m a b).2.1).toInt64 (iJ (smZ m (plyR m a b).1 (plyR m a b).2.1))) := (kn_frM hT1).1.t kp_t3
    have B : am_CE (d + 700) _ _ _ _ _ := ct_X11_stand_ok (S := t3 T1 (rnoI (plyR m a b).1).toInt64 (rnoI (plyR m a b).2.1).toInt64 (iJ (smZ m (plyR m a b).1 (plyR m a b).2.1))) rfl (hP _ (k1.t kp_th)) hB da db h1 h2
    refine ⟨_, B, fun U hU => ?_⟩
    obtain ⟨U1, V, hU1, hV, rfl⟩ := hU
    exact rm_t R0 (by decide) k1 tC_3 (((kp_th.t (kn_frN hU1).1).t kp_e2).t ((kn_frD hV).1.t kp_eAdd)) (((kc_th.t (kn_frN hU1).c).t kc_e2).t ((kn_frD hV).c.t kc_eAdd)) (tM_a (tM_k (kn_frD hV) (tM_a (tM_a tM_0 rfl) rfl)) rfl)
  · exact jn_no R0 (ct_X10_stand_no h) (ct_X11_stand_no rfl h)
theorem jn_gap {d : Nat} {S : am_S} (R : RM S) : JnL (d + 700) iX10_gap [.ref 0] iX11_gap [.ref 97] S := by
  have R0 := R
  obtain ⟨n, nw, c, tl⟩ := R
  obtain ⟨L, hM, hB, hP⟩ := pay_MW c
  generalize payS S L = m at hM hB hP
  have A : am_CE (d + 700) _ _ _ _ _ := ct_X10_gap hM hB
  refine jn_EE A (fun T hT => ?_)
  obtain ⟨T1, hT1, rfl⟩ := hT
  have k1 : Kp S (t1 T1 (iJ (msb m))) := (kn_frM hT1).1.t kp_t1
  have B : am_CE (d + 700) _ _ _ _ _ := ct_X11_gap (S := t1 T1 (iJ (msb m))) rfl (hP _ (k1.t kp_th)) hB
  rw [(best_eq m).2] at B
  refine ⟨_, B, fun U hU => ?_⟩
  obtain ⟨W, hW, hU⟩ := hU
  exact rm_t R0 (by decide) k1 tC_1 (((kp_th.t (kn_frN hW).1).t kp_e1).t (kn_frD hU).1) (((kc_th.t (kn_frN hW).c).t kc_e1).t (kn_frD hU).c) (tM_k (kn_frD hU) tM_1)
