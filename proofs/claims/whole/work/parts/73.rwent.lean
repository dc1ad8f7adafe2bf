/-! Joint calls: what went by. -/
theorem kp_o {S T : am_S} (h : Kp S T) {o : Nat} (ho : ∀ k, ¬ scr o k) : gI T o = gI S o := funext fun k => h.1 o k (ho k)
theorem rc_due {S : am_S} {n nw : Nat} (R : RC S n nw) : gI S 97 10 = gI S 1 4 := by
  obtain ⟨da, dn, up, a1, a2, a3, a4, a5, a6, a7, a8⟩ := R.2.2.2.1
  rw [a4, a3]
/-- places and what each did, on both sides, behind a step that keeps them -/
theorem rc_plc {S : am_S} {n nw : Nat} (R : RC S n nw) {m : Nat} (hm : m ≤ nw) : gI S 109 m = gI S 55 m := (R.2.2.2.2.1.2.2.2.2.2.1 m hm).symm
theorem rc_did {S : am_S} {n nw k p m : Nat} (R : RC S n nw) (hk : k < 4) (hp : p < n) (hm : m < nw) : gI S 110 (gAt k p m) = gI S (56 + k) (p * 200 + m) := ((R.2.2.2.2.1.2.2.2.2.2.2 k p m hk (by have := rc_n6 R; omega)).1 hp hm).symm
theorem rc_nw {S : am_S} {n nw : Nat} (R : RC S n nw) : nw ≤ 199 := R.2.2.2.2.1.1
theorem rc_w1 {S : am_S} {n nw : Nat} (R : RC S n nw) : gI S 54 0 = nI nw := R.2.2.2.2.1.2.1
theorem rc_w2 {S : am_S} {n nw : Nat} (R : RC S n nw) : gI S 97 23 = nI nw := R.2.2.2.2.1.2.2.1
theorem off_eq {S T : am_S} {n nw : Nat} (R : RC S n nw) (h : Kp S T) {m : Nat} (hm : m ≤ nw) : offM T m = offI S m := by
  have R2 := rc_k h R
  have := rc_nw R
  unfold offM offI
  rw [rc_plc R2 hm, rc_due R2, h.1 55 m (by unfold scr; omega), h.1 1 4 (by unfold scr; omega)]
theorem jn_cost {d : Nat} {S : am_S} (R : RM S) : Jn (d + 700) iX10_cost [.ref 0] iX11_cost [.ref 97] S := by
  have R0 := R
  obtain ⟨n, nw, c, tl⟩ := R
  have A : am_CT (d + 700) _ _ _ _ _ := ct_X10_cost (S := S) (rc_w1 c) (rc_nw c)
  generalize hC : t2 S (setI (fun m => gI S 55 m = gI S 1 4) nw).toInt64 (topI (offI S) 0 (nw + 1)).toInt64 = C at A
  have k1 : Kp S (uI C 97 0 0) := by
    rw [← hC]
    exact kp_t2.t kp_th
  have c2 := rc_k k1 c
  have B : am_CT (d + 700) _ _ _ _ _ := ct_X11_cost (S := C) rfl (rc_w2 c2) (rc_nw c)
  have e1 : sumI (fun j => offM (uI C 97 0 0) (j + 1)) nw = sumI (fun j => offI S (j + 1)) nw := sumI_congr nw (fun j hj => off_eq c k1 (by omega))
  have e2 : setI (fun m => gI (uI C 97 0 0) 109 m = gI (uI C 97 0 0) 97 10) nw = setI (fun m => gI S 55 m = gI S 1 4) nw := setI_congr (fun j hj => by
    rw [rc_plc c2 hj, rc_due c2, k1.1 55 j (by unfold scr; omega), k1.1 1 4 (by unfold scr; omega)])
  have e3 : topI (offM (uI C 97 0 0)) 0 (nw + 1) = topI (offI S) 0 (nw + 1) := topI_congr (nw + 1) (fun j _ hj => off_eq c k1 (by omega))
  rw [e1, e2, e3] at B
  exact jn_TT A B (rm_2 R0 (C := C) (by rw [← hC]; exact kp_t2) (by rw [← hC]; exact tC_2) kp_th kc_th)
theorem jn_swings {d : Nat} {S : am_S} (R : RM S) : Jn (d + 700) iX10_swings [.ref 0] iX11_swings [.ref 97] S := by
  have R0 := R
  obtain ⟨n, nw, c, tl⟩ := R
  have A : am_CT (d + 700) _ _ _ _ _ := ct_X10_swings (S := S) (rc_w1 c) (rc_nw c)
  generalize hC : t2 S (topI (offI S) 0 (nw / 2 + 1)).toInt64 (topI (offI S) (nw / 2 + 1) (nw + 1 - (nw / 2 + 1))).toInt64 = C at A
  have k1 : Kp S (uI C 97 0 0) := by
    rw [← hC]
    exact kp_t2.t kp_th
  have c2 := rc_k k1 c
  have B : am_CT (d + 700) _ _ _ _ _ := ct_X11_swings (S := C) rfl (rc_w2 c2) (rc_nw c)
  have e1 : turnI (fun m => gI (uI C 97 0 0) 109 m - gI (uI C 97 0 0) 97 10) (nw + 1) = turnI (fun m => gI S 55 m - gI S 1 4) (nw + 1) := turnI_congr (nw + 1) (fun j hj => by
    rw [rc_plc c2 (by omega), rc_due c2, k1.1 55 j (by unfold scr; omega), k1.1 1 4 (by unfold scr; omega)])
  have e2 : topI (offM (uI C 97 0 0)) 0 (nw / 2 + 1) = topI (offI S) 0 (nw / 2 + 1) := topI_congr _ (fun j _ hj => off_eq c k1 (by omega))
  have e3 : topI (offM (uI C 97 0 0)) (nw / 2 + 1) (nw + 1 - (nw / 2 + 1)) = topI (offI S) (nw / 2 + 1) (nw + 1 - (nw / 2 + 1)) := topI_congr _ (fun j _ hj => off_eq c k1 (by omega))
  rw [e1, e2, e3] at B
  exact jn_TT A B (rm_2 R0 (C := C) (by rw [← hC]; exact kp_t2) (by rw [← hC]; exact tC_2) kp_th kc_th)
theorem echoI_congr {f g f2 g2 : Nat → Int32} : ∀ n, (∀ j, j < n → f j = f2 j ∧ g j = g2 j) → echoI f g n = echoI f2 g2 n
  | 0, _ => rfl
  | n + 1, h => by
    unfold echoI
    rw [echoI_congr n (fun j hj => h j (by omega)), (h n (by omega)).1, (h n (by omega)).2]
theorem did_eq {S T : am_S} {n nw k p m : Nat} (R : RC S n nw) (h : Kp S T) (hk : k < 4) (hp : p < n) (hm : m < nw) : gI T 110 (gAt k p m) = gI S (56 + k) (p * 200 + m) := by
  rw [rc_did (rc_k h R) hk hp hm, h.1 (56 + k) _ (by unfold scr; omega)]
theorem jn_echo {d : Nat} {S : am_S} (R : RM S) (p : Int32) : Jn (d + 700) iX10_echo [.ref 0, .int p] iX11_echo [.ref 97, .int p] S := by
  have R0 := R
  obtain ⟨n, nw, c, tl⟩ := R
  have z3 : gI (uI S 97 0 0) 97 3 = gI S 97 3 := by (repeat first | rw [gI_un (by omega)] | rw [gI_ua (by omega) (by omega)])
  by_cases h : hasP S p
  · obtain ⟨i, hi, rfl⟩ := rc_hasN c h
    have A : am_CT (d + 700) _ _ _ _ _ := ct_X10_echo_ok (S := S) (rc_n1 c) (rc_n6 c) (rc_w1 c) (rc_nw c) hi
    generalize hC : t1 S (echoI (fun m => gI S 57 (i * 200 + m)) (fun m => gI S 58 (i * 200 + m)) nw).2.1.toInt64 = C at A
    have k1 : Kp S (uI C 97 0 0) := by
      rw [← hC]
      exact kp_t1.t kp_th
    have c2 := rc_k k1 c
    have B : am_CT (d + 700) _ _ _ _ _ := ct_X11_echo_ok (S := C) rfl (rc_n2 c2) (rc_n6 c) (rc_w2 c2) (rc_nw c) hi
    have e : ecM (uI C 97 0 0) i nw = echoI (fun m => gI S 57 (i * 200 + m)) (fun m => gI S 58 (i * 200 + m)) nw := echoI_congr nw (fun j hj => ⟨did_eq c k1 (k := 1) (by decide) hi hj, did_eq c k1 (k := 2) (by decide) hi hj⟩)
    rw [e] at B
    exact jn_TT A B (rm_1 R0 (C := C) (by rw [← hC]; exact kp_t1) (by rw [← hC]; exact tC_1) kp_th kc_th)
  · exact jn_no R0 (ct_X10_echo_no h) (ct_X11_echo_no rfl (by rw [z3]; exact rc_z0 c) (fun z => h ((rc_has c).mp (th_hasN.mp z))))
theorem sgn_agn {a b : Int32} : sgn a * sgn b < 0 ↔ agn a b := by
  rw [sgn_val, sgn_val]
  by_cases h1 : a < 0
  · rw [if_pos h1]
    have n1 : ¬ 0 < a := by grind
    by_cases h2 : b < 0
    · rw [if_pos h2]
      exact ⟨fun z => absurd z (by decide), fun z => by rcases z with z | z <;> grind⟩
    · rw [if_neg h2]
      by_cases h3 : b = 0
      · rw [if_pos h3]
        exact ⟨fun z => absurd z (by decide), fun z => by rcases z with z | z <;> grind⟩
      · rw [if_neg h3]
        exact ⟨fun _ => Or.inr ⟨h1, by grind⟩, fun _ => by decide⟩
  · rw [if_neg h1]
    by_cases h4 : a = 0
    · rw [if_pos h4]
      have : ∀ x : Int32, 0 * x = 0 := fun x => by rw [Int32.zero_mul]
      rw [this]
      exact ⟨fun z => absurd z (by decide), fun z => by rcases z with z | z <;> grind⟩
    · rw [if_neg h4]
      have p1 : 0 < a := by grind
      by_cases h2 : b < 0
      · rw [if_pos h2]
        exact ⟨fun _ => Or.inl ⟨p1, h2⟩, fun _ => by decide⟩
      · rw [if_neg h2]
        by_cases h3 : b = 0
        · rw [if_pos h3]
          exact ⟨fun z => absurd z (by decide), fun z => by rcases z with z | z <;> grind⟩
        · rw [if_neg h3]
          exact ⟨fun z => absurd z (by decide), fun z => by rcases z with z | z <;> grind⟩
theorem wait_eq {f g f2 g2 : Nat → Int32} : ∀ n, (∀ j, j < n → f2 j = f j ∧ g2 j = g j) → wtI f2 g2 n = waitI f g n
  | 0, _ => rfl
  | n + 1, h => by
    unfold wtI waitI
    rw [wait_eq n (fun j hj => h j (by omega)), (h n (by omega)).1, (h n (by omega)).2]
    by_cases z : agn (f n) (g n)
    · rw [if_pos z, if_pos (sgn_agn.mpr z)]
    · rw [if_neg z, if_neg (fun y => z (sgn_agn.mp y))]
theorem jn_waits {d : Nat} {S : am_S} (R : RM S) (p : Int32) : Jn (d + 700) iX10_waits [.ref 0, .int p] iX11_waits [.ref 97, .int p] S := by
  have R0 := R
  obtain ⟨n, nw, c, tl⟩ := R
  have z3 : gI (uI S 97 0 0) 97 3 = gI S 97 3 := by (repeat first | rw [gI_un (by omega)] | rw [gI_ua (by omega) (by omega)])
  by_cases h : hasP S p
  · obtain ⟨i, hi, rfl⟩ := rc_hasN c h
    have A : am_CT (d + 700) _ _ _ _ _ := ct_X10_waits_ok (S := S) (rc_n1 c) (rc_n6 c) (rc_w1 c) (rc_nw c) hi
    generalize hC : t2 S (waitC S n i nw).2.1.toInt64 (waitC S n i nw).2.2.2.toInt64 = C at A
    have k1 : Kp S (uI C 97 0 0) := by
      rw [← hC]
      exact kp_t2.t kp_th
    have c2 := rc_k k1 c
    have B : am_CT (d + 700) _ _ _ _ _ := ct_X11_waits_ok (S := C) rfl (rc_n2 c2) (rc_n6 c) (rc_w2 c2) (rc_nw c) hi
    have e : wtM (uI C 97 0 0) n i nw = waitC S n i nw := wait_eq nw (fun j hj => ⟨did_eq c k1 (k := 0) (by decide) hi hj, sumI_congr n (fun q hq => did_eq c k1 (k := 0) (by decide) hq hj)⟩)
    rw [e] at B
    exact jn_TT A B (rm_2 R0 (C := C) (by rw [← hC]; exact kp_t2) (by rw [← hC]; exact tC_2) kp_th kc_th)
  · exact jn_no R0 (ct_X10_waits_no h) (ct_X11_waits_no rfl (by rw [z3]; exact rc_z0 c) (fun z => h ((rc_has c).mp (th_hasN.mp z))))
/-! Pulls. -/
theorem kp_swS {S : am_S} {lt n : Nat} {kk x : Int32} : Kp S (swS S lt kk x n) := (kp_u (by unfold scr; omega)).t (kp_r (fun k => by unfold scr; omega))
theorem kp_plS {S : am_S} {lt n : Nat} {kk x : Int32} : Kp S (plS S lt kk x n) := kp_r (fun k => by unfold scr; omega)
theorem kc_plS {S : am_S} {lt n : Nat} {kk x : Int32} : Kc S (plS S lt kk x n) := ⟨by unfold plS; rw [gI_rI_ne (by decide)], fun _ => rfl⟩
theorem jn_pull {d : Nat} {S : am_S} (R : RM S) (lt kk x n : Int32) : Jn (d + 700) iX10_pull [.ref 0, .int lt, .int kk, .int x, .int n] iX11_pull [.ref 97, .int lt, .int kk, .int x, .int n] S := by
  by_cases h : (0 ≤ lt ∧ lt ≤ 20) ∧ (1 ≤ kk ∧ kk ≤ 20) ∧ (1 ≤ x ∧ x ≤ 999) ∧ (2 ≤ n ∧ n ≤ 199)
  · obtain ⟨h1, h2, h3, h4⟩ := h
    obtain ⟨a, ha, rfl⟩ := in_nI (m := 20) (by decide) h1
    obtain ⟨m, hm, rfl⟩ := in_nI (m := 199) (by decide) ⟨by have := h4.1; grind, h4.2⟩
    have hm2 : 2 ≤ m := (nI_leI (a := 2) (by decide) (by omega)).mp h4.1
    have A : am_CT (d + 700) _ _ _ _ _ := ct_X10_pull_ok (S := S) ha h2 h3 hm2 hm
    have B : am_CT (d + 700) _ _ _ _ _ := ct_X11_pull_ok (S := pulS S a kk x m) rfl ha h2 h3 hm2 hm
    exact jn_TT A B (rm_3 R (C := pulS S a kk x m) (kp_swS.t kp_t3) tC_3 (kp_th.t kp_plS) (kc_th.t kc_plS))
  · exact jn_no R (ct_X10_pull_no h) (ct_X11_pull_no rfl h)
theorem kn_sw {S T : am_S} (h : SwOnly S T) : Kn S T := by
  obtain ⟨z, g, rfl⟩ := h
  exact ⟨(kp_u (by unfold scr; omega)).t (kp_r (fun k => by unfold scr; omega)), by rw [gI_rI_ne (by decide)]; exact gI_un (by omega), by rw [gI_rI_ne (by decide)]; exact gI_un (by omega), fun _ => rfl, fun _ => rfl⟩
theorem kn_pl {S T : am_S} (h : PlOnly S T) : Kn S T := by
  obtain ⟨g, rfl⟩ := h
  exact ⟨kp_r (fun k => by unfold scr; omega), by rw [gI_rI_ne (by decide)], by rw [gI_rI_ne (by decide)], fun _ => rfl, fun _ => rfl⟩
theorem Kn.c {S T : am_S} (h : Kn S T) : Kc S T := ⟨h.2.1, h.2.2.2.1⟩
theorem jn_edge {d : Nat} {S : am_S} (R : RM S) (lt : Int32) : Jn (d + 700) iX10_edge [.ref 0, .int lt] iX11_edge [.ref 97, .int lt] S := by
  by_cases h : 0 ≤ lt ∧ lt ≤ 20
  · obtain ⟨a, ha, rfl⟩ := in_nI (m := 20) (by decide) h
    have A : am_CE (d + 700) _ _ _ _ _ := ct_X10_edge_ok (S := S) ha
    refine jn_EE A (fun T hT => ?_)
    have B : am_CE (d + 700) _ _ _ _ _ := ct_X11_edge_ok (S := T) rfl ha
    exact ⟨_, B, fun U hU => rm_kn (((kn_sw hT).t kn_th).t (kn_pl hU)) R⟩
  · exact jn_no R (ct_X10_edge_no h) (ct_X11_edge_no rfl h)
theorem gnt_rm {S T U : am_S} {b s : Int32} (R : RM S) (hT : gntP S b s T) (hU : gnmP (uI T 97 0 0) b s U) : RM U := by
  unfold gntP at hT
  unfold gnmP at hU
  by_cases z : b = -2
  · rw [if_pos z] at hT hU
    exact rm_kn (((kn_sw hT).t kn_th).t (kn_pl hU)) R
  · rw [if_neg z] at hT hU
    obtain ⟨T1, hT1, rfl⟩ := hT
    obtain ⟨U1, hU1, rfl⟩ := hU
    exact rm_1 R (C := t1 T1 s.toInt64) ((kn_sw hT1).1.t kp_t1) tC_1 (kp_th.t (kn_pl hU1).1) (kc_th.t (kn_pl hU1).c)
theorem jn_gnt {d mi1 mi2 : Nat} {as1 as2 : List Value} {S : am_S} {r : Int32} {b s : Int32} (R : RM S) (A : am_CE d mi1 as1 S (some (.int r)) (gntP S b s)) (B : ∀ T, am_CE d mi2 as2 T (some (.int r)) (gnmP (uI T 97 0 0) b s)) : Jn d mi1 as1 mi2 as2 S := jn_EE A (fun T hT => ⟨_, B T, fun U hU => gnt_rm R hT hU⟩)
theorem jn_gentle {d : Nat} {S : am_S} (R : RM S) (lt x : Int32) : Jn (d + 700) iX10_gentle [.ref 0, .int lt, .int x] iX11_gentle [.ref 97, .int lt, .int x] S := by
  by_cases h : (0 ≤ lt ∧ lt ≤ 20) ∧ (1 ≤ x ∧ x ≤ 999)
  · obtain ⟨h1, h2⟩ := h
    obtain ⟨a, ha, rfl⟩ := in_nI (m := 20) (by decide) h1
    exact jn_gnt R (ct_X10_gentle_ok ha h2) (fun T => ct_X11_gentle_ok (S := T) rfl ha h2)
  · exact jn_no R (ct_X10_gentle_no h) (ct_X11_gentle_no rfl h)
