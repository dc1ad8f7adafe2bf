/-! Joint calls: steer, blind, chance, sure. -/
theorem sumN_z {f : Nat → Nat} {a : Nat} : ∀ m, (∀ i, a ≤ i → i < a + m → f i = 0) → sumN f (a + m) = sumN f a
  | 0, _ => rfl
  | m + 1, h => by
    rw [← Nat.add_assoc, sumN, sumN_z m (fun i h1 h2 => h i h1 (by omega)), h (a + m) (by omega) (by omega), Nat.add_zero]
theorem sumN_sh {f : Nat → Nat} {c : Nat} (h : ∀ k, k < c → f k = 0) : ∀ m, sumN f (c + m) = sumN (fun i => f (c + i)) m
  | 0 => by
    have e := sumN_z (f := f) (a := 0) c (fun i _ hi => h i (by omega))
    rw [Nat.zero_add] at e
    rw [Nat.add_zero, e]
    rfl
  | m + 1 => by
    rw [← Nat.add_assoc, sumN, sumN_sh h m, sumN]
theorem sumN_congr {f g : Nat → Nat} : ∀ n, (∀ j, j < n → f j = g j) → sumN f n = sumN g n
  | 0, _ => rfl
  | n + 1, h => by rw [sumN, sumN, sumN_congr n (fun j hj => h j (by omega)), h n (by omega)]
theorem cst_cm {dn sl up u fa da : Nat} (h1 : 1 ≤ u) (hu : u ≤ 5) (q : Nat) : cstA dn sl up u fa da q = cmA dn sl up u da (q + (fa + 40)) := by
  show sumN (fun i => wnd dn sl up u i * dst (fa + q + i + 99) (80 + u + da)) 11 = sumN (fun k => wnM dn sl up u k * dst (q + (fa + 40) + k + 99) (126 + da)) 13
  have r := sumN_sh (f := fun k => wnM dn sl up u k * dst (q + (fa + 40) + k + 99) (126 + da)) (c := 6 - u) (fun k hk => by
    show wnM dn sl up u k * _ = 0
    unfold wnM
    rw [if_neg (by omega), Nat.zero_mul]) (7 + u)
  rw [show 6 - u + (7 + u) = 13 by omega] at r
  rw [r]
  have e1 : ∀ i, (fun i => (fun k => wnM dn sl up u k * dst (q + (fa + 40) + k + 99) (126 + da)) (6 - u + i)) i = (fun i => wnd dn sl up u i * dst (fa + q + i + 99) (80 + u + da)) i := fun i => by
    show wnM dn sl up u (6 - u + i) * dst (q + (fa + 40) + (6 - u + i) + 99) (126 + da) = wnd dn sl up u i * dst (fa + q + i + 99) (80 + u + da)
    unfold wnM
    rw [if_pos (by omega), show 6 - u + i + u - 6 = i by omega]
    have ed : dst (q + (fa + 40) + (6 - u + i) + 99) (126 + da) = dst (fa + q + i + 99) (80 + u + da) := by
      unfold dst
      omega
    rw [ed]
  rw [sumN_congr (7 + u) (fun j _ => e1 j)]
  have z := fun i (hi : 2 * u + 1 ≤ i) => show (fun i => wnd dn sl up u i * dst (fa + q + i + 99) (80 + u + da)) i = 0 from by
    show wnd dn sl up u i * _ = 0
    rw [wnd_hi u i (by omega), Nat.zero_mul]
  have a := sumN_z (f := fun i => wnd dn sl up u i * dst (fa + q + i + 99) (80 + u + da)) (a := 2 * u + 1) (10 - 2 * u) (fun i h _ => z i h)
  have b := sumN_z (f := fun i => wnd dn sl up u i * dst (fa + q + i + 99) (80 + u + da)) (a := 2 * u + 1) (6 - u) (fun i h _ => z i h)
  rw [show 2 * u + 1 + (10 - 2 * u) = 11 by omega] at a
  rw [show 2 * u + 1 + (6 - u) = 7 + u by omega] at b
  rw [a, b]
theorem lst_sh {h g : Nat → Nat} {q c : Nat} (h0 : h q = g (q + c)) : ∀ T, (∀ t, 1 ≤ t → t ≤ T → (t + 1) / 2 ≤ q ∧ h (mvN q t) = g (mvN q t + c)) → lst h q T = lst g (q + c) T
  | 0, _ => by rw [lst, lst, h0]
  | t + 1, hh => by
    have ih := lst_sh h0 t (fun s h1 h2 => hh s h1 (by omega))
    obtain ⟨h1, h2⟩ := hh (t + 1) (by omega) (Nat.le_refl _)
    have e : mvN (q + c) (t + 1) = mvN q (t + 1) + c := by
      unfold mvN
      split <;> omega
    rw [lst, lst, ih, h2, e]
theorem hop_sh {C D N M : Nat → Nat} {dn sl up p c j : Nat} (h1 : 1 ≤ j) (hC : C j = D (j + c)) (hN : ∀ i, j - 1 ≤ i → i ≤ j + 1 → N i = M (i + c)) : hop C N dn sl up p j = hop D M dn sl up p (j + c) := by
  unfold hop
  rw [hC, hN (j - 1) (Nat.le_refl _) (by omega), hN j (by omega) (by omega), hN (j + 1) (by omega) (Nat.le_refl _), show j - 1 + c = j + c - 1 by omega, show j + 1 + c = j + c + 1 by omega]
theorem hops_sh {C D N M : Nat → Nat} {dn sl up p c q mo s : Nat} (hC : ∀ j, C j = D (j + c)) (hN : ∀ i, s ≤ i → N i = M (i + c)) (hq : s + (mo + 1) ≤ q) : lst (hop C N dn sl up p) q (2 * mo) = lst (hop D M dn sl up p) (q + c) (2 * mo) := by
  refine lst_sh (hop_sh (by omega) (hC q) (fun i a b => hN i (by omega))) (2 * mo) (fun t h1 h2 => ?_)
  have b1 : s + 1 ≤ mvN q t := by
    unfold mvN
    split <;> omega
  exact ⟨by omega, hop_sh (by omega) (hC _) (fun i a b => hN i (by omega))⟩
theorem stg_sh {C D : Nat → Nat} {dn sl up mo c : Nat} (hC : ∀ j, C j = D (j + c)) : ∀ s q, s * (mo + 1) ≤ q → stg C dn sl up mo s q = stg D dn sl up mo s (q + c)
  | 0, q, _ => rfl
  | s + 1, q, hq => by
    have e : (s + 1) * (mo + 1) = s * (mo + 1) + (mo + 1) := Nat.succ_mul s (mo + 1)
    rw [stg, stg, hops_sh (s := s * (mo + 1)) hC (fun i hi => stg_sh hC s i hi) (by omega)]
theorem stgF_sh {C D : Nat → Nat} {dn sl up mo c s q : Nat} (hC : ∀ j, C j = D (j + c)) (hq : (s + 1) * (mo + 1) ≤ q) : stgF C dn sl up mo s q = stgF D dn sl up mo s (q + c) := by
  have e : (s + 1) * (mo + 1) = s * (mo + 1) + (mo + 1) := Nat.succ_mul s (mo + 1)
  rw [stgF, stgF, hops_sh (s := s * (mo + 1)) hC (fun i hi => stg_sh hC s i hi) (by omega)]
theorem kn_frH {S T : am_S} (h : FrH S T) : Kn S T := ⟨⟨fun o k hs => by rw [h.1 o (by unfold scr at hs; omega)], h.2.2⟩, by rw [h.1 74 (by decide)], by rw [h.1 97 (by decide)], fun j => by rw [h.2.1 75 (by omega)], fun j => by rw [h.2.1 98 (by omega)]⟩
theorem rc_frS {S T : am_S} {n nw : Nat} (h : FrS S T) (hH : HopeOk T) (R : RC S n nw) : RC T n nw := rc_c (fun o k hs => by
  by_cases z : o = 97
  · subst z
    exact h.2.1 k (fun z => hs (by unfold scr; omega))
  · rw [h.1 o z]) (fun c hc => h.2.2.2 c (by omega) (by omega)) ⟨hH, by
    rw [h.2.2.2 6 (by decide) (by decide)]
    exact R.2.2.2.2.2.2.2.2.2.2.2⟩ R
theorem kc_frS {S T : am_S} (h : FrS S T) : Kc S T := ⟨by rw [h.1 74 (by decide)], fun j => by rw [h.2.2.1 75 (by omega)]⟩
/-- the wind and where it is due, on both sides -/
theorem rc_wd {S : am_S} {n nw : Nat} (R : RC S n nw) : ∃ da dn sl up, da ≤ 198 ∧ WndOk dn sl up S ∧ gI S 1 4 = nI da - 99 ∧ ∀ T, Kp S T → WnM dn sl up T ∧ gI T 97 10 = nI da - 99 ∧ HopeOk T := by
  obtain ⟨da, dn, up, a1, a2, a3, a4, a5, a6, a7, a8⟩ := R.2.2.2.1
  refine ⟨da, dn, 10 - dn - up, up, a1, ⟨a5, a7, by omega⟩, a3, fun T k => ⟨⟨by rw [k.1 97 11 (by unfold scr; omega), a6], by rw [k.1 97 12 (by unfold scr; omega), a8], by omega⟩, by rw [k.1 97 10 (by unfold scr; omega), a4], ?_⟩⟩
  have e := R.2.2.2.2.2.2.2.2.2.2.1
  unfold HopeOk at e ⊢
  rw [k.2 4, k.2 5]
  exact e
theorem st_in {lt fr n mo : Int32} (h : okSteer lt fr n mo) : ∃ a f m o, a ≤ 4 ∧ f ≤ 100 ∧ (1 ≤ m ∧ m ≤ 6) ∧ (1 ≤ o ∧ o ≤ 4) ∧ lt = nI a ∧ fr = nI f - 50 ∧ n = nI m ∧ mo = nI o := by
  obtain ⟨h1, h2, h3, h4⟩ := h
  obtain ⟨a, ha, rfl⟩ := in_nI (v := lt) (m := 4) (by decide) h1
  obtain ⟨m, hm, rfl⟩ := in_nI (v := n) (m := 6) (by decide) ⟨by have := h3.1; grind, h3.2⟩
  obtain ⟨o, ho, rfl⟩ := in_nI (v := mo) (m := 4) (by decide) ⟨by have := h4.1; grind, h4.2⟩
  have hm1 : 1 ≤ m := (nI_leI (a := 1) (by decide) (by omega)).mp h3.1
  have ho1 : 1 ≤ o := (nI_leI (a := 1) (by decide) (by omega)).mp h4.1
  have f0 : 0 ≤ fr + 50 ∧ fr + 50 ≤ nI 100 := by
    have e : nI 100 = 100 := rfl
    rw [e]
    constructor <;> grind
  obtain ⟨f, hf, e⟩ := in_nI (v := fr + 50) (m := 100) (by decide) f0
  exact ⟨a, f, m, o, ha, hf, ⟨hm1, hm⟩, ⟨ho1, ho⟩, rfl, by rw [← e]; grind, rfl, rfl⟩
theorem sh30 {fa : Nat} : 30 + (fa + 40) = fa + 70 := by omega
theorem mo30 {s mo : Nat} (hs : s ≤ 6) (hm : mo ≤ 4) : s * (mo + 1) ≤ 30 := Nat.mul_le_mul hs (show mo + 1 ≤ 5 by omega)
theorem jn_steer {d : Nat} {S : am_S} (R : RM S) (lt fr n mo : Int32) : Jn (d + 700) iX10_steer [.ref 0, .int lt, .int fr, .int n, .int mo] iX11_steer [.ref 97, .int lt, .int fr, .int n, .int mo] S := by
  have R0 := R
  obtain ⟨np, nw, c, tl⟩ := R
  by_cases h : okSteer lt fr n mo
  · obtain ⟨a, f, m, o, ha, hf, hm, ho, rfl, rfl, rfl, rfl⟩ := st_in h
    obtain ⟨da, dn, sl, up, d1, d2, d3, d4⟩ := rc_wd c
    have A : am_CE (d + 700) _ _ _ _ _ := ct_X10_steer_ok d2 d3 d1 ha hf hm.1 hm.2 ho.1 ho.2
    have e1 := stg_sh (C := cstA dn sl up (a + 1) f da) (D := cmA dn sl up (a + 1) da) (dn := dn) (sl := sl) (up := up) (mo := o) (c := f + 40) (cst_cm (by omega) (by omega)) m 30 (mo30 hm.2 ho.2)
    have e2 := stgF_sh (C := cstA dn sl up (a + 1) f da) (D := cmA dn sl up (a + 1) da) (dn := dn) (sl := sl) (up := up) (mo := o) (c := f + 40) (s := m - 1) (q := 30) (cst_cm (by omega) (by omega)) (by rw [show m - 1 + 1 = m by omega]; exact mo30 hm.2 ho.2)
    rw [sh30] at e1 e2
    rw [e1, e2] at A
    refine jn_EE A (fun T hT => ?_)
    obtain ⟨T1, hT1, rfl⟩ := hT
    generalize hC : t2 T1 (lN (stg (cmA dn sl up (a + 1) da) dn sl up o m (f + 70))) (stgF (cmA dn sl up (a + 1) da) dn sl up o (m - 1) (f + 70)).toInt64 = C
    have k0 : Kp S C := by rw [← hC]; exact (kn_frH hT1).1.t kp_t2
    have k1 : Kp S (uI C 97 0 0) := k0.t kp_th
    obtain ⟨w1, w2, w3⟩ := d4 _ k1
    have B : am_CE (d + 700) _ _ _ _ _ := ct_X11_steer_ok (S := C) rfl rfl w1 w2 d1 w3 ha hf hm.1 hm.2 ho.1 ho.2
    refine ⟨_, B, fun U hU => ?_⟩
    obtain ⟨U1, u1, u2, rfl⟩ := hU
    exact ⟨np, nw, rc_k kp_e2 (rc_frS u1 u2 (rc_k k1 c)), tld_of (n := 2) (by decide) (tC_k ((kc_th.t (kc_frS u1)).t kc_e2).1 ((kc_th.t (kc_frS u1)).t kc_e2).2 (by rw [← hC]; exact tC_2)) tM_2⟩
  · exact jn_no R0 (ct_X10_steer_no h) (ct_X11_steer_no rfl h)
theorem absJ_N {x : Nat} (h : x < 9223372036854775808) : absJ (lN x) = lN x := by
  unfold absJ
  by_cases z : 0 < lN x
  · rw [if_pos z]
  · rw [if_neg z]
    have e : (0 : Int64) = lN 0 := rfl
    rw [e, pk_lLT (by decide) h] at z
    obtain rfl : x = 0 := by omega
    rfl
theorem absJ_s {x y : Nat} (hx : x < 9223372036854775808) (hy : y < 9223372036854775808) : absJ (lN x - lN y) = lN (dst x y) := by
  unfold dst
  by_cases h : y ≤ x
  · rw [lN_sub h, absJ_N (by omega), show x - y + (y - x) = x - y by omega]
  · have e : lN x - lN y = -(lN (y - x)) := by
      rw [← lN_sub (show x ≤ y by omega)]
      exact (Int64.neg_sub).symm
    have n0 : ¬ 0 < lN x - lN y := by
      intro z
      have l := (pk_lLT hx hy).mpr (show x < y by omega)
      rw [Int64.lt_iff_toInt_lt, Int64.toInt_sub, pk_lT hx, pk_lT hy, Int.bmod_eq_of_le (by omega) (by omega)] at z
      have e0 : (0 : Int64).toInt = 0 := by decide
      omega
    unfold absJ
    rw [if_neg n0, e, Int64.neg_neg, show x - y + (y - x) = y - x by omega]
theorem frc_eq {S : am_S} {u : Int64} {x y : Nat} (hu : absJ u = lN x) (hx : x < 9223372036854775808) (h0 : 0 < y) (hy : y < 1152921504606846976) : frc S u (lN y) = t2 S (u / lN (Nat.gcd x y)) (lN y / lN (Nat.gcd x y)) := by
  have gp := Nat.gcd_pos_of_pos_right x h0
  have gl : Nat.gcd x y ≤ y := Nat.le_of_dvd h0 (Nat.gcd_dvd_right x y)
  have e : frG 1000 (absJ u) (absJ (lN y)) = lN (Nat.gcd x y) := by
    rw [hu, absJ_N (by omega)]
    exact frG_gcd 60 1000 x y hx (by omega) (by
      have : (2 : Nat) ^ 60 = 1152921504606846976 := by decide
      omega) (by decide)
  have n0 : ¬ lN (Nat.gcd x y) = 0 := fun z => absurd ((pk_lEQ (b := 0) (by omega) (by decide)).mp z) (by omega)
  unfold frc
  rw [e, if_neg n0]
theorem cst1_le {dn sl up fa da q : Nat} (h : dn + sl + up = 10) (hfa : fa ≤ 100) (hda : da ≤ 198) (hq : q ≤ 80) : ∀ n, n ≤ 11 → cstN dn sl up 1 fa da q n ≤ n * 6000
  | 0, _ => Nat.le_refl _
  | n + 1, hn => by
    have a := cst1_le h hfa hda hq n (by omega)
    have b := wnd_le h 1 n
    have e : dst (fa + q + n + 99) (80 + 1 + da) ≤ 600 := by unfold dst; omega
    have f := Nat.mul_le_mul b e
    have g : cstN dn sl up 1 fa da q (n + 1) = cstN dn sl up 1 fa da q n + wnd dn sl up 1 n * dst (fa + q + n + 99) (80 + 1 + da) := rfl
    rw [g]
    have p : (10 : Nat) ^ 1 = 10 := by decide
    rw [p] at f
    omega
theorem jn_blind {d : Nat} {S : am_S} (R : RM S) (lt fr n mo : Int32) : Jn (d + 700) iX10_blind [.ref 0, .int lt, .int fr, .int n, .int mo] iX11_blind [.ref 97, .int lt, .int fr, .int n, .int mo] S := by
  have R0 := R
  obtain ⟨np, nw, c, tl⟩ := R
  by_cases h : okSteer lt fr n mo
  · obtain ⟨a, f, m, o, ha, hf, hm, ho, rfl, rfl, rfl, rfl⟩ := st_in h
    obtain ⟨da, dn, sl, up, d1, d2, d3, d4⟩ := rc_wd c
    have A : am_CE (d + 700) _ _ _ _ _ := ct_X10_blind_ok d2 d3 d1 ha hf hm.1 hm.2 ho.1 ho.2
    have b1 := stg_le (C := cstA dn sl up (a + 1) f da) (K := 11 * 60000000) (mo := o) d2.2.2 (fun j hj => cst_le d2.2.2 (by omega) hf d1 hj 11 (Nat.le_refl _)) m 30 (by omega)
    have b2 := stg_le (C := cstA dn sl up (0 + 1) f da) (K := 11 * 6000) (mo := o) d2.2.2 (fun j hj => cst1_le d2.2.2 hf d1 hj 11 (Nat.le_refl _)) m 30 (by omega)
    have e1 := stg_sh (C := cstA dn sl up (a + 1) f da) (D := cmA dn sl up (a + 1) da) (dn := dn) (sl := sl) (up := up) (mo := o) (c := f + 40) (cst_cm (by omega) (by omega)) m 30 (mo30 hm.2 ho.2)
    have e2 := stg_sh (C := cstA dn sl up (0 + 1) f da) (D := cmA dn sl up (0 + 1) da) (dn := dn) (sl := sl) (up := up) (mo := o) (c := f + 40) (cst_cm (by omega) (by omega)) m 30 (mo30 hm.2 ho.2)
    rw [sh30] at e1 e2
    rw [e1, e2] at A
    rw [e1] at b1
    rw [e2] at b2
    generalize hx : stg (cmA dn sl up (a + 1) da) dn sl up o m (f + 70) = x at A b1
    generalize hy : stg (cmA dn sl up (0 + 1) da) dn sl up o m (f + 70) = y at A b2
    have p6 : 10 ^ m ≤ 1000000 := Nat.pow_le_pow_right (n := 10) (by decide) hm.2
    have p4 : 10 ^ a ≤ 10000 := Nat.pow_le_pow_right (n := 10) (by decide) ha
    have p10 : 10 ^ (a + m) ≤ 10000000000 := Nat.pow_le_pow_right (n := 10) (by decide) (show a + m ≤ 10 by omega)
    have p0 : 0 < 10 ^ (a + m) := Nat.pow_pos (by decide)
    have x1 : m * (11 * 60000000 * 10 ^ m) ≤ 6 * (11 * 60000000 * 1000000) := Nat.mul_le_mul hm.2 (Nat.mul_le_mul (Nat.le_refl _) p6)
    have y1 : m * (11 * 6000 * 10 ^ m) ≤ 6 * (11 * 6000 * 1000000) := Nat.mul_le_mul hm.2 (Nat.mul_le_mul (Nat.le_refl _) p6)
    have y2 : y * 10 ^ a ≤ (6 * (11 * 6000 * 1000000)) * 10000 := Nat.mul_le_mul (Nat.le_trans b2 y1) p4
    have ab : absJ (lN x - lN y * pow10 a) = lN (dst x (y * 10 ^ a)) := by
      rw [pow10_lN, lN_mul]
      exact absJ_s (by omega) (by omega)
    have db : dst x (y * 10 ^ a) < 9223372036854775808 := by
      unfold dst
      omega
    refine jn_EE A (fun T hT => ?_)
    obtain ⟨T1, hT1, rfl⟩ := hT
    rw [pow10_lN (a + m), frc_eq ab db p0 (by omega)]
    generalize hC : t2 T1 ((lN x - lN y * pow10 a) / lN (Nat.gcd (dst x (y * 10 ^ a)) (10 ^ (a + m)))) (lN (10 ^ (a + m)) / lN (Nat.gcd (dst x (y * 10 ^ a)) (10 ^ (a + m)))) = C
    have k0 : Kp S C := by rw [← hC]; exact (kn_frH hT1).1.t kp_t2
    have k1 : Kp S (uI C 97 0 0) := k0.t kp_th
    obtain ⟨w1, w2, w3⟩ := d4 _ k1
    have B : am_CE (d + 700) _ _ _ _ _ := ct_X11_blind_ok (S := C) (x := dst x (y * 10 ^ a)) rfl rfl rfl w1 w2 d1 w3 ha hf hm.1 hm.2 ho.1 ho.2 (by rw [hx, hy]; exact ab) db
    refine ⟨_, B, fun U hU => ?_⟩
    obtain ⟨U1, u1, u2, hU⟩ := hU
    rw [hx, hy] at hU
    rw [hU]
    exact ⟨np, nw, rc_k kp_e2 (rc_frS u1 u2 (rc_k k1 c)), tld_of (n := 2) (by decide) (tC_k ((kc_th.t (kc_frS u1)).t kc_e2).1 ((kc_th.t (kc_frS u1)).t kc_e2).2 (by rw [← hC]; exact tC_2)) tM_2⟩
  · exact jn_no R0 (ct_X10_blind_no h) (ct_X11_blind_no rfl h)
/-! chances -/
def fgN (a b c : Nat) : Nat → Nat
  | 0 => a
  | 1 => b
  | 2 => c
  | _ + 3 => 10 - a - b - c
theorem rc_fog2 {S T : am_S} {n nw p : Nat} (R : RC S n nw) (k : Kp S T) (hp : p < n) : ∃ g : Nat → Nat, sumN g 4 = 10 ∧ ∀ i, i < 4 → gI S (6 + 2 * p + 1) i = nI (g i) ∧ fgM T p i = nI (g i) := by
  obtain ⟨a, b, c, h, f1, f2, f3, g0, g1, g2, g3⟩ := (R.2.2.1 p (by have := rc_n6 R; omega)).1 hp
  have t1 : gI T 121 p = nI a := by rw [k.1 121 p (by unfold scr; omega), f1]
  have t2 : gI T 122 p = nI b := by rw [k.1 122 p (by unfold scr; omega), f2]
  have t3 : gI T 123 p = nI c := by rw [k.1 123 p (by unfold scr; omega), f3]
  refine ⟨fgN a b c, ?_, fun i hi => ?_⟩
  · show 0 + a + b + c + (10 - a - b - c) = 10
    omega
  · match i, hi with
    | 0, _ => exact ⟨g0, t1⟩
    | 1, _ => exact ⟨g1, t2⟩
    | 2, _ => exact ⟨g2, t3⟩
    | 3, _ =>
      refine ⟨g3, ?_⟩
      show 10 - gI T 121 p - gI T 122 p - gI T 123 p = nI (10 - a - b - c)
      rw [t1, t2, t3, show (10 : Int32) = nI 10 from rfl, pk_sub (by omega), pk_sub (by omega), pk_sub (by omega)]
theorem sumI_N {f : Nat → Int32} {g : Nat → Nat} : ∀ n, (∀ j, j < n → f j = nI (g j)) → sumI f n = nI (sumN g n)
  | 0, _ => rfl
  | n + 1, h => by rw [sumI, sumN, sumI_N n (fun j hj => h j (by omega)), h n (by omega), nI_add]
theorem sumN_le {f g : Nat → Nat} : ∀ n, (∀ j, j < n → f j ≤ g j) → sumN f n ≤ sumN g n
  | 0, _ => Nat.le_refl _
  | n + 1, h => by
    have := sumN_le n (fun j hj => h j (by omega))
    have := h n (by omega)
    rw [sumN, sumN]
    omega
theorem sumN_ml {g : Nat → Nat} {c : Nat} : ∀ n, sumN (fun j => c * g j) n = c * sumN g n
  | 0 => rfl
  | n + 1 => by rw [sumN, sumN_ml n, sumN, Nat.mul_add]
theorem sumN_mr {g : Nat → Nat} {c : Nat} : ∀ n, sumN (fun j => g j * c) n = sumN g n * c
  | 0 => by rw [sumN, sumN, Nat.zero_mul]
  | n + 1 => by rw [sumN, sumN_mr n, sumN, Nat.add_mul]
theorem cas_eq {S T : am_S} {n nw p q : Nat} (R : RC S n nw) (k : Kp S T) (hp : p < n) (hq : q < n) (m : Int32) : ansI S p q m = casM T p q m ∧ ∃ x, x ≤ 100 ∧ casM T p q m = nI x ∧ (m = nI 199 → x = 100) := by
  have h6 := rc_n6 R
  obtain ⟨g, sg, hg⟩ := rc_fog2 R k hp
  obtain ⟨f, sf, hf⟩ := rc_fog2 R k hq
  have e1 : gI S (6 + 2 * q) 0 + gI S (6 + 2 * q) 2 + gI S (6 + 2 * p) 0 = gI T 99 q + gI T 101 q + gI T 99 p := by
    rw [k.1 99 q (by unfold scr; omega), k.1 101 q (by unfold scr; omega), k.1 99 p (by unfold scr; omega), (R.1.2.2.2 q (by omega)).1.1, (R.1.2.2.2 q (by omega)).1.2.2.1, (R.1.2.2.2 p (by omega)).1.1]
  refine ⟨?_, sumN (fun i => sumN (fun j => if gI T 99 q + gI T 101 q + gI T 99 p + nI i + nI j ≤ m then f i * g j else 0) 4) 4, ?_, ?_, fun hm => ?_⟩
  · unfold ansI casM
    rw [e1]
    refine sumI_congr 4 (fun i hi => sumI_congr 4 (fun j hj => ?_))
    rw [(hf i hi).1, (hf i hi).2, (hg j hj).1, (hg j hj).2]
  · have b : sumN (fun i => sumN (fun j => if gI T 99 q + gI T 101 q + gI T 99 p + nI i + nI j ≤ m then f i * g j else 0) 4) 4 ≤ sumN (fun i => f i * 10) 4 := sumN_le 4 (fun i hi => by
      have := sumN_le (f := fun j => if gI T 99 q + gI T 101 q + gI T 99 p + nI i + nI j ≤ m then f i * g j else 0) (g := fun j => f i * g j) 4 (fun j hj => by
        show (if gI T 99 q + gI T 101 q + gI T 99 p + nI i + nI j ≤ m then f i * g j else 0) ≤ f i * g j
        split
        · exact Nat.le_refl _
        · exact Nat.zero_le _)
      rw [sumN_ml, sg] at this
      exact this)
    rw [sumN_mr, sf] at b
    exact b
  · unfold casM
    refine sumI_N 4 (fun i hi => sumI_N 4 (fun j hj => ?_))
    rw [(hf i hi).2, (hg j hj).2]
    show (if gI T 99 q + gI T 101 q + gI T 99 p + nI i + nI j ≤ m then nI (f i) * nI (g j) else 0) = nI (if gI T 99 q + gI T 101 q + gI T 99 p + nI i + nI j ≤ m then f i * g j else 0)
    split
    · exact pk_mul _ _
    · rfl
  · obtain ⟨q1, q2, -, -, q5, q6⟩ := rc_pm R k q (by omega)
    obtain ⟨p1, p2, -⟩ := rc_pm R k p (by omega)
    have c : ∀ i j, i < 4 → j < 4 → gI T 99 q + gI T 101 q + gI T 99 p + nI i + nI j ≤ m := fun i j hi hj => by
      rw [q1, q5, p1, hm]
      simp only [nI_add]
      exact nI_le (by omega) (by decide)
    have b : sumN (fun i => sumN (fun j => if gI T 99 q + gI T 101 q + gI T 99 p + nI i + nI j ≤ m then f i * g j else 0) 4) 4 = sumN (fun i => f i * 10) 4 := sumN_congr 4 (fun i hi => by
      have := sumN_congr (f := fun j => if gI T 99 q + gI T 101 q + gI T 99 p + nI i + nI j ≤ m then f i * g j else 0) (g := fun j => f i * g j) 4 (fun j hj => if_pos (c i j hi hj))
      rw [sumN_ml, sg] at this
      exact this)
    rw [b, sumN_mr, sf]
theorem nI_64 {x : Nat} (h : x < 2147483648) : (nI x).toInt64 = lN x := nI_l h
theorem jn_chance {d : Nat} {S : am_S} (R : RM S) (p q m : Int32) : Jn (d + 700) iX10_chance [.ref 0, .int p, .int q, .int m] iX11_chance [.ref 97, .int p, .int q, .int m] S := by
  have R0 := R
  obtain ⟨n, nw, c, tl⟩ := R
  have h6 := rc_n6 c
  by_cases h : twoP S p q ∧ 0 ≤ m ∧ m ≤ 199
  · obtain ⟨h, hm⟩ := h
    obtain ⟨i, j, hi, hj, hij, rfl, rfl⟩ := rc_twoN c h
    have A : am_CT (d + 700) _ _ _ _ _ := ct_X10_chance_ok (rc_n1 c) h6 hi hj hij hm
    have nr : ∀ T, Kp S T → (fBit (gI T 102 i) (nI j) ↔ nearP S i j) := fun T k => (rc_WE c k i j (by omega) (by omega)).symm
    by_cases z : nearP S i j
    · obtain ⟨e0, x, hx, e1, -⟩ := cas_eq c (Kp.r (S := S)) hi hj m
      rw [if_pos z, if_pos z, e0, e1, nI_64 (by omega), show (100 : Int64) = lN 100 from rfl, frc_eq (absJ_N (by omega)) (by omega) (by decide) (by decide)] at A
      generalize hC : t2 S (lN x / lN (Nat.gcd x 100)) (lN 100 / lN (Nat.gcd x 100)) = C at A
      have k0 : Kp S C := by rw [← hC]; exact kp_t2
      have k1 : Kp S (uI C 97 0 0) := k0.t kp_th
      have ex : casM (uI C 97 0 0) i j m = nI x := by
        rw [← (cas_eq c k1 hi hj m).1, e0, e1]
      have B : am_CT (d + 700) _ _ _ _ _ := ct_X11_chance_ok (S := C) (x := x) rfl (rc_n2 (rc_k k1 c)) h6 hi hj hij hm (by rw [ex, nI_64 (by omega)]; exact absJ_N (by omega)) (by omega)
      rw [if_pos ((nr _ k1).mpr z), if_pos ((nr _ k1).mpr z), ex, nI_64 (by omega)] at B
      exact jn_TT A B (rm_2 R0 (C := C) k0 (by rw [← hC]; exact tC_2) kp_th kc_th)
    · rw [if_neg z, if_neg z] at A
      obtain ⟨-, x, hx, e1, -⟩ := cas_eq c (kp_th (S := S) (v := 0)) hi hj m
      have B : am_CT (d + 700) _ _ _ _ _ := ct_X11_chance_ok (S := S) (x := x) rfl (rc_n2 (rc_k kp_th c)) h6 hi hj hij hm (by rw [e1, nI_64 (by omega)]; exact absJ_N (by omega)) (by omega)
      rw [if_neg (fun y => z ((nr _ kp_th).mp y)), if_neg (fun y => z ((nr _ kp_th).mp y))] at B
      exact jn_TT A B (rm_no R0)
  · exact jn_no R0 (ct_X10_chance_no h) (ct_X11_chance_no rfl (by rw [th_z3]; exact rc_z0 c) (fun z => h ⟨(rc_two c).mp (th_twoN.mp z.1), z.2⟩))
theorem jn_sure {d : Nat} {S : am_S} (R : RM S) (p q w : Int32) : Jn (d + 700) iX10_sure [.ref 0, .int p, .int q, .int w] iX11_sure [.ref 97, .int p, .int q, .int w] S := by
  have R0 := R
  obtain ⟨n, nw, c, tl⟩ := R
  have h6 := rc_n6 c
  by_cases h : twoP S p q ∧ 1 ≤ w ∧ w ≤ 100
  · obtain ⟨h, hm⟩ := h
    obtain ⟨i, j, hi, hj, hij, rfl, rfl⟩ := rc_twoN c h
    have A : am_CT (d + 700) _ _ _ _ _ := ct_X10_sure_ok (rc_n1 c) h6 hi hj hij hm
    have B : am_CT (d + 700) _ _ _ _ _ := ct_X11_sure_ok (S := S) rfl (rc_n2 (rc_k kp_th c)) h6 hi hj hij hm (by
      obtain ⟨-, x, hx, e1, e2⟩ := cas_eq c (kp_th (S := S) (v := 0)) hi hj (nI 199)
      rw [e1, e2 rfl]
      have := hm.2
      have e : nI 100 = 100 := rfl
      rw [e]
      grind)
    have e : sureM (uI S 97 0 0) i j w = sureN S i j w := (sure_eq (fun m => (cas_eq c (kp_th (S := S) (v := 0)) hi hj m).1)).symm
    have nr := (rc_WE c (kp_th (S := S) (v := 0)) i j (by omega) (by omega)).symm
    rw [e, if_cg nr] at B
    exact jn_TT A B (rm_no R0)
  · exact jn_no R0 (ct_X10_sure_no h) (ct_X11_sure_no rfl (by rw [th_z3]; exact rc_z0 c) (fun z => h ⟨(rc_two c).mp (th_twoN.mp z.1), z.2⟩))
