/-! steer, blind, fractions of the reference. -/
theorem ct_X11_isSteering {d : Nat} {S : am_S} {lt fr n mo : Int32} : am_CT (d + 2) iX11_isSteering [.int lt, .int fr, .int n, .int mo] S (some (.int (b01 (okSteer lt fr n mo)))) (S) := by
  refine am_CT_in mmX11_isSteering rfl rfl rfl ?_
  refine r_iload_n rfl rfl ?_
  refine r_i2l rfl ?_
  refine r_lconst rfl ?_
  refine r_ldc2_w rfl ?_
  refine r_callS rfl (by decide) ct_X11_in rfl rfl (am_cnt rfl) ?_
  refine r_if_eq rfl (fun h9 => ?_) (fun h9 => ?_)
  · refine r_iconst rfl ?_
    refine r_zret rfl rfl (by simp) ?_
    refine ⟨?_, rfl⟩
    simp only [b01_eq0, okSteer, b01, wl_m999, wg_m999, wl_m99, wg_m99, wl_m50, wg_m50, wl_m1, wg_m1, wl_0, wg_0, wl_1, wg_1, wl_2, wg_2, wl_3, wg_3, wl_4, wg_4, wl_6, wg_6, wl_9, wg_9, wl_10, wg_10, wl_11, wg_11, wl_20, wg_20, wl_48, wg_48, wl_50, wg_50, wl_57, wg_57, wl_99, wg_99, wl_100, wg_100, wl_199, wg_199, wl_222, wg_222, wl_999, wg_999, wl_9999, wg_9999, fa_wide_le] at *
    grind
  · refine r_iload_n rfl rfl ?_
    refine r_i2l rfl ?_
    refine r_ldc2_w rfl ?_
    refine r_ldc2_w rfl ?_
    refine r_callS rfl (by decide) ct_X11_in rfl rfl (am_cnt rfl) ?_
    refine r_if_eq rfl (fun h23 => ?_) (fun h23 => ?_)
    · refine r_iconst rfl ?_
      refine r_zret rfl rfl (by simp) ?_
      refine ⟨?_, rfl⟩
      simp only [b01_eq0, okSteer, b01, wl_m999, wg_m999, wl_m99, wg_m99, wl_m50, wg_m50, wl_m1, wg_m1, wl_0, wg_0, wl_1, wg_1, wl_2, wg_2, wl_3, wg_3, wl_4, wg_4, wl_6, wg_6, wl_9, wg_9, wl_10, wg_10, wl_11, wg_11, wl_20, wg_20, wl_48, wg_48, wl_50, wg_50, wl_57, wg_57, wl_99, wg_99, wl_100, wg_100, wl_199, wg_199, wl_222, wg_222, wl_999, wg_999, wl_9999, wg_9999, fa_wide_le] at *
      grind
    · refine r_iload_n rfl rfl ?_
      refine r_i2l rfl ?_
      refine r_lconst rfl ?_
      refine r_ldc2_w rfl ?_
      refine r_callS rfl (by decide) ct_X11_in rfl rfl (am_cnt rfl) ?_
      refine r_if_eq rfl (fun h35 => ?_) (fun h35 => ?_)
      · refine r_iconst rfl ?_
        refine r_zret rfl rfl (by simp) ?_
        refine ⟨?_, rfl⟩
        simp only [b01_eq0, okSteer, b01, wl_m999, wg_m999, wl_m99, wg_m99, wl_m50, wg_m50, wl_m1, wg_m1, wl_0, wg_0, wl_1, wg_1, wl_2, wg_2, wl_3, wg_3, wl_4, wg_4, wl_6, wg_6, wl_9, wg_9, wl_10, wg_10, wl_11, wg_11, wl_20, wg_20, wl_48, wg_48, wl_50, wg_50, wl_57, wg_57, wl_99, wg_99, wl_100, wg_100, wl_199, wg_199, wl_222, wg_222, wl_999, wg_999, wl_9999, wg_9999, fa_wide_le] at *
        grind
      · refine r_iload_n rfl rfl ?_
        refine r_i2l rfl ?_
        refine r_lconst rfl ?_
        refine r_ldc2_w rfl ?_
        refine r_callS rfl (by decide) ct_X11_in rfl rfl (am_cnt rfl) ?_
        refine r_if_eq rfl (fun h47 => ?_) (fun h47 => ?_)
        · refine r_iconst rfl ?_
          refine r_zret rfl rfl (by simp) ?_
          refine ⟨?_, rfl⟩
          simp only [b01_eq0, okSteer, b01, wl_m999, wg_m999, wl_m99, wg_m99, wl_m50, wg_m50, wl_m1, wg_m1, wl_0, wg_0, wl_1, wg_1, wl_2, wg_2, wl_3, wg_3, wl_4, wg_4, wl_6, wg_6, wl_9, wg_9, wl_10, wg_10, wl_11, wg_11, wl_20, wg_20, wl_48, wg_48, wl_50, wg_50, wl_57, wg_57, wl_99, wg_99, wl_100, wg_100, wl_199, wg_199, wl_222, wg_222, wl_999, wg_999, wl_9999, wg_9999, fa_wide_le] at *
          grind
        · refine r_iconst rfl ?_
          refine r_goto rfl ?_
          refine r_zret rfl rfl (by simp) ?_
          refine ⟨?_, rfl⟩
          simp only [b01_eq0, okSteer, b01, wl_m999, wg_m999, wl_m99, wg_m99, wl_m50, wg_m50, wl_m1, wg_m1, wl_0, wg_0, wl_1, wg_1, wl_2, wg_2, wl_3, wg_3, wl_4, wg_4, wl_6, wg_6, wl_9, wg_9, wl_10, wg_10, wl_11, wg_11, wl_20, wg_20, wl_48, wg_48, wl_50, wg_50, wl_57, wg_57, wl_99, wg_99, wl_100, wg_100, wl_199, wg_199, wl_222, wg_222, wl_999, wg_999, wl_9999, wg_9999, fa_wide_le] at *
          grind
theorem ct_X11_steer_no {d : Nat} {S T : am_S} {lt fr n mo : Int32} (hT : uI S 97 0 0 = T) (h : ¬ okSteer lt fr n mo) : am_CT (d + 4) iX11_steer [.ref 97, .int lt, .int fr, .int n, .int mo] S (some (.int (-1))) (T) := by
  refine am_CT_in mmX11_steer rfl rfl rfl ?_
  refine r_aload_n rfl rfl ?_
  refine r_iconst rfl ?_
  refine r_putI rfl rfl (by decide) (by decide) rfl ?_
  try rw [hT]
  refine r_iload_n rfl rfl ?_
  refine r_iload_n rfl rfl ?_
  refine r_iload_n rfl rfl ?_
  refine r_iload rfl rfl ?_
  refine r_callS rfl (by decide) ct_X11_isSteering rfl rfl (am_cnt rfl) ?_
  refine r_if_ne rfl (fun h13 => ?_) (fun h13 => ?_)
  · exact absurd (b01_f h) h13
  · refine r_iconst rfl ?_
    refine r_iret rfl rfl ?_
    exact ⟨rfl, rfl⟩
theorem fr120 {fa : Nat} : nI fa - 50 = nI (fa + 70) - 120 := by
  rw [← nI_add, show nI 70 = 70 from rfl]
  grind
theorem ct_X11_steer_ok {d : Nat} {S T : am_S} {dn sl up da lt fa n mo : Nat} {Cm : Nat → Nat} (hT : uI S 97 0 0 = T) (hCm : cmA dn sl up (lt + 1) da = Cm) (hW : WnM dn sl up T) (hdu : gI T 97 10 = nI da - 99) (hda : da ≤ 198) (hH : HopeOk T) (hl : lt ≤ 4) (hfa : fa ≤ 100) (hn1 : 1 ≤ n) (hn : n ≤ 6) (hm1 : 1 ≤ mo) (hm : mo ≤ 4) : am_CE (d + 4) iX11_steer [.ref 97, .int (nI lt), .int (nI fa - 50), .int (nI n), .int (nI mo)] S (some (.int 0)) (fun U => ∃ U1, FrS T U1 ∧ HopeOk U1 ∧ U = e2 U1 (lN (stg Cm dn sl up mo n (fa + 70))) (stgF Cm dn sl up mo (n - 1) (fa + 70)).toInt64) := by
  refine am_CE_in mmX11_steer rfl rfl rfl ?_
  have ok := okSt hl hfa hn1 hn hm1 hm
  have st : ∀ {d : Nat}, am_CE (d + 3) iX11_steers [.ref 97, .int (nI lt), .int (nI fa - 50), .int (nI n), .int (nI mo)] T (some (.long (lN (stg Cm dn sl up mo n (fa + 70))))) (fun U => FrS T U ∧ HopeOk U ∧ gI U 97 37 = stgF Cm dn sl up mo (n - 1) (fa + 70)) := fun {d} => by
    rw [fr120]
    exact ct_X11_steers hCm hW hdu hda hH hl (by omega) (by omega) hn1 hn hm
  refine r_aload_n rfl rfl ?_
  refine r_iconst rfl ?_
  refine r_putI rfl rfl (by decide) (by decide) rfl ?_
  try rw [hT]
  refine r_iload_n rfl rfl ?_
  refine r_iload_n rfl rfl ?_
  refine r_iload_n rfl rfl ?_
  refine r_iload rfl rfl ?_
  refine r_callS rfl (by decide) ct_X11_isSteering rfl rfl (am_cnt rfl) ?_
  refine r_if_ne rfl (fun h13 => ?_) (fun h13 => ?_)
  · refine r_aload_n rfl rfl ?_
    refine r_iload_n rfl rfl ?_
    refine r_iload_n rfl rfl ?_
    refine r_iload_n rfl rfl ?_
    refine r_iload rfl rfl ?_
    refine r_callVE rfl st rfl rfl rfl (by decide) rfl (am_cnt rfl) (fun U hU => ?_)
    refine r_lstore (L2 := [_, _, _, _, _, _, _]) rfl rfl ?_
    refine r_aload_n rfl rfl ?_
    refine r_iconst rfl ?_
    refine r_putI rfl rfl (by decide) (by decide) rfl ?_
    refine r_aload_n rfl rfl ?_
    refine r_lload rfl rfl ?_
    refine r_callV rfl (ct_X11_enters u971 (by decide)) rfl rfl rfl (by decide) rfl (am_cnt rfl) ?_
    refine r_aload_n rfl rfl ?_
    refine r_aload_n rfl rfl ?_
    refine r_getI rfl rfl (by decide) (by decide) rfl ?_
    rw [eAdd_97 (by decide), gI_uI, if_pos rfl, if_neg (by decide), hU.2.2]
    refine r_i2l rfl ?_
    refine r_callV rfl (ct_X11_enters eAdd_n (by decide)) rfl rfl rfl (by decide) rfl (am_cnt rfl) ?_
    refine r_iconst rfl ?_
    refine r_iret rfl rfl ?_
    exact ⟨rfl, _, rfl, U, hU.1, hU.2.1, rfl⟩
  · exact absurd (ok) (b01_eq0.mp h13)
theorem ct_X11_power {d : Nat} {S : am_S} {n : Nat} (hn : n < 2147483647) : am_CT (d + 1) iX11_power [.long 10, .int (nI n)] S (some (.long (pow10 n))) (S) := by
  refine am_CT_in mmX11_power rfl rfl rfl ?_
  have loop : ∀ (k : Nat) (j : Nat), (j ≤ n) → (n < j + k) → am_Ex (am_Call am_MT (d + 0)) mmX11_power none (fun r1 G1 => r1 = (some (.long (pow10 n))) ∧ G1 = am_H (S)) (fun _ _ _ _ _ _ => False) 5 [some (.long 10), none, some (.int (nI n)), some (.long (pow10 j)), none, some (.int (nI j))] [] (am_H (S)) 0 0 := by
    intro k
    induction k with
    | zero =>
      intro j h1 h2
      omega
    | succ k ih =>
      intro j h1 h2
      refine r_iload rfl rfl ?_
      refine r_iload_n rfl rfl ?_
      refine r_icmp_ge rfl (fun h8 => ?_) (fun h8 => ?_)
      · rw [nI_leI (by omega) (by omega)] at h8
        obtain rfl : j = n := by omega
        refine r_lload_n rfl rfl ?_
        refine r_lret rfl ?_
        exact ⟨rfl, rfl⟩
      · rw [nI_leI (by omega) (by omega)] at h8
        refine r_lload_n rfl rfl ?_
        refine r_lload_n rfl rfl ?_
        refine r_lmul rfl ?_
        refine r_lstore_n (L2 := [_, _, _, _, _, _]) rfl rfl ?_
        refine r_iinc (L2 := [_, _, _, _, _, _]) rfl rfl rfl ?_
        refine r_goto rfl ?_
        rw [nI_1]
        exact ih (j + 1) (by omega) (by omega)
  refine r_lconst rfl ?_
  refine r_lstore_n (L2 := [_, _, _, _, _, _]) rfl rfl ?_
  refine r_iconst rfl ?_
  refine r_istore (L2 := [_, _, _, _, _, _]) rfl rfl ?_
  exact loop (n + 1) 0 (by omega) (by omega)
theorem pow10_lN : ∀ n, pow10 n = lN (10 ^ n)
  | 0 => rfl
  | n + 1 => by rw [pow10, pow10_lN n, show (10 : Int64) = lN 10 from rfl, lN_mul, Nat.pow_succ]
theorem absJ_m {a : Int64} : (if a < 0 then -a else a) = absJ a := by
  unfold absJ
  by_cases h : a < 0
  · rw [if_pos h, if_neg (fun z => by rw [fa_lt64] at h z; omega)]
  · rw [if_neg h]
    by_cases h0 : 0 < a
    · rw [if_pos h0]
    · rw [if_neg h0]
      have : a = 0 := by
        apply Int64.toInt_inj.mp
        rw [fa_lt64] at h h0
        have z : (0 : Int64).toInt = 0 := by decide
        omega
      rw [this]
      decide
theorem ct_X11_common {d : Nat} {S : am_S} {a : Int64} {x y : Nat} (ha : absJ a = lN x) (hx : x < 9223372036854775808) (hy : y < 9223372036854775808) : am_CT (d + 1) iX11_common [.long a, .long (lN y)] S (some (.long (lN (Nat.gcd x y)))) (S) := by
  refine am_CT_in mmX11_common rfl rfl rfl ?_
  have loop : ∀ (k : Nat) (p : Nat) (q : Nat) (v0 : Option Value) (v8 : Option Value) (v9 : Option Value), (q < k) → (Nat.gcd p q = Nat.gcd x y) → (p < 9223372036854775808) → (q < 9223372036854775808) → am_Ex (am_Call am_MT (d + 0)) mmX11_common none (fun r1 G1 => r1 = (some (.long (lN (Nat.gcd x y)))) ∧ G1 = am_H (S)) (fun _ _ _ _ _ _ => False) 17 [v0, none, some (.long (lN y)), none, some (.long (lN p)), none, some (.long (lN q)), none, v8, v9] [] (am_H (S)) 0 0 := by
    intro k
    induction k with
    | zero =>
      intro p q v0 v8 v9 q1 q2 q3 q4
      omega
    | succ k ih =>
      intro p q v0 v8 v9 q1 q2 q3 q4
      have e0 : lN q = 0 ↔ q = 0 := pk_lEQ (b := 0) q4 (by decide)
      by_cases hq : q = 0
      · subst hq
        rw [← q2, Nat.gcd_zero_right]
        refine r_lload rfl rfl ?_
        refine r_lconst rfl ?_
        refine r_lcmp rfl ?_
        refine r_if_eq rfl (fun h21 => ?_) (fun h21 => ?_)
        · refine r_lload rfl rfl ?_
          refine r_lret rfl ?_
          exact ⟨rfl, rfl⟩
        · exact absurd ((lc_eq _ _).mpr rfl) h21
      · have n0 : ¬ lN q = 0 := fun z => hq (e0.mp z)
        have rm : lN p - lN p / lN q * lN q = lN (p % q) := pk_lRem q3 (by omega) q4
        have lt1 : p % q < q := Nat.mod_lt _ (by omega)
        refine r_lload rfl rfl ?_
        refine r_lconst rfl ?_
        refine r_lcmp rfl ?_
        refine r_if_eq rfl (fun h21 => ?_) (fun h21 => ?_)
        · exact absurd ((lc_eq _ _).mp h21) n0
        · refine r_lload rfl rfl ?_
          refine r_lload rfl rfl ?_
          refine r_lrem rfl (by exact n0) ?_
          rw [rm]
          refine r_lstore (L2 := [_, _, _, _, _, _, _, _, _, _]) rfl rfl ?_
          refine r_lload rfl rfl ?_
          refine r_lstore (L2 := [_, _, _, _, _, _, _, _, _, _]) rfl rfl ?_
          refine r_lload rfl rfl ?_
          refine r_lstore (L2 := [_, _, _, _, _, _, _, _, _, _]) rfl rfl ?_
          refine r_goto rfl ?_
          exact ih q (p % q) _ _ _ (by omega) (by rw [← q2, Nat.gcd_comm p q, Nat.gcd_rec q p, Nat.gcd_comm]) q4 (by omega)
  refine r_lload_n rfl rfl ?_
  refine r_lconst rfl ?_
  refine r_lcmp rfl ?_
  refine r_if_ge rfl (fun h3 => ?_) (fun h3 => ?_)
  · rw [lc_ge] at h3
    have hp : a = lN x := by
      rw [← ha, ← absJ_m, if_neg (Int64.not_lt.mpr h3)]
    refine r_lload_n rfl rfl ?_
    rw [hp]
    refine r_lstore (L2 := [_, _, _, _, _, _, _, _, _, _]) rfl rfl ?_
    refine r_lload_n rfl rfl ?_
    refine r_lstore (L2 := [_, _, _, _, _, _, _, _, _, _]) rfl rfl ?_
    exact loop (y + 1) x y _ none none (by omega) rfl hx hy
  · rw [lc_ge] at h3
    have hp : -a = lN x := by
      rw [← ha, ← absJ_m, if_pos (Int64.not_le.mp h3)]
    refine r_lload_n rfl rfl ?_
    refine r_lneg rfl ?_
    refine r_goto rfl ?_
    rw [hp]
    refine r_lstore (L2 := [_, _, _, _, _, _, _, _, _, _]) rfl rfl ?_
    refine r_lload_n rfl rfl ?_
    refine r_lstore (L2 := [_, _, _, _, _, _, _, _, _, _]) rfl rfl ?_
    exact loop (y + 1) x y _ none none (by omega) rfl hx hy
def efS (S : am_S) (a : Int64) (x y : Nat) : am_S := e2 S (a / lN (Nat.gcd x y)) (lN y / lN (Nat.gcd x y))
theorem ct_X11_entersFraction {d : Nat} {S : am_S} {a : Int64} {x y : Nat} (hn : gI S 97 1 = 0) (ha : absJ a = lN x) (hx : x < 9223372036854775808) (hy : y < 9223372036854775808) (h0 : 0 < y) : am_CT (d + 2) iX11_entersFraction [.ref 97, .long a, .long (lN y)] S (none) (eAdd (eAdd S (a / lN (Nat.gcd x y)) 0) (lN y / lN (Nat.gcd x y)) 1) := by
  refine am_CT_in mmX11_entersFraction rfl rfl rfl ?_
  have gp := Nat.gcd_pos_of_pos_right x h0
  have gl : Nat.gcd x y ≤ y := Nat.le_of_dvd h0 (Nat.gcd_dvd_right x y)
  have n0 : ¬ lN (Nat.gcd x y) = 0 := fun z => absurd ((pk_lEQ (b := 0) (by omega) (by decide)).mp z) (by omega)
  refine r_lload_n rfl rfl ?_
  refine r_lload_n rfl rfl ?_
  refine r_callS rfl (by decide) (ct_X11_common ha hx hy) rfl rfl (am_cnt rfl) ?_
  refine r_lstore (L2 := [_, _, _, _, _, _, _]) rfl rfl ?_
  refine r_aload_n rfl rfl ?_
  refine r_lload_n rfl rfl ?_
  refine r_lload rfl rfl ?_
  refine r_ldiv rfl (by exact n0) ?_
  refine r_callV rfl (ct_X11_enters (n := 0) (by rw [hn]; rfl) (by decide)) rfl rfl rfl (by decide) rfl (am_cnt rfl) ?_
  refine r_aload_n rfl rfl ?_
  refine r_lload_n rfl rfl ?_
  refine r_lload rfl rfl ?_
  refine r_ldiv rfl (by exact n0) ?_
  refine r_callV rfl (ct_X11_enters eAdd_n (by decide)) rfl rfl rfl (by decide) rfl (am_cnt rfl) ?_
  refine r_vret rfl ?_
  exact ⟨rfl, rfl⟩
theorem ct_X11_blind_no {d : Nat} {S T : am_S} {lt fr n mo : Int32} (hT : uI S 97 0 0 = T) (h : ¬ okSteer lt fr n mo) : am_CT (d + 4) iX11_blind [.ref 97, .int lt, .int fr, .int n, .int mo] S (some (.int (-1))) (T) := by
  refine am_CT_in mmX11_blind rfl rfl rfl ?_
  refine r_aload_n rfl rfl ?_
  refine r_iconst rfl ?_
  refine r_putI rfl rfl (by decide) (by decide) rfl ?_
  try rw [hT]
  refine r_iload_n rfl rfl ?_
  refine r_iload_n rfl rfl ?_
  refine r_iload_n rfl rfl ?_
  refine r_iload rfl rfl ?_
  refine r_callS rfl (by decide) ct_X11_isSteering rfl rfl (am_cnt rfl) ?_
  refine r_if_ne rfl (fun h13 => ?_) (fun h13 => ?_)
  · exact absurd (b01_f h) h13
  · refine r_iconst rfl ?_
    refine r_iret rfl rfl ?_
    exact ⟨rfl, rfl⟩
theorem frS_e {S T : am_S} (h : FrS S T) (hd : gI S 97 10 = gI T 97 10 → True) : True := trivial
theorem ct_X11_blind_ok {d : Nat} {S T : am_S} {dn sl up da lt fa n mo x : Nat} {Cm C0 : Nat → Nat} (hT : uI S 97 0 0 = T) (hCm : cmA dn sl up (lt + 1) da = Cm) (hC0 : cmA dn sl up (0 + 1) da = C0) (hW : WnM dn sl up T) (hdu : gI T 97 10 = nI da - 99) (hda : da ≤ 198) (hH : HopeOk T) (hl : lt ≤ 4) (hfa : fa ≤ 100) (hn1 : 1 ≤ n) (hn : n ≤ 6) (hm1 : 1 ≤ mo) (hm : mo ≤ 4) (hx : absJ (lN (stg Cm dn sl up mo n (fa + 70)) - lN (stg C0 dn sl up mo n (fa + 70)) * pow10 lt) = lN x) (hx2 : x < 9223372036854775808) : am_CE (d + 4) iX11_blind [.ref 97, .int (nI lt), .int (nI fa - 50), .int (nI n), .int (nI mo)] S (some (.int 0)) (fun U => ∃ U1, FrS T U1 ∧ HopeOk U1 ∧ U = efS U1 (lN (stg Cm dn sl up mo n (fa + 70)) - lN (stg C0 dn sl up mo n (fa + 70)) * pow10 lt) x (10 ^ (lt + n))) := by
  refine am_CE_in mmX11_blind rfl rfl rfl ?_
  have ok := okSt hl hfa hn1 hn hm1 hm
  have st : ∀ {d : Nat}, am_CE (d + 3) iX11_steers [.ref 97, .int (nI lt), .int (nI fa - 50), .int (nI n), .int (nI mo)] T (some (.long (lN (stg Cm dn sl up mo n (fa + 70))))) (fun U => FrS T U ∧ HopeOk U ∧ gI U 97 37 = stgF Cm dn sl up mo (n - 1) (fa + 70)) := fun {d} => by
    rw [fr120]
    exact ct_X11_steers hCm hW hdu hda hH hl (by omega) (by omega) hn1 hn hm
  have st2 : ∀ {d : Nat} U, FrS T U → HopeOk U → am_CE (d + 3) iX11_steers [.ref 97, .int 0, .int (nI fa - 50), .int (nI n), .int (nI mo)] U (some (.long (lN (stg C0 dn sl up mo n (fa + 70))))) (fun V => FrS U V ∧ HopeOk V ∧ gI V 97 37 = stgF C0 dn sl up mo (n - 1) (fa + 70)) := fun {d} U hU hUh => by
    rw [fr120]
    exact ct_X11_steers (lt := 0) hC0 (wnM_fr hU hW) (by rw [hU.2.1 10 (by decide), hdu]) hda hUh (by omega) (by omega) (by omega) hn1 hn hm
  have p10 : 10 ^ (lt + n) < 9223372036854775808 := Nat.lt_of_le_of_lt (Nat.pow_le_pow_right (n := 10) (i := lt + n) (j := 10) (by decide) (by omega)) (by decide)
  have pp : 0 < 10 ^ (lt + n) := Nat.pow_pos (by decide)
  refine r_aload_n rfl rfl ?_
  refine r_iconst rfl ?_
  refine r_putI rfl rfl (by decide) (by decide) rfl ?_
  try rw [hT]
  refine r_iload_n rfl rfl ?_
  refine r_iload_n rfl rfl ?_
  refine r_iload_n rfl rfl ?_
  refine r_iload rfl rfl ?_
  refine r_callS rfl (by decide) ct_X11_isSteering rfl rfl (am_cnt rfl) ?_
  refine r_if_ne rfl (fun h13 => ?_) (fun h13 => ?_)
  · refine r_aload_n rfl rfl ?_
    refine r_iload_n rfl rfl ?_
    refine r_iload_n rfl rfl ?_
    refine r_iload_n rfl rfl ?_
    refine r_iload rfl rfl ?_
    refine r_callVE rfl st rfl rfl rfl (by decide) rfl (am_cnt rfl) (fun U hU => ?_)
    refine r_lstore (L2 := [_, _, _, _, _, _, _, _, _]) rfl rfl ?_
    refine r_aload_n rfl rfl ?_
    refine r_iconst rfl ?_
    refine r_iload_n rfl rfl ?_
    refine r_iload_n rfl rfl ?_
    refine r_iload rfl rfl ?_
    refine r_callVE rfl (st2 U hU.1 hU.2.1) rfl rfl rfl (by decide) rfl (am_cnt rfl) (fun V hV => ?_)
    refine r_lstore (L2 := [_, _, _, _, _, _, _, _, _]) rfl rfl ?_
    refine r_aload_n rfl rfl ?_
    refine r_iconst rfl ?_
    refine r_putI rfl rfl (by decide) (by decide) rfl ?_
    refine r_aload_n rfl rfl ?_
    refine r_lload rfl rfl ?_
    refine r_lload rfl rfl ?_
    refine r_ldc2_w rfl ?_
    refine r_iload_n rfl rfl ?_
    refine r_callS rfl (by decide) (ct_X11_power (by omega)) rfl rfl (am_cnt rfl) ?_
    refine r_lmul rfl ?_
    refine r_lsub rfl ?_
    refine r_ldc2_w rfl ?_
    refine r_iload_n rfl rfl ?_
    refine r_iload_n rfl rfl ?_
    refine r_iadd rfl ?_
    rw [nI_add]
    refine r_callS rfl (by decide) (ct_X11_power (by omega)) rfl rfl (am_cnt rfl) ?_
    rw [pow10_lN (lt + n)]
    refine r_callV rfl (ct_X11_entersFraction u971 hx hx2 p10 pp) rfl rfl rfl (by decide) rfl (am_cnt rfl) ?_
    refine r_iconst rfl ?_
    refine r_iret rfl rfl ?_
    exact ⟨rfl, _, rfl, V, frS_t hU.1 hV.1, hV.2.1, rfl⟩
  · exact absurd (ok) (b01_eq0.mp h13)
