/-! The costs, stage by stage. -/
theorem arg9 {fa q i u da : Nat} : nI fa - 50 + (nI q - 30) + nI i - nI u - (nI da - 99) = nI (fa + q + i + 99) - nI (80 + u + da) := by
  simp only [← nI_add]
  rw [show nI 99 = 99 from rfl, show nI 80 = 80 from rfl]
  grind
def cstN (dn sl up u fa da q n : Nat) : Nat := sumN (fun i => wnd dn sl up u i * dst (fa + q + i + 99) (80 + u + da)) n
def cG (S : am_S) (dn sl up u fa da t : Nat) : Nat → Int64 := fun j => if j < t then lN (cstN dn sl up u fa da j 11) else gJ S 81 j
theorem cG_up {S : am_S} {dn sl up u fa da t : Nat} : vp_updL (cG S dn sl up u fa da t) t (lN (cstN dn sl up u fa da t 11)) = cG S dn sl up u fa da (t + 1) := by
  funext j
  by_cases h : j = t
  · rw [h, pk_uLs, cG, if_pos (by omega)]
  · rw [pk_uLn h, cG, cG]
    by_cases h2 : j < t
    · rw [if_pos h2, if_pos (by omega)]
    · rw [if_neg h2, if_neg (by omega)]
theorem cG_0 {S : am_S} {dn sl up u fa da : Nat} : cG S dn sl up u fa da 0 = gJ S 81 := funext fun j => if_neg (by omega)
theorem off_lt {w q : Nat} (hw : w ≤ 30) (hq : q ≤ 100) : nI w < nI q - 30 ↔ w + 30 < q := by
  have e : (nI q - 30).toInt = (q : Int) - 30 := pk_sub_toInt (b := 30) (by omega) (by omega)
  rw [fa_lt, e, nI_toInt (by omega)]
  omega
theorem off_1 {q : Nat} : nI q - 30 + 1 = nI (q + 1) - 30 := by
  rw [← nI_1]
  grind
theorem ct_X2_reckonCosts {d : Nat} {S : am_S} {dn sl up u fa da : Nat} (hw : ∀ i, i < 11 → gJ S 80 i = lN (wnd dn sl up u i)) (hu : u ≤ 5) (hfa : fa ≤ 100) (hda : da ≤ 198) : am_CT (d + 3) iX2_reckonCosts [.ref 79, .int (nI da - 99), .int (nI u), .int (nI fa - 50)] S (none) (rJ S 81 (cG S dn sl up u fa da 61)) := by
  refine am_CT_in mmX2_reckonCosts rfl rfl rfl ?_
  have loop : ∀ (k : Nat) (q : Nat) (v5 : Option Value) (v6 : Option Value) (v7 : Option Value), (q ≤ 61) → (61 < q + k) → am_Ex (am_Call am_MT (d + 2)) mmX2_reckonCosts none (fun r1 G1 => r1 = (none) ∧ G1 = am_H (rJ S 81 (cG S dn sl up u fa da 61))) (fun _ _ _ _ _ _ => False) 4 [some (.ref 79), some (.int (nI da - 99)), some (.int (nI u)), some (.int (nI fa - 50)), some (.int (nI q - 30)), v5, v6, v7] [] (am_H (rJ S 81 (cG S dn sl up u fa da q))) 0 0 := by
    intro k
    induction k with
    | zero =>
      intro q v5 v6 v7 h1 h2
      omega
    | succ k ih =>
      intro q v5 v6 v7 h1 h2
      have bq : (nI q).toNatClampNeg = q := nI_clamp (by omega)
      have t1 : 0 ≤ nI q := nI_pos' (by omega)
      have loop2 : ∀ (k2 : Nat) (i : Nat), (q ≤ 60) → (i ≤ 11) → (11 < i + k2) → am_Ex (am_Call am_MT (d + 2)) mmX2_reckonCosts none (fun r1 G1 => r1 = (none) ∧ G1 = am_H (rJ S 81 (cG S dn sl up u fa da 61))) (fun _ _ _ _ _ _ => False) 17 [some (.ref 79), some (.int (nI da - 99)), some (.int (nI u)), some (.int (nI fa - 50)), some (.int (nI q - 30)), some (.long (lN (cstN dn sl up u fa da q i))), none, some (.int (nI i))] [] (am_H (rJ S 81 (cG S dn sl up u fa da q))) 0 0 := by
        intro k2
        induction k2 with
        | zero =>
          intro i q0 q1 q2
          omega
        | succ k2 ih2 =>
          intro i q0 q1 q2
          have bi : (nI i).toNatClampNeg = i := nI_clamp (by omega)
          have s1 : 0 ≤ nI i := nI_pos' (by omega)
          have t2 : nI q < Int32.ofNat 61 := nI_lt (by omega) (by omega)
          have ab : (if (0 : Int32) ≤ nI (fa + q + i + 99) - nI (80 + u + da) then nI (fa + q + i + 99) - nI (80 + u + da) else 0 - (nI (fa + q + i + 99) - nI (80 + u + da))) = nI (dst (fa + q + i + 99) (80 + u + da)) := absD (by omega) (by omega)
          have dl : dst (fa + q + i + 99) (80 + u + da) < 2147483648 := by unfold dst; omega
          have gw : i < 11 → gJ (rJ S 81 (cG S dn sl up u fa da q)) 80 i = lN (wnd dn sl up u i) := fun h => by rw [gJ_rJ_ne (by decide), hw i h]
          refine r_iload rfl rfl ?_
          refine r_aload_n rfl rfl ?_
          refine r_getC rfl rfl (by decide) (by decide) rfl ?_
          refine r_alen rfl rfl (by decide) ?_
          refine r_icmp_ge rfl (fun h24 => ?_) (fun h24 => ?_)
          · have hi : i = 11 := by
              rw [show Int32.ofNat 11 = nI 11 from rfl, nI_leI (by omega) (by omega)] at h24
              omega
            subst hi
            refine r_aload_n rfl rfl ?_
            refine r_getC rfl rfl (by decide) (by decide) rfl ?_
            refine r_iload rfl rfl ?_
            refine r_callS rfl (by decide) (ct_X2_inReach q0) rfl rfl (am_cnt rfl) ?_
            refine r_lload rfl rfl ?_
            refine r_last rfl rfl (by first | decide | assumption) (by first | exact s1 | exact s2 | exact t1 | exact t2) (by first | exact s1 | exact s2 | exact t1 | exact t2) ?_
            refine r_iinc (L2 := [_, _, _, _, _, _, _, _]) rfl rfl rfl ?_
            refine r_goto rfl ?_
            rw [bq, uJ_rJs, cG_up, off_1]
            exact ih (q + 1) _ _ _ (by omega) (by omega)
          · rw [show Int32.ofNat 11 = nI 11 from rfl, nI_leI (by omega) (by omega)] at h24
            have s2 : nI i < Int32.ofNat 11 := nI_lt (by omega) (by omega)
            refine r_lload rfl rfl ?_
            refine r_aload_n rfl rfl ?_
            refine r_getC rfl rfl (by decide) (by decide) rfl ?_
            refine r_iload rfl rfl ?_
            refine r_lald rfl rfl (by first | decide | assumption) (by first | exact s1 | exact s2 | exact t1 | exact t2) (by first | exact s1 | exact s2 | exact t1 | exact t2) ?_
            refine r_iload_n rfl rfl ?_
            refine r_iload rfl rfl ?_
            refine r_iadd rfl ?_
            refine r_iload rfl rfl ?_
            refine r_iadd rfl ?_
            refine r_iload_n rfl rfl ?_
            refine r_isub rfl ?_
            refine r_iload_n rfl rfl ?_
            refine r_isub rfl ?_
            rw [arg9]
            refine r_abs rfl (am_cnt rfl) ?_
            rw [ab]
            refine r_i2l rfl ?_
            rw [nI_l dl]
            refine r_lmul rfl ?_
            refine r_ladd rfl ?_
            refine r_lstore (L2 := [_, _, _, _, _, _, _, _]) rfl rfl ?_
            refine r_iinc (L2 := [_, _, _, _, _, _, _, _]) rfl rfl rfl ?_
            refine r_goto rfl ?_
            rw [bi, gw (by omega), lN_mul, lN_add, nI_1]
            exact ih2 (i + 1) q0 (by omega) (by omega)
      refine r_iload rfl rfl ?_
      refine r_bipush rfl ?_
      refine r_icmp_gt rfl (fun h8 => ?_) (fun h8 => ?_)
      · rw [show (30 : Int32) = nI 30 from rfl, show nI q - nI 30 = nI q - 30 from rfl, off_lt (by omega) (by omega)] at h8
        obtain rfl : q = 61 := by omega
        refine r_vret rfl ?_
        exact ⟨rfl, rfl⟩
      · rw [show (30 : Int32) = nI 30 from rfl, show nI q - nI 30 = nI q - 30 from rfl, off_lt (by omega) (by omega)] at h8
        refine r_lconst rfl ?_
        refine r_lstore (L2 := [_, _, _, _, _, _, _, _]) rfl rfl ?_
        refine r_iconst rfl ?_
        refine r_istore (L2 := [_, _, _, _, _, _, _, _]) rfl rfl ?_
        exact loop2 12 0 (by omega) (by omega) (by omega)
  refine r_bipush rfl ?_
  refine r_istore (L2 := [_, _, _, _, _, _, _, _]) rfl rfl ?_
  have e := loop 62 0 none none none (by omega) (by omega)
  rw [cG_0, rJ_id] at e
  exact e
/-- the least cost to be hoped for with s pushes left -/
def stg (C : Nat → Nat) (dn sl up mo : Nat) : Nat → Nat → Nat
  | 0, _ => 0
  | s + 1, q => (lst (hop C (stg C dn sl up mo s) dn sl up (10 ^ s)) q (2 * mo)).1
def stgF (C : Nat → Nat) (dn sl up mo s q : Nat) : Int32 := (lst (hop C (stg C dn sl up mo s) dn sl up (10 ^ s)) q (2 * mo)).2
theorem mul3_le {a b c m dn sl up : Nat} (h : dn + sl + up = 10) (ha : a ≤ m) (hb : b ≤ m) (hc : c ≤ m) : a * dn + b * sl + c * up ≤ m * 10 := by
  have e : m * 10 = m * dn + m * sl + m * up := by rw [← Nat.mul_add, ← Nat.mul_add, h]
  have x := Nat.mul_le_mul_right dn ha
  have y := Nat.mul_le_mul_right sl hb
  have z := Nat.mul_le_mul_right up hc
  omega
theorem stg_le {C : Nat → Nat} {K dn sl up mo : Nat} (h : dn + sl + up = 10) (hC : ∀ j, j ≤ 80 → C j ≤ K) : ∀ s j, j + s ≤ 80 → stg C dn sl up mo s j ≤ s * (K * 10 ^ s)
  | 0, j, _ => Nat.zero_le _
  | s + 1, j, hj => by
    have a := stg_le (mo := mo) h hC s j (by omega)
    have b := stg_le (mo := mo) h hC s (j - 1) (by omega)
    have c := stg_le (mo := mo) h hC s (j + 1) (by omega)
    have e := mul3_le h b a c
    have f := Nat.mul_le_mul_right (10 ^ s) (hC j (by omega))
    have g := lst_le (h := hop C (stg C dn sl up mo s) dn sl up (10 ^ s)) (q := j) (2 * mo)
    have x : (s + 1) * (K * 10 ^ (s + 1)) = s * (K * 10 ^ s) * 10 + K * 10 ^ s * 10 := by
      rw [Nat.pow_succ, ← Nat.mul_assoc K, Nat.add_mul, Nat.one_mul, Nat.mul_assoc s]
    rw [stg, x]
    refine Nat.le_trans g ?_
    unfold hop
    omega
theorem hop_lt {C : Nat → Nat} {K dn sl up mo s : Nat} (h : dn + sl + up = 10) (hC : ∀ j, j ≤ 80 → C j ≤ K) (hK : K ≤ 700000000) (hs : s ≤ 5) {j : Nat} (hj : j + s < 80) : hop C (stg C dn sl up mo s) dn sl up (10 ^ s) j < 9223372036854775808 := by
  have a := stg_le (mo := mo) h hC s j (by omega)
  have b := stg_le (mo := mo) h hC s (j - 1) (by omega)
  have c := stg_le (mo := mo) h hC s (j + 1) (by omega)
  have e := mul3_le h b a c
  have f := Nat.mul_le_mul_right (10 ^ s) (hC j (by omega))
  have p : 10 ^ s ≤ 100000 := Nat.pow_le_pow_right (n := 10) (by decide) hs
  have q : K * 10 ^ s ≤ 700000000 * 100000 := Nat.mul_le_mul hK p
  have r : s * (K * 10 ^ s) ≤ 5 * (700000000 * 100000) := Nat.mul_le_mul hs q
  unfold hop
  omega
theorem cst_le {dn sl up u fa da q : Nat} (h : dn + sl + up = 10) (hu : u ≤ 5) (hfa : fa ≤ 100) (hda : da ≤ 198) (hq : q ≤ 80) : ∀ n, n ≤ 11 → cstN dn sl up u fa da q n ≤ n * 60000000
  | 0, _ => Nat.le_refl _
  | n + 1, hn => by
    have a := cst_le h hu hfa hda hq n (by omega)
    have b := wnd_le h u n
    have c : 10 ^ u ≤ 100000 := Nat.pow_le_pow_right (n := 10) (by decide) hu
    have e : dst (fa + q + n + 99) (80 + u + da) ≤ 600 := by unfold dst; omega
    have f := Nat.mul_le_mul (Nat.le_trans b c) e
    have g : cstN dn sl up u fa da q (n + 1) = cstN dn sl up u fa da q n + wnd dn sl up u n * dst (fa + q + n + 99) (80 + u + da) := rfl
    rw [g]
    omega
/-- nothing else has changed -/
def FrH (S T : am_S) : Prop := (∀ o, o ≠ 79 → gI T o = gI S o) ∧ (∀ o, (o < 80 ∨ 83 < o) → gJ T o = gJ S o) ∧ (∀ c, gR T c = gR S c)
theorem frH_rJ {S T : am_S} {o : Nat} {g : Nat → Int64} (h : FrH S T) (ho : 80 ≤ o ∧ o ≤ 83) : FrH S (rJ T o g) := ⟨fun a ha => by rw [gI_rJ_f, h.1 a ha], fun a ha => by rw [gJ_rJ_ne (by omega), h.2.1 a ha], fun c => by rw [gR_rJ, h.2.2]⟩
theorem frH_uJ {S T : am_S} {o j : Nat} {x : Int64} (h : FrH S T) (ho : 80 ≤ o ∧ o ≤ 83) : FrH S (uJ T o j x) := ⟨fun a ha => by rw [gI_uJ_f, h.1 a ha], fun a ha => by rw [gJ_uJ_ne (by omega), h.2.1 a ha], fun c => by rw [gR_uJ, h.2.2]⟩
theorem frH_uI {S T : am_S} {j : Nat} {x : Int32} (h : FrH S T) : FrH S (uI T 79 j x) := ⟨fun a ha => by rw [gI_uI_ne ha, h.1 a ha], fun a ha => by rw [gJ_uI_f, h.2.1 a ha], fun c => by rw [gR_uI, h.2.2]⟩
theorem frH_0 {S : am_S} : FrH S S := ⟨fun _ _ => rfl, fun _ _ => rfl, fun _ => rfl⟩
theorem frH_t {S T U : am_S} (h : FrH S T) (h2 : FrH T U) : FrH S U := ⟨fun a ha => by rw [h2.1 a ha, h.1 a ha], fun a ha => by rw [h2.2.1 a ha, h.2.1 a ha], fun c => by rw [h2.2.2, h.2.2]⟩
theorem wndOk_fr {dn sl up : Nat} {S T : am_S} (h : FrH S T) (hY : WndOk dn sl up S) : WndOk dn sl up T := by
  obtain ⟨a, b, c⟩ := hY
  exact ⟨by rw [h.1 1 (by decide), a], by rw [h.1 1 (by decide), b], c⟩
def zJ (g : Nat → Int64) (t : Nat) : Nat → Int64 := fun j => if j < t then 0 else g j
theorem zJ_up {g : Nat → Int64} {t : Nat} : vp_updL (zJ g t) t 0 = zJ g (t + 1) := by
  funext j
  by_cases h : j = t
  · rw [h, pk_uLs, zJ, if_pos (by omega)]
  · rw [pk_uLn h, zJ, zJ]
    by_cases h2 : j < t
    · rw [if_pos h2, if_pos (by omega)]
    · rw [if_neg h2, if_neg (by omega)]
theorem zJ_0 {g : Nat → Int64} : zJ g 0 = g := funext fun j => if_neg (by omega)
abbrev cstA (dn sl up u fa da : Nat) : Nat → Nat := fun j => cstN dn sl up u fa da j 11
theorem ct_X2_leastCost {d : Nat} {S : am_S} {dn sl up lt fa da n mo : Nat} (hY : WndOk dn sl up S) (hdu : gI S 1 4 = nI da - 99) (hda : da ≤ 198) (hl : lt ≤ 4) (hfa : fa ≤ 100) (hn1 : 1 ≤ n) (hn : n ≤ 6) (hm : mo ≤ 4) : am_CE (d + 5) iX2_leastCost [.ref 79, .ref 1, .int (nI lt), .int (nI fa - 50), .int (nI n), .int (nI mo)] S (some (.long (lN (stg (cstA dn sl up (lt + 1) fa da) dn sl up mo n 30)))) (fun T => FrH S T ∧ gI T 79 4 = stgF (cstA dn sl up (lt + 1) fa da) dn sl up mo (n - 1) 30) := by
  refine am_CE_in mmX2_leastCost rfl rfl rfl ?_
  have hs := hY.2.2
  have hC : ∀ j, j ≤ 80 → cstA dn sl up (lt + 1) fa da j ≤ 660000000 := fun j hj => cst_le (u := lt + 1) hs (by omega) hfa hda hj 11 (Nat.le_refl _)
  have hB : ∀ s, s ≤ 5 → ∀ j, j + s < 80 → hop (cstA dn sl up (lt + 1) fa da) (stg (cstA dn sl up (lt + 1) fa da) dn sl up mo s) dn sl up (10 ^ s) j < 9223372036854775808 := fun s h5 j hj => hop_lt hs hC (by omega) h5 hj
  have loop3 : ∀ (k3 : Nat) (t : Nat) (T : am_S) (v9 : Option Value) (v10 : Option Value), (t ≤ n) → (t < k3) → (FrH S T) → (∀ j, j < 61 → gJ T 81 j = lN (cstA dn sl up (lt + 1) fa da j)) → (∀ j, 30 ≤ j + t * (mo + 1) → j ≤ 30 + t * (mo + 1) → gJ T 83 j = lN (stg (cstA dn sl up (lt + 1) fa da) dn sl up mo (n - t) j)) → (t = 0 → gI T 79 4 = stgF (cstA dn sl up (lt + 1) fa da) dn sl up mo (n - 1) 30) → am_Ex (am_Call am_MT (d + 4)) mmX2_leastCost none (fun r1 G1 => r1 = (some (.long (lN (stg (cstA dn sl up (lt + 1) fa da) dn sl up mo n 30)))) ∧ ∃ S2, G1 = am_H S2 ∧ (fun T => FrH S T ∧ gI T 79 4 = stgF (cstA dn sl up (lt + 1) fa da) dn sl up mo (n - 1) 30) S2) (fun _ _ _ _ _ _ => False) 56 [some (.ref 79), some (.ref 1), some (.int (nI lt)), some (.int (nI fa - 50)), some (.int (nI n)), some (.int (nI mo)), some (.long (lN (10 ^ (n - t)))), none, some (.int (nI t + (-1))), v9, v10] [] (am_H (T)) 0 0 := by
    intro k3
    induction k3 with
    | zero =>
      intro t T v9 v10 q1 q2 f1 f2 f3 f4
      omega
    | succ k3 ih3 =>
      intro t T v9 v10 q1 q2 f1 f2 f3 f4
      by_cases ht : t = 0
      · subst ht
        refine r_iload rfl rfl ?_
        refine r_if_lt rfl (fun h58 => ?_) (fun h58 => ?_)
        · refine r_aload_n rfl rfl ?_
          refine r_getC rfl rfl (by decide) (by decide) rfl ?_
          refine r_bipush rfl ?_
          refine r_lald rfl rfl (by first | decide | assumption) (by decide) (by decide) ?_
          refine r_lret rfl ?_
          rw [show (30 : Int32).toNatClampNeg = 30 from rfl, f3 30 (by omega) (by omega)]
          exact ⟨rfl, _, rfl, f1, f4 rfl⟩
        · exact absurd h58 (by decide)
      · obtain ⟨i, rfl⟩ : ∃ i, t = i + 1 := ⟨t - 1, by omega⟩
        rw [pk_m1]
        have hw : i * (mo + 1) ≤ 5 * 5 := Nat.mul_le_mul (by omega) (by omega)
        have hw2 : (i + 1) * (mo + 1) = i * (mo + 1) + (mo + 1) := by rw [Nat.add_mul, Nat.one_mul]
        have ew : nI i * (nI mo + 1) = nI (i * (mo + 1)) := by rw [nI_1]; exact pk_mul _ _
        have hst : n - i = n - (i + 1) + 1 := by omega
        generalize hwd : i * (mo + 1) = w at *
        have loop4 : ∀ (k4 : Nat) (q : Nat) (U : am_S), (30 ≤ q + w ∧ q ≤ 31 + w) → (31 + w < q + k4) → (FrH S U) → (∀ j, j < 61 → gJ U 81 j = lN (cstA dn sl up (lt + 1) fa da j)) → (∀ j, 30 ≤ j + (i + 1) * (mo + 1) → j ≤ 30 + (i + 1) * (mo + 1) → gJ U 83 j = lN (stg (cstA dn sl up (lt + 1) fa da) dn sl up mo (n - (i + 1)) j)) → (∀ j, 30 ≤ j + w → j < q → gJ U 82 j = lN (stg (cstA dn sl up (lt + 1) fa da) dn sl up mo (n - i) j)) → (30 < q + w → gI U 79 4 = stgF (cstA dn sl up (lt + 1) fa da) dn sl up mo (n - (i + 1)) (q - 1)) → am_Ex (am_Call am_MT (d + 4)) mmX2_leastCost none (fun r1 G1 => r1 = (some (.long (lN (stg (cstA dn sl up (lt + 1) fa da) dn sl up mo n 30)))) ∧ ∃ S2, G1 = am_H S2 ∧ (fun T => FrH S T ∧ gI T 79 4 = stgF (cstA dn sl up (lt + 1) fa da) dn sl up mo (n - 1) 30) S2) (fun _ _ _ _ _ _ => False) 75 [some (.ref 79), some (.ref 1), some (.int (nI lt)), some (.int (nI fa - 50)), some (.int (nI n)), some (.int (nI mo)), some (.long (lN (10 ^ (n - (i + 1))))), none, some (.int (nI i)), some (.int (nI w)), some (.int (nI q - 30))] [] (am_H (U)) 0 0 := by
          intro k4
          induction k4 with
          | zero =>
            intro q U p1 p2 g1 g2 g3 g4 g5
            omega
          | succ k4 ih4 =>
            intro q U p1 p2 g1 g2 g3 g4 g5
            by_cases hq : q = 31 + w
            · have x1 : nI w < nI q - 30 := (off_lt (by omega) (by omega)).mpr (by omega)
              refine r_iload rfl rfl ?_
              refine r_iload rfl rfl ?_
              refine r_icmp_gt rfl (fun h79 => ?_) (fun h79 => ?_)
              · refine r_aload_n rfl rfl ?_
                refine r_getC rfl rfl (by decide) (by decide) rfl ?_
                refine r_iconst rfl ?_
                refine r_aload_n rfl rfl ?_
                refine r_getC rfl rfl (by decide) (by decide) rfl ?_
                refine r_iconst rfl ?_
                refine r_aload_n rfl rfl ?_
                refine r_getC rfl rfl (by decide) (by decide) rfl ?_
                refine r_alen rfl rfl (by decide) ?_
                refine r_copyJ rfl (am_cnt rfl) rfl rfl (by decide) (by decide) (by decide) (by decide) (by decide) ?_
                refine r_lload rfl rfl ?_
                refine r_ldc2_w rfl ?_
                refine r_lmul rfl ?_
                refine r_lstore (L2 := [_, _, _, _, _, _, _, _, _, _, _]) rfl rfl ?_
                refine r_iinc (L2 := [_, _, _, _, _, _, _, _, _, _, _]) rfl rfl rfl ?_
                refine r_goto rfl ?_
                rw [show (10 : Int64) = lN 10 from rfl, lN_mul, ← Nat.pow_succ, show (n - (i + 1)).succ = n - i by omega]
                refine ih3 i _ _ _ (by omega) (by omega) (frH_rJ g1 (by decide)) (fun j hj => by rw [gJ_rJ_ne (by decide), g2 j hj]) (fun j a b => ?_) (fun h0 => ?_)
                · rw [gJ_rJ_eq, show (Int32.ofNat 61).toNatClampNeg = 61 from by decide, show (0 : Int32).toNatClampNeg = 0 from rfl, pk_cpy_in (by omega) (by omega), show 0 + (j - 0) = j by omega, g4 j (by omega) (by omega)]
                · rw [gI_rJ_f, g5 (by omega)]
                  have hw0 : w = 0 := by rw [← hwd, h0, Nat.zero_mul]
                  rw [show q - 1 = 30 by omega, show n - (i + 1) = n - 1 by omega]
              · exact absurd x1 h79
            · have x1 : ¬ nI w < nI q - 30 := fun z => by
                rw [off_lt (by omega) (by omega)] at z
                omega
              have x2 : 0 ≤ nI q := nI_pos' (by omega)
              have x3 : nI q < Int32.ofNat 61 := nI_lt (by omega) (by omega)
              have bq : (nI q).toNatClampNeg = q := nI_clamp (by omega)
              have hJ : HJ U (cstA dn sl up (lt + 1) fa da) (stg (cstA dn sl up (lt + 1) fa da) dn sl up mo (n - (i + 1))) (q - mo - 1) (q + mo + 1) := fun j a b => ⟨g2 j (by omega), g3 j (by omega) (by omega)⟩
              refine r_iload rfl rfl ?_
              refine r_iload rfl rfl ?_
              refine r_icmp_gt rfl (fun h79 => ?_) (fun h79 => ?_)
              · exact absurd h79 x1
              · refine r_aload_n rfl rfl ?_
                refine r_getC rfl rfl (by decide) (by decide) rfl ?_
                refine r_iload rfl rfl ?_
                refine r_callS rfl (by decide) (ct_X2_inReach (by omega)) rfl rfl (am_cnt rfl) ?_
                refine r_aload_n rfl rfl ?_
                refine r_aload_n rfl rfl ?_
                refine r_iload rfl rfl ?_
                refine r_iload rfl rfl ?_
                refine r_lload rfl rfl ?_
                refine r_callV rfl (ct_X2_leastAt (wndOk_fr g1 hY) hJ (by omega) (by omega) hm (fun j a b => hB _ (by omega) j (by omega))) rfl rfl rfl (by decide) rfl (am_cnt rfl) ?_
                refine r_last rfl rfl (by first | decide | assumption) (by first | exact x2 | exact x3) (by first | exact x2 | exact x3) ?_
                refine r_iinc (L2 := [_, _, _, _, _, _, _, _, _, _, _]) rfl rfl rfl ?_
                refine r_goto rfl ?_
                rw [bq, off_1]
                refine ih4 (q + 1) _ (by omega) (by omega) (frH_uJ (frH_uI g1) (by decide)) (fun j hj => by rw [gJ_uJ_ne (by decide), gJ_uI_f, g2 j hj]) (fun j a b => by rw [gJ_uJ_ne (by decide), gJ_uI_f, g3 j a b]) (fun j a b => ?_) (fun _ => ?_)
                · rw [gJ_uJ_eq]
                  by_cases hj : j = q
                  · rw [hj, pk_uLs, hst]
                    rfl
                  · rw [pk_uLn hj, gJ_uI_f, g4 j a (by omega)]
                · rw [gI_uJ_f, gI_uI, if_pos rfl, if_pos rfl, show q + 1 - 1 = q by omega]
                  rfl
        have w0 : ¬ nI i < 0 := nI_pos (by omega)
        have nw : -nI w = nI (30 - w) - 30 := by
          rw [← pk_sub (a := 30) (b := w) (by omega), show nI 30 = 30 from rfl]
          grind
        refine r_iload rfl rfl ?_
        refine r_if_lt rfl (fun h58 => ?_) (fun h58 => ?_)
        · exact absurd h58 w0
        · refine r_iload rfl rfl ?_
          refine r_iload rfl rfl ?_
          refine r_iconst rfl ?_
          refine r_iadd rfl ?_
          refine r_imul rfl ?_
          rw [ew]
          refine r_istore (L2 := [_, _, _, _, _, _, _, _, _, _, _]) rfl rfl ?_
          refine r_iload rfl rfl ?_
          refine r_ineg rfl ?_
          rw [nw]
          refine r_istore (L2 := [_, _, _, _, _, _, _, _, _, _, _]) rfl rfl ?_
          refine loop4 (2 * w + 3) (30 - w) T (by omega) (by omega) f1 f2 f3 (fun j a b => by omega) (fun h => by omega)
  have loop : ∀ (k : Nat) (j : Nat) (S2 : am_S), (j ≤ 61) → (61 < j + k) → (FrH S S2) → (∀ j, j < 61 → gJ S2 81 j = lN (cstA dn sl up (lt + 1) fa da j)) → am_Ex (am_Call am_MT (d + 4)) mmX2_leastCost none (fun r1 G1 => r1 = (some (.long (lN (stg (cstA dn sl up (lt + 1) fa da) dn sl up mo n 30)))) ∧ ∃ S2, G1 = am_H S2 ∧ (fun T => FrH S T ∧ gI T 79 4 = stgF (cstA dn sl up (lt + 1) fa da) dn sl up mo (n - 1) 30) S2) (fun _ _ _ _ _ _ => False) 23 [some (.ref 79), some (.ref 1), some (.int (nI lt)), some (.int (nI fa - 50)), some (.int (nI n)), some (.int (nI mo)), some (.int (nI j)), none, none, none, none] [] (am_H (rJ S2 83 (zJ (gJ S2 83) j))) 0 0 := by
    intro k
    induction k with
    | zero =>
      intro j S2 q1 q2 f1 f2
      omega
    | succ k ih =>
      intro j S2 q1 q2 f1 f2
      have bj : (nI j).toNatClampNeg = j := nI_clamp (by omega)
      have s1 : 0 ≤ nI j := nI_pos' (by omega)
      refine r_iload rfl rfl ?_
      refine r_aload_n rfl rfl ?_
      refine r_getC rfl rfl (by decide) (by decide) rfl ?_
      refine r_alen rfl rfl (by decide) ?_
      refine r_icmp_ge rfl (fun h30 => ?_) (fun h30 => ?_)
      · have hj : j = 61 := by
          rw [show Int32.ofNat 61 = nI 61 from rfl, nI_leI (by omega) (by omega)] at h30
          omega
        subst hj
        refine r_lconst rfl ?_
        refine r_lstore (L2 := [_, _, _, _, _, _, _, _, _, _, _]) rfl rfl ?_
        refine r_iload rfl rfl ?_
        refine r_iconst rfl ?_
        refine r_isub rfl ?_
        refine r_istore (L2 := [_, _, _, _, _, _, _, _, _, _, _]) rfl rfl ?_
        have e := loop3 (n + 1) n (rJ S2 83 (zJ (gJ S2 83) 61)) none none (by omega) (by omega) (frH_rJ f1 (by decide)) (fun j hj => by rw [gJ_rJ_ne (by decide), f2 j hj]) (fun j a b => by rw [gJ_rJ_eq, zJ, if_pos (by have : n * (mo + 1) ≤ 6 * 5 := Nat.mul_le_mul hn (by omega); omega), Nat.sub_self]; rfl) (fun h => by omega)
        rw [Nat.sub_self, show nI n + (-1) = nI n - 1 by grind] at e
        exact e
      · rw [show Int32.ofNat 61 = nI 61 from rfl, nI_leI (by omega) (by omega)] at h30
        have s2 : nI j < Int32.ofNat 61 := nI_lt (by omega) (by omega)
        refine r_aload_n rfl rfl ?_
        refine r_getC rfl rfl (by decide) (by decide) rfl ?_
        refine r_iload rfl rfl ?_
        refine r_lconst rfl ?_
        refine r_last rfl rfl (by first | decide | assumption) (by first | exact s1 | exact s2) (by first | exact s1 | exact s2) ?_
        refine r_iinc (L2 := [_, _, _, _, _, _, _, _, _, _, _]) rfl rfl rfl ?_
        refine r_goto rfl ?_
        rw [bj, uJ_rJs, zJ_up, nI_1]
        exact ih (j + 1) S2 (by omega) (by omega) f1 f2
  have e1 : nI lt + 1 = nI (lt + 1) := nI_1 _
  refine r_aload_n rfl rfl ?_
  refine r_aload_n rfl rfl ?_
  refine r_iload_n rfl rfl ?_
  refine r_iconst rfl ?_
  refine r_iadd rfl ?_
  rw [e1]
  refine r_callV rfl (ct_X2_spread (u := lt + 1) hY (by omega)) rfl rfl rfl (by decide) rfl (am_cnt rfl) ?_
  refine r_aload_n rfl rfl ?_
  refine r_aload_n rfl rfl ?_
  refine r_getI rfl rfl (by decide) (by decide) rfl ?_
  refine r_iload_n rfl rfl ?_
  refine r_iconst rfl ?_
  refine r_iadd rfl ?_
  refine r_iload_n rfl rfl ?_
  rw [e1, gI_rJ_f, hdu]
  refine r_callV rfl (ct_X2_reckonCosts (S := rJ S 80 (wG S dn sl up (lt + 1))) (dn := dn) (sl := sl) (up := up) (u := lt + 1) (fun i hi => by rw [gJ_rJ_eq, wG, if_pos hi]) (by omega) hfa hda) rfl rfl rfl (by decide) rfl (am_cnt rfl) ?_
  refine r_iconst rfl ?_
  refine r_istore (L2 := [_, _, _, _, _, _, _, _, _, _, _]) rfl rfl ?_
  have e := loop 62 0 (rJ (rJ S 80 (wG S dn sl up (lt + 1))) 81 (cG (rJ S 80 (wG S dn sl up (lt + 1))) dn sl up (lt + 1) fa da 61)) (by omega) (by omega) (frH_rJ (frH_rJ frH_0 (by decide)) (by decide)) (fun j hj => by rw [gJ_rJ_eq, cG, if_pos hj])
  rw [zJ_0, rJ_id] at e
  exact e
theorem okSt {lt fa n mo : Nat} (hl : lt ≤ 4) (hfa : fa ≤ 100) (hn1 : 1 ≤ n) (hn : n ≤ 6) (hm1 : 1 ≤ mo) (hm : mo ≤ 4) : okSteer (nI lt) (nI fa - 50) (nI n) (nI mo) := by
  have e : (nI fa - 50).toInt = (fa : Int) - 50 := pk_sub_toInt (b := 50) (by omega) (by omega)
  refine ⟨⟨nI_pos' (by omega), nI_le (b := 4) hl (by omega)⟩, ⟨?_, ?_⟩, ⟨nI_le (a := 1) hn1 (by omega), nI_le (b := 6) hn (by omega)⟩, nI_le (a := 1) hm1 (by omega), nI_le (b := 4) hm (by omega)⟩
  · rw [fa_le, e, show (-50 : Int32).toInt = -50 from by decide]; omega
  · rw [fa_le, e, show (50 : Int32).toInt = 50 from rfl]; omega
theorem ct_X10_steer_no {d : Nat} {S : am_S} {lt fr n mo : Int32} (h : ¬ okSteer lt fr n mo) : am_CT (d + 6) iX10_steer [.ref 0, .int lt, .int fr, .int n, .int mo] S (some (.int (-1))) (S) := by
  refine am_CT_in mmX10_steer rfl rfl rfl ?_
  refine r_iload_n rfl rfl ?_
  refine r_iload_n rfl rfl ?_
  refine r_iload_n rfl rfl ?_
  refine r_iload rfl rfl ?_
  refine r_callS rfl (by decide) ct_X10_canSteer rfl rfl (am_cnt rfl) ?_
  refine r_if_ne rfl (fun h8 => ?_) (fun h8 => ?_)
  · exact absurd (b01_f h) h8
  · refine r_iconst rfl ?_
    refine r_iret rfl rfl ?_
    exact ⟨rfl, rfl⟩
theorem ct_X10_steer_ok {d : Nat} {S : am_S} {dn sl up lt fa da n mo : Nat} (hY : WndOk dn sl up S) (hdu : gI S 1 4 = nI da - 99) (hda : da ≤ 198) (hl : lt ≤ 4) (hfa : fa ≤ 100) (hn1 : 1 ≤ n) (hn : n ≤ 6) (hm1 : 1 ≤ mo) (hm : mo ≤ 4) : am_CE (d + 6) iX10_steer [.ref 0, .int (nI lt), .int (nI fa - 50), .int (nI n), .int (nI mo)] S (some (.int 0)) (fun T => ∃ T1, FrH S T1 ∧ T = t2 T1 (lN (stg (cstA dn sl up (lt + 1) fa da) dn sl up mo n 30)) (stgF (cstA dn sl up (lt + 1) fa da) dn sl up mo (n - 1) 30).toInt64) := by
  refine am_CE_in mmX10_steer rfl rfl rfl ?_
  have ok := okSt hl hfa hn1 hn hm1 hm
  refine r_iload_n rfl rfl ?_
  refine r_iload_n rfl rfl ?_
  refine r_iload_n rfl rfl ?_
  refine r_iload rfl rfl ?_
  refine r_callS rfl (by decide) ct_X10_canSteer rfl rfl (am_cnt rfl) ?_
  refine r_if_ne rfl (fun h8 => ?_) (fun h8 => ?_)
  · refine r_aload_n rfl rfl ?_
    refine r_getC rfl rfl (by decide) (by decide) rfl ?_
    refine r_aload_n rfl rfl ?_
    refine r_getC rfl rfl (by decide) (by decide) rfl ?_
    refine r_iload_n rfl rfl ?_
    refine r_iload_n rfl rfl ?_
    refine r_iload_n rfl rfl ?_
    refine r_iload rfl rfl ?_
    refine r_callVE rfl (ct_X2_leastCost hY hdu hda hl hfa hn1 hn hm) rfl rfl rfl (by decide) rfl (am_cnt rfl) (fun T hT => ?_)
    refine r_lstore (L2 := [_, _, _, _, _, _, _]) rfl rfl ?_
    refine r_aload_n rfl rfl ?_
    refine r_getC rfl rfl (by decide) (by decide) rfl ?_
    refine r_lload rfl rfl ?_
    refine r_aload_n rfl rfl ?_
    refine r_getC rfl rfl (by decide) (by decide) rfl ?_
    refine r_getI rfl rfl (by decide) (by decide) rfl ?_
    rw [hT.2]
    refine r_i2l rfl ?_
    refine r_callV rfl ct_X7_tellTwo rfl rfl rfl (by decide) rfl (am_cnt rfl) ?_
    refine r_iconst rfl ?_
    refine r_iret rfl rfl ?_
    exact ⟨rfl, _, rfl, T, hT.1, rfl⟩
  · exact absurd (ok) (b01_eq0.mp h8)
theorem ct_X10_blind_no {d : Nat} {S : am_S} {lt fr n mo : Int32} (h : ¬ okSteer lt fr n mo) : am_CT (d + 6) iX10_blind [.ref 0, .int lt, .int fr, .int n, .int mo] S (some (.int (-1))) (S) := by
  refine am_CT_in mmX10_blind rfl rfl rfl ?_
  refine r_iload_n rfl rfl ?_
  refine r_iload_n rfl rfl ?_
  refine r_iload_n rfl rfl ?_
  refine r_iload rfl rfl ?_
  refine r_callS rfl (by decide) ct_X10_canSteer rfl rfl (am_cnt rfl) ?_
  refine r_if_ne rfl (fun h8 => ?_) (fun h8 => ?_)
  · exact absurd (b01_f h) h8
  · refine r_iconst rfl ?_
    refine r_iret rfl rfl ?_
    exact ⟨rfl, rfl⟩
theorem ct_X10_blind_ok {d : Nat} {S : am_S} {dn sl up lt fa da n mo : Nat} (hY : WndOk dn sl up S) (hdu : gI S 1 4 = nI da - 99) (hda : da ≤ 198) (hl : lt ≤ 4) (hfa : fa ≤ 100) (hn1 : 1 ≤ n) (hn : n ≤ 6) (hm1 : 1 ≤ mo) (hm : mo ≤ 4) : am_CE (d + 6) iX10_blind [.ref 0, .int (nI lt), .int (nI fa - 50), .int (nI n), .int (nI mo)] S (some (.int 0)) (fun T => ∃ T1, FrH S T1 ∧ T = frc T1 (lN (stg (cstA dn sl up (lt + 1) fa da) dn sl up mo n 30) - lN (stg (cstA dn sl up (0 + 1) fa da) dn sl up mo n 30) * pow10 lt) (pow10 (lt + n))) := by
  refine am_CE_in mmX10_blind rfl rfl rfl ?_
  have ok := okSt hl hfa hn1 hn hm1 hm
  refine r_iload_n rfl rfl ?_
  refine r_iload_n rfl rfl ?_
  refine r_iload_n rfl rfl ?_
  refine r_iload rfl rfl ?_
  refine r_callS rfl (by decide) ct_X10_canSteer rfl rfl (am_cnt rfl) ?_
  refine r_if_ne rfl (fun h8 => ?_) (fun h8 => ?_)
  · refine r_aload_n rfl rfl ?_
    refine r_getC rfl rfl (by decide) (by decide) rfl ?_
    refine r_aload_n rfl rfl ?_
    refine r_getC rfl rfl (by decide) (by decide) rfl ?_
    refine r_iload_n rfl rfl ?_
    refine r_iload_n rfl rfl ?_
    refine r_iload_n rfl rfl ?_
    refine r_iload rfl rfl ?_
    refine r_callVE rfl (ct_X2_leastCost hY hdu hda hl hfa hn1 hn hm) rfl rfl rfl (by decide) rfl (am_cnt rfl) (fun T hT => ?_)
    refine r_lstore (L2 := [_, _, _, _, _, _, _, _, _]) rfl rfl ?_
    refine r_aload_n rfl rfl ?_
    refine r_getC rfl rfl (by decide) (by decide) rfl ?_
    refine r_aload_n rfl rfl ?_
    refine r_getC rfl rfl (by decide) (by decide) rfl ?_
    refine r_iconst rfl ?_
    refine r_iload_n rfl rfl ?_
    refine r_iload_n rfl rfl ?_
    refine r_iload rfl rfl ?_
    refine r_callVE rfl (ct_X2_leastCost (lt := 0) (wndOk_fr hT.1 hY) ((congrFun (hT.1.1 1 (by decide)) 4).trans hdu) hda (by omega) hfa hn1 hn hm) rfl rfl rfl (by decide) rfl (am_cnt rfl) (fun U hU => ?_)
    refine r_lstore (L2 := [_, _, _, _, _, _, _, _, _]) rfl rfl ?_
    refine r_aload_n rfl rfl ?_
    refine r_getC rfl rfl (by decide) (by decide) rfl ?_
    refine r_lload rfl rfl ?_
    refine r_lload rfl rfl ?_
    refine r_iload_n rfl rfl ?_
    refine r_callS rfl (by decide) (ct_X10_powerOfTen (by omega)) rfl rfl (am_cnt rfl) ?_
    refine r_lmul rfl ?_
    refine r_lsub rfl ?_
    refine r_iload_n rfl rfl ?_
    refine r_iload_n rfl rfl ?_
    refine r_iadd rfl ?_
    rw [nI_add]
    refine r_callS rfl (by decide) (ct_X10_powerOfTen (by omega)) rfl rfl (am_cnt rfl) ?_
    refine r_callV rfl ct_X7_tellFraction rfl rfl rfl (by decide) rfl (am_cnt rfl) ?_
    refine r_iconst rfl ?_
    refine r_iret rfl rfl ?_
    exact ⟨rfl, _, rfl, U, frH_t hT.1 hU.1, rfl⟩
  · exact absurd (ok) (b01_eq0.mp h8)
