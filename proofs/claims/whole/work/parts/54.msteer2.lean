/-! The reference's costs, stage by stage. -/
theorem arg6 {Y k da : Nat} : nI Y - 120 + nI k - 6 - (nI da - 99) = nI (Y + k + 99) - nI (126 + da) := by
  simp only [← nI_add]
  rw [show nI 99 = 99 from rfl, show nI 126 = 126 from rfl]
  grind
def cmN (dn sl up u da Y n : Nat) : Nat := sumN (fun k => wnM dn sl up u k * dst (Y + k + 99) (126 + da)) n
theorem ct_X11_costOf {d : Nat} {T : am_S} {dn sl up u da Y : Nat} (hw : ∀ k, k < 13 → gJ T 116 k = lN (wnM dn sl up u k)) (hdu : gI T 97 10 = nI da - 99) (hda : da ≤ 198) (hY : Y ≤ 240) : am_CT (d + 1) iX11_costOf [.ref 97, .int (nI Y - 120)] T (some (.long (lN (cmN dn sl up u da Y 13)))) (T) := by
  refine am_CT_in mmX11_costOf rfl rfl rfl ?_
  have loop : ∀ (k : Nat) (i : Nat), (i ≤ 13) → (13 < i + k) → am_Ex (am_Call am_MT (d + 0)) mmX11_costOf none (fun r1 G1 => r1 = (some (.long (lN (cmN dn sl up u da Y 13)))) ∧ G1 = am_H (T)) (fun _ _ _ _ _ _ => False) 5 [some (.ref 97), some (.int (nI Y - 120)), some (.long (lN (cmN dn sl up u da Y i))), none, some (.int (nI i))] [] (am_H (T)) 0 0 := by
    intro k
    induction k with
    | zero =>
      intro i q1 q2
      omega
    | succ k ih =>
      intro i q1 q2
      have bi : (nI i).toNatClampNeg = i := nI_clamp (by omega)
      have s1 : 0 ≤ nI i := nI_pos' (by omega)
      have ab : (if (0 : Int32) ≤ nI (Y + i + 99) - nI (126 + da) then nI (Y + i + 99) - nI (126 + da) else 0 - (nI (Y + i + 99) - nI (126 + da))) = nI (dst (Y + i + 99) (126 + da)) := absD (by omega) (by omega)
      have dl : dst (Y + i + 99) (126 + da) < 2147483648 := by unfold dst; omega
      refine r_iload rfl rfl ?_
      refine r_bipush rfl ?_
      refine r_icmp_ge rfl (fun h9 => ?_) (fun h9 => ?_)
      · have hi : i = 13 := by
          rw [show (13 : Int32) = nI 13 from rfl, nI_leI (by omega) (by omega)] at h9
          omega
        subst hi
        refine r_lload_n rfl rfl ?_
        refine r_lret rfl ?_
        exact ⟨rfl, rfl⟩
      · rw [show (13 : Int32) = nI 13 from rfl, nI_leI (by omega) (by omega)] at h9
        have s2 : nI i < Int32.ofNat 13 := nI_lt (by omega) (by omega)
        refine r_lload_n rfl rfl ?_
        refine r_aload_n rfl rfl ?_
        refine r_getC rfl rfl (by decide) (by decide) rfl ?_
        refine r_iload rfl rfl ?_
        refine r_lald rfl rfl (by first | decide | assumption) (by first | exact s1 | exact s2) (by first | exact s1 | exact s2) ?_
        refine r_iload_n rfl rfl ?_
        refine r_iload rfl rfl ?_
        refine r_iadd rfl ?_
        refine r_bipush rfl ?_
        refine r_isub rfl ?_
        refine r_aload_n rfl rfl ?_
        refine r_getI rfl rfl (by decide) (by decide) rfl ?_
        refine r_isub rfl ?_
        rw [hdu, arg6]
        refine r_abs rfl (am_cnt rfl) ?_
        rw [ab]
        refine r_i2l rfl ?_
        rw [nI_l dl]
        refine r_lmul rfl ?_
        refine r_ladd rfl ?_
        refine r_lstore_n (L2 := [_, _, _, _, _]) rfl rfl ?_
        refine r_iinc (L2 := [_, _, _, _, _]) rfl rfl rfl ?_
        refine r_goto rfl ?_
        rw [bi, hw i (by omega), lN_mul, lN_add, nI_1]
        exact ih (i + 1) (by omega) (by omega)
  refine r_lconst rfl ?_
  refine r_lstore_n (L2 := [_, _, _, _, _]) rfl rfl ?_
  refine r_iconst rfl ?_
  refine r_istore (L2 := [_, _, _, _, _]) rfl rfl ?_
  exact loop 14 0 (by omega) (by omega)
theorem h120 {Y : Nat} : nI Y - 120 + 120 = nI Y := by grind
theorem h120m {Y : Nat} (h : 1 ≤ Y) : nI Y - 120 - 1 + 120 = nI (Y - 1) := by
  rw [← pk_sub (a := Y) (b := 1) h, show nI 1 = 1 from rfl]
  grind
theorem h120p {Y : Nat} : nI Y - 120 + 1 + 120 = nI (Y + 1) := by
  rw [← nI_1]
  grind
theorem ct_X11_then {d : Nat} {T : am_S} {N : Nat → Nat} {dn sl up Y : Nat} (hW : WnM dn sl up T) (hk : am_kn (gR T 0) (gR T 4) = (21, 241)) (hN : ∀ j, Y - 1 ≤ j → j ≤ Y + 1 → gJ T (gR T 4) j = lN (N j)) (h1 : 1 ≤ Y) (h2 : Y ≤ 239) : am_CT (d + 1) iX11_then [.ref 97, .int (nI Y - 120)] T (some (.long (lN (dn * N (Y - 1) + sl * N Y + up * N (Y + 1))))) (T) := by
  refine am_CT_in mmX11_then rfl rfl rfl ?_
  obtain ⟨hd, hup, hs⟩ := hW
  have hsl : 10 - nI dn - nI up = nI sl := by
    rw [show (10 : Int32) = nI 10 from rfl, pk_sub (by omega), pk_sub (by omega)]
    congr 1
    omega
  have b0 : (nI Y).toNatClampNeg = Y := nI_clamp (by omega)
  have b1 : (nI (Y - 1)).toNatClampNeg = Y - 1 := nI_clamp (by omega)
  have b2 : (nI (Y + 1)).toNatClampNeg = Y + 1 := nI_clamp (by omega)
  have s0 : 0 ≤ nI Y ∧ nI Y < Int32.ofNat 241 := ⟨nI_pos' (by omega), nI_lt (by omega) (by omega)⟩
  have s1 : 0 ≤ nI (Y - 1) ∧ nI (Y - 1) < Int32.ofNat 241 := ⟨nI_pos' (by omega), nI_lt (by omega) (by omega)⟩
  have s2 : 0 ≤ nI (Y + 1) ∧ nI (Y + 1) < Int32.ofNat 241 := ⟨nI_pos' (by omega), nI_lt (by omega) (by omega)⟩
  refine r_aload_n rfl rfl ?_
  refine r_getI rfl rfl (by decide) (by decide) rfl ?_
  refine r_i2l rfl ?_
  refine r_aload_n rfl rfl ?_
  refine r_getD rfl rfl (by decide) (by decide) rfl ?_
  refine r_iload_n rfl rfl ?_
  refine r_iconst rfl ?_
  refine r_isub rfl ?_
  refine r_bipush rfl ?_
  refine r_iadd rfl ?_
  rw [h120m h1]
  refine r_lald rfl hk (by first | decide | assumption) (by first | exact s0.1 | exact s0.2 | exact s1.1 | exact s1.2 | exact s2.1 | exact s2.2) (by first | exact s0.1 | exact s0.2 | exact s1.1 | exact s1.2 | exact s2.1 | exact s2.2) ?_
  refine r_lmul rfl ?_
  refine r_bipush rfl ?_
  refine r_aload_n rfl rfl ?_
  refine r_getI rfl rfl (by decide) (by decide) rfl ?_
  refine r_isub rfl ?_
  refine r_aload_n rfl rfl ?_
  refine r_getI rfl rfl (by decide) (by decide) rfl ?_
  refine r_isub rfl ?_
  rw [hd, hup, hsl]
  refine r_i2l rfl ?_
  refine r_aload_n rfl rfl ?_
  refine r_getD rfl rfl (by decide) (by decide) rfl ?_
  refine r_iload_n rfl rfl ?_
  refine r_bipush rfl ?_
  refine r_iadd rfl ?_
  rw [h120]
  refine r_lald rfl hk (by first | decide | assumption) (by first | exact s0.1 | exact s0.2 | exact s1.1 | exact s1.2 | exact s2.1 | exact s2.2) (by first | exact s0.1 | exact s0.2 | exact s1.1 | exact s1.2 | exact s2.1 | exact s2.2) ?_
  refine r_lmul rfl ?_
  refine r_ladd rfl ?_
  refine r_aload_n rfl rfl ?_
  refine r_getI rfl rfl (by decide) (by decide) rfl ?_
  refine r_i2l rfl ?_
  refine r_aload_n rfl rfl ?_
  refine r_getD rfl rfl (by decide) (by decide) rfl ?_
  refine r_iload_n rfl rfl ?_
  refine r_iconst rfl ?_
  refine r_iadd rfl ?_
  refine r_bipush rfl ?_
  refine r_iadd rfl ?_
  rw [h120p]
  refine r_lald rfl hk (by first | decide | assumption) (by first | exact s0.1 | exact s0.2 | exact s1.1 | exact s1.2 | exact s2.1 | exact s2.2) (by first | exact s0.1 | exact s0.2 | exact s1.1 | exact s1.2 | exact s2.1 | exact s2.2) ?_
  refine r_lmul rfl ?_
  refine r_ladd rfl ?_
  refine r_lret rfl ?_
  rw [b0, b1, b2, hN Y (by omega) (by omega), hN (Y - 1) (by omega) (by omega), hN (Y + 1) (by omega) (by omega)]
  first | rw [hd] | skip
  first | rw [hup] | skip
  rw [nI_l (by omega), nI_l (by omega), nI_l (by omega)]
  simp only [lN_mul, lN_add]
  refine ⟨?_, ?_⟩ <;> first | rfl | trivial
theorem stg_leM {C : Nat → Nat} {K M dn sl up mo : Nat} (h : dn + sl + up = 10) (hC : ∀ j, j ≤ M → C j ≤ K) : ∀ s j, j + s ≤ M → stg C dn sl up mo s j ≤ s * (K * 10 ^ s)
  | 0, j, _ => Nat.zero_le _
  | s + 1, j, hj => by
    have a := stg_leM (mo := mo) h hC s j (by omega)
    have b := stg_leM (mo := mo) h hC s (j - 1) (by omega)
    have c := stg_leM (mo := mo) h hC s (j + 1) (by omega)
    have e := mul3_le h b a c
    have f := Nat.mul_le_mul_right (10 ^ s) (hC j (by omega))
    have g := lst_le (h := hop C (stg C dn sl up mo s) dn sl up (10 ^ s)) (q := j) (2 * mo)
    have x : (s + 1) * (K * 10 ^ (s + 1)) = s * (K * 10 ^ s) * 10 + K * 10 ^ s * 10 := by
      rw [Nat.pow_succ, ← Nat.mul_assoc K, Nat.add_mul, Nat.one_mul, Nat.mul_assoc s]
    rw [stg, x]
    refine Nat.le_trans g ?_
    unfold hop
    omega
theorem hop_ltM {C : Nat → Nat} {K M dn sl up mo s : Nat} (h : dn + sl + up = 10) (hC : ∀ j, j ≤ M → C j ≤ K) (hK : K ≤ 1000000000) (hs : s ≤ 5) {j : Nat} (hj : j + s < M) : hop C (stg C dn sl up mo s) dn sl up (10 ^ s) j < 9223372036854775808 := by
  have a := stg_leM (mo := mo) h hC s j (by omega)
  have b := stg_leM (mo := mo) h hC s (j - 1) (by omega)
  have c := stg_leM (mo := mo) h hC s (j + 1) (by omega)
  have e := mul3_le h b a c
  have f := Nat.mul_le_mul_right (10 ^ s) (hC j (by omega))
  have p : 10 ^ s ≤ 100000 := Nat.pow_le_pow_right (n := 10) (by decide) hs
  have q : K * 10 ^ s ≤ 1000000000 * 100000 := Nat.mul_le_mul hK p
  have r : s * (K * 10 ^ s) ≤ 5 * (1000000000 * 100000) := Nat.mul_le_mul hs q
  unfold hop
  omega
theorem wnM_le {dn sl up m k : Nat} (h : dn + sl + up = 10) : wnM dn sl up m k ≤ 10 ^ m := by
  unfold wnM
  split
  · exact wnd_le h m _
  · exact Nat.zero_le _
theorem cm_le {dn sl up u da Y : Nat} (h : dn + sl + up = 10) (hu : u ≤ 5) (hda : da ≤ 198) (hY : Y ≤ 260) : ∀ n, n ≤ 13 → cmN dn sl up u da Y n ≤ n * 70000000
  | 0, _ => Nat.le_refl _
  | n + 1, hn => by
    have a := cm_le h hu hda hY n (by omega)
    have b := wnM_le (m := u) (k := n) h
    have c : 10 ^ u ≤ 100000 := Nat.pow_le_pow_right (n := 10) (by decide) hu
    have e : dst (Y + n + 99) (126 + da) ≤ 700 := by unfold dst; omega
    have f := Nat.mul_le_mul (Nat.le_trans b c) e
    have g : cmN dn sl up u da Y (n + 1) = cmN dn sl up u da Y n + wnM dn sl up u n * dst (Y + n + 99) (126 + da) := rfl
    rw [g]
    omega
abbrev cmA (dn sl up u da : Nat) : Nat → Nat := fun Y => cmN dn sl up u da Y 13
theorem mv120 {Y t : Nat} (h : (t + 1) / 2 ≤ Y) : nI Y - 120 + puI t = nI (mvN Y t) - 120 := by
  unfold puI mvN
  by_cases h1 : t % 2 = 1
  · rw [if_pos h1, if_pos h1, ← pk_sub h]
    grind
  · rw [if_neg h1, if_neg h1, ← nI_add]
    grind
theorem pu_odd {t : Nat} (h : t ≤ 8) (ho : t % 2 = 1) : -nI (t + 1) / 2 = puI t := by
  rw [puI, if_pos ho]
  have : t = 1 ∨ t = 3 ∨ t = 5 ∨ t = 7 := by omega
  rcases this with rfl | rfl | rfl | rfl <;> decide
theorem pu_even {t : Nat} (h : t ≤ 8) (ho : ¬ t % 2 = 1) : nI t / 2 = puI t := by
  rw [puI, if_neg ho]
  exact pk_div (d := 2) (by omega) (by decide) (by decide)
theorem off120 {w Y : Nat} (hw : w ≤ 200) (hY : Y ≤ 400) : nI w < nI Y - 120 ↔ w + 120 < Y := by
  have e : (nI Y - 120).toInt = (Y : Int) - 120 := pk_sub_toInt (b := 120) (by omega) (by omega)
  rw [fa_lt, e, nI_toInt (by omega)]
  omega
theorem off120_1 {Y : Nat} : nI Y - 120 + 1 = nI (Y + 1) - 120 := by
  rw [← nI_1]
  grind
theorem eq120 {Y F : Nat} (hY : Y ≤ 400) (hF : F ≤ 400) : nI Y - 120 = nI F - 120 ↔ Y = F := by
  constructor
  · intro h
    have : nI Y = nI F := by grind
    exact nI_inj (by omega) (by omega) this
  · intro h
    rw [h]
def HopeOk (T : am_S) : Prop := (gR T 4 = 114 ∧ gR T 5 = 115) ∨ (gR T 4 = 115 ∧ gR T 5 = 114)
theorem hope_kn {T : am_S} (h : HopeOk T) : am_kn (gR T 0) (gR T 4) = (21, 241) ∧ am_kn (gR T 0) (gR T 5) = (21, 241) ∧ gR T 4 ≠ gR T 5 ∧ (gR T 4 = 114 ∨ gR T 4 = 115) ∧ (gR T 5 = 114 ∨ gR T 5 = 115) := by
  rcases h with ⟨a, b⟩ | ⟨a, b⟩
  · rw [a, b]; exact ⟨rfl, rfl, by decide, by decide, by decide⟩
  · rw [a, b]; exact ⟨rfl, rfl, by decide, by decide, by decide⟩
theorem ct_X11_steers {d : Nat} {S : am_S} {dn sl up da lt F n mo : Nat} {Cm : Nat → Nat} (hCm : cmA dn sl up (lt + 1) da = Cm) (hW : WnM dn sl up S) (hdu : gI S 97 10 = nI da - 99) (hda : da ≤ 198) (hH : HopeOk S) (hl : lt ≤ 4) (hF1 : 70 ≤ F) (hF2 : F ≤ 170) (hn1 : 1 ≤ n) (hn : n ≤ 6) (hm : mo ≤ 4) : am_CE (d + 3) iX11_steers [.ref 97, .int (nI lt), .int (nI F - 120), .int (nI n), .int (nI mo)] S (some (.long (lN (stg Cm dn sl up mo n F)))) (fun T => FrS S T ∧ HopeOk T ∧ gI T 97 37 = stgF Cm dn sl up mo (n - 1) F) := by
  refine am_CE_in mmX11_steers rfl rfl rfl ?_
  have hs := hW.2.2
  have hC : ∀ j, j ≤ 250 → Cm j ≤ 910000000 := fun j hj => by
    rw [← hCm]
    exact cm_le (u := lt + 1) hs (by omega) hda (by omega) 13 (Nat.le_refl _)
  have hB : ∀ s, s ≤ 5 → ∀ j, j + s < 250 → hop Cm (stg Cm dn sl up mo s) dn sl up (10 ^ s) j < 9223372036854775808 := fun s h5 j hj => hop_ltM hs hC (by omega) h5 hj
  have loop2 : ∀ (k2 : Nat) (s : Nat) (T : am_S) (v8 : Option Value) (v9 : Option Value) (v10 : Option Value) (v11 : Option Value) (v12 : Option Value) (v13 : Option Value) (v14 : Option Value) (v15 : Option Value), (s ≤ n) → (n < s + k2) → (FrS S T) → (∀ k2, k2 < 13 → gJ T 116 k2 = lN (wnM dn sl up (lt + 1) k2)) → (HopeOk T) → (∀ j, 70 ≤ j + 5 * (n - s) → j ≤ 170 + 5 * (n - s) → gJ T (gR T 4) j = lN (stg Cm dn sl up mo s j)) → (s = n → gI T 97 37 = stgF Cm dn sl up mo (n - 1) F) → am_Ex (am_Call am_MT (d + 2)) mmX11_steers none (fun r1 G1 => r1 = (some (.long (lN (stg Cm dn sl up mo n F)))) ∧ ∃ S2, G1 = am_H S2 ∧ (fun T => FrS S T ∧ HopeOk T ∧ gI T 97 37 = stgF Cm dn sl up mo (n - 1) F) S2) (fun _ _ _ _ _ _ => False) 38 [some (.ref 97), some (.int (nI lt)), some (.int (nI F - 120)), some (.int (nI n)), some (.int (nI mo)), some (.long (lN (10 ^ s))), none, some (.int (nI (s + 1))), v8, v9, v10, v11, v12, v13, v14, v15] [] (am_H (T)) 0 0 := by
    intro k2
    induction k2 with
    | zero =>
      intro s T v8 v9 v10 v11 v12 v13 v14 v15 q1 q2 f1 f2 f3 f4 f5
      omega
    | succ k2 ih2 =>
      intro s T v8 v9 v10 v11 v12 v13 v14 v15 q1 q2 f1 f2 f3 f4 f5
      have hk := hope_kn f3
      by_cases hsn : s = n
      · have w1 : nI n < nI (s + 1) := nI_lt (by omega) (by omega)
        have bF : (nI F).toNatClampNeg = F := nI_clamp (by omega)
        have sF : 0 ≤ nI F ∧ nI F < Int32.ofNat 241 := ⟨nI_pos' (by omega), nI_lt (by omega) (by omega)⟩
        refine r_iload rfl rfl ?_
        refine r_iload_n rfl rfl ?_
        refine r_icmp_gt rfl (fun h41 => ?_) (fun h41 => ?_)
        · refine r_aload_n rfl rfl ?_
          refine r_getD rfl rfl (by decide) (by decide) rfl ?_
          refine r_iload_n rfl rfl ?_
          refine r_bipush rfl ?_
          refine r_iadd rfl ?_
          rw [h120]
          refine r_lald rfl hk.1 (by first | decide | assumption) (by first | exact sF.1 | exact sF.2) (by first | exact sF.1 | exact sF.2) ?_
          refine r_lret rfl ?_
          rw [bF, f4 F (by omega) (by omega), hsn]
          exact ⟨rfl, _, rfl, f1, f3, f5 hsn⟩
        · exact absurd w1 h41
      · have w1 : ¬ nI n < nI (s + 1) := nI_nlt (by omega) (by omega)
        obtain ⟨w, hw⟩ : ∃ w, w = 50 + 5 * (n - (s + 1)) := ⟨_, rfl⟩
        have ew : 50 + 5 * (nI n - nI (s + 1)) = nI w := by
          rw [pk_sub (by omega), show (5 : Int32) * nI (n - (s + 1)) = nI (5 * (n - (s + 1))) from pk_mul 5 _, show (50 : Int32) + nI (5 * (n - (s + 1))) = nI (50 + 5 * (n - (s + 1))) from nI_add 50 _, hw]
        have nw : -nI w = nI (120 - w) - 120 := by
          rw [← pk_sub (a := 120) (b := w) (by omega), show nI 120 = 120 from rfl]
          grind
        have loop3 : ∀ (k3 : Nat) (Y : Nat) (U : am_S) (v10 : Option Value) (v11 : Option Value) (v12 : Option Value) (v13 : Option Value) (v14 : Option Value) (v15 : Option Value), (120 ≤ Y + w ∧ Y ≤ 121 + w) → (121 + w < Y + k3) → (FrS S U) → (∀ k3, k3 < 13 → gJ U 116 k3 = lN (wnM dn sl up (lt + 1) k3)) → (gR U 4 = gR T 4 ∧ gR U 5 = gR T 5 ∧ gR U 0 = gR T 0) → (∀ j, 70 ≤ j + 5 * (n - s) → j ≤ 170 + 5 * (n - s) → gJ U (gR T 4) j = lN (stg Cm dn sl up mo s j)) → (∀ j, 120 ≤ j + w → j < Y → gJ U (gR T 5) j = lN (stg Cm dn sl up mo (s + 1) j)) → (s + 1 = n → F < Y → gI U 97 37 = stgF Cm dn sl up mo s F) → am_Ex (am_Call am_MT (d + 2)) mmX11_steers none (fun r1 G1 => r1 = (some (.long (lN (stg Cm dn sl up mo n F)))) ∧ ∃ S2, G1 = am_H S2 ∧ (fun T => FrS S T ∧ HopeOk T ∧ gI T 97 37 = stgF Cm dn sl up mo (n - 1) F) S2) (fun _ _ _ _ _ _ => False) 60 [some (.ref 97), some (.int (nI lt)), some (.int (nI F - 120)), some (.int (nI n)), some (.int (nI mo)), some (.long (lN (10 ^ s))), none, some (.int (nI (s + 1))), some (.int (nI w)), some (.int (nI Y - 120)), v10, v11, v12, v13, v14, v15] [] (am_H (U)) 0 0 := by
          intro k3
          induction k3 with
          | zero =>
            intro Y U v10 v11 v12 v13 v14 v15 p1 p2 g1 g2 g3 g4 g5 g6
            omega
          | succ k3 ih3 =>
            intro Y U v10 v11 v12 v13 v14 v15 p1 p2 g1 g2 g3 g4 g5 g6
            have hkU4 : am_kn (gR U 0) (gR U 4) = (21, 241) := by rw [g3.1, g3.2.2]; exact hk.1
            have hkU5 : am_kn (gR U 0) (gR U 5) = (21, 241) := by rw [g3.2.1, g3.2.2]; exact hk.2.1
            by_cases hY : Y = 121 + w
            · have x1 : nI w < nI Y - 120 := (off120 (by omega) (by omega)).mpr (by omega)
              have r4 : gR (uR (uR U 4 (gR U 5)) 5 (gR U 4)) 4 = gR U 5 := by rw [gR_uR, if_neg (by decide), gR_uR, if_pos rfl]
              have r5 : gR (uR (uR U 4 (gR U 5)) 5 (gR U 4)) 5 = gR U 4 := by rw [gR_uR, if_pos rfl]
              have n4 : gR U 4 ≠ 0 := by rw [g3.1]; omega
              have n5 : gR U 5 ≠ 0 := by rw [g3.2.1]; omega
              have frr : FrS S (uR (uR U 4 (gR U 5)) 5 (gR U 4)) := ⟨fun o a => g1.1 o a, fun k a => g1.2.1 k a, fun o a => g1.2.2.1 o a, fun c a b => by rw [gR_uR, if_neg b, gR_uR, if_neg a, g1.2.2.2 c a b]⟩
              have u5 : gR (uR U 4 (gR U 5)) 5 = gR U 5 := by rw [gR_uR, if_neg (by decide)]
              refine r_iload rfl rfl ?_
              refine r_iload rfl rfl ?_
              refine r_icmp_gt rfl (fun h64 => ?_) (fun h64 => ?_)
              · refine r_aload_n rfl rfl ?_
                refine r_getD rfl rfl (by decide) (by decide) rfl ?_
                refine r_astore (L2 := [_, _, _, _, _, _, _, _, _, _, _, _, _, _, _, _]) rfl rfl ?_
                refine r_aload_n rfl rfl ?_
                refine r_aload_n rfl rfl ?_
                refine r_getD rfl rfl (by decide) (by decide) rfl ?_
                refine r_putH (c := 4) rfl (by decide) (by first | exact n5 | exact n4) ?_
                refine r_aload_n rfl rfl ?_
                refine r_aload rfl rfl ?_
                refine r_putH (c := 5) rfl (by decide) (by first | exact n5 | exact n4) ?_
                refine r_lload rfl rfl ?_
                refine r_ldc2_w rfl ?_
                refine r_lmul rfl ?_
                refine r_lstore (L2 := [_, _, _, _, _, _, _, _, _, _, _, _, _, _, _, _]) rfl rfl ?_
                refine r_iinc (L2 := [_, _, _, _, _, _, _, _, _, _, _, _, _, _, _, _]) rfl rfl rfl ?_
                refine r_goto rfl ?_
                rw [show (10 : Int64) = lN 10 from rfl, lN_mul, ← Nat.pow_succ, nI_1]
                refine ih2 (s + 1) _ _ _ _ _ _ _ _ _ (by omega) (by omega) frr (fun k hk2 => g2 k hk2) ?_ (fun j a b => ?_) (fun h => ?_)
                · unfold HopeOk
                  rw [r4, r5, g3.1, g3.2.1]
                  rcases f3 with h | h
                  · exact Or.inr ⟨h.2, h.1⟩
                  · exact Or.inl ⟨h.2, h.1⟩
                · rw [r4]
                  rw [g3.2.1]
                  exact g5 j (by omega) (by omega)
                · rw [show n - 1 = s by omega]
                  exact g6 h (by omega)
              · exact absurd x1 h64
            · have x1 : ¬ nI w < nI Y - 120 := fun z => by
                rw [off120 (by omega) (by omega)] at z
                omega
              have bY : (nI Y).toNatClampNeg = Y := nI_clamp (by omega)
              have sY : 0 ≤ nI Y ∧ nI Y < Int32.ofNat 241 := ⟨nI_pos' (by omega), nI_lt (by omega) (by omega)⟩
              have lb : ∀ t, (lst (hop Cm (stg Cm dn sl up mo s) dn sl up (10 ^ s)) Y t).1 < 9223372036854775808 := fun t => Nat.lt_of_le_of_lt (lst_le t) (hB s (by omega) Y (by omega))
              have ebb : 2 * nI mo = nI (2 * mo) := pk_mul 2 mo
              have loop4 : ∀ (k4 : Nat) (t : Nat) (V : am_S) (v13 : Option Value) (v14 : Option Value) (v15 : Option Value), (t ≤ 2 * mo + 1) → (2 * mo + 1 < t + k4) → (FrS S V) → (∀ k4, k4 < 13 → gJ V 116 k4 = lN (wnM dn sl up (lt + 1) k4)) → (gR V 4 = gR T 4 ∧ gR V 5 = gR T 5 ∧ gR V 0 = gR T 0) → (∀ o, gJ V o = gJ U o) → ((s + 1 = n ∧ Y = F → 1 ≤ t → gI V 97 37 = (lst (hop Cm (stg Cm dn sl up mo s) dn sl up (10 ^ s)) Y (t - 1)).2) ∧ (¬ (s + 1 = n ∧ Y = F) → gI V 97 37 = gI U 97 37)) → am_Ex (am_Call am_MT (d + 2)) mmX11_steers none (fun r1 G1 => r1 = (some (.long (lN (stg Cm dn sl up mo n F)))) ∧ ∃ S2, G1 = am_H S2 ∧ (fun T => FrS S T ∧ HopeOk T ∧ gI T 97 37 = stgF Cm dn sl up mo (n - 1) F) S2) (fun _ _ _ _ _ _ => False) 75 [some (.ref 97), some (.int (nI lt)), some (.int (nI F - 120)), some (.int (nI n)), some (.int (nI mo)), some (.long (lN (10 ^ s))), none, some (.int (nI (s + 1))), some (.int (nI w)), some (.int (nI Y - 120)), some (.long (if t = 0 then -1 else lN (lst (hop Cm (stg Cm dn sl up mo s) dn sl up (10 ^ s)) Y (t - 1)).1)), none, some (.int (nI t)), v13, v14, v15] [] (am_H (V)) 0 0 := by
                intro k4
                induction k4 with
                | zero =>
                  intro t V v13 v14 v15 t1 t2 z1 z2 z3 z4 z5
                  omega
                | succ k4 ih4 =>
                  intro t V v13 v14 v15 t1 t2 z1 z2 z3 z4 z5
                  have hkV4 : am_kn (gR V 0) (gR V 4) = (21, 241) := by rw [z3.1, z3.2.2]; exact hk.1
                  have hkV5 : am_kn (gR V 0) (gR V 5) = (21, 241) := by rw [z3.2.1, z3.2.2]; exact hk.2.1
                  by_cases ht : t = 2 * mo + 1
                  · have w2 : nI (2 * mo) < nI t := nI_lt (by omega) (by omega)
                    rw [if_neg (by omega), show t - 1 = 2 * mo by omega]
                    refine r_iload rfl rfl ?_
                    refine r_iconst rfl ?_
                    refine r_iload rfl rfl ?_
                    refine r_imul rfl ?_
                    rw [ebb]
                    refine r_icmp_gt rfl (fun h81 => ?_) (fun h81 => ?_)
                    · refine r_aload_n rfl rfl ?_
                      refine r_getD rfl rfl (by decide) (by decide) rfl ?_
                      refine r_iload rfl rfl ?_
                      refine r_bipush rfl ?_
                      refine r_iadd rfl ?_
                      rw [h120]
                      refine r_lload rfl rfl ?_
                      refine r_last rfl hkV5 (by first | decide | assumption) (by first | exact sY.1 | exact sY.2) (by first | exact sY.1 | exact sY.2) ?_
                      refine r_iinc (L2 := [_, _, _, _, _, _, _, _, _, _, _, _, _, _, _, _]) rfl rfl rfl ?_
                      refine r_goto rfl ?_
                      rw [bY, off120_1]
                      refine ih3 (Y + 1) _ _ _ _ _ _ _ (by omega) (by omega) (frS_uJ z1 (by rw [z3.2.1]; omega)) (fun k hk2 => ?_) z3 (fun j a b => ?_) (fun j a b => ?_) (fun h hF => ?_)
                      · rw [gJ_uJ_ne (by rw [z3.2.1]; omega), z2 k hk2]
                      · rw [gJ_uJ_ne (by rw [z3.2.1]; exact hk.2.2.1), z4, g4 j a b]
                      · rw [z3.2.1, gJ_uJ_eq]
                        by_cases hj : j = Y
                        · rw [hj, pk_uLs]
                          rfl
                        · rw [pk_uLn hj, z4, g5 j a (by omega)]
                      · rw [gI_uJ_f]
                        by_cases hYF : Y = F
                        · rw [z5.1 ⟨h, hYF⟩ (by omega), hYF, show t - 1 = 2 * mo by omega]
                          rfl
                        · rw [z5.2 (fun q => hYF q.2), g6 h (by omega)]
                    · exact absurd w2 h81
                  · have w2 : ¬ nI (2 * mo) < nI t := nI_nlt (by omega) (by omega)
                    have t8 : t ≤ 8 := by omega
                    have hmv : mvN Y t = Y - (t + 1) / 2 ∨ mvN Y t = Y + t / 2 := by unfold mvN; split; exact Or.inl rfl; exact Or.inr rfl
                    have e2 : nI t - nI t / 2 * 2 = nI (t % 2) := pk_rem (d := 2) (by omega) (by decide) (by decide)
                    have co : ∀ {d : Nat}, am_CT (d + 1) iX11_costOf [.ref 97, .int (nI (mvN Y t) - 120)] V (some (.long (lN (Cm (mvN Y t))))) V := fun {d} => by
                      have e := ct_X11_costOf (d := d) (T := V) (Y := mvN Y t) z2 (by rw [z1.2.1 10 (by decide), hdu]) hda (by omega)
                      rw [show cmN dn sl up (lt + 1) da (mvN Y t) 13 = Cm (mvN Y t) from by rw [← hCm]] at e
                      exact e
                    have th : ∀ {d : Nat}, am_CT (d + 1) iX11_then [.ref 97, .int (nI (mvN Y t) - 120)] V (some (.long (lN (dn * stg Cm dn sl up mo s (mvN Y t - 1) + sl * stg Cm dn sl up mo s (mvN Y t) + up * stg Cm dn sl up mo s (mvN Y t + 1))))) V := fun {d} => ct_X11_then (N := stg Cm dn sl up mo s) (wnM_fr z1 hW) hkV4 (fun j a b => by rw [z3.1, z4, g4 j (by omega) (by omega)]) (by omega) (by omega)
                    have hv : lN (10 ^ s) * lN (Cm (mvN Y t)) + lN (dn * stg Cm dn sl up mo s (mvN Y t - 1) + sl * stg Cm dn sl up mo s (mvN Y t) + up * stg Cm dn sl up mo s (mvN Y t + 1)) = lN (hop Cm (stg Cm dn sl up mo s) dn sl up (10 ^ s) (mvN Y t)) := by
                      rw [lN_mul, lN_add, hop, Nat.mul_comm (10 ^ s), Nat.mul_comm dn, Nat.mul_comm sl, Nat.mul_comm up]
                      congr 1
                      omega
                    have hb := hB s (by omega) (mvN Y t) (by omega)
                    have mvY : mvN Y 0 = Y := rfl
                    have go : ∀ (b : Prop) (x : Int64) (W : am_S) (v13 v14 v15 : Option Value), x = (if t + 1 = 0 then -1 else lN (lst (hop Cm (stg Cm dn sl up mo s) dn sl up (10 ^ s)) Y (t + 1 - 1)).1) → FrS S W → (∀ k, k < 13 → gJ W 116 k = lN (wnM dn sl up (lt + 1) k)) → (gR W 4 = gR T 4 ∧ gR W 5 = gR T 5 ∧ gR W 0 = gR T 0) → (∀ o, gJ W o = gJ U o) → ((s + 1 = n ∧ Y = F → 1 ≤ t + 1 → gI W 97 37 = (lst (hop Cm (stg Cm dn sl up mo s) dn sl up (10 ^ s)) Y (t + 1 - 1)).2) ∧ (¬ (s + 1 = n ∧ Y = F) → gI W 97 37 = gI U 97 37)) → am_Ex (am_Call am_MT (d + 2)) mmX11_steers none (fun r1 G1 => r1 = (some (.long (lN (stg Cm dn sl up mo n F)))) ∧ ∃ S2, G1 = am_H S2 ∧ (fun T => FrS S T ∧ HopeOk T ∧ gI T 97 37 = stgF Cm dn sl up mo (n - 1) F) S2) (fun _ _ _ _ _ _ => False) 75 [some (.ref 97), some (.int (nI lt)), some (.int (nI F - 120)), some (.int (nI n)), some (.int (nI mo)), some (.long (lN (10 ^ s))), none, some (.int (nI (s + 1))), some (.int (nI w)), some (.int (nI Y - 120)), some (.long x), none, some (.int (nI (t + 1))), v13, v14, v15] [] (am_H W) 0 0 := fun b x W v13 v14 v15 hx a1 a2 a3 a4 a5 => by
                      rw [hx]
                      exact ih4 (t + 1) W v13 v14 v15 (by omega) (by omega) a1 a2 a3 a4 a5
                    have lt0 : t = 0 → lst (hop Cm (stg Cm dn sl up mo s) dn sl up (10 ^ s)) Y (t + 1 - 1) = (hop Cm (stg Cm dn sl up mo s) dn sl up (10 ^ s) (mvN Y t), puI t) := fun h => by subst h; rfl
                    have lt1 : 0 < t → lst (hop Cm (stg Cm dn sl up mo s) dn sl up (10 ^ s)) Y (t + 1 - 1) = if hop Cm (stg Cm dn sl up mo s) dn sl up (10 ^ s) (mvN Y t) < (lst (hop Cm (stg Cm dn sl up mo s) dn sl up (10 ^ s)) Y (t - 1)).1 then (hop Cm (stg Cm dn sl up mo s) dn sl up (10 ^ s) (mvN Y t), puI t) else lst (hop Cm (stg Cm dn sl up mo s) dn sl up (10 ^ s)) Y (t - 1) := fun h => by
                      obtain ⟨i, rfl⟩ : ∃ i, t = i + 1 := ⟨t - 1, by omega⟩
                      rfl
                    have goT : ∀ (v : Int32) (v14 v15 : Option Value), lst (hop Cm (stg Cm dn sl up mo s) dn sl up (10 ^ s)) Y (t + 1 - 1) = (hop Cm (stg Cm dn sl up mo s) dn sl up (10 ^ s) (mvN Y t), puI t) → ((s + 1 = n ∧ Y = F → v = puI t) ∧ (¬ (s + 1 = n ∧ Y = F) → v = gI V 97 37)) → am_Ex (am_Call am_MT (d + 2)) mmX11_steers none (fun r1 G1 => r1 = (some (.long (lN (stg Cm dn sl up mo n F)))) ∧ ∃ S2, G1 = am_H S2 ∧ (fun T => FrS S T ∧ HopeOk T ∧ gI T 97 37 = stgF Cm dn sl up mo (n - 1) F) S2) (fun _ _ _ _ _ _ => False) 75 [some (.ref 97), some (.int (nI lt)), some (.int (nI F - 120)), some (.int (nI n)), some (.int (nI mo)), some (.long (lN (10 ^ s))), none, some (.int (nI (s + 1))), some (.int (nI w)), some (.int (nI Y - 120)), some (.long (lN (hop Cm (stg Cm dn sl up mo s) dn sl up (10 ^ s) (mvN Y t)))), none, some (.int (nI (t + 1))), some (.int (puI t)), v14, v15] [] (am_H (uI V 97 37 v)) 0 0 := fun v v14 v15 hl hv2 => by
                      refine go True _ _ _ _ _ ?_ (frS_u37 z1) z2 z3 z4 ⟨fun h1 _ => ?_, fun h1 => ?_⟩
                      · rw [if_neg (by omega), hl]
                      · rw [gI_uI, if_pos rfl, if_pos rfl, hl, hv2.1 h1]
                      · rw [gI_uI, if_pos rfl, if_pos rfl, hv2.2 h1, z5.2 h1]
                    have goF : ∀ (v14 v15 : Option Value), 0 < t → lst (hop Cm (stg Cm dn sl up mo s) dn sl up (10 ^ s)) Y (t + 1 - 1) = lst (hop Cm (stg Cm dn sl up mo s) dn sl up (10 ^ s)) Y (t - 1) → am_Ex (am_Call am_MT (d + 2)) mmX11_steers none (fun r1 G1 => r1 = (some (.long (lN (stg Cm dn sl up mo n F)))) ∧ ∃ S2, G1 = am_H S2 ∧ (fun T => FrS S T ∧ HopeOk T ∧ gI T 97 37 = stgF Cm dn sl up mo (n - 1) F) S2) (fun _ _ _ _ _ _ => False) 75 [some (.ref 97), some (.int (nI lt)), some (.int (nI F - 120)), some (.int (nI n)), some (.int (nI mo)), some (.long (lN (10 ^ s))), none, some (.int (nI (s + 1))), some (.int (nI w)), some (.int (nI Y - 120)), some (.long (if t = 0 then -1 else lN (lst (hop Cm (stg Cm dn sl up mo s) dn sl up (10 ^ s)) Y (t - 1)).1)), none, some (.int (nI (t + 1))), some (.int (puI t)), v14, v15] [] (am_H V) 0 0 := fun v14 v15 h0 hl => by
                      refine go True _ _ _ _ _ ?_ z1 z2 z3 z4 ⟨fun h1 _ => ?_, z5.2⟩
                      · rw [if_neg (by omega), if_neg (by omega), hl]
                      · rw [hl]
                        exact z5.1 h1 (by omega)
                    have negb : (if t = 0 then (-1 : Int64) else lN (lst (hop Cm (stg Cm dn sl up mo s) dn sl up (10 ^ s)) Y (t - 1)).1) < 0 ↔ t = 0 := by
                      by_cases h0 : t = 0
                      · rw [if_pos h0]; exact ⟨fun _ => h0, fun _ => by decide⟩
                      · rw [if_neg h0]
                        refine ⟨fun z => ?_, fun z => absurd z h0⟩
                        have := (pk_lLT (lb (t - 1)) (show 0 < 9223372036854775808 by decide)).mp z
                        omega
                    have mid : am_Ex (am_Call am_MT (d + 2)) mmX11_steers none (fun r1 G1 => r1 = (some (.long (lN (stg Cm dn sl up mo n F)))) ∧ ∃ S2, G1 = am_H S2 ∧ (fun T => FrS S T ∧ HopeOk T ∧ gI T 97 37 = stgF Cm dn sl up mo (n - 1) F) S2) (fun _ _ _ _ _ _ => False) 108 [some (.ref 97), some (.int (nI lt)), some (.int (nI F - 120)), some (.int (nI n)), some (.int (nI mo)), some (.long (lN (10 ^ s))), none, some (.int (nI (s + 1))), some (.int (nI w)), some (.int (nI Y - 120)), some (.long (if t = 0 then -1 else lN (lst (hop Cm (stg Cm dn sl up mo s) dn sl up (10 ^ s)) Y (t - 1)).1)), none, some (.int (nI t)), some (.int (puI t)), v14, v15] [] (am_H V) 0 0 := by
                      refine r_lload rfl rfl ?_
                      refine r_aload_n rfl rfl ?_
                      refine r_iload rfl rfl ?_
                      refine r_iload rfl rfl ?_
                      refine r_iadd rfl ?_
                      rw [mv120 (by omega)]
                      refine r_callV rfl co rfl rfl rfl (by decide) rfl (am_cnt rfl) ?_
                      refine r_lmul rfl ?_
                      refine r_aload_n rfl rfl ?_
                      refine r_iload rfl rfl ?_
                      refine r_iload rfl rfl ?_
                      refine r_iadd rfl ?_
                      rw [mv120 (by omega)]
                      refine r_callV rfl th rfl rfl rfl (by decide) rfl (am_cnt rfl) ?_
                      refine r_ladd rfl ?_
                      rw [hv]
                      refine r_lstore (L2 := [_, _, _, _, _, _, _, _, _, _, _, _, _, _, _, _]) rfl rfl ?_
                      refine r_lload rfl rfl ?_
                      refine r_lconst rfl ?_
                      refine r_lcmp rfl ?_
                      refine r_if_lt rfl (fun h136 => ?_) (fun h136 => ?_)
                      · rw [lc_lt, negb] at h136
                        have hl := lt0 h136
                        refine r_lload rfl rfl ?_
                        refine r_lstore (L2 := [_, _, _, _, _, _, _, _, _, _, _, _, _, _, _, _]) rfl rfl ?_
                        refine r_aload_n rfl rfl ?_
                        refine r_iload rfl rfl ?_
                        refine r_iload_n rfl rfl ?_
                        refine r_icmp_ne rfl (fun h155 => ?_) (fun h155 => ?_)
                        · rw [nI_eq (by omega) (by omega)] at h155
                          have hc : ¬ (s + 1 = n ∧ Y = F) := fun z => h155 z.1
                          refine r_aload_n rfl rfl ?_
                          refine r_getI rfl rfl (by decide) (by decide) rfl ?_
                          refine r_putI rfl rfl (by decide) (by decide) rfl ?_
                          refine r_iinc (L2 := [_, _, _, _, _, _, _, _, _, _, _, _, _, _, _, _]) rfl rfl rfl ?_
                          refine r_goto rfl ?_
                          rw [nI_1]
                          first
                            | exact goF _ _ (by omega) hl
                            | exact goT _ _ _ hl ⟨fun z => absurd z hc, fun _ => rfl⟩
                            | exact goT _ _ _ hl ⟨fun _ => rfl, fun z => absurd hc z⟩
                        · rw [nI_eq (by omega) (by omega)] at h155
                          refine r_iload rfl rfl ?_
                          refine r_iload_n rfl rfl ?_
                          refine r_icmp_ne rfl (fun h161 => ?_) (fun h161 => ?_)
                          · rw [eq120 (by omega) (by omega)] at h161
                            have hc : ¬ (s + 1 = n ∧ Y = F) := fun z => h161 z.2
                            refine r_aload_n rfl rfl ?_
                            refine r_getI rfl rfl (by decide) (by decide) rfl ?_
                            refine r_putI rfl rfl (by decide) (by decide) rfl ?_
                            refine r_iinc (L2 := [_, _, _, _, _, _, _, _, _, _, _, _, _, _, _, _]) rfl rfl rfl ?_
                            refine r_goto rfl ?_
                            rw [nI_1]
                            first
                              | exact goF _ _ (by omega) hl
                              | exact goT _ _ _ hl ⟨fun z => absurd z hc, fun _ => rfl⟩
                              | exact goT _ _ _ hl ⟨fun _ => rfl, fun z => absurd hc z⟩
                          · rw [eq120 (by omega) (by omega)] at h161
                            have hc : s + 1 = n ∧ Y = F := ⟨h155, h161⟩
                            refine r_iload rfl rfl ?_
                            refine r_goto rfl ?_
                            refine r_putI rfl rfl (by decide) (by decide) rfl ?_
                            refine r_iinc (L2 := [_, _, _, _, _, _, _, _, _, _, _, _, _, _, _, _]) rfl rfl rfl ?_
                            refine r_goto rfl ?_
                            rw [nI_1]
                            first
                              | exact goF _ _ (by omega) hl
                              | exact goT _ _ _ hl ⟨fun z => absurd z hc, fun _ => rfl⟩
                              | exact goT _ _ _ hl ⟨fun _ => rfl, fun z => absurd hc z⟩
                      · rw [lc_lt, negb] at h136
                        refine r_lload rfl rfl ?_
                        refine r_lload rfl rfl ?_
                        refine r_lcmp rfl ?_
                        refine r_if_ge rfl (fun h144 => ?_) (fun h144 => ?_)
                        · rw [lc_ge, if_neg h136, pk_lLE (lb _) hb] at h144
                          have hl := lt1 (by omega)
                          rw [if_neg (by omega)] at hl
                          refine r_iinc (L2 := [_, _, _, _, _, _, _, _, _, _, _, _, _, _, _, _]) rfl rfl rfl ?_
                          refine r_goto rfl ?_
                          rw [nI_1]
                          first
                            | exact goF _ _ (by omega) hl
                            | exact goT _ _ _ hl ⟨fun z => absurd z hc, fun _ => rfl⟩
                            | exact goT _ _ _ hl ⟨fun _ => rfl, fun z => absurd hc z⟩
                        · rw [lc_ge, if_neg h136, pk_lLE (lb _) hb] at h144
                          have hl := lt1 (by omega)
                          rw [if_pos (by omega)] at hl
                          refine r_lload rfl rfl ?_
                          refine r_lstore (L2 := [_, _, _, _, _, _, _, _, _, _, _, _, _, _, _, _]) rfl rfl ?_
                          refine r_aload_n rfl rfl ?_
                          refine r_iload rfl rfl ?_
                          refine r_iload_n rfl rfl ?_
                          refine r_icmp_ne rfl (fun h155 => ?_) (fun h155 => ?_)
                          · rw [nI_eq (by omega) (by omega)] at h155
                            have hc : ¬ (s + 1 = n ∧ Y = F) := fun z => h155 z.1
                            refine r_aload_n rfl rfl ?_
                            refine r_getI rfl rfl (by decide) (by decide) rfl ?_
                            refine r_putI rfl rfl (by decide) (by decide) rfl ?_
                            refine r_iinc (L2 := [_, _, _, _, _, _, _, _, _, _, _, _, _, _, _, _]) rfl rfl rfl ?_
                            refine r_goto rfl ?_
                            rw [nI_1]
                            first
                              | exact goF _ _ (by omega) hl
                              | exact goT _ _ _ hl ⟨fun z => absurd z hc, fun _ => rfl⟩
                              | exact goT _ _ _ hl ⟨fun _ => rfl, fun z => absurd hc z⟩
                          · rw [nI_eq (by omega) (by omega)] at h155
                            refine r_iload rfl rfl ?_
                            refine r_iload_n rfl rfl ?_
                            refine r_icmp_ne rfl (fun h161 => ?_) (fun h161 => ?_)
                            · rw [eq120 (by omega) (by omega)] at h161
                              have hc : ¬ (s + 1 = n ∧ Y = F) := fun z => h161 z.2
                              refine r_aload_n rfl rfl ?_
                              refine r_getI rfl rfl (by decide) (by decide) rfl ?_
                              refine r_putI rfl rfl (by decide) (by decide) rfl ?_
                              refine r_iinc (L2 := [_, _, _, _, _, _, _, _, _, _, _, _, _, _, _, _]) rfl rfl rfl ?_
                              refine r_goto rfl ?_
                              rw [nI_1]
                              first
                                | exact goF _ _ (by omega) hl
                                | exact goT _ _ _ hl ⟨fun z => absurd z hc, fun _ => rfl⟩
                                | exact goT _ _ _ hl ⟨fun _ => rfl, fun z => absurd hc z⟩
                            · rw [eq120 (by omega) (by omega)] at h161
                              have hc : s + 1 = n ∧ Y = F := ⟨h155, h161⟩
                              refine r_iload rfl rfl ?_
                              refine r_goto rfl ?_
                              refine r_putI rfl rfl (by decide) (by decide) rfl ?_
                              refine r_iinc (L2 := [_, _, _, _, _, _, _, _, _, _, _, _, _, _, _, _]) rfl rfl rfl ?_
                              refine r_goto rfl ?_
                              rw [nI_1]
                              first
                                | exact goF _ _ (by omega) hl
                                | exact goT _ _ _ hl ⟨fun z => absurd z hc, fun _ => rfl⟩
                                | exact goT _ _ _ hl ⟨fun _ => rfl, fun z => absurd hc z⟩
                    by_cases ho : t % 2 = 1
                    · have e3 : nI (t % 2) = 1 := by rw [ho]; rfl
                      refine r_iload rfl rfl ?_
                      refine r_iconst rfl ?_
                      refine r_iload rfl rfl ?_
                      refine r_imul rfl ?_
                      rw [ebb]
                      refine r_icmp_gt rfl (fun h81 => ?_) (fun h81 => ?_)
                      · exact absurd h81 w2
                      · refine r_iload rfl rfl ?_
                        refine r_iconst rfl ?_
                        refine r_irem rfl (by decide) ?_
                        rw [e2]
                        refine r_iconst rfl ?_
                        refine r_icmp_ne rfl (fun h89 => ?_) (fun h89 => ?_)
                        · exact absurd e3 h89
                        · refine r_iload rfl rfl ?_
                          refine r_iconst rfl ?_
                          refine r_iadd rfl ?_
                          refine r_ineg rfl ?_
                          rw [nI_1]
                          refine r_iconst rfl ?_
                          refine r_idiv rfl (by decide) ?_
                          refine r_goto rfl ?_
                          rw [pu_odd t8 ho]
                          refine r_istore (L2 := [_, _, _, _, _, _, _, _, _, _, _, _, _, _, _, _]) rfl rfl ?_
                          exact mid
                    · have e3 : ¬ nI (t % 2) = 1 := fun z => ho (nI_inj (b := 1) (by omega) (by omega) z)
                      refine r_iload rfl rfl ?_
                      refine r_iconst rfl ?_
                      refine r_iload rfl rfl ?_
                      refine r_imul rfl ?_
                      rw [ebb]
                      refine r_icmp_gt rfl (fun h81 => ?_) (fun h81 => ?_)
                      · exact absurd h81 w2
                      · refine r_iload rfl rfl ?_
                        refine r_iconst rfl ?_
                        refine r_irem rfl (by decide) ?_
                        rw [e2]
                        refine r_iconst rfl ?_
                        refine r_icmp_ne rfl (fun h89 => ?_) (fun h89 => ?_)
                        · refine r_iload rfl rfl ?_
                          refine r_iconst rfl ?_
                          refine r_idiv rfl (by decide) ?_
                          rw [pu_even t8 ho]
                          refine r_istore (L2 := [_, _, _, _, _, _, _, _, _, _, _, _, _, _, _, _]) rfl rfl ?_
                          exact mid
                        · exact absurd h89 e3
              refine r_iload rfl rfl ?_
              refine r_iload rfl rfl ?_
              refine r_icmp_gt rfl (fun h64 => ?_) (fun h64 => ?_)
              · exact absurd h64 x1
              · refine r_ldc2_w rfl ?_
                refine r_lstore (L2 := [_, _, _, _, _, _, _, _, _, _, _, _, _, _, _, _]) rfl rfl ?_
                refine r_iconst rfl ?_
                refine r_istore (L2 := [_, _, _, _, _, _, _, _, _, _, _, _, _, _, _, _]) rfl rfl ?_
                have e := loop4 (2 * mo + 2) 0 U v13 v14 v15 (by omega) (by omega) g1 g2 g3 (fun _ => rfl) ⟨fun _ h => absurd h (by omega), fun _ => rfl⟩
                rw [if_pos rfl] at e
                exact e
        refine r_iload rfl rfl ?_
        refine r_iload_n rfl rfl ?_
        refine r_icmp_gt rfl (fun h41 => ?_) (fun h41 => ?_)
        · exact absurd h41 w1
        · refine r_bipush rfl ?_
          refine r_iconst rfl ?_
          refine r_iload_n rfl rfl ?_
          refine r_iload rfl rfl ?_
          refine r_isub rfl ?_
          refine r_imul rfl ?_
          refine r_iadd rfl ?_
          rw [ew]
          refine r_istore (L2 := [_, _, _, _, _, _, _, _, _, _, _, _, _, _, _, _]) rfl rfl ?_
          refine r_iload rfl rfl ?_
          refine r_ineg rfl ?_
          rw [nw]
          refine r_istore (L2 := [_, _, _, _, _, _, _, _, _, _, _, _, _, _, _, _]) rfl rfl ?_
          exact loop3 (2 * w + 3) (120 - w) T v10 v11 v12 v13 v14 v15 (by omega) (by omega) f1 f2 ⟨rfl, rfl, rfl⟩ f4 (fun j a b => by omega) (fun _ h => by omega)
  have loop : ∀ (k : Nat) (j : Nat) (T : am_S), (j ≤ 241) → (241 < j + k) → (FrS S T) → (∀ k, k < 13 → gJ T 116 k = lN (wnM dn sl up (lt + 1) k)) → (∀ c, gR T c = gR S c) → (∀ i, i < j → gJ T (gR S 4) i = 0) → am_Ex (am_Call am_MT (d + 2)) mmX11_steers none (fun r1 G1 => r1 = (some (.long (lN (stg Cm dn sl up mo n F)))) ∧ ∃ S2, G1 = am_H S2 ∧ (fun T => FrS S T ∧ HopeOk T ∧ gI T 97 37 = stgF Cm dn sl up mo (n - 1) F) S2) (fun _ _ _ _ _ _ => False) 10 [some (.ref 97), some (.int (nI lt)), some (.int (nI F - 120)), some (.int (nI n)), some (.int (nI mo)), some (.int (nI j)), none, none, none, none, none, none, none, none, none, none] [] (am_H (T)) 0 0 := by
    intro k
    induction k with
    | zero =>
      intro j T q1 q2 f1 f2 f3 f4
      omega
    | succ k ih =>
      intro j T q1 q2 f1 f2 f3 f4
      have hk := hope_kn hH
      have hkT : am_kn (gR T 0) (gR T 4) = (21, 241) := by rw [f3, f3]; exact hk.1
      have bj : (nI j).toNatClampNeg = j := nI_clamp (by omega)
      have s1 : 0 ≤ nI j := nI_pos' (by omega)
      refine r_iload rfl rfl ?_
      refine r_sipush rfl ?_
      refine r_icmp_ge rfl (fun h15 => ?_) (fun h15 => ?_)
      · have hj : j = 241 := by
          rw [show (241 : Int32) = nI 241 from rfl, nI_leI (by omega) (by omega)] at h15
          omega
        subst hj
        refine r_lconst rfl ?_
        refine r_lstore (L2 := [_, _, _, _, _, _, _, _, _, _, _, _, _, _, _, _]) rfl rfl ?_
        refine r_iconst rfl ?_
        refine r_istore (L2 := [_, _, _, _, _, _, _, _, _, _, _, _, _, _, _, _]) rfl rfl ?_
        exact loop2 (n + 1) 0 T none none none none none none none none (by omega) (by omega) f1 f2 (by unfold HopeOk; rw [f3, f3]; exact hH) (fun i a b => by rw [f3, f4 i (by omega)]; rfl) (fun h => by omega)
      · rw [show (241 : Int32) = nI 241 from rfl, nI_leI (by omega) (by omega)] at h15
        have s2 : nI j < Int32.ofNat 241 := nI_lt (by omega) (by omega)
        refine r_aload_n rfl rfl ?_
        refine r_getD rfl rfl (by decide) (by decide) rfl ?_
        refine r_iload rfl rfl ?_
        refine r_lconst rfl ?_
        refine r_last rfl hkT (by first | decide | assumption) (by first | exact s1 | exact s2) (by first | exact s1 | exact s2) ?_
        refine r_iinc (L2 := [_, _, _, _, _, _, _, _, _, _, _, _, _, _, _, _]) rfl rfl rfl ?_
        refine r_goto rfl ?_
        rw [bj, nI_1]
        refine ih (j + 1) _ (by omega) (by omega) (frS_uJ f1 (by rw [f3]; omega)) (fun k hk2 => by rw [gJ_uJ_ne (by rw [f3]; omega), f2 k hk2]) f3 (fun i hi => ?_)
        rw [f3, gJ_uJ_eq]
        by_cases h : i = j
        · rw [h, pk_uLs]
        · rw [pk_uLn h, f4 i (by omega)]
  have e1 : nI lt + 1 = nI (lt + 1) := nI_1 _
  refine r_aload_n rfl rfl ?_
  refine r_iload_n rfl rfl ?_
  refine r_iconst rfl ?_
  refine r_iadd rfl ?_
  rw [e1]
  refine r_callVE rfl (ct_X11_sumsWinds (u := lt + 1) hW (by omega)) rfl rfl rfl (by decide) rfl (am_cnt rfl) (fun T hT => ?_)
  refine r_iconst rfl ?_
  refine r_istore (L2 := [_, _, _, _, _, _, _, _, _, _, _, _, _, _, _, _]) rfl rfl ?_
  exact loop 242 0 T (by omega) (by omega) hT.1 hT.2.2.2.2 hT.2.1 (fun i hi => by omega)
