/-! Courses kept, of the reference. -/
theorem kIx {i j : Nat} : (5001 : Int32) * nI i + nI j = nI (5001 * i + j) := by
  rw [show (5001 : Int32) * nI i = nI (5001 * i) from pk_mul 5001 i, nI_add]
theorem kIx2 {i j : Nat} : (5001 : Int32) * nI i + Int32.ofNat 4800 + nI j = nI (5001 * i + (4800 + j)) := by
  rw [show (5001 : Int32) * nI i = nI (5001 * i) from pk_mul 5001 i, show Int32.ofNat 4800 = nI 4800 from rfl, nI_add, nI_add, Nat.add_assoc]
theorem ct_X11_keep_no {d : Nat} {S T : am_S} {i : Int32} (hT : uI S 97 0 0 = T) (h : ¬ (0 ≤ i ∧ i < 3)) : am_CT (d + 2) iX11_keep [.ref 97, .int i] S (some (.int 0)) (T) := by
  refine am_CT_in mmX11_keep rfl rfl rfl ?_
  refine r_aload_n rfl rfl ?_
  refine r_iconst rfl ?_
  refine r_putI rfl rfl (by decide) (by decide) rfl ?_
  try rw [hT]
  refine r_iload_n rfl rfl ?_
  refine r_i2l rfl ?_
  refine r_lconst rfl ?_
  refine r_ldc2_w rfl ?_
  refine r_callS rfl (by decide) ct_X11_in rfl rfl (am_cnt rfl) ?_
  refine r_if_ne rfl (fun h14 => ?_) (fun h14 => ?_)
  · exfalso
    simp only [b01_eq0, wl_m999, wg_m999, wl_m99, wg_m99, wl_m50, wg_m50, wl_m1, wg_m1, wl_0, wg_0, wl_1, wg_1, wl_2, wg_2, wl_3, wg_3, wl_4, wg_4, wl_6, wg_6, wl_9, wg_9, wl_10, wg_10, wl_11, wg_11, wl_20, wg_20, wl_48, wg_48, wl_50, wg_50, wl_57, wg_57, wl_99, wg_99, wl_100, wg_100, wl_199, wg_199, wl_222, wg_222, wl_999, wg_999, wl_9999, wg_9999, fa_wide_le] at h14
    grind
  · refine r_iconst rfl ?_
    refine r_zret rfl rfl (by exact Or.inl rfl) ?_
    exact ⟨rfl, rfl⟩
/-- what lies in a kept course -/
def kvM (S : am_S) (c : Nat) : Int32 := if c < 4800 then gI S 110 c else gI S 109 (c - 4800)
def kpM (T : am_S) (i : Nat) : am_S := uI (uI (uI (uI (uI T 125 i 1) 126 i (gI T 97 3)) 127 i (gI T 97 23)) 128 i (gI T 97 9)) 129 i (gI T 97 24)
theorem kpM_ne {T : am_S} {i o : Nat} (h : o < 125 ∨ 129 < o) : gI (kpM T i) o = gI T o := by
  unfold kpM
  rw [gI_uI_ne (by omega), gI_uI_ne (by omega), gI_uI_ne (by omega), gI_uI_ne (by omega), gI_uI_ne (by omega)]
theorem ct_X11_keep_ok {d : Nat} {S T : am_S} {i : Nat} (hT : uI S 97 0 0 = T) (hi : i < 3) : am_CE (d + 2) iX11_keep [.ref 97, .int (nI i)] S (some (.int 1)) (fun U => (∀ o, o ≠ 124 → gI U o = gI (kpM T i) o) ∧ (∀ o, gJ U o = gJ T o) ∧ (∀ c, gR U c = gR T c) ∧ ∀ m, gI U 124 m = if 5001 * i ≤ m ∧ m < 5001 * i + 5001 then kvM T (m - 5001 * i) else gI T 124 m) := by
  refine am_CE_in mmX11_keep rfl rfl rfl ?_
  have bi : (nI i).toNatClampNeg = i := nI_clamp (by omega)
  have si : 0 ≤ nI i := nI_pos' (by omega)
  have si2 : nI i < Int32.ofNat 3 := nI_lt (by omega) (by omega)
  have ok : 0 ≤ nI i ∧ nI i < 3 := ⟨si, si2⟩
  have loop2 : ∀ (k2 : Nat) (j : Nat) (U : am_S), (j ≤ 201) → (201 < j + k2) → ((∀ o, o ≠ 124 → gI U o = gI (kpM T i) o) ∧ (∀ o, gJ U o = gJ T o) ∧ (∀ c, gR U c = gR T c)) → (∀ m, gI U 124 m = if 5001 * i ≤ m ∧ m < 5001 * i + (4800 + j) then kvM T (m - 5001 * i) else gI T 124 m) → am_Ex (am_Call am_MT (d + 1)) mmX11_keep none (fun r1 G1 => r1 = (some (.int 1)) ∧ ∃ S2, G1 = am_H S2 ∧ (fun U => (∀ o, o ≠ 124 → gI U o = gI (kpM T i) o) ∧ (∀ o, gJ U o = gJ T o) ∧ (∀ c, gR U c = gR T c) ∧ ∀ m, gI U 124 m = if 5001 * i ≤ m ∧ m < 5001 * i + 5001 then kvM T (m - 5001 * i) else gI T 124 m) S2) (fun _ _ _ _ _ _ => False) 103 [some (.ref 97), some (.int (nI i)), some (.int (nI j))] [] (am_H (U)) 0 0 := by
    intro k2
    induction k2 with
    | zero =>
      intro j U q1 q2 f1 f2
      omega
    | succ k2 ih2 =>
      intro j U q1 q2 f1 f2
      have b1 : (nI j).toNatClampNeg = j := nI_clamp (by omega)
      have s1 : 0 ≤ nI j := nI_pos' (by omega)
      have b2 : (nI (5001 * i + (4800 + j))).toNatClampNeg = 5001 * i + (4800 + j) := nI_clamp (by omega)
      have s3 : 0 ≤ nI (5001 * i + (4800 + j)) := nI_pos' (by omega)
      have u9 : gI U 109 = gI T 109 := by rw [f1.1 109 (by decide), kpM_ne (by decide)]
      refine r_iload_n rfl rfl ?_
      refine r_sipush rfl ?_
      refine r_icmp_gt rfl (fun h107 => ?_) (fun h107 => ?_)
      · have hj : j = 201 := by
          rw [show (200 : Int32) = nI 200 from rfl, nI_ltI (by omega) (by omega)] at h107
          omega
        refine r_iconst rfl ?_
        refine r_zret rfl rfl (by first | exact Or.inr rfl | exact s1 | exact s2 | exact s3 | exact s4) ?_
        refine ⟨rfl, _, rfl, f1.1, f1.2.1, f1.2.2, fun m => ?_⟩
        rw [f2 m, hj]
      · rw [show (200 : Int32) = nI 200 from rfl, nI_ltI (by omega) (by omega)] at h107
        have s2 : nI j < Int32.ofNat 201 := nI_lt (by omega) (by omega)
        have s4 : nI (5001 * i + (4800 + j)) < Int32.ofNat 15003 := nI_lt (by omega) (by omega)
        refine r_aload_n rfl rfl ?_
        refine r_getC rfl rfl (by decide) (by decide) rfl ?_
        refine r_sipush rfl ?_
        refine r_iload_n rfl rfl ?_
        refine r_imul rfl ?_
        refine r_aload_n rfl rfl ?_
        refine r_getC rfl rfl (by decide) (by decide) rfl ?_
        refine r_alen rfl rfl (by decide) ?_
        refine r_iadd rfl ?_
        refine r_iload_n rfl rfl ?_
        refine r_iadd rfl ?_
        rw [kIx2]
        refine r_aload_n rfl rfl ?_
        refine r_getC rfl rfl (by decide) (by decide) rfl ?_
        refine r_iload_n rfl rfl ?_
        refine r_iald rfl rfl (by first | decide | assumption) (by first | exact Or.inr rfl | exact s1 | exact s2 | exact s3 | exact s4) (by first | exact Or.inr rfl | exact s1 | exact s2 | exact s3 | exact s4) ?_
        refine r_iast rfl rfl (by first | decide | assumption) (by first | exact Or.inr rfl | exact s1 | exact s2 | exact s3 | exact s4) (by first | exact Or.inr rfl | exact s1 | exact s2 | exact s3 | exact s4) ?_
        refine r_iinc (L2 := [_, _, _]) rfl rfl rfl ?_
        refine r_goto rfl ?_
        rw [b1, b2, nI_1]
        refine ih2 (j + 1) _ (by omega) (by omega) ⟨fun o a => by rw [gI_uI_ne a, f1.1 o a], f1.2.1, f1.2.2⟩ (fun m => ?_)
        rw [gI_uI, if_pos rfl, u9, f2 m]
        by_cases h : m = 5001 * i + (4800 + j)
        · rw [if_pos h, if_pos (by omega), kvM, if_neg (by omega), show m - 5001 * i - 4800 = j by omega]
        · rw [if_neg h]
          by_cases h2 : 5001 * i ≤ m ∧ m < 5001 * i + (4800 + j)
          · rw [if_pos h2, if_pos (by omega)]
          · rw [if_neg h2, if_neg (by omega)]
  have loop : ∀ (k : Nat) (j : Nat) (U : am_S), (j ≤ 4800) → (4800 < j + k) → ((∀ o, o ≠ 124 → gI U o = gI (kpM T i) o) ∧ (∀ o, gJ U o = gJ T o) ∧ (∀ c, gR U c = gR T c)) → (∀ m, gI U 124 m = if 5001 * i ≤ m ∧ m < 5001 * i + j then kvM T (m - 5001 * i) else gI T 124 m) → am_Ex (am_Call am_MT (d + 1)) mmX11_keep none (fun r1 G1 => r1 = (some (.int 1)) ∧ ∃ S2, G1 = am_H S2 ∧ (fun U => (∀ o, o ≠ 124 → gI U o = gI (kpM T i) o) ∧ (∀ o, gJ U o = gJ T o) ∧ (∀ c, gR U c = gR T c) ∧ ∀ m, gI U 124 m = if 5001 * i ≤ m ∧ m < 5001 * i + 5001 then kvM T (m - 5001 * i) else gI T 124 m) S2) (fun _ _ _ _ _ _ => False) 68 [some (.ref 97), some (.int (nI i)), some (.int (nI j))] [] (am_H (U)) 0 0 := by
    intro k
    induction k with
    | zero =>
      intro j U q1 q2 f1 f2
      omega
    | succ k ih =>
      intro j U q1 q2 f1 f2
      have b1 : (nI j).toNatClampNeg = j := nI_clamp (by omega)
      have s1 : 0 ≤ nI j := nI_pos' (by omega)
      have b2 : (nI (5001 * i + j)).toNatClampNeg = 5001 * i + j := nI_clamp (by omega)
      have s3 : 0 ≤ nI (5001 * i + j) := nI_pos' (by omega)
      have u9 : gI U 110 = gI T 110 := by rw [f1.1 110 (by decide), kpM_ne (by decide)]
      refine r_iload_n rfl rfl ?_
      refine r_aload_n rfl rfl ?_
      refine r_getC rfl rfl (by decide) (by decide) rfl ?_
      refine r_alen rfl rfl (by decide) ?_
      refine r_icmp_ge rfl (fun h74 => ?_) (fun h74 => ?_)
      · have hj : j = 4800 := by
          rw [show Int32.ofNat 4800 = nI 4800 from rfl, nI_leI (by omega) (by omega)] at h74
          omega
        refine r_iconst rfl ?_
        refine r_istore_n (L2 := [_, _, _]) rfl rfl ?_
        exact loop2 202 0 U (by omega) (by omega) f1 (fun m => by rw [f2 m, hj])
      · rw [show Int32.ofNat 4800 = nI 4800 from rfl, nI_leI (by omega) (by omega)] at h74
        have s2 : nI j < Int32.ofNat 4800 := nI_lt (by omega) (by omega)
        have s4 : nI (5001 * i + j) < Int32.ofNat 15003 := nI_lt (by omega) (by omega)
        refine r_aload_n rfl rfl ?_
        refine r_getC rfl rfl (by decide) (by decide) rfl ?_
        refine r_sipush rfl ?_
        refine r_iload_n rfl rfl ?_
        refine r_imul rfl ?_
        refine r_iload_n rfl rfl ?_
        refine r_iadd rfl ?_
        rw [kIx]
        refine r_aload_n rfl rfl ?_
        refine r_getC rfl rfl (by decide) (by decide) rfl ?_
        refine r_iload_n rfl rfl ?_
        refine r_iald rfl rfl (by first | decide | assumption) (by first | exact Or.inr rfl | exact s1 | exact s2 | exact s3 | exact s4) (by first | exact Or.inr rfl | exact s1 | exact s2 | exact s3 | exact s4) ?_
        refine r_iast rfl rfl (by first | decide | assumption) (by first | exact Or.inr rfl | exact s1 | exact s2 | exact s3 | exact s4) (by first | exact Or.inr rfl | exact s1 | exact s2 | exact s3 | exact s4) ?_
        refine r_iinc (L2 := [_, _, _]) rfl rfl rfl ?_
        refine r_goto rfl ?_
        rw [b1, b2, nI_1]
        refine ih (j + 1) _ (by omega) (by omega) ⟨fun o a => by rw [gI_uI_ne a, f1.1 o a], f1.2.1, f1.2.2⟩ (fun m => ?_)
        rw [gI_uI, if_pos rfl, u9, f2 m]
        by_cases h : m = 5001 * i + j
        · rw [if_pos h, if_pos (by omega), kvM, if_pos (by omega), show m - 5001 * i = j by omega]
        · rw [if_neg h]
          by_cases h2 : 5001 * i ≤ m ∧ m < 5001 * i + j
          · rw [if_pos h2, if_pos (by omega)]
          · rw [if_neg h2, if_neg (by omega)]
  refine r_aload_n rfl rfl ?_
  refine r_iconst rfl ?_
  refine r_putI rfl rfl (by decide) (by decide) rfl ?_
  try rw [hT]
  refine r_iload_n rfl rfl ?_
  refine r_i2l rfl ?_
  refine r_lconst rfl ?_
  refine r_ldc2_w rfl ?_
  refine r_callS rfl (by decide) ct_X11_in rfl rfl (am_cnt rfl) ?_
  refine r_if_ne rfl (fun h14 => ?_) (fun h14 => ?_)
  · refine r_aload_n rfl rfl ?_
    refine r_getC rfl rfl (by decide) (by decide) rfl ?_
    refine r_iload_n rfl rfl ?_
    refine r_iconst rfl ?_
    refine r_bast rfl rfl (by first | decide | assumption) (by first | exact si | exact si2 | exact Or.inr rfl) (by first | exact si | exact si2 | exact Or.inr rfl) (by first | exact si | exact si2 | exact Or.inr rfl) ?_
    refine r_aload_n rfl rfl ?_
    refine r_getC rfl rfl (by decide) (by decide) rfl ?_
    refine r_iload_n rfl rfl ?_
    refine r_aload_n rfl rfl ?_
    refine r_getI rfl rfl (by decide) (by decide) rfl ?_
    refine r_iast rfl rfl (by first | decide | assumption) (by first | exact si | exact si2 | exact Or.inr rfl) (by first | exact si | exact si2 | exact Or.inr rfl) ?_
    refine r_aload_n rfl rfl ?_
    refine r_getC rfl rfl (by decide) (by decide) rfl ?_
    refine r_iload_n rfl rfl ?_
    refine r_aload_n rfl rfl ?_
    refine r_getI rfl rfl (by decide) (by decide) rfl ?_
    refine r_iast rfl rfl (by first | decide | assumption) (by first | exact si | exact si2 | exact Or.inr rfl) (by first | exact si | exact si2 | exact Or.inr rfl) ?_
    refine r_aload_n rfl rfl ?_
    refine r_getC rfl rfl (by decide) (by decide) rfl ?_
    refine r_iload_n rfl rfl ?_
    refine r_aload_n rfl rfl ?_
    refine r_getI rfl rfl (by decide) (by decide) rfl ?_
    refine r_iast rfl rfl (by first | decide | assumption) (by first | exact si | exact si2 | exact Or.inr rfl) (by first | exact si | exact si2 | exact Or.inr rfl) ?_
    refine r_aload_n rfl rfl ?_
    refine r_getC rfl rfl (by decide) (by decide) rfl ?_
    refine r_iload_n rfl rfl ?_
    refine r_aload_n rfl rfl ?_
    refine r_getI rfl rfl (by decide) (by decide) rfl ?_
    refine r_iast rfl rfl (by first | decide | assumption) (by first | exact si | exact si2 | exact Or.inr rfl) (by first | exact si | exact si2 | exact Or.inr rfl) ?_
    refine r_iconst rfl ?_
    refine r_istore_n (L2 := [_, _, _]) rfl rfl ?_
    rw [bi]
    exact loop 4801 0 _ (by omega) (by omega) ⟨fun o a => rfl, fun _ => rfl, fun _ => rfl⟩ (fun m => by rw [if_neg (by omega), ← kpM_ne (T := T) (i := i) (by decide)]; rfl)
  · exfalso
    simp only [b01_eq0, wl_m999, wg_m999, wl_m99, wg_m99, wl_m50, wg_m50, wl_m1, wg_m1, wl_0, wg_0, wl_1, wg_1, wl_2, wg_2, wl_3, wg_3, wl_4, wg_4, wl_6, wg_6, wl_9, wg_9, wl_10, wg_10, wl_11, wg_11, wl_20, wg_20, wl_48, wg_48, wl_50, wg_50, wl_57, wg_57, wl_99, wg_99, wl_100, wg_100, wl_199, wg_199, wl_222, wg_222, wl_999, wg_999, wl_9999, wg_9999, fa_wide_le] at h14
    grind
theorem ct_X11_again_no {d : Nat} {S T : am_S} {i : Int32} (hT : uI S 97 0 0 = T) (h : ¬ (0 ≤ i ∧ i < 3 ∧ ¬ gI T 125 i.toNatClampNeg = 0 ∧ gI T 126 i.toNatClampNeg = gI T 97 3)) : am_CT (d + 2) iX11_again [.ref 97, .int i] S (some (.int 0)) (T) := by
  refine am_CT_in mmX11_again rfl rfl rfl ?_
  refine r_aload_n rfl rfl ?_
  refine r_iconst rfl ?_
  refine r_putI rfl rfl (by decide) (by decide) rfl ?_
  try rw [hT]
  refine r_iload_n rfl rfl ?_
  refine r_i2l rfl ?_
  refine r_lconst rfl ?_
  refine r_ldc2_w rfl ?_
  refine r_callS rfl (by decide) ct_X11_in rfl rfl (am_cnt rfl) ?_
  refine r_if_eq rfl (fun h14 => ?_) (fun h14 => ?_)
  · refine r_iconst rfl ?_
    refine r_zret rfl rfl (by first | exact s1 | exact s2 | exact Or.inl rfl) ?_
    exact ⟨rfl, rfl⟩
  · have h14b : 0 ≤ i ∧ i < 3 := by
      simp only [b01_eq0, wl_m999, wg_m999, wl_m99, wg_m99, wl_m50, wg_m50, wl_m1, wg_m1, wl_0, wg_0, wl_1, wg_1, wl_2, wg_2, wl_3, wg_3, wl_4, wg_4, wl_6, wg_6, wl_9, wg_9, wl_10, wg_10, wl_11, wg_11, wl_20, wg_20, wl_48, wg_48, wl_50, wg_50, wl_57, wg_57, wl_99, wg_99, wl_100, wg_100, wl_199, wg_199, wl_222, wg_222, wl_999, wg_999, wl_9999, wg_9999, fa_wide_le] at h14
      grind
    have s1 := h14b.1
    have s2 : i < Int32.ofNat 3 := h14b.2
    refine r_aload_n rfl rfl ?_
    refine r_getC rfl rfl (by decide) (by decide) rfl ?_
    refine r_iload_n rfl rfl ?_
    refine r_bald rfl rfl (by first | decide | assumption) (by first | exact s1 | exact s2 | exact Or.inl rfl) (by first | exact s1 | exact s2 | exact Or.inl rfl) ?_
    refine r_if_eq rfl (fun h23 => ?_) (fun h23 => ?_)
    · refine r_iconst rfl ?_
      refine r_zret rfl rfl (by first | exact s1 | exact s2 | exact Or.inl rfl) ?_
      exact ⟨rfl, rfl⟩
    · refine r_aload_n rfl rfl ?_
      refine r_getC rfl rfl (by decide) (by decide) rfl ?_
      refine r_iload_n rfl rfl ?_
      refine r_iald rfl rfl (by first | decide | assumption) (by first | exact s1 | exact s2 | exact Or.inl rfl) (by first | exact s1 | exact s2 | exact Or.inl rfl) ?_
      refine r_aload_n rfl rfl ?_
      refine r_getI rfl rfl (by decide) (by decide) rfl ?_
      refine r_icmp_eq rfl (fun h36 => ?_) (fun h36 => ?_)
      · exfalso
        exact h ⟨s1, s2, h23, h36⟩
      · refine r_iconst rfl ?_
        refine r_zret rfl rfl (by first | exact s1 | exact s2 | exact Or.inl rfl) ?_
        exact ⟨rfl, rfl⟩
theorem ct_X11_again_ok {d : Nat} {S T : am_S} {i : Nat} (hT : uI S 97 0 0 = T) (hi : i < 3) (hk : ¬ gI T 125 i = 0) (hn : gI T 126 i = gI T 97 3) : am_CE (d + 2) iX11_again [.ref 97, .int (nI i)] S (some (.int 1)) (fun U => (∀ o, o ≠ 109 → o ≠ 110 → gI U o = gI (uI (uI (uI T 97 23 (gI T 127 i)) 97 9 (gI T 128 i)) 97 24 (gI T 129 i)) o) ∧ (∀ o, gJ U o = gJ T o) ∧ (∀ c, gR U c = gR T c) ∧ (∀ m, gI U 110 m = if m < 4800 then gI T 124 (5001 * i + m) else gI T 110 m) ∧ (∀ m, gI U 109 m = if m < 201 then gI T 124 (5001 * i + (4800 + m)) else gI T 109 m)) := by
  refine am_CE_in mmX11_again rfl rfl rfl ?_
  have bi : (nI i).toNatClampNeg = i := nI_clamp (by omega)
  have si : 0 ≤ nI i := nI_pos' (by omega)
  have si2 : nI i < Int32.ofNat 3 := nI_lt (by omega) (by omega)
  have ok : 0 ≤ nI i ∧ nI i < 3 := ⟨si, si2⟩
  have loop2 : ∀ (k2 : Nat) (j : Nat) (U : am_S), (j ≤ 201) → (201 < j + k2) → ((∀ o, o ≠ 109 → o ≠ 110 → gI U o = gI (uI (uI (uI T 97 23 (gI T 127 i)) 97 9 (gI T 128 i)) 97 24 (gI T 129 i)) o) ∧ (∀ o, gJ U o = gJ T o) ∧ (∀ c, gR U c = gR T c)) → (∀ m, gI U 110 m = if m < 4800 then gI T 124 (5001 * i + m) else gI T 110 m) → (∀ m, gI U 109 m = if m < j then gI T 124 (5001 * i + (4800 + m)) else gI T 109 m) → am_Ex (am_Call am_MT (d + 1)) mmX11_again none (fun r1 G1 => r1 = (some (.int 1)) ∧ ∃ S2, G1 = am_H S2 ∧ (fun U => (∀ o, o ≠ 109 → o ≠ 110 → gI U o = gI (uI (uI (uI T 97 23 (gI T 127 i)) 97 9 (gI T 128 i)) 97 24 (gI T 129 i)) o) ∧ (∀ o, gJ U o = gJ T o) ∧ (∀ c, gR U c = gR T c) ∧ (∀ m, gI U 110 m = if m < 4800 then gI T 124 (5001 * i + m) else gI T 110 m) ∧ (∀ m, gI U 109 m = if m < 201 then gI T 124 (5001 * i + (4800 + m)) else gI T 109 m)) S2) (fun _ _ _ _ _ _ => False) 108 [some (.ref 97), some (.int (nI i)), some (.int (nI j))] [] (am_H (U)) 0 0 := by
    intro k2
    induction k2 with
    | zero =>
      intro j U q1 q2 f1 f2 f3
      omega
    | succ k2 ih2 =>
      intro j U q1 q2 f1 f2 f3
      have b1 : (nI j).toNatClampNeg = j := nI_clamp (by omega)
      have s1 : 0 ≤ nI j := nI_pos' (by omega)
      have b2 : (nI (5001 * i + (4800 + j))).toNatClampNeg = 5001 * i + (4800 + j) := nI_clamp (by omega)
      have s3 : 0 ≤ nI (5001 * i + (4800 + j)) := nI_pos' (by omega)
      have u9 : gI U 124 = gI T 124 := by rw [f1.1 124 (by decide) (by decide)]; rfl
      refine r_iload_n rfl rfl ?_
      refine r_sipush rfl ?_
      refine r_icmp_gt rfl (fun h112 => ?_) (fun h112 => ?_)
      · have hj : j = 201 := by
          rw [show (200 : Int32) = nI 200 from rfl, nI_ltI (by omega) (by omega)] at h112
          omega
        refine r_iconst rfl ?_
        refine r_zret rfl rfl (by first | exact Or.inr rfl | exact s1 | exact s2 | exact s3 | exact s4) ?_
        refine ⟨rfl, _, rfl, f1.1, f1.2.1, f1.2.2, f2, fun m => ?_⟩
        rw [f3 m, hj]
      · rw [show (200 : Int32) = nI 200 from rfl, nI_ltI (by omega) (by omega)] at h112
        have s2 : nI j < Int32.ofNat 201 := nI_lt (by omega) (by omega)
        have s4 : nI (5001 * i + (4800 + j)) < Int32.ofNat 15003 := nI_lt (by omega) (by omega)
        refine r_aload_n rfl rfl ?_
        refine r_getC rfl rfl (by decide) (by decide) rfl ?_
        refine r_iload_n rfl rfl ?_
        refine r_aload_n rfl rfl ?_
        refine r_getC rfl rfl (by decide) (by decide) rfl ?_
        refine r_sipush rfl ?_
        refine r_iload_n rfl rfl ?_
        refine r_imul rfl ?_
        refine r_aload_n rfl rfl ?_
        refine r_getC rfl rfl (by decide) (by decide) rfl ?_
        refine r_alen rfl rfl (by decide) ?_
        refine r_iadd rfl ?_
        refine r_iload_n rfl rfl ?_
        refine r_iadd rfl ?_
        rw [kIx2]
        refine r_iald rfl rfl (by first | decide | assumption) (by first | exact Or.inr rfl | exact s1 | exact s2 | exact s3 | exact s4) (by first | exact Or.inr rfl | exact s1 | exact s2 | exact s3 | exact s4) ?_
        refine r_iast rfl rfl (by first | decide | assumption) (by first | exact Or.inr rfl | exact s1 | exact s2 | exact s3 | exact s4) (by first | exact Or.inr rfl | exact s1 | exact s2 | exact s3 | exact s4) ?_
        refine r_iinc (L2 := [_, _, _]) rfl rfl rfl ?_
        refine r_goto rfl ?_
        rw [b1, b2, nI_1]
        refine ih2 (j + 1) _ (by omega) (by omega) ⟨fun o a b => by rw [gI_uI_ne a, f1.1 o a b], f1.2.1, f1.2.2⟩ (fun m => by rw [gI_uI_ne (by decide), f2 m]) (fun m => ?_)
        rw [gI_uI, if_pos rfl, u9, f3 m]
        by_cases h : m = j
        · rw [if_pos h, if_pos (by omega), h]
        · rw [if_neg h]
          by_cases h2 : m < j
          · rw [if_pos h2, if_pos (by omega)]
          · rw [if_neg h2, if_neg (by omega)]
  have loop : ∀ (k : Nat) (j : Nat) (U : am_S), (j ≤ 4800) → (4800 < j + k) → ((∀ o, o ≠ 110 → gI U o = gI (uI (uI (uI T 97 23 (gI T 127 i)) 97 9 (gI T 128 i)) 97 24 (gI T 129 i)) o) ∧ (∀ o, gJ U o = gJ T o) ∧ (∀ c, gR U c = gR T c)) → (∀ m, gI U 110 m = if m < j then gI T 124 (5001 * i + m) else gI T 110 m) → am_Ex (am_Call am_MT (d + 1)) mmX11_again none (fun r1 G1 => r1 = (some (.int 1)) ∧ ∃ S2, G1 = am_H S2 ∧ (fun U => (∀ o, o ≠ 109 → o ≠ 110 → gI U o = gI (uI (uI (uI T 97 23 (gI T 127 i)) 97 9 (gI T 128 i)) 97 24 (gI T 129 i)) o) ∧ (∀ o, gJ U o = gJ T o) ∧ (∀ c, gR U c = gR T c) ∧ (∀ m, gI U 110 m = if m < 4800 then gI T 124 (5001 * i + m) else gI T 110 m) ∧ (∀ m, gI U 109 m = if m < 201 then gI T 124 (5001 * i + (4800 + m)) else gI T 109 m)) S2) (fun _ _ _ _ _ _ => False) 73 [some (.ref 97), some (.int (nI i)), some (.int (nI j))] [] (am_H (U)) 0 0 := by
    intro k
    induction k with
    | zero =>
      intro j U q1 q2 f1 f2
      omega
    | succ k ih =>
      intro j U q1 q2 f1 f2
      have b1 : (nI j).toNatClampNeg = j := nI_clamp (by omega)
      have s1 : 0 ≤ nI j := nI_pos' (by omega)
      have b2 : (nI (5001 * i + j)).toNatClampNeg = 5001 * i + j := nI_clamp (by omega)
      have s3 : 0 ≤ nI (5001 * i + j) := nI_pos' (by omega)
      have u9 : gI U 124 = gI T 124 := by rw [f1.1 124 (by decide)]; rfl
      refine r_iload_n rfl rfl ?_
      refine r_aload_n rfl rfl ?_
      refine r_getC rfl rfl (by decide) (by decide) rfl ?_
      refine r_alen rfl rfl (by decide) ?_
      refine r_icmp_ge rfl (fun h79 => ?_) (fun h79 => ?_)
      · have hj : j = 4800 := by
          rw [show Int32.ofNat 4800 = nI 4800 from rfl, nI_leI (by omega) (by omega)] at h79
          omega
        refine r_iconst rfl ?_
        refine r_istore_n (L2 := [_, _, _]) rfl rfl ?_
        exact loop2 202 0 U (by omega) (by omega) ⟨fun o a b => f1.1 o b, f1.2.1, f1.2.2⟩ (fun m => by rw [f2 m, hj]) (fun m => by rw [if_neg (by omega), f1.1 109 (by decide)]; rfl)
      · rw [show Int32.ofNat 4800 = nI 4800 from rfl, nI_leI (by omega) (by omega)] at h79
        have s2 : nI j < Int32.ofNat 4800 := nI_lt (by omega) (by omega)
        have s4 : nI (5001 * i + j) < Int32.ofNat 15003 := nI_lt (by omega) (by omega)
        refine r_aload_n rfl rfl ?_
        refine r_getC rfl rfl (by decide) (by decide) rfl ?_
        refine r_iload_n rfl rfl ?_
        refine r_aload_n rfl rfl ?_
        refine r_getC rfl rfl (by decide) (by decide) rfl ?_
        refine r_sipush rfl ?_
        refine r_iload_n rfl rfl ?_
        refine r_imul rfl ?_
        refine r_iload_n rfl rfl ?_
        refine r_iadd rfl ?_
        rw [kIx]
        refine r_iald rfl rfl (by first | decide | assumption) (by first | exact Or.inr rfl | exact s1 | exact s2 | exact s3 | exact s4) (by first | exact Or.inr rfl | exact s1 | exact s2 | exact s3 | exact s4) ?_
        refine r_iast rfl rfl (by first | decide | assumption) (by first | exact Or.inr rfl | exact s1 | exact s2 | exact s3 | exact s4) (by first | exact Or.inr rfl | exact s1 | exact s2 | exact s3 | exact s4) ?_
        refine r_iinc (L2 := [_, _, _]) rfl rfl rfl ?_
        refine r_goto rfl ?_
        rw [b1, b2, nI_1]
        refine ih (j + 1) _ (by omega) (by omega) ⟨fun o a => by rw [gI_uI_ne a, f1.1 o a], f1.2.1, f1.2.2⟩ (fun m => ?_)
        rw [gI_uI, if_pos rfl, u9, f2 m]
        by_cases h : m = j
        · rw [if_pos h, if_pos (by omega), h]
        · rw [if_neg h]
          by_cases h2 : m < j
          · rw [if_pos h2, if_pos (by omega)]
          · rw [if_neg h2, if_neg (by omega)]
  refine r_aload_n rfl rfl ?_
  refine r_iconst rfl ?_
  refine r_putI rfl rfl (by decide) (by decide) rfl ?_
  try rw [hT]
  refine r_iload_n rfl rfl ?_
  refine r_i2l rfl ?_
  refine r_lconst rfl ?_
  refine r_ldc2_w rfl ?_
  refine r_callS rfl (by decide) ct_X11_in rfl rfl (am_cnt rfl) ?_
  refine r_if_eq rfl (fun h14 => ?_) (fun h14 => ?_)
  · exfalso
    simp only [b01_eq0, wl_m999, wg_m999, wl_m99, wg_m99, wl_m50, wg_m50, wl_m1, wg_m1, wl_0, wg_0, wl_1, wg_1, wl_2, wg_2, wl_3, wg_3, wl_4, wg_4, wl_6, wg_6, wl_9, wg_9, wl_10, wg_10, wl_11, wg_11, wl_20, wg_20, wl_48, wg_48, wl_50, wg_50, wl_57, wg_57, wl_99, wg_99, wl_100, wg_100, wl_199, wg_199, wl_222, wg_222, wl_999, wg_999, wl_9999, wg_9999, fa_wide_le] at h14
    grind
  · refine r_aload_n rfl rfl ?_
    refine r_getC rfl rfl (by decide) (by decide) rfl ?_
    refine r_iload_n rfl rfl ?_
    refine r_bald rfl rfl (by first | decide | assumption) (by first | exact si | exact si2 | exact Or.inr rfl) (by first | exact si | exact si2 | exact Or.inr rfl) ?_
    refine r_if_eq rfl (fun h23 => ?_) (fun h23 => ?_)
    · exfalso
      rw [bi] at h23
      exact hk h23
    · refine r_aload_n rfl rfl ?_
      refine r_getC rfl rfl (by decide) (by decide) rfl ?_
      refine r_iload_n rfl rfl ?_
      refine r_iald rfl rfl (by first | decide | assumption) (by first | exact si | exact si2 | exact Or.inr rfl) (by first | exact si | exact si2 | exact Or.inr rfl) ?_
      refine r_aload_n rfl rfl ?_
      refine r_getI rfl rfl (by decide) (by decide) rfl ?_
      refine r_icmp_eq rfl (fun h36 => ?_) (fun h36 => ?_)
      · refine r_aload_n rfl rfl ?_
        refine r_aload_n rfl rfl ?_
        refine r_getC rfl rfl (by decide) (by decide) rfl ?_
        refine r_iload_n rfl rfl ?_
        refine r_iald rfl rfl (by first | decide | assumption) (by first | exact si | exact si2 | exact Or.inr rfl) (by first | exact si | exact si2 | exact Or.inr rfl) ?_
        refine r_putI rfl rfl (by decide) (by decide) rfl ?_
        refine r_aload_n rfl rfl ?_
        refine r_aload_n rfl rfl ?_
        refine r_getC rfl rfl (by decide) (by decide) rfl ?_
        refine r_iload_n rfl rfl ?_
        refine r_iald rfl rfl (by first | decide | assumption) (by first | exact si | exact si2 | exact Or.inr rfl) (by first | exact si | exact si2 | exact Or.inr rfl) ?_
        refine r_putI rfl rfl (by decide) (by decide) rfl ?_
        refine r_aload_n rfl rfl ?_
        refine r_aload_n rfl rfl ?_
        refine r_getC rfl rfl (by decide) (by decide) rfl ?_
        refine r_iload_n rfl rfl ?_
        refine r_iald rfl rfl (by first | decide | assumption) (by first | exact si | exact si2 | exact Or.inr rfl) (by first | exact si | exact si2 | exact Or.inr rfl) ?_
        refine r_putI rfl rfl (by decide) (by decide) rfl ?_
        refine r_iconst rfl ?_
        refine r_istore_n (L2 := [_, _, _]) rfl rfl ?_
        rw [bi]
        exact loop 4801 0 _ (by omega) (by omega) ⟨fun o a => rfl, fun _ => rfl, fun _ => rfl⟩ (fun m => by rw [if_neg (by omega)]; rfl)
      · exfalso
        rw [bi] at h36
        exact h36 hn
