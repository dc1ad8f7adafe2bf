/-! THE REFERENCE: cell 97. Small methods. -/
theorem fa_wide_lt (a b : Int32) : a.toInt64 < b.toInt64 ↔ a < b := by rw [fa_lt64, fa_lt, Int32.toInt_toInt64, Int32.toInt_toInt64]
theorem fa_wide_le (a b : Int32) : a.toInt64 ≤ b.toInt64 ↔ a ≤ b := by rw [fa_le64, fa_le, Int32.toInt_toInt64, Int32.toInt_toInt64]
theorem wl_m999 (x : Int32) : x.toInt64 ≤ (-999) ↔ x ≤ (-999) := fa_wide_le x (-999)
theorem wg_m999 (x : Int32) : (-999) ≤ x.toInt64 ↔ (-999) ≤ x := fa_wide_le (-999) x
theorem wl_m99 (x : Int32) : x.toInt64 ≤ (-99) ↔ x ≤ (-99) := fa_wide_le x (-99)
theorem wg_m99 (x : Int32) : (-99) ≤ x.toInt64 ↔ (-99) ≤ x := fa_wide_le (-99) x
theorem wl_m50 (x : Int32) : x.toInt64 ≤ (-50) ↔ x ≤ (-50) := fa_wide_le x (-50)
theorem wg_m50 (x : Int32) : (-50) ≤ x.toInt64 ↔ (-50) ≤ x := fa_wide_le (-50) x
theorem wl_m1 (x : Int32) : x.toInt64 ≤ (-1) ↔ x ≤ (-1) := fa_wide_le x (-1)
theorem wg_m1 (x : Int32) : (-1) ≤ x.toInt64 ↔ (-1) ≤ x := fa_wide_le (-1) x
theorem wl_0 (x : Int32) : x.toInt64 ≤ (0) ↔ x ≤ (0) := fa_wide_le x (0)
theorem wg_0 (x : Int32) : (0) ≤ x.toInt64 ↔ (0) ≤ x := fa_wide_le (0) x
theorem wl_1 (x : Int32) : x.toInt64 ≤ (1) ↔ x ≤ (1) := fa_wide_le x (1)
theorem wg_1 (x : Int32) : (1) ≤ x.toInt64 ↔ (1) ≤ x := fa_wide_le (1) x
theorem wl_2 (x : Int32) : x.toInt64 ≤ (2) ↔ x ≤ (2) := fa_wide_le x (2)
theorem wg_2 (x : Int32) : (2) ≤ x.toInt64 ↔ (2) ≤ x := fa_wide_le (2) x
theorem wl_3 (x : Int32) : x.toInt64 ≤ (3) ↔ x ≤ (3) := fa_wide_le x (3)
theorem wg_3 (x : Int32) : (3) ≤ x.toInt64 ↔ (3) ≤ x := fa_wide_le (3) x
theorem wl_4 (x : Int32) : x.toInt64 ≤ (4) ↔ x ≤ (4) := fa_wide_le x (4)
theorem wg_4 (x : Int32) : (4) ≤ x.toInt64 ↔ (4) ≤ x := fa_wide_le (4) x
theorem wl_6 (x : Int32) : x.toInt64 ≤ (6) ↔ x ≤ (6) := fa_wide_le x (6)
theorem wg_6 (x : Int32) : (6) ≤ x.toInt64 ↔ (6) ≤ x := fa_wide_le (6) x
theorem wl_9 (x : Int32) : x.toInt64 ≤ (9) ↔ x ≤ (9) := fa_wide_le x (9)
theorem wg_9 (x : Int32) : (9) ≤ x.toInt64 ↔ (9) ≤ x := fa_wide_le (9) x
theorem wl_10 (x : Int32) : x.toInt64 ≤ (10) ↔ x ≤ (10) := fa_wide_le x (10)
theorem wg_10 (x : Int32) : (10) ≤ x.toInt64 ↔ (10) ≤ x := fa_wide_le (10) x
theorem wl_11 (x : Int32) : x.toInt64 ≤ (11) ↔ x ≤ (11) := fa_wide_le x (11)
theorem wg_11 (x : Int32) : (11) ≤ x.toInt64 ↔ (11) ≤ x := fa_wide_le (11) x
theorem wl_20 (x : Int32) : x.toInt64 ≤ (20) ↔ x ≤ (20) := fa_wide_le x (20)
theorem wg_20 (x : Int32) : (20) ≤ x.toInt64 ↔ (20) ≤ x := fa_wide_le (20) x
theorem wl_48 (x : Int32) : x.toInt64 ≤ (48) ↔ x ≤ (48) := fa_wide_le x (48)
theorem wg_48 (x : Int32) : (48) ≤ x.toInt64 ↔ (48) ≤ x := fa_wide_le (48) x
theorem wl_50 (x : Int32) : x.toInt64 ≤ (50) ↔ x ≤ (50) := fa_wide_le x (50)
theorem wg_50 (x : Int32) : (50) ≤ x.toInt64 ↔ (50) ≤ x := fa_wide_le (50) x
theorem wl_57 (x : Int32) : x.toInt64 ≤ (57) ↔ x ≤ (57) := fa_wide_le x (57)
theorem wg_57 (x : Int32) : (57) ≤ x.toInt64 ↔ (57) ≤ x := fa_wide_le (57) x
theorem wl_99 (x : Int32) : x.toInt64 ≤ (99) ↔ x ≤ (99) := fa_wide_le x (99)
theorem wg_99 (x : Int32) : (99) ≤ x.toInt64 ↔ (99) ≤ x := fa_wide_le (99) x
theorem wl_100 (x : Int32) : x.toInt64 ≤ (100) ↔ x ≤ (100) := fa_wide_le x (100)
theorem wg_100 (x : Int32) : (100) ≤ x.toInt64 ↔ (100) ≤ x := fa_wide_le (100) x
theorem wl_199 (x : Int32) : x.toInt64 ≤ (199) ↔ x ≤ (199) := fa_wide_le x (199)
theorem wg_199 (x : Int32) : (199) ≤ x.toInt64 ↔ (199) ≤ x := fa_wide_le (199) x
theorem wl_222 (x : Int32) : x.toInt64 ≤ (222) ↔ x ≤ (222) := fa_wide_le x (222)
theorem wg_222 (x : Int32) : (222) ≤ x.toInt64 ↔ (222) ≤ x := fa_wide_le (222) x
theorem wl_999 (x : Int32) : x.toInt64 ≤ (999) ↔ x ≤ (999) := fa_wide_le x (999)
theorem wg_999 (x : Int32) : (999) ≤ x.toInt64 ↔ (999) ≤ x := fa_wide_le (999) x
theorem wl_9999 (x : Int32) : x.toInt64 ≤ (9999) ↔ x ≤ (9999) := fa_wide_le x (9999)
theorem wg_9999 (x : Int32) : (9999) ≤ x.toInt64 ↔ (9999) ≤ x := fa_wide_le (9999) x
theorem ct_X11_in {d : Nat} {S : am_S} {v l h : Int64} : am_CT (d + 1) iX11_in [.long v, .long l, .long h] S (some (.int (b01 (l ≤ v ∧ v ≤ h)))) (S) := by
  refine am_CT_in mmX11_in rfl rfl rfl ?_
  refine r_lload_n rfl rfl ?_
  refine r_lload_n rfl rfl ?_
  refine r_lcmp rfl ?_
  refine r_if_lt rfl (fun h3 => ?_) (fun h3 => ?_)
  · rw [lc_lt] at h3
    have e : ¬ (l ≤ v ∧ v ≤ h) := fun z => Int64.not_le.mpr h3 z.1
    refine r_iconst rfl ?_
    refine r_zret rfl rfl (by simp) ?_
    exact ⟨by first | rw [b01_t e] | rw [b01_f e], rfl⟩
  · have h3b : l ≤ v := Int64.not_lt.mp fun z => h3 ((lc_lt v l).mpr z)
    refine r_lload_n rfl rfl ?_
    refine r_lload rfl rfl ?_
    refine r_lcmp rfl ?_
    refine r_if_gt rfl (fun h10 => ?_) (fun h10 => ?_)
    · rw [lc_gt] at h10
      have e : ¬ (l ≤ v ∧ v ≤ h) := fun z => Int64.not_le.mpr h10 z.2
      refine r_iconst rfl ?_
      refine r_zret rfl rfl (by simp) ?_
      exact ⟨by first | rw [b01_t e] | rw [b01_f e], rfl⟩
    · have h10b : v ≤ h := Int64.not_lt.mp fun z => h10 ((lc_gt v h).mpr z)
      have e : (l ≤ v ∧ v ≤ h) := ⟨h3b, h10b⟩
      refine r_iconst rfl ?_
      refine r_goto rfl ?_
      refine r_zret rfl rfl (by simp) ?_
      exact ⟨by first | rw [b01_t e] | rw [b01_f e], rfl⟩
theorem and1_or (x : Int32) : x &&& 1 = 0 ∨ x &&& 1 = 1 := by
  obtain ⟨j, hj, e⟩ := pk_andE x (m := 1) 1 (by decide)
  match j, hj with
  | 0, _ => exact Or.inl e
  | 1, _ => exact Or.inr e
theorem ct_X11_has {d : Nat} {S : am_S} {w i : Int32} : am_CT (d + 1) iX11_has [.int w, .int i] S (some (.int (b01 (fBit w i)))) (S) := by
  refine am_CT_in mmX11_has rfl rfl rfl ?_
  have hx := and1_or (w >>> (i &&& 31))
  refine r_iload_n rfl rfl ?_
  refine r_iload_n rfl rfl ?_
  refine r_ishr rfl ?_
  refine r_iconst rfl ?_
  refine r_iand rfl ?_
  refine r_iconst rfl ?_
  refine r_icmp_ne rfl (fun h6 => ?_) (fun h6 => ?_)
  · refine r_iconst rfl ?_
    refine r_zret rfl rfl (by simp) ?_
    exact ⟨by simp only [b01, fBit]; grind, rfl⟩
  · refine r_iconst rfl ?_
    refine r_goto rfl ?_
    refine r_zret rfl rfl (by simp) ?_
    exact ⟨by simp only [b01, fBit]; grind, rfl⟩
theorem ct_X11_flag {d : Nat} {S : am_S} {z : Int32} (hz : z = 0 ∨ z = 1) : am_CT (d + 1) iX11_flag [.int z] S (some (.int z)) (S) := by
  refine am_CT_in mmX11_flag rfl rfl rfl ?_
  refine r_iload_n rfl rfl ?_
  refine r_if_eq rfl (fun h1 => ?_) (fun h1 => ?_)
  · refine r_iconst rfl ?_
    refine r_iret rfl rfl ?_
    exact ⟨by grind, rfl⟩
  · refine r_iconst rfl ?_
    refine r_goto rfl ?_
    refine r_iret rfl rfl ?_
    exact ⟨by grind, rfl⟩
theorem neg_le0 {m : Int32} (h : 0 ≤ m) : -m ≤ 0 := by
  obtain ⟨j, hj, rfl⟩ := nI_of (Int32.not_lt.mpr h)
  rw [fa_le, sb_negT hj]
  show -(j : Int) ≤ 0
  omega
theorem fPut_eq {v m : Int32} (hm : 0 ≤ m) : (if -m < (if v < m then v else m) then (if v < m then v else m) else -m) = fPut v m := by
  have hneg := neg_le0 hm
  generalize hq : -m = q at *
  unfold fPut
  rw [hq]
  by_cases a : v < m
  · rw [if_pos a]
    by_cases b : q < v
    · rw [if_pos b, if_neg (by grind), if_neg (by grind)]
    · rw [if_neg b]
      by_cases c : v < q
      · rw [if_pos c]
      · rw [if_neg c, if_neg (by grind)]
        grind
  · rw [if_neg a]
    by_cases b : q < m
    · rw [if_pos b, if_neg (by grind)]
      grind
    · rw [if_neg b]
      grind
theorem ct_X11_put {d : Nat} {S : am_S} {v m : Int32} (hm : 0 ≤ m) : am_CT (d + 1) iX11_put [.int v, .int m] S (some (.int (fPut v m))) (S) := by
  refine am_CT_in mmX11_put rfl rfl rfl ?_
  refine r_iload_n rfl rfl ?_
  refine r_ineg rfl ?_
  refine r_iload_n rfl rfl ?_
  refine r_iload_n rfl rfl ?_
  refine r_min rfl (am_cnt rfl) ?_
  refine r_max rfl (am_cnt rfl) ?_
  refine r_iret rfl rfl ?_
  rw [fPut_eq hm]
  exact ⟨rfl, rfl⟩
abbrev hasM (S : am_S) (p : Int32) : Prop := 0 ≤ p ∧ p < gI S 97 3
abbrev twoM (S : am_S) (p q : Int32) : Prop := hasM S p ∧ hasM S q ∧ ¬ p = q
theorem ct_X11_isPerson {d : Nat} {S : am_S} {p : Int32} (hz : 0 ≤ gI S 97 3) : am_CT (d + 2) iX11_isPerson [.ref 97, .int p] S (some (.int (b01 (hasM S p)))) (S) := by
  refine am_CT_in mmX11_isPerson rfl rfl rfl ?_
  refine r_iload_n rfl rfl ?_
  refine r_i2l rfl ?_
  refine r_lconst rfl ?_
  refine r_aload_n rfl rfl ?_
  refine r_getI rfl rfl (by decide) (by decide) rfl ?_
  refine r_iconst rfl ?_
  refine r_isub rfl ?_
  refine r_i2l rfl ?_
  refine r_callS rfl (by decide) ct_X11_in rfl rfl (am_cnt rfl) ?_
  refine r_zret rfl rfl (by exact b01_or) ?_
  refine ⟨?_, rfl⟩
  simp only [wg_0, fa_wide_le, b01, hasM]
  grind
theorem ct_X11_arePair {d : Nat} {S : am_S} {p q : Int32} (hz : 0 ≤ gI S 97 3) : am_CT (d + 3) iX11_arePair [.ref 97, .int p, .int q] S (some (.int (b01 (twoM S p q)))) (S) := by
  refine am_CT_in mmX11_arePair rfl rfl rfl ?_
  refine r_aload_n rfl rfl ?_
  refine r_iload_n rfl rfl ?_
  refine r_callV rfl (ct_X11_isPerson hz) rfl rfl rfl (by decide) rfl (am_cnt rfl) ?_
  refine r_if_eq rfl (fun h5 => ?_) (fun h5 => ?_)
  · refine r_iconst rfl ?_
    refine r_zret rfl rfl (by simp) ?_
    exact ⟨by simp only [b01_eq0, b01] at *; grind, rfl⟩
  · refine r_aload_n rfl rfl ?_
    refine r_iload_n rfl rfl ?_
    refine r_callV rfl (ct_X11_isPerson hz) rfl rfl rfl (by decide) rfl (am_cnt rfl) ?_
    refine r_if_eq rfl (fun h13 => ?_) (fun h13 => ?_)
    · refine r_iconst rfl ?_
      refine r_zret rfl rfl (by simp) ?_
      exact ⟨by simp only [b01_eq0, b01] at *; grind, rfl⟩
    · refine r_iload_n rfl rfl ?_
      refine r_iload_n rfl rfl ?_
      refine r_icmp_eq rfl (fun h18 => ?_) (fun h18 => ?_)
      · refine r_iconst rfl ?_
        refine r_zret rfl rfl (by simp) ?_
        exact ⟨by simp only [b01_eq0, b01] at *; grind, rfl⟩
      · refine r_iconst rfl ?_
        refine r_goto rfl ?_
        refine r_zret rfl rfl (by simp) ?_
        exact ⟨by simp only [b01_eq0, b01] at *; grind, rfl⟩
theorem ct_X11_mostOf {d : Nat} {S : am_S} {w : Int32} : am_CT (d + 1) iX11_mostOf [.int w] S (some (.int (if w = 2 then 9 else 20))) (S) := by
  refine am_CT_in mmX11_mostOf rfl rfl rfl ?_
  refine r_iload_n rfl rfl ?_
  refine r_iconst rfl ?_
  refine r_icmp_ne rfl (fun h2 => ?_) (fun h2 => ?_)
  · refine r_bipush rfl ?_
    refine r_iret rfl rfl ?_
    exact ⟨by grind, rfl⟩
  · refine r_bipush rfl ?_
    refine r_goto rfl ?_
    refine r_iret rfl rfl ?_
    exact ⟨by grind, rfl⟩
theorem ct_X11_with {d : Nat} {S : am_S} {w i f : Int32} : am_CT (d + 1) iX11_with [.int w, .int i, .int f] S (some (.int (fWith w i f))) (S) := by
  refine am_CT_in mmX11_with rfl rfl rfl ?_
  refine r_iload_n rfl rfl ?_
  refine r_if_eq rfl (fun h1 => ?_) (fun h1 => ?_)
  · refine r_iload_n rfl rfl ?_
    refine r_iconst rfl ?_
    refine r_iload_n rfl rfl ?_
    refine r_ishl rfl ?_
    refine r_iconst rfl ?_
    refine r_ixor rfl ?_
    refine r_iand rfl ?_
    refine r_iret rfl rfl ?_
    exact ⟨by simp [fWith, *], rfl⟩
  · refine r_iload_n rfl rfl ?_
    refine r_iconst rfl ?_
    refine r_iload_n rfl rfl ?_
    refine r_ishl rfl ?_
    refine r_ior rfl ?_
    refine r_goto rfl ?_
    refine r_iret rfl rfl ?_
    exact ⟨by simp [fWith, *], rfl⟩
theorem ct_X11_refuse {d : Nat} {S : am_S} : am_CT (d + 1) iX11_refuse [.ref 97] S (some (.int 0)) (uI S 97 0 1) := by
  refine am_CT_in mmX11_refuse rfl rfl rfl ?_
  refine r_aload_n rfl rfl ?_
  refine r_iconst rfl ?_
  refine r_putI rfl rfl (by decide) (by decide) rfl ?_
  try rw [hT]
  refine r_iconst rfl ?_
  refine r_iret rfl rfl ?_
  exact ⟨rfl, rfl⟩
theorem ct_X11_thrown {d : Nat} {S : am_S} : am_CT (d + 1) iX11_thrown [.ref 97] S (some (.int (gI S 97 0))) (S) := by
  refine am_CT_in mmX11_thrown rfl rfl rfl ?_
  refine r_aload_n rfl rfl ?_
  refine r_getI rfl rfl (by decide) (by decide) rfl ?_
  refine r_iret rfl rfl ?_
  exact ⟨rfl, rfl⟩
def eAdd (S : am_S) (v : Int64) (n : Nat) : am_S := uI (uJ S 98 n v) 97 1 (nI (n + 1))
theorem ct_X11_enters {d : Nat} {S : am_S} {v : Int64} {n : Nat} (hn : gI S 97 1 = nI n) (hb : n < 16) : am_CT (d + 1) iX11_enters [.ref 97, .long v] S (none) (eAdd S v n) := by
  refine am_CT_in mmX11_enters rfl rfl rfl ?_
  have s1 : 0 ≤ gI S 97 1 := by rw [hn]; exact nI_pos' (by omega)
  have s2 : gI S 97 1 < 16 := by rw [hn]; exact nI_lt (b := 16) (by omega) (by omega)
  have e2 : (gI S 97 1).toNatClampNeg = n := by rw [hn, nI_clamp (by omega)]
  refine r_aload_n rfl rfl ?_
  refine r_getC rfl rfl (by decide) (by decide) rfl ?_
  refine r_aload_n rfl rfl ?_
  refine r_getI rfl rfl (by decide) (by decide) rfl ?_
  refine r_lload_n rfl rfl ?_
  refine r_last rfl rfl (by first | decide | assumption) (by first | exact s1 | exact s2) (by first | exact s1 | exact s2) ?_
  refine r_aload_n rfl rfl ?_
  refine r_dup rfl rfl ?_
  refine r_getI rfl rfl (by decide) (by decide) rfl ?_
  refine r_iconst rfl ?_
  refine r_iadd rfl ?_
  refine r_putI rfl rfl (by decide) (by decide) rfl ?_
  refine r_vret rfl ?_
  rw [e2]
  refine ⟨rfl, ?_⟩
  rw [eAdd, ← nI_1, ← hn]
  rfl
