/-! Chances of the reference. -/
def fgM (S : am_S) (p : Nat) : Nat → Int32
  | 0 => gI S 121 p
  | 1 => gI S 122 p
  | 2 => gI S 123 p
  | _ + 3 => 10 - gI S 121 p - gI S 122 p - gI S 123 p
theorem ct_X11_fogOf {d : Nat} {S : am_S} {p j : Nat} (hp : p < 6) (hj : j < 4) : am_CT (d + 1) iX11_fogOf [.ref 97, .int (nI p), .int (nI j)] S (some (.int (fgM S p j))) (S) := by
  refine am_CT_in mmX11_fogOf rfl rfl rfl ?_
  have bp : (nI p).toNatClampNeg = p := nI_clamp (by omega)
  have s1 : 0 ≤ nI p := nI_pos' (by omega)
  have s2 : nI p < Int32.ofNat 6 := nI_lt (by omega) (by omega)
  have v : fgM S p j = if nI j = 0 then gI S 121 p else if nI j = 1 then gI S 122 p else if nI j = 2 then gI S 123 p else 10 - gI S 121 p - gI S 122 p - gI S 123 p := by
    rcases j with _ | _ | _ | _ | j
    · rfl
    · rfl
    · rfl
    · rfl
    · omega
  rw [v]
  refine r_iload_n rfl rfl ?_
  refine r_if_ne rfl (fun h1 => ?_) (fun h1 => ?_)
  · refine r_iload_n rfl rfl ?_
    refine r_iconst rfl ?_
    refine r_icmp_ne rfl (fun h15 => ?_) (fun h15 => ?_)
    · refine r_iload_n rfl rfl ?_
      refine r_iconst rfl ?_
      refine r_icmp_ne rfl (fun h29 => ?_) (fun h29 => ?_)
      · refine r_bipush rfl ?_
        refine r_aload_n rfl rfl ?_
        refine r_getC rfl rfl (by decide) (by decide) rfl ?_
        refine r_iload_n rfl rfl ?_
        refine r_iald rfl rfl (by first | decide | assumption) (by first | exact s1 | exact s2) (by first | exact s1 | exact s2) ?_
        refine r_isub rfl ?_
        refine r_aload_n rfl rfl ?_
        refine r_getC rfl rfl (by decide) (by decide) rfl ?_
        refine r_iload_n rfl rfl ?_
        refine r_iald rfl rfl (by first | decide | assumption) (by first | exact s1 | exact s2) (by first | exact s1 | exact s2) ?_
        refine r_isub rfl ?_
        refine r_aload_n rfl rfl ?_
        refine r_getC rfl rfl (by decide) (by decide) rfl ?_
        refine r_iload_n rfl rfl ?_
        refine r_iald rfl rfl (by first | decide | assumption) (by first | exact s1 | exact s2) (by first | exact s1 | exact s2) ?_
        refine r_isub rfl ?_
        refine r_iret rfl rfl ?_
        rw [bp]
        exact ⟨by grind, rfl⟩
      · refine r_aload_n rfl rfl ?_
        refine r_getC rfl rfl (by decide) (by decide) rfl ?_
        refine r_iload_n rfl rfl ?_
        refine r_iald rfl rfl (by first | decide | assumption) (by first | exact s1 | exact s2) (by first | exact s1 | exact s2) ?_
        refine r_goto rfl ?_
        refine r_iret rfl rfl ?_
        rw [bp]
        exact ⟨by grind, rfl⟩
    · refine r_aload_n rfl rfl ?_
      refine r_getC rfl rfl (by decide) (by decide) rfl ?_
      refine r_iload_n rfl rfl ?_
      refine r_iald rfl rfl (by first | decide | assumption) (by first | exact s1 | exact s2) (by first | exact s1 | exact s2) ?_
      refine r_goto rfl ?_
      refine r_iret rfl rfl ?_
      rw [bp]
      exact ⟨by grind, rfl⟩
  · refine r_aload_n rfl rfl ?_
    refine r_getC rfl rfl (by decide) (by decide) rfl ?_
    refine r_iload_n rfl rfl ?_
    refine r_iald rfl rfl (by first | decide | assumption) (by first | exact s1 | exact s2) (by first | exact s1 | exact s2) ?_
    refine r_goto rfl ?_
    refine r_iret rfl rfl ?_
    rw [bp]
    exact ⟨by grind, rfl⟩
def casM (S : am_S) (one other : Nat) (m : Int32) : Int32 := sumI (fun i => sumI (fun j => if gI S 99 other + gI S 101 other + gI S 99 one + nI i + nI j ≤ m then fgM S other i * fgM S one j else 0) 4) 4
theorem ct_X11_casesBy {d : Nat} {S : am_S} {one other : Nat} {m : Int32} (h1 : one < 6) (h2 : other < 6) : am_CT (d + 2) iX11_casesBy [.ref 97, .int (nI one), .int (nI other), .int m] S (some (.int (casM S one other m))) (S) := by
  refine am_CT_in mmX11_casesBy rfl rfl rfl ?_
  have bo : (nI other).toNatClampNeg = other := nI_clamp (by omega)
  have bp : (nI one).toNatClampNeg = one := nI_clamp (by omega)
  have s1 : 0 ≤ nI other := nI_pos' (by omega)
  have s2 : nI other < Int32.ofNat 6 := nI_lt (by omega) (by omega)
  have s3 : 0 ≤ nI one := nI_pos' (by omega)
  have s4 : nI one < Int32.ofNat 6 := nI_lt (by omega) (by omega)
  have loop : ∀ (k : Nat) (i : Nat) (v9 : Option Value), (i ≤ 4) → (4 < i + k) → am_Ex (am_Call am_MT (d + 1)) mmX11_casesBy none (fun r1 G1 => r1 = (some (.int (casM S one other m))) ∧ G1 = am_H (S)) (fun _ _ _ _ _ _ => False) 28 [some (.ref 97), some (.int (nI one)), some (.int (nI other)), some (.int m), some (.int (gI S 99 other + gI S 101 other + gI S 99 one)), some (.int (sumI (fun i => sumI (fun j => if gI S 99 other + gI S 101 other + gI S 99 one + nI i + nI j ≤ m then fgM S other i * fgM S one j else 0) 4) i)), some (.int (nI i)), v9] [] (am_H (S)) 0 0 := by
    intro k
    induction k with
    | zero =>
      intro i v9 q1 q2
      omega
    | succ k ih =>
      intro i v9 q1 q2
      have loop2 : ∀ (k2 : Nat) (j : Nat), (i < 4) → (j ≤ 4) → (4 < j + k2) → am_Ex (am_Call am_MT (d + 1)) mmX11_casesBy none (fun r1 G1 => r1 = (some (.int (casM S one other m))) ∧ G1 = am_H (S)) (fun _ _ _ _ _ _ => False) 37 [some (.ref 97), some (.int (nI one)), some (.int (nI other)), some (.int m), some (.int (gI S 99 other + gI S 101 other + gI S 99 one)), some (.int (sumI (fun i => sumI (fun j => if gI S 99 other + gI S 101 other + gI S 99 one + nI i + nI j ≤ m then fgM S other i * fgM S one j else 0) 4) i + sumI (fun j => if gI S 99 other + gI S 101 other + gI S 99 one + nI i + nI j ≤ m then fgM S other i * fgM S one j else 0) j)), some (.int (nI i)), some (.int (nI j))] [] (am_H (S)) 0 0 := by
        intro k2
        induction k2 with
        | zero =>
          intro j t0 t1 t2
          omega
        | succ k2 ih2 =>
          intro j t0 t1 t2
          refine r_iload rfl rfl ?_
          refine r_iconst rfl ?_
          refine r_icmp_ge rfl (fun h40 => ?_) (fun h40 => ?_)
          · have hj : j = 4 := by
              rw [show (4 : Int32) = nI 4 from rfl, nI_leI (by omega) (by omega)] at h40
              omega
            rw [hj]
            refine r_iinc (L2 := [_, _, _, _, _, _, _, _]) rfl rfl rfl ?_
            refine r_goto rfl ?_
            rw [nI_1]
            exact ih (i + 1) _ (by omega) (by omega)
          · rw [show (4 : Int32) = nI 4 from rfl, nI_leI (by omega) (by omega)] at h40
            refine r_iload rfl rfl ?_
            refine r_iload rfl rfl ?_
            refine r_iload rfl rfl ?_
            refine r_iadd rfl ?_
            refine r_iload rfl rfl ?_
            refine r_iadd rfl ?_
            refine r_iload_n rfl rfl ?_
            refine r_icmp_gt rfl (fun h54 => ?_) (fun h54 => ?_)
            · have e := ih2 (j + 1) t0 (by omega) (by omega)
              rw [sumI, if_neg (Int32.not_le.mpr h54), ← Int32.add_assoc] at e
              refine r_iconst rfl ?_
              refine r_iadd rfl ?_
              refine r_istore (L2 := [_, _, _, _, _, _, _, _]) rfl rfl ?_
              refine r_iinc (L2 := [_, _, _, _, _, _, _, _]) rfl rfl rfl ?_
              refine r_goto rfl ?_
              rw [nI_1]
              exact e
            · have e := ih2 (j + 1) t0 (by omega) (by omega)
              rw [sumI, if_pos (Int32.not_lt.mp h54), ← Int32.add_assoc] at e
              refine r_aload_n rfl rfl ?_
              refine r_iload_n rfl rfl ?_
              refine r_iload rfl rfl ?_
              refine r_callV rfl (ct_X11_fogOf h2 t0) rfl rfl rfl (by decide) rfl (am_cnt rfl) ?_
              refine r_aload_n rfl rfl ?_
              refine r_iload_n rfl rfl ?_
              refine r_iload rfl rfl ?_
              refine r_callV rfl (ct_X11_fogOf h1 (by omega)) rfl rfl rfl (by decide) rfl (am_cnt rfl) ?_
              refine r_imul rfl ?_
              refine r_goto rfl ?_
              refine r_iadd rfl ?_
              refine r_istore (L2 := [_, _, _, _, _, _, _, _]) rfl rfl ?_
              refine r_iinc (L2 := [_, _, _, _, _, _, _, _]) rfl rfl rfl ?_
              refine r_goto rfl ?_
              rw [nI_1]
              exact e
      refine r_iload rfl rfl ?_
      refine r_iconst rfl ?_
      refine r_icmp_ge rfl (fun h31 => ?_) (fun h31 => ?_)
      · have hi : i = 4 := by
          rw [show (4 : Int32) = nI 4 from rfl, nI_leI (by omega) (by omega)] at h31
          omega
        rw [hi]
        refine r_iload rfl rfl ?_
        refine r_iret rfl rfl ?_
        exact ⟨rfl, rfl⟩
      · rw [show (4 : Int32) = nI 4 from rfl, nI_leI (by omega) (by omega)] at h31
        refine r_iconst rfl ?_
        refine r_istore (L2 := [_, _, _, _, _, _, _, _]) rfl rfl ?_
        have e := loop2 5 0 (by omega) (by omega) (by omega)
        rw [sumI, Int32.add_zero] at e
        exact e
  refine r_aload_n rfl rfl ?_
  refine r_getC rfl rfl (by decide) (by decide) rfl ?_
  refine r_iload_n rfl rfl ?_
  refine r_iald rfl rfl (by first | decide | assumption) (by first | exact s1 | exact s2 | exact s3 | exact s4) (by first | exact s1 | exact s2 | exact s3 | exact s4) ?_
  refine r_aload_n rfl rfl ?_
  refine r_getC rfl rfl (by decide) (by decide) rfl ?_
  refine r_iload_n rfl rfl ?_
  refine r_iald rfl rfl (by first | decide | assumption) (by first | exact s1 | exact s2 | exact s3 | exact s4) (by first | exact s1 | exact s2 | exact s3 | exact s4) ?_
  refine r_iadd rfl ?_
  refine r_aload_n rfl rfl ?_
  refine r_getC rfl rfl (by decide) (by decide) rfl ?_
  refine r_iload_n rfl rfl ?_
  refine r_iald rfl rfl (by first | decide | assumption) (by first | exact s1 | exact s2 | exact s3 | exact s4) (by first | exact s1 | exact s2 | exact s3 | exact s4) ?_
  refine r_iadd rfl ?_
  refine r_istore (L2 := [_, _, _, _, _, _, _, _]) rfl rfl ?_
  refine r_iconst rfl ?_
  refine r_istore (L2 := [_, _, _, _, _, _, _, _]) rfl rfl ?_
  refine r_iconst rfl ?_
  refine r_istore (L2 := [_, _, _, _, _, _, _, _]) rfl rfl ?_
  rw [bo, bp]
  exact loop 5 0 none (by omega) (by omega)
theorem ct_X11_chance_no {d : Nat} {S T : am_S} {p q m : Int32} (hT : uI S 97 0 0 = T) (hz : 0 ≤ gI T 97 3) (h : ¬ (twoM T p q ∧ 0 ≤ m ∧ m ≤ 199)) : am_CT (d + 4) iX11_chance [.ref 97, .int p, .int q, .int m] S (some (.int (-1))) (T) := by
  refine am_CT_in mmX11_chance rfl rfl rfl ?_
  refine r_aload_n rfl rfl ?_
  refine r_iconst rfl ?_
  refine r_putI rfl rfl (by decide) (by decide) rfl ?_
  try rw [hT]
  refine r_aload_n rfl rfl ?_
  refine r_iload_n rfl rfl ?_
  refine r_iload_n rfl rfl ?_
  refine r_callV rfl (ct_X11_arePair hz) rfl rfl rfl (by decide) rfl (am_cnt rfl) ?_
  refine r_if_eq rfl (fun h11 => ?_) (fun h11 => ?_)
  · refine r_iconst rfl ?_
    refine r_iret rfl rfl ?_
    exact ⟨rfl, rfl⟩
  · refine r_iload_n rfl rfl ?_
    refine r_i2l rfl ?_
    refine r_lconst rfl ?_
    refine r_ldc2_w rfl ?_
    refine r_callS rfl (by decide) ct_X11_in rfl rfl (am_cnt rfl) ?_
    refine r_if_ne rfl (fun h23 => ?_) (fun h23 => ?_)
    · exfalso
      simp only [b01_eq0, wl_m999, wg_m999, wl_m99, wg_m99, wl_m50, wg_m50, wl_m1, wg_m1, wl_0, wg_0, wl_1, wg_1, wl_2, wg_2, wl_3, wg_3, wl_4, wg_4, wl_6, wg_6, wl_9, wg_9, wl_10, wg_10, wl_11, wg_11, wl_20, wg_20, wl_48, wg_48, wl_50, wg_50, wl_57, wg_57, wl_99, wg_99, wl_100, wg_100, wl_199, wg_199, wl_222, wg_222, wl_999, wg_999, wl_9999, wg_9999, fa_wide_le] at *
      grind
    · refine r_iconst rfl ?_
      refine r_iret rfl rfl ?_
      exact ⟨rfl, rfl⟩
theorem two_nM {S : am_S} {n p q : Nat} (hn : gI S 97 3 = nI n) (hz : n ≤ 6) (h1 : p < n) (h2 : q < n) (hne : p ≠ q) : twoM S (nI p) (nI q) := by
  refine ⟨⟨nI_pos' (by omega), ?_⟩, ⟨nI_pos' (by omega), ?_⟩, fun z => hne ?_⟩
  · rw [hn]
    exact nI_lt (by omega) (by omega)
  · rw [hn]
    exact nI_lt (by omega) (by omega)
  · have := congrArg Int32.toNatClampNeg z
    rwa [nI_clamp (by omega), nI_clamp (by omega)] at this
theorem ct_X11_chance_ok {d : Nat} {S T : am_S} {n p q x : Nat} {m : Int32} (hT : uI S 97 0 0 = T) (hn : gI T 97 3 = nI n) (hz : n ≤ 6) (h1 : p < n) (h2 : q < n) (hne : p ≠ q) (hm : 0 ≤ m ∧ m ≤ 199) (hx : absJ (casM T p q m).toInt64 = lN x) (hx2 : x < 9223372036854775808) : am_CT (d + 4) iX11_chance [.ref 97, .int (nI p), .int (nI q), .int m] S (some (.int (if fBit (gI T 102 p) (nI q) then 0 else -2))) ((if fBit (gI T 102 p) (nI q) then efS T (casM T p q m).toInt64 x 100 else T)) := by
  refine am_CT_in mmX11_chance rfl rfl rfl ?_
  have two := two_nM hn hz h1 h2 hne
  have bp : (nI p).toNatClampNeg = p := nI_clamp (by omega)
  have s1 : 0 ≤ nI p := nI_pos' (by omega)
  have s2 : nI p < Int32.ofNat 6 := nI_lt (by omega) (by omega)
  refine r_aload_n rfl rfl ?_
  refine r_iconst rfl ?_
  refine r_putI rfl rfl (by decide) (by decide) rfl ?_
  try rw [hT]
  refine r_aload_n rfl rfl ?_
  refine r_iload_n rfl rfl ?_
  refine r_iload_n rfl rfl ?_
  refine r_callV rfl (ct_X11_arePair (zM hn hz)) rfl rfl rfl (by decide) rfl (am_cnt rfl) ?_
  refine r_if_eq rfl (fun h11 => ?_) (fun h11 => ?_)
  · exact absurd (two) (b01_eq0.mp h11)
  · refine r_iload_n rfl rfl ?_
    refine r_i2l rfl ?_
    refine r_lconst rfl ?_
    refine r_ldc2_w rfl ?_
    refine r_callS rfl (by decide) ct_X11_in rfl rfl (am_cnt rfl) ?_
    refine r_if_ne rfl (fun h23 => ?_) (fun h23 => ?_)
    · refine r_aload_n rfl rfl ?_
      refine r_getC rfl rfl (by decide) (by decide) rfl ?_
      refine r_iload_n rfl rfl ?_
      refine r_iald rfl rfl (by first | decide | assumption) (by first | exact s1 | exact s2) (by first | exact s1 | exact s2) ?_
      refine r_iload_n rfl rfl ?_
      refine r_callS rfl (by decide) ct_X11_has rfl rfl (am_cnt rfl) ?_
      refine r_if_ne rfl (fun h38 => ?_) (fun h38 => ?_)
      · rw [bp] at h38
        have hr := Decidable.not_not.mp fun z => h38 (b01_f z)
        rw [if_pos hr, if_pos hr]
        refine r_aload_n rfl rfl ?_
        refine r_iconst rfl ?_
        refine r_putI rfl rfl (by decide) (by decide) rfl ?_
        refine r_aload_n rfl rfl ?_
        refine r_aload_n rfl rfl ?_
        refine r_iload_n rfl rfl ?_
        refine r_iload_n rfl rfl ?_
        refine r_iload_n rfl rfl ?_
        refine r_callV rfl (ct_X11_casesBy (by omega) (by omega)) rfl rfl rfl (by decide) rfl (am_cnt rfl) ?_
        refine r_i2l rfl ?_
        refine r_ldc2_w rfl ?_
        refine r_callV rfl (ct_X11_entersFraction u971 hx hx2 (y := 100) (by decide) (by decide)) rfl rfl rfl (by decide) rfl (am_cnt rfl) ?_
        refine r_iconst rfl ?_
        refine r_iret rfl rfl ?_
        exact ⟨rfl, rfl⟩
      · rw [bp] at h38
        rw [if_neg (b01_eq0.mp h38), if_neg (b01_eq0.mp h38)]
        refine r_bipush rfl ?_
        refine r_iret rfl rfl ?_
        exact ⟨rfl, rfl⟩
    · simp only [b01_eq0, wl_m999, wg_m999, wl_m99, wg_m99, wl_m50, wg_m50, wl_m1, wg_m1, wl_0, wg_0, wl_1, wg_1, wl_2, wg_2, wl_3, wg_3, wl_4, wg_4, wl_6, wg_6, wl_9, wg_9, wl_10, wg_10, wl_11, wg_11, wl_20, wg_20, wl_48, wg_48, wl_50, wg_50, wl_57, wg_57, wl_99, wg_99, wl_100, wg_100, wl_199, wg_199, wl_222, wg_222, wl_999, wg_999, wl_9999, wg_9999, fa_wide_le] at h23
      exact absurd hm h23
theorem ct_X11_sure_no {d : Nat} {S T : am_S} {p q w : Int32} (hT : uI S 97 0 0 = T) (hz : 0 ≤ gI T 97 3) (h : ¬ (twoM T p q ∧ 1 ≤ w ∧ w ≤ 100)) : am_CT (d + 4) iX11_sure [.ref 97, .int p, .int q, .int w] S (some (.int (-1))) (T) := by
  refine am_CT_in mmX11_sure rfl rfl rfl ?_
  refine r_aload_n rfl rfl ?_
  refine r_iconst rfl ?_
  refine r_putI rfl rfl (by decide) (by decide) rfl ?_
  try rw [hT]
  refine r_aload_n rfl rfl ?_
  refine r_iload_n rfl rfl ?_
  refine r_iload_n rfl rfl ?_
  refine r_callV rfl (ct_X11_arePair hz) rfl rfl rfl (by decide) rfl (am_cnt rfl) ?_
  refine r_if_eq rfl (fun h11 => ?_) (fun h11 => ?_)
  · refine r_iconst rfl ?_
    refine r_iret rfl rfl ?_
    exact ⟨rfl, rfl⟩
  · refine r_iload_n rfl rfl ?_
    refine r_i2l rfl ?_
    refine r_lconst rfl ?_
    refine r_ldc2_w rfl ?_
    refine r_callS rfl (by decide) ct_X11_in rfl rfl (am_cnt rfl) ?_
    refine r_if_ne rfl (fun h23 => ?_) (fun h23 => ?_)
    · exfalso
      simp only [b01_eq0, wl_m999, wg_m999, wl_m99, wg_m99, wl_m50, wg_m50, wl_m1, wg_m1, wl_0, wg_0, wl_1, wg_1, wl_2, wg_2, wl_3, wg_3, wl_4, wg_4, wl_6, wg_6, wl_9, wg_9, wl_10, wg_10, wl_11, wg_11, wl_20, wg_20, wl_48, wg_48, wl_50, wg_50, wl_57, wg_57, wl_99, wg_99, wl_100, wg_100, wl_199, wg_199, wl_222, wg_222, wl_999, wg_999, wl_9999, wg_9999, fa_wide_le] at *
      grind
    · refine r_iconst rfl ?_
      refine r_iret rfl rfl ?_
      exact ⟨rfl, rfl⟩
def sureM (S : am_S) (p q : Nat) (w : Int32) : Nat := fstF (fun m => ¬ casM S p q (nI m) < w) 0 199
theorem ct_X11_sure_ok {d : Nat} {S T : am_S} {n p q : Nat} {w : Int32} (hT : uI S 97 0 0 = T) (hn : gI T 97 3 = nI n) (hz : n ≤ 6) (h1 : p < n) (h2 : q < n) (hne : p ≠ q) (hw : 1 ≤ w ∧ w ≤ 100) (he : ¬ casM T p q (nI 199) < w) : am_CT (d + 4) iX11_sure [.ref 97, .int (nI p), .int (nI q), .int w] S (some (.int (if fBit (gI T 102 p) (nI q) then nI (sureM T p q w) else -2))) (T) := by
  refine am_CT_in mmX11_sure rfl rfl rfl ?_
  have two := two_nM hn hz h1 h2 hne
  have bp : (nI p).toNatClampNeg = p := nI_clamp (by omega)
  have s1 : 0 ≤ nI p := nI_pos' (by omega)
  have s2 : nI p < Int32.ofNat 6 := nI_lt (by omega) (by omega)
  have loop : ∀ (k : Nat) (j : Nat), (fBit (gI T 102 p) (nI q)) → (j ≤ 199) → (199 < j + k) → (fstF (fun m => ¬ casM T p q (nI m) < w) j (199 - j) = sureM T p q w) → am_Ex (am_Call am_MT (d + 3)) mmX11_sure none (fun r1 G1 => r1 = (some (.int (if fBit (gI T 102 p) (nI q) then nI (sureM T p q w) else -2))) ∧ G1 = am_H (T)) (fun _ _ _ _ _ _ => False) 47 [some (.ref 97), some (.int (nI p)), some (.int (nI q)), some (.int w), some (.int (nI j))] [] (am_H (T)) 0 0 := by
    intro k
    induction k with
    | zero =>
      intro j q0 q1 q2 q3
      omega
    | succ k ih =>
      intro j q0 q1 q2 q3
      rw [if_pos q0]
      have en : ¬ casM T p q (nI j) < w → sureM T p q w = j := fun h => by
        rw [← q3]
        match 199 - j with
        | 0 => rfl
        | f + 1 => rw [fstF, if_pos h]
      refine r_aload_n rfl rfl ?_
      refine r_iload_n rfl rfl ?_
      refine r_iload_n rfl rfl ?_
      refine r_iload rfl rfl ?_
      refine r_callV rfl (ct_X11_casesBy (by omega) (by omega)) rfl rfl rfl (by decide) rfl (am_cnt rfl) ?_
      refine r_iload_n rfl rfl ?_
      refine r_icmp_ge rfl (fun h56 => ?_) (fun h56 => ?_)
      · rw [en (Int32.not_lt.mpr h56)]
        refine r_iload rfl rfl ?_
        refine r_iret rfl rfl ?_
        exact ⟨rfl, rfl⟩
      · have hj : ¬ j = 199 := fun z => he (by rw [← z]; exact Int32.not_le.mp h56)
        refine r_iinc (L2 := [_, _, _, _, _]) rfl rfl rfl ?_
        refine r_goto rfl ?_
        rw [nI_1]
        have e := ih (j + 1) q0 (by omega) (by omega) (by rw [← q3, show 199 - j = 199 - (j + 1) + 1 by omega, fstF, if_neg (fun z => z (Int32.not_le.mp h56))])
        rw [if_pos q0] at e
        exact e
  refine r_aload_n rfl rfl ?_
  refine r_iconst rfl ?_
  refine r_putI rfl rfl (by decide) (by decide) rfl ?_
  try rw [hT]
  refine r_aload_n rfl rfl ?_
  refine r_iload_n rfl rfl ?_
  refine r_iload_n rfl rfl ?_
  refine r_callV rfl (ct_X11_arePair (zM hn hz)) rfl rfl rfl (by decide) rfl (am_cnt rfl) ?_
  refine r_if_eq rfl (fun h11 => ?_) (fun h11 => ?_)
  · exact absurd (two) (b01_eq0.mp h11)
  · refine r_iload_n rfl rfl ?_
    refine r_i2l rfl ?_
    refine r_lconst rfl ?_
    refine r_ldc2_w rfl ?_
    refine r_callS rfl (by decide) ct_X11_in rfl rfl (am_cnt rfl) ?_
    refine r_if_ne rfl (fun h23 => ?_) (fun h23 => ?_)
    · refine r_aload_n rfl rfl ?_
      refine r_getC rfl rfl (by decide) (by decide) rfl ?_
      refine r_iload_n rfl rfl ?_
      refine r_iald rfl rfl (by first | decide | assumption) (by first | exact s1 | exact s2) (by first | exact s1 | exact s2) ?_
      refine r_iload_n rfl rfl ?_
      refine r_callS rfl (by decide) ct_X11_has rfl rfl (am_cnt rfl) ?_
      refine r_if_ne rfl (fun h38 => ?_) (fun h38 => ?_)
      · rw [bp] at h38
        have hr := Decidable.not_not.mp fun z => h38 (b01_f z)
        refine r_iconst rfl ?_
        refine r_istore (L2 := [_, _, _, _, _]) rfl rfl ?_
        exact loop 200 0 hr (by omega) (by omega) rfl
      · rw [bp] at h38
        rw [if_neg (b01_eq0.mp h38)]
        refine r_bipush rfl ?_
        refine r_iret rfl rfl ?_
        exact ⟨rfl, rfl⟩
    · simp only [b01_eq0, wl_m999, wg_m999, wl_m99, wg_m99, wl_m50, wg_m50, wl_m1, wg_m1, wl_0, wg_0, wl_1, wg_1, wl_2, wg_2, wl_3, wg_3, wl_4, wg_4, wl_6, wg_6, wl_9, wg_9, wl_10, wg_10, wl_11, wg_11, wl_20, wg_20, wl_48, wg_48, wl_50, wg_50, wl_57, wg_57, wl_99, wg_99, wl_100, wg_100, wl_199, wg_199, wl_222, wg_222, wl_999, wg_999, wl_9999, wg_9999, fa_wide_le] at h23
      exact absurd hw h23
