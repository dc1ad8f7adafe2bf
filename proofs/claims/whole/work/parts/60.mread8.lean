/-! Reads, rule and pays of the reference. -/
def rdU (S : am_S) (sg n : Nat) : am_S := uI (uR (uI (uI (uI (uI S 97 17 0) 97 18 0) 97 20 0) 97 19 (nI (min 40 n))) 6 (1000000 + sg)) 105 13 0
def rdP (tp : Nat → Nat) (n sg : Nat) : Bool × RdS := if n = 0 then (true, 0, 0, []) else rdF tp (min 40 n) sg 328 0 (0, 0, [])
abbrev rdD (tp : Nat → Nat) (n sg : Nat) : Prop := (rdP tp n sg).1 = true ∧ (rdP tp n sg).2.1 = min 40 n
def rdA (tp : Nat → Nat) (n sg : Nat) : Int32 := if 40 < n ∧ (rdD tp n sg ∨ 40 ≤ (rdP tp n sg).2.1) then -41 else if rdD tp n sg then 0 else -1 - nI (rdP tp n sg).2.1
def CpM (T : am_S) (w j : Nat) (V : am_S) : Prop := (∀ o, o ≠ 104 → o ≠ 105 → gI V o = gI T o) ∧ (∀ a, gI V 105 a = if a = w then gI T 105 13 else gI T 105 a) ∧ (∀ a, gI V 104 a = if 48 * w ≤ a ∧ a < 48 * w + j then gI T 104 (624 + (a - 48 * w)) else gI T 104 a) ∧ (∀ o, gJ V o = gJ T o) ∧ ∀ c, gR V c = gR T c
theorem min40 {n : Nat} (h : n < 1000) : (if (40 : Int32) < nI n then 40 else nI n) = nI (min 40 n) := min_nI (a := 40) (b := n) (by decide) (by omega)
theorem ct_X11_reads_neg {d : Nat} {S : am_S} {n sg : Nat} {w : Int32} (hn : gI S 97 17 = nI n) (hn2 : n < 1000) (hw : w < 0) : am_CT (d + 5) iX11_reads [.ref 97, .int w, .ref (1000000 + sg)] S (some (.int (-100))) (rdU S sg n) := by
  refine am_CT_in mmX11_reads rfl rfl rfl ?_
  refine r_aload_n rfl rfl ?_
  refine r_getI rfl rfl (by decide) (by decide) rfl ?_
  rw [hn]
  refine r_istore_n (L2 := [_, _, _, _, _, _, _]) rfl rfl ?_
  refine r_aload_n rfl rfl ?_
  refine r_iconst rfl ?_
  refine r_putI rfl rfl (by decide) (by decide) rfl ?_
  refine r_aload_n rfl rfl ?_
  refine r_iconst rfl ?_
  refine r_putI rfl rfl (by decide) (by decide) rfl ?_
  refine r_aload_n rfl rfl ?_
  refine r_iconst rfl ?_
  refine r_putI rfl rfl (by decide) (by decide) rfl ?_
  refine r_aload_n rfl rfl ?_
  refine r_iload_n rfl rfl ?_
  refine r_bipush rfl ?_
  refine r_min rfl (am_cnt rfl) ?_
  rw [min40 hn2]
  refine r_putI rfl rfl (by decide) (by decide) rfl ?_
  refine r_aload_n rfl rfl ?_
  refine r_aload_n rfl rfl ?_
  refine r_putH (c := 6) rfl (by decide) (by omega) ?_
  refine r_aload_n rfl rfl ?_
  refine r_getC rfl rfl (by decide) (by decide) rfl ?_
  refine r_bipush rfl ?_
  refine r_iconst rfl ?_
  refine r_iast rfl rfl (by first | decide | assumption) (by decide) (by decide) ?_
  refine r_iload_n rfl rfl ?_
  refine r_if_ge rfl (fun h44 => ?_) (fun h44 => ?_)
  · exact absurd hw (Int32.not_lt.mpr h44)
  · refine r_bipush rfl ?_
    refine r_iret rfl rfl ?_
    exact ⟨rfl, rfl⟩
theorem ct_X11_reads_ok {d : Nat} {S : am_S} {tp : Nat → Nat} {n sg w : Nat} (hn : gI S 97 17 = nI n) (hn2 : n < 1000) (ht : ∀ i, i < min 40 n → gI S 107 i = nI (tp i) ∧ tp i < 65536) (hsg : sg < 12) (hw : w < 13) : am_CE (d + 665) iX11_reads [.ref 97, .int (nI w), .ref (1000000 + sg)] S (some (.int (rdA tp n sg))) (fun V => ∃ T, FrC (rdU S sg n) T ∧ RdC T (rdP tp n sg).2 ∧ (if rdA tp n sg = 0 then CpM T w 48 V else V = T)) := by
  refine am_CE_in mmX11_reads rfl rfl rfl ?_
  have bw : (nI w).toNatClampNeg = w := nI_clamp (by omega)
  have sw1 : 0 ≤ nI w := nI_pos' (by omega)
  have sw2 : nI w < Int32.ofNat 14 := nI_lt (by omega) (by omega)
  have loop : ∀ (k : Nat) (j : Nat) (V : am_S) (T : am_S) (x4 : Int32) (x5 : Int32), (j ≤ 48) → (48 < j + k) → (FrC (rdU S sg n) T) → (RdC T (rdP tp n sg).2) → (rdA tp n sg = 0) → (CpM T w j V) → am_Ex (am_Call am_MT (d + 664)) mmX11_reads none (fun r1 G1 => r1 = (some (.int (rdA tp n sg))) ∧ ∃ S2, G1 = am_H S2 ∧ (fun V => ∃ T, FrC (rdU S sg n) T ∧ RdC T (rdP tp n sg).2 ∧ (if rdA tp n sg = 0 then CpM T w 48 V else V = T)) S2) (fun _ _ _ _ _ _ => False) 143 [some (.ref 97), some (.int (nI w)), some (.ref (1000000 + sg)), some (.int (nI n)), some (.int x4), some (.int x5), some (.int (nI j))] [] (am_H (V)) 0 0 := by
    intro k
    induction k with
    | zero =>
      intro j V T x4 x5 q1 q2 f1 f2 hz f3
      omega
    | succ k ih =>
      intro j V T x4 x5 q1 q2 f1 f2 hz f3
      have b1 : (nI (48 * w + j)).toNatClampNeg = 48 * w + j := nI_clamp (by omega)
      have s1 : 0 ≤ nI (48 * w + j) := nI_pos' (by omega)
      have b2 : (nI (624 + j)).toNatClampNeg = 624 + j := nI_clamp (by omega)
      have s3 : 0 ≤ nI (624 + j) := nI_pos' (by omega)
      have e2 : (624 : Int32) + nI j = nI (624 + j) := nI_add 624 j
      refine r_iload rfl rfl ?_
      refine r_bipush rfl ?_
      refine r_icmp_ge rfl (fun h147 => ?_) (fun h147 => ?_)
      · have hj : j = 48 := by
          rw [show (48 : Int32) = nI 48 from rfl, nI_leI (by omega) (by omega)] at h147
          omega
        subst hj
        refine r_iconst rfl ?_
        refine r_iret rfl rfl ?_
        exact ⟨by rw [hz], _, rfl, T, f1, f2, by rw [if_pos hz]; exact f3⟩
      · rw [show (48 : Int32) = nI 48 from rfl, nI_leI (by omega) (by omega)] at h147
        have s2 : nI (48 * w + j) < Int32.ofNat 672 := nI_lt (by omega) (by omega)
        have s4 : nI (624 + j) < Int32.ofNat 672 := nI_lt (by omega) (by omega)
        have v1 : gI V 104 (624 + j) = gI T 104 (624 + j) := by rw [f3.2.2.1, if_neg (by omega)]
        refine r_aload_n rfl rfl ?_
        refine r_getC rfl rfl (by decide) (by decide) rfl ?_
        refine r_bipush rfl ?_
        refine r_iload_n rfl rfl ?_
        refine r_imul rfl ?_
        refine r_iload rfl rfl ?_
        refine r_iadd rfl ?_
        rw [ix48]
        refine r_aload_n rfl rfl ?_
        refine r_getC rfl rfl (by decide) (by decide) rfl ?_
        refine r_sipush rfl ?_
        refine r_iload rfl rfl ?_
        refine r_iadd rfl ?_
        rw [e2]
        refine r_iald rfl rfl (by first | decide | assumption) (by first | exact s1 | exact s2 | exact s3 | exact s4) (by first | exact s1 | exact s2 | exact s3 | exact s4) ?_
        rw [b2, v1]
        refine r_iast rfl rfl (by first | decide | assumption) (by first | exact s1 | exact s2 | exact s3 | exact s4) (by first | exact s1 | exact s2 | exact s3 | exact s4) ?_
        refine r_iinc (L2 := [_, _, _, _, _, _, _]) rfl rfl rfl ?_
        refine r_goto rfl ?_
        rw [b1, nI_1]
        refine ih (j + 1) _ T _ _ (by omega) (by omega) f1 f2 hz ⟨fun o a b => by rw [gI_uI_ne a, f3.1 o a b], fun a => by rw [gI_uI_ne (by decide), f3.2.1 a], fun a => ?_, f3.2.2.2.1, f3.2.2.2.2⟩
        rw [gI_uI, if_pos rfl, f3.2.2.1 a]
        by_cases h : a = 48 * w + j
        · rw [if_pos h, if_pos (by omega), show a - 48 * w = j by omega]
        · rw [if_neg h]
          by_cases h2 : 48 * w ≤ a ∧ a < 48 * w + j
          · rw [if_pos h2, if_pos (by omega)]
          · rw [if_neg h2, if_neg (by omega)]
  have u97 : gI (rdU S sg n) 97 19 = nI (min 40 n) := by
    unfold rdU
    rw [gI_uI_ne (by decide)]
    show gI (uI (uI (uI (uI S 97 17 0) 97 18 0) 97 20 0) 97 19 (nI (min 40 n))) 97 19 = _
    rw [gI_uI, if_pos rfl, if_pos rfl]
  have rest : ∀ (T : am_S), FrC (rdU S sg n) T → RdC T (rdP tp n sg).2 → am_Ex (am_Call am_MT (d + 664)) mmX11_reads none (fun r1 G1 => r1 = (some (.int (rdA tp n sg))) ∧ ∃ S2, G1 = am_H S2 ∧ (fun V => ∃ T, FrC (rdU S sg n) T ∧ RdC T (rdP tp n sg).2 ∧ (if rdA tp n sg = 0 then CpM T w 48 V else V = T)) S2) (fun _ _ _ _ _ _ => False) 69 [some (.ref 97), some (.int (nI w)), some (.ref (1000000 + sg)), some (.int (nI n)), some (.int (b01 ((rdP tp n sg).1 = true))), none, none] [] (am_H T) 0 0 := fun T f1 f2 => by
    obtain ⟨g18, g20, g13, gst⟩ := f2
    have t19 : gI T 97 19 = nI (min 40 n) := by rw [f1.2.1 19 (by decide) (by decide), u97]
    have al : (rdP tp n sg).2.1 ≤ 40 := by
      unfold rdP
      split
      · exact Nat.zero_le _
      · have := (rdF_ok (tp := tp) (to := min 40 n) (sg := sg) 328 0 (0, 0, []) (Nat.zero_le _) (Nat.zero_le _)).2.1
        omega
    have ng : ¬ (-1 : Int32) - nI (rdP tp n sg).2.1 = 0 := fun z => nI_neg (n := (rdP tp n sg).2.1) (by omega) (by
      have : nI (rdP tp n sg).2.1 = -1 := by grind
      rw [this]
      decide)
    have s13 : (13 : Int32).toNatClampNeg = 13 := by decide
    have n40 : nI n ≤ 40 ↔ n ≤ 40 := by rw [show (40 : Int32) = nI 40 from rfl]; exact nI_leI (by omega) (by omega)
    by_cases hd : rdD tp n sg
    · have w1 : ¬ b01 ((rdP tp n sg).1 = true) = 0 := by rw [b01_t hd.1]; decide
      have w2 : nI (rdP tp n sg).2.1 = nI (min 40 n) := by rw [hd.2]
      by_cases h40 : n ≤ 40
      · have ea : rdA tp n sg = 0 := by rw [rdA, if_neg (fun z => by omega), if_pos hd]
        refine r_iload rfl rfl ?_
        refine r_if_eq rfl (fun h71 => ?_) (fun h71 => ?_)
        · exact absurd h71 w1
        · refine r_aload_n rfl rfl ?_
          refine r_getI rfl rfl (by decide) (by decide) rfl ?_
          refine r_aload_n rfl rfl ?_
          refine r_getI rfl rfl (by decide) (by decide) rfl ?_
          rw [g18, t19]
          refine r_icmp_ne rfl (fun h82 => ?_) (fun h82 => ?_)
          · exact absurd w2 h82
          · refine r_iconst rfl ?_
            refine r_goto rfl ?_
            refine r_istore (L2 := [_, _, _, _, _, _, _]) rfl rfl ?_
            refine r_iload_n rfl rfl ?_
            refine r_bipush rfl ?_
            refine r_icmp_le rfl (fun h95 => ?_) (fun h95 => ?_)
            · refine r_iload rfl rfl ?_
              refine r_if_ne rfl (fun h117 => ?_) (fun h117 => ?_)
              · refine r_aload_n rfl rfl ?_
                refine r_getC rfl rfl (by decide) (by decide) rfl ?_
                refine r_iload_n rfl rfl ?_
                refine r_aload_n rfl rfl ?_
                refine r_getC rfl rfl (by decide) (by decide) rfl ?_
                refine r_bipush rfl ?_
                refine r_iald rfl rfl (by first | decide | assumption) (by first | exact sw1 | exact sw2 | decide) (by first | exact sw1 | exact sw2 | decide) ?_
                refine r_iast rfl rfl (by first | decide | assumption) (by first | exact sw1 | exact sw2 | decide) (by first | exact sw1 | exact sw2 | decide) ?_
                refine r_iconst rfl ?_
                refine r_istore (L2 := [_, _, _, _, _, _, _]) rfl rfl ?_
                rw [bw]
                refine loop 49 0 _ T _ _ (by omega) (by omega) f1 ⟨g18, g20, g13, gst⟩ ea ⟨fun o a b => by rw [gI_uI_ne b], fun a => by rw [gI_uI, if_pos rfl, s13], fun a => by rw [gI_uI_ne (by decide), if_neg (by omega)], fun _ => rfl, fun _ => rfl⟩
              · exact absurd h117 (by decide)
            · exact absurd (n40.mpr h40) h95
      · have ea : rdA tp n sg = -41 := by rw [rdA, if_pos ⟨by omega, Or.inl hd⟩]
        have n0 : ¬ rdA tp n sg = 0 := by rw [ea]; decide
        refine r_iload rfl rfl ?_
        refine r_if_eq rfl (fun h71 => ?_) (fun h71 => ?_)
        · exact absurd h71 w1
        · refine r_aload_n rfl rfl ?_
          refine r_getI rfl rfl (by decide) (by decide) rfl ?_
          refine r_aload_n rfl rfl ?_
          refine r_getI rfl rfl (by decide) (by decide) rfl ?_
          rw [g18, t19]
          refine r_icmp_ne rfl (fun h82 => ?_) (fun h82 => ?_)
          · exact absurd w2 h82
          · refine r_iconst rfl ?_
            refine r_goto rfl ?_
            refine r_istore (L2 := [_, _, _, _, _, _, _]) rfl rfl ?_
            refine r_iload_n rfl rfl ?_
            refine r_bipush rfl ?_
            refine r_icmp_le rfl (fun h95 => ?_) (fun h95 => ?_)
            · exact absurd (n40.mp h95) h40
            · refine r_iload rfl rfl ?_
              refine r_if_ne rfl (fun h100 => ?_) (fun h100 => ?_)
              · refine r_bipush rfl ?_
                refine r_iret rfl rfl ?_
                exact ⟨by rw [ea], _, rfl, T, f1, ⟨g18, g20, g13, gst⟩, by rw [if_neg n0]⟩
              · exact absurd h100 (by decide)
    · have w3 : (rdP tp n sg).1 = true → ¬ nI (rdP tp n sg).2.1 = nI (min 40 n) := fun z y => hd ⟨z, nI_inj (by omega) (by omega) y⟩
      by_cases hx : 40 < n ∧ 40 ≤ (rdP tp n sg).2.1
      · have ea : rdA tp n sg = -41 := by rw [rdA, if_pos ⟨hx.1, Or.inr hx.2⟩]
        have n0 : ¬ rdA tp n sg = 0 := by rw [ea]; decide
        have w5 : ¬ nI (rdP tp n sg).2.1 < 40 := Int32.not_lt.mpr (nI_le (a := 40) hx.2 (by omega))
        refine r_iload rfl rfl ?_
        refine r_if_eq rfl (fun h71 => ?_) (fun h71 => ?_)
        · refine r_iconst rfl ?_
          refine r_istore (L2 := [_, _, _, _, _, _, _]) rfl rfl ?_
          refine r_iload_n rfl rfl ?_
          refine r_bipush rfl ?_
          refine r_icmp_le rfl (fun h95 => ?_) (fun h95 => ?_)
          · exact absurd (n40.mp h95) (by omega)
          · refine r_iload rfl rfl ?_
            refine r_if_ne rfl (fun h100 => ?_) (fun h100 => ?_)
            · exact absurd rfl h100
            · refine r_aload_n rfl rfl ?_
              refine r_getI rfl rfl (by decide) (by decide) rfl ?_
              refine r_bipush rfl ?_
              rw [g18]
              refine r_icmp_lt rfl (fun h109 => ?_) (fun h109 => ?_)
              · exact absurd h109 w5
              · refine r_bipush rfl ?_
                refine r_iret rfl rfl ?_
                exact ⟨by rw [ea], _, rfl, T, f1, ⟨g18, g20, g13, gst⟩, by rw [if_neg n0]⟩
        · refine r_aload_n rfl rfl ?_
          refine r_getI rfl rfl (by decide) (by decide) rfl ?_
          refine r_aload_n rfl rfl ?_
          refine r_getI rfl rfl (by decide) (by decide) rfl ?_
          rw [g18, t19]
          refine r_icmp_ne rfl (fun h82 => ?_) (fun h82 => ?_)
          · refine r_iconst rfl ?_
            refine r_istore (L2 := [_, _, _, _, _, _, _]) rfl rfl ?_
            refine r_iload_n rfl rfl ?_
            refine r_bipush rfl ?_
            refine r_icmp_le rfl (fun h95 => ?_) (fun h95 => ?_)
            · exact absurd (n40.mp h95) (by omega)
            · refine r_iload rfl rfl ?_
              refine r_if_ne rfl (fun h100 => ?_) (fun h100 => ?_)
              · exact absurd rfl h100
              · refine r_aload_n rfl rfl ?_
                refine r_getI rfl rfl (by decide) (by decide) rfl ?_
                refine r_bipush rfl ?_
                rw [g18]
                refine r_icmp_lt rfl (fun h109 => ?_) (fun h109 => ?_)
                · exact absurd h109 w5
                · refine r_bipush rfl ?_
                  refine r_iret rfl rfl ?_
                  exact ⟨by rw [ea], _, rfl, T, f1, ⟨g18, g20, g13, gst⟩, by rw [if_neg n0]⟩
          · exact absurd h82 (w3 (Decidable.not_not.mp fun z => h71 (b01_f z)))
      · have ea : rdA tp n sg = -1 - nI (rdP tp n sg).2.1 := by rw [rdA, if_neg (fun z => z.2.elim hd (fun y => hx ⟨z.1, y⟩)), if_neg hd]
        have n0 : ¬ rdA tp n sg = 0 := by rw [ea]; exact ng
        have w5 : ¬ n ≤ 40 → nI (rdP tp n sg).2.1 < 40 := fun z => nI_lt (b := 40) (by omega) (by omega)
        refine r_iload rfl rfl ?_
        refine r_if_eq rfl (fun h71 => ?_) (fun h71 => ?_)
        · refine r_iconst rfl ?_
          refine r_istore (L2 := [_, _, _, _, _, _, _]) rfl rfl ?_
          refine r_iload_n rfl rfl ?_
          refine r_bipush rfl ?_
          refine r_icmp_le rfl (fun h95 => ?_) (fun h95 => ?_)
          · refine r_iload rfl rfl ?_
            refine r_if_ne rfl (fun h117 => ?_) (fun h117 => ?_)
            · exact absurd rfl h117
            · refine r_iconst rfl ?_
              refine r_aload_n rfl rfl ?_
              refine r_getI rfl rfl (by decide) (by decide) rfl ?_
              rw [g18]
              refine r_isub rfl ?_
              refine r_iret rfl rfl ?_
              exact ⟨by rw [ea], _, rfl, T, f1, ⟨g18, g20, g13, gst⟩, by rw [if_neg n0]⟩
          · refine r_iload rfl rfl ?_
            refine r_if_ne rfl (fun h100 => ?_) (fun h100 => ?_)
            · exact absurd rfl h100
            · refine r_aload_n rfl rfl ?_
              refine r_getI rfl rfl (by decide) (by decide) rfl ?_
              refine r_bipush rfl ?_
              rw [g18]
              refine r_icmp_lt rfl (fun h109 => ?_) (fun h109 => ?_)
              · refine r_iload rfl rfl ?_
                refine r_if_ne rfl (fun h117 => ?_) (fun h117 => ?_)
                · exact absurd rfl h117
                · refine r_iconst rfl ?_
                  refine r_aload_n rfl rfl ?_
                  refine r_getI rfl rfl (by decide) (by decide) rfl ?_
                  rw [g18]
                  refine r_isub rfl ?_
                  refine r_iret rfl rfl ?_
                  exact ⟨by rw [ea], _, rfl, T, f1, ⟨g18, g20, g13, gst⟩, by rw [if_neg n0]⟩
              · exact absurd (w5 (fun z => h95 (n40.mpr z))) h109
        · refine r_aload_n rfl rfl ?_
          refine r_getI rfl rfl (by decide) (by decide) rfl ?_
          refine r_aload_n rfl rfl ?_
          refine r_getI rfl rfl (by decide) (by decide) rfl ?_
          rw [g18, t19]
          refine r_icmp_ne rfl (fun h82 => ?_) (fun h82 => ?_)
          · refine r_iconst rfl ?_
            refine r_istore (L2 := [_, _, _, _, _, _, _]) rfl rfl ?_
            refine r_iload_n rfl rfl ?_
            refine r_bipush rfl ?_
            refine r_icmp_le rfl (fun h95 => ?_) (fun h95 => ?_)
            · refine r_iload rfl rfl ?_
              refine r_if_ne rfl (fun h117 => ?_) (fun h117 => ?_)
              · exact absurd rfl h117
              · refine r_iconst rfl ?_
                refine r_aload_n rfl rfl ?_
                refine r_getI rfl rfl (by decide) (by decide) rfl ?_
                rw [g18]
                refine r_isub rfl ?_
                refine r_iret rfl rfl ?_
                exact ⟨by rw [ea], _, rfl, T, f1, ⟨g18, g20, g13, gst⟩, by rw [if_neg n0]⟩
            · refine r_iload rfl rfl ?_
              refine r_if_ne rfl (fun h100 => ?_) (fun h100 => ?_)
              · exact absurd rfl h100
              · refine r_aload_n rfl rfl ?_
                refine r_getI rfl rfl (by decide) (by decide) rfl ?_
                refine r_bipush rfl ?_
                rw [g18]
                refine r_icmp_lt rfl (fun h109 => ?_) (fun h109 => ?_)
                · refine r_iload rfl rfl ?_
                  refine r_if_ne rfl (fun h117 => ?_) (fun h117 => ?_)
                  · exact absurd rfl h117
                  · refine r_iconst rfl ?_
                    refine r_aload_n rfl rfl ?_
                    refine r_getI rfl rfl (by decide) (by decide) rfl ?_
                    rw [g18]
                    refine r_isub rfl ?_
                    refine r_iret rfl rfl ?_
                    exact ⟨by rw [ea], _, rfl, T, f1, ⟨g18, g20, g13, gst⟩, by rw [if_neg n0]⟩
                · exact absurd (w5 (fun z => h95 (n40.mpr z))) h109
          · exact absurd h82 (w3 (Decidable.not_not.mp fun z => h71 (b01_f z)))
  have r6 : gR (rdU S sg n) 6 = 1000000 + sg := by
    unfold rdU
    rw [gR_uI]
    exact gR_uR.trans (if_pos rfl)
  have rc : RdC (rdU S sg n) (0, 0, []) := ⟨rfl, rfl, rfl, fun i hi => absurd hi (Nat.not_lt_zero i)⟩
  have tU : TpM (rdU S sg n) tp (min 40 n) := ⟨u97, by omega, ht⟩
  have w0 : ¬ nI w < 0 := nI_neg (by omega)
  by_cases h0 : n = 0
  · have pe : rdP tp n sg = (true, 0, 0, []) := if_pos h0
    have q : b01 ((rdP tp n sg).1 = true) = 1 := by rw [pe]; exact b01_t rfl
    have n0 : nI n = 0 := by rw [h0]; rfl
    refine r_aload_n rfl rfl ?_
    refine r_getI rfl rfl (by decide) (by decide) rfl ?_
    rw [hn]
    refine r_istore_n (L2 := [_, _, _, _, _, _, _]) rfl rfl ?_
    refine r_aload_n rfl rfl ?_
    refine r_iconst rfl ?_
    refine r_putI rfl rfl (by decide) (by decide) rfl ?_
    refine r_aload_n rfl rfl ?_
    refine r_iconst rfl ?_
    refine r_putI rfl rfl (by decide) (by decide) rfl ?_
    refine r_aload_n rfl rfl ?_
    refine r_iconst rfl ?_
    refine r_putI rfl rfl (by decide) (by decide) rfl ?_
    refine r_aload_n rfl rfl ?_
    refine r_iload_n rfl rfl ?_
    refine r_bipush rfl ?_
    refine r_min rfl (am_cnt rfl) ?_
    rw [min40 hn2]
    refine r_putI rfl rfl (by decide) (by decide) rfl ?_
    refine r_aload_n rfl rfl ?_
    refine r_aload_n rfl rfl ?_
    refine r_putH (c := 6) rfl (by decide) (by omega) ?_
    refine r_aload_n rfl rfl ?_
    refine r_getC rfl rfl (by decide) (by decide) rfl ?_
    refine r_bipush rfl ?_
    refine r_iconst rfl ?_
    refine r_iast rfl rfl (by first | decide | assumption) (by decide) (by decide) ?_
    refine r_iload_n rfl rfl ?_
    refine r_if_ge rfl (fun h44 => ?_) (fun h44 => ?_)
    · refine r_iload_n rfl rfl ?_
      refine r_if_eq rfl (fun h51 => ?_) (fun h51 => ?_)
      · refine r_iconst rfl ?_
        refine r_goto rfl ?_
        refine r_istore (L2 := [_, _, _, _, _, _, _]) rfl rfl ?_
        have e := rest (rdU S sg n) frC_0 (by rw [pe]; exact rc)
        rw [q] at e
        exact e
      · exact absurd n0 h51
    · exact absurd (Int32.not_le.mp h44) w0
  · have pe : rdP tp n sg = rdF tp (min 40 n) sg 328 0 (0, 0, []) := if_neg h0
    have n0 : ¬ nI n = 0 := nI_ne0 (by omega) (by omega)
    have rk := (rd_ct (tp := tp) (to := min 40 n) hsg 328).2.2 (d + 4) (rdU S sg n) (0, 0, []) 0 (by decide) tU rc (Nat.zero_le _) (Nat.zero_le _) (Nat.zero_le _) r6 (by show 8 * (min 40 n - 0) + (7 - 0) ≤ 328; omega)
    rw [show d + 4 + 2 * 328 + 4 = d + 664 by omega] at rk
    refine r_aload_n rfl rfl ?_
    refine r_getI rfl rfl (by decide) (by decide) rfl ?_
    rw [hn]
    refine r_istore_n (L2 := [_, _, _, _, _, _, _]) rfl rfl ?_
    refine r_aload_n rfl rfl ?_
    refine r_iconst rfl ?_
    refine r_putI rfl rfl (by decide) (by decide) rfl ?_
    refine r_aload_n rfl rfl ?_
    refine r_iconst rfl ?_
    refine r_putI rfl rfl (by decide) (by decide) rfl ?_
    refine r_aload_n rfl rfl ?_
    refine r_iconst rfl ?_
    refine r_putI rfl rfl (by decide) (by decide) rfl ?_
    refine r_aload_n rfl rfl ?_
    refine r_iload_n rfl rfl ?_
    refine r_bipush rfl ?_
    refine r_min rfl (am_cnt rfl) ?_
    rw [min40 hn2]
    refine r_putI rfl rfl (by decide) (by decide) rfl ?_
    refine r_aload_n rfl rfl ?_
    refine r_aload_n rfl rfl ?_
    refine r_putH (c := 6) rfl (by decide) (by omega) ?_
    refine r_aload_n rfl rfl ?_
    refine r_getC rfl rfl (by decide) (by decide) rfl ?_
    refine r_bipush rfl ?_
    refine r_iconst rfl ?_
    refine r_iast rfl rfl (by first | decide | assumption) (by decide) (by decide) ?_
    refine r_iload_n rfl rfl ?_
    refine r_if_ge rfl (fun h44 => ?_) (fun h44 => ?_)
    · refine r_iload_n rfl rfl ?_
      refine r_if_eq rfl (fun h51 => ?_) (fun h51 => ?_)
      · exact absurd h51 n0
      · refine r_aload_n rfl rfl ?_
        refine r_iconst rfl ?_
        refine r_callVE rfl rk rfl rfl rfl (by decide) rfl (am_cnt rfl) (fun V hV => ?_)
        refine r_if_eq rfl (fun h59 => ?_) (fun h59 => ?_)
        · have q : b01 ((rdP tp n sg).1 = true) = 0 := by rw [pe]; exact h59
          refine r_iconst rfl ?_
          refine r_istore (L2 := [_, _, _, _, _, _, _]) rfl rfl ?_
          have e := rest V hV.1 (by rw [pe]; exact hV.2)
          rw [q] at e
          exact e
        · have q : b01 ((rdP tp n sg).1 = true) = 1 := by rw [pe]; exact b01_or.resolve_left h59
          refine r_iconst rfl ?_
          refine r_goto rfl ?_
          refine r_istore (L2 := [_, _, _, _, _, _, _]) rfl rfl ?_
          have e := rest V hV.1 (by rw [pe]; exact hV.2)
          rw [q] at e
          exact e
    · exact absurd (Int32.not_le.mp h44) w0
