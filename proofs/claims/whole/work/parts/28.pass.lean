/-! Minutes go by: a course o. -/
def vS (S : am_S) (i fs : Nat) : am_S := rI S (18 + 3 * i + 2) (fEv (gI S (18 + 3 * i + 1)) (gI S 5) 6 (gI S (18 + 3 * i + 2)) fs).1
def vV (S : am_S) (i fs : Nat) : Int32 := fVal (gI S (18 + 3 * i + 1)) (gI S 5) 6 (gI S (18 + 3 * i + 2)) fs
theorem isF_form {S : am_S} {i : Nat} (h : i < 12) : IsF S (18 + 3 * i) := kn_form h
theorem hasP_nI {S : am_S} {n p : Nat} (hn : gI S 1 1 = nI n) (hz : n ≤ 6) (hp : p < n) : hasP S (nI p) := by
  unfold hasP
  rw [hn]
  exact ⟨nI_pos' (by omega), nI_lt hp (by omega)⟩
theorem ct_X9_deed {d : Nat} {S : am_S} {p i fs n : Nat} (hn : gI S 1 1 = nI n) (hz : n ≤ 6) (hp : p < n) (hi : gI S 4 p = nI i) (hi2 : i < 12) (hf : gI S (18 + 3 * i) 1 = nI fs) (hfs : fs ≤ 40) : am_CT (d + 4) iX9_deed [.ref 1, .int (nI p)] S (some (.int (fPut (vV S i fs) 9))) (vS S i fs) := by
  refine am_CT_in mmX9_deed rfl rfl rfl ?_
  have b1 : (nI p).toNatClampNeg = p := nI_clamp (by omega)
  have s1 : 0 ≤ nI p := nI_pos' (by omega)
  have s2 : nI p < Int32.ofNat 6 := nI_lt (by omega) (by omega)
  have b2 : (gI S 4 (nI p).toNatClampNeg) = nI i := by rw [b1, hi]
  have b3 : (nI i).toNatClampNeg = i := nI_clamp (by omega)
  have s3 : 0 ≤ gI S 4 (nI p).toNatClampNeg := by rw [b2]; exact nI_pos' (by omega)
  have s4 : gI S 4 (nI p).toNatClampNeg < Int32.ofNat 12 := by rw [b2]; exact nI_lt (by omega) (by omega)
  have c2 : (gI S 4 (nI p).toNatClampNeg).toNatClampNeg = i := by rw [b2, b3]
  have kf := (kn_form (m := gR S 0) hi2).1
  refine r_aload_n rfl rfl ?_
  refine r_iload_n rfl rfl ?_
  refine r_callV rfl ct_X9_has rfl rfl rfl (by decide) rfl (am_cnt rfl) ?_
  refine r_if_eq rfl (fun h5 => ?_) (fun h5 => ?_)
  · exact absurd (hasP_nI hn hz hp) (b01_eq0.mp h5)
  · refine r_aload_n rfl rfl ?_
    refine r_getC rfl rfl (by decide) (by decide) rfl ?_
    refine r_iload_n rfl rfl ?_
    refine r_iald rfl rfl (by first | decide | assumption) (by first | exact s1 | exact s2 | exact s3 | exact s4) (by first | exact s1 | exact s2 | exact s3 | exact s4) ?_
    refine r_goto rfl ?_
    refine r_istore_n (L2 := [_, _, _]) rfl rfl ?_
    refine r_iload_n rfl rfl ?_
    refine r_if_lt rfl (fun h20 => ?_) (fun h20 => ?_)
    · exact absurd s3 (Int32.not_le.mpr h20)
    · refine r_iload_n rfl rfl ?_
      refine r_bipush rfl ?_
      refine r_icmp_lt rfl (fun h26 => ?_) (fun h26 => ?_)
      · refine r_aload_n rfl rfl ?_
        refine r_getC rfl rfl (by decide) (by decide) rfl ?_
        refine r_iload_n rfl rfl ?_
        refine r_aaldF rfl rfl (by first | exact s1 | exact s2 | exact s3 | exact s4) (by first | exact s1 | exact s2 | exact s3 | exact s4) ?_
        rw [c2]
        refine r_aload_n rfl rfl ?_
        refine r_getC rfl rfl (by decide) (by decide) rfl ?_
        refine r_callV rfl (ct_X1_value (w := 6) (isF_form hi2) hf hfs rfl (by decide) (by omega)) rfl rfl kf (by decide) rfl (am_cnt rfl) ?_
        refine r_bipush rfl ?_
        refine r_callS rfl (by decide) ct_X10_putTo rfl rfl (am_cnt rfl) ?_
        refine r_iret rfl rfl ?_
        exact ⟨rfl, rfl⟩
      · exact absurd s4 h26
theorem ct_X9_speech {d : Nat} {S : am_S} {p fs : Nat} (hp : p < 6) (hf : gI S (18 + 3 * (2 * p + 1)) 1 = nI fs) (hfs : fs ≤ 40) : am_CT (d + 4) iX9_speech [.ref 1, .int (nI p)] S (some (.int (fPut (vV S (2 * p + 1) fs) 99))) (vS S (2 * p + 1) fs) := by
  refine am_CT_in mmX9_speech rfl rfl rfl ?_
  have b2 : 2 * nI p + 1 = nI (2 * p + 1) := by rw [Int32.mul_comm, show nI p * 2 = nI (p * 2) from pk_mul p 2, nI_1, Nat.mul_comm]
  have s3 : 0 ≤ nI (2 * p + 1) := nI_pos' (by omega)
  have s4 : nI (2 * p + 1) < Int32.ofNat 12 := nI_lt (by omega) (by omega)
  have c2 : (nI (2 * p + 1)).toNatClampNeg = 2 * p + 1 := nI_clamp (by omega)
  have hi2 : 2 * p + 1 < 12 := by omega
  have kf := (kn_form (m := gR S 0) hi2).1
  refine r_iconst rfl ?_
  refine r_iload_n rfl rfl ?_
  refine r_imul rfl ?_
  refine r_iconst rfl ?_
  refine r_iadd rfl ?_
  rw [b2]
  refine r_istore_n (L2 := [_, _, _]) rfl rfl ?_
  refine r_iload_n rfl rfl ?_
  refine r_if_lt rfl (fun h7 => ?_) (fun h7 => ?_)
  · exact absurd s3 (Int32.not_le.mpr h7)
  · refine r_iload_n rfl rfl ?_
    refine r_bipush rfl ?_
    refine r_icmp_lt rfl (fun h13 => ?_) (fun h13 => ?_)
    · refine r_aload_n rfl rfl ?_
      refine r_getC rfl rfl (by decide) (by decide) rfl ?_
      refine r_iload_n rfl rfl ?_
      refine r_aaldF rfl rfl (by first | exact s3 | exact s4) (by first | exact s3 | exact s4) ?_
      rw [c2]
      refine r_aload_n rfl rfl ?_
      refine r_getC rfl rfl (by decide) (by decide) rfl ?_
      refine r_callV rfl (ct_X1_value (w := 6) (isF_form hi2) hf hfs rfl (by decide) (by omega)) rfl rfl kf (by decide) rfl (am_cnt rfl) ?_
      refine r_bipush rfl ?_
      refine r_callS rfl (by decide) ct_X10_putTo rfl rfl (am_cnt rfl) ?_
      refine r_iret rfl rfl ?_
      exact ⟨rfl, rfl⟩
    · exact absurd s4 h13
def wndS (o : Nat) (S : am_S) : am_S := if gI S 1 5 = 0 ∧ gI S 1 6 = 0 then S else uI S o 2 (drawI (gI S o 2))
def wndV (o : Nat) (S : am_S) : Int32 := if gI S 1 5 = 0 ∧ gI S 1 6 = 0 then 0 else if tenI (drawI (gI S o 2)) < gI S 1 5 then -1 else if 10 - gI S 1 6 ≤ tenI (drawI (gI S o 2)) then 1 else 0
theorem ct_X9_wind {d : Nat} {S : am_S} {o : Nat} (hC : IsC S o) (ho : o ≠ 1) : am_CT (d + 2) iX9_wind [.ref 1, .ref o] S (some (.int (wndV o S))) (wndS o S) := by
  refine am_CT_in mmX9_wind rfl rfl rfl ?_
  have hk := hC.1
  have q1 : ∀ v, gI (uI S o 2 v) 1 = gI S 1 := fun v => gI_uI_ne ho.symm
  have w1 : gI S 1 5 = 0 → gI S 1 6 = 0 → wndV o S = 0 ∧ wndS o S = S := fun a b => ⟨if_pos ⟨a, b⟩, if_pos ⟨a, b⟩⟩
  have w2 : ¬ (gI S 1 5 = 0 ∧ gI S 1 6 = 0) → wndS o S = uI S o 2 (drawI (gI S o 2)) := fun a => if_neg a
  have w3 : ¬ (gI S 1 5 = 0 ∧ gI S 1 6 = 0) → tenI (drawI (gI S o 2)) < gI S 1 5 → wndV o S = -1 := fun a b => by rw [wndV, if_neg a, if_pos b]
  have w4 : ¬ (gI S 1 5 = 0 ∧ gI S 1 6 = 0) → ¬ tenI (drawI (gI S o 2)) < gI S 1 5 → 10 - gI S 1 6 ≤ tenI (drawI (gI S o 2)) → wndV o S = 1 := fun a b c => by rw [wndV, if_neg a, if_neg b, if_pos c]
  have w5 : ¬ (gI S 1 5 = 0 ∧ gI S 1 6 = 0) → ¬ tenI (drawI (gI S o 2)) < gI S 1 5 → ¬ 10 - gI S 1 6 ≤ tenI (drawI (gI S o 2)) → wndV o S = 0 := fun a b c => by rw [wndV, if_neg a, if_neg b, if_neg c]
  refine r_aload_n rfl rfl ?_
  refine r_getI rfl rfl (by decide) (by decide) rfl ?_
  refine r_if_ne rfl (fun h4 => ?_) (fun h4 => ?_)
  · have hz : ¬ (gI S 1 5 = 0 ∧ gI S 1 6 = 0) := fun z => h4 z.1
    refine r_aload_n rfl rfl ?_
    refine r_callV rfl (ct_X0_drawOfTen hC) rfl rfl hk (by decide) rfl (am_cnt rfl) ?_
    refine r_istore_n (L2 := [_, _, _]) rfl rfl ?_
    refine r_iload_n rfl rfl ?_
    refine r_aload_n rfl rfl ?_
    refine r_getI rfl rfl (by decide) (by decide) rfl ?_
    refine r_icmp_ge rfl (fun h26 => ?_) (fun h26 => ?_)
    · rw [q1] at h26
      have g1 := Int32.not_lt.mpr h26
      refine r_iload_n rfl rfl ?_
      refine r_bipush rfl ?_
      refine r_aload_n rfl rfl ?_
      refine r_getI rfl rfl (by decide) (by decide) rfl ?_
      refine r_isub rfl ?_
      refine r_icmp_lt rfl (fun h41 => ?_) (fun h41 => ?_)
      · rw [q1] at h41
        have g2 := Int32.not_le.mpr h41
        refine r_iconst rfl ?_
        refine r_iret rfl rfl ?_
        rw [w2 hz]
        first | (rw [w3 hz g1]; exact ⟨rfl, rfl⟩) | (rw [w4 hz g1 g2]; exact ⟨rfl, rfl⟩) | (rw [w5 hz g1 g2]; exact ⟨rfl, rfl⟩)
      · rw [q1] at h41
        have g2 := Int32.not_lt.mp h41
        refine r_iconst rfl ?_
        refine r_goto rfl ?_
        refine r_iret rfl rfl ?_
        rw [w2 hz]
        first | (rw [w3 hz g1]; exact ⟨rfl, rfl⟩) | (rw [w4 hz g1 g2]; exact ⟨rfl, rfl⟩) | (rw [w5 hz g1 g2]; exact ⟨rfl, rfl⟩)
    · rw [q1] at h26
      have g1 := Int32.not_le.mp h26
      refine r_iconst rfl ?_
      refine r_goto rfl ?_
      refine r_iret rfl rfl ?_
      rw [w2 hz]
      first | (rw [w3 hz g1]; exact ⟨rfl, rfl⟩) | (rw [w4 hz g1 g2]; exact ⟨rfl, rfl⟩) | (rw [w5 hz g1 g2]; exact ⟨rfl, rfl⟩)
  · refine r_aload_n rfl rfl ?_
    refine r_getI rfl rfl (by decide) (by decide) rfl ?_
    refine r_if_ne rfl (fun h11 => ?_) (fun h11 => ?_)
    · have hz : ¬ (gI S 1 5 = 0 ∧ gI S 1 6 = 0) := fun z => h11 z.2
      refine r_aload_n rfl rfl ?_
      refine r_callV rfl (ct_X0_drawOfTen hC) rfl rfl hk (by decide) rfl (am_cnt rfl) ?_
      refine r_istore_n (L2 := [_, _, _]) rfl rfl ?_
      refine r_iload_n rfl rfl ?_
      refine r_aload_n rfl rfl ?_
      refine r_getI rfl rfl (by decide) (by decide) rfl ?_
      refine r_icmp_ge rfl (fun h26 => ?_) (fun h26 => ?_)
      · rw [q1] at h26
        have g1 := Int32.not_lt.mpr h26
        refine r_iload_n rfl rfl ?_
        refine r_bipush rfl ?_
        refine r_aload_n rfl rfl ?_
        refine r_getI rfl rfl (by decide) (by decide) rfl ?_
        refine r_isub rfl ?_
        refine r_icmp_lt rfl (fun h41 => ?_) (fun h41 => ?_)
        · rw [q1] at h41
          have g2 := Int32.not_le.mpr h41
          refine r_iconst rfl ?_
          refine r_iret rfl rfl ?_
          rw [w2 hz]
          first | (rw [w3 hz g1]; exact ⟨rfl, rfl⟩) | (rw [w4 hz g1 g2]; exact ⟨rfl, rfl⟩) | (rw [w5 hz g1 g2]; exact ⟨rfl, rfl⟩)
        · rw [q1] at h41
          have g2 := Int32.not_lt.mp h41
          refine r_iconst rfl ?_
          refine r_goto rfl ?_
          refine r_iret rfl rfl ?_
          rw [w2 hz]
          first | (rw [w3 hz g1]; exact ⟨rfl, rfl⟩) | (rw [w4 hz g1 g2]; exact ⟨rfl, rfl⟩) | (rw [w5 hz g1 g2]; exact ⟨rfl, rfl⟩)
      · rw [q1] at h26
        have g1 := Int32.not_le.mp h26
        refine r_iconst rfl ?_
        refine r_goto rfl ?_
        refine r_iret rfl rfl ?_
        rw [w2 hz]
        first | (rw [w3 hz g1]; exact ⟨rfl, rfl⟩) | (rw [w4 hz g1 g2]; exact ⟨rfl, rfl⟩) | (rw [w5 hz g1 g2]; exact ⟨rfl, rfl⟩)
    · refine r_iconst rfl ?_
      refine r_iret rfl rfl ?_
      rw [(w1 (by assumption) (by assumption)).1, (w1 (by assumption) (by assumption)).2]
      exact ⟨rfl, rfl⟩
def noteS (S : am_S) (o a : Nat) (x y z w : Int32) : am_S := uI (uI (uI (uI S (o + 2) a x) (o + 3) a y) (o + 4) a z) (o + 5) a w
def lkS (o n : Nat) (S : am_S) (p : Nat) : am_S := rI S 5 (lookG S o n (nI p))
def ddS (o n : Nat) (dg fz : Nat → Nat) (S : am_S) (p : Nat) : am_S := vS (lkS o n S p) (dg p) (fz (dg p))
def ddV (o n : Nat) (dg fz : Nat → Nat) (S : am_S) (p : Nat) : Int32 := fPut (vV (lkS o n S p) (dg p) (fz (dg p))) 9
def spS (o n : Nat) (dg fz : Nat → Nat) (S : am_S) (p : Nat) : am_S := vS (ddS o n dg fz S p) (2 * p + 1) (fz (2 * p + 1))
def spV (o n : Nat) (dg fz : Nat → Nat) (S : am_S) (p : Nat) : Int32 := fPut (vV (ddS o n dg fz S p) (2 * p + 1) (fz (2 * p + 1))) 99
def perC (o n nw : Nat) (dg fz : Nat → Nat) (S : am_S) (p : Nat) : am_S := noteS (spS o n dg fz S p) o (p * 200 + nw) (ddV o n dg fz S p) (spV o n dg fz S p) (lookG S o n (nI p) 4) (lookG S o n (nI p) 2)
def perS (o n nw : Nat) (dg fz : Nat → Nat) (S : am_S) : Nat → am_S
  | 0 => S
  | j + 1 => perC o n nw dg fz (perS o n nw dg fz S j) j
def perD (o n nw : Nat) (dg fz : Nat → Nat) (S : am_S) (j : Nat) : Int32 := ddV o n dg fz (perS o n nw dg fz S j) j
/-- a minute of a course -/
def minC (o n nw : Nat) (dg fz : Nat → Nat) (S : am_S) : am_S :=
  uI (uI (wndS o (perS o n nw dg fz S n)) (o + 1) (nw + 1) (fPut (gI (wndS o (perS o n nw dg fz S n)) (o + 1) nw + (sumI (perD o n nw dg fz S) n + wndV o (perS o n nw dg fz S n))) 999)) o 0 (nI (nw + 1))
def pasC (o n nw : Nat) (dg fz : Nat → Nat) (S : am_S) : Nat → am_S
  | 0 => S
  | i + 1 => minC o n (nw + i) dg fz (pasC o n nw dg fz S i)
/-- what no turn changes -/
def stay (o a : Nat) : Prop := a ≠ 5 ∧ (a < 18 ∨ 53 < a ∨ a % 3 ≠ 2) ∧ (a < o ∨ o + 5 < a)
theorem vS_stay {S : am_S} {i fs a : Nat} (hi : i < 12) (h : a < 18 ∨ 53 < a ∨ a % 3 ≠ 2) : gI (vS S i fs) a = gI S a := by
  rw [vS, gI_rI_ne (by omega)]
theorem per_stay {o n nw : Nat} {dg fz : Nat → Nat} {S : am_S} {p a : Nat} (ho : 53 < o) (hd : dg p < 12) (hp : p < 6) (h1 : a ≠ 5) (h2 : a < 18 ∨ 53 < a ∨ a % 3 ≠ 2) (h3 : a < o + 2 ∨ o + 5 < a) : gI (perC o n nw dg fz S p) a = gI S a := by
  rw [perC, noteS, gI_uI_ne (by omega), gI_uI_ne (by omega), gI_uI_ne (by omega), gI_uI_ne (by omega), spS, vS_stay (by omega) h2, ddS, vS_stay hd h2, lkS, gI_rI_ne h1]
theorem perS_stay {o n nw : Nat} {dg fz : Nat → Nat} {S : am_S} {a : Nat} (ho : 53 < o) (hd : ∀ p, p < 6 → dg p < 12) (h1 : a ≠ 5) (h2 : a < 18 ∨ 53 < a ∨ a % 3 ≠ 2) (h3 : a < o + 2 ∨ o + 5 < a) : ∀ j, j ≤ 6 → gI (perS o n nw dg fz S j) a = gI S a
  | 0, _ => rfl
  | j + 1, hj => by rw [perS, per_stay ho (hd j (by omega)) (by omega) h1 h2 h3, perS_stay ho hd h1 h2 h3 j (by omega)]
theorem wndS_stay {o : Nat} {S : am_S} {a : Nat} (h : a ≠ o) : gI (wndS o S) a = gI S a := by
  unfold wndS
  split
  · rfl
  · rw [gI_uI_ne h]
theorem wndS_now {o : Nat} {S : am_S} {k : Nat} (h : k ≠ 2) : gI (wndS o S) o k = gI S o k := by
  unfold wndS
  split
  · rfl
  · rw [gI_uI, if_pos rfl, if_neg h]
theorem minC_stay {o n nw : Nat} {dg fz : Nat → Nat} {S : am_S} {a : Nat} (ho : 53 < o) (hd : ∀ p, p < 6 → dg p < 12) (hn : n ≤ 6) (h1 : a ≠ 5) (h2 : a < 18 ∨ 53 < a ∨ a % 3 ≠ 2) (h3 : a < o ∨ o + 5 < a) : gI (minC o n nw dg fz S) a = gI S a := by
  rw [minC, gI_uI_ne (by omega), gI_uI_ne (by omega), wndS_stay (by omega), perS_stay ho hd h1 h2 (by omega) n hn]
theorem pasC_stay {o n nw : Nat} {dg fz : Nat → Nat} {S : am_S} {a : Nat} (ho : 53 < o) (hd : ∀ p, p < 6 → dg p < 12) (hn : n ≤ 6) (h1 : a ≠ 5) (h2 : a < 18 ∨ 53 < a ∨ a % 3 ≠ 2) (h3 : a < o ∨ o + 5 < a) : ∀ i, gI (pasC o n nw dg fz S i) a = gI S a
  | 0 => rfl
  | i + 1 => by rw [pasC, minC_stay ho hd hn h1 h2 h3, pasC_stay ho hd hn h1 h2 h3 i]
theorem pasC_now {o n nw : Nat} {dg fz : Nat → Nat} {S : am_S} (h : gI S o 0 = nI nw) : ∀ i, gI (pasC o n nw dg fz S i) o 0 = nI (nw + i)
  | 0 => h
  | i + 1 => by
    rw [pasC, minC, gI_uI, if_pos rfl, if_pos rfl]
    rfl
/-- what passes want -/
def PasOk (o n nw : Nat) (dg fz : Nat → Nat) (S : am_S) : Prop := gI S 1 1 = nI n ∧ n ≤ 6 ∧ gI S o 0 = nI nw ∧ (∀ p, p < 6 → gI S 4 p = nI (dg p) ∧ dg p < 12) ∧ (∀ i, i < 12 → gI S (18 + 3 * i) 1 = nI (fz i) ∧ fz i ≤ 40)
theorem ct_X9_pass {d : Nat} {S : am_S} {o n nw m : Nat} {dg fz : Nat → Nat} (hC : ∀ T : am_S, IsC T o) (ho : 53 < o) (hP : PasOk o n nw dg fz S) (hw : nw ≤ 199) (hm : m < 2147483647) : am_CT (d + 5) iX9_pass [.ref 1, .ref o, .int (nI m)] S (none) (pasC o n nw dg fz S (min m (199 - nw))) := by
  refine am_CT_in mmX9_pass rfl rfl rfl ?_
  obtain ⟨hn, hz, hnw, hdg, hfz⟩ := hP
  have hd : ∀ p, p < 6 → dg p < 12 := fun p h => (hdg p h).2
  have hk : ∀ T : am_S, am_kn (gR T 0) o = (0, 0) := fun T => (hC T).1
  have loop : ∀ (k : Nat) (i : Nat) (v4 : Option Value) (v5 : Option Value) (v6 : Option Value), (i ≤ m ∧ nw + i ≤ 199) → (m < i + k) → am_Ex (am_Call am_MT (d + 4)) mmX9_pass none (fun r1 G1 => r1 = (none) ∧ G1 = am_H (pasC o n nw dg fz S (min m (199 - nw)))) (fun _ _ _ _ _ _ => False) 2 [some (.ref 1), some (.ref o), some (.int (nI m)), some (.int (nI i)), v4, v5, v6] [] (am_H (pasC o n nw dg fz S i)) 0 0 := by
    intro k
    induction k with
    | zero =>
      intro i v4 v5 v6 h1 h2
      omega
    | succ k ih =>
      intro i v4 v5 v6 h1 h2
      have p1 : ∀ a, a ≠ 5 → (a < 18 ∨ 53 < a ∨ a % 3 ≠ 2) → (a < o ∨ o + 5 < a) → gI (pasC o n nw dg fz S i) a = gI S a := fun a x y z => pasC_stay ho hd hz x y z i
      have pn : gI (pasC o n nw dg fz S i) o 0 = nI (nw + i) := pasC_now hnw i
      have n1 : gI (pasC o n nw dg fz S i) 1 1 = nI n := by rw [p1 1 (by omega) (by omega) (by omega), hn]
      have loop2 : ∀ (k2 : Nat) (j : Nat) (v6 : Option Value), (i < m ∧ nw + i < 199) → (j ≤ n) → (n < j + k2) → am_Ex (am_Call am_MT (d + 4)) mmX9_pass none (fun r1 G1 => r1 = (none) ∧ G1 = am_H (pasC o n nw dg fz S (min m (199 - nw)))) (fun _ _ _ _ _ _ => False) 23 [some (.ref 1), some (.ref o), some (.int (nI m)), some (.int (nI i)), some (.int (sumI (perD o n (nw + i) dg fz (pasC o n nw dg fz S i)) j)), some (.int (nI j)), v6] [] (am_H (perS o n (nw + i) dg fz (pasC o n nw dg fz S i) j)) 0 0 := by
        intro k2
        induction k2 with
        | zero =>
          intro j v6 q0 q1 q2
          omega
        | succ k2 ih2 =>
          intro j v6 q0 q1 q2
          have r1 : ∀ a, a ≠ 5 → (a < 18 ∨ 53 < a ∨ a % 3 ≠ 2) → (a < o + 2 ∨ o + 5 < a) → gI (perS o n (nw + i) dg fz (pasC o n nw dg fz S i) j) a = gI (pasC o n nw dg fz S i) a := fun a x y z => perS_stay ho hd x y z j (by omega)
          have n2 : gI (perS o n (nw + i) dg fz (pasC o n nw dg fz S i) j) 1 1 = nI n := by rw [r1 1 (by omega) (by omega) (by omega), n1]
          have n3 : gI (perS o n (nw + i) dg fz (pasC o n nw dg fz S i) j) o 0 = nI (nw + i) := by rw [r1 o (by omega) (by omega) (by omega), pn]
          have n4 : ∀ T : am_S, gI (lkS o n T j) 1 1 = gI T 1 1 := fun T => by rw [lkS, gI_rI_ne (by decide)]
          have n5 : ∀ p, p < 6 → gI (lkS o n (perS o n (nw + i) dg fz (pasC o n nw dg fz S i) j) j) 4 p = nI (dg p) := fun p hp => by rw [lkS, gI_rI_ne (by decide), r1 4 (by omega) (by omega) (by omega), p1 4 (by omega) (by omega) (by omega), (hdg p hp).1]
          have n6 : ∀ f, f < 12 → gI (lkS o n (perS o n (nw + i) dg fz (pasC o n nw dg fz S i) j) j) (18 + 3 * f) 1 = nI (fz f) := fun f hf => by rw [lkS, gI_rI_ne (by omega), r1 _ (by omega) (by omega) (by omega), p1 _ (by omega) (by omega) (by omega), (hfz f hf).1]
          have n7 : j < n → ∀ f, f < 12 → gI (ddS o n dg fz (perS o n (nw + i) dg fz (pasC o n nw dg fz S i) j) j) (18 + 3 * f) 1 = nI (fz f) := fun hj f hf => by
            rw [ddS, vS_stay (hd j (by omega)) (by omega), n6 f hf]
          have n8 : j < n → gI (spS o n dg fz (perS o n (nw + i) dg fz (pasC o n nw dg fz S i) j) j) o 0 = nI (nw + i) := fun hj => by
            rw [spS, vS_stay (by omega) (by omega), ddS, vS_stay (hd j (by omega)) (by omega), lkS, gI_rI_ne (by omega), n3]
          have n9 : j < n → ∀ q, gI (spS o n dg fz (perS o n (nw + i) dg fz (pasC o n nw dg fz S i) j) j) 5 q = lookG (perS o n (nw + i) dg fz (pasC o n nw dg fz S i) j) o n (nI j) q := fun hj q => by
            rw [spS, vS_stay (by omega) (by omega), ddS, vS_stay (hd j (by omega)) (by omega), lkS, gI_rI_eq]
          refine r_iload rfl rfl ?_
          refine r_aload_n rfl rfl ?_
          refine r_getI rfl rfl (by decide) (by decide) rfl ?_
          refine r_icmp_ge rfl (fun h29 => ?_) (fun h29 => ?_)
          · rw [n2, nI_leI (by omega) (by omega)] at h29
            have hjn : j = n := by omega
            rw [hjn] at n3 ⊢
            have n10 : gI (wndS o (perS o n (nw + i) dg fz (pasC o n nw dg fz S i) n)) o 0 = nI (nw + i) := by rw [wndS_now (by decide), n3]
            refine r_aload_n rfl rfl ?_
            refine r_iload rfl rfl ?_
            refine r_aload_n rfl rfl ?_
            refine r_aload_n rfl rfl ?_
            refine r_callV rfl (ct_X9_wind (hC _) (by omega)) rfl rfl rfl (by decide) rfl (am_cnt rfl) ?_
            refine r_iadd rfl ?_
            refine r_callV rfl (ct_X0_move (hC _) n10 (by omega)) rfl rfl (hk _) (by decide) rfl (am_cnt rfl) ?_
            refine r_iinc (L2 := [_, _, _, _, _, _, _]) rfl rfl rfl ?_
            refine r_goto rfl ?_
            rw [nI_1]
            exact ih (i + 1) _ _ _ (by omega) (by omega)
          · rw [n2, nI_leI (by omega) (by omega)] at h29
            have hj : j < n := by omega
            refine r_aload_n rfl rfl ?_
            refine r_aload_n rfl rfl ?_
            refine r_iload rfl rfl ?_
            refine r_callV rfl (ct_X9_look (hC _) (by omega) n2 hz (hasP_nI n2 hz hj)) rfl rfl rfl (by decide) rfl (am_cnt rfl) ?_
            refine r_aload_n rfl rfl ?_
            refine r_iload rfl rfl ?_
            refine r_callV rfl (ct_X9_deed (S := lkS o n (perS o n (nw + i) dg fz (pasC o n nw dg fz S i) j) j) ((n4 _).trans n2) hz hj (n5 j (by omega)) (hd j (by omega)) (n6 _ (hd j (by omega))) (hfz _ (hd j (by omega))).2) rfl rfl rfl (by decide) rfl (am_cnt rfl) ?_
            refine r_istore (L2 := [_, _, _, _, _, _, _]) rfl rfl ?_
            refine r_iload rfl rfl ?_
            refine r_iload rfl rfl ?_
            refine r_iadd rfl ?_
            refine r_istore (L2 := [_, _, _, _, _, _, _]) rfl rfl ?_
            refine r_aload_n rfl rfl ?_
            refine r_iload rfl rfl ?_
            refine r_iload rfl rfl ?_
            refine r_aload_n rfl rfl ?_
            refine r_iload rfl rfl ?_
            refine r_callV rfl (ct_X9_speech (S := ddS o n dg fz (perS o n (nw + i) dg fz (pasC o n nw dg fz S i) j) j) (by omega) (n7 hj _ (by omega)) (hfz _ (by omega)).2) rfl rfl rfl (by decide) rfl (am_cnt rfl) ?_
            refine r_aload_n rfl rfl ?_
            refine r_getC rfl rfl (by decide) (by decide) rfl ?_
            refine r_iconst rfl ?_
            refine r_iald rfl rfl (by first | decide | assumption) (by decide) (by decide) ?_
            refine r_aload_n rfl rfl ?_
            refine r_getC rfl rfl (by decide) (by decide) rfl ?_
            refine r_iconst rfl ?_
            refine r_iald rfl rfl (by first | decide | assumption) (by decide) (by decide) ?_
            refine r_callV rfl (ct_X0_note (hC _) (n8 hj) (by omega) (by omega)) rfl rfl (hk _) (by decide) rfl (am_cnt rfl) ?_
            refine r_iinc (L2 := [_, _, _, _, _, _, _]) rfl rfl rfl ?_
            refine r_goto rfl ?_
            rw [nI_1]
            have e := ih2 (j + 1) (some (.int (perD o n (nw + i) dg fz (pasC o n nw dg fz S i) j))) q0 (by omega) (by omega)
            rw [perS, perC, ← n9 hj 4, ← n9 hj 2] at e
            exact e
      refine r_iload_n rfl rfl ?_
      refine r_iload_n rfl rfl ?_
      refine r_icmp_ge rfl (fun h4 => ?_) (fun h4 => ?_)
      · rw [nI_leI (by omega) (by omega)] at h4
        obtain rfl : i = m := by omega
        rw [show min i (199 - nw) = i by omega]
        refine r_vret rfl ?_
        exact ⟨rfl, rfl⟩
      · rw [nI_leI (by omega) (by omega)] at h4
        refine r_aload_n rfl rfl ?_
        refine r_getI rfl (hk _) (by decide) (by decide) rfl ?_
        refine r_sipush rfl ?_
        refine r_icmp_ge rfl (fun h14 => ?_) (fun h14 => ?_)
        · rw [pn, show (199 : Int32) = nI 199 from rfl, nI_leI (by omega) (by omega)] at h14
          rw [show min m (199 - nw) = i by omega]
          refine r_vret rfl ?_
          exact ⟨rfl, rfl⟩
        · rw [pn, show (199 : Int32) = nI 199 from rfl, nI_leI (by omega) (by omega)] at h14
          refine r_iconst rfl ?_
          refine r_istore (L2 := [_, _, _, _, _, _, _]) rfl rfl ?_
          refine r_iconst rfl ?_
          refine r_istore (L2 := [_, _, _, _, _, _, _]) rfl rfl ?_
          exact loop2 (n + 1) 0 v6 ⟨by omega, by omega⟩ (by omega) (by omega)
  refine r_iconst rfl ?_
  refine r_istore_n (L2 := [_, _, _, _, _, _, _]) rfl rfl ?_
  exact loop (m + 1) 0 none none none (by omega) (by omega)
