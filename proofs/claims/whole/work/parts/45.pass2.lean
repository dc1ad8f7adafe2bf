/-! What each does and says; a minute of the reference's. -/
def PM (S : am_S) (lt st th : Nat → Nat) : Prop := ∀ p, p < 6 → gI S 99 p = nI (lt p) ∧ lt p ≤ 20 ∧ gI S 100 p = nI (st p) ∧ st p ≤ 20 ∧ gI S 101 p = nI (th p) ∧ th p ≤ 9
def InsOk (S : am_S) (dg : Nat → Nat) : Prop := ∀ p, p < 6 → dg p < 12 ∧ (gI S 111 p = nI (dg p) ∨ (gI S 111 p = -1 ∧ dg p = 2 * p))
def MCfg (S : am_S) (n nw : Nat) (lt st th dg : Nat → Nat) (fs : Nat → Nat → Int32) (fz : Nat → Nat) : Prop := gI S 97 3 = nI n ∧ n ≤ 6 ∧ gI S 97 23 = nI nw ∧ PM S lt st th ∧ InsOk S dg ∧ ∀ i, i < 12 → FmOk S i (fs i) (fz i) 6
def wv (cs sg : Nat → Int32) (L : Nat) : Int32 := fVal cs sg 6 (fun _ => 0) L
def FrD (S T : am_S) : Prop := (∀ o, o ≠ 106 → o ≠ 108 → gI T o = gI S o) ∧ (∀ o, gJ T o = gJ S o) ∧ ∀ c, gR T c = gR S c
theorem mcfg_fr {S T : am_S} {n nw : Nat} {lt st th dg : Nat → Nat} {fs : Nat → Nat → Int32} {fz : Nat → Nat} (h : MCfg S n nw lt st th dg fs fz) (h97 : gI T 97 3 = gI S 97 3 ∧ gI T 97 23 = gI S 97 23) (ho : ∀ o, (o = 99 ∨ o = 100 ∨ o = 101 ∨ o = 104 ∨ o = 105 ∨ o = 111) → gI T o = gI S o) : MCfg T n nw lt st th dg fs fz := by
  obtain ⟨a, b, c, e, f, g⟩ := h
  refine ⟨h97.1.trans a, b, h97.2.trans c, fun p hp => ?_, fun p hp => ?_, fun i hi => ?_⟩
  · rw [ho 99 (by decide), ho 100 (by decide), ho 101 (by decide)]
    exact e p hp
  · rw [ho 111 (by decide)]
    exact f p hp
  · unfold FmOk
    rw [ho 105 (by decide), ho 104 (by decide)]
    exact g i hi
theorem sub_lt {a b c : Nat} (ha : a ≤ 1000) (hb : b ≤ 1000) (hc : a < c) (hc2 : c ≤ 1000) : nI a - nI b < nI c := by
  have e : (nI a - nI b).toInt = (a : Int) - b := pk_sub_toInt (by omega) (by omega)
  rw [fa_lt, e, nI_toInt (by omega)]
  omega
theorem late_nI {l : Nat} (h : l ≤ 20) : lateI (nI l) = nI (max l 1) := by
  unfold lateI
  by_cases h1 : l < 1
  · rw [if_pos (show nI l < 1 from nI_lt (b := 1) h1 (by omega)), Nat.max_eq_right (by omega)]
    rfl
  · rw [if_neg (show ¬ nI l < 1 from nI_nlt (b := 1) (by omega) (by omega)), Nat.max_eq_left (by omega)]
theorem ct_X11_doesNow_deed {d : Nat} {S : am_S} {n nw p : Nat} {lt st th dg : Nat → Nat} {fs : Nat → Nat → Int32} {fz : Nat → Nat} (hC : MCfg S n nw lt st th dg fs fz) (hw : nw ≤ 199) (hp : p < 6) : am_CE (d + 5) iX11_doesNow [.ref 97, .int (nI p), .int 0, .int (nI nw)] S (some (.int (fPut (wv (fs (dg p)) (mLook S n p (nI nw)) (fz (dg p))) 9))) (fun T => FrD S T ∧ gI T 108 = mLook S n p (nI nw)) := by
  refine am_CE_in mmX11_doesNow rfl rfl rfl ?_
  obtain ⟨hn, hz, hnw, hpm, hin, hfm⟩ := hC
  obtain ⟨p1, p2, p3, p4, p5, p6⟩ := hpm p hp
  obtain ⟨d1, d2⟩ := hin p hp
  have bp : (nI p).toNatClampNeg = p := nI_clamp (by omega)
  have s1 : 0 ≤ nI p := nI_pos' (by omega)
  have s2 : nI p < Int32.ofNat 6 := nI_lt (by omega) (by omega)
  have m1 : nI nw < 200 := nI_lt (b := 200) (by omega) (by omega)
  have m2 : nI nw - gI S 100 p < 201 := by rw [p3]; exact sub_lt (c := 201) (by omega) (by omega) (by omega) (by omega)
  have m3 : nI nw - gI S 100 p - 1 < 201 := by
    rw [p3, show nI nw - nI (st p) - 1 = nI nw - nI (st p + 1) by rw [← nI_1]; grind]
    exact sub_lt (c := 201) (by omega) (by omega) (by omega) (by omega)
  have m4 : nI nw - lateI (gI S 99 p) < 200 := by rw [p1, late_nI p2]; exact sub_lt (c := 200) (by omega) (by omega) (by omega) (by omega)
  have m5 : nI nw - 1 < 200 := sub_lt (b := 1) (c := 200) (by omega) (by omega) (by omega) (by omega)
  have ff : FmOk (rI S 108 (mLook S n p (nI nw))) (dg p) (fs (dg p)) (fz (dg p)) 6 := by
    have := hfm (dg p) d1
    unfold FmOk at this ⊢
    rw [gI_rI_ne (by decide), gI_rI_ne (by decide)]
    exact this
  have i1 : gI (rI S 108 (mLook S n p (nI nw))) 111 (nI p).toNatClampNeg = gI S 111 p := by rw [bp, gI_rI_ne (by decide)]
  have b2 : 2 * nI p = nI (2 * p) := by rw [Int32.mul_comm, show nI p * 2 = nI (p * 2) from pk_mul p 2, Nat.mul_comm]
  have w9 : (0 : Int32) ≤ 9 := by decide
  have wf := (hfm (dg p) d1).2.2
  have fin : fVal (fs (dg p)) (gI (rI S 108 (mLook S n p (nI nw))) 108) 6 (gI (rI S 108 (mLook S n p (nI nw))) 106) (fz (dg p)) = wv (fs (dg p)) (mLook S n p (nI nw)) (fz (dg p)) := by
    rw [gI_rI_eq]
    exact fVal_ind wf (fun _ _ => rfl) (by omega)
  have wk : ∀ {d : Nat}, am_CT (d + 3) iX11_worked [.ref 97, .int (nI (dg p))] (rI S 108 (mLook S n p (nI nw))) (some (.int (wv (fs (dg p)) (mLook S n p (nI nw)) (fz (dg p))))) (rI (rI S 108 (mLook S n p (nI nw))) 106 (fEv (fs (dg p)) (gI (rI S 108 (mLook S n p (nI nw))) 108) 6 (gI (rI S 108 (mLook S n p (nI nw))) 106) (fz (dg p))).1) := fun {d} => by
    have e := ct_X11_worked (d := d) (by omega) ff (by omega)
    rw [fin] at e
    exact e
  have fr : ∀ g, FrD S (rI (rI S 108 (mLook S n p (nI nw))) 106 g) ∧ gI (rI (rI S 108 (mLook S n p (nI nw))) 106 g) 108 = mLook S n p (nI nw) := fun g => ⟨⟨fun o a b => by rw [gI_rI_ne a, gI_rI_ne b], fun _ => rfl, fun _ => rfl⟩, by rw [gI_rI_ne (by decide), gI_rI_eq]⟩
  rcases d2 with d2 | ⟨d2, d3⟩
  · have w1 : ¬ gI S 111 p < 0 := by rw [d2]; exact nI_pos (by omega)
    refine r_aload_n rfl rfl ?_
    refine r_iload_n rfl rfl ?_
    refine r_iload_n rfl rfl ?_
    refine r_callV rfl (ct_X11_looks hn hz hp m1 m2 m3 m4 m5) rfl rfl rfl (by decide) rfl (am_cnt rfl) ?_
    refine r_iload_n rfl rfl ?_
    refine r_iconst rfl ?_
    refine r_icmp_ne rfl (fun h8 => ?_) (fun h8 => ?_)
    · refine r_aload_n rfl rfl ?_
      refine r_aload_n rfl rfl ?_
      refine r_getC rfl rfl (by decide) (by decide) rfl ?_
      refine r_iload_n rfl rfl ?_
      refine r_iald rfl rfl (by first | decide | assumption) (by first | exact s1 | exact s2) (by first | exact s1 | exact s2) ?_
      rw [i1]
      refine r_if_lt rfl (fun h33 => ?_) (fun h33 => ?_)
      · exact absurd h33 w1
      · refine r_aload_n rfl rfl ?_
        refine r_getC rfl rfl (by decide) (by decide) rfl ?_
        refine r_iload_n rfl rfl ?_
        refine r_iald rfl rfl (by first | decide | assumption) (by first | exact s1 | exact s2) (by first | exact s1 | exact s2) ?_
        rw [i1, d2]
        refine r_goto rfl ?_
        refine r_callV rfl wk rfl rfl rfl (by decide) rfl (am_cnt rfl) ?_
        refine r_bipush rfl ?_
        refine r_callS rfl (by decide) (ct_X11_put w9) rfl rfl (am_cnt rfl) ?_
        refine r_iret rfl rfl ?_
        exact ⟨rfl, _, rfl, fr _⟩
    · first | exact absurd h8 (by decide) | exact absurd (by decide) h8
  · have w1 : gI S 111 p < 0 := by rw [d2]; decide
    refine r_aload_n rfl rfl ?_
    refine r_iload_n rfl rfl ?_
    refine r_iload_n rfl rfl ?_
    refine r_callV rfl (ct_X11_looks hn hz hp m1 m2 m3 m4 m5) rfl rfl rfl (by decide) rfl (am_cnt rfl) ?_
    refine r_iload_n rfl rfl ?_
    refine r_iconst rfl ?_
    refine r_icmp_ne rfl (fun h8 => ?_) (fun h8 => ?_)
    · refine r_aload_n rfl rfl ?_
      refine r_aload_n rfl rfl ?_
      refine r_getC rfl rfl (by decide) (by decide) rfl ?_
      refine r_iload_n rfl rfl ?_
      refine r_iald rfl rfl (by first | decide | assumption) (by first | exact s1 | exact s2) (by first | exact s1 | exact s2) ?_
      rw [i1]
      refine r_if_lt rfl (fun h33 => ?_) (fun h33 => ?_)
      · refine r_iconst rfl ?_
        refine r_iload_n rfl rfl ?_
        refine r_imul rfl ?_
        rw [b2, ← d3]
        refine r_callV rfl wk rfl rfl rfl (by decide) rfl (am_cnt rfl) ?_
        refine r_bipush rfl ?_
        refine r_callS rfl (by decide) (ct_X11_put w9) rfl rfl (am_cnt rfl) ?_
        refine r_iret rfl rfl ?_
        exact ⟨rfl, _, rfl, fr _⟩
      · exact absurd w1 h33
    · first | exact absurd h8 (by decide) | exact absurd (by decide) h8
theorem ct_X11_doesNow_word {d : Nat} {S : am_S} {n nw p : Nat} {lt st th dg : Nat → Nat} {fs : Nat → Nat → Int32} {fz : Nat → Nat} (hC : MCfg S n nw lt st th dg fs fz) (hw : nw ≤ 199) (hp : p < 6) : am_CE (d + 5) iX11_doesNow [.ref 97, .int (nI p), .int 1, .int (nI nw)] S (some (.int (fPut (wv (fs (2 * p + 1)) (mLook S n p (nI nw)) (fz (2 * p + 1))) 99))) (fun T => FrD S T ∧ gI T 108 = mLook S n p (nI nw)) := by
  refine am_CE_in mmX11_doesNow rfl rfl rfl ?_
  obtain ⟨hn, hz, hnw, hpm, hin, hfm⟩ := hC
  obtain ⟨p1, p2, p3, p4, p5, p6⟩ := hpm p hp
  have s1 : 0 ≤ nI p := nI_pos' (by omega)
  have s2 : nI p < Int32.ofNat 6 := nI_lt (by omega) (by omega)
  have m1 : nI nw < 200 := nI_lt (b := 200) (by omega) (by omega)
  have m2 : nI nw - gI S 100 p < 201 := by rw [p3]; exact sub_lt (c := 201) (by omega) (by omega) (by omega) (by omega)
  have m3 : nI nw - gI S 100 p - 1 < 201 := by
    rw [p3, show nI nw - nI (st p) - 1 = nI nw - nI (st p + 1) by rw [← nI_1]; grind]
    exact sub_lt (c := 201) (by omega) (by omega) (by omega) (by omega)
  have m4 : nI nw - lateI (gI S 99 p) < 200 := by rw [p1, late_nI p2]; exact sub_lt (c := 200) (by omega) (by omega) (by omega) (by omega)
  have m5 : nI nw - 1 < 200 := sub_lt (b := 1) (c := 200) (by omega) (by omega) (by omega) (by omega)
  have ff : FmOk (rI S 108 (mLook S n p (nI nw))) (2 * p + 1) (fs (2 * p + 1)) (fz (2 * p + 1)) 6 := by
    have := hfm (2 * p + 1) (by omega)
    unfold FmOk at this ⊢
    rw [gI_rI_ne (by decide), gI_rI_ne (by decide)]
    exact this
  have b2 : 2 * nI p + 1 = nI (2 * p + 1) := by rw [Int32.mul_comm, show nI p * 2 = nI (p * 2) from pk_mul p 2, nI_1, Nat.mul_comm]
  have w9 : (0 : Int32) ≤ 99 := by decide
  have wf := (hfm (2 * p + 1) (by omega)).2.2
  have fin : fVal (fs (2 * p + 1)) (gI (rI S 108 (mLook S n p (nI nw))) 108) 6 (gI (rI S 108 (mLook S n p (nI nw))) 106) (fz (2 * p + 1)) = wv (fs (2 * p + 1)) (mLook S n p (nI nw)) (fz (2 * p + 1)) := by
    rw [gI_rI_eq]
    exact fVal_ind wf (fun _ _ => rfl) (by omega)
  have wk : ∀ {d : Nat}, am_CT (d + 3) iX11_worked [.ref 97, .int (nI (2 * p + 1))] (rI S 108 (mLook S n p (nI nw))) (some (.int (wv (fs (2 * p + 1)) (mLook S n p (nI nw)) (fz (2 * p + 1))))) (rI (rI S 108 (mLook S n p (nI nw))) 106 (fEv (fs (2 * p + 1)) (gI (rI S 108 (mLook S n p (nI nw))) 108) 6 (gI (rI S 108 (mLook S n p (nI nw))) 106) (fz (2 * p + 1))).1) := fun {d} => by
    have e := ct_X11_worked (d := d) (by omega) ff (by omega)
    rw [fin] at e
    exact e
  have fr : ∀ g, FrD S (rI (rI S 108 (mLook S n p (nI nw))) 106 g) ∧ gI (rI (rI S 108 (mLook S n p (nI nw))) 106 g) 108 = mLook S n p (nI nw) := fun g => ⟨⟨fun o a b => by rw [gI_rI_ne a, gI_rI_ne b], fun _ => rfl, fun _ => rfl⟩, by rw [gI_rI_ne (by decide), gI_rI_eq]⟩
  refine r_aload_n rfl rfl ?_
  refine r_iload_n rfl rfl ?_
  refine r_iload_n rfl rfl ?_
  refine r_callV rfl (ct_X11_looks hn hz hp m1 m2 m3 m4 m5) rfl rfl rfl (by decide) rfl (am_cnt rfl) ?_
  refine r_iload_n rfl rfl ?_
  refine r_iconst rfl ?_
  refine r_icmp_ne rfl (fun h8 => ?_) (fun h8 => ?_)
  · first | exact absurd h8 (by decide) | exact absurd (by decide) h8
  · refine r_aload_n rfl rfl ?_
    refine r_iconst rfl ?_
    refine r_iload_n rfl rfl ?_
    refine r_imul rfl ?_
    refine r_iconst rfl ?_
    refine r_iadd rfl ?_
    rw [b2]
    refine r_callV rfl wk rfl rfl rfl (by decide) rfl (am_cnt rfl) ?_
    refine r_bipush rfl ?_
    refine r_callS rfl (by decide) (ct_X11_put w9) rfl rfl (am_cnt rfl) ?_
    refine r_iret rfl rfl ?_
    exact ⟨rfl, _, rfl, fr _⟩
theorem ct_X11_draws {d : Nat} {S : am_S} : am_CT (d + 1) iX11_draws [.ref 97, .int 10] S (some (.int (tenI (drawI (gI S 97 24))))) (uI S 97 24 (drawI (gI S 97 24))) := by
  refine am_CT_in mmX11_draws rfl rfl rfl ?_
  refine r_aload_n rfl rfl ?_
  refine r_aload_n rfl rfl ?_
  refine r_getI rfl rfl (by decide) (by decide) rfl ?_
  refine r_ldc rfl ?_
  refine r_imul rfl ?_
  refine r_sipush rfl ?_
  refine r_iadd rfl ?_
  refine r_putI rfl rfl (by decide) (by decide) rfl ?_
  refine r_aload_n rfl rfl ?_
  refine r_getI rfl rfl (by decide) (by decide) rfl ?_
  refine r_bipush rfl ?_
  refine r_iushr rfl ?_
  refine r_iload_n rfl rfl ?_
  refine r_irem rfl (by decide) ?_
  refine r_iret rfl rfl ?_
  refine ⟨?_, rfl⟩
  rw [gI_uI, if_pos rfl, if_pos rfl]
  rfl
def blwS (S : am_S) : am_S := if gI S 97 11 = 0 ∧ gI S 97 12 = 0 then S else uI S 97 24 (drawI (gI S 97 24))
def blwV (S : am_S) : Int32 := if gI S 97 11 = 0 ∧ gI S 97 12 = 0 then 0 else if tenI (drawI (gI S 97 24)) < gI S 97 11 then -1 else if 10 - gI S 97 12 ≤ tenI (drawI (gI S 97 24)) then 1 else 0
theorem ct_X11_blows {d : Nat} {S : am_S} : am_CT (d + 2) iX11_blows [.ref 97] S (some (.int (blwV S))) (blwS S) := by
  refine am_CT_in mmX11_blows rfl rfl rfl ?_
  have q1 : gI (uI S 97 24 (drawI (gI S 97 24))) 97 11 = gI S 97 11 := by rw [gI_uI, if_pos rfl, if_neg (by decide)]
  have q2 : gI (uI S 97 24 (drawI (gI S 97 24))) 97 12 = gI S 97 12 := by rw [gI_uI, if_pos rfl, if_neg (by decide)]
  by_cases hz : gI S 97 11 = 0 ∧ gI S 97 12 = 0
  · have e1 : blwV S = 0 := if_pos hz
    have e2 : blwS S = S := if_pos hz
    rw [e1, e2]
    refine r_aload_n rfl rfl ?_
    refine r_getI rfl rfl (by decide) (by decide) rfl ?_
    refine r_if_ne rfl (fun h4 => ?_) (fun h4 => ?_)
    · exact absurd hz.1 h4
    · refine r_aload_n rfl rfl ?_
      refine r_getI rfl rfl (by decide) (by decide) rfl ?_
      refine r_if_ne rfl (fun h11 => ?_) (fun h11 => ?_)
      · exact absurd hz.2 h11
      · refine r_iconst rfl ?_
        refine r_iret rfl rfl ?_
        exact ⟨rfl, rfl⟩
  · have e1 : blwV S = if tenI (drawI (gI S 97 24)) < gI S 97 11 then -1 else if 10 - gI S 97 12 ≤ tenI (drawI (gI S 97 24)) then 1 else 0 := if_neg hz
    have e2 : blwS S = uI S 97 24 (drawI (gI S 97 24)) := if_neg hz
    rw [e1, e2]
    refine r_aload_n rfl rfl ?_
    refine r_getI rfl rfl (by decide) (by decide) rfl ?_
    refine r_if_ne rfl (fun h4 => ?_) (fun h4 => ?_)
    · refine r_aload_n rfl rfl ?_
      refine r_bipush rfl ?_
      refine r_callV rfl ct_X11_draws rfl rfl rfl (by decide) rfl (am_cnt rfl) ?_
      refine r_istore_n (L2 := [_, _]) rfl rfl ?_
      refine r_iload_n rfl rfl ?_
      skip
      refine r_aload_n rfl rfl ?_
      refine r_getI rfl rfl (by decide) (by decide) rfl ?_
      refine r_icmp_ge rfl (fun h28 => ?_) (fun h28 => ?_)
      · rw [q1] at h28
        rw [if_neg (Int32.not_lt.mpr h28)]
        refine r_iload_n rfl rfl ?_
        refine r_bipush rfl ?_
        refine r_aload_n rfl rfl ?_
        refine r_getI rfl rfl (by decide) (by decide) rfl ?_
        refine r_isub rfl ?_
        refine r_icmp_lt rfl (fun h43 => ?_) (fun h43 => ?_)
        · rw [q2] at h43
          rw [if_neg (Int32.not_le.mpr h43)]
          refine r_iconst rfl ?_
          refine r_callS rfl (by decide) (ct_X11_flag (by simp)) rfl rfl (am_cnt rfl) ?_
          refine r_iret rfl rfl ?_
          exact ⟨rfl, rfl⟩
        · rw [q2] at h43
          rw [if_pos (Int32.not_lt.mp h43)]
          refine r_iconst rfl ?_
          refine r_goto rfl ?_
          refine r_callS rfl (by decide) (ct_X11_flag (by simp)) rfl rfl (am_cnt rfl) ?_
          refine r_iret rfl rfl ?_
          exact ⟨rfl, rfl⟩
      · rw [q1] at h28
        rw [if_pos (Int32.not_le.mp h28)]
        refine r_iconst rfl ?_
        refine r_goto rfl ?_
        refine r_iret rfl rfl ?_
        exact ⟨rfl, rfl⟩
    · refine r_aload_n rfl rfl ?_
      refine r_getI rfl rfl (by decide) (by decide) rfl ?_
      refine r_if_ne rfl (fun h11 => ?_) (fun h11 => ?_)
      · refine r_aload_n rfl rfl ?_
        refine r_bipush rfl ?_
        refine r_callV rfl ct_X11_draws rfl rfl rfl (by decide) rfl (am_cnt rfl) ?_
        refine r_istore_n (L2 := [_, _]) rfl rfl ?_
        refine r_iload_n rfl rfl ?_
        skip
        refine r_aload_n rfl rfl ?_
        refine r_getI rfl rfl (by decide) (by decide) rfl ?_
        refine r_icmp_ge rfl (fun h28 => ?_) (fun h28 => ?_)
        · rw [q1] at h28
          rw [if_neg (Int32.not_lt.mpr h28)]
          refine r_iload_n rfl rfl ?_
          refine r_bipush rfl ?_
          refine r_aload_n rfl rfl ?_
          refine r_getI rfl rfl (by decide) (by decide) rfl ?_
          refine r_isub rfl ?_
          refine r_icmp_lt rfl (fun h43 => ?_) (fun h43 => ?_)
          · rw [q2] at h43
            rw [if_neg (Int32.not_le.mpr h43)]
            refine r_iconst rfl ?_
            refine r_callS rfl (by decide) (ct_X11_flag (by simp)) rfl rfl (am_cnt rfl) ?_
            refine r_iret rfl rfl ?_
            exact ⟨rfl, rfl⟩
          · rw [q2] at h43
            rw [if_pos (Int32.not_lt.mp h43)]
            refine r_iconst rfl ?_
            refine r_goto rfl ?_
            refine r_callS rfl (by decide) (ct_X11_flag (by simp)) rfl rfl (am_cnt rfl) ?_
            refine r_iret rfl rfl ?_
            exact ⟨rfl, rfl⟩
        · rw [q1] at h28
          rw [if_pos (Int32.not_le.mp h28)]
          refine r_iconst rfl ?_
          refine r_goto rfl ?_
          refine r_iret rfl rfl ?_
          exact ⟨rfl, rfl⟩
      · exact absurd ⟨h4, h11⟩ hz
