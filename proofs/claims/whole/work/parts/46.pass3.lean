/-! A whole minute; what went by. -/
abbrev sgM (S : am_S) (n p nw : Nat) : Nat → Int32 := mLook S n p (nI nw)
def doM (S : am_S) (n nw : Nat) (dg : Nat → Nat) (fs : Nat → Nat → Int32) (fz : Nat → Nat) (p : Nat) : Int32 := fPut (wv (fs (dg p)) (sgM S n p nw) (fz (dg p))) 9
def spM (S : am_S) (n nw : Nat) (fs : Nat → Nat → Int32) (fz : Nat → Nat) (p : Nat) : Int32 := fPut (wv (fs (2 * p + 1)) (sgM S n p nw) (fz (2 * p + 1))) 99
def pG (S : am_S) (n nw : Nat) (dg : Nat → Nat) (fs : Nat → Nat → Int32) (fz : Nat → Nat) : Nat → (Nat → Int32)
  | 0 => gI S 110
  | p + 1 => upd (upd (upd (upd (pG S n nw dg fs fz p) (gAt 0 p nw) (doM S n nw dg fs fz p)) (gAt 1 p nw) (spM S n nw fs fz p)) (gAt 2 p nw) (sgM S n p nw 4)) (gAt 3 p nw) (sgM S n p nw 2)
theorem gAt_ne {k p m k2 p2 m2 : Nat} (hm : m < 200) (hm2 : m2 < 200) (h : m ≠ m2) : gAt k p m ≠ gAt k2 p2 m2 := by
  unfold gAt
  omega
theorem gAt_inj {k p m k2 p2 m2 : Nat} (hp : p < 6) (hp2 : p2 < 6) (hm : m < 200) (hm2 : m2 < 200) (h : k ≠ k2 ∨ p ≠ p2 ∨ m ≠ m2) : gAt k p m ≠ gAt k2 p2 m2 := by
  unfold gAt
  omega
theorem pG_ne {S : am_S} {n nw : Nat} {dg : Nat → Nat} {fs : Nat → Nat → Int32} {fz : Nat → Nat} {k q m : Nat} (hw : nw < 200) (hm : m < 200) (h : m ≠ nw) : ∀ j, pG S n nw dg fs fz j (gAt k q m) = gI S 110 (gAt k q m)
  | 0 => rfl
  | j + 1 => by rw [pG, pk_un (gAt_ne hm hw h), pk_un (gAt_ne hm hw h), pk_un (gAt_ne hm hw h), pk_un (gAt_ne hm hw h), pG_ne hw hm h j]
theorem pG_hi {S : am_S} {n nw : Nat} {dg : Nat → Nat} {fs : Nat → Nat → Int32} {fz : Nat → Nat} {k q m : Nat} (hw : nw < 200) (hm : m < 200) (hq6 : q < 6) : ∀ j, j ≤ q → pG S n nw dg fs fz j (gAt k q m) = gI S 110 (gAt k q m)
  | 0, _ => rfl
  | j + 1, hj => by rw [pG, pk_un (gAt_inj hq6 (by omega) hm hw (by omega)), pk_un (gAt_inj hq6 (by omega) hm hw (by omega)), pk_un (gAt_inj hq6 (by omega) hm hw (by omega)), pk_un (gAt_inj hq6 (by omega) hm hw (by omega)), pG_hi hw hm hq6 j (by omega)]
theorem pG_at {S : am_S} {n nw : Nat} {dg : Nat → Nat} {fs : Nat → Nat → Int32} {fz : Nat → Nat} {q : Nat} (hw : nw < 200) : ∀ j, q < j → j ≤ 6 → pG S n nw dg fs fz j (gAt 0 q nw) = doM S n nw dg fs fz q ∧ pG S n nw dg fs fz j (gAt 1 q nw) = spM S n nw fs fz q ∧ pG S n nw dg fs fz j (gAt 2 q nw) = sgM S n q nw 4 ∧ pG S n nw dg fs fz j (gAt 3 q nw) = sgM S n q nw 2
  | j + 1, hj, h6 => by
    have ne : ∀ k k2 p2, p2 < 6 → (k ≠ k2 ∨ q ≠ p2) → gAt k q nw ≠ gAt k2 p2 nw := fun k k2 p2 h2 h => gAt_inj (by omega) h2 hw hw (by omega)
    by_cases hq : q = j
    · subst hq
      rw [pG]
      refine ⟨?_, ?_, ?_, ?_⟩
      · rw [pk_un (ne 0 3 q (by omega) (by omega)), pk_un (ne 0 2 q (by omega) (by omega)), pk_un (ne 0 1 q (by omega) (by omega)), pk_us]
      · rw [pk_un (ne 1 3 q (by omega) (by omega)), pk_un (ne 1 2 q (by omega) (by omega)), pk_us]
      · rw [pk_un (ne 2 3 q (by omega) (by omega)), pk_us]
      · rw [pk_us]
    · obtain ⟨a, b, c, e⟩ := pG_at (S := S) (n := n) (dg := dg) (fs := fs) (fz := fz) hw j (show q < j by omega) (by omega)
      rw [pG]
      refine ⟨?_, ?_, ?_, ?_⟩
      · rw [pk_un (ne 0 3 j (by omega) (by omega)), pk_un (ne 0 2 j (by omega) (by omega)), pk_un (ne 0 1 j (by omega) (by omega)), pk_un (ne 0 0 j (by omega) (by omega)), a]
      · rw [pk_un (ne 1 3 j (by omega) (by omega)), pk_un (ne 1 2 j (by omega) (by omega)), pk_un (ne 1 1 j (by omega) (by omega)), pk_un (ne 1 0 j (by omega) (by omega)), b]
      · rw [pk_un (ne 2 3 j (by omega) (by omega)), pk_un (ne 2 2 j (by omega) (by omega)), pk_un (ne 2 1 j (by omega) (by omega)), pk_un (ne 2 0 j (by omega) (by omega)), c]
      · rw [pk_un (ne 3 3 j (by omega) (by omega)), pk_un (ne 3 2 j (by omega) (by omega)), pk_un (ne 3 1 j (by omega) (by omega)), pk_un (ne 3 0 j (by omega) (by omega)), e]
/-- what is seen doesn't hang on what is noted now -/
theorem mWas_same {S T : am_S} {nw k q : Nat} {m : Int32} (hg : ∀ k q m, m < nw → gI T 110 (gAt k q m) = gI S 110 (gAt k q m)) (hm : m < nI nw) (hw : nw < 200) : mWas T k q m = mWas S k q m := by
  unfold mWas
  by_cases h : m < 0
  · rw [if_pos h, if_pos h]
  · rw [if_neg h, if_neg h]
    exact hg k q _ (cl_lt (Int32.not_lt.mp h) (show m < Int32.ofNat nw from hm) (by omega))
theorem mHear_same {S T : am_S} {nw : Nat} {nr sd : Int32} (hg : ∀ k q m, m < nw → gI T 110 (gAt k q m) = gI S 110 (gAt k q m)) (hm : sd < nI nw) (hw : nw < 200) : ∀ n, mHear T nr sd n = mHear S nr sd n
  | 0 => rfl
  | n + 1 => by
    unfold mHear
    rw [mHear_same hg hm hw n, mWas_same hg hm hw]
theorem look_same {S T : am_S} {n nw p : Nat} {l : Nat} (hg : ∀ k q m, m < nw → gI T 110 (gAt k q m) = gI S 110 (gAt k q m)) (hw : nw < 200) (hl : gI S 99 p = nI l) (hl2 : l ≤ 20) (h0 : ∀ o, (o = 99 ∨ o = 100 ∨ o = 102 ∨ o = 109) → gI T o = gI S o) (h97 : gI T 97 9 = gI S 97 9 ∧ gI T 97 10 = gI S 97 10) (i : Nat) (hi : i < 6) : mLook T n p (nI nw) i = mLook S n p (nI nw) i := by
  have e1 : ∀ m, mPlace T m = mPlace S m := fun m => by unfold mPlace; rw [h97.1, h0 109 (by decide)]
  have e2 : mHear T (gI T 102 p) (nI nw - lateI (gI T 99 p)) n = mHear S (gI S 102 p) (nI nw - lateI (gI S 99 p)) n := by
    rw [h0 102 (by decide), h0 99 (by decide)]
    refine mHear_same hg ?_ hw n
    rw [hl, late_nI hl2]
    have e : (nI nw - nI (max l 1)).toInt = (nw : Int) - (max l 1 : Nat) := pk_sub_toInt (by omega) (by omega)
    rw [fa_lt, e, nI_toInt (by omega)]
    omega
  have e3 : mWas T 0 p (nI nw - 1) = mWas S 0 p (nI nw - 1) := by
    refine mWas_same hg ?_ hw
    have e : (nI nw - 1).toInt = (nw : Int) - (1 : Nat) := pk_sub_toInt (b := 1) (by omega) (by omega)
    rw [fa_lt, e, nI_toInt (by omega)]
    omega
  unfold mLook
  rw [e1, e1, e2, e3, h97.2, h0 100 (by decide)]
  match i, hi with
  | 0, _ => rfl
  | 1, _ => rfl
  | 2, _ => rfl
  | 3, _ => rfl
  | 4, _ => rfl
  | 5, _ => rfl
theorem wv_congr {cs sg sg2 : Nat → Int32} {L : Nat} (h : WF 6 cs L) (hs : ∀ i, i < 6 → sg i = sg2 i) : wv cs sg L = wv cs sg2 L := fVal_ind h hs (by omega)
def FrP (S T : am_S) : Prop := (∀ o, o ≠ 97 → o ≠ 106 → o ≠ 108 → o ≠ 109 → o ≠ 110 → gI T o = gI S o) ∧ (∀ k, k ≠ 23 → k ≠ 24 → gI T 97 k = gI S 97 k) ∧ (∀ o, gJ T o = gJ S o) ∧ ∀ c, gR T c = gR S c
theorem blwS_97 {S : am_S} {k : Nat} (h : k ≠ 24) : gI (blwS S) 97 k = gI S 97 k := by
  unfold blwS
  split
  · rfl
  · rw [gI_uI, if_pos rfl, if_neg h]
theorem blwS_o {S : am_S} {o : Nat} (h : o ≠ 97) : gI (blwS S) o = gI S o := by
  unfold blwS
  split
  · rfl
  · rw [gI_uI_ne h]
theorem blwS_J {S : am_S} {o : Nat} : gJ (blwS S) o = gJ S o := by
  unfold blwS
  split <;> rfl
theorem blwS_R {S : am_S} {c : Nat} : gR (blwS S) c = gR S c := by
  unfold blwS
  split <;> rfl
def rndM (S : am_S) : Int32 := gI (blwS S) 97 24
theorem blw_same {S T : am_S} (h : ∀ k, gI T 97 k = gI S 97 k) : blwV T = blwV S ∧ rndM T = rndM S := by
  unfold rndM blwS blwV
  simp only [h]
  refine ⟨trivial, ?_⟩
  split
  · exact h 24
  · simp [gI_uI]
theorem ct_X11_passes {d : Nat} {S : am_S} {n nw : Nat} {lt st th dg : Nat → Nat} {fs : Nat → Nat → Int32} {fz : Nat → Nat} (hC : MCfg S n nw lt st th dg fs fz) (hw : nw < 199) : am_CE (d + 6) iX11_passes [.ref 97] S (none) (fun T => FrP S T ∧ gI T 97 23 = nI (nw + 1) ∧ gI T 97 24 = rndM S ∧ gI T 109 = upd (gI S 109) (nw + 1) (fPut (gI S 109 nw + (sumI (doM S n nw dg fs fz) n + blwV S)) 999) ∧ gI T 110 = pG S n nw dg fs fz n) := by
  refine am_CE_in mmX11_passes rfl rfl rfl ?_
  have hn := hC.1
  have hz := hC.2.1
  have hnw := hC.2.2.1
  have hpm := hC.2.2.2.1
  have bw : (nI nw).toNatClampNeg = nw := nI_clamp (by omega)
  have bw1 : (nI (nw + 1)).toNatClampNeg = nw + 1 := nI_clamp (by omega)
  have t1 : 0 ≤ nI nw := nI_pos' (by omega)
  have t2 : nI nw < Int32.ofNat 201 := nI_lt (by omega) (by omega)
  have t3 : 0 ≤ nI (nw + 1) := nI_pos' (by omega)
  have t4 : nI (nw + 1) < Int32.ofNat 201 := nI_lt (by omega) (by omega)
  have w999 : (0 : Int32) ≤ 999 := by decide
  have loop : ∀ (k : Nat) (j : Nat) (T : am_S) (v3 : Option Value), (j ≤ n) → (n < j + k) → (∀ o, o ≠ 106 → o ≠ 108 → o ≠ 110 → gI T o = gI S o) → (∀ o, gJ T o = gJ S o) → (∀ c, gR T c = gR S c) → (gI T 110 = pG S n nw dg fs fz j) → am_Ex (am_Call am_MT (d + 5)) mmX11_passes none (fun r1 G1 => r1 = (none) ∧ ∃ S2, G1 = am_H S2 ∧ (fun T => FrP S T ∧ gI T 97 23 = nI (nw + 1) ∧ gI T 97 24 = rndM S ∧ gI T 109 = upd (gI S 109) (nw + 1) (fPut (gI S 109 nw + (sumI (doM S n nw dg fs fz) n + blwV S)) 999) ∧ gI T 110 = pG S n nw dg fs fz n) S2) (fun _ _ _ _ _ _ => False) 4 [some (.ref 97), some (.int (sumI (doM S n nw dg fs fz) j)), some (.int (nI j)), v3] [] (am_H (T)) 0 0 := by
    intro k
    induction k with
    | zero =>
      intro j T v3 q1 q2 f1 f2 f3 f4
      omega
    | succ k ih =>
      intro j T v3 q1 q2 f1 f2 f3 f4
      have n3 : gI T 97 3 = nI n := by rw [f1 97 (by decide) (by decide) (by decide), hn]
      have n23 : gI T 97 23 = nI nw := by rw [f1 97 (by decide) (by decide) (by decide), hnw]
      by_cases hj : j = n
      · have w1 : nI n ≤ nI j := nI_le (by omega) (by omega)
        have bs := blw_same (S := S) (T := T) (fun k => by rw [f1 97 (by decide) (by decide) (by decide)])
        have b23 : gI (blwS T) 97 23 = nI nw := by rw [blwS_97 (by decide), n23]
        have g109 : gI T 109 = gI S 109 := f1 109 (by decide) (by decide) (by decide)
        have fin : ∀ x : Int32, x = gI S 109 nw + (sumI (doM S n nw dg fs fz) n + blwV S) → FrP S (uI (uI (blwS T) 109 (nw + 1) (fPut x 999)) 97 23 (nI (nw + 1))) ∧ gI (uI (uI (blwS T) 109 (nw + 1) (fPut x 999)) 97 23 (nI (nw + 1))) 97 23 = nI (nw + 1) ∧ gI (uI (uI (blwS T) 109 (nw + 1) (fPut x 999)) 97 23 (nI (nw + 1))) 97 24 = rndM S ∧ gI (uI (uI (blwS T) 109 (nw + 1) (fPut x 999)) 97 23 (nI (nw + 1))) 109 = upd (gI S 109) (nw + 1) (fPut (gI S 109 nw + (sumI (doM S n nw dg fs fz) n + blwV S)) 999) ∧ gI (uI (uI (blwS T) 109 (nw + 1) (fPut x 999)) 97 23 (nI (nw + 1))) 110 = pG S n nw dg fs fz n := fun x hx => by
          refine ⟨⟨fun o a b c e f => ?_, fun k a b => ?_, fun o => ?_, fun c => ?_⟩, ?_, ?_, ?_, ?_⟩
          · rw [gI_uI_ne a, gI_uI_ne e, blwS_o a, f1 o b c f]
          · rw [gI_uI, if_pos rfl, if_neg a, gI_uI_ne (by decide), blwS_97 b, f1 97 (by decide) (by decide) (by decide)]
          · rw [gJ_uI_f, gJ_uI_f, blwS_J, f2]
          · rw [gR_uI, gR_uI, blwS_R, f3]
          · rw [gI_uI, if_pos rfl, if_pos rfl]
          · rw [gI_uI, if_pos rfl, if_neg (by decide), gI_uI_ne (by decide)]
            exact bs.2
          · rw [gI_uI_ne (by decide), gI_uI_eq, blwS_o (by decide), g109, hx]
          · rw [gI_uI_ne (by decide), gI_uI_ne (by decide), blwS_o (by decide), f4, hj]
        have b231 : ∀ x, gI (uI (blwS T) 109 (nw + 1) x) 97 23 + 1 = nI (nw + 1) := fun x => by rw [gI_uI_ne (by decide), b23, nI_1]
        refine r_iload_n rfl rfl ?_
        refine r_aload_n rfl rfl ?_
        refine r_getI rfl rfl (by decide) (by decide) rfl ?_
        rw [n3]
        refine r_icmp_ge rfl (fun h9 => ?_) (fun h9 => ?_)
        · refine r_aload_n rfl rfl ?_
          refine r_getC rfl rfl (by decide) (by decide) rfl ?_
          refine r_aload_n rfl rfl ?_
          refine r_getI rfl rfl (by decide) (by decide) rfl ?_
          refine r_iconst rfl ?_
          refine r_iadd rfl ?_
          rw [n23, nI_1]
          refine r_aload_n rfl rfl ?_
          refine r_getC rfl rfl (by decide) (by decide) rfl ?_
          refine r_aload_n rfl rfl ?_
          refine r_getI rfl rfl (by decide) (by decide) rfl ?_
          rw [n23]
          refine r_iald rfl rfl (by first | decide | assumption) (by first | exact t1 | exact t2 | exact t3 | exact t4) (by first | exact t1 | exact t2 | exact t3 | exact t4) ?_
          refine r_iload_n rfl rfl ?_
          refine r_iadd rfl ?_
          refine r_aload_n rfl rfl ?_
          refine r_callV rfl ct_X11_blows rfl rfl rfl (by decide) rfl (am_cnt rfl) ?_
          refine r_iadd rfl ?_
          refine r_sipush rfl ?_
          refine r_callS rfl (by decide) (ct_X11_put w999) rfl rfl (am_cnt rfl) ?_
          refine r_iast rfl rfl (by first | decide | assumption) (by first | exact t1 | exact t2 | exact t3 | exact t4) (by first | exact t1 | exact t2 | exact t3 | exact t4) ?_
          refine r_aload_n rfl rfl ?_
          refine r_dup rfl rfl ?_
          refine r_getI rfl rfl (by decide) (by decide) rfl ?_
          refine r_iconst rfl ?_
          refine r_iadd rfl ?_
          rw [bw1, b231]
          refine r_putI rfl rfl (by decide) (by decide) rfl ?_
          refine r_vret rfl ?_
          refine ⟨rfl, _, rfl, fin _ ?_⟩
          rw [bw, g109, bs.1, hj, Int32.add_assoc]
        · exact absurd w1 h9
      · have w1 : ¬ nI n ≤ nI j := Int32.not_le.mpr (nI_lt (by omega) (by omega))
        have hj6 : j < 6 := by omega
        have cf : ∀ U : am_S, (∀ o, o ≠ 106 → o ≠ 108 → o ≠ 110 → gI U o = gI S o) → MCfg U n nw lt st th dg fs fz := fun U hU => mcfg_fr hC ⟨by rw [hU 97 (by decide) (by decide) (by decide)], by rw [hU 97 (by decide) (by decide) (by decide)]⟩ (fun o ho => hU o (by omega) (by omega) (by omega))
        have lk : ∀ U : am_S, (∀ o, o ≠ 106 → o ≠ 108 → o ≠ 110 → gI U o = gI S o) → (∀ k q m, m < nw → gI U 110 (gAt k q m) = gI S 110 (gAt k q m)) → ∀ i, i < 6 → mLook U n j (nI nw) i = sgM S n j nw i := fun U hU hg i hi => look_same hg (by omega) (hpm j hj6).1 (hpm j hj6).2.1 (fun o ho => hU o (by omega) (by omega) (by omega)) ⟨by rw [hU 97 (by decide) (by decide) (by decide)], by rw [hU 97 (by decide) (by decide) (by decide)]⟩ i hi
        have gT : ∀ k q m, m < nw → gI T 110 (gAt k q m) = gI S 110 (gAt k q m) := fun k q m hm => by rw [f4, pG_ne (by omega) (by omega) (by omega)]
        have wfd := (hC.2.2.2.2.2 (dg j) (hC.2.2.2.2.1 j hj6).1).2.2
        have wfs := (hC.2.2.2.2.2 (2 * j + 1) (by omega)).2.2
        have dv : fPut (wv (fs (dg j)) (mLook T n j (nI nw)) (fz (dg j))) 9 = doM S n nw dg fs fz j := by rw [doM, wv_congr wfd (lk T f1 gT)]
        have dct : ∀ {d : Nat}, am_CE (d + 5) iX11_doesNow [.ref 97, .int (nI j), .int 0, .int (nI nw)] T (some (.int (doM S n nw dg fs fz j))) (fun U => FrD T U ∧ gI U 108 = mLook T n j (nI nw)) := fun {d} => by
          have e := ct_X11_doesNow_deed (d := d) (cf T f1) (by omega) hj6
          rw [dv] at e
          exact e
        have ixg : ∀ k, nI (gAt k j nw) = (nI k * 6 + nI j) * 200 + nI nw := fun k => gAt_eq.symm
        have bg : ∀ k, k < 4 → (nI (gAt k j nw)).toNatClampNeg = gAt k j nw := fun k hk => nI_clamp (by unfold gAt; omega)
        have sg1 : ∀ k, k < 4 → 0 ≤ nI (gAt k j nw) := fun k hk => nI_pos' (by unfold gAt; omega)
        have sg2 : ∀ k, k < 4 → nI (gAt k j nw) < Int32.ofNat 4800 := fun k hk => nI_lt (by unfold gAt; omega) (by omega)
        have i0 : (0 * 6 + nI j) * 200 + nI nw = nI (gAt 0 j nw) := (ixg 0).symm
        have i1 : (1 * 6 + nI j) * 200 + nI nw = nI (gAt 1 j nw) := (ixg 1).symm
        have i2 : (2 * 6 + nI j) * 200 + nI nw = nI (gAt 2 j nw) := (ixg 2).symm
        have i3 : (3 * 6 + nI j) * 200 + nI nw = nI (gAt 3 j nw) := (ixg 3).symm
        have fU : ∀ U : am_S, FrD T U → ∀ x : Int32, (∀ o, o ≠ 106 → o ≠ 108 → o ≠ 110 → gI (uI U 110 (gAt 0 j nw) x) o = gI S o) ∧ (∀ k q m, m < nw → gI (uI U 110 (gAt 0 j nw) x) 110 (gAt k q m) = gI S 110 (gAt k q m)) := fun U hU x => by
          refine ⟨fun o a b c => by rw [gI_uI_ne c, hU.1 o a b, f1 o a b c], fun k q m hm => ?_⟩
          rw [gI_uI, if_pos rfl, if_neg (gAt_ne (by omega) (by omega) (by omega)), hU.1 110 (by decide) (by decide), gT k q m hm]
        have sct : ∀ {d : Nat} (U : am_S), FrD T U → ∀ x : Int32, am_CE (d + 5) iX11_doesNow [.ref 97, .int (nI j), .int 1, .int (nI nw)] (uI U 110 (gAt 0 j nw) x) (some (.int (spM S n nw fs fz j))) (fun V => FrD (uI U 110 (gAt 0 j nw) x) V ∧ gI V 108 = mLook (uI U 110 (gAt 0 j nw) x) n j (nI nw)) := fun {d} U hU x => by
          have e := ct_X11_doesNow_word (d := d) (cf _ (fU U hU x).1) (by omega) hj6
          rw [show fPut (wv (fs (2 * j + 1)) (mLook (uI U 110 (gAt 0 j nw) x) n j (nI nw)) (fz (2 * j + 1))) 99 = spM S n nw fs fz j from by rw [spM, wv_congr wfs (lk _ (fU U hU x).1 (fU U hU x).2)]] at e
          exact e
        refine r_iload_n rfl rfl ?_
        refine r_aload_n rfl rfl ?_
        refine r_getI rfl rfl (by decide) (by decide) rfl ?_
        rw [n3]
        refine r_icmp_ge rfl (fun h9 => ?_) (fun h9 => ?_)
        · exact absurd h9 w1
        · refine r_aload_n rfl rfl ?_
          refine r_iload_n rfl rfl ?_
          refine r_iconst rfl ?_
          refine r_aload_n rfl rfl ?_
          refine r_getI rfl rfl (by decide) (by decide) rfl ?_
          rw [n23]
          refine r_callVE rfl dct rfl rfl rfl (by decide) rfl (am_cnt rfl) (fun U hU => ?_)
          refine r_istore_n (L2 := [_, _, _, _]) rfl rfl ?_
          refine r_aload_n rfl rfl ?_
          refine r_getC rfl rfl (by decide) (by decide) rfl ?_
          refine r_iconst rfl ?_
          refine r_iload_n rfl rfl ?_
          refine r_aload_n rfl rfl ?_
          refine r_getI rfl rfl (by decide) (by decide) rfl ?_
          rw [show gI U 97 23 = nI nw from by rw [hU.1.1 97 (by decide) (by decide), n23]]
          refine r_callS rfl (by decide) ct_X11_indexOf rfl rfl (am_cnt rfl) ?_
          refine r_iload_n rfl rfl ?_
          rw [i0]
          refine r_iast rfl rfl (by first | decide | assumption) (by first | decide | exact sg1 0 (by decide) | exact sg2 0 (by decide) | exact sg1 1 (by decide) | exact sg2 1 (by decide) | exact sg1 2 (by decide) | exact sg2 2 (by decide) | exact sg1 3 (by decide) | exact sg2 3 (by decide)) (by first | decide | exact sg1 0 (by decide) | exact sg2 0 (by decide) | exact sg1 1 (by decide) | exact sg2 1 (by decide) | exact sg1 2 (by decide) | exact sg2 2 (by decide) | exact sg1 3 (by decide) | exact sg2 3 (by decide)) ?_
          rw [bg 0 (by decide)]
          refine r_aload_n rfl rfl ?_
          refine r_getC rfl rfl (by decide) (by decide) rfl ?_
          refine r_iconst rfl ?_
          refine r_iload_n rfl rfl ?_
          refine r_aload_n rfl rfl ?_
          refine r_getI rfl rfl (by decide) (by decide) rfl ?_
          have u23 : gI (uI U 110 (gAt 0 j nw) (doM S n nw dg fs fz j)) 97 23 = nI nw := by rw [gI_uI_ne (by decide), hU.1.1 97 (by decide) (by decide), n23]
          rw [u23]
          refine r_callS rfl (by decide) ct_X11_indexOf rfl rfl (am_cnt rfl) ?_
          rw [i1]
          refine r_aload_n rfl rfl ?_
          refine r_iload_n rfl rfl ?_
          refine r_iconst rfl ?_
          refine r_aload_n rfl rfl ?_
          refine r_getI rfl rfl (by decide) (by decide) rfl ?_
          rw [u23]
          refine r_callVE rfl (sct U hU.1 _) rfl rfl rfl (by decide) rfl (am_cnt rfl) (fun V hV => ?_)
          refine r_iast rfl rfl (by first | decide | assumption) (by first | decide | exact sg1 0 (by decide) | exact sg2 0 (by decide) | exact sg1 1 (by decide) | exact sg2 1 (by decide) | exact sg1 2 (by decide) | exact sg2 2 (by decide) | exact sg1 3 (by decide) | exact sg2 3 (by decide)) (by first | decide | exact sg1 0 (by decide) | exact sg2 0 (by decide) | exact sg1 1 (by decide) | exact sg2 1 (by decide) | exact sg1 2 (by decide) | exact sg2 2 (by decide) | exact sg1 3 (by decide) | exact sg2 3 (by decide)) ?_
          rw [bg 1 (by decide)]
          have v23 : ∀ x, gI (uI V 110 (gAt 1 j nw) x) 97 23 = nI nw := fun x => by rw [gI_uI_ne (by decide), hV.1.1 97 (by decide) (by decide), u23]
          have v108 : ∀ i, i < 6 → gI V 108 i = sgM S n j nw i := fun i hi => by rw [hV.2]; exact lk _ (fU U hU.1 _).1 (fU U hU.1 _).2 i hi
          refine r_aload_n rfl rfl ?_
          refine r_getC rfl rfl (by decide) (by decide) rfl ?_
          refine r_iconst rfl ?_
          refine r_iload_n rfl rfl ?_
          refine r_aload_n rfl rfl ?_
          refine r_getI rfl rfl (by decide) (by decide) rfl ?_
          rw [v23]
          refine r_callS rfl (by decide) ct_X11_indexOf rfl rfl (am_cnt rfl) ?_
          rw [i2]
          refine r_aload_n rfl rfl ?_
          refine r_getC rfl rfl (by decide) (by decide) rfl ?_
          refine r_iconst rfl ?_
          refine r_iald rfl rfl (by first | decide | assumption) (by first | decide | exact sg1 0 (by decide) | exact sg2 0 (by decide) | exact sg1 1 (by decide) | exact sg2 1 (by decide) | exact sg1 2 (by decide) | exact sg2 2 (by decide) | exact sg1 3 (by decide) | exact sg2 3 (by decide)) (by first | decide | exact sg1 0 (by decide) | exact sg2 0 (by decide) | exact sg1 1 (by decide) | exact sg2 1 (by decide) | exact sg1 2 (by decide) | exact sg2 2 (by decide) | exact sg1 3 (by decide) | exact sg2 3 (by decide)) ?_
          refine r_iast rfl rfl (by first | decide | assumption) (by first | decide | exact sg1 0 (by decide) | exact sg2 0 (by decide) | exact sg1 1 (by decide) | exact sg2 1 (by decide) | exact sg1 2 (by decide) | exact sg2 2 (by decide) | exact sg1 3 (by decide) | exact sg2 3 (by decide)) (by first | decide | exact sg1 0 (by decide) | exact sg2 0 (by decide) | exact sg1 1 (by decide) | exact sg2 1 (by decide) | exact sg1 2 (by decide) | exact sg2 2 (by decide) | exact sg1 3 (by decide) | exact sg2 3 (by decide)) ?_
          rw [bg 2 (by decide)]
          refine r_aload_n rfl rfl ?_
          refine r_getC rfl rfl (by decide) (by decide) rfl ?_
          refine r_iconst rfl ?_
          refine r_iload_n rfl rfl ?_
          refine r_aload_n rfl rfl ?_
          refine r_getI rfl rfl (by decide) (by decide) rfl ?_
          rw [gI_uI_ne (show (97 : Nat) ≠ 110 by decide), v23]
          refine r_callS rfl (by decide) ct_X11_indexOf rfl rfl (am_cnt rfl) ?_
          rw [i3]
          refine r_aload_n rfl rfl ?_
          refine r_getC rfl rfl (by decide) (by decide) rfl ?_
          refine r_iconst rfl ?_
          refine r_iald rfl rfl (by first | decide | assumption) (by first | decide | exact sg1 0 (by decide) | exact sg2 0 (by decide) | exact sg1 1 (by decide) | exact sg2 1 (by decide) | exact sg1 2 (by decide) | exact sg2 2 (by decide) | exact sg1 3 (by decide) | exact sg2 3 (by decide)) (by first | decide | exact sg1 0 (by decide) | exact sg2 0 (by decide) | exact sg1 1 (by decide) | exact sg2 1 (by decide) | exact sg1 2 (by decide) | exact sg2 2 (by decide) | exact sg1 3 (by decide) | exact sg2 3 (by decide)) ?_
          refine r_iast rfl rfl (by first | decide | assumption) (by first | decide | exact sg1 0 (by decide) | exact sg2 0 (by decide) | exact sg1 1 (by decide) | exact sg2 1 (by decide) | exact sg1 2 (by decide) | exact sg2 2 (by decide) | exact sg1 3 (by decide) | exact sg2 3 (by decide)) (by first | decide | exact sg1 0 (by decide) | exact sg2 0 (by decide) | exact sg1 1 (by decide) | exact sg2 1 (by decide) | exact sg1 2 (by decide) | exact sg2 2 (by decide) | exact sg1 3 (by decide) | exact sg2 3 (by decide)) ?_
          refine r_iload_n rfl rfl ?_
          refine r_iload_n rfl rfl ?_
          refine r_iadd rfl ?_
          refine r_istore_n (L2 := [_, _, _, _]) rfl rfl ?_
          refine r_iinc (L2 := [_, _, _, _]) rfl rfl rfl ?_
          refine r_goto rfl ?_
          rw [nI_1, bg 3 (by decide)]
          refine ih (j + 1) _ _ (by omega) (by omega) (fun o a b c => ?_) (fun o => ?_) (fun c => ?_) ?_
          · rw [gI_uI_ne c, gI_uI_ne c, gI_uI_ne c, hV.1.1 o a b, gI_uI_ne c, hU.1.1 o a b, f1 o a b c]
          · rw [gJ_uI_f, gJ_uI_f, gJ_uI_f, hV.1.2.1, gJ_uI_f, hU.1.2.1, f2]
          · rw [gR_uI, gR_uI, gR_uI, hV.1.2.2, gR_uI, hU.1.2.2, f3]
          · rw [pG, gI_uI_eq, gI_uI_eq, gI_uI_eq, hV.1.1 110 (by decide) (by decide), gI_uI_eq, hU.1.1 110 (by decide) (by decide), f4]
            rw [gI_uI_ne (show (108 : Nat) ≠ 110 by decide), gI_uI_ne (show (108 : Nat) ≠ 110 by decide), gI_uI_ne (show (108 : Nat) ≠ 110 by decide), show (4 : Int32).toNatClampNeg = 4 from rfl, show (2 : Int32).toNatClampNeg = 2 from rfl, v108 4 (by decide), v108 2 (by decide)]
  refine r_iconst rfl ?_
  refine r_istore_n (L2 := [_, _, _, _]) rfl rfl ?_
  refine r_iconst rfl ?_
  refine r_istore_n (L2 := [_, _, _, _]) rfl rfl ?_
  exact loop (n + 1) 0 S none (by omega) (by omega) (fun _ _ _ _ => rfl) (fun _ => rfl) (fun _ => rfl) rfl
