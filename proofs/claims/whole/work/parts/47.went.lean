/-! What went by: does, go, begin, was, cost, by, echo, waits, swings of the reference. -/
def e1 (S : am_S) (a : Int64) : am_S := eAdd (uI S 97 1 0) a 0
def e2 (S : am_S) (a b : Int64) : am_S := eAdd (e1 S a) b 1
def e3 (S : am_S) (a b c : Int64) : am_S := eAdd (e2 S a b) c 2
theorem eAdd_n {S : am_S} {v : Int64} {n : Nat} : gI (eAdd S v n) 97 1 = nI (n + 1) := by rw [eAdd, gI_uI, if_pos rfl, if_pos rfl]
theorem u971 {S : am_S} : gI (uI S 97 1 0) 97 1 = nI 0 := by rw [gI_uI, if_pos rfl, if_pos rfl]; rfl
theorem eAdd_97 {S : am_S} {v : Int64} {n k : Nat} (h : k ≠ 1) : gI (eAdd S v n) 97 k = gI S 97 k := by rw [eAdd, gI_uI, if_pos rfl, if_neg h]; rfl
theorem eAdd_ne {S : am_S} {v : Int64} {n o : Nat} (h : o ≠ 97) : gI (eAdd S v n) o = gI S o := by rw [eAdd, gI_uI_ne h]; rfl
theorem e1_97 {S : am_S} {a : Int64} {k : Nat} (h : k ≠ 1) : gI (e1 S a) 97 k = gI S 97 k := by rw [e1, eAdd_97 h, gI_uI, if_pos rfl, if_neg h]
theorem e2_97 {S : am_S} {a b : Int64} {k : Nat} (h : k ≠ 1) : gI (e2 S a b) 97 k = gI S 97 k := by rw [e2, eAdd_97 h, e1_97 h]
theorem e1_ne {S : am_S} {a : Int64} {o : Nat} (h : o ≠ 97) : gI (e1 S a) o = gI S o := by rw [e1, eAdd_ne h, gI_uI_ne h]
theorem e2_ne {S : am_S} {a b : Int64} {o : Nat} (h : o ≠ 97) : gI (e2 S a b) o = gI S o := by rw [e2, eAdd_ne h, e1_ne h]
theorem ct_X11_does_no {d : Nat} {S T : am_S} {p w : Int32} (hT : uI S 97 0 0 = T) (hz : 0 ≤ gI T 97 3) (h : ¬ (hasM T p ∧ 0 ≤ w ∧ w ≤ 1)) : am_CT (d + 6) iX11_does [.ref 97, .int p, .int w] S (some (.int 0)) (uI T 97 0 1) := by
  refine am_CT_in mmX11_does rfl rfl rfl ?_
  refine r_aload_n rfl rfl ?_
  refine r_iconst rfl ?_
  refine r_putI rfl rfl (by decide) (by decide) rfl ?_
  try rw [hT]
  refine r_aload_n rfl rfl ?_
  refine r_iload_n rfl rfl ?_
  refine r_callV rfl (ct_X11_isPerson hz) rfl rfl rfl (by decide) rfl (am_cnt rfl) ?_
  refine r_if_eq rfl (fun h10 => ?_) (fun h10 => ?_)
  · refine r_aload_n rfl rfl ?_
    refine r_callV rfl ct_X11_refuse rfl rfl rfl (by decide) rfl (am_cnt rfl) ?_
    refine r_iret rfl rfl ?_
    exact ⟨rfl, rfl⟩
  · refine r_iload_n rfl rfl ?_
    refine r_i2l rfl ?_
    refine r_lconst rfl ?_
    refine r_lconst rfl ?_
    refine r_callS rfl (by decide) ct_X11_in rfl rfl (am_cnt rfl) ?_
    refine r_if_ne rfl (fun h20 => ?_) (fun h20 => ?_)
    · exfalso
      simp only [b01_eq0, wl_m999, wg_m999, wl_m99, wg_m99, wl_m50, wg_m50, wl_m1, wg_m1, wl_0, wg_0, wl_1, wg_1, wl_2, wg_2, wl_3, wg_3, wl_4, wg_4, wl_6, wg_6, wl_9, wg_9, wl_10, wg_10, wl_11, wg_11, wl_20, wg_20, wl_48, wg_48, wl_50, wg_50, wl_57, wg_57, wl_99, wg_99, wl_100, wg_100, wl_199, wg_199, wl_222, wg_222, wl_999, wg_999, wl_9999, wg_9999, fa_wide_le] at *
      grind
    · refine r_aload_n rfl rfl ?_
      refine r_callV rfl ct_X11_refuse rfl rfl rfl (by decide) rfl (am_cnt rfl) ?_
      refine r_iret rfl rfl ?_
      exact ⟨rfl, rfl⟩
theorem hasM_nI {S : am_S} {n p : Nat} (hn : gI S 97 3 = nI n) (hz : n ≤ 6) (hp : p < n) : hasM S (nI p) := by
  unfold hasM
  rw [hn]
  exact ⟨nI_pos' (by omega), nI_lt hp (by omega)⟩
theorem zM {S : am_S} {n : Nat} (hn : gI S 97 3 = nI n) (hz : n ≤ 6) : 0 ≤ gI S 97 3 := by rw [hn]; exact nI_pos' (by omega)
theorem ct_X11_does_0 {d : Nat} {S T : am_S} {n nw p : Nat} {lt st th dg : Nat → Nat} {fs : Nat → Nat → Int32} {fz : Nat → Nat} (hT : uI S 97 0 0 = T) (hC : MCfg T n nw lt st th dg fs fz) (hw : nw ≤ 199) (hp : p < n) : am_CE (d + 6) iX11_does [.ref 97, .int (nI p), .int 0] S (some (.int (doM T n nw dg fs fz p))) (fun U => FrD T U) := by
  refine am_CE_in mmX11_does rfl rfl rfl ?_
  have c1 := hasM_nI hC.1 hC.2.1 hp
  refine r_aload_n rfl rfl ?_
  refine r_iconst rfl ?_
  refine r_putI rfl rfl (by decide) (by decide) rfl ?_
  try rw [hT]
  refine r_aload_n rfl rfl ?_
  refine r_iload_n rfl rfl ?_
  refine r_callV rfl (ct_X11_isPerson (zM hC.1 hC.2.1)) rfl rfl rfl (by decide) rfl (am_cnt rfl) ?_
  refine r_if_eq rfl (fun h10 => ?_) (fun h10 => ?_)
  · exact absurd (c1) (b01_eq0.mp h10)
  · refine r_iload_n rfl rfl ?_
    refine r_i2l rfl ?_
    refine r_lconst rfl ?_
    refine r_lconst rfl ?_
    refine r_callS rfl (by decide) ct_X11_in rfl rfl (am_cnt rfl) ?_
    refine r_if_ne rfl (fun h20 => ?_) (fun h20 => ?_)
    · refine r_aload_n rfl rfl ?_
      refine r_iload_n rfl rfl ?_
      refine r_iload_n rfl rfl ?_
      refine r_aload_n rfl rfl ?_
      refine r_getI rfl rfl (by decide) (by decide) rfl ?_
      rw [hC.2.2.1]
      refine r_callVE rfl (ct_X11_doesNow_deed hC hw (by have := hC.2.1; omega)) rfl rfl rfl (by decide) rfl (am_cnt rfl) (fun U hU => ?_)
      refine r_iret rfl rfl ?_
      exact ⟨rfl, _, rfl, hU.1⟩
    · exact absurd h20 (by decide)
theorem ct_X11_does_1 {d : Nat} {S T : am_S} {n nw p : Nat} {lt st th dg : Nat → Nat} {fs : Nat → Nat → Int32} {fz : Nat → Nat} (hT : uI S 97 0 0 = T) (hC : MCfg T n nw lt st th dg fs fz) (hw : nw ≤ 199) (hp : p < n) : am_CE (d + 6) iX11_does [.ref 97, .int (nI p), .int 1] S (some (.int (spM T n nw fs fz p))) (fun U => FrD T U) := by
  refine am_CE_in mmX11_does rfl rfl rfl ?_
  have c1 := hasM_nI hC.1 hC.2.1 hp
  refine r_aload_n rfl rfl ?_
  refine r_iconst rfl ?_
  refine r_putI rfl rfl (by decide) (by decide) rfl ?_
  try rw [hT]
  refine r_aload_n rfl rfl ?_
  refine r_iload_n rfl rfl ?_
  refine r_callV rfl (ct_X11_isPerson (zM hC.1 hC.2.1)) rfl rfl rfl (by decide) rfl (am_cnt rfl) ?_
  refine r_if_eq rfl (fun h10 => ?_) (fun h10 => ?_)
  · exact absurd (c1) (b01_eq0.mp h10)
  · refine r_iload_n rfl rfl ?_
    refine r_i2l rfl ?_
    refine r_lconst rfl ?_
    refine r_lconst rfl ?_
    refine r_callS rfl (by decide) ct_X11_in rfl rfl (am_cnt rfl) ?_
    refine r_if_ne rfl (fun h20 => ?_) (fun h20 => ?_)
    · refine r_aload_n rfl rfl ?_
      refine r_iload_n rfl rfl ?_
      refine r_iload_n rfl rfl ?_
      refine r_aload_n rfl rfl ?_
      refine r_getI rfl rfl (by decide) (by decide) rfl ?_
      rw [hC.2.2.1]
      refine r_callVE rfl (ct_X11_doesNow_word hC hw (by have := hC.2.1; omega)) rfl rfl rfl (by decide) rfl (am_cnt rfl) (fun U hU => ?_)
      refine r_iret rfl rfl ?_
      exact ⟨rfl, _, rfl, hU.1⟩
    · exact absurd h20 (by decide)
/-- a minute; so many -/
def MinM (n nw : Nat) (dg : Nat → Nat) (fs : Nat → Nat → Int32) (fz : Nat → Nat) (S T : am_S) : Prop := FrP S T ∧ gI T 97 23 = nI (nw + 1) ∧ gI T 97 24 = rndM S ∧ gI T 109 = upd (gI S 109) (nw + 1) (fPut (gI S 109 nw + (sumI (doM S n nw dg fs fz) n + blwV S)) 999) ∧ gI T 110 = pG S n nw dg fs fz n
def PasM (n nw : Nat) (dg : Nat → Nat) (fs : Nat → Nat → Int32) (fz : Nat → Nat) (S : am_S) : Nat → am_S → Prop
  | 0, T => T = S
  | i + 1, T => ∃ U, PasM n nw dg fs fz S i U ∧ MinM n (nw + i) dg fs fz U T
theorem frP_t {S T U : am_S} (h : FrP S T) (h2 : FrP T U) : FrP S U := ⟨fun o a b c e f => by rw [h2.1 o a b c e f, h.1 o a b c e f], fun k a b => by rw [h2.2.1 k a b, h.2.1 k a b], fun o => by rw [h2.2.2.1, h.2.2.1], fun c => by rw [h2.2.2.2, h.2.2.2]⟩
theorem pasM_fr {n nw : Nat} {dg : Nat → Nat} {fs : Nat → Nat → Int32} {fz : Nat → Nat} {S : am_S} : ∀ i T, PasM n nw dg fs fz S i T → FrP S T
  | 0, T, h => by
    rw [show T = S from h]
    exact ⟨fun _ _ _ _ _ _ => rfl, fun _ _ _ => rfl, fun _ => rfl, fun _ => rfl⟩
  | i + 1, T, h => by
    obtain ⟨U, h1, h2⟩ := h
    exact frP_t (pasM_fr i U h1) h2.1
theorem pasM_cfg {n nw : Nat} {lt st th dg : Nat → Nat} {fs : Nat → Nat → Int32} {fz : Nat → Nat} {S : am_S} (hC : MCfg S n nw lt st th dg fs fz) : ∀ i T, PasM n nw dg fs fz S i T → MCfg T n (nw + i) lt st th dg fs fz
  | 0, T, h => by
    rw [show T = S from h]
    exact hC
  | i + 1, T, h => by
    have hf := pasM_fr (i + 1) T h
    obtain ⟨U, h1, h2⟩ := h
    have e := mcfg_fr (T := uI T 97 23 (nI nw)) hC ⟨by rw [gI_uI, if_pos rfl, if_neg (by decide), hf.2.1 3 (by decide) (by decide)], by rw [gI_uI, if_pos rfl, if_pos rfl, hC.2.2.1]⟩ (fun o ho => by rw [gI_uI_ne (by omega), hf.1 o (by omega) (by omega) (by omega) (by omega) (by omega)])
    obtain ⟨a, b, c, e, f, g⟩ := e
    refine ⟨?_, b, h2.2.1, ?_, ?_, ?_⟩
    · rw [gI_uI, if_pos rfl, if_neg (by decide)] at a
      exact a
    · intro p hp
      have := e p hp
      rw [gI_uI_ne (by decide), gI_uI_ne (by decide), gI_uI_ne (by decide)] at this
      exact this
    · intro p hp
      have := f p hp
      rw [gI_uI_ne (by decide)] at this
      exact this
    · intro i hi
      have := g i hi
      unfold FmOk at this ⊢
      rw [gI_uI_ne (by decide), gI_uI_ne (by decide)] at this
      exact this
theorem ct_X11_go_no {d : Nat} {S T : am_S} {m : Int32} (hT : uI S 97 0 0 = T) (h : ¬ (0 ≤ m ∧ m ≤ 199)) : am_CT (d + 7) iX11_go [.ref 97, .int m] S (some (.int 0)) (uI T 97 0 1) := by
  refine am_CT_in mmX11_go rfl rfl rfl ?_
  refine r_aload_n rfl rfl ?_
  refine r_iconst rfl ?_
  refine r_putI rfl rfl (by decide) (by decide) rfl ?_
  try rw [hT]
  refine r_iload_n rfl rfl ?_
  refine r_i2l rfl ?_
  refine r_lconst rfl ?_
  refine r_ldc2_w rfl ?_
  refine r_callS rfl (by decide) ct_X11_in rfl rfl (am_cnt rfl) ?_
  refine r_if_ne rfl (fun h14 => ?_) (fun h14 => ?_)
  · simp only [b01_eq0, wl_m999, wg_m999, wl_m99, wg_m99, wl_m50, wg_m50, wl_m1, wg_m1, wl_0, wg_0, wl_1, wg_1, wl_2, wg_2, wl_3, wg_3, wl_4, wg_4, wl_6, wg_6, wl_9, wg_9, wl_10, wg_10, wl_11, wg_11, wl_20, wg_20, wl_48, wg_48, wl_50, wg_50, wl_57, wg_57, wl_99, wg_99, wl_100, wg_100, wl_199, wg_199, wl_222, wg_222, wl_999, wg_999, wl_9999, wg_9999, fa_wide_le] at h14
    exact absurd (Decidable.not_not.mp h14) h
  · refine r_aload_n rfl rfl ?_
    refine r_callV rfl ct_X11_refuse rfl rfl rfl (by decide) rfl (am_cnt rfl) ?_
    refine r_iret rfl rfl ?_
    exact ⟨rfl, rfl⟩
theorem ct_X11_go_ok {d : Nat} {S T : am_S} {n nw m : Nat} {lt st th dg : Nat → Nat} {fs : Nat → Nat → Int32} {fz : Nat → Nat} {x : Int32} (hT : uI S 97 0 0 = T) (hC : MCfg T n nw lt st th dg fs fz) (hw : nw ≤ 199) (hm : m ≤ 199) (hx : ∀ U, PasM n nw dg fs fz T (min m (199 - nw)) U → gI U 109 (nw + min m (199 - nw)) = x) : am_CE (d + 7) iX11_go [.ref 97, .int (nI m)] S (some (.int x)) (fun U => PasM n nw dg fs fz T (min m (199 - nw)) U) := by
  refine am_CE_in mmX11_go rfl rfl rfl ?_
  have c1 : 0 ≤ nI m ∧ nI m ≤ 199 := ⟨nI_pos' (by omega), nI_le (b := 199) hm (by omega)⟩
  have loop : ∀ (k : Nat) (i : Nat) (U : am_S), (i ≤ m ∧ nw + i ≤ 199) → (m < i + k) → (PasM n nw dg fs fz T i U) → am_Ex (am_Call am_MT (d + 6)) mmX11_go none (fun r1 G1 => r1 = (some (.int x)) ∧ ∃ S2, G1 = am_H S2 ∧ (fun U => PasM n nw dg fs fz T (min m (199 - nw)) U) S2) (fun _ _ _ _ _ _ => False) 24 [some (.ref 97), some (.int (nI m)), some (.int (nI i))] [] (am_H (U)) 0 0 := by
    intro k
    induction k with
    | zero =>
      intro i U q1 q2 f1
      omega
    | succ k ih =>
      intro i U q1 q2 f1
      have cu := pasM_cfg hC i U f1
      have u23 : gI U 97 23 = nI (nw + i) := cu.2.2.1
      have b1 : (nI (nw + i)).toNatClampNeg = nw + i := nI_clamp (by omega)
      have s1 : 0 ≤ nI (nw + i) := nI_pos' (by omega)
      have s2 : nI (nw + i) < Int32.ofNat 201 := nI_lt (by omega) (by omega)
      refine r_iload_n rfl rfl ?_
      refine r_iload_n rfl rfl ?_
      refine r_icmp_ge rfl (fun h26 => ?_) (fun h26 => ?_)
      · rw [nI_leI (by omega) (by omega)] at h26
        have hi : min m (199 - nw) = i := by omega
        rw [hi] at hx ⊢
        refine r_aload_n rfl rfl ?_
        refine r_getC rfl rfl (by decide) (by decide) rfl ?_
        refine r_aload_n rfl rfl ?_
        refine r_getI rfl rfl (by decide) (by decide) rfl ?_
        rw [u23]
        refine r_iald rfl rfl (by first | decide | assumption) (by first | exact s1 | exact s2) (by first | exact s1 | exact s2) ?_
        refine r_iret rfl rfl ?_
        rw [b1, hx U f1]
        exact ⟨rfl, _, rfl, f1⟩
      · rw [nI_leI (by omega) (by omega)] at h26
        refine r_aload_n rfl rfl ?_
        refine r_getI rfl rfl (by decide) (by decide) rfl ?_
        refine r_sipush rfl ?_
        rw [u23]
        refine r_icmp_ge rfl (fun h36 => ?_) (fun h36 => ?_)
        · rw [show (199 : Int32) = nI 199 from rfl, nI_leI (by omega) (by omega)] at h36
          have hi : min m (199 - nw) = i := by omega
          rw [hi] at hx ⊢
          refine r_aload_n rfl rfl ?_
          refine r_getC rfl rfl (by decide) (by decide) rfl ?_
          refine r_aload_n rfl rfl ?_
          refine r_getI rfl rfl (by decide) (by decide) rfl ?_
          rw [u23]
          refine r_iald rfl rfl (by first | decide | assumption) (by first | exact s1 | exact s2) (by first | exact s1 | exact s2) ?_
          refine r_iret rfl rfl ?_
          rw [b1, hx U f1]
          exact ⟨rfl, _, rfl, f1⟩
        · rw [show (199 : Int32) = nI 199 from rfl, nI_leI (by omega) (by omega)] at h36
          refine r_aload_n rfl rfl ?_
          refine r_callVE rfl (ct_X11_passes cu (by omega)) rfl rfl rfl (by decide) rfl (am_cnt rfl) (fun V hV => ?_)
          refine r_iinc (L2 := [_, _, _]) rfl rfl rfl ?_
          refine r_goto rfl ?_
          rw [nI_1]
          exact ih (i + 1) V (by omega) (by omega) ⟨U, f1, hV⟩
  refine r_aload_n rfl rfl ?_
  refine r_iconst rfl ?_
  refine r_putI rfl rfl (by decide) (by decide) rfl ?_
  try rw [hT]
  refine r_iload_n rfl rfl ?_
  refine r_i2l rfl ?_
  refine r_lconst rfl ?_
  refine r_ldc2_w rfl ?_
  refine r_callS rfl (by decide) ct_X11_in rfl rfl (am_cnt rfl) ?_
  refine r_if_ne rfl (fun h14 => ?_) (fun h14 => ?_)
  · refine r_iconst rfl ?_
    refine r_istore_n (L2 := [_, _, _]) rfl rfl ?_
    exact loop (m + 1) 0 T (by omega) (by omega) rfl
  · simp only [b01_eq0, wl_m999, wg_m999, wl_m99, wg_m99, wl_m50, wg_m50, wl_m1, wg_m1, wl_0, wg_0, wl_1, wg_1, wl_2, wg_2, wl_3, wg_3, wl_4, wg_4, wl_6, wg_6, wl_9, wg_9, wl_10, wg_10, wl_11, wg_11, wl_20, wg_20, wl_48, wg_48, wl_50, wg_50, wl_57, wg_57, wl_99, wg_99, wl_100, wg_100, wl_199, wg_199, wl_222, wg_222, wl_999, wg_999, wl_9999, wg_9999, fa_wide_le] at h14
    exact absurd c1 h14
def begM (S : am_S) : am_S := rI (uI (uI S 97 23 0) 109 0 (gI S 97 9)) 110 (fun a => if a < 4800 then 0 else gI S 110 a)
theorem ct_X11_begins {d : Nat} {S : am_S} : am_CT (d + 1) iX11_begins [.ref 97] S (none) (begM S) := by
  refine am_CT_in mmX11_begins rfl rfl rfl ?_
  have loop : ∀ (k : Nat) (j : Nat), (j ≤ 4800) → (4800 < j + k) → am_Ex (am_Call am_MT (d + 0)) mmX11_begins none (fun r1 G1 => r1 = (none) ∧ G1 = am_H (begM S)) (fun _ _ _ _ _ _ => False) 17 [some (.ref 97), some (.int (nI j))] [] (am_H (rI (uI (uI S 97 23 0) 109 0 (gI S 97 9)) 110 (fun a => if a < j then 0 else gI S 110 a))) 0 0 := by
    intro k
    induction k with
    | zero =>
      intro j q1 q2
      omega
    | succ k ih =>
      intro j q1 q2
      have b1 : (nI j).toNatClampNeg = j := nI_clamp (by omega)
      have s1 : 0 ≤ nI j := nI_pos' (by omega)
      have up : upd (fun a => if a < j then (0 : Int32) else gI S 110 a) j 0 = fun a => if a < j + 1 then 0 else gI S 110 a := by
        funext a
        by_cases h : a = j
        · rw [h, pk_us, if_pos (by omega)]
        · rw [pk_un h]
          by_cases h2 : a < j
          · rw [if_pos h2, if_pos (by omega)]
          · rw [if_neg h2, if_neg (by omega)]
      refine r_iload_n rfl rfl ?_
      refine r_aload_n rfl rfl ?_
      refine r_getC rfl rfl (by decide) (by decide) rfl ?_
      refine r_alen rfl rfl (by decide) ?_
      refine r_icmp_ge rfl (fun h23 => ?_) (fun h23 => ?_)
      · have hj : j = 4800 := by
          rw [show Int32.ofNat 4800 = nI 4800 from rfl, nI_leI (by omega) (by omega)] at h23
          omega
        subst hj
        refine r_vret rfl ?_
        exact ⟨rfl, rfl⟩
      · rw [show Int32.ofNat 4800 = nI 4800 from rfl, nI_leI (by omega) (by omega)] at h23
        have s2 : nI j < Int32.ofNat 4800 := nI_lt (by omega) (by omega)
        refine r_aload_n rfl rfl ?_
        refine r_getC rfl rfl (by decide) (by decide) rfl ?_
        refine r_iload_n rfl rfl ?_
        refine r_iconst rfl ?_
        refine r_iast rfl rfl (by first | decide | assumption) (by first | exact s1 | exact s2) (by first | exact s1 | exact s2) ?_
        refine r_iinc (L2 := [_, _]) rfl rfl rfl ?_
        refine r_goto rfl ?_
        rw [b1, uI_rIs, up, nI_1]
        exact ih (j + 1) (by omega) (by omega)
  have z0 : (fun a => if a < 0 then (0 : Int32) else gI S 110 a) = gI (uI (uI S 97 23 0) 109 0 (gI S 97 9)) 110 := by
    rw [gI_uI_ne (by decide), gI_uI_ne (by decide)]
    exact funext fun a => if_neg (by omega)
  have z1 : gI (uI S 97 23 0) 97 9 = gI S 97 9 := by rw [gI_uI, if_pos rfl, if_neg (by decide)]
  refine r_aload_n rfl rfl ?_
  refine r_iconst rfl ?_
  refine r_putI rfl rfl (by decide) (by decide) rfl ?_
  refine r_aload_n rfl rfl ?_
  refine r_getC rfl rfl (by decide) (by decide) rfl ?_
  refine r_iconst rfl ?_
  refine r_aload_n rfl rfl ?_
  refine r_getI rfl rfl (by decide) (by decide) rfl ?_
  rw [z1]
  refine r_iast rfl rfl (by first | decide | assumption) (by decide) (by decide) ?_
  refine r_iconst rfl ?_
  refine r_istore_n (L2 := [_, _]) rfl rfl ?_
  have e := loop 4801 0 (by omega) (by omega)
  rw [z0, rI_id] at e
  exact e
theorem ct_X11_begin {d : Nat} {S T : am_S} (hT : uI S 97 0 0 = T) : am_CT (d + 2) iX11_begin [.ref 97] S (some (.int 1)) (begM T) := by
  refine am_CT_in mmX11_begin rfl rfl rfl ?_
  refine r_aload_n rfl rfl ?_
  refine r_iconst rfl ?_
  refine r_putI rfl rfl (by decide) (by decide) rfl ?_
  try rw [hT]
  refine r_aload_n rfl rfl ?_
  refine r_callV rfl ct_X11_begins rfl rfl rfl (by decide) rfl (am_cnt rfl) ?_
  refine r_iconst rfl ?_
  refine r_zret rfl rfl (by simp) ?_
  exact ⟨rfl, rfl⟩
theorem ct_X11_was_no {d : Nat} {S T : am_S} {p m w : Int32} {nw : Nat} (hT : uI S 97 0 0 = T) (hz : 0 ≤ gI T 97 3) (h : ¬ (hasM T p ∧ (0 ≤ m ∧ m ≤ gI T 97 23 - 1) ∧ 0 ≤ w ∧ w ≤ 3)) : am_CT (d + 3) iX11_was [.ref 97, .int p, .int m, .int w] S (some (.int 0)) (uI T 97 0 1) := by
  refine am_CT_in mmX11_was rfl rfl rfl ?_
  refine r_aload_n rfl rfl ?_
  refine r_iconst rfl ?_
  refine r_putI rfl rfl (by decide) (by decide) rfl ?_
  try rw [hT]
  refine r_aload_n rfl rfl ?_
  refine r_iload_n rfl rfl ?_
  refine r_callV rfl (ct_X11_isPerson hz) rfl rfl rfl (by decide) rfl (am_cnt rfl) ?_
  refine r_if_eq rfl (fun h10 => ?_) (fun h10 => ?_)
  · refine r_aload_n rfl rfl ?_
    refine r_callV rfl ct_X11_refuse rfl rfl rfl (by decide) rfl (am_cnt rfl) ?_
    refine r_iret rfl rfl ?_
    exact ⟨rfl, rfl⟩
  · refine r_iload_n rfl rfl ?_
    refine r_i2l rfl ?_
    refine r_lconst rfl ?_
    refine r_aload_n rfl rfl ?_
    refine r_getI rfl rfl (by decide) (by decide) rfl ?_
    refine r_iconst rfl ?_
    refine r_isub rfl ?_
    refine r_i2l rfl ?_
    refine r_callS rfl (by decide) ct_X11_in rfl rfl (am_cnt rfl) ?_
    refine r_if_eq rfl (fun h26 => ?_) (fun h26 => ?_)
    · refine r_aload_n rfl rfl ?_
      refine r_callV rfl ct_X11_refuse rfl rfl rfl (by decide) rfl (am_cnt rfl) ?_
      refine r_iret rfl rfl ?_
      exact ⟨rfl, rfl⟩
    · refine r_iload_n rfl rfl ?_
      refine r_i2l rfl ?_
      refine r_lconst rfl ?_
      refine r_ldc2_w rfl ?_
      refine r_callS rfl (by decide) ct_X11_in rfl rfl (am_cnt rfl) ?_
      refine r_if_ne rfl (fun h38 => ?_) (fun h38 => ?_)
      · exfalso
        simp only [b01_eq0, wg_0, wl_3, fa_wide_le] at *
        grind
      · refine r_aload_n rfl rfl ?_
        refine r_callV rfl ct_X11_refuse rfl rfl rfl (by decide) rfl (am_cnt rfl) ?_
        refine r_iret rfl rfl ?_
        exact ⟨rfl, rfl⟩
theorem ct_X11_was_ok {d : Nat} {S T : am_S} {n nw p m w : Nat} (hT : uI S 97 0 0 = T) (hn : gI T 97 3 = nI n) (hz : n ≤ 6) (hnw : gI T 97 23 = nI nw) (hw : nw ≤ 199) (hp : p < n) (hm : m < nw) (hk : w < 4) : am_CT (d + 3) iX11_was [.ref 97, .int (nI p), .int (nI m), .int (nI w)] S (some (.int (gI T 110 (gAt w p m)))) (T) := by
  refine am_CT_in mmX11_was rfl rfl rfl ?_
  have c1 : 0 ≤ nI m ∧ nI m ≤ gI T 97 23 - 1 := ⟨nI_pos' (by omega), by rw [hnw, show nI nw - 1 = nI (nw - 1) from pk_sub (b := 1) (by omega)]; exact nI_le (by omega) (by omega)⟩
  have c2 : 0 ≤ nI w ∧ nI w ≤ 3 := ⟨nI_pos' (by omega), nI_le (b := 3) (by omega) (by omega)⟩
  have c3 := hasM_nI hn hz hp
  have e0 := gAt_eq (k := w) (p := p) (m := m)
  have bg : (nI (gAt w p m)).toNatClampNeg = gAt w p m := nI_clamp (by unfold gAt; omega)
  have s1 : 0 ≤ nI (gAt w p m) := nI_pos' (by unfold gAt; omega)
  have s2 : nI (gAt w p m) < Int32.ofNat 4800 := nI_lt (by unfold gAt; omega) (by omega)
  refine r_aload_n rfl rfl ?_
  refine r_iconst rfl ?_
  refine r_putI rfl rfl (by decide) (by decide) rfl ?_
  try rw [hT]
  refine r_aload_n rfl rfl ?_
  refine r_iload_n rfl rfl ?_
  refine r_callV rfl (ct_X11_isPerson (zM hn hz)) rfl rfl rfl (by decide) rfl (am_cnt rfl) ?_
  refine r_if_eq rfl (fun h10 => ?_) (fun h10 => ?_)
  · exact absurd (c3) (b01_eq0.mp h10)
  · refine r_iload_n rfl rfl ?_
    refine r_i2l rfl ?_
    refine r_lconst rfl ?_
    refine r_aload_n rfl rfl ?_
    refine r_getI rfl rfl (by decide) (by decide) rfl ?_
    refine r_iconst rfl ?_
    refine r_isub rfl ?_
    refine r_i2l rfl ?_
    refine r_callS rfl (by decide) ct_X11_in rfl rfl (am_cnt rfl) ?_
    refine r_if_eq rfl (fun h26 => ?_) (fun h26 => ?_)
    · simp only [b01_eq0, wg_0, fa_wide_le] at h26
      exact absurd c1 h26
    · refine r_iload_n rfl rfl ?_
      refine r_i2l rfl ?_
      refine r_lconst rfl ?_
      refine r_ldc2_w rfl ?_
      refine r_callS rfl (by decide) ct_X11_in rfl rfl (am_cnt rfl) ?_
      refine r_if_ne rfl (fun h38 => ?_) (fun h38 => ?_)
      · refine r_aload_n rfl rfl ?_
        refine r_getC rfl rfl (by decide) (by decide) rfl ?_
        refine r_iload_n rfl rfl ?_
        refine r_iload_n rfl rfl ?_
        refine r_iload_n rfl rfl ?_
        refine r_callS rfl (by decide) ct_X11_indexOf rfl rfl (am_cnt rfl) ?_
        rw [e0]
        refine r_iald rfl rfl (by first | decide | assumption) (by first | exact s1 | exact s2) (by first | exact s1 | exact s2) ?_
        refine r_iret rfl rfl ?_
        rw [bg]
        exact ⟨rfl, rfl⟩
      · simp only [b01_eq0, wl_m999, wg_m999, wl_m99, wg_m99, wl_m50, wg_m50, wl_m1, wg_m1, wl_0, wg_0, wl_1, wg_1, wl_2, wg_2, wl_3, wg_3, wl_4, wg_4, wl_6, wg_6, wl_9, wg_9, wl_10, wg_10, wl_11, wg_11, wl_20, wg_20, wl_48, wg_48, wl_50, wg_50, wl_57, wg_57, wl_99, wg_99, wl_100, wg_100, wl_199, wg_199, wl_222, wg_222, wl_999, wg_999, wl_9999, wg_9999, fa_wide_le] at h38
        exact absurd c2 h38
def offM (S : am_S) (j : Nat) : Int32 := absI (gI S 109 j - gI S 97 10)
theorem ct_X11_costNow {d : Nat} {S : am_S} {nw : Nat} (hnw : gI S 97 23 = nI nw) (hw : nw ≤ 199) : am_CT (d + 1) iX11_costNow [.ref 97] S (some (.int (sumI (fun j => offM S (j + 1)) nw))) (S) := by
  refine am_CT_in mmX11_costNow rfl rfl rfl ?_
  have loop : ∀ (k : Nat) (j : Nat), (j ≤ nw) → (nw < j + k) → am_Ex (am_Call am_MT (d + 0)) mmX11_costNow none (fun r1 G1 => r1 = (some (.int (sumI (fun j => offM S (j + 1)) nw))) ∧ G1 = am_H (S)) (fun _ _ _ _ _ _ => False) 4 [some (.ref 97), some (.int (sumI (fun j => offM S (j + 1)) j)), some (.int (nI (j + 1)))] [] (am_H (S)) 0 0 := by
    intro k
    induction k with
    | zero =>
      intro j q1 q2
      omega
    | succ k ih =>
      intro j q1 q2
      have b1 : (nI (j + 1)).toNatClampNeg = j + 1 := nI_clamp (by omega)
      have s1 : 0 ≤ nI (j + 1) := nI_pos' (by omega)
      have s2 : nI (j + 1) < Int32.ofNat 201 := nI_lt (by omega) (by omega)
      refine r_iload_n rfl rfl ?_
      refine r_aload_n rfl rfl ?_
      refine r_getI rfl rfl (by decide) (by decide) rfl ?_
      rw [hnw]
      refine r_icmp_gt rfl (fun h9 => ?_) (fun h9 => ?_)
      · rw [nI_ltI (by omega) (by omega)] at h9
        obtain rfl : j = nw := by omega
        refine r_iload_n rfl rfl ?_
        refine r_iret rfl rfl ?_
        exact ⟨rfl, rfl⟩
      · rw [nI_ltI (by omega) (by omega)] at h9
        refine r_iload_n rfl rfl ?_
        refine r_aload_n rfl rfl ?_
        refine r_getC rfl rfl (by decide) (by decide) rfl ?_
        refine r_iload_n rfl rfl ?_
        refine r_iald rfl rfl (by first | decide | assumption) (by first | exact s1 | exact s2) (by first | exact s1 | exact s2) ?_
        refine r_aload_n rfl rfl ?_
        refine r_getI rfl rfl (by decide) (by decide) rfl ?_
        refine r_isub rfl ?_
        refine r_abs rfl (am_cnt rfl) ?_
        refine r_iadd rfl ?_
        refine r_istore_n (L2 := [_, _, _]) rfl rfl ?_
        refine r_iinc (L2 := [_, _, _]) rfl rfl rfl ?_
        refine r_goto rfl ?_
        rw [b1, nI_1]
        exact ih (j + 1) (by omega) (by omega)
  refine r_iconst rfl ?_
  refine r_istore_n (L2 := [_, _, _]) rfl rfl ?_
  refine r_iconst rfl ?_
  refine r_istore_n (L2 := [_, _, _]) rfl rfl ?_
  exact loop (nw + 1) 0 (by omega) (by omega)
theorem ct_X11_by_no {d : Nat} {S T : am_S} {p q m : Int32} (hT : uI S 97 0 0 = T) (hz : 0 ≤ gI T 97 3) (h : ¬ (twoM T p q ∧ 0 ≤ m ∧ m ≤ 199)) : am_CT (d + 4) iX11_by [.ref 97, .int p, .int q, .int m] S (some (.int (-1))) (T) := by
  refine am_CT_in mmX11_by rfl rfl rfl ?_
  refine r_aload_n rfl rfl ?_
  refine r_iconst rfl ?_
  refine r_putI rfl rfl (by decide) (by decide) rfl ?_
  try rw [hT]
  refine r_aload_n rfl rfl ?_
  refine r_iload_n rfl rfl ?_
  refine r_iload_n rfl rfl ?_
  refine r_callV rfl (ct_X11_arePair hz) rfl rfl rfl (by decide) rfl (am_cnt rfl) ?_
  refine r_if_eq rfl (fun h11 => ?_) (fun h11 => ?_)
  · refine r_iconst rfl ?_
    refine r_iret rfl rfl ?_
    exact ⟨rfl, rfl⟩
  · refine r_iload_n rfl rfl ?_
    refine r_i2l rfl ?_
    refine r_lconst rfl ?_
    refine r_ldc2_w rfl ?_
    refine r_callS rfl (by decide) ct_X11_in rfl rfl (am_cnt rfl) ?_
    refine r_if_ne rfl (fun h23 => ?_) (fun h23 => ?_)
    · exfalso
      simp only [b01_eq0, wl_m999, wg_m999, wl_m99, wg_m99, wl_m50, wg_m50, wl_m1, wg_m1, wl_0, wg_0, wl_1, wg_1, wl_2, wg_2, wl_3, wg_3, wl_4, wg_4, wl_6, wg_6, wl_9, wg_9, wl_10, wg_10, wl_11, wg_11, wl_20, wg_20, wl_48, wg_48, wl_50, wg_50, wl_57, wg_57, wl_99, wg_99, wl_100, wg_100, wl_199, wg_199, wl_222, wg_222, wl_999, wg_999, wl_9999, wg_9999, fa_wide_le] at *
      grind
    · refine r_iconst rfl ?_
      refine r_iret rfl rfl ?_
      exact ⟨rfl, rfl⟩
theorem ct_X11_by_ok {d : Nat} {S T : am_S} {p q m : Int32} (hT : uI S 97 0 0 = T) (hz : 0 ≤ gI T 97 3) (hz6 : gI T 97 3 ≤ 6) (h : twoM T p q) (hm : 0 ≤ m ∧ m ≤ 199) : am_CT (d + 4) iX11_by [.ref 97, .int p, .int q, .int m] S (some (.int (if m - lateI (gI T 99 q.toNatClampNeg) < 0 ∨ ¬ fBit (gI T 102 p.toNatClampNeg) q then -2 else m - lateI (gI T 99 q.toNatClampNeg)))) (T) := by
  refine am_CT_in mmX11_by rfl rfl rfl ?_
  have h1 := hasM6 hz6 h.1
  have h2 := hasM6 hz6 h.2.1
  refine r_aload_n rfl rfl ?_
  refine r_iconst rfl ?_
  refine r_putI rfl rfl (by decide) (by decide) rfl ?_
  try rw [hT]
  refine r_aload_n rfl rfl ?_
  refine r_iload_n rfl rfl ?_
  refine r_iload_n rfl rfl ?_
  refine r_callV rfl (ct_X11_arePair hz) rfl rfl rfl (by decide) rfl (am_cnt rfl) ?_
  refine r_if_eq rfl (fun h11 => ?_) (fun h11 => ?_)
  · exact absurd (h) (b01_eq0.mp h11)
  · refine r_iload_n rfl rfl ?_
    refine r_i2l rfl ?_
    refine r_lconst rfl ?_
    refine r_ldc2_w rfl ?_
    refine r_callS rfl (by decide) ct_X11_in rfl rfl (am_cnt rfl) ?_
    refine r_if_ne rfl (fun h23 => ?_) (fun h23 => ?_)
    · refine r_iload_n rfl rfl ?_
      refine r_aload_n rfl rfl ?_
      refine r_iload_n rfl rfl ?_
      refine r_callV rfl (ct_X11_lateOf ⟨h.2.1.1, h2.1⟩) rfl rfl rfl (by decide) rfl (am_cnt rfl) ?_
      refine r_isub rfl ?_
      refine r_istore (L2 := [_, _, _, _, _]) rfl rfl ?_
      refine r_iload rfl rfl ?_
      refine r_if_lt rfl (fun h39 => ?_) (fun h39 => ?_)
      · rw [if_pos (Or.inl h39)]
        refine r_bipush rfl ?_
        refine r_goto rfl ?_
        refine r_iret rfl rfl ?_
        exact ⟨rfl, rfl⟩
      · refine r_aload_n rfl rfl ?_
        refine r_getC rfl rfl (by decide) (by decide) rfl ?_
        refine r_iload_n rfl rfl ?_
        refine r_iald rfl rfl (by first | decide | assumption) (by first | exact h.1.1 | exact h1.1) (by first | exact h.1.1 | exact h1.1) ?_
        refine r_iload_n rfl rfl ?_
        refine r_callS rfl (by decide) ct_X11_has rfl rfl (am_cnt rfl) ?_
        refine r_if_ne rfl (fun h52 => ?_) (fun h52 => ?_)
        · rw [if_neg (fun z => z.elim h39 (fun y => h52 (b01_f y)))]
          refine r_iload rfl rfl ?_
          refine r_iret rfl rfl ?_
          exact ⟨rfl, rfl⟩
        · rw [if_pos (Or.inr (b01_eq0.mp h52))]
          refine r_bipush rfl ?_
          refine r_goto rfl ?_
          refine r_iret rfl rfl ?_
          exact ⟨rfl, rfl⟩
    · simp only [b01_eq0, wl_m999, wg_m999, wl_m99, wg_m99, wl_m50, wg_m50, wl_m1, wg_m1, wl_0, wg_0, wl_1, wg_1, wl_2, wg_2, wl_3, wg_3, wl_4, wg_4, wl_6, wg_6, wl_9, wg_9, wl_10, wg_10, wl_11, wg_11, wl_20, wg_20, wl_48, wg_48, wl_50, wg_50, wl_57, wg_57, wl_99, wg_99, wl_100, wg_100, wl_199, wg_199, wl_222, wg_222, wl_999, wg_999, wl_9999, wg_9999, fa_wide_le] at h23
      exact absurd hm h23
theorem wasN {d : Nat} {S : am_S} {k p m : Nat} (hk : k < 4) (hp : p < 6) (hm : m < 200) : am_CT (d + 2) iX11_wasOf [.ref 97, .int (nI k), .int (nI p), .int (nI m)] S (some (.int (gI S 110 (gAt k p m)))) S := by
  have e := ct_X11_wasOf (d := d) (S := S) (k := k) (p := p) (m := nI m) hk hp (nI_lt (b := 200) hm (by omega))
  rw [show mWas S k p (nI m) = gI S 110 (gAt k p m) from by rw [mWas, if_neg (nI_pos (by omega)), nI_clamp (by omega)]] at e
  exact e
theorem ct_X11_echo_no {d : Nat} {S T : am_S} {p : Int32} (hT : uI S 97 0 0 = T) (hz : 0 ≤ gI T 97 3) (h : ¬ hasM T p) : am_CT (d + 3) iX11_echo [.ref 97, .int p] S (some (.int (-1))) (T) := by
  refine am_CT_in mmX11_echo rfl rfl rfl ?_
  refine r_aload_n rfl rfl ?_
  refine r_iconst rfl ?_
  refine r_putI rfl rfl (by decide) (by decide) rfl ?_
  try rw [hT]
  refine r_aload_n rfl rfl ?_
  refine r_iload_n rfl rfl ?_
  refine r_callV rfl (ct_X11_isPerson hz) rfl rfl rfl (by decide) rfl (am_cnt rfl) ?_
  refine r_if_ne rfl (fun h10 => ?_) (fun h10 => ?_)
  · exact (h10 (b01_f (h))).elim
  · refine r_iconst rfl ?_
    refine r_iret rfl rfl ?_
    exact ⟨rfl, rfl⟩
abbrev ecM (S : am_S) (p : Nat) : Nat → Int32 × Int32 × Int32 := echoI (fun m => gI S 110 (gAt 1 p m)) (fun m => gI S 110 (gAt 2 p m))
theorem ct_X11_echo_ok {d : Nat} {S T : am_S} {n nw p : Nat} (hT : uI S 97 0 0 = T) (hn : gI T 97 3 = nI n) (hz : n ≤ 6) (hnw : gI T 97 23 = nI nw) (hw : nw ≤ 199) (hp : p < n) : am_CT (d + 3) iX11_echo [.ref 97, .int (nI p)] S (some (.int (ecM T p nw).1)) (e1 T (ecM T p nw).2.1.toInt64) := by
  refine am_CT_in mmX11_echo rfl rfl rfl ?_
  have c3 := hasM_nI hn hz hp
  have loop : ∀ (k : Nat) (j : Nat) (a : Int32) (b : Int32) (c : Int32) (v6 : Option Value) (v7 : Option Value), (j ≤ nw) → (nw < j + k) → ((a, b, c) = ecM T p j) → am_Ex (am_Call am_MT (d + 2)) mmX11_echo none (fun r1 G1 => r1 = (some (.int (ecM T p nw).1)) ∧ G1 = am_H (e1 T (ecM T p nw).2.1.toInt64)) (fun _ _ _ _ _ _ => False) 25 [some (.ref 97), some (.int (nI p)), some (.int a), some (.int c), some (.int b), some (.int (nI j)), v6, v7] [] (am_H (T)) 0 0 := by
    intro k
    induction k with
    | zero =>
      intro j a b c v6 v7 h1 h2 h3
      omega
    | succ k ih =>
      intro j a b c v6 v7 h1 h2 h3
      refine r_iload rfl rfl ?_
      refine r_aload_n rfl rfl ?_
      refine r_getI rfl rfl (by decide) (by decide) rfl ?_
      rw [hnw]
      refine r_icmp_ge rfl (fun h31 => ?_) (fun h31 => ?_)
      · rw [nI_leI (by omega) (by omega)] at h31
        obtain rfl : j = nw := by omega
        refine r_aload_n rfl rfl ?_
        refine r_iconst rfl ?_
        refine r_putI rfl rfl (by decide) (by decide) rfl ?_
        refine r_aload_n rfl rfl ?_
        refine r_iload rfl rfl ?_
        refine r_i2l rfl ?_
        refine r_callV rfl (ct_X11_enters u971 (by decide)) rfl rfl rfl (by decide) rfl (am_cnt rfl) ?_
        refine r_iload_n rfl rfl ?_
        refine r_iret rfl rfl ?_
        rw [← h3]
        exact ⟨rfl, rfl⟩
      · rw [nI_leI (by omega) (by omega)] at h31
        refine r_aload_n rfl rfl ?_
        refine r_iconst rfl ?_
        refine r_iload_n rfl rfl ?_
        refine r_iload rfl rfl ?_
        refine r_callV rfl (wasN (k := 1) (by omega) (by omega) (by omega)) rfl rfl rfl (by decide) rfl (am_cnt rfl) ?_
        refine r_istore (L2 := [_, _, _, _, _, _, _, _]) rfl rfl ?_
        refine r_iload rfl rfl ?_
        refine r_if_eq rfl (fun h46 => ?_) (fun h46 => ?_)
        · have hc : ¬ (¬ gI T 110 (gAt 1 p j) = 0 ∧ gI T 110 (gAt 1 p j) = gI T 110 (gAt 2 p j)) := fun z => z.1 h46
          refine r_iconst rfl ?_
          refine r_istore (L2 := [_, _, _, _, _, _, _, _]) rfl rfl ?_
          refine r_iload_n rfl rfl ?_
          refine r_iload rfl rfl ?_
          refine r_callS rfl (by decide) (ct_X11_flag (by simp)) rfl rfl (am_cnt rfl) ?_
          refine r_iadd rfl ?_
          refine r_istore_n (L2 := [_, _, _, _, _, _, _, _]) rfl rfl ?_
          refine r_iload rfl rfl ?_
          refine r_if_eq rfl (fun h79 => ?_) (fun h79 => ?_)
          · refine r_iconst rfl ?_
            refine r_istore_n (L2 := [_, _, _, _, _, _, _, _]) rfl rfl ?_
            refine r_iload rfl rfl ?_
            refine r_iload_n rfl rfl ?_
            refine r_max rfl (am_cnt rfl) ?_
            refine r_istore (L2 := [_, _, _, _, _, _, _, _]) rfl rfl ?_
            refine r_iinc (L2 := [_, _, _, _, _, _, _, _]) rfl rfl rfl ?_
            refine r_goto rfl ?_
            rw [nI_1]
            exact ih (j + 1) _ _ _ _ _ (by omega) (by omega) (by
              show _ = echoI (fun m => gI T 110 (gAt 1 p m)) (fun m => gI T 110 (gAt 2 p m)) (j + 1)
              rw [echoI, show echoI (fun m => gI T 110 (gAt 1 p m)) (fun m => gI T 110 (gAt 2 p m)) j = (a, b, c) from h3.symm]
              first | (simp only [if_pos hc]; rfl) | (simp only [if_neg hc]; rfl))
          · exact absurd rfl h79
        · refine r_iload rfl rfl ?_
          refine r_aload_n rfl rfl ?_
          refine r_iconst rfl ?_
          refine r_iload_n rfl rfl ?_
          refine r_iload rfl rfl ?_
          refine r_callV rfl (wasN (k := 2) (by omega) (by omega) (by omega)) rfl rfl rfl (by decide) rfl (am_cnt rfl) ?_
          refine r_icmp_ne rfl (fun h59 => ?_) (fun h59 => ?_)
          · have hc : ¬ (¬ gI T 110 (gAt 1 p j) = 0 ∧ gI T 110 (gAt 1 p j) = gI T 110 (gAt 2 p j)) := fun z => h59 z.2
            refine r_iconst rfl ?_
            refine r_istore (L2 := [_, _, _, _, _, _, _, _]) rfl rfl ?_
            refine r_iload_n rfl rfl ?_
            refine r_iload rfl rfl ?_
            refine r_callS rfl (by decide) (ct_X11_flag (by simp)) rfl rfl (am_cnt rfl) ?_
            refine r_iadd rfl ?_
            refine r_istore_n (L2 := [_, _, _, _, _, _, _, _]) rfl rfl ?_
            refine r_iload rfl rfl ?_
            refine r_if_eq rfl (fun h79 => ?_) (fun h79 => ?_)
            · refine r_iconst rfl ?_
              refine r_istore_n (L2 := [_, _, _, _, _, _, _, _]) rfl rfl ?_
              refine r_iload rfl rfl ?_
              refine r_iload_n rfl rfl ?_
              refine r_max rfl (am_cnt rfl) ?_
              refine r_istore (L2 := [_, _, _, _, _, _, _, _]) rfl rfl ?_
              refine r_iinc (L2 := [_, _, _, _, _, _, _, _]) rfl rfl rfl ?_
              refine r_goto rfl ?_
              rw [nI_1]
              exact ih (j + 1) _ _ _ _ _ (by omega) (by omega) (by
                show _ = echoI (fun m => gI T 110 (gAt 1 p m)) (fun m => gI T 110 (gAt 2 p m)) (j + 1)
                rw [echoI, show echoI (fun m => gI T 110 (gAt 1 p m)) (fun m => gI T 110 (gAt 2 p m)) j = (a, b, c) from h3.symm]
                first | (simp only [if_pos hc]; rfl) | (simp only [if_neg hc]; rfl))
            · exact absurd rfl h79
          · have hc : ¬ gI T 110 (gAt 1 p j) = 0 ∧ gI T 110 (gAt 1 p j) = gI T 110 (gAt 2 p j) := ⟨h46, h59⟩
            refine r_iconst rfl ?_
            refine r_goto rfl ?_
            refine r_istore (L2 := [_, _, _, _, _, _, _, _]) rfl rfl ?_
            refine r_iload_n rfl rfl ?_
            refine r_iload rfl rfl ?_
            refine r_callS rfl (by decide) (ct_X11_flag (by simp)) rfl rfl (am_cnt rfl) ?_
            refine r_iadd rfl ?_
            refine r_istore_n (L2 := [_, _, _, _, _, _, _, _]) rfl rfl ?_
            refine r_iload rfl rfl ?_
            refine r_if_eq rfl (fun h79 => ?_) (fun h79 => ?_)
            · exact absurd h79 (by decide)
            · refine r_iload_n rfl rfl ?_
              refine r_iconst rfl ?_
              refine r_iadd rfl ?_
              refine r_goto rfl ?_
              refine r_istore_n (L2 := [_, _, _, _, _, _, _, _]) rfl rfl ?_
              refine r_iload rfl rfl ?_
              refine r_iload_n rfl rfl ?_
              refine r_max rfl (am_cnt rfl) ?_
              refine r_istore (L2 := [_, _, _, _, _, _, _, _]) rfl rfl ?_
              refine r_iinc (L2 := [_, _, _, _, _, _, _, _]) rfl rfl rfl ?_
              refine r_goto rfl ?_
              rw [nI_1]
              exact ih (j + 1) _ _ _ _ _ (by omega) (by omega) (by
                show _ = echoI (fun m => gI T 110 (gAt 1 p m)) (fun m => gI T 110 (gAt 2 p m)) (j + 1)
                rw [echoI, show echoI (fun m => gI T 110 (gAt 1 p m)) (fun m => gI T 110 (gAt 2 p m)) j = (a, b, c) from h3.symm]
                first | (simp only [if_pos hc]; rfl) | (simp only [if_neg hc]; rfl))
  refine r_aload_n rfl rfl ?_
  refine r_iconst rfl ?_
  refine r_putI rfl rfl (by decide) (by decide) rfl ?_
  try rw [hT]
  refine r_aload_n rfl rfl ?_
  refine r_iload_n rfl rfl ?_
  refine r_callV rfl (ct_X11_isPerson (zM hn hz)) rfl rfl rfl (by decide) rfl (am_cnt rfl) ?_
  refine r_if_ne rfl (fun h10 => ?_) (fun h10 => ?_)
  · refine r_iconst rfl ?_
    refine r_istore_n (L2 := [_, _, _, _, _, _, _, _]) rfl rfl ?_
    refine r_iconst rfl ?_
    refine r_istore_n (L2 := [_, _, _, _, _, _, _, _]) rfl rfl ?_
    refine r_iconst rfl ?_
    refine r_istore (L2 := [_, _, _, _, _, _, _, _]) rfl rfl ?_
    refine r_iconst rfl ?_
    refine r_istore (L2 := [_, _, _, _, _, _, _, _]) rfl rfl ?_
    exact loop (nw + 1) 0 _ _ _ none none (by omega) (by omega) rfl
  · exact absurd (c3) (b01_eq0.mp h10)
