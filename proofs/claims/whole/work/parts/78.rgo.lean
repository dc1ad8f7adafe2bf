/-! Joint calls: go, does, was, crossed. -/
/-- the reference's cells are as they were -/
def Kr (S T : am_S) : Prop := ∀ o k, 97 ≤ o → ¬ scr o k → gI T o k = gI S o k
theorem Kp.r97 {S T : am_S} (h : Kp S T) : Kr S T := fun o k _ hs => h.1 o k hs
def fzS (S : am_S) (i : Nat) : Nat := (gI S (18 + 3 * i) 1).toNatClampNeg
def fsS (S : am_S) (i : Nat) : Nat → Int32 := gI S (18 + 3 * i + 1)
theorem rc_fz {S : am_S} {n nw i : Nat} (R : RC S n nw) (hi : i < 12) : gI S (18 + 3 * i) 1 = nI (fzS S i) ∧ FmOk S i (fsS S i) (fzS S i) 6 := by
  obtain ⟨L, a, b⟩ := R.2.2.2.2.2.2.1 i hi
  have hL : L ≤ 40 := b.2.2.1
  have e : fzS S i = L := by
    unfold fzS
    rw [a, nI_clamp (by omega)]
  rw [e]
  exact ⟨a, b⟩
theorem rc_f40 {S : am_S} {n nw i : Nat} (R : RC S n nw) (hi : i < 12) : fzS S i ≤ 40 := (rc_fz R hi).2.2.2.1
theorem rc_Wf {S : am_S} {n nw : Nat} (R : RC S n nw) : Wf (fsS S) (fzS S) S := fun i hi => ⟨(rc_fz R hi).2.2.2, fun _ => rfl⟩
theorem rc_bm {S : am_S} {n nw : Nat} (R : RC S n nw) : gI S 1 5 = gI S 97 11 ∧ gI S 1 6 = gI S 97 12 ∧ (-99 ≤ gI S 1 4 ∧ gI S 1 4 ≤ 99) := by
  obtain ⟨da, dn, up, a1, a2, a3, a4, a5, a6, a7, a8⟩ := R.2.2.2.1
  refine ⟨by rw [a5, a6], by rw [a7, a8], ?_⟩
  rw [a3]
  have h1 : 0 ≤ nI da := nI_pos' (by omega)
  have h2 : nI da ≤ nI 198 := nI_le a1 (by decide)
  have e : nI 198 = 198 := rfl
  rw [e] at h2
  constructor <;> grind
theorem rc_Cn {S T : am_S} {n nw : Nat} (R : RC S n nw) (k : Kr S T) : Cn S T := by
  obtain ⟨b1, b2, -⟩ := rc_bm R
  refine ⟨by rw [k 97 10 (by omega) (by unfold scr; omega), rc_due R], by rw [k 97 11 (by omega) (by unfold scr; omega), b1], by rw [k 97 12 (by omega) (by unfold scr; omega), b2], fun p hp => ?_⟩
  obtain ⟨a, b, c, e, f, g⟩ := rc_PM R p hp
  obtain ⟨x, -⟩ := R.1.2.2.2 p hp
  rw [k 99 p (by omega) (by unfold scr; omega), k 100 p (by omega) (by unfold scr; omega), k 102 p (by omega) (by unfold scr; omega)]
  exact ⟨x.1, x.2.1, x.2.2.2.1, _, _, a, b, c, e⟩
theorem rc_Sm {S T : am_S} {n nw : Nat} (R : RC S n nw) (k : Kr S T) : Sm 54 n nw S T := by
  have hw := rc_nw R
  have h6 := rc_n6 R
  obtain ⟨b1, b2, b3, b4, b5, b6, b7⟩ := R.2.2.2.2.1
  refine ⟨b2, by rw [k 97 23 (by omega) (by unfold scr; omega), b3], by rw [k 97 9 (by omega) (by unfold scr; omega), b4], by rw [k 97 24 (by omega) (by unfold scr; omega), b5], fun m hm => by rw [k 109 m (by omega) (by unfold scr; omega)]; exact b6 m hm, fun i p m hi hp hm => ?_⟩
  have := gAt_lt hi (show p < 6 by omega) (show m < 200 by omega)
  rw [k 110 _ (by omega) (by unfold scr; omega)]
  exact (b7 i p m hi (by omega)).1 hp hm
theorem rc_Zr {S T : am_S} {n nw : Nat} (R : RC S n nw) (k : Kr S T) : Zr 54 n S T := fun i p m hi hp hn hm => by
  have := gAt_lt hi hp hm
  rw [k 110 _ (by omega) (by unfold scr; omega)]
  exact (R.2.2.2.2.1.2.2.2.2.2.2 i p m hi hp).2 hn hm
theorem dg2_12 : ∀ p, p < 6 → dg2 p < 12 := fun p hp => by
  show 2 * p < 12
  omega
theorem rc_Cfg {S : am_S} {n nw : Nat} (R : RC S n nw) : CfgOk n dg2 (fzS S) S := ⟨rc_n1 R, rc_n6 R, fun p hp => ⟨(R.2.2.2.2.2.2.2.2.1 p hp).1, dg2_12 p hp⟩, fun i hi => ⟨(rc_fz R hi).1, rc_f40 R hi⟩⟩
theorem rc_Pas {S : am_S} {n nw : Nat} (R : RC S n nw) : PasOk 54 n nw dg2 (fzS S) S := ⟨rc_n1 R, rc_n6 R, rc_w1 R, (rc_Cfg R).2.2.1, (rc_Cfg R).2.2.2⟩
theorem rc_MC {S T : am_S} {n nw : Nat} (R : RC S n nw) (k : Kr S T) : MCfg T n nw (ltS S) (stS S) (thS S) dg2 (fsS S) (fzS S) := by
  refine ⟨by rw [k 97 3 (by omega) (by unfold scr; omega), rc_n2 R], rc_n6 R, by rw [k 97 23 (by omega) (by unfold scr; omega), rc_w2 R], fun p hp => ?_, fun p hp => ⟨dg2_12 p hp, Or.inr ⟨?_, rfl⟩⟩, fun i hi => ?_⟩
  · rw [k 99 p (by omega) (by unfold scr; omega), k 100 p (by omega) (by unfold scr; omega), k 101 p (by omega) (by unfold scr; omega)]
    exact rc_PM R p hp
  · rw [k 111 p (by omega) (by unfold scr; omega)]
    exact (R.2.2.2.2.2.2.2.2.1 p hp).2
  · exact FmOk_c (S := S) (k 105 i (by omega) (by unfold scr; omega)) (fun j hj => k 104 _ (by omega) (by unfold scr; omega)) (fun _ => rfl) (rc_fz R hi).2
section PASR
variable {S : am_S} {o n nw : Nat} {dg fz : Nat → Nat}
theorem perS_R : ∀ j, (perS o n nw dg fz S j).2 = S.2
  | 0 => rfl
  | j + 1 => by
    have e : (perS o n nw dg fz S (j + 1)).2 = (perS o n nw dg fz S j).2 := rfl
    rw [e, perS_R j]
theorem wndS_R {P : am_S} : (wndS o P).2 = P.2 := by
  unfold wndS
  split <;> rfl
theorem minC_R : (minC o n nw dg fz S).2 = S.2 := by
  have e : (minC o n nw dg fz S).2 = (wndS o (perS o n nw dg fz S n)).2 := rfl
  rw [e, wndS_R, perS_R]
theorem pasC_R : ∀ i, (pasC o n nw dg fz S i).2 = S.2
  | 0 => rfl
  | i + 1 => by
    rw [pasC, minC_R, pasC_R i]
theorem minC_k {k : Nat} (ho : 53 < o) (hd : ∀ p, p < 6 → dg p < 12) (hn : n ≤ 6) (h0 : k ≠ 0) (h2 : k ≠ 2) : gI (minC o n nw dg fz S) o k = gI S o k := by
  rw [minC, gI_un (fun _ z => h0 z), gI_un (by omega), wndS_now h2, perS_stay ho hd (by omega) (by omega) (by omega) n hn]
theorem pasC_k {k : Nat} (ho : 53 < o) (hd : ∀ p, p < 6 → dg p < 12) (hn : n ≤ 6) (h0 : k ≠ 0) (h2 : k ≠ 2) : ∀ i, gI (pasC o n nw dg fz S i) o k = gI S o k
  | 0 => rfl
  | i + 1 => by rw [pasC, minC_k ho hd hn h0 h2, pasC_k ho hd hn h0 h2 i]
end PASR
theorem gJ_2 {S T : am_S} (h : T.2 = S.2) (o k : Nat) : gJ T o k = gJ S o k := by
  unfold gJ
  rw [h]
theorem gR_2 {S T : am_S} (h : T.2 = S.2) (c : Nat) : gR T c = gR S c := by
  unfold gR
  rw [h]
theorem jn_go {d : Nat} {S : am_S} (R : RM S) (m : Int32) (h : 0 ≤ m ∧ m ≤ 199) : Jn0 (d + 700) iX10_go [.ref 0, .int m] iX11_go [.ref 97, .int m] S := by
  obtain ⟨n, nw, c, tl⟩ := R
  obtain ⟨m, hm, rfl⟩ := in_nI (m := 199) (by decide) h
  have h6 := rc_n6 c
  have hw := rc_nw c
  have A : am_CT (d + 700) _ _ _ _ _ := ct_X10_go_ok (rc_Pas c) hw hm
  generalize hi : min m (199 - nw) = i at A
  have hi2 : nw + i ≤ 199 := by omega
  have st : ∀ a, a ≠ 5 → (a < 18 ∨ 53 < a ∨ a % 3 ≠ 2) → (a < 54 ∨ 59 < a) → gI (pasC 54 n nw dg2 (fzS S) S i) a = gI S a := fun a h1 h2 h3 => pasC_stay (by decide) dg2_12 h6 h1 h2 (by omega) i
  have s54 : ∀ k, k ≠ 0 → k ≠ 2 → gI (pasC 54 n nw dg2 (fzS S) S i) 54 k = gI S 54 k := fun k h0 h2 => pasC_k (by decide) dg2_12 h6 h0 h2 i
  have s2 : (pasC 54 n nw dg2 (fzS S) S i).2 = S.2 := pasC_R i
  have sim0 := fun (B U : am_S) (hc : Cn S B) (hs : Sm 54 n nw S B) (hU : PasM n nw dg2 (fsS S) (fzS S) B i U) => pas_sm (by decide) hc hs h6 (rc_Wf c) dg2_12 i U hi2 hU
  generalize pasC 54 n nw dg2 (fzS S) S i = C at A st s54 s2 sim0
  have kr : Kr S (uI C 97 0 0) := fun o k ho hs => by
    rw [gI_un (fun z1 z2 => hs (by unfold scr; omega)), st o (by omega) (by omega) (by omega)]
  have sim := fun (U : am_S) (hU : PasM n nw dg2 (fsS S) (fzS S) (uI C 97 0 0) i U) => sim0 _ U (rc_Cn c kr) (rc_Sm c kr) hU
  have B : am_CE (d + 700) _ _ _ _ _ := ct_X11_go_ok (S := C) (m := m) (x := gI C 55 (nw + i)) rfl (rc_MC c kr) hw hm (by
    rw [hi]
    exact fun U hU => ((sim U hU).1.2.2.2.2.1 (nw + i) (Nat.le_refl _)).symm)
  rw [hi] at B
  refine jn_TE A B (fun U hU => ?_)
  obtain ⟨⟨a1, a2, a3, a4, a5, a6⟩, -, -, zr⟩ := sim U hU
  have zr := zr (rc_Zr c kr)
  have fr := pasM_fr i U hU
  have f1 : ∀ o, o ≠ 97 → o ≠ 106 → o ≠ 108 → o ≠ 109 → o ≠ 110 → gI U o = gI C o := fun o b1 b2 b3 b4 b5 => by rw [fr.1 o b1 b2 b3 b4 b5, gI_uI_ne b1]
  refine ⟨?_, by rw [fr.2.1 0 (by decide) (by decide), gI_at]⟩
  refine ⟨n, nw + i, rc_crs (S := S) (fun o k hs hx => ?_) (fun x => ?_) c ⟨hi2, ?_, a2, ?_, ?_, fun m hm => ?_, fun k p m hk hp => ⟨fun h1 h2 => ?_, fun h1 h2 => ?_⟩⟩, rTld_c (S := S) ?_ ?_ (fun j => ?_) (fun j => ?_) tl⟩
  · by_cases z : o = 97
    · subst z
      rw [fr.2.1 k (fun z => hx (by unfold xCrs; omega)) (fun z => hx (by unfold xCrs; omega)), gI_un (fun _ z => hs (by unfold scr; omega)), st 97 (by decide) (by decide) (by decide)]
    · have e1 : o ≠ 106 := fun z => hs (by unfold scr; omega)
      have e2 : o ≠ 108 := fun z => hs (by unfold scr; omega)
      have e3 : o ≠ 109 := fun z => by unfold scr at hs; unfold xCrs at hx; omega
      have e4 : o ≠ 110 := fun z => by unfold scr at hs; unfold xCrs at hx; omega
      rw [f1 o z e1 e2 e3 e4]
      by_cases y : o = 54
      · subst y
        unfold xCrs at hx
        rw [s54 k (by omega) (by omega)]
      · unfold scr at hs
        unfold xCrs at hx
        rw [st o (by omega) (by omega) (by omega)]
  · rw [fr.2.2.2 x]
    exact gR_2 s2 x
  · rw [f1 54 (by decide) (by decide) (by decide) (by decide) (by decide)]
    exact a1
  · rw [f1 54 (by decide) (by decide) (by decide) (by decide) (by decide)]
    exact a3
  · rw [f1 54 (by decide) (by decide) (by decide) (by decide) (by decide)]
    exact a4
  · rw [f1 55 (by decide) (by decide) (by decide) (by decide) (by decide)]
    exact a5 m hm
  · rw [f1 (56 + k) (by omega) (by omega) (by omega) (by omega) (by omega)]
    exact a6 k p m hk h1 h2
  · rw [f1 (56 + k) (by omega) (by omega) (by omega) (by omega) (by omega)]
    exact zr k p m hk hp h1 h2
  · rw [f1 74 (by decide) (by decide) (by decide) (by decide) (by decide), st 74 (by decide) (by decide) (by decide)]
  · rw [fr.2.1 1 (by decide) (by decide), gI_un (by omega), st 97 (by decide) (by decide) (by decide)]
  · rw [fr.2.2.1 75]
    exact gJ_2 s2 75 j
  · rw [fr.2.2.1 98]
    exact gJ_2 s2 98 j
theorem kn_rI {S : am_S} {a : Nat} {g : Nat → Int32} (h : ∀ k, scr a k) (h1 : a ≠ 74) (h2 : a ≠ 97) : Kn S (rI S a g) := ⟨kp_r h, by rw [gI_rI_ne (fun z => h1 z.symm)], by rw [gI_rI_ne (fun z => h2 z.symm)], fun _ => rfl, fun _ => rfl⟩
theorem kn_lk {S : am_S} {o n p : Nat} : Kn S (lkS o n S p) := kn_rI (fun k => by unfold scr; omega) (by decide) (by decide)
theorem kn_vS {S : am_S} {i f : Nat} (hi : i < 12) : Kn S (vS S i f) := kn_rI (fun k => by unfold scr; omega) (by omega) (by omega)
theorem jn_does {d : Nat} {S : am_S} (R : RM S) (p w : Int32) (h : hasP S p ∧ 0 ≤ w ∧ w ≤ 1) : Jn0 (d + 700) iX10_does [.ref 0, .int p, .int w] iX11_does [.ref 97, .int p, .int w] S := by
  have R0 := R
  obtain ⟨n, nw, c, tl⟩ := R
  have h6 := rc_n6 c
  have hw := rc_nw c
  obtain ⟨hp, hw2⟩ := h
  obtain ⟨i, hi, rfl⟩ := rc_hasN c hp
  obtain ⟨w, hw1, rfl⟩ := in_nI (m := 1) (by decide) hw2
  match w, hw1 with
  | 0, _ =>
    have A : am_CT (d + 700) _ _ _ _ _ := ct_X10_does_0 (rc_Pas c) hi
    have k1 : Kn S (uI (ddS 54 n dg2 (fzS S) S i) 97 0 0) := (kn_lk.t (kn_vS (dg2_12 i (by omega)))).t kn_th
    have B : am_CE (d + 700) _ _ _ _ _ := ct_X11_does_0 (S := ddS 54 n dg2 (fzS S) S i) rfl (rc_MC c k1.1.r97) hw hi
    rw [← dd_eq (rc_Cn c k1.1.r97) (rc_Sm c k1.1.r97) h6 hw (rc_Wf c) dg2_12 hi] at B
    exact jn_TE A B (fun U hU => ⟨rm_kn (k1.t (kn_frD hU)) R0, by rw [hU.1 97 (by decide) (by decide), gI_at]⟩)
  | 1, _ =>
    have A : am_CT (d + 700) _ _ _ _ _ := ct_X10_does_1 (rc_Pas c) hi
    have h12 : 2 * i + 1 < 12 := by omega
    have k1 : Kn S (uI (vS (lkS 54 n S i) (2 * i + 1) (fzS S (2 * i + 1))) 97 0 0) := (kn_lk.t (kn_vS h12)).t kn_th
    have B : am_CE (d + 700) _ _ _ _ _ := ct_X11_does_1 (S := vS (lkS 54 n S i) (2 * i + 1) (fzS S (2 * i + 1))) rfl (rc_MC c k1.1.r97) hw hi
    have e : spM (uI (vS (lkS 54 n S i) (2 * i + 1) (fzS S (2 * i + 1))) 97 0 0) n nw (fsS S) (fzS S) i = fPut (vV (lkS 54 n S i) (2 * i + 1) (fzS S (2 * i + 1))) 99 := by
      unfold spM vV wv
      have e5 : gI (lkS 54 n S i) 5 = lookG S 54 n (nI i) := by rw [lkS, gI_rI_eq]
      have e6 : gI (lkS 54 n S i) (18 + 3 * (2 * i + 1) + 1) = fsS S (2 * i + 1) := by
        rw [lkS, gI_rI_ne (by omega)]
        rfl
      rw [e5, e6]
      congr 1
      exact (fVal_ind (rc_Wf c _ h12).1 (fun j hj => lk_eq (rc_Cn c k1.1.r97) (rc_Sm c k1.1.r97) h6 hw hi j hj) (by omega)).symm
    rw [e] at B
    exact jn_TE A B (fun U hU => ⟨rm_kn (k1.t (kn_frD hU)) R0, by rw [hU.1 97 (by decide) (by decide), gI_at]⟩)
theorem jn_was {d : Nat} {S : am_S} (R : RM S) (p m w : Int32) (h : hasP S p ∧ (0 ≤ m ∧ m ≤ gI S 54 0 - 1) ∧ 0 ≤ w ∧ w ≤ 3) : Jn0 (d + 700) iX10_was [.ref 0, .int p, .int m, .int w] iX11_was [.ref 97, .int p, .int m, .int w] S := by
  have R0 := R
  obtain ⟨n, nw, c, tl⟩ := R
  have h6 := rc_n6 c
  have hw := rc_nw c
  obtain ⟨hp, hm, hw2⟩ := h
  obtain ⟨i, hi, rfl⟩ := rc_hasN c hp
  obtain ⟨w, hw1, rfl⟩ := in_nI (m := 3) (by decide) hw2
  rw [rc_w1 c] at hm
  have hn0 : 1 ≤ nw := by
    apply Decidable.byContradiction
    intro z
    obtain rfl : nw = 0 := by omega
    exact absurd (Int32.le_trans hm.1 hm.2) (by decide)
  have e1 : nI nw - 1 = nI (nw - 1) := pk_sub (b := 1) hn0
  rw [e1] at hm
  obtain ⟨m, hm2, rfl⟩ := in_nI (m := nw - 1) (by omega) hm
  have A : am_CT (d + 700) _ _ _ _ _ := ct_X10_was_ok (k := w) (rc_n1 c) h6 (rc_w1 c) hw hi (m := m) (by omega) (by omega)
  have B : am_CT (d + 700) _ _ _ _ _ := ct_X11_was_ok (S := S) (w := w) rfl (rc_n2 (rc_k kp_th c)) h6 (rc_w2 (rc_k kp_th c)) hw hi (m := m) (by omega) (by omega)
  have e : gI (uI S 97 0 0) 110 (gAt w i m) = gI S (56 + w) (i * 200 + m) := did_eq c kp_th (by omega) hi (by omega)
  rw [e] at B
  exact jn_TT A B ⟨rm_no R0, gI_at⟩
/-! crossed -/
theorem sumI_first (f : Nat → Int32) : ∀ k, sumI f (k + 1) = f 0 + sumI (fun t => f (t + 1)) k
  | 0 => by
    show 0 + f 0 = f 0 + 0
    rw [Int32.zero_add, Int32.add_zero]
  | k + 1 => by
    rw [sumI, sumI_first f k, sumI, Int32.add_assoc]
theorem sumI_add (f g : Nat → Int32) : ∀ n, sumI (fun j => f j + g j) n = sumI f n + sumI g n
  | 0 => rfl
  | n + 1 => by
    rw [sumI, sumI, sumI, sumI_add f g n]
    grind
theorem sumI_z (f : Nat → Int32) : ∀ n, (∀ j, j < n → f j = 0) → sumI f n = 0
  | 0, _ => rfl
  | n + 1, h => by
    rw [sumI, sumI_z f n (fun j hj => h j (by omega)), h n (by omega)]
    rfl
theorem sum_sq (f : Nat → Nat → Int32) (h : ∀ p, f p p = 0) : ∀ n, sumI (fun p => sumI (f p) n) n = sumI (fun p => sumI (fun t => f p (p + 1 + t) + f (p + 1 + t) p) (n - (p + 1))) n
  | 0 => rfl
  | n + 1 => by
    have ih := sum_sq f h n
    have l1 : sumI (fun p => sumI (f p) (n + 1)) n = sumI (fun p => sumI (f p) n) n + sumI (fun p => f p n) n := sumI_add (fun p => sumI (f p) n) (fun p => f p n) n
    have l2 : sumI (f n) (n + 1) = sumI (f n) n := by rw [sumI, h n, Int32.add_zero]
    have r1 : sumI (fun p => sumI (fun t => f p (p + 1 + t) + f (p + 1 + t) p) (n + 1 - (p + 1))) n = sumI (fun p => sumI (fun t => f p (p + 1 + t) + f (p + 1 + t) p) (n - (p + 1))) n + sumI (fun p => f p n + f n p) n := by
      rw [← sumI_add]
      refine sumI_congr n (fun p hp => ?_)
      have e : n + 1 - (p + 1) = n - (p + 1) + 1 := by omega
      have e2 : p + 1 + (n - (p + 1)) = n := by omega
      rw [e, sumI, e2]
    have r2 : sumI (fun t => f n (n + 1 + t) + f (n + 1 + t) n) (n + 1 - (n + 1)) = 0 := by
      rw [Nat.sub_self]
      rfl
    rw [sumI, l1, l2, ih, sumI, r1, r2, sumI_add]
    grind
theorem b01_cg {P Q : Prop} [Decidable P] [Decidable Q] (h : P ↔ Q) : b01 P = b01 Q := if_cg h
/-- words of q too soon behind one of p, as the reference counts them -/
theorem cx_eq {S T : am_S} {n nw p q af : Nat} (hs : ∀ r m, r < n → m < nw → (spkM T r m ↔ spk S r m)) (hp : p < n) (hq : q < n) (ha : 1 ≤ af) {m : Nat} (hm : m < nw) : cxI T p q af nw m = (if p < q then b01 (spk S p m ∧ spk S q m) else 0) + soonI S p q af nw m := by
  unfold cxI soonI
  obtain ⟨k, hk⟩ : ∃ k, min af (nw - m) = k + 1 := ⟨min af (nw - m) - 1, by omega⟩
  have hk2 : min (m + af) nw - (m + 1) = k := by omega
  rw [hk, hk2, sumI_first]
  have e0 : cxT T p q m 0 = if p < q then b01 (spk S p m ∧ spk S q m) else 0 := by
    unfold cxT
    rw [Nat.add_zero]
    by_cases z : p < q
    · rw [if_pos z]
      refine b01_cg ?_
      rw [hs p m hp hm, hs q m hq hm]
      exact ⟨fun y => y.1, fun y => ⟨y, Or.inr z⟩⟩
    · rw [if_neg z]
      exact b01_f (fun y => by
        have := y.2
        omega)
  rw [e0]
  congr 1
  by_cases z : spk S p m
  · rw [if_pos z]
    refine sumI_congr k (fun t ht => ?_)
    unfold cxT
    refine b01_cg ?_
    rw [hs p m hp hm, hs q _ hq (show m + (t + 1) < nw by omega), show m + (t + 1) = m + 1 + t by omega]
    exact ⟨fun y => y.1.2, fun y => ⟨⟨z, y⟩, Or.inl (by omega)⟩⟩
  · rw [if_neg z]
    refine sumI_z _ k (fun t ht => b01_f (fun y => z ?_))
    exact (hs p m hp hm).mp y.1.1
theorem jn_crossed {d : Nat} {S : am_S} (R : RM S) : Jn (d + 700) iX10_crossed [.ref 0] iX11_crossed [.ref 97] S := by
  have R0 := R
  obtain ⟨n, nw, c, tl⟩ := R
  have h6 := rc_n6 c
  have hw := rc_nw c
  have ha : ∀ q, q < n → lateI (gI S 99 q) = nI (max (ltS S q) 1) ∧ max (ltS S q) 1 ≤ 20 := fun q hq => by
    obtain ⟨a, b, -⟩ := rc_PM c q (by omega)
    exact ⟨by rw [a, late_nI b], by omega⟩
  have A : am_CT (d + 700) _ _ _ _ _ := ct_X10_crossed (S := S) (af := fun q => max (ltS S q) 1) (rc_n1 c) h6 (rc_w1 c) hw (fun q hq => by
    rw [(c.1.2.2.2 q (by omega)).1.1]
    exact ha q hq)
  have B : am_CT (d + 700) _ _ _ _ _ := ct_X11_crossed (S := S) (af := fun q => max (ltS S q) 1) rfl (rc_n2 (rc_k kp_th c)) h6 (rc_w2 (rc_k kp_th c)) hw (fun q hq => by
    rw [gI_un (by omega)]
    exact ha q hq)
  have hs : ∀ r m, r < n → m < nw → (spkM (uI S 97 0 0) r m ↔ spk S r m) := fun r m hr hm => by
    unfold spkM spk
    rw [did_eq c kp_th (k := 1) (by decide) hr hm]
  have hN := rc_WN c
  have e : sumI (fun p => sumI (cxQ (uI S 97 0 0) (fun q => max (ltS S q) 1) nw p) n) n = sumI (fun p => sumI (fun t => crosI S (fun q => max (ltS S q) 1) nw p (p + 1 + t)) (n - (p + 1))) n := by
    let f : Nat → Nat → Int32 := fun p q => if p < n ∧ q < n then cxQ (uI S 97 0 0) (fun q => max (ltS S q) 1) nw p q else 0
    have f0 : ∀ p, f p p = 0 := fun p => by
      show (if p < n ∧ p < n then cxQ (uI S 97 0 0) (fun q => max (ltS S q) 1) nw p p else 0) = 0
      by_cases z : p < n ∧ p < n
      · rw [if_pos z]
        unfold cxQ
        refine if_neg (fun y => ?_)
        rw [gI_un (by omega)] at y
        exact (c.2.1 p p (by omega) (by omega) y).2.2.1 rfl
      · exact if_neg z
    have s1 : sumI (fun p => sumI (cxQ (uI S 97 0 0) (fun q => max (ltS S q) 1) nw p) n) n = sumI (fun p => sumI (f p) n) n := sumI_congr n (fun p hp => sumI_congr n (fun q hq => (if_pos (show p < n ∧ q < n from ⟨hp, hq⟩)).symm))
    rw [s1, sum_sq f f0 n]
    refine sumI_congr n (fun p hp => sumI_congr _ (fun t ht => ?_))
    generalize hq : p + 1 + t = q
    have hqn : q < n := by omega
    have hpq : p < q := by omega
    have n1 : fBit (gI (uI S 97 0 0) 102 p) (nI q) ↔ nearP S p q := by
      unfold nearP
      rw [gI_un (by omega), rc_nr c (by omega)]
    have n2 : fBit (gI (uI S 97 0 0) 102 q) (nI p) ↔ nearP S q p := by
      unfold nearP
      rw [gI_un (by omega), rc_nr c (by omega)]
    have g1 : f p q = cxQ (uI S 97 0 0) (fun q => max (ltS S q) 1) nw p q := if_pos ⟨hp, hqn⟩
    have g2 : f q p = cxQ (uI S 97 0 0) (fun q => max (ltS S q) 1) nw q p := if_pos ⟨hqn, hp⟩
    rw [g1, g2]
    unfold cxQ crosI
    by_cases z : nearP S p q
    · have z2 := (hN.2 p q (by omega) (by omega) z).2.2.2
      rw [if_pos (n1.mpr z), if_pos (n2.mpr z2), if_pos z]
      have c1 : sumI (cxI (uI S 97 0 0) p q (max (ltS S q) 1) nw) nw = sumI (fun m => b01 (spk S p m ∧ spk S q m)) nw + sumI (soonI S p q (max (ltS S q) 1) nw) nw := by
        rw [← sumI_add]
        refine sumI_congr nw (fun m hm => ?_)
        rw [cx_eq hs hp hqn (by omega) hm, if_pos hpq]
      have c2 : sumI (cxI (uI S 97 0 0) q p (max (ltS S p) 1) nw) nw = sumI (soonI S q p (max (ltS S p) 1) nw) nw := by
        refine sumI_congr nw (fun m hm => ?_)
        rw [cx_eq hs hqn hp (by omega) hm, if_neg (by omega), Int32.zero_add]
      rw [c1, c2]
    · have z2 : ¬ nearP S q p := fun y => z (hN.2 q p (by omega) (by omega) y).2.2.2
      rw [if_neg (fun y => z (n1.mp y)), if_neg (fun y => z2 (n2.mp y)), if_neg z]
      rfl
  rw [e] at B
  exact jn_TT A B (rm_no R0)
