/-! Joint calls of what may throw: the answer is put into the law's own row between. -/
theorem kn_out {S : am_S} {v : Int64} : Kn S (uJ S 130 0 v) := ⟨kp_uJ, rfl, rfl, fun j => by rw [gJ_uJ, if_neg (by decide)], fun j => by rw [gJ_uJ, if_neg (by decide)]⟩
theorem gJ_out {S : am_S} {v : Int64} : gJ (uJ S 130 0 v) 130 0 = v := by rw [gJ_uJ, if_pos rfl, if_pos rfl]
def JnO {β : Type} (mk : β → Value) (tj : β → Int64) (d mi1 : Nat) (as1 : List Value) (mi2 : Nat) (as2 : List Value) (S : am_S) : Prop := ∃ (x : β) (P : am_S → Prop), CX d mi1 as1 S (some (mk x)) P ∧ ∀ T, P T → ∃ Q : am_S → Prop, CX d mi2 as2 (uJ T 130 0 (tj x)) (some (mk x)) Q ∧ ∀ U, Q U → RM U ∧ gI U 97 0 = 0 ∧ gJ U 130 0 = tj x
theorem jo_TT {β : Type} {mk : β → Value} {tj : β → Int64} {d mi1 mi2 : Nat} {as1 as2 : List Value} {S T : am_S} {U : Int64 → am_S} {x : β} (h1 : am_CT d mi1 as1 S (some (mk x)) T) (h2 : ∀ v, am_CT d mi2 as2 (uJ T 130 0 v) (some (mk x)) (U v)) (hU : ∀ v, RM (U v) ∧ gI (U v) 97 0 = 0 ∧ gJ (U v) 130 0 = v) : JnO mk tj d mi1 as1 mi2 as2 S := ⟨x, _, cx_T h1, fun V hV => by subst hV; exact ⟨_, cx_T (h2 (tj x)), fun W hW => by subst hW; exact hU _⟩⟩
theorem jo_TE {β : Type} {mk : β → Value} {tj : β → Int64} {d mi1 mi2 : Nat} {as1 as2 : List Value} {S T : am_S} {Q : Int64 → am_S → Prop} {x : β} (h1 : am_CT d mi1 as1 S (some (mk x)) T) (h2 : ∀ v, am_CE d mi2 as2 (uJ T 130 0 v) (some (mk x)) (Q v)) (hU : ∀ v U, Q v U → RM U ∧ gI U 97 0 = 0 ∧ gJ U 130 0 = v) : JnO mk tj d mi1 as1 mi2 as2 S := ⟨x, _, cx_T h1, fun V hV => by subst hV; exact ⟨_, cx_E (h2 (tj x)), fun W hW => hU _ _ hW⟩⟩
theorem th_out {S : am_S} (R : RM S) (v : Int64) : RM (uI (uJ S 130 0 v) 97 0 0) ∧ gI (uI (uJ S 130 0 v) 97 0 0) 97 0 = 0 ∧ gJ (uI (uJ S 130 0 v) 97 0 0) 130 0 = v := ⟨rm_kn (kn_out.t kn_th) R, gI_at, gJ_out⟩
theorem jo_place {d : Nat} {S : am_S} (R : RM S) (m : Int32) (h : 0 ≤ m ∧ m ≤ gI S 54 0) : JnO Value.int Int32.toInt64 (d + 700) iX10_place [.ref 0, .int m] iX11_place [.ref 97, .int m] S := by
  have R0 := R
  obtain ⟨n, nw, c, tl⟩ := R
  obtain ⟨b1, b2, b3, b4, b5, b6, b7⟩ := c.2.2.2.2.1
  have A : am_CT (d + 700) _ _ _ _ _ := ct_X10_place_ok (S := S) h
  have z3 : ∀ v, gI (uI (uJ S 130 0 v) 97 0 0) 97 23 = gI S 54 0 := fun v => by
    rw [gI_un (by omega), b2, ← b3]
    rfl
  have B : ∀ v, am_CT (d + 700) _ _ _ _ _ := fun v => ct_X11_place_ok (S := uJ S 130 0 v) (m := m) rfl (by rw [z3]; exact h) (by rw [z3, b2]; exact nI_le (b := 199) b1 (by decide))
  rw [b2] at h
  obtain ⟨k, hk, rfl⟩ := in_nI (by omega) h
  have e : ∀ v, gI (uI (uJ S 130 0 v) 97 0 0) 109 (nI k).toNatClampNeg = fPlace S 54 (nI k) := fun v => by
    rw [fPlace_nI (by omega), nI_clamp (by omega), b6 k hk, gI_un (by omega)]
    rfl
  exact jo_TT A (fun v => by
    have := B v
    rw [e v] at this
    exact this) (th_out R0)
theorem jo_row {d : Nat} {S : am_S} (R : RM S) (i : Int32) (h : 0 ≤ i ∧ i < gI S 74 1) : JnO Value.long id (d + 700) iX10_row [.ref 0, .int i] iX11_row [.ref 97, .int i] S := by
  have R0 := R
  obtain ⟨n, nw, c, tl⟩ := R
  obtain ⟨m, b1, b2, b3, b4⟩ := tl
  have A : am_CT (d + 700) _ _ _ _ _ := ct_X10_row_ok (S := S) h (by rw [b2]; exact nI_le (b := 6) b1 (by decide))
  have z3 : ∀ v, gI (uI (uJ S 130 0 v) 97 0 0) 97 1 = gI S 74 1 := fun v => by
    rw [gI_un (by omega), b2, ← b3]
    rfl
  have B : ∀ v, am_CT (d + 700) _ _ _ _ _ := fun v => ct_X11_row_ok (S := uJ S 130 0 v) (i := i) rfl (by rw [z3]; exact h) (by rw [z3, b2]; exact nI_le (b := 16) (by omega) (by decide))
  rw [b2] at h
  have e : ∀ v, gJ (uI (uJ S 130 0 v) 97 0 0) 98 i.toNatClampNeg = gJ S 75 i.toNatClampNeg := fun v => by
    show gJ (uJ S 130 0 v) 98 i.toNatClampNeg = _
    rw [gJ_uJ, if_neg (by decide)]
    exact (b4 _ (cl_lt h.1 h.2 (by omega))).symm
  exact jo_TT A (fun v => by
    have := B v
    rw [e v] at this
    exact this) (th_out R0)
theorem jo_was {d : Nat} {S : am_S} (R : RM S) (p m w : Int32) (h : hasP S p ∧ (0 ≤ m ∧ m ≤ gI S 54 0 - 1) ∧ 0 ≤ w ∧ w ≤ 3) : JnO Value.int Int32.toInt64 (d + 700) iX10_was [.ref 0, .int p, .int m, .int w] iX11_was [.ref 97, .int p, .int m, .int w] S := by
  have R0 := R
  obtain ⟨n, nw, c, tl⟩ := R
  have h6 := rc_n6 c
  have hw := rc_nw c
  obtain ⟨hp, hm, hw2⟩ := h
  obtain ⟨i, hi, rfl⟩ := rc_hasN c hp
  obtain ⟨w, hw1, rfl⟩ := in_nI (m := 3) (by decide) hw2
  rw [rc_w1 c] at hm
  have hn0 : 1 ≤ nw := by
    apply Decidable.byContradiction
    intro z
    obtain rfl : nw = 0 := by omega
    exact absurd (Int32.le_trans hm.1 hm.2) (by decide)
  have e1 : nI nw - 1 = nI (nw - 1) := pk_sub (b := 1) hn0
  rw [e1] at hm
  obtain ⟨m, hm2, rfl⟩ := in_nI (m := nw - 1) (by omega) hm
  have A : am_CT (d + 700) _ _ _ _ _ := ct_X10_was_ok (k := w) (rc_n1 c) h6 (rc_w1 c) hw hi (m := m) (by omega) (by omega)
  have kk : ∀ v, Kp S (uI (uJ S 130 0 v) 97 0 0) := fun v => kp_uJ.t kp_th
  have B : ∀ v, am_CT (d + 700) _ _ _ _ _ := fun v => ct_X11_was_ok (S := uJ S 130 0 v) (w := w) rfl (rc_n2 (rc_k (kk v) c)) h6 (rc_w2 (rc_k (kk v) c)) hw hi (m := m) (by omega) (by omega)
  have e : ∀ v, gI (uI (uJ S 130 0 v) 97 0 0) 110 (gAt w i m) = gI S (56 + w) (i * 200 + m) := fun v => did_eq c (kk v) (by omega) hi (by omega)
  exact jo_TT A (fun v => by
    have := B v
    rw [e v] at this
    exact this) (th_out R0)
theorem jo_does {d : Nat} {S : am_S} (R : RM S) (p w : Int32) (h : hasP S p ∧ 0 ≤ w ∧ w ≤ 1) : JnO Value.int Int32.toInt64 (d + 700) iX10_does [.ref 0, .int p, .int w] iX11_does [.ref 97, .int p, .int w] S := by
  have R0 := R
  obtain ⟨n, nw, c, tl⟩ := R
  have h6 := rc_n6 c
  have hw := rc_nw c
  obtain ⟨hp, hw2⟩ := h
  obtain ⟨i, hi, rfl⟩ := rc_hasN c hp
  obtain ⟨w, hw1, rfl⟩ := in_nI (m := 1) (by decide) hw2
  match w, hw1 with
  | 0, _ =>
    have A : am_CT (d + 700) _ _ _ _ _ := ct_X10_does_0 (rc_Pas c) hi
    have k1 : ∀ v, Kn S (uI (uJ (ddS 54 n dg2 (fzS S) S i) 130 0 v) 97 0 0) := fun v => ((kn_lk.t (kn_vS (dg2_12 i (by omega)))).t kn_out).t kn_th
    have B : ∀ v, am_CE (d + 700) _ _ _ _ _ := fun v => ct_X11_does_0 (S := uJ (ddS 54 n dg2 (fzS S) S i) 130 0 v) rfl (rc_MC c (k1 v).1.r97) hw hi
    exact jo_TE A (fun v => by
      have := B v
      rw [← dd_eq (rc_Cn c (k1 v).1.r97) (rc_Sm c (k1 v).1.r97) h6 hw (rc_Wf c) dg2_12 hi] at this
      exact this) (fun v U hU => ⟨rm_kn ((k1 v).t (kn_frD hU)) R0, by rw [hU.1 97 (by decide) (by decide), gI_at], by rw [hU.2.1 130]; exact gJ_out⟩)
  | 1, _ =>
    have A : am_CT (d + 700) _ _ _ _ _ := ct_X10_does_1 (rc_Pas c) hi
    have h12 : 2 * i + 1 < 12 := by omega
    have k1 : ∀ v, Kn S (uI (uJ (vS (lkS 54 n S i) (2 * i + 1) (fzS S (2 * i + 1))) 130 0 v) 97 0 0) := fun v => ((kn_lk.t (kn_vS h12)).t kn_out).t kn_th
    have B : ∀ v, am_CE (d + 700) _ _ _ _ _ := fun v => ct_X11_does_1 (S := uJ (vS (lkS 54 n S i) (2 * i + 1) (fzS S (2 * i + 1))) 130 0 v) rfl (rc_MC c (k1 v).1.r97) hw hi
    have e : ∀ v, spM (uI (uJ (vS (lkS 54 n S i) (2 * i + 1) (fzS S (2 * i + 1))) 130 0 v) 97 0 0) n nw (fsS S) (fzS S) i = fPut (vV (lkS 54 n S i) (2 * i + 1) (fzS S (2 * i + 1))) 99 := fun v => by
      unfold spM vV wv
      have e5 : gI (lkS 54 n S i) 5 = lookG S 54 n (nI i) := by rw [lkS, gI_rI_eq]
      have e6 : gI (lkS 54 n S i) (18 + 3 * (2 * i + 1) + 1) = fsS S (2 * i + 1) := by
        rw [lkS, gI_rI_ne (by omega)]
        rfl
      rw [e5, e6]
      congr 1
      exact (fVal_ind (rc_Wf c _ h12).1 (fun j hj => lk_eq (rc_Cn c (k1 v).1.r97) (rc_Sm c (k1 v).1.r97) h6 hw hi j hj) (by omega)).symm
    exact jo_TE A (fun v => by
      have := B v
      rw [e v] at this
      exact this) (fun v U hU => ⟨rm_kn ((k1 v).t (kn_frD hU)) R0, by rw [hU.1 97 (by decide) (by decide), gI_at], by rw [hU.2.1 130]; exact gJ_out⟩)
theorem jo_go {d : Nat} {S : am_S} (R : RM S) (m : Int32) (h : 0 ≤ m ∧ m ≤ 199) : JnO Value.int Int32.toInt64 (d + 700) iX10_go [.ref 0, .int m] iX11_go [.ref 97, .int m] S := by
  obtain ⟨n, nw, c, tl⟩ := R
  obtain ⟨m, hm, rfl⟩ := in_nI (m := 199) (by decide) h
  have h6 := rc_n6 c
  have hw := rc_nw c
  have A : am_CT (d + 700) _ _ _ _ _ := ct_X10_go_ok (rc_Pas c) hw hm
  generalize hi : min m (199 - nw) = i at A
  have hi2 : nw + i ≤ 199 := by omega
  have st : ∀ a, a ≠ 5 → (a < 18 ∨ 53 < a ∨ a % 3 ≠ 2) → (a < 54 ∨ 59 < a) → gI (pasC 54 n nw dg2 (fzS S) S i) a = gI S a := fun a h1 h2 h3 => pasC_stay (by decide) dg2_12 h6 h1 h2 (by omega) i
  have s54 : ∀ k, k ≠ 0 → k ≠ 2 → gI (pasC 54 n nw dg2 (fzS S) S i) 54 k = gI S 54 k := fun k h0 h2 => pasC_k (by decide) dg2_12 h6 h0 h2 i
  have s2 : (pasC 54 n nw dg2 (fzS S) S i).2 = S.2 := pasC_R i
  have sim0 := fun (B U : am_S) (hc : Cn S B) (hs : Sm 54 n nw S B) (hU : PasM n nw dg2 (fsS S) (fzS S) B i U) => pas_sm (by decide) hc hs h6 (rc_Wf c) dg2_12 i U hi2 hU
  generalize pasC 54 n nw dg2 (fzS S) S i = C at A st s54 s2 sim0
  have kr : ∀ v, Kr S (uI (uJ C 130 0 v) 97 0 0) := fun v o k ho hs => by
    rw [gI_un (fun z1 z2 => hs (by unfold scr; omega)), gI_uJ, st o (by omega) (by omega) (by omega)]
  have sim := fun (v : Int64) (U : am_S) (hU : PasM n nw dg2 (fsS S) (fzS S) (uI (uJ C 130 0 v) 97 0 0) i U) => sim0 _ U (rc_Cn c (kr v)) (rc_Sm c (kr v)) hU
  have B : ∀ v, am_CE (d + 700) iX11_go [.ref 97, .int (nI m)] (uJ C 130 0 v) (some (.int (gI C 55 (nw + i)))) (fun U => PasM n nw dg2 (fsS S) (fzS S) (uI (uJ C 130 0 v) 97 0 0) i U) := fun v => by
    have := ct_X11_go_ok (d := d + 693) (S := uJ C 130 0 v) (m := m) (x := gI C 55 (nw + i)) rfl (rc_MC c (kr v)) hw hm (by
      rw [hi]
      exact fun U hU => ((sim v U hU).1.2.2.2.2.1 (nw + i) (Nat.le_refl _)).symm)
    rw [hi] at this
    exact this
  refine jo_TE A B (fun v U hU => ?_)
  obtain ⟨⟨a1, a2, a3, a4, a5, a6⟩, -, -, zr⟩ := sim v U hU
  have zr := zr (rc_Zr c (kr v))
  have fr := pasM_fr i U hU
  have f1 : ∀ o, o ≠ 97 → o ≠ 106 → o ≠ 108 → o ≠ 109 → o ≠ 110 → gI U o = gI C o := fun o b1 b2 b3 b4 b5 => by
    rw [fr.1 o b1 b2 b3 b4 b5, gI_uI_ne b1]
    rfl
  refine ⟨?_, by rw [fr.2.1 0 (by decide) (by decide), gI_at], by rw [fr.2.2.1 130]; exact gJ_out⟩
  refine ⟨n, nw + i, rc_crs (S := S) (fun o k hs hx => ?_) (fun x => ?_) c ⟨hi2, ?_, a2, ?_, ?_, fun m hm => ?_, fun k p m hk hp => ⟨fun h1 h2 => ?_, fun h1 h2 => ?_⟩⟩, rTld_c (S := S) ?_ ?_ (fun j => ?_) (fun j => ?_) tl⟩
  · by_cases z : o = 97
    · subst z
      rw [fr.2.1 k (fun z => hx (by unfold xCrs; omega)) (fun z => hx (by unfold xCrs; omega)), gI_un (fun _ z => hs (by unfold scr; omega)), gI_uJ, st 97 (by decide) (by decide) (by decide)]
    · have e1 : o ≠ 106 := fun z => hs (by unfold scr; omega)
      have e2 : o ≠ 108 := fun z => hs (by unfold scr; omega)
      have e3 : o ≠ 109 := fun z => by unfold scr at hs; unfold xCrs at hx; omega
      have e4 : o ≠ 110 := fun z => by unfold scr at hs; unfold xCrs at hx; omega
      rw [f1 o z e1 e2 e3 e4]
      by_cases y : o = 54
      · subst y
        unfold xCrs at hx
        rw [s54 k (by omega) (by omega)]
      · unfold scr at hs
        unfold xCrs at hx
        rw [st o (by omega) (by omega) (by omega)]
  · rw [fr.2.2.2 x]
    exact gR_2 s2 x
  · rw [f1 54 (by decide) (by decide) (by decide) (by decide) (by decide)]
    exact a1
  · rw [f1 54 (by decide) (by decide) (by decide) (by decide) (by decide)]
    exact a3
  · rw [f1 54 (by decide) (by decide) (by decide) (by decide) (by decide)]
    exact a4
  · rw [f1 55 (by decide) (by decide) (by decide) (by decide) (by decide)]
    exact a5 m hm
  · rw [f1 (56 + k) (by omega) (by omega) (by omega) (by omega) (by omega)]
    exact a6 k p m hk h1 h2
  · rw [f1 (56 + k) (by omega) (by omega) (by omega) (by omega) (by omega)]
    exact zr k p m hk hp h1 h2
  · rw [f1 74 (by decide) (by decide) (by decide) (by decide) (by decide), st 74 (by decide) (by decide) (by decide)]
  · rw [fr.2.1 1 (by decide) (by decide), gI_un (by omega), gI_uJ, st 97 (by decide) (by decide) (by decide)]
  · rw [fr.2.2.1 75]
    show gJ (uJ C 130 0 v) 75 j = _
    rw [gJ_uJ, if_neg (by decide)]
    exact gJ_2 s2 75 j
  · rw [fr.2.2.1 98]
    show gJ (uJ C 130 0 v) 98 j = _
    rw [gJ_uJ, if_neg (by decide)]
    exact gJ_2 s2 98 j
/-! refused by both -/
theorem thr_rm {S : am_S} (R : RM S) : RM (uI (uI S 97 0 0) 97 0 1) ∧ gI (uI (uI S 97 0 0) 97 0 1) 97 0 = 1 := ⟨rm_kn (kn_th.t kn_th) R, gI_at⟩
theorem no_does {d : Nat} {S : am_S} (R : RM S) {p w : Int32} (h : ¬ (hasP S p ∧ 0 ≤ w ∧ w ≤ 1)) : am_CT (d + 700) iX11_does [.ref 97, .int p, .int w] S (some (.int 0)) (uI (uI S 97 0 0) 97 0 1) := by
  obtain ⟨n, nw, c, tl⟩ := R
  have c2 : RC (uI S 97 0 0) n nw := rc_k kp_th c
  exact ct_X11_does_no (d := d + 694) rfl (rc_z0 c2) (fun z => h ⟨by
    have := z.1
    unfold hasM hasP at *
    rw [rc_n1 c]
    rw [rc_n2 c2] at this
    exact this, z.2⟩)
theorem no_go {d : Nat} {S : am_S} {m : Int32} (h : ¬ (0 ≤ m ∧ m ≤ 199)) : am_CT (d + 700) iX11_go [.ref 97, .int m] S (some (.int 0)) (uI (uI S 97 0 0) 97 0 1) := ct_X11_go_no (d := d + 693) rfl h
theorem no_place {d : Nat} {S : am_S} (R : RM S) {m : Int32} (h : ¬ (0 ≤ m ∧ m ≤ gI S 54 0)) : am_CT (d + 700) iX11_place [.ref 97, .int m] S (some (.int 0)) (uI (uI S 97 0 0) 97 0 1) := by
  obtain ⟨n, nw, c, tl⟩ := R
  exact ct_X11_place_no (d := d + 698) rfl (fun z => h (by
    rw [rc_w1 c]
    rw [rc_w2 (rc_k kp_th c)] at z
    exact z))
theorem no_was {d : Nat} {S : am_S} (R : RM S) {p m w : Int32} (h : ¬ (hasP S p ∧ (0 ≤ m ∧ m ≤ gI S 54 0 - 1) ∧ 0 ≤ w ∧ w ≤ 3)) : am_CT (d + 700) iX11_was [.ref 97, .int p, .int m, .int w] S (some (.int 0)) (uI (uI S 97 0 0) 97 0 1) := by
  obtain ⟨n, nw, c, tl⟩ := R
  have c2 : RC (uI S 97 0 0) n nw := rc_k kp_th c
  exact ct_X11_was_no (d := d + 697) (nw := nw) rfl (rc_z0 c2) (fun z => h ⟨by
    have := z.1
    unfold hasM hasP at *
    rw [rc_n1 c]
    rw [rc_n2 c2] at this
    exact this, by
    rw [rc_w1 c]
    have := z.2.1
    rw [rc_w2 c2] at this
    exact this, z.2.2⟩)
theorem no_row {d : Nat} {S : am_S} (R : RM S) {i : Int32} (h : ¬ (0 ≤ i ∧ i < gI S 74 1)) : am_CT (d + 700) iX11_row [.ref 97, .int i] S (some (.long 0)) (uI (uI S 97 0 0) 97 0 1) := by
  obtain ⟨n, nw, c, tl⟩ := R
  obtain ⟨m, b1, b2, b3, b4⟩ := tl
  have e : gI (uI S 97 0 0) 97 1 = nI m := by rw [gI_un (by omega), b3]
  exact ct_X11_row_no (d := d + 698) rfl (fun z => h (by
    rw [b2]
    rw [e] at z
    exact z)) (by rw [e]; exact nI_pos' (by omega))
