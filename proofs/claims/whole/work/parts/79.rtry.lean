/-! Joint calls: would, rules, pair. -/
theorem kn_frT {S T : am_S} (h : FrT S T) : Kn S T := by
  obtain ⟨a, b, c, e, f, g, i⟩ := h
  refine ⟨⟨fun o k hs => ?_, i⟩, by rw [a 74 (by decide) (by decide) (by decide) (by decide) (by decide) (by decide) (by decide) (by decide)], b 1 (by decide) (by decide) (by decide), fun j => by rw [g], fun j => by rw [g]⟩
  by_cases z : o = 97
  · subst z
    exact b k (fun z => hs (by unfold scr; omega)) (fun z => hs (by unfold scr; omega)) (fun z => hs (by unfold scr; omega))
  · by_cases z1 : o = 109
    · subst z1
      exact c k (by unfold scr at hs; omega)
    · by_cases z2 : o = 110
      · subst z2
        exact e k (by unfold scr at hs; omega)
      · by_cases z3 : o = 111
        · subst z3
          exact f k
        · unfold scr at hs
          rw [a o z (by omega) (by omega) z1 z2 z3 (by omega) (by omega)]
theorem try_R {S : am_S} {n m : Nat} {dg fz : Nat → Nat} {sd : Int32} : (tryS n dg fz S sd m).2 = S.2 := by
  rw [tryS, pasC_R]
  rfl
theorem try_o {S : am_S} {n m : Nat} {dg fz : Nat → Nat} {sd : Int32} (hd : ∀ p, p < 6 → dg p < 12) (hn : n ≤ 6) {o k : Nat} (h : ¬ scr o k) : gI (tryS n dg fz S sd m) o k = gI S o k := by
  unfold scr at h
  rw [tryS_stay hd hn (by omega) (by omega) (by omega)]
theorem kn_try {S : am_S} {n m : Nat} {dg fz : Nat → Nat} {sd : Int32} (hd : ∀ p, p < 6 → dg p < 12) (hn : n ≤ 6) : Kn S (tryS n dg fz S sd m) := ⟨⟨fun o k hs => try_o hd hn hs, fun c => gR_2 try_R c⟩, by rw [tryS_stay hd hn (by decide) (by decide) (by decide)], by rw [tryS_stay hd hn (by decide) (by decide) (by decide)], fun j => gJ_2 try_R 75 j, fun j => gJ_2 try_R 98 j⟩
theorem rc_st {S T : am_S} {n nw : Nat} (R : RC S n nw) (k : Kr S T) : gI S 54 1 = gI T 97 9 := by rw [k 97 9 (by omega) (by unfold scr; omega), R.2.2.2.2.1.2.2.2.1]
theorem jn_would {d : Nat} {S : am_S} (R : RM S) (m sd : Int32) : Jn (d + 700) iX10_would [.ref 0, .int m, .int sd] iX11_would [.ref 97, .int m, .int sd] S := by
  have R0 := R
  obtain ⟨n, nw, c, tl⟩ := R
  have h6 := rc_n6 c
  by_cases h : 1 ≤ m ∧ m ≤ 199
  · obtain ⟨m, hm, rfl⟩ := in_nI (v := m) (m := 199) (by decide) ⟨by have := h.1; grind, h.2⟩
    have h1 : 1 ≤ m := (nI_leI (a := 1) (by decide) (by omega)).mp h.1
    have A : am_CT (d + 700) _ _ _ _ _ := ct_X10_would_ok (sd := sd) (rc_Cfg c) h1 hm
    have is := fun (T : am_S) (k : Kr S T) => try_is (sd := sd) (rc_Cn c k) (rc_st c k) h6 (rc_Wf c) dg2_12 hm
    have kt := kn_try (S := S) (m := m) (fz := fzS S) (sd := sd) dg2_12 h6
    generalize hC : t1 (tryS n dg2 (fzS S) S sd m) (gI (tryS n dg2 (fzS S) S sd m) 61 m).toInt64 = C at A
    have k0 : Kp S C := by rw [← hC]; exact kt.1.t kp_t1
    have k1 : Kp S (uI C 97 0 0) := k0.t kp_th
    have B : am_CE (d + 700) _ _ _ _ _ := ct_X11_would_ok (S := C) rfl (rc_MC c k1.r97) h1 hm (is _ k1.r97)
    refine jn_TE A B (fun U hU => ?_)
    obtain ⟨U1, hU1, rfl⟩ := hU
    exact rm_1 R0 (C := C) k0 (by rw [← hC]; exact tC_1) (kp_th.t (kn_frT hU1).1) (kc_th.t (kn_frT hU1).c)
  · exact jn_no R0 (ct_X10_would_no h) (ct_X11_would_no rfl h)
/-- as S but for whose doing stands in cell 4 -/
def K4 (S X : am_S) : Prop := (∀ o k, o ≠ 4 → ¬ scr o k → gI X o k = gI S o k) ∧ ∀ c, gR X c = gR S c
theorem K4.r {S : am_S} : K4 S S := ⟨fun _ _ _ _ => rfl, fun _ => rfl⟩
theorem K4.u {S X : am_S} (h : K4 S X) {p : Nat} {v : Int32} : K4 S (uI X 4 p v) := ⟨fun o k ho hs => by rw [gI_un (fun z _ => ho z), h.1 o k ho hs], h.2⟩
theorem K4.k {S X Y : am_S} (h : K4 S X) (h2 : Kp X Y) : K4 S Y := ⟨fun o k ho hs => by rw [h2.1 o k hs, h.1 o k ho hs], fun c => by rw [h2.2, h.2]⟩
theorem k4_Cn {S T X : am_S} {n nw : Nat} (R : RC S n nw) (k : Kr S T) (h : K4 S X) : Cn X T := by
  obtain ⟨c1, c2, c3, c4⟩ := rc_Cn R k
  refine ⟨by rw [h.1 1 4 (by decide) (by unfold scr; omega), c1], by rw [h.1 1 5 (by decide) (by unfold scr; omega), c2], by rw [h.1 1 6 (by decide) (by unfold scr; omega), c3], fun p hp => ?_⟩
  rw [h.1 (6 + 2 * p) 0 (by omega) (by unfold scr; omega), h.1 (6 + 2 * p) 1 (by omega) (by unfold scr; omega), h.1 (6 + 2 * p) 3 (by omega) (by unfold scr; omega)]
  exact c4 p hp
theorem k4_Wf {S X : am_S} {n nw : Nat} (R : RC S n nw) (h : K4 S X) : Wf (fsS S) (fzS S) X := fun i hi => ⟨(rc_Wf R i hi).1, fun j => by
  rw [h.1 (18 + 3 * i + 1) j (by omega) (by unfold scr; omega)]
  rfl⟩
theorem k4_try {S X : am_S} {n nw m : Nat} {dg : Nat → Nat} {sd : Int32} (R : RC S n nw) (h : K4 S X) (hd : ∀ p, p < 6 → dg p < 12) (hm : m ≤ 199) : tryV n dg (fzS S) X sd m = tryV n dg (fzS S) S sd m := by
  have k : Kr S S := fun _ _ _ _ => rfl
  exact try_same (rc_Cn R k) (rc_st R k) (rc_Wf R) (k4_Cn R k h) (by rw [h.1 54 1 (by decide) (by unfold scr; omega), rc_st R k]) (k4_Wf R h) (rc_n6 R) hd hm
theorem dgI_12 {dg : Nat → Nat} {p i : Nat} (hd : ∀ p, p < 6 → dg p < 12) (hi : i < 12) : ∀ q, q < 6 → dgI dg p i q < 12 := fun q hq => by
  unfold dgI
  split
  · exact hi
  · exact hd q hq
theorem dgR_off {dg fz : Nat → Nat} {p f i : Nat} : ∀ j, dgI (dgR dg fz p f j) p i = dgI dg p i
  | 0 => rfl
  | j + 1 => by
    have ih := dgR_off (dg := dg) (fz := fz) (p := p) (f := f) (i := i) j
    unfold dgR
    split
    · rw [← ih]
      funext q
      unfold dgI
      split <;> rfl
    · exact ih
theorem rul_eq {S : am_S} {n nw p f m : Nat} (R : RC S n nw) (hm : m ≤ 199) : ∀ j, f + j ≤ 12 → Kn (uI S 4 p 0) (uI (rulX n dg2 (fzS S) S p f m j).1 4 p 0) ∧ (rulX n dg2 (fzS S) S p f m j).2 = rlM (fzS S) (fun i => tryV n (dgI dg2 p i) (fzS S) S 1 m) f j
  | 0, _ => ⟨Kn.r, rfl⟩
  | j + 1, hj => by
    obtain ⟨k, e⟩ := rul_eq (p := p) (f := f) R hm j (by omega)
    have k4 : K4 S (uI (rulX n dg2 (fzS S) S p f m j).1 4 p (nI (f + j))) := ⟨fun o x ho hs => by
      have := k.1.1 o x hs
      rw [gI_un (fun z _ => ho z), gI_un (fun z _ => ho z)] at this
      rw [gI_un (fun z _ => ho z), this], fun x => k.1.2 x⟩
    unfold rulX rlM
    by_cases z : (f + j) % 2 = 0 ∧ 0 < fzS S (f + j)
    · have ed : dgR dg2 (fzS S) p f (j + 1) = dgI dg2 p (f + j) := by
        rw [dgR, if_pos z, dgR_off]
      have hd := dgI_12 (dg := dg2) (p := p) (i := f + j) dg2_12 (by omega)
      rw [if_pos z, if_pos z, ed]
      refine ⟨?_, ?_⟩
      · have kt := kn_try (S := uI (rulX n dg2 (fzS S) S p f m j).1 4 p (nI (f + j))) (m := m) (fz := fzS S) (sd := 1) hd (rc_n6 R)
        generalize tryS n (dgI dg2 p (f + j)) (fzS S) (uI (rulX n dg2 (fzS S) S p f m j).1 4 p (nI (f + j))) 1 m = Y at kt
        generalize (rulX n dg2 (fzS S) S p f m j).1 = X at kt k
        refine k.t ⟨⟨fun o x hs => ?_, kt.1.2⟩, ?_, ?_, kt.2.2.2.1, kt.2.2.2.2⟩
        · by_cases y : o = 4 ∧ x = p
          · rw [gI_ua y.1 y.2, gI_ua y.1 y.2]
          · rw [gI_un (fun a b => y ⟨a, b⟩), gI_un (fun a b => y ⟨a, b⟩), kt.1.1 o x hs, gI_un (fun a b => y ⟨a, b⟩)]
        · rw [gI_un (by omega), gI_un (by omega), kt.2.1, gI_un (by omega)]
        · rw [gI_un (by omega), gI_un (by omega), kt.2.2.1, gI_un (by omega)]
      · show (if (rulX n dg2 (fzS S) S p f m j).2.1 = -2 ∨ tryV n (dgI dg2 p (f + j)) (fzS S) (uI (rulX n dg2 (fzS S) S p f m j).1 4 p (nI (f + j))) 1 m < (rulX n dg2 (fzS S) S p f m j).2.2 then (nI (f + j), tryV n (dgI dg2 p (f + j)) (fzS S) (uI (rulX n dg2 (fzS S) S p f m j).1 4 p (nI (f + j))) 1 m) else (rulX n dg2 (fzS S) S p f m j).2) = _
        rw [k4_try R k4 hd hm, e]
    · rw [if_neg z, if_neg z]
      exact ⟨k, e⟩
theorem kn_back {S X : am_S} {p : Nat} (h : Kn (uI S 4 p 0) (uI X 4 p 0)) (hs : gI S 4 p = nI (2 * p)) : Kn S (uI X 4 p (nI (2 * p))) := by
  refine ⟨⟨fun o x hx => ?_, h.1.2⟩, ?_, ?_, h.2.2.2.1, h.2.2.2.2⟩
  · by_cases y : o = 4 ∧ x = p
    · rw [gI_ua y.1 y.2, y.1, y.2, hs]
    · have := h.1.1 o x hx
      rw [gI_un (fun a b => y ⟨a, b⟩), gI_un (fun a b => y ⟨a, b⟩)] at this
      rw [gI_un (fun a b => y ⟨a, b⟩), this]
  · have := h.2.1
    rw [gI_un (by omega), gI_un (by omega)] at this
    rw [gI_un (by omega), this]
  · have := h.2.2.1
    rw [gI_un (by omega), gI_un (by omega)] at this
    rw [gI_un (by omega), this]
theorem rc_idl {S T : am_S} {n nw : Nat} (R : RC S n nw) (k : Kr S T) : Idle T := fun p hp => by
  rw [k 111 p (by omega) (by unfold scr; omega)]
  exact (R.2.2.2.2.2.2.2.2.1 p hp).2
theorem jn_rules {d : Nat} {S : am_S} (R : RM S) (p f t m : Int32) : Jn (d + 700) iX10_rules [.ref 0, .int p, .int f, .int t, .int m] iX11_rules [.ref 97, .int p, .int f, .int t, .int m] S := by
  have R0 := R
  obtain ⟨n, nw, c, tl⟩ := R
  have h6 := rc_n6 c
  by_cases h : hasP S p ∧ 0 ≤ f ∧ t < 12 ∧ f ≤ t ∧ 1 ≤ m ∧ m ≤ 199
  · obtain ⟨hp, hf0, ht, hft, hm1, hm2⟩ := h
    obtain ⟨p, hpn, rfl⟩ := rc_hasN c hp
    obtain ⟨m, hm, rfl⟩ := in_nI (v := m) (m := 199) (by decide) ⟨by grind, hm2⟩
    have h1 : 1 ≤ m := (nI_leI (a := 1) (by decide) (by omega)).mp hm1
    have t12 : t ≤ nI 11 := by
      have e : nI 11 = 11 := rfl
      rw [e]
      grind
    obtain ⟨t, ht2, rfl⟩ := in_nI (v := t) (m := 11) (by decide) ⟨by grind, t12⟩
    obtain ⟨f, hf2, rfl⟩ := in_nI (v := f) (m := t) (by omega) ⟨hf0, hft⟩
    have A : am_CT (d + 700) _ _ _ _ _ := ct_X10_rules_ok (rc_Cfg c) hpn hf2 (show t < 12 by omega) h1 hm
    obtain ⟨k, e⟩ := rul_eq (p := p) (f := f) c hm (t + 1 - f) (by omega)
    have kb := kn_back k (c.2.2.2.2.2.2.2.2.1 p (by omega)).1
    have ed : rulS n dg2 (fzS S) S p f m (t + 1 - f) = uI (rulX n dg2 (fzS S) S p f m (t + 1 - f)).1 4 p (nI (2 * p)) := rfl
    rw [← ed] at kb
    rw [e] at A
    have is := fun (T : am_S) (kr : Kr S T) (i : Nat) (hi : i < 12) => try_is (sd := 1) (rc_Cn c kr) (rc_st c kr) h6 (rc_Wf c) (dgI_12 (p := p) (i := i) dg2_12 hi) hm
    generalize rulS n dg2 (fzS S) S p f m (t + 1 - f) = C at A kb
    by_cases z : (rlM (fzS S) (fun i => tryV n (dgI dg2 p i) (fzS S) S 1 m) f (t + 1 - f)).1 = -2
    · rw [if_pos z] at A
      have k1 : Kn S (uI C 97 0 0) := kb.t kn_th
      have B : am_CE (d + 700) _ _ _ _ _ := ct_X11_rules_ok (S := C) rfl (rc_MC c k1.1.r97) (rc_idl c k1.1.r97) hpn hf2 (show t < 12 by omega) h1 hm (fun i hi _ _ => is _ k1.1.r97 i hi)
      refine jn_TE A B (fun U hU => ?_)
      obtain ⟨U1, hU1, hU⟩ := hU
      rw [if_pos z] at hU
      rw [hU]
      exact rm_kn (k1.t (kn_frT hU1)) R0
    · rw [if_neg z] at A
      generalize hC : t1 C (rlM (fzS S) (fun i => tryV n (dgI dg2 p i) (fzS S) S 1 m) f (t + 1 - f)).2.toInt64 = C2 at A
      have k0 : Kp S C2 := by rw [← hC]; exact kb.1.t kp_t1
      have k1 : Kp S (uI C2 97 0 0) := k0.t kp_th
      have B : am_CE (d + 700) _ _ _ _ _ := ct_X11_rules_ok (S := C2) rfl (rc_MC c k1.r97) (rc_idl c k1.r97) hpn hf2 (show t < 12 by omega) h1 hm (fun i hi _ _ => is _ k1.r97 i hi)
      refine jn_TE A B (fun U hU => ?_)
      obtain ⟨U1, hU1, hU⟩ := hU
      rw [if_neg z] at hU
      rw [hU]
      exact rm_1 R0 (C := C2) k0 (by rw [← hC]; exact tC_1) (kp_th.t (kn_frT hU1).1) (kc_th.t (kn_frT hU1).c)
  · refine jn_no R0 (ct_X10_rules_no h) (ct_X11_rules_no rfl (by rw [th_z3]; exact rc_z0 c) (fun z => h ⟨(rc_has c).mp (th_hasN.mp z.1), z.2.1.1, ?_, z.2.2.1.1, z.2.2.2⟩))
    have := z.2.2.1.2
    grind
/-! pair -/
theorem dgP_12 {dg : Nat → Nat} {p q i k : Nat} (hd : ∀ p, p < 6 → dg p < 12) (hi : i < 12) (hk : k < 12) : ∀ r, r < 6 → dgP dg p q i k r < 12 := dgI_12 (dgI_12 hd hi) hk
/-- what one pair tried out leaves -/
def PrR (S : am_S) (p q : Nat) (X : am_S × Int32) (Y : Int32 × Int32 × Int32) : Prop := K4 S X.1 ∧ (∀ r, r ≠ p → r ≠ q → gI X.1 4 r = gI S 4 r) ∧ gI X.1 97 1 = gI S 97 1 ∧ (∀ j, gJ X.1 98 j = gJ S 98 j) ∧ X.2 = (if Y.1 < 0 then -2 else Y.1) ∧ (Y.1 < 0 → Kc S X.1) ∧ (¬ Y.1 < 0 → tC X.1 2 (f2 Y.2.1.toInt64 Y.2.2.toInt64))
theorem prr_s {S : am_S} {n nw p q m i k : Nat} {X : am_S × Int32} {Y : Int32 × Int32 × Int32} (R : RC S n nw) (hm : m ≤ 199) (hi : i < 12) (hk : k < 12) (h : PrR S p q X Y) : PrR S p q (prX n dg2 (fzS S) p q m X i k) (pmX (fzS S) (fun i k => tryV n (dgP dg2 p q i k) (fzS S) S 1 m) Y i k) := by
  have h0 := h
  obtain ⟨a, b, c, e, f, g, j⟩ := h
  have hd := dgP_12 (p := p) (q := q) (dg := dg2) dg2_12 hi hk
  have k4 : K4 S (uI (uI X.1 4 p (nI i)) 4 q (nI k)) := a.u.u
  have ev : prV n dg2 (fzS S) p q m X i k = tryV n (dgP dg2 p q i k) (fzS S) S 1 m := k4_try R k4 hd hm
  have nn : ¬ tryV n (dgP dg2 p q i k) (fzS S) S 1 m < 0 := try_nn (rc_n6 R) hd hm (rc_bm R).2.2
  have kt := kn_try (S := uI (uI X.1 4 p (nI i)) 4 q (nI k)) (m := m) (fz := fzS S) (sd := 1) hd (rc_n6 R)
  have es : prS n dg2 (fzS S) p q m X i k = tryS n (dgP dg2 p q i k) (fzS S) (uI (uI X.1 4 p (nI i)) 4 q (nI k)) 1 m := rfl
  unfold prX pmX
  rw [es, ev]
  show PrR S p q _ (if 0 < fzS S i ∧ 0 < fzS S k then (if Y.1 < 0 ∨ tryV n (dgP dg2 p q i k) (fzS S) S 1 m < Y.1 then (tryV n (dgP dg2 p q i k) (fzS S) S 1 m, nI i, nI k) else Y) else Y)
  generalize tryS n (dgP dg2 p q i k) (fzS S) (uI (uI X.1 4 p (nI i)) 4 q (nI k)) 1 m = Z at kt
  generalize tryV n (dgP dg2 p q i k) (fzS S) S 1 m = v at nn
  have kz : K4 S Z := k4.k kt.1
  have bz : ∀ r, r ≠ p → r ≠ q → gI Z 4 r = gI S 4 r := fun r h1 h2 => by
    rw [kt.1.1 4 r (by unfold scr; omega), gI_un (fun _ z => h2 z), gI_un (fun _ z => h1 z), b r h1 h2]
  have cz : gI Z 97 1 = gI S 97 1 := by rw [kt.2.2.1, gI_un (by omega), gI_un (by omega), c]
  have ez : ∀ j, gJ Z 98 j = gJ S 98 j := fun j => by
    rw [kt.2.2.2.2]
    exact e j
  by_cases z : 0 < fzS S i ∧ 0 < fzS S k
  · rw [if_pos z, if_pos z]
    have eq : (X.2 = -2 ∨ v < X.2) ↔ (Y.1 < 0 ∨ v < Y.1) := by
      rw [f]
      by_cases y : Y.1 < 0
      · rw [if_pos y]
        exact ⟨fun _ => Or.inl y, fun _ => Or.inl rfl⟩
      · rw [if_neg y]
        constructor
        · rintro (w | w)
          · exact absurd (by rw [w]; decide) y
          · exact Or.inr w
        · rintro (w | w)
          · exact absurd w y
          · exact Or.inr w
    by_cases y : Y.1 < 0 ∨ v < Y.1
    · rw [if_pos (eq.mpr y), if_pos y]
      refine ⟨kz.k kp_t2, fun r h1 h2 => ?_, ?_, fun j => ?_, (if_neg nn).symm, fun w => absurd w nn, fun _ => tC_2⟩
      · show gI (t2 Z (nI i).toInt64 (nI k).toInt64) 4 r = _
        rw [t2_ne (by decide), bz r h1 h2]
      · show gI (t2 Z (nI i).toInt64 (nI k).toInt64) 97 1 = _
        rw [t2_ne (by decide), cz]
      · exact ez j
    · rw [if_neg (fun w => y (eq.mp w)), if_neg y]
      have y1 : ¬ Y.1 < 0 := fun w => y (Or.inl w)
      refine ⟨kz, bz, cz, ez, f, fun w => absurd w y1, fun w => ?_⟩
      have t := j w
      refine tC_k ?_ (fun j => ?_) t
      · show gI Z 74 1 = gI X.1 74 1
        rw [kt.2.1, gI_un (by omega), gI_un (by omega)]
      · show gJ Z 75 j = gJ X.1 75 j
        exact kt.2.2.2.1 j
  · rw [if_neg z, if_neg z]
    exact h0
theorem prr_I {S : am_S} {n nw p q m i : Nat} {X : am_S × Int32} {Y : Int32 × Int32 × Int32} (R : RC S n nw) (hm : m ≤ 199) (hi : i < 12) (h : PrR S p q X Y) : ∀ k, k ≤ 6 → PrR S p q (prI n dg2 (fzS S) p q m X i k) (pmI (fzS S) (fun i k => tryV n (dgP dg2 p q i k) (fzS S) S 1 m) Y i k)
  | 0, _ => h
  | k + 1, hk => prr_s R hm hi (by omega) (prr_I R hm hi h k (by omega))
theorem prr_O {S : am_S} {n nw p q m : Nat} (R : RC S n nw) (hm : m ≤ 199) : ∀ i, i ≤ 6 → PrR S p q (prO n dg2 (fzS S) S p q m i) (pmO (fzS S) (fun i k => tryV n (dgP dg2 p q i k) (fzS S) S 1 m) i)
  | 0, _ => ⟨K4.r, fun _ _ _ => rfl, rfl, fun _ => rfl, (if_pos (show (-1 : Int32) < 0 by decide)).symm, fun _ => ⟨rfl, fun _ => rfl⟩, fun w => absurd (show (-1 : Int32) < 0 by decide) w⟩
  | i + 1, hi => prr_I R hm (by omega) (prr_O R hm i (by omega)) 6 (Nat.le_refl _)
theorem jn_pair {d : Nat} {S : am_S} (R : RM S) (p q m : Int32) : Jn (d + 700) iX10_pair [.ref 0, .int p, .int q, .int m] iX11_pair [.ref 97, .int p, .int q, .int m] S := by
  have R0 := R
  obtain ⟨n, nw, c, tl⟩ := R
  have h6 := rc_n6 c
  by_cases h : twoP S p q ∧ 1 ≤ m ∧ m ≤ 199
  · obtain ⟨h, hm1, hm2⟩ := h
    obtain ⟨i, j, hi, hj, hij, rfl, rfl⟩ := rc_twoN c h
    obtain ⟨m, hm, rfl⟩ := in_nI (v := m) (m := 199) (by decide) ⟨by grind, hm2⟩
    have h1 : 1 ≤ m := (nI_leI (a := 1) (by decide) (by omega)).mp hm1
    have A : am_CT (d + 700) _ _ _ _ _ := ct_X10_pair_ok (rc_Cfg c) hi hj hij h1 hm
    obtain ⟨a, b, e, f, g, t0, t1⟩ := prr_O (p := i) (q := j) c hm 6 (Nat.le_refl _)
    have is := fun (T : am_S) (kr : Kr S T) (a b : Nat) (ha : a < 12) (hb : b < 12) => try_is (sd := 1) (rc_Cn c kr) (rc_st c kr) h6 (rc_Wf c) (dgP_12 (p := i) (q := j) (i := a) (k := b) dg2_12 ha hb) hm
    rw [g] at A
    generalize (prO n dg2 (fzS S) S i j m 6).1 = X at A a b e f t0 t1
    have i1 := (c.2.2.2.2.2.2.2.2.1 i (by omega)).1
    have i2 := (c.2.2.2.2.2.2.2.2.1 j (by omega)).1
    generalize hC : uI (uI X 4 i (nI (2 * i))) 4 j (nI (2 * j)) = C at A
    have k0 : Kp S C := ⟨fun o x hs => by
      rw [← hC]
      by_cases y : o = 4
      · subst y
        by_cases z : x = j
        · rw [gI_ua rfl z, z, i2]
        · rw [gI_un (fun _ w => z w)]
          by_cases z2 : x = i
          · rw [gI_ua rfl z2, z2, i1]
          · rw [gI_un (fun _ w => z2 w), b x z2 z]
      · rw [gI_un (fun w _ => y w), gI_un (fun w _ => y w), a.1 o x y hs], fun x => by rw [← hC]; exact a.2 x⟩
    have k1 : Kp S (uI C 97 0 0) := k0.t kp_th
    have B : am_CE (d + 700) _ _ _ _ _ := ct_X11_pair_ok (S := C) rfl (rc_MC c k1.r97) (rc_idl c k1.r97) hi hj hij h1 hm (fun a b ha hb _ _ _ _ => is _ k1.r97 a b ha hb)
    refine jn_TE A B (fun U hU => ?_)
    obtain ⟨U1, hU1, hU⟩ := hU
    generalize pmO (fzS S) (fun i_1 k => tryV n (dgP dg2 i j i_1 k) (fzS S) S 1 m) 6 = Y at *
    by_cases z : Y.1 < 0
    · rw [if_pos z] at hU
      rw [hU]
      have kn : Kn S C := ⟨k0, by rw [← hC, gI_un (by omega), gI_un (by omega), (t0 z).1], by rw [← hC, gI_un (by omega), gI_un (by omega), e], fun x => by rw [← hC]; exact (t0 z).2 x, fun x => by rw [← hC]; exact f x⟩
      exact rm_kn ((kn.t kn_th).t (kn_frT hU1)) R0
    · rw [if_neg z] at hU
      rw [hU]
      refine rm_2 R0 (C := C) k0 ?_ (kp_th.t (kn_frT hU1).1) (kc_th.t (kn_frT hU1).c)
      refine tC_k ?_ (fun x => ?_) (t1 z)
      · rw [← hC, gI_un (by omega), gI_un (by omega)]
      · rw [← hC]
        rfl
  · exact jn_no R0 (ct_X10_pair_no h) (ct_X11_pair_no rfl (by rw [th_z3]; exact rc_z0 c) (fun z => h ⟨(rc_two c).mp (th_twoN.mp z.1), z.2⟩))
