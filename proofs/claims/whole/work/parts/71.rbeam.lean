/-! Joint calls: the beam, the draws, the text's end, weights, fog. -/
theorem rm_bem {S U : am_S} {n nw : Nat} (h : ∀ o k, ¬ scr o k → ¬ xBem o k → gI U o k = gI S o k) (hr : ∀ c, gR U c = gR S c) (c : RC S n nw) (t : rTld S) (h1 : gI U 74 1 = gI S 74 1) (h2 : gI U 97 1 = gI S 97 1) (hJ : ∀ o, gJ U o = gJ S o) (b : rBem U) : RM U := ⟨n, nw, rc_bem h hr c b, rTld_c h1 h2 (fun j => by rw [hJ]) (fun j => by rw [hJ]) t⟩
theorem rm_crs {S U : am_S} {n nw nw2 : Nat} (h : ∀ o k, ¬ scr o k → ¬ xCrs o k → gI U o k = gI S o k) (hr : ∀ c, gR U c = gR S c) (c : RC S n nw) (t : rTld S) (h1 : gI U 74 1 = gI S 74 1) (h2 : gI U 97 1 = gI S 97 1) (hJ : ∀ o, gJ U o = gJ S o) (b : rCrs U n nw2) : RM U := ⟨n, nw2, rc_crs h hr c b, rTld_c h1 h2 (fun j => by rw [hJ]) (fun j => by rw [hJ]) t⟩
theorem rm_txt {S U : am_S} {n nw : Nat} (h : ∀ o k, ¬ scr o k → ¬ xTxt o k → gI U o k = gI S o k) (hr : ∀ c, gR U c = gR S c) (c : RC S n nw) (t : rTld S) (h1 : gI U 74 1 = gI S 74 1) (h2 : gI U 97 1 = gI S 97 1) (hJ : ∀ o, gJ U o = gJ S o) (b : rTxt U) : RM U := ⟨n, nw, rc_txt h hr c b, rTld_c h1 h2 (fun j => by rw [hJ]) (fun j => by rw [hJ]) t⟩
theorem rm_fog {S U : am_S} {n nw : Nat} (h : ∀ o k, ¬ scr o k → ¬ xFog o → gI U o k = gI S o k) (hr : ∀ c, gR U c = gR S c) (c : RC S n nw) (t : rTld S) (h1 : gI U 74 1 = gI S 74 1) (h2 : gI U 97 1 = gI S 97 1) (hJ : ∀ o, gJ U o = gJ S o) (b : rFog U n) : RM U := ⟨n, nw, rc_fog h hr c b, rTld_c h1 h2 (fun j => by rw [hJ]) (fun j => by rw [hJ]) t⟩
theorem rm_ppl {S U : am_S} {n nw : Nat} (h : ∀ o k, ¬ scr o k → ¬ xPpl o k → gI U o k = gI S o k) (hr : ∀ c, gR U c = gR S c) (c : RC S n nw) (t : rTld S) (h1 : gI U 74 1 = gI S 74 1) (h2 : gI U 97 1 = gI S 97 1) (hJ : ∀ o, gJ U o = gJ S o) (a : rPpl U n) (b : rNer U n) : RM U := ⟨n, nw, rc_ppl h hr c a b, rTld_c h1 h2 (fun j => by rw [hJ]) (fun j => by rw [hJ]) t⟩
theorem rm_pay {S U : am_S} {n nw : Nat} (h : ∀ o k, ¬ scr o k → ¬ xPay o k → ¬ xTxt o k → gI U o k = gI S o k) (hr : ∀ c, gR U c = gR S c) (c : RC S n nw) (t : rTld S) (h1 : gI U 74 1 = gI S 74 1) (h2 : gI U 97 1 = gI S 97 1) (hJ : ∀ o, gJ U o = gJ S o) (a : rPay U) (b : rTxt U) : RM U := ⟨n, nw, rc_pay h hr c a b, rTld_c h1 h2 (fun j => by rw [hJ]) (fun j => by rw [hJ]) t⟩
theorem rm_frm {S U : am_S} {n nw : Nat} (h : ∀ o k, ¬ scr o k → ¬ xFrm o k → ¬ xTxt o k → gI U o k = gI S o k) (hr : ∀ c, gR U c = gR S c) (c : RC S n nw) (t : rTld S) (h1 : gI U 74 1 = gI S 74 1) (h2 : gI U 97 1 = gI S 97 1) (hJ : ∀ o, gJ U o = gJ S o) (a : rFrm U) (b : rTxt U) : RM U := ⟨n, nw, rc_frm h hr c a b, rTld_c h1 h2 (fun j => by rw [hJ]) (fun j => by rw [hJ]) t⟩
/-- an int in bounds is a number -/
theorem in_nI {v : Int32} {m : Nat} (hm : m < 2147483647) (h : 0 ≤ v ∧ v ≤ nI m) : ∃ k, k ≤ m ∧ v = nI k := by
  refine ⟨v.toNatClampNeg, ?_, nI_cl h.1⟩
  have e := nI_cl h.1
  have h2 := h.2
  rw [e] at h2
  have b : v.toNatClampNeg < 2 ^ 31 := by
    have := Int32.toNatClampNeg_lt v
    omega
  exact (nI_leI b (by omega)).mp h2
theorem da_of {v : Int32} (h : -99 ≤ v ∧ v ≤ 99) : ∃ da, da ≤ 198 ∧ v = nI da - 99 := by
  obtain ⟨k, hk, e⟩ := in_nI (v := v + 99) (m := 198) (by decide) ⟨by grind, by show v + 99 ≤ 198; grind⟩
  exact ⟨k, hk, by rw [← e]; grind⟩
theorem bem_2 {d : Nat} {S : am_S} (R : RM S) {v : Int32} (hv : 0 ≤ v ∧ v ≤ 10 - gI S 1 6) : Jn (d + 700) iX10_beam [.ref 0, .int 2, .int v] iX11_beam [.ref 97, .int 2, .int v] S := by
  obtain ⟨n, nw, c, tl⟩ := R
  obtain ⟨da, dn, up, a1, a2, a3, a4, a5, a6, a7, a8⟩ := c.2.2.2.1
  have A : am_CT (d + 700) _ _ _ _ _ := ct_X10_beam_2 hv
  have u : gI (uI (uI S 1 5 v) 97 0 0) 97 12 = gI S 1 6 := by rw [a7, ← a8]; (repeat first | rw [gI_un (by omega)] | rw [gI_ua (by omega) (by omega)])
  have B : am_CT (d + 700) _ _ _ _ _ := ct_X11_beam_2 (S := uI S 1 5 v) rfl (by rw [u]; exact hv)
  have e : gI (uI (uI S 1 5 v) 97 0 0) 97 11 = gI S 1 5 := by rw [a5, ← a6]; (repeat first | rw [gI_un (by omega)] | rw [gI_ua (by omega) (by omega)])
  rw [e] at B
  rw [a7, show (10 : Int32) = nI 10 from rfl, pk_sub (by omega)] at hv
  obtain ⟨k, hk, rfl⟩ := in_nI (by omega) hv
  refine jn_TT A B (rm_bem (S := S) (fun o k hs hx => ?_) (fun _ => rfl) c tl ?_ ?_ (fun _ => rfl) ⟨da, k, up, a1, by omega, ?_⟩)
  · unfold scr at hs
    unfold xBem at hx
    (repeat first | rw [gI_un (by omega)] | rw [gI_ua (by omega) (by omega)])
  · (repeat first | rw [gI_un (by omega)] | rw [gI_ua (by omega) (by omega)])
  · (repeat first | rw [gI_un (by omega)] | rw [gI_ua (by omega) (by omega)])
  · (repeat first | rw [gI_un (by omega)] | rw [gI_ua (by omega) (by omega)])
    exact ⟨a3, a4, rfl, rfl, a7, a8⟩
theorem bem_3 {d : Nat} {S : am_S} (R : RM S) {v : Int32} (hv : 0 ≤ v ∧ v ≤ 10 - gI S 1 5) : Jn (d + 700) iX10_beam [.ref 0, .int 3, .int v] iX11_beam [.ref 97, .int 3, .int v] S := by
  obtain ⟨n, nw, c, tl⟩ := R
  obtain ⟨da, dn, up, a1, a2, a3, a4, a5, a6, a7, a8⟩ := c.2.2.2.1
  have A : am_CT (d + 700) _ _ _ _ _ := ct_X10_beam_3 hv
  have u : gI (uI (uI S 1 6 v) 97 0 0) 97 11 = gI S 1 5 := by rw [a5, ← a6]; (repeat first | rw [gI_un (by omega)] | rw [gI_ua (by omega) (by omega)])
  have B : am_CT (d + 700) _ _ _ _ _ := ct_X11_beam_3 (S := uI S 1 6 v) rfl (by rw [u]; exact hv)
  have e : gI (uI (uI S 1 6 v) 97 0 0) 97 12 = gI S 1 6 := by rw [a7, ← a8]; (repeat first | rw [gI_un (by omega)] | rw [gI_ua (by omega) (by omega)])
  rw [e] at B
  rw [a5, show (10 : Int32) = nI 10 from rfl, pk_sub (by omega)] at hv
  obtain ⟨k, hk, rfl⟩ := in_nI (by omega) hv
  refine jn_TT A B (rm_bem (S := S) (fun o k hs hx => ?_) (fun _ => rfl) c tl ?_ ?_ (fun _ => rfl) ⟨da, dn, k, a1, by omega, ?_⟩)
  · unfold scr at hs
    unfold xBem at hx
    (repeat first | rw [gI_un (by omega)] | rw [gI_ua (by omega) (by omega)])
  · (repeat first | rw [gI_un (by omega)] | rw [gI_ua (by omega) (by omega)])
  · (repeat first | rw [gI_un (by omega)] | rw [gI_ua (by omega) (by omega)])
  · (repeat first | rw [gI_un (by omega)] | rw [gI_ua (by omega) (by omega)])
    exact ⟨a3, a4, a5, a6, rfl, rfl⟩
theorem bem_1 {d : Nat} {S : am_S} (R : RM S) {v : Int32} (hv : -99 ≤ v ∧ v ≤ 99) : Jn (d + 700) iX10_beam [.ref 0, .int 1, .int v] iX11_beam [.ref 97, .int 1, .int v] S := by
  obtain ⟨n, nw, c, tl⟩ := R
  obtain ⟨da, dn, up, a1, a2, a3, a4, a5, a6, a7, a8⟩ := c.2.2.2.1
  have A : am_CT (d + 700) _ _ _ _ _ := ct_X10_beam_1 (S := S) hv
  have B : am_CT (d + 700) _ _ _ _ _ := ct_X11_beam_1 (S := uI S 1 4 v) rfl hv
  have e : gI (uI (uI S 1 4 v) 97 0 0) 97 10 = gI S 1 4 := by rw [a3, ← a4]; (repeat first | rw [gI_un (by omega)] | rw [gI_ua (by omega) (by omega)])
  rw [e] at B
  obtain ⟨k, hk, rfl⟩ := da_of hv
  refine jn_TT A B (rm_bem (S := S) (fun o k hs hx => ?_) (fun _ => rfl) c tl ?_ ?_ (fun _ => rfl) ⟨k, dn, up, hk, a2, ?_⟩)
  · unfold scr at hs
    unfold xBem at hx
    (repeat first | rw [gI_un (by omega)] | rw [gI_ua (by omega) (by omega)])
  · (repeat first | rw [gI_un (by omega)] | rw [gI_ua (by omega) (by omega)])
  · (repeat first | rw [gI_un (by omega)] | rw [gI_ua (by omega) (by omega)])
  · (repeat first | rw [gI_un (by omega)] | rw [gI_ua (by omega) (by omega)])
    exact ⟨rfl, rfl, a5, a6, a7, a8⟩
theorem bem_0 {d : Nat} {S : am_S} (R : RM S) {v : Int32} (hn : gI S 54 0 = 0) (hv : -999 ≤ v ∧ v ≤ 999) : Jn (d + 700) iX10_beam [.ref 0, .int 0, .int v] iX11_beam [.ref 97, .int 0, .int v] S := by
  obtain ⟨n, nw, c, tl⟩ := R
  obtain ⟨b1, b2, b3, b4, b5, b6, b7⟩ := c.2.2.2.2.1
  have hn2 : gI S 97 23 = 0 := by rw [b3, ← b2, hn]
  have A : am_CT (d + 700) _ _ _ _ _ := ct_X10_beam_0 (S := S) hn hv
  have B : am_CT (d + 700) _ _ _ _ _ := ct_X11_beam_0 (S := uI (uI (uI S 54 1 v) 54 0 0) 55 0 v) rfl (by
    (repeat first | rw [gI_un (by omega)] | rw [gI_ua (by omega) (by omega)])
    rw [hn2]
    decide) hv
  have e : gI (uI (uI (uI (uI S 54 1 v) 54 0 0) 55 0 v) 97 0 0) 97 9 = gI S 54 1 := by rw [b4]; (repeat first | rw [gI_un (by omega)] | rw [gI_ua (by omega) (by omega)])
  rw [e] at B
  refine jn_TT A B (rm_crs (S := S) (fun o k hs hx => ?_) (fun _ => rfl) c tl ?_ ?_ (fun _ => rfl) (nw2 := 0) ⟨by decide, ?_, ?_, ?_, ?_, fun m hm => ?_, fun k p m hk hp => ?_⟩)
  · unfold scr at hs
    unfold xCrs at hx
    (repeat first | rw [gI_un (by omega)] | rw [gI_ua (by omega) (by omega)])
  · (repeat first | rw [gI_un (by omega)] | rw [gI_ua (by omega) (by omega)])
  · (repeat first | rw [gI_un (by omega)] | rw [gI_ua (by omega) (by omega)])
  · (repeat first | rw [gI_un (by omega)] | rw [gI_ua (by omega) (by omega)])
    rfl
  · (repeat first | rw [gI_un (by omega)] | rw [gI_ua (by omega) (by omega)])
    exact hn2
  · (repeat first | rw [gI_un (by omega)] | rw [gI_ua (by omega) (by omega)])
  · (repeat first | rw [gI_un (by omega)] | rw [gI_ua (by omega) (by omega)])
    exact b5
  · obtain rfl : m = 0 := by omega
    (repeat first | rw [gI_un (by omega)] | rw [gI_ua (by omega) (by omega)])
  · have i := b7 k p m hk hp
    refine ⟨fun _ z => absurd z (by omega), fun z1 z2 => ?_⟩
    have i := i.2 z1 z2
    (repeat first | rw [gI_un (by omega)] | rw [gI_ua (by omega) (by omega)])
    exact i
theorem jn_beam {d : Nat} {S : am_S} (R : RM S) (w v : Int32) : Jn (d + 700) iX10_beam [.ref 0, .int w, .int v] iX11_beam [.ref 97, .int w, .int v] S := by
  have R0 := R
  obtain ⟨n, nw, c, tl⟩ := R
  by_cases h : (w = 0 ∧ gI S 54 0 = 0 ∧ -999 ≤ v ∧ v ≤ 999) ∨ (w = 1 ∧ -99 ≤ v ∧ v ≤ 99) ∨ (w = 2 ∧ 0 ≤ v ∧ v ≤ 10 - gI S 1 6) ∨ (w = 3 ∧ 0 ≤ v ∧ v ≤ 10 - gI S 1 5)
  · rcases h with ⟨rfl, h1, h2⟩ | ⟨rfl, h⟩ | ⟨rfl, h⟩ | ⟨rfl, h⟩
    · exact bem_0 R0 h1 h2
    · exact bem_1 R0 h
    · exact bem_2 R0 h
    · exact bem_3 R0 h
  · refine jn_no R0 (ct_X10_beam_no h) (ct_X11_beam_no rfl (fun z => h ?_))
    obtain ⟨da, dn, up, a1, a2, a3, a4, a5, a6, a7, a8⟩ := c.2.2.2.1
    obtain ⟨b1, b2, b3, b4, b5, b6, b7⟩ := c.2.2.2.2.1
    rw [gI_un (by omega), gI_un (by omega), gI_un (by omega), b3, a6, a8] at z
    rw [b2, a5, a7]
    refine Or.imp_left (fun z => ⟨z.1, ?_, z.2.2⟩) z
    have z1 := z.2.1
    have := (nI_leI (a := nw) (b := 0) (by omega) (by decide)).mp z1
    obtain rfl : nw = 0 := by omega
    rfl
theorem jn_seed {d : Nat} {S : am_S} (R : RM S) (v : Int32) : Jn (d + 700) iX10_seed [.ref 0, .int v] iX11_seed [.ref 97, .int v] S := by
  obtain ⟨n, nw, c, tl⟩ := R
  obtain ⟨b1, b2, b3, b4, b5, b6, b7⟩ := c.2.2.2.2.1
  have A : am_CT (d + 700) _ _ _ _ _ := ct_X10_seed (S := S) (v := v)
  have B : am_CT (d + 700) _ _ _ _ _ := ct_X11_seed (S := uI S 54 2 v) (v := v) rfl
  have e : gI (uI (uI S 54 2 v) 97 0 0) 97 24 = gI S 54 2 := by rw [b5]; (repeat first | rw [gI_un (by omega)] | rw [gI_ua (by omega) (by omega)])
  rw [e] at B
  refine jn_TT A B (rm_crs (S := S) (fun o k hs hx => ?_) (fun _ => rfl) c tl ?_ ?_ (fun _ => rfl) (nw2 := nw) ⟨b1, ?_, ?_, ?_, ?_, fun m hm => ?_, fun k p m hk hp => ?_⟩)
  · unfold scr at hs
    unfold xCrs at hx
    (repeat first | rw [gI_un (by omega)] | rw [gI_ua (by omega) (by omega)])
  · (repeat first | rw [gI_un (by omega)] | rw [gI_ua (by omega) (by omega)])
  · (repeat first | rw [gI_un (by omega)] | rw [gI_ua (by omega) (by omega)])
  · (repeat first | rw [gI_un (by omega)] | rw [gI_ua (by omega) (by omega)])
    exact b2
  · (repeat first | rw [gI_un (by omega)] | rw [gI_ua (by omega) (by omega)])
    exact b3
  · (repeat first | rw [gI_un (by omega)] | rw [gI_ua (by omega) (by omega)])
    exact b4
  · (repeat first | rw [gI_un (by omega)] | rw [gI_ua (by omega) (by omega)])
  · (repeat first | rw [gI_un (by omega)] | rw [gI_ua (by omega) (by omega)])
    exact b6 m hm
  · (repeat first | rw [gI_un (by omega)] | rw [gI_ua (by omega) (by omega)])
    exact b7 k p m hk hp
theorem jn_begin {d : Nat} {S : am_S} (R : RM S) : Jn (d + 700) iX10_begin [.ref 0] iX11_begin [.ref 97] S := by
  obtain ⟨n, nw, c, tl⟩ := R
  obtain ⟨b1, b2, b3, b4, b5, b6, b7⟩ := c.2.2.2.2.1
  have A : am_CT (d + 700) _ _ _ _ _ := ct_X10_begin (S := S)
  have B : am_CT (d + 700) _ _ _ _ _ := ct_X11_begin (S := uI (uI S 54 0 0) 55 0 (gI S 54 1)) rfl
  have ro : ∀ o k, o ≠ 110 → ¬ (o = 97 ∧ (k = 23 ∨ k = 0)) → ¬ (o = 109 ∧ k = 0) → ¬ (o = 54 ∧ k = 0) → ¬ (o = 55 ∧ k = 0) → gI (begM (uI (uI (uI S 54 0 0) 55 0 (gI S 54 1)) 97 0 0)) o k = gI S o k := fun o k h1 h2 h3 h4 h5 => by
    unfold begM
    rw [gI_rI, if_neg h1]
    (repeat first | rw [gI_un (by omega)] | rw [gI_ua (by omega) (by omega)])
  refine jn_TT A B (rm_crs (S := S) (fun o k hs hx => ?_) (fun _ => rfl) c tl (ro _ _ (by omega) (by omega) (by omega) (by omega) (by omega)) (ro _ _ (by omega) (by omega) (by omega) (by omega) (by omega)) (fun _ => rfl) (nw2 := 0) ⟨by decide, ?_, ?_, ?_, ?_, fun m hm => ?_, fun k p m hk hp => ⟨fun _ z => absurd z (by omega), fun z1 z2 => ?_⟩⟩)
  · unfold xCrs at hx
    by_cases h : o = 110
    · subst h
      unfold begM
      rw [gI_rI, if_pos rfl, if_neg (by omega)]
      (repeat first | rw [gI_un (by omega)] | rw [gI_ua (by omega) (by omega)])
    · by_cases h0 : o = 97 ∧ k = 0
      · exact absurd (by unfold scr; omega) hs
      · exact ro o k h (by omega) (by omega) (by omega) (by omega)
  · unfold begM
    rw [gI_rI, if_neg (by decide)]
    (repeat first | rw [gI_un (by omega)] | rw [gI_ua (by omega) (by omega)])
    rfl
  · unfold begM
    rw [gI_rI, if_neg (by decide)]
    (repeat first | rw [gI_un (by omega)] | rw [gI_ua (by omega) (by omega)])
    rfl
  · rw [ro _ _ (by omega) (by omega) (by omega) (by omega) (by omega), ro _ _ (by omega) (by omega) (by omega) (by omega) (by omega), b4]
  · rw [ro _ _ (by omega) (by omega) (by omega) (by omega) (by omega), ro _ _ (by omega) (by omega) (by omega) (by omega) (by omega), b5]
  · obtain rfl : m = 0 := by omega
    unfold begM
    rw [gI_rI, if_neg (by decide), gI_rI, if_neg (by decide)]
    (repeat first | rw [gI_un (by omega)] | rw [gI_ua (by omega) (by omega)])
    exact b4
  · have i := ((b7 k p m hk hp).2 z1 z2).1
    rw [ro _ _ (by omega) (by omega) (by omega) (by omega) (by omega), i]
    unfold begM
    rw [gI_rI, if_pos rfl, if_pos (gAt_lt hk hp z2)]
    exact ⟨rfl, rfl⟩
theorem jn_end {d : Nat} {S : am_S} (R : RM S) (v : Int32) : Jn (d + 700) iX10_end [.ref 0, .int v] iX11_end [.ref 97, .int v] S := by
  have R0 := R
  obtain ⟨n, nw, c, tl⟩ := R
  obtain ⟨q, hq, t1, t2, t3⟩ := c.2.2.2.2.2.2.2.2.2.1
  by_cases h : 0 ≤ v ∧ v ≤ gI S 67 1
  · have A : am_CT (d + 700) _ _ _ _ _ := ct_X10_end_ok (S := S) h
    have B : am_CT (d + 700) _ _ _ _ _ := ct_X11_end_ok (S := uI S 67 1 v) (n := v) rfl (by (repeat first | rw [gI_un (by omega)] | rw [gI_ua (by omega) (by omega)]); rw [t2, ← t1]; exact h)
    rw [t1] at h
    obtain ⟨k, hk, rfl⟩ := in_nI (by omega) h
    refine jn_TT A B (rm_txt (S := S) (fun o k hs hx => ?_) (fun _ => rfl) c tl ?_ ?_ (fun _ => rfl) ⟨k, by omega, ?_, ?_, fun i hi => ?_⟩)
    · unfold scr at hs
      unfold xTxt at hx
      (repeat first | rw [gI_un (by omega)] | rw [gI_ua (by omega) (by omega)])
    · (repeat first | rw [gI_un (by omega)] | rw [gI_ua (by omega) (by omega)])
    · (repeat first | rw [gI_un (by omega)] | rw [gI_ua (by omega) (by omega)])
    · (repeat first | rw [gI_un (by omega)] | rw [gI_ua (by omega) (by omega)])
    · (repeat first | rw [gI_un (by omega)] | rw [gI_ua (by omega) (by omega)])
    · (repeat first | rw [gI_un (by omega)] | rw [gI_ua (by omega) (by omega)])
      exact t3 i (by omega)
  · exact jn_no R0 (ct_X10_end_no h) (ct_X11_end_no rfl (by (repeat first | rw [gI_un (by omega)] | rw [gI_ua (by omega) (by omega)]); rw [t2, ← t1]; exact h))
theorem jn_weight {d : Nat} {S : am_S} (R : RM S) (i j v : Int32) : Jn (d + 700) iX10_weight [.ref 0, .int i, .int j, .int v] iX11_weight [.ref 97, .int i, .int j, .int v] S := by
  have R0 := R
  obtain ⟨n, nw, c, tl⟩ := R
  by_cases h : (0 ≤ i ∧ i ≤ 2) ∧ (0 ≤ j ∧ j ≤ 2) ∧ (0 ≤ v ∧ v ≤ 99)
  · obtain ⟨hi, hj, hv⟩ := h
    obtain ⟨a, ha, rfl⟩ := in_nI (m := 2) (by decide) hi
    obtain ⟨b, hb, rfl⟩ := in_nI (m := 2) (by decide) hj
    obtain ⟨p1, p2⟩ := c.2.2.2.2.2.2.2.1
    have A : am_CT (d + 700) _ _ _ _ _ := ct_X10_weight_ok (S := S) (i := a) (j := b) (v := v) (by omega) (by omega) hv
    have B : am_CT (d + 700) _ _ _ _ _ := ct_X11_weight_ok (S := uI S 87 (a * 3 + b) v) (i := a) (j := b) (v := v) rfl (by omega) (by omega) hv
    have e : gI (uI (uI S 87 (a * 3 + b) v) 97 0 0) 119 (a * 3 + b) = gI S 87 (a * 3 + b) := by rw [(p2 (a * 3 + b) (by omega)).1]; (repeat first | rw [gI_un (by omega)] | rw [gI_ua (by omega) (by omega)])
    rw [e] at B
    refine jn_TT A B (rm_pay (S := S) (fun o k hs hx hx2 => ?_) (fun _ => rfl) c tl ?_ ?_ (fun _ => rfl) ⟨?_, fun k hk => ?_⟩ (rTxt_c (S := S) (fun o k z => ?_) c.2.2.2.2.2.2.2.2.2.1))
    · unfold scr at hs
      unfold xPay at hx
      (repeat first | rw [gI_un (by omega)] | rw [gI_ua (by omega) (by omega)])
    · (repeat first | rw [gI_un (by omega)] | rw [gI_ua (by omega) (by omega)])
    · (repeat first | rw [gI_un (by omega)] | rw [gI_ua (by omega) (by omega)])
    · obtain ⟨L, l1, l2, l3⟩ := p1
      refine ⟨L, by (repeat first | rw [gI_un (by omega)] | rw [gI_ua (by omega) (by omega)]); exact l1, FmOk_c (S := S) (cs := gI S 89) (by (repeat first | rw [gI_un (by omega)] | rw [gI_ua (by omega) (by omega)])) (fun j hj => by (repeat first | rw [gI_un (by omega)] | rw [gI_ua (by omega) (by omega)])) (fun j => by (repeat first | rw [gI_un (by omega)] | rw [gI_ua (by omega) (by omega)])) l2, fun i j x y hi hj hx hy => ?_⟩
      have e89 : gI (uI (uI (uI S 87 (a * 3 + b) v) 97 0 0) 119 (a * 3 + b) v) 89 = gI S 89 := funext fun k => by (repeat first | rw [gI_un (by omega)] | rw [gI_ua (by omega) (by omega)])
      rw [e89]
      (repeat first | rw [gI_un (by omega)] | rw [gI_ua (by omega) (by omega)])
      exact l3 i j x y hi hj hx hy
    · by_cases z : k = a * 3 + b
      · (repeat first | rw [gI_un (by omega)] | rw [gI_ua (by omega) (by omega)])
        exact ⟨rfl, hv⟩
      · (repeat first | rw [gI_un (by omega)] | rw [gI_ua (by omega) (by omega)])
        exact p2 k hk
    · unfold xTxt at z
      (repeat first | rw [gI_un (by omega)] | rw [gI_ua (by omega) (by omega)])
  · exact jn_no R0 (ct_X10_weight_no h) (ct_X11_weight_no rfl h)
theorem jn_fog {d : Nat} {S : am_S} (R : RM S) (p a b e : Int32) : Jn (d + 700) iX10_fog [.ref 0, .int p, .int a, .int b, .int e] iX11_fog [.ref 97, .int p, .int a, .int b, .int e] S := by
  have R0 := R
  obtain ⟨n, nw, c, tl⟩ := R
  by_cases h : hasP S p ∧ (0 ≤ a ∧ a ≤ 10) ∧ (0 ≤ b ∧ b ≤ 10) ∧ (0 ≤ e ∧ e ≤ 10) ∧ a + b + e ≤ 10
  · obtain ⟨h1, ha, hb, he, hs⟩ := h
    have hM := (rc_has c).mpr h1
    have A : am_CT (d + 700) _ _ _ _ _ := ct_X10_fog_ok (S := S) (rc_z1 c) h1 ha hb he hs
    obtain ⟨j, hj, rfl⟩ := rc_hasN c h1
    obtain ⟨x, hx, rfl⟩ := in_nI (m := 10) (by decide) ha
    obtain ⟨y, hy, rfl⟩ := in_nI (m := 10) (by decide) hb
    obtain ⟨z, hz, rfl⟩ := in_nI (m := 10) (by decide) he
    have h6 := rc_n6 c
    have ej : (nI j).toNatClampNeg = j := nI_clamp (by omega)
    have hs2 := hs
    rw [nI_add, nI_add] at hs2
    have hs3 : x + y + z ≤ 10 := (nI_leI (b := 10) (by omega) (by decide)).mp hs2
    have e10 : (10 : Int32) - nI x - nI y - nI z = nI (10 - x - y - z) := by
      rw [show (10 : Int32) = nI 10 from rfl, pk_sub (by omega), pk_sub (by omega), pk_sub (by omega)]
    simp only [cP, ej] at A
    rw [e10] at A
    have u1 : gI (uI (uI (uI (uI (uI S (6 + 2 * j + 1) 0 (nI x)) (6 + 2 * j + 1) 1 (nI y)) (6 + 2 * j + 1) 2 (nI z)) (6 + 2 * j + 1) 3 (nI (10 - x - y - z))) 97 0 0) 97 3 = gI S 97 3 := by (repeat first | rw [gI_un (by omega)] | rw [gI_ua (by omega) (by omega)])
    have B : am_CT (d + 700) _ _ _ _ _ := ct_X11_fog_ok (S := uI (uI (uI (uI S (6 + 2 * j + 1) 0 (nI x)) (6 + 2 * j + 1) 1 (nI y)) (6 + 2 * j + 1) 2 (nI z)) (6 + 2 * j + 1) 3 (nI (10 - x - y - z))) (p := nI j) rfl (by rw [u1]; exact rc_z0 c) (by rw [u1]; exact rc_z2 c) (by
      unfold hasM at hM ⊢
      rw [u1]
      exact hM) ha hb he hs
    simp only [ej] at B
    refine jn_TT A B (rm_fog (S := S) (fun o k hs hx => ?_) (fun _ => rfl) c tl ?_ ?_ (fun _ => rfl) (fun q hq => ?_))
    · unfold scr at hs
      unfold xFog at hx
      (repeat first | rw [gI_un (by omega)] | rw [gI_ua (by omega) (by omega)])
    · (repeat first | rw [gI_un (by omega)] | rw [gI_ua (by omega) (by omega)])
    · (repeat first | rw [gI_un (by omega)] | rw [gI_ua (by omega) (by omega)])
    · by_cases zz : q = j
      · (repeat first | rw [gI_un (by omega)] | rw [gI_ua (by omega) (by omega)])
        exact ⟨fun _ => ⟨x, y, z, hs3, rfl, rfl, rfl, rfl, rfl, rfl, rfl⟩, fun z => absurd z (by omega)⟩
      · (repeat first | rw [gI_un (by omega)] | rw [gI_ua (by omega) (by omega)])
        exact c.2.2.1 q hq
  · exact jn_no R0 (ct_X10_fog_no h) (ct_X11_fog_no rfl (by (repeat first | rw [gI_un (by omega)] | rw [gI_ua (by omega) (by omega)]); exact rc_z0 c) (fun z => h ⟨(rc_has c).mp (th_hasN.mp z.1), z.2⟩))
