/-! Joint calls: rule, pays. -/
theorem rc_txt60 {S : am_S} {n nw : Nat} (R : RC S n nw) : ∃ (len : Nat) (f : Nat → Nat), len ≤ 60 ∧ gI S 67 1 = nI len ∧ gI S 97 17 = nI len ∧ ∀ i, i < len → gI S 68 i = nI (f i) ∧ gI S 107 i = nI (f i) ∧ f i < 256 := by
  obtain ⟨len, a, b, c, e⟩ := R.2.2.2.2.2.2.2.2.2.1
  refine ⟨len, fun i => (gI S 68 i).toNatClampNeg, a, b, c, fun i hi => ?_⟩
  obtain ⟨x, x1, x2, x3⟩ := e i hi
  have ex : (gI S 68 i).toNatClampNeg = x := by rw [x2, nI_clamp (by omega)]
  show gI S 68 i = nI (gI S 68 i).toNatClampNeg ∧ gI S 107 i = nI (gI S 68 i).toNatClampNeg ∧ (gI S 68 i).toNatClampNeg < 256
  rw [ex]
  exact ⟨x2, x3, x1⟩
theorem jn_rule {d : Nat} {S : am_S} (R : RM S) (i : Int32) : Jn (d + 700) iX10_rule [.ref 0, .int i] iX11_rule [.ref 97, .int i] S := by
  obtain ⟨n, nw, c, tl⟩ := R
  obtain ⟨len, f, f60, g1, g2, g3⟩ := rc_txt60 c
  by_cases h : 0 ≤ i ∧ i ≤ 11
  · obtain ⟨i, hi, rfl⟩ : ∃ k, k < 12 ∧ i = nI k := ⟨i.toNatClampNeg, cl_lt (n := 12) h.1 (by have := h.2; grind) (by decide), nI_cl h.1⟩
    obtain ⟨s1, s2, s3⟩ := rd_same (sg := 10) (tp := f) (n := len) sgR_0 rfl (Nat.le_refl 6) (fun j hj => (g3 j (by omega)).2.2)
    have A : am_CE (d + 700) _ _ _ _ _ := ct_X10_rule_ok (d := d + 693) (S := S) (f := f) (len := len) ⟨g1, f60, fun j hj => ⟨(g3 j hj).1, (g3 j hj).2.2⟩⟩ hi
    rw [show rdAns (am_str 0) f len = rdA f len 10 from s1, show rdCod (am_str 0) f len = rdCod (am_str 10) f len from rfl] at A
    refine jn_EE A (fun T hT => ?_)
    obtain ⟨T1, ⟨a1, a2, a3, a4, a5, a6⟩, rfl⟩ := hT
    have w17 : ∀ k, gI (uI (uI T1 67 1 0) 97 0 0) 97 k = if k = 0 then 0 else gI S 97 k := fun k => by
      by_cases z : k = 0
      · subst z
        rw [gI_at, if_pos rfl]
      · rw [gI_un (by omega), gI_un (by omega), if_neg z, a1 97 (by decide) (by decide) (by decide) (by decide) (by decide) (by omega) (by omega)]
    have wo : ∀ o k, o ≠ 97 → o ≠ 67 → gI (uI (uI T1 67 1 0) 97 0 0) o k = gI T1 o k := fun o k h1 h2 => by rw [gI_un (fun z _ => h1 z), gI_un (fun z _ => h2 z)]
    have B : am_CE (d + 700) _ _ _ _ _ := ct_X11_rule_ok (d := d + 34) (S := uI T1 67 1 0) (tp := f) (n := len) (w := i) rfl (by rw [w17, if_neg (by decide), g2]) (by omega) (fun j hj => by
      have := g3 j (by omega)
      rw [wo 107 j (by decide) (by decide), a1 107 (by decide) (by decide) (by decide) (by decide) (by decide) (by omega) (by omega)]
      exact ⟨this.2.1, by omega⟩) hi
    refine ⟨_, B, fun V hV => ?_⟩
    obtain ⟨U, b1, b2, b3⟩ := hV
    have uI0 : ∀ o k, (o = 97 → k ≠ 17 ∧ ¬ (18 ≤ k ∧ k ≤ 20) ∧ k ≠ 0) → (o = 104 → k < 624) → (o = 105 → k ≠ 13) → o ≠ 67 → gI U o k = gI T1 o k := fun o k h1 h2 h3 h4 => by
      rw [rdU_I b1 (fun z => ⟨(h1 z).1, (h1 z).2.1⟩) h2 h3]
      by_cases z : o = 97
      · subst z
        rw [w17, if_neg (h1 rfl).2.2, a1 97 (by decide) (by decide) (by decide) (by decide) (by decide) (by omega) (by omega)]
      · exact wo o k z h4
    have u67 : ∀ k, gI U 67 k = if k = 1 then 0 else gI T1 67 k := fun k => by
      rw [rdU_I b1 (fun z => by cases z) (fun z => by cases z) (fun z => by cases z), gI_un (fun z _ => by cases z)]
      by_cases z : k = 1
      · subst z
        rw [gI_at, if_pos rfl]
      · rw [gI_un (fun _ y => z y), if_neg z]
    have uR : ∀ x, gR U x = if x = 6 then 1000000 + 10 else gR S x := fun x => by
      rw [rdU_R b1]
      show (if x = 6 then 1000000 + 10 else gR T1 x) = _
      rw [a4]
    have uJ : ∀ o k, gJ U o k = gJ S o k := fun o k => by
      rw [rdU_J b1]
      show gJ T1 o k = _
      rw [a3]
    have t1 : ∀ o k, o ≠ 67 → o ≠ 69 → o ≠ 70 → o ≠ 72 → o ≠ 73 → o ≠ 18 + 3 * i → o ≠ 18 + 3 * i + 1 → gI T1 o k = gI S o k := fun o k h1 h2 h3 h4 h5 h6 h7 => by rw [a1 o h1 h2 h3 h4 h5 h6 h7]
    by_cases h0 : rdA f len 10 = 0
    · rw [if_pos h0] at b3
      obtain ⟨l, l1, l2, l3, l4, -⟩ := s2 h0
      obtain ⟨e1, e2, e3⟩ := a6 l l1
      have vU : ∀ o k, o ≠ 104 → o ≠ 105 → gI V o k = gI U o k := fun o k h1 h2 => cp_I b3 (fun z => absurd z h1) (fun z => absurd z h2)
      refine ⟨n, nw, rc_rul (S := S) (fun o k h1 h2 h3 h4 => ?_) (fun x hx => ?_) c ?_ ?_ ?_ ?_, rTld_c (S := S) ?_ ?_ (fun j => ?_) (fun j => ?_) tl⟩
      · skip
        rw [cp_I b3 (fun z => by omega) (fun z => by omega), uI0 o k (fun z => by omega) (fun z => by omega) (fun z => by omega) (fun z => by omega), t1 o k (by omega) (by omega) (by omega) (by omega) (by omega) (by omega) (by omega)]
      · rw [b3.2.2.2.2, uR, if_neg (by omega)]
      · intro j hj
        by_cases z : j = i
        · subst z
          refine ⟨l.length, ?_, ?_⟩
          · rw [vU _ _ (by omega) (by omega), uI0 _ _ (fun y => by omega) (fun y => by omega) (fun y => by omega) (by omega), e1]
          · have hs : Stk (gI V (18 + 3 * j + 1)) l := by
              have : gI V (18 + 3 * j + 1) = gI T1 (18 + 3 * j + 1) := funext fun k => by rw [vU _ _ (by omega) (by omega), uI0 _ _ (fun y => by omega) (fun y => by omega) (fun y => by omega) (by omega)]
              rw [this]
              exact e3
            exact fm_new (by decide) (by omega) b2 rfl l2 b3 e2 hs l3 l4
        · obtain ⟨L, q1, q2⟩ := c.2.2.2.2.2.2.1 j hj
          refine ⟨L, ?_, FmOk_c (S := S) ?_ (fun k hk => ?_) (fun k => ?_) q2⟩
          · rw [vU _ _ (by omega) (by omega), uI0 _ _ (fun y => by omega) (fun y => by omega) (fun y => by omega) (by omega), t1 _ _ (by omega) (by omega) (by omega) (by omega) (by omega) (by omega) (by omega), q1]
          · rw [cp_I b3 (fun y => by omega) (fun y => by omega), uI0 _ _ (fun y => by omega) (fun y => by omega) (fun y => by omega) (by omega), t1 _ _ (by omega) (by omega) (by omega) (by omega) (by omega) (by omega) (by omega)]
          · rw [cp_I b3 (fun y => by omega) (fun y => by omega), uI0 _ _ (fun y => by omega) (fun y => by omega) (fun y => by omega) (by omega), t1 _ _ (by omega) (by omega) (by omega) (by omega) (by omega) (by omega) (by omega)]
          · rw [vU _ _ (by omega) (by omega), uI0 _ _ (fun y => by omega) (fun y => by omega) (fun y => by omega) (by omega), t1 _ _ (by omega) (by omega) (by omega) (by omega) (by omega) (by omega) (by omega)]
      · refine rPay_c (S := S) (fun o k z => ?_) c.2.2.2.2.2.2.2.1
        unfold xPay at z
        rw [cp_I b3 (fun z => by omega) (fun z => by omega), uI0 o k (fun z => by omega) (fun z => by omega) (fun z => by omega) (fun z => by omega), t1 o k (by omega) (by omega) (by omega) (by omega) (by omega) (by omega) (by omega)]
      · refine txt_0 ?_ ?_
        · rw [vU _ _ (by decide) (by decide), u67, if_pos rfl]
        · rw [vU _ _ (by decide) (by decide), rdU_17 b1]
      · exact rref_6 (sg := 10) c.2.2.2.2.2.2.2.2.2.2 (fun x => by rw [b3.2.2.2.2, uR]) (by decide)
      · rw [vU _ _ (by decide) (by decide), uI0 _ _ (fun z => by omega) (fun z => by omega) (fun z => by omega) (by decide), t1 _ _ (by decide) (by decide) (by decide) (by decide) (by decide) (by omega) (by omega)]
      · rw [vU _ _ (by decide) (by decide), uI0 _ _ (fun z => by omega) (fun z => by omega) (fun z => by omega) (by decide), t1 _ _ (by decide) (by decide) (by decide) (by decide) (by decide) (by omega) (by omega)]
      · rw [b3.2.2.2.1, uJ]
      · rw [b3.2.2.2.1, uJ]
    · rw [if_neg h0] at b3
      subst b3
      obtain ⟨e1, e2⟩ := a5 (s3 h0)
      have t1 : ∀ o k, o ≠ 67 → o ≠ 69 → o ≠ 70 → o ≠ 72 → o ≠ 73 → gI T1 o k = gI S o k := fun o k h1 h2 h3 h4 h5 => by
        by_cases y1 : o = 18 + 3 * i
        · rw [y1, e1]
        · by_cases y2 : o = 18 + 3 * i + 1
          · rw [y2, e2]
          · exact t1 o k h1 h2 h3 h4 h5 y1 y2
      have vS : ∀ o k, o ≠ 67 → o ≠ 69 → o ≠ 70 → o ≠ 72 → o ≠ 73 → (o = 97 → k ≠ 17 ∧ ¬ (18 ≤ k ∧ k ≤ 20) ∧ k ≠ 0) → (o = 104 → k < 624) → (o = 105 → k ≠ 13) → gI V o k = gI S o k := fun o k h1 h2 h3 h4 h5 h6 h7 h8 => by rw [uI0 o k h6 h7 h8 h1, t1 o k h1 h2 h3 h4 h5]
      refine ⟨n, nw, rc_rul (S := S) (fun o k h1 h2 h3 h4 => ?_) (fun x hx => ?_) c (rFrm_c (S := S) (fun o k z => ?_) c.2.2.2.2.2.2.1) (rPay_c (S := S) (fun o k z => ?_) c.2.2.2.2.2.2.2.1) ?_ ?_, rTld_c (S := S) ?_ ?_ (fun j => uJ 75 j) (fun j => uJ 98 j) tl⟩
      · skip
        exact vS o k (by omega) (by omega) (by omega) (by omega) (by omega) (fun z => by omega) (fun z => by omega) (fun z => by omega)
      · rw [uR, if_neg (by omega)]
      · unfold xFrm at z
        exact vS o k (by omega) (by omega) (by omega) (by omega) (by omega) (fun z => by omega) (fun z => by omega) (fun z => by omega)
      · unfold xPay at z
        exact vS o k (by omega) (by omega) (by omega) (by omega) (by omega) (fun z => by omega) (fun z => by omega) (fun z => by omega)
      · refine txt_0 ?_ (rdU_17 b1)
        rw [u67, if_pos rfl]
      · exact rref_6 (sg := 10) c.2.2.2.2.2.2.2.2.2.2 uR (by decide)
      · exact vS 74 1 (by decide) (by decide) (by decide) (by decide) (by decide) (fun z => by omega) (fun z => by omega) (fun z => by omega)
      · exact vS 97 1 (by decide) (by decide) (by decide) (by decide) (by decide) (fun z => by omega) (fun z => by omega) (fun z => by omega)
  · have A : am_CT (d + 700) _ _ _ _ _ := ct_X10_rule_no (d := d + 693) (S := S) (i := i) (by
      by_cases z : 0 ≤ i
      · exact Or.inr (by
          have : ¬ i ≤ 11 := fun y => h ⟨z, y⟩
          grind)
      · exact Or.inl (Int32.not_le.mp z))
    have B : am_CT (d + 700) _ _ _ _ _ := ct_X11_rule_neg (d := d + 694) (S := uI S 67 1 0) (n := len) (w := i) rfl (by rw [gI_un (by omega), gI_un (by omega), g2]) (by omega) h
    refine jn_TT A B ?_
    have b1 : FrC (rdU (uI (uI S 67 1 0) 97 0 0) 10 len) (rdU (uI (uI S 67 1 0) 97 0 0) 10 len) := ⟨fun _ _ _ _ => rfl, fun _ _ _ => rfl, fun _ _ => rfl, fun _ _ => rfl, fun _ => rfl, fun _ => rfl⟩
    have uR : ∀ x, gR (rdU (uI (uI S 67 1 0) 97 0 0) 10 len) x = if x = 6 then 1000000 + 10 else gR S x := fun x => by
      rw [rdU_R b1]
      rfl
    have uJ : ∀ o k, gJ (rdU (uI (uI S 67 1 0) 97 0 0) 10 len) o k = gJ S o k := fun o k => rfl
    have vS : ∀ o k, o ≠ 67 → (o = 97 → k ≠ 17 ∧ ¬ (18 ≤ k ∧ k ≤ 20) ∧ k ≠ 0) → (o = 104 → k < 624) → (o = 105 → k ≠ 13) → gI (rdU (uI (uI S 67 1 0) 97 0 0) 10 len) o k = gI S o k := fun o k h1 h6 h7 h8 => by rw [rdU_I b1 (fun z => ⟨(h6 z).1, (h6 z).2.1⟩) h7 h8, gI_un (fun z y => (h6 z).2.2 y), gI_un (fun z _ => h1 z)]
    have u17 := rdU_17 b1
    have u67 : gI (rdU (uI (uI S 67 1 0) 97 0 0) 10 len) 67 1 = 0 := by
      rw [rdU_I b1 (fun z => by cases z) (fun z => by cases z) (fun z => by cases z), gI_un (fun z _ => by cases z), gI_at]
    generalize rdU (uI (uI S 67 1 0) 97 0 0) 10 len = V at *
    refine ⟨n, nw, rc_rul (S := S) (fun o k h1 h2 h3 h4 => ?_) (fun x hx => ?_) c (rFrm_c (S := S) (fun o k z => ?_) c.2.2.2.2.2.2.1) (rPay_c (S := S) (fun o k z => ?_) c.2.2.2.2.2.2.2.1) (txt_0 u67 u17) ?_, rTld_c (S := S) ?_ ?_ (fun j => uJ 75 j) (fun j => uJ 98 j) tl⟩
    · skip
      exact vS o k (by omega) (fun z => by omega) (fun z => by omega) (fun z => by omega)
    · rw [uR, if_neg (by omega)]
    · unfold xFrm at z
      exact vS o k (by omega) (fun z => by omega) (fun z => by omega) (fun z => by omega)
    · unfold xPay at z
      exact vS o k (by omega) (fun z => by omega) (fun z => by omega) (fun z => by omega)
    · exact rref_6 (sg := 10) c.2.2.2.2.2.2.2.2.2.2 uR (by decide)
    · exact vS 74 1 (by decide) (fun z => by omega) (fun z => by omega) (fun z => by omega)
    · exact vS 97 1 (by decide) (fun z => by omega) (fun z => by omega) (fun z => by omega)
theorem jn_pays {d : Nat} {S : am_S} (R : RM S) : Jn (d + 700) iX10_pays [.ref 0] iX11_pays [.ref 97] S := by
  obtain ⟨n, nw, c, tl⟩ := R
  obtain ⟨len, f, f60, g1, g2, g3⟩ := rc_txt60 c
  obtain ⟨s1, s2, s3⟩ := rd_same (sg := 11) (tp := f) (n := len) (w := 4) sgR_1 rfl (by decide) (fun j hj => (g3 j (by omega)).2.2)
  obtain ⟨v, hv⟩ : ∃ v : Nat → Int32, ∀ l, rdCod (am_str 11) f len = some l → ∀ cs g sg at_, Stk cs l → at_ < 81 → sg 0 = nI (at_ / 27) → sg 1 = nI (at_ / 9 % 3) → sg 2 = nI (at_ / 3 % 3) → sg 3 = nI (at_ % 3) → fVal cs sg 4 g l.length = v at_ := by
    match hl : rdCod (am_str 11) f len with
    | none => exact ⟨fun _ => 0, fun l z => by cases z⟩
    | some l =>
      have h0 : rdA f len 11 = 0 := Decidable.not_not.mp (fun z => by
        have := s3 z
        rw [hl] at this
        cases this)
      obtain ⟨l', q1, q2, q3, q4', q5⟩ := s2 h0
      rw [hl] at q1
      cases q1
      refine ⟨fun at_ => fVal (csL l) (q4 (at_ / 27) (at_ / 9 % 3) (at_ / 3 % 3) (at_ % 3)) 4 (fun _ => 0) l.length, fun l2 z cs g sg at_ hs ha x0 x1 x2 x3 => ?_⟩
      cases z
      rw [fVal_cs (cs2 := csL l) (fun i hi => hs i hi)]
      refine fVal_ind (wf_l (by decide) q5 stk_csL q3 q4').1 (fun i hi => ?_) (by decide)
      match i, hi with
      | 0, _ => exact x0
      | 1, _ => exact x1
      | 2, _ => exact x2
      | 3, _ => exact x3
  have A : am_CE (d + 700) _ _ _ _ _ := ct_X10_pays (d := d + 693) (S := S) (f := f) (len := len) (v := v) ⟨g1, f60, fun j hj => ⟨(g3 j hj).1, (g3 j hj).2.2⟩⟩ hv
  rw [show rdAns (am_str 1) f len = rdA f len 11 from s1, show rdCod (am_str 1) f len = rdCod (am_str 11) f len from rfl] at A
  refine jn_EE A (fun T hT => ?_)
  obtain ⟨a1, a2, a3, a4, a5, a6⟩ := hT
  have t1 : ∀ o k, (o < 67 ∨ o = 68 ∨ o = 71 ∨ (73 < o ∧ o < 88) ∨ 96 < o ∨ (92 ≤ o ∧ o ≤ 95)) → gI T o k = gI S o k := fun o k h => by rw [a1 o h]
  have w17 : ∀ k, gI (uI T 97 0 0) 97 k = if k = 0 then 0 else gI S 97 k := fun k => by
    by_cases z : k = 0
    · subst z
      rw [gI_at, if_pos rfl]
    · rw [gI_un (by omega), if_neg z, t1 97 _ (by decide)]
  have wo : ∀ o k, o ≠ 97 → gI (uI T 97 0 0) o k = gI T o k := fun o k h1 => by rw [gI_un (fun z _ => h1 z)]
  have B : am_CE (d + 700) _ _ _ _ _ := ct_X11_pays (d := d + 34) (S := T) (tp := f) (n := len) rfl (by rw [w17, if_neg (by decide), g2]) (by omega) (fun j hj => by
    have := g3 j (by omega)
    rw [wo 107 j (by decide), t1 107 _ (by decide)]
    exact ⟨this.2.1, by omega⟩)
  refine ⟨_, B, fun V hV => ?_⟩
  obtain ⟨U, b1, b2, b3⟩ := hV
  have uI0 : ∀ o k, (o = 97 → k ≠ 17 ∧ ¬ (18 ≤ k ∧ k ≤ 20) ∧ k ≠ 0) → (o = 104 → k < 624) → (o = 105 → k ≠ 13) → gI U o k = gI T o k := fun o k h1 h2 h3 => by
    rw [rdU_I b1 (fun z => ⟨(h1 z).1, (h1 z).2.1⟩) h2 h3]
    by_cases z : o = 97
    · subst z
      rw [w17, if_neg (h1 rfl).2.2, t1 97 _ (by decide)]
    · exact wo o k z
  have uR : ∀ x, gR U x = if x = 6 then 1000000 + 11 else gR S x := fun x => by
    rw [rdU_R b1]
    show (if x = 6 then 1000000 + 11 else gR T x) = _
    rw [a4]
  have uJ : ∀ o k, gJ U o k = gJ S o k := fun o k => by
    rw [rdU_J b1]
    show gJ T o k = _
    rw [a3]
  have u67 : gI U 67 1 = 0 := by rw [uI0 67 1 (fun z => by cases z) (fun z => by cases z) (fun z => by cases z), a2]
  by_cases h0 : rdA f len 11 = 0
  · rw [if_pos h0] at b3
    obtain ⟨l, l1, l2, l3, l4, l5⟩ := s2 h0
    obtain ⟨e1, e2, e3, e4⟩ := a6 l l1
    have vU : ∀ o k, o ≠ 104 → o ≠ 105 → gI V o k = gI U o k := fun o k h1 h2 => cp_I b3 (fun z => absurd z h1) (fun z => absurd z h2)
    refine ⟨n, nw, rc_rul (S := S) (fun o k h1 h2 h3 h4 => ?_) (fun x hx => ?_) c ?_ ?_ ?_ ?_, rTld_c (S := S) ?_ ?_ (fun j => ?_) (fun j => ?_) tl⟩
    · skip
      rw [cp_I b3 (fun z => by omega) (fun z => by omega), uI0 o k (fun z => by omega) (fun z => by omega) (fun z => by omega), t1 o k (by omega)]
    · rw [b3.2.2.2.2, uR, if_neg (by omega)]
    · refine rFrm_c (S := S) (fun o k z => ?_) c.2.2.2.2.2.2.1
      unfold xFrm at z
      rw [cp_I b3 (fun z => by omega) (fun z => by omega), uI0 o k (fun z => by omega) (fun z => by omega) (fun z => by omega), t1 o k (by omega)]
    · have v89 : gI V 89 = gI T 89 := funext fun k => by rw [vU _ _ (by omega) (by omega), uI0 _ _ (fun y => by omega) (fun y => by omega) (fun y => by omega)]
      refine ⟨⟨l.length, ?_, ?_, fun i j a b hi hj ha hb => ?_⟩, fun k hk => ?_⟩
      · rw [vU _ _ (by omega) (by omega), uI0 _ _ (fun y => by omega) (fun y => by omega) (fun y => by omega), e1]
      · exact fm_new (by decide) (by omega) b2 rfl l2 b3 e2 (by rw [v89]; exact e3) l3 l4
      · rw [vU _ _ (by omega) (by omega), uI0 _ _ (fun y => by omega) (fun y => by omega) (fun y => by omega), e4 _ (by omega), v89]
        refine (hv l l1 (gI T 89) (fun _ => 0) (q4 i j a b) _ e3 (by omega) ?_ ?_ ?_ ?_).symm
        · rw [show ((i * 3 + j) * 9 + a * 3 + b) / 27 = i by omega]
          rfl
        · rw [show ((i * 3 + j) * 9 + a * 3 + b) / 9 % 3 = j by omega]
          rfl
        · rw [show ((i * 3 + j) * 9 + a * 3 + b) / 3 % 3 = a by omega]
          rfl
        · rw [show ((i * 3 + j) * 9 + a * 3 + b) % 3 = b by omega]
          rfl
      · rw [vU _ _ (by omega) (by omega), uI0 _ _ (fun y => by omega) (fun y => by omega) (fun y => by omega), t1 _ _ (by omega), vU _ _ (by omega) (by omega), uI0 _ _ (fun y => by omega) (fun y => by omega) (fun y => by omega), t1 _ _ (by omega)]
        exact c.2.2.2.2.2.2.2.1.2 k hk
    · refine txt_0 ?_ ?_
      · rw [vU _ _ (by decide) (by decide), u67]
      · rw [vU _ _ (by decide) (by decide), rdU_17 b1]
    · exact rref_6 (sg := 11) c.2.2.2.2.2.2.2.2.2.2 (fun x => by rw [b3.2.2.2.2, uR]) (by decide)
    · rw [vU _ _ (by decide) (by decide), uI0 _ _ (fun z => by omega) (fun z => by omega) (fun z => by omega), t1 _ _ (by decide)]
    · rw [vU _ _ (by decide) (by decide), uI0 _ _ (fun z => by omega) (fun z => by omega) (fun z => by omega), t1 _ _ (by decide)]
    · rw [b3.2.2.2.1, uJ]
    · rw [b3.2.2.2.1, uJ]
  · rw [if_neg h0] at b3
    subst b3
    obtain ⟨e1, e2, e3⟩ := a5 (s3 h0)
    have t1 : ∀ o k, o ≠ 67 → o ≠ 69 → o ≠ 70 → o ≠ 72 → o ≠ 73 → o ≠ 90 → o ≠ 96 → gI T o k = gI S o k := fun o k h1 h2 h3 h4 h5 h6 h7 => by
      by_cases y1 : o = 88
      · rw [y1, e1]
      · by_cases y2 : o = 89
        · rw [y2, e2]
        · by_cases y3 : o = 91
          · rw [y3, e3]
          · exact t1 o k (by omega)
    have vS : ∀ o k, o ≠ 67 → o ≠ 69 → o ≠ 70 → o ≠ 72 → o ≠ 73 → o ≠ 90 → o ≠ 96 → (o = 97 → k ≠ 17 ∧ ¬ (18 ≤ k ∧ k ≤ 20) ∧ k ≠ 0) → (o = 104 → k < 624) → (o = 105 → k ≠ 13) → gI V o k = gI S o k := fun o k h1 h2 h3 h4 h5 h90 h96 h6 h7 h8 => by rw [uI0 o k h6 h7 h8, t1 o k h1 h2 h3 h4 h5 h90 h96]
    refine ⟨n, nw, rc_rul (S := S) (fun o k h1 h2 h3 h4 => ?_) (fun x hx => ?_) c (rFrm_c (S := S) (fun o k z => ?_) c.2.2.2.2.2.2.1) (rPay_c (S := S) (fun o k z => ?_) c.2.2.2.2.2.2.2.1) (txt_0 u67 (rdU_17 b1)) ?_, rTld_c (S := S) ?_ ?_ (fun j => uJ 75 j) (fun j => uJ 98 j) tl⟩
    · exact vS o k (by omega) (by omega) (by omega) (by omega) (by omega) (by omega) (by omega) (fun z => by omega) (fun z => by omega) (fun z => by omega)
    · rw [uR, if_neg (by omega)]
    · unfold xFrm at z
      exact vS o k (by omega) (by omega) (by omega) (by omega) (by omega) (by omega) (by omega) (fun z => by omega) (fun z => by omega) (fun z => by omega)
    · unfold xPay at z
      exact vS o k (by omega) (by omega) (by omega) (by omega) (by omega) (by omega) (by omega) (fun z => by omega) (fun z => by omega) (fun z => by omega)
    · exact rref_6 (sg := 11) c.2.2.2.2.2.2.2.2.2.2 uR (by decide)
    · exact vS 74 1 (by decide) (by decide) (by decide) (by decide) (by decide) (by decide) (by decide) (fun z => by omega) (fun z => by omega) (fun z => by omega)
    · exact vS 97 1 (by decide) (by decide) (by decide) (by decide) (by decide) (by decide) (by decide) (fun z => by omega) (fun z => by omega) (fun z => by omega)
