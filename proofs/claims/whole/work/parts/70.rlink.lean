/-! Joint calls: one more of people; links. -/
theorem rKpt_n {S : am_S} {n m : Nat} (h : n ≤ m) (R : rKpt S n) : rKpt S m := ⟨R.1, R.2.1, fun i hi => ⟨(R.2.2 i hi).1, by
  rcases (R.2.2 i hi).2 with z | ⟨r, z1, nk, wk, a, b, z⟩
  · exact Or.inl z
  · exact Or.inr ⟨r, z1, nk, wk, a, by omega, z⟩⟩⟩
theorem jn_person {d : Nat} {S : am_S} (R : RM S) (l s t : Int32) : Jn (d + 700) iX10_person [.ref 0, .int l, .int s, .int t] iX11_person [.ref 97, .int l, .int s, .int t] S := by
  have R0 := R
  obtain ⟨n, nw, c, tl⟩ := R
  have h6 := rc_n6 c
  by_cases h : gI S 1 1 < 6 ∧ (0 ≤ l ∧ l ≤ 20) ∧ (0 ≤ s ∧ s ≤ 20) ∧ (0 ≤ t ∧ t ≤ 9)
  · obtain ⟨h1, hl, hs, ht⟩ := h
    rw [rc_n1 c] at h1
    have hn : n < 6 := (nI_ltI (b := 6) (by omega) (by decide)).mp h1
    have A : am_CT (d + 700) _ _ _ _ _ := ct_X10_person_ok (rc_n1 c) hn hl hs ht
    have B : am_CT (d + 700) _ _ _ _ _ := ct_X11_person_ok (S := uI (uI (uI (uI S (6 + 2 * n) 0 l) (6 + 2 * n) 1 s) (6 + 2 * n) 2 t) 1 1 (nI (n + 1))) (n := n) (by
      (repeat first | rw [gI_un (by omega)] | rw [gI_ua (by omega) (by omega)])
      exact rc_n2 c) hn hl hs ht
    obtain ⟨r1, r2, r3, r4, r5, r6, r7, r8, r9, r10, r11⟩ := c
    refine jn_TT A B ⟨n + 1, nw, ⟨?_, ?_, ?_, rBem_c (S := S) (fun o k z => ?_) r4, ?_, rKpt_c (S := S) (fun o k z => ?_) (fun _ _ => rfl) (rKpt_n (Nat.le_succ n) r6), rFrm_c (S := S) (fun o k z => ?_) r7, rPay_c (S := S) (fun o k z => ?_) r8, rIdl_c (S := S) (fun o k z => ?_) r9, rTxt_c (S := S) (fun o k z => ?_) r10, rRef_c (S := S) (fun _ _ => rfl) r11⟩, rTld_c (S := S) ?_ ?_ (fun _ => rfl) (fun _ => rfl) tl⟩
    · refine ⟨by omega, by (repeat first | rw [gI_un (by omega)] | rw [gI_ua (by omega) (by omega)]), by (repeat first | rw [gI_un (by omega)] | rw [gI_ua (by omega) (by omega)]), fun q hq => ?_⟩
      have e := r1.2.2.2 q hq
      by_cases z : q = n
      · subst z
        (repeat first | rw [gI_un (by omega)] | rw [gI_ua (by omega) (by omega)])
        exact ⟨⟨rfl, rfl, rfl, e.1.2.2.2⟩, hl, hs, ht⟩
      · (repeat first | rw [gI_un (by omega)] | rw [gI_ua (by omega) (by omega)])
        exact e
    · intro p q hp hq hb
      have e102 : ∀ k, gI (uI (uI (uI (uI (uI (uI (uI (uI (uI (uI S (6 + 2 * n) 0 l) (6 + 2 * n) 1 s) (6 + 2 * n) 2 t) 1 1 (nI (n + 1))) 97 0 0) 99 n l) 100 n s) 101 n t) 121 n 10) 97 3 (nI (n + 1))) 102 k = gI S 102 k := fun k => by (repeat first | rw [gI_un (by omega)] | rw [gI_ua (by omega) (by omega)])
      rw [e102] at hb ⊢
      obtain ⟨a, b, e⟩ := r2 p q hp hq hb
      exact ⟨by omega, by omega, e⟩
    · intro q hq
      have e := r3 q hq
      by_cases z : q = n
      · subst z
        have e := e.2 (Nat.le_refl _)
        (repeat first | rw [gI_un (by omega)] | rw [gI_ua (by omega) (by omega)])
        exact ⟨fun _ => ⟨10, 0, 0, by decide, rfl, e.1, e.2.1, e.2.2.1, e.2.2.2.1, e.2.2.2.2.1, e.2.2.2.2.2⟩, fun z => absurd z (by omega)⟩
      · (repeat first | rw [gI_un (by omega)] | rw [gI_ua (by omega) (by omega)])
        exact ⟨fun z2 => e.1 (by omega), fun z2 => e.2 (by omega)⟩
    · unfold xBem at z
      (repeat first | rw [gI_un (by omega)] | rw [gI_ua (by omega) (by omega)])
    · obtain ⟨a, b, c, e, f, g, i⟩ := r5
      refine ⟨a, by (repeat first | rw [gI_un (by omega)] | rw [gI_ua (by omega) (by omega)]); exact b, by (repeat first | rw [gI_un (by omega)] | rw [gI_ua (by omega) (by omega)]); exact c, by (repeat first | rw [gI_un (by omega)] | rw [gI_ua (by omega) (by omega)]); exact e, by (repeat first | rw [gI_un (by omega)] | rw [gI_ua (by omega) (by omega)]); exact f, fun m hm => by (repeat first | rw [gI_un (by omega)] | rw [gI_ua (by omega) (by omega)]); exact g m hm, fun k p m hk hp => ?_⟩
      have i := i k p m hk hp
      (repeat first | rw [gI_un (by omega)] | rw [gI_ua (by omega) (by omega)])
      refine ⟨fun z1 z2 => ?_, fun z1 z2 => i.2 (by omega) z2⟩
      by_cases z : p < n
      · exact i.1 z z2
      · obtain ⟨i1, i2⟩ := i.2 (by omega) (by omega)
        rw [i1, i2]
    · unfold xKpt at z
      (repeat first | rw [gI_un (by omega)] | rw [gI_ua (by omega) (by omega)])
    · unfold xFrm at z
      (repeat first | rw [gI_un (by omega)] | rw [gI_ua (by omega) (by omega)])
    · unfold xPay at z
      (repeat first | rw [gI_un (by omega)] | rw [gI_ua (by omega) (by omega)])
    · unfold xIdl at z
      (repeat first | rw [gI_un (by omega)] | rw [gI_ua (by omega) (by omega)])
    · unfold xTxt at z
      (repeat first | rw [gI_un (by omega)] | rw [gI_ua (by omega) (by omega)])
    · (repeat first | rw [gI_un (by omega)] | rw [gI_ua (by omega) (by omega)])
    · (repeat first | rw [gI_un (by omega)] | rw [gI_ua (by omega) (by omega)])
  · refine jn_no R0 (ct_X10_person_no h) (ct_X11_person_no (fun z => h ⟨?_, z.2⟩))
    have z1 := z.1
    rw [rc_n2 c] at z1
    rw [rc_n1 c]
    refine nI_lt (b := 6) ?_ (by decide)
    apply Decidable.byContradiction
    intro y
    obtain rfl : n = 6 := by omega
    exact z1 rfl
theorem link_near {d : Nat} {S : am_S} (R : RM S) {p q : Int32} (f : Int32) (h : twoP S p q) : Jn (d + 700) iX10_link [.ref 0, .int 0, .int p, .int q, .int f] iX11_link [.ref 97, .int 0, .int p, .int q, .int f] S := by
  obtain ⟨n, nw, c, tl⟩ := R
  have hM := (rc_two c).mpr h
  obtain ⟨i, j, hi, hj, hij, rfl, rfl⟩ := rc_twoN c h
  have h6 := rc_n6 c
  have ei : (nI i).toNatClampNeg = i := nI_clamp (by omega)
  have ej : (nI j).toNatClampNeg = j := nI_clamp (by omega)
  have A : am_CT (d + 700) _ _ _ _ _ := ct_X10_link_near (f := f) (rc_z1 c) h
  simp only [cP, ei, ej] at A
  generalize hS1 : uI (uI S (6 + 2 * i) 3 (fWith (gI S (6 + 2 * i) 3) (nI j) f)) (6 + 2 * j) 3 (fWith (gI S (6 + 2 * j) 3) (nI i) f) = S1 at A
  have u1 : gI (uI S1 97 0 0) 97 3 = gI S 97 3 := by rw [← hS1]; (repeat first | rw [gI_un (by omega)] | rw [gI_ua (by omega) (by omega)])
  have B : am_CT (d + 700) _ _ _ _ _ := ct_X11_link_near (S := S1) (T := uI S1 97 0 0) (p := nI i) (q := nI j) (f := f) rfl (by rw [u1]; exact rc_z0 c) (by rw [u1]; exact rc_z2 c) (by
    unfold twoM hasM at hM ⊢
    rw [u1]
    exact hM)
  simp only [ei, ej] at B
  have P := c.1.2.2.2
  have e3 : gI (uI S1 97 0 0) 102 i = gI S (6 + 2 * i) 3 := by rw [← hS1, (P i (by omega)).1.2.2.2.1]; (repeat first | rw [gI_un (by omega)] | rw [gI_ua (by omega) (by omega)])
  have e4 : gI (uI S1 97 0 0) 102 j = gI S (6 + 2 * j) 3 := by rw [← hS1, (P j (by omega)).1.2.2.2.1]; (repeat first | rw [gI_un (by omega)] | rw [gI_ua (by omega) (by omega)])
  rw [e3, e4] at B
  generalize hU : uI (uI (uI S1 97 0 0) 102 i (fWith (gI S (6 + 2 * i) 3) (nI j) f)) 102 j (fWith (gI S (6 + 2 * j) 3) (nI i) f) = U at B
  have hN : ∀ q, q < 6 → gI U 102 q = if q = i then fWith (gI S (6 + 2 * i) 3) (nI j) f else if q = j then fWith (gI S (6 + 2 * j) 3) (nI i) f else gI S 102 q := fun q hq => by
    rw [← hU, ← hS1]
    by_cases z1 : q = i
    · rw [if_pos z1]; (repeat first | rw [gI_un (by omega)] | rw [gI_ua (by omega) (by omega)])
    · rw [if_neg z1]
      by_cases z2 : q = j
      · rw [if_pos z2]; (repeat first | rw [gI_un (by omega)] | rw [gI_ua (by omega) (by omega)])
      · rw [if_neg z2]; (repeat first | rw [gI_un (by omega)] | rw [gI_ua (by omega) (by omega)])
  have hF : ∀ p q, p < 6 → q < 6 → (fBit (gI U 102 p) (nI q) ↔ if (p = i ∧ q = j) ∨ (p = j ∧ q = i) then ¬ f = 0 else fBit (gI S 102 p) (nI q)) := fun p q hp hq => by
    rw [hN p hp, (P i (by omega)).1.2.2.2.1, (P j (by omega)).1.2.2.2.1]
    by_cases z1 : p = i
    · subst z1
      rw [if_pos rfl, fwith_iff (by omega) (by omega)]
      by_cases z2 : q = j
      · rw [if_pos z2.symm, if_pos (Or.inl ⟨rfl, z2⟩)]
      · rw [if_neg (fun z => z2 z.symm), if_neg (by omega)]
    · rw [if_neg z1]
      by_cases z3 : p = j
      · subst z3
        rw [if_pos rfl, fwith_iff (by omega) (by omega)]
        by_cases z2 : q = i
        · rw [if_pos z2.symm, if_pos (Or.inr ⟨rfl, z2⟩)]
        · rw [if_neg (fun z => z2 z.symm), if_neg (by omega)]
      · rw [if_neg z3, if_neg (by omega)]
  refine jn_TT A B ⟨n, nw, rc_ppl (S := S) (fun o k hs hx => ?_) (fun x => by rw [← hU, ← hS1]; rfl) c ?_ ?_, rTld_c (S := S) ?_ ?_ (fun _ => by rw [← hU, ← hS1]; rfl) (fun _ => by rw [← hU, ← hS1]; rfl) tl⟩
  · unfold scr at hs
    unfold xPpl at hx
    rw [← hU, ← hS1]
    (repeat first | rw [gI_un (by omega)] | rw [gI_ua (by omega) (by omega)])
  · refine ⟨h6, by rw [← hU, ← hS1]; (repeat first | rw [gI_un (by omega)] | rw [gI_ua (by omega) (by omega)]); exact rc_n1 c, by rw [← hU, ← hS1]; (repeat first | rw [gI_un (by omega)] | rw [gI_ua (by omega) (by omega)]); exact rc_n2 c, fun q hq => ?_⟩
    have e := P q hq
    have x3 : gI U (6 + 2 * q) 3 = gI U 102 q := by
      rw [hN q hq, ← hU, ← hS1]
      by_cases z1 : q = i
      · rw [if_pos z1]; (repeat first | rw [gI_un (by omega)] | rw [gI_ua (by omega) (by omega)])
      · rw [if_neg z1]
        by_cases z2 : q = j
        · rw [if_pos z2]; (repeat first | rw [gI_un (by omega)] | rw [gI_ua (by omega) (by omega)])
        · rw [if_neg z2]; (repeat first | rw [gI_un (by omega)] | rw [gI_ua (by omega) (by omega)]); exact e.1.2.2.2.1
    rw [x3, ← hU, ← hS1]
    have y : ∀ a b, a ≠ 102 → b ≠ 3 → a ≠ 97 → gI (uI (uI (uI (uI (uI S (6 + 2 * i) 3 (fWith (gI S (6 + 2 * i) 3) (nI j) f)) (6 + 2 * j) 3 (fWith (gI S (6 + 2 * j) 3) (nI i) f)) 97 0 0) 102 i (fWith (gI S (6 + 2 * i) 3) (nI j) f)) 102 j (fWith (gI S (6 + 2 * j) 3) (nI i) f)) a b = gI S a b := fun a b h1 h2 h3 => by (repeat first | rw [gI_un (by omega)] | rw [gI_ua (by omega) (by omega)])
    have y2 : ∀ a b, a ≠ 102 → 18 ≤ a → a ≠ 97 → gI (uI (uI (uI (uI (uI S (6 + 2 * i) 3 (fWith (gI S (6 + 2 * i) 3) (nI j) f)) (6 + 2 * j) 3 (fWith (gI S (6 + 2 * j) 3) (nI i) f)) 97 0 0) 102 i (fWith (gI S (6 + 2 * i) 3) (nI j) f)) 102 j (fWith (gI S (6 + 2 * j) 3) (nI i) f)) a b = gI S a b := fun a b h1 h2 h3 => by (repeat first | rw [gI_un (by omega)] | rw [gI_ua (by omega) (by omega)])
    rw [y _ 0 (by omega) (by omega) (by omega), y _ 1 (by omega) (by omega) (by omega), y _ 2 (by omega) (by omega) (by omega), y _ 4 (by omega) (by omega) (by omega), y2 99 q (by omega) (by omega) (by omega), y2 100 q (by omega) (by omega) (by omega), y2 101 q (by omega) (by omega) (by omega), y2 103 q (by omega) (by omega) (by omega)]
    exact ⟨⟨e.1.1, e.1.2.1, e.1.2.2.1, rfl, e.1.2.2.2.2⟩, e.2⟩
  · intro a b ha hb hab
    rw [hF a b ha hb] at hab
    rw [hF b a hb ha]
    by_cases z : (a = i ∧ b = j) ∨ (a = j ∧ b = i)
    · rw [if_pos z] at hab
      rw [if_pos (by omega)]
      exact ⟨by omega, by omega, by omega, hab⟩
    · rw [if_neg z] at hab
      rw [if_neg (by omega)]
      exact c.2.1 a b ha hb hab
  · rw [← hU, ← hS1]; (repeat first | rw [gI_un (by omega)] | rw [gI_ua (by omega) (by omega)])
  · rw [← hU, ← hS1]; (repeat first | rw [gI_un (by omega)] | rw [gI_ua (by omega) (by omega)])
theorem link_sees {d : Nat} {S : am_S} (R : RM S) {p q : Int32} (f : Int32) (h : twoP S p q) : Jn (d + 700) iX10_link [.ref 0, .int 1, .int p, .int q, .int f] iX11_link [.ref 97, .int 1, .int p, .int q, .int f] S := by
  obtain ⟨n, nw, c, tl⟩ := R
  have hM := (rc_two c).mpr h
  obtain ⟨i, j, hi, hj, hij, rfl, rfl⟩ := rc_twoN c h
  have h6 := rc_n6 c
  have ei : (nI i).toNatClampNeg = i := nI_clamp (by omega)
  have A : am_CT (d + 700) _ _ _ _ _ := ct_X10_link_sees (f := f) (rc_z1 c) h
  simp only [cP, ei] at A
  generalize hv : fWith (gI S (6 + 2 * i) 4) (nI j) f = v at A
  have P := c.1.2.2.2
  have u1 : gI (uI (uI S (6 + 2 * i) 4 v) 97 0 0) 97 3 = gI S 97 3 := by (repeat first | rw [gI_un (by omega)] | rw [gI_ua (by omega) (by omega)])
  have B : am_CT (d + 700) _ _ _ _ _ := ct_X11_link_sees (S := uI S (6 + 2 * i) 4 v) (T := uI (uI S (6 + 2 * i) 4 v) 97 0 0) (p := nI i) (q := nI j) (f := f) rfl (by rw [u1]; exact rc_z0 c) (by rw [u1]; exact rc_z2 c) (by
    unfold twoM hasM at hM ⊢
    rw [u1]
    exact hM)
  simp only [ei] at B
  have e3 : gI (uI (uI S (6 + 2 * i) 4 v) 97 0 0) 103 i = gI S (6 + 2 * i) 4 := by rw [(P i (by omega)).1.2.2.2.2]; (repeat first | rw [gI_un (by omega)] | rw [gI_ua (by omega) (by omega)])
  rw [e3, hv] at B
  refine jn_TT A B ⟨n, nw, rc_ppl (S := S) (fun o k hs hx => ?_) (fun x => rfl) c ?_ ?_, rTld_c (S := S) ?_ ?_ (fun _ => rfl) (fun _ => rfl) tl⟩
  · unfold scr at hs
    unfold xPpl at hx
    (repeat first | rw [gI_un (by omega)] | rw [gI_ua (by omega) (by omega)])
  · refine ⟨h6, by (repeat first | rw [gI_un (by omega)] | rw [gI_ua (by omega) (by omega)]); exact rc_n1 c, by (repeat first | rw [gI_un (by omega)] | rw [gI_ua (by omega) (by omega)]); exact rc_n2 c, fun q hq => ?_⟩
    have e := P q hq
    by_cases z : q = i
    · (repeat first | rw [gI_un (by omega)] | rw [gI_ua (by omega) (by omega)])
      exact ⟨⟨e.1.1, e.1.2.1, e.1.2.2.1, e.1.2.2.2.1, rfl⟩, e.2⟩
    · (repeat first | rw [gI_un (by omega)] | rw [gI_ua (by omega) (by omega)])
      exact e
  · refine rNer_c (S := S) (fun q => ?_) c.2.1
    (repeat first | rw [gI_un (by omega)] | rw [gI_ua (by omega) (by omega)])
  · (repeat first | rw [gI_un (by omega)] | rw [gI_ua (by omega) (by omega)])
  · (repeat first | rw [gI_un (by omega)] | rw [gI_ua (by omega) (by omega)])
theorem jn_link {d : Nat} {S : am_S} (R : RM S) (w p q f : Int32) : Jn (d + 700) iX10_link [.ref 0, .int w, .int p, .int q, .int f] iX11_link [.ref 97, .int w, .int p, .int q, .int f] S := by
  have R0 := R
  obtain ⟨n, nw, c, tl⟩ := R
  by_cases h : twoP S p q ∧ 0 ≤ w ∧ w ≤ 1
  · obtain ⟨h1, h2, h3⟩ := h
    have : w = 0 ∨ w = 1 := by grind
    rcases this with rfl | rfl
    · exact link_near R0 f h1
    · exact link_sees R0 f h1
  · refine jn_no R0 (ct_X10_link_no (rc_z1 c) h) (ct_X11_link_no rfl ?_ (fun z => h ⟨(rc_two c).mp ?_, z.2⟩))
    · rw [gI_un (by omega)]
      exact rc_z0 c
    · exact th_twoN.mp z.1
