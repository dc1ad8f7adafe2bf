/-! Joint calls: people and how they are linked. -/
theorem ppl_up {S U : am_S} {n j k : Nat} {v : Int32} (P : rPpl S n) (hj : j < 6) (hk : k < 3) (hv : 0 ≤ v ∧ v ≤ (if k = 2 then 9 else 20)) (h1 : gI U 1 1 = gI S 1 1) (h2 : gI U 97 3 = gI S 97 3) (g1 : ∀ q i, q < 6 → i < 5 → gI U (6 + 2 * q) i = if q = j ∧ i = k then v else gI S (6 + 2 * q) i) (g2 : ∀ q i, q < 6 → i < 5 → gI U (99 + i) q = if q = j ∧ i = k then v else gI S (99 + i) q) : rPpl U n := by
  obtain ⟨a, b, c, e⟩ := P
  refine ⟨a, h1.trans b, h2.trans c, fun q hq => ?_⟩
  have e := e q hq
  have x0 : gI U 99 q = if q = j ∧ 0 = k then v else gI S 99 q := g2 q 0 hq (by decide)
  have x1 : gI U 100 q = if q = j ∧ 1 = k then v else gI S 100 q := g2 q 1 hq (by decide)
  have x2 : gI U 101 q = if q = j ∧ 2 = k then v else gI S 101 q := g2 q 2 hq (by decide)
  have x3 : gI U 102 q = if q = j ∧ 3 = k then v else gI S 102 q := g2 q 3 hq (by decide)
  have x4 : gI U 103 q = if q = j ∧ 4 = k then v else gI S 103 q := g2 q 4 hq (by decide)
  rw [g1 q 0 hq (by decide), g1 q 1 hq (by decide), g1 q 2 hq (by decide), g1 q 3 hq (by decide), g1 q 4 hq (by decide), x0, x1, x2, x3, x4]
  by_cases hqj : q = j
  · subst hqj
    match k, hk, hv with
    | 0, _, hv => simpa using ⟨⟨e.1.2.1, e.1.2.2.1, e.1.2.2.2.1, e.1.2.2.2.2⟩, hv, e.2.2.1, e.2.2.2⟩
    | 1, _, hv => simpa using ⟨⟨e.1.1, e.1.2.2.1, e.1.2.2.2.1, e.1.2.2.2.2⟩, e.2.1, hv, e.2.2.2⟩
    | 2, _, hv => simpa using ⟨⟨e.1.1, e.1.2.1, e.1.2.2.2.1, e.1.2.2.2.2⟩, e.2.1, e.2.2.1, hv⟩
  · simpa [hqj] using e
theorem set_ok {d : Nat} {S : am_S} (R : RM S) {p v : Int32} {k : Nat} (h : hasP S p) (hk : k < 3) (hv : 0 ≤ v ∧ v ≤ (if k = 2 then 9 else 20)) : Jn (d + 700) iX10_set [.ref 0, .int p, .int (nI k), .int v] iX11_set [.ref 97, .int p, .int (nI k), .int v] S := by
  obtain ⟨n, nw, c, t⟩ := R
  obtain ⟨j, hj, rfl⟩ := rc_hasN c h
  have h6 := rc_n6 c
  have ej : (nI j).toNatClampNeg = j := nI_clamp (by omega)
  have A := ct_X10_set_ok (d := d + 698) (rc_z1 c) h hk hv
  have u1 : gI (uI S (6 + 2 * j) k v) 97 3 = gI S 97 3 := gI_un (by omega)
  have B := ct_X11_set_ok (d := d + 697) (S := uI S (6 + 2 * j) k v) (p := nI j) (v := v) (w := k) (by rw [u1]; exact rc_z0 c) (by rw [u1]; exact rc_z2 c) (by
    have := (rc_has c).mpr h
    unfold hasM at this ⊢
    rw [u1]
    exact this) hk hv
  simp only [cP, ej] at A B
  have eq : gI (uI S (6 + 2 * j) k v) (99 + k) j = gI S (6 + 2 * j) k := by
    rw [gI_un (by omega)]
    have e := (c.1.2.2.2 j (by omega)).1
    match k, hk with
    | 0, _ => exact e.1.symm
    | 1, _ => exact e.2.1.symm
    | 2, _ => exact e.2.2.1.symm
  rw [eq] at B
  refine jn_TT A B ⟨n, nw, rc_ppl (S := S) (fun o q hs hx => ?_) (fun _ => rfl) c ?_ ?_, rTld_c (S := S) ?_ ?_ (fun _ => rfl) (fun _ => rfl) t⟩
  · unfold scr at hs
    unfold xPpl at hx
    rw [gI_un (by omega), gI_un (by omega), gI_un (by omega)]
  · refine ppl_up c.1 (j := j) (k := k) (by omega) hk hv ?_ ?_ (fun q i hq hi => ?_) (fun q i hq hi => ?_)
    · rw [gI_un (by omega), gI_un (by omega), gI_un (by omega)]
    · rw [gI_un (by omega), gI_un (by omega), gI_un (by omega)]
    · rw [gI_un (by omega), gI_un (by omega)]
      by_cases z : q = j ∧ i = k
      · rw [if_pos z, gI_ua (by omega) (by omega)]
      · rw [if_neg z, gI_un (by omega)]
    · by_cases z : q = j ∧ i = k
      · rw [if_pos z, gI_ua (by omega) (by omega)]
      · rw [if_neg z, gI_un (by omega), gI_un (by omega), gI_un (by omega)]
  · refine rNer_c (fun q => ?_) c.2.1
    rw [gI_un (by omega), gI_un (by omega), gI_un (by omega)]
  · rw [gI_un (by omega), gI_un (by omega), gI_un (by omega)]
  · rw [gI_un (by omega), gI_un (by omega), gI_un (by omega)]
theorem jn_set {d : Nat} {S : am_S} (R : RM S) (p w v : Int32) : Jn (d + 700) iX10_set [.ref 0, .int p, .int w, .int v] iX11_set [.ref 97, .int p, .int w, .int v] S := by
  have R0 := R
  obtain ⟨n, nw, c, t⟩ := R
  by_cases h : hasP S p ∧ ((w = 0 ∧ 0 ≤ v ∧ v ≤ 20) ∨ (w = 1 ∧ 0 ≤ v ∧ v ≤ 20) ∨ (w = 2 ∧ 0 ≤ v ∧ v ≤ 9))
  · obtain ⟨h1, h2⟩ := h
    rcases h2 with ⟨rfl, a⟩ | ⟨rfl, a⟩ | ⟨rfl, a⟩
    · exact set_ok R0 (k := 0) h1 (by decide) a
    · exact set_ok R0 (k := 1) h1 (by decide) a
    · exact set_ok R0 (k := 2) h1 (by decide) a
  · exact jn_no R0 (ct_X10_set_no (rc_z1 c) h) (ct_X11_set_no (rc_z0 c) (fun z => h ⟨(rc_has c).mp z.1, z.2⟩))
