/-! A minute of the class and a minute of the reference. -/
def Cn (A B : am_S) : Prop := gI A 1 4 = gI B 97 10 ∧ gI A 1 5 = gI B 97 11 ∧ gI A 1 6 = gI B 97 12 ∧ ∀ p, p < 6 → gI A (6 + 2 * p) 0 = gI B 99 p ∧ gI A (6 + 2 * p) 1 = gI B 100 p ∧ gI A (6 + 2 * p) 3 = gI B 102 p ∧ ∃ l s, gI B 99 p = nI l ∧ l ≤ 20 ∧ gI B 100 p = nI s ∧ s ≤ 20
def Sm (o n nw : Nat) (A B : am_S) : Prop := gI A o 0 = nI nw ∧ gI B 97 23 = nI nw ∧ gI A o 1 = gI B 97 9 ∧ gI A o 2 = gI B 97 24 ∧ (∀ m, m ≤ nw → gI A (o + 1) m = gI B 109 m) ∧ ∀ k p m, k < 4 → p < n → m < nw → gI A (o + 2 + k) (p * 200 + m) = gI B 110 (gAt k p m)
theorem sub_cs {a b : Nat} (ha : a ≤ 1000) (hb : b ≤ 1000) : nI a - nI b < 0 ∨ ∃ j, j + b = a ∧ nI a - nI b = nI j := by
  by_cases h : b ≤ a
  · exact Or.inr ⟨a - b, by omega, pk_sub h⟩
  · exact Or.inl (pk_sneg (by omega) (by omega))
theorem sub_cs1 {a b : Nat} (ha : a ≤ 1000) (hb : b ≤ 1000) : nI a - nI b - 1 < 0 ∨ ∃ j, j + b + 1 = a ∧ nI a - nI b - 1 = nI j := by
  have e : nI a - nI b - 1 = nI a - nI (b + 1) := by
    rw [← nI_add]
    have : nI 1 = 1 := rfl
    rw [this]
    grind
  rw [e]
  by_cases h : b + 1 ≤ a
  · exact Or.inr ⟨a - (b + 1), by omega, pk_sub h⟩
  · exact Or.inl (pk_sneg (by omega) (by omega))
theorem nI_n0 {j : Nat} (h : j < 1000) : ¬ nI j < 0 := by
  have := nI_pos' (n := j) (by omega)
  grind
section MIN
variable {A B : am_S} {o n nw : Nat}
theorem pl_eq (h : Sm o n nw A B) (hw : nw ≤ 199) {x : Int32} (hx : x < 0 ∨ ∃ j, j ≤ nw ∧ x = nI j) : fPlace A o x = mPlace B x := by
  unfold fPlace mPlace
  rcases hx with hx | ⟨j, hj, rfl⟩
  · rw [if_pos (Or.inl hx), if_pos hx]
    exact h.2.2.1
  · have h1 := nI_n0 (j := j) (by omega)
    have h2 : ¬ 199 < nI j := by
      have := (nI_leI (a := j) (b := 199) (by omega) (by decide)).mpr (by omega)
      have e : nI 199 = 199 := rfl
      rw [e] at this
      grind
    rw [if_neg (fun z => z.elim h1 h2), if_neg h1, nI_clamp (by omega)]
    exact h.2.2.2.2.1 j hj
theorem nt_eq (h : Sm o n nw A B) (hn : n ≤ 6) (hw : nw ≤ 199) {k p : Nat} (hk : k < 4) (hp : p < n) {x : Int32} (hx : x < 0 ∨ ∃ j, j < nw ∧ x = nI j) : fNoted A (o + 2 + k) (nI p) x = mWas B k p x := by
  unfold mWas
  rcases hx with hx | ⟨j, hj, rfl⟩
  · unfold fNoted
    rw [if_pos (Or.inl hx), if_pos hx]
  · rw [fNoted_nI (by omega) (by omega), if_neg (nI_n0 (by omega)), nI_clamp (by omega)]
    exact h.2.2.2.2.2 k p j hk hp hj
theorem hr_eq (h : Sm o n nw A B) (hn : n ≤ 6) (hw : nw ≤ 199) {nr x : Int32} (hx : x < 0 ∨ ∃ j, j < nw ∧ x = nI j) : ∀ q, q ≤ n → hearI A o nr x q = mHear B nr x q
  | 0, _ => rfl
  | q + 1, hq => by
    unfold hearI mHear
    rw [hr_eq h hn hw hx q (by omega), Int32.add_zero]
    have e : fNoted A (o + 3) (nI q) x = mWas B 1 q x := nt_eq h hn hw (k := 1) (by decide) (by omega) hx
    rw [e]
theorem lk_eq (hc : Cn A B) (h : Sm o n nw A B) (hn : n ≤ 6) (hw : nw ≤ 199) {p : Nat} (hp : p < n) (i : Nat) (hi : i < 6) : lookG A o n (nI p) i = mLook B n p (nI nw) i := by
  obtain ⟨c1, c2, c3, c4⟩ := hc
  obtain ⟨d1, d2, d3, l, s, d4, d5, d6, d7⟩ := c4 p (by omega)
  have ep : (nI p).toNatClampNeg = p := nI_clamp (by omega)
  have e1 : fPlace A o (nI nw - nI s) = mPlace B (nI nw - nI s) := pl_eq h hw (by
    rcases sub_cs (a := nw) (b := s) (by omega) (by omega) with z | ⟨j, z1, z2⟩
    · exact Or.inl z
    · exact Or.inr ⟨j, by omega, z2⟩)
  have e2 : fPlace A o (nI nw - nI s - 1) = mPlace B (nI nw - nI s - 1) := pl_eq h hw (by
    rcases sub_cs1 (a := nw) (b := s) (by omega) (by omega) with z | ⟨j, z1, z2⟩
    · exact Or.inl z
    · exact Or.inr ⟨j, by omega, z2⟩)
  have e3 : hearI A o (gI B 102 p) (nI nw - nI (max l 1)) n = mHear B (gI B 102 p) (nI nw - nI (max l 1)) n := hr_eq h hn hw (by
    rcases sub_cs (a := nw) (b := max l 1) (by omega) (by omega) with z | ⟨j, z1, z2⟩
    · exact Or.inl z
    · exact Or.inr ⟨j, by omega, z2⟩) n (Nat.le_refl _)
  have e4 : fNoted A (o + 2) (nI p) (nI nw - 1) = mWas B 0 p (nI nw - 1) := nt_eq h hn hw (k := 0) (by decide) hp (by
    rcases sub_cs (a := nw) (b := 1) (by omega) (by omega) with z | ⟨j, z1, z2⟩
    · exact Or.inl z
    · exact Or.inr ⟨j, by omega, z2⟩)
  unfold lookG mLook
  simp only [cP, ep]
  rw [h.1, d1, d2, d3, d4, d6, late_nI d5, e1, e2, e3, e4, c1]
  match i, hi with
  | 0, _ => rfl
  | 1, _ => rfl
  | 2, _ => rfl
  | 3, _ => rfl
  | 4, _ => rfl
  | 5, _ => rfl
variable {dg fz : Nat → Nat} {fs : Nat → Nat → Int32}
/-- rules that are well formed, the class's codes -/
def Wf (fs : Nat → Nat → Int32) (fz : Nat → Nat) (A : am_S) : Prop := ∀ i, i < 12 → WF 6 (fs i) (fz i) ∧ ∀ j, gI A (18 + 3 * i + 1) j = fs i j
theorem dd_eq (hc : Cn A B) (h : Sm o n nw A B) (hn : n ≤ 6) (hw : nw ≤ 199) (hf : Wf fs fz A) (hd : ∀ p, p < 6 → dg p < 12) {p : Nat} (hp : p < n) : ddV o n dg fz A p = doM B n nw dg fs fz p := by
  have hd := hd p (by omega)
  have e : gI A (18 + 3 * dg p + 1) = fs (dg p) := funext (hf _ hd).2
  unfold ddV doM vV lkS wv
  rw [gI_rI_eq, gI_rI_ne (by omega), e]
  congr 1
  exact fVal_ind (hf _ hd).1 (fun i hi => lk_eq hc h hn hw hp i hi) (by omega)
theorem sp_eq (hc : Cn A B) (h : Sm o n nw A B) (hn : n ≤ 6) (hw : nw ≤ 199) (hf : Wf fs fz A) (hd : ∀ p, p < 6 → dg p < 12) {p : Nat} (hp : p < n) : spV o n dg fz A p = spM B n nw fs fz p := by
  have hd := hd p (by omega)
  have h2 : 2 * p + 1 < 12 := by omega
  have e : gI A (18 + 3 * (2 * p + 1) + 1) = fs (2 * p + 1) := funext (hf _ h2).2
  unfold spV spM vV ddS wv
  have e5 : gI (vS (lkS o n A p) (dg p) (fz (dg p))) 5 = lookG A o n (nI p) := by
    rw [vS_stay hd (by omega), lkS, gI_rI_eq]
  have e6 : gI (vS (lkS o n A p) (dg p) (fz (dg p))) (18 + 3 * (2 * p + 1) + 1) = fs (2 * p + 1) := by
    rw [vS_stay hd (by omega), lkS, gI_rI_ne (by omega), e]
  rw [e5, e6]
  congr 1
  exact fVal_ind (hf _ h2).1 (fun i hi => lk_eq hc h hn hw hp i hi) (by omega)
/-- what is noted of one -/
def nV (B : am_S) (n nw : Nat) (dg : Nat → Nat) (fs : Nat → Nat → Int32) (fz : Nat → Nat) (p k : Nat) : Int32 := if k = 0 then doM B n nw dg fs fz p else if k = 1 then spM B n nw fs fz p else if k = 2 then sgM B n p nw 4 else sgM B n p nw 2
theorem note_at {S : am_S} {o a k b : Nat} {x y z w : Int32} (hk : k < 4) : gI (noteS S o a x y z w) (o + 2 + k) b = if b = a then (if k = 0 then x else if k = 1 then y else if k = 2 then z else w) else gI S (o + 2 + k) b := by
  unfold noteS
  match k, hk with
  | 0, _ => rw [gI_un (by omega), gI_un (by omega), gI_un (by omega), gI_uI, if_pos rfl]; rfl
  | 1, _ => rw [gI_un (by omega), gI_un (by omega), gI_uI, if_pos rfl, gI_un (by omega)]; rfl
  | 2, _ => rw [gI_un (by omega), gI_uI, if_pos rfl, gI_un (by omega), gI_un (by omega)]; rfl
  | 3, _ => rw [gI_uI, if_pos rfl, gI_un (by omega), gI_un (by omega), gI_un (by omega)]; rfl
theorem sp_stay {S : am_S} {p a : Nat} (hd : dg p < 12) (hp : p < 6) (ha : 53 < a) : gI (spS o n dg fz S p) a = gI S a := by
  rw [spS, vS_stay (by omega) (by omega), ddS, vS_stay hd (by omega), lkS, gI_rI_ne (by omega)]
theorem per_cfg (ho : 53 < o) (hc : Cn A B) (hd : ∀ p, p < 6 → dg p < 12) {j : Nat} (hj : j ≤ 6) : Cn (perS o n nw dg fz A j) B := by
  obtain ⟨c1, c2, c3, c4⟩ := hc
  have e : ∀ a, a < 18 → a ≠ 5 → gI (perS o n nw dg fz A j) a = gI A a := fun a ha h5 => perS_stay ho hd h5 (by omega) (by omega) j hj
  refine ⟨by rw [e 1 (by decide) (by decide), c1], by rw [e 1 (by decide) (by decide), c2], by rw [e 1 (by decide) (by decide), c3], fun p hp => ?_⟩
  rw [e _ (by omega) (by omega)]
  exact c4 p hp
theorem per_wf (ho : 53 < o) (hf : Wf fs fz A) (hd : ∀ p, p < 6 → dg p < 12) {j : Nat} (hj : j ≤ 6) : Wf fs fz (perS o n nw dg fz A j) := fun i hi => by
  rw [perS_stay ho hd (by omega) (by omega) (by omega) j hj]
  exact hf i hi
theorem per_sm (ho : 53 < o) (h : Sm o n nw A B) (hd : ∀ p, p < 6 → dg p < 12) {j : Nat} (hj : j ≤ 6) (hn : n ≤ 6) (hw : nw ≤ 199) (hr : ∀ k q m, k < 4 → q < 6 → m < 200 → m ≠ nw → gI (perS o n nw dg fz A j) (o + 2 + k) (q * 200 + m) = gI A (o + 2 + k) (q * 200 + m)) : Sm o n nw (perS o n nw dg fz A j) B := by
  obtain ⟨a, b, c, d, e, f⟩ := h
  have x0 : gI (perS o n nw dg fz A j) o = gI A o := perS_stay ho hd (by omega) (by omega) (by omega) j hj
  have x1 : gI (perS o n nw dg fz A j) (o + 1) = gI A (o + 1) := perS_stay ho hd (by omega) (by omega) (by omega) j hj
  refine ⟨by rw [x0, a], b, by rw [x0, c], by rw [x0, d], fun m hm => by rw [x1]; exact e m hm, fun k p m hk hp hm => ?_⟩
  rw [hr k p m hk (by omega) (by omega) (by omega)]
  exact f k p m hk hp hm
theorem per_rows (ho : 53 < o) (hc : Cn A B) (h : Sm o n nw A B) (hn : n ≤ 6) (hw : nw < 199) (hf : Wf fs fz A) (hd : ∀ p, p < 6 → dg p < 12) : ∀ j, j ≤ n → ∀ k q m, k < 4 → q < 6 → m < 200 → gI (perS o n nw dg fz A j) (o + 2 + k) (q * 200 + m) = if q < j ∧ m = nw then nV B n nw dg fs fz q k else gI A (o + 2 + k) (q * 200 + m)
  | 0, _, k, q, m, _, _, _ => by
    rw [if_neg (fun z => absurd z.1 (Nat.not_lt_zero _))]
    rfl
  | j + 1, hj, k, q, m, hk, hq, hm => by
    have ih := per_rows ho hc h hn hw hf hd j (by omega)
    have hs := per_sm (fz := fz) ho h hd (j := j) (by omega) hn (by omega) (fun k q m hk hq hm hne => by rw [ih k q m hk hq hm, if_neg (fun z => hne z.2)])
    have hc2 := per_cfg (n := n) (nw := nw) (fz := fz) ho hc hd (j := j) (by omega)
    have hf2 := per_wf (n := n) (nw := nw) ho hf hd (j := j) (by omega)
    have hp : j < n := by omega
    rw [perS, perC, dd_eq hc2 hs hn (by omega) hf2 hd hp, sp_eq hc2 hs hn (by omega) hf2 hd hp, lk_eq hc2 hs hn (by omega) hp 4 (by decide), lk_eq hc2 hs hn (by omega) hp 2 (by decide), note_at hk, sp_stay (hd j (by omega)) (by omega) (by omega), ih k q m hk hq hm]
    by_cases e : q * 200 + m = j * 200 + nw
    · have e1 : q = j := by omega
      have e2 : m = nw := by omega
      have e3 : (if q < j + 1 ∧ m = nw then nV B n nw dg fs fz q k else gI A (o + 2 + k) (q * 200 + m)) = nV B n nw dg fs fz q k := if_pos ⟨by omega, e2⟩
      rw [if_pos e, e3, nV, e1]
    · rw [if_neg e]
      by_cases z : q < j ∧ m = nw
      · rw [if_pos z, if_pos ⟨by omega, z.2⟩]
      · rw [if_neg z, if_neg (fun y => z ⟨by
          have := y.2
          have := y.1
          omega, y.2⟩)]
theorem per_dd (ho : 53 < o) (hc : Cn A B) (h : Sm o n nw A B) (hn : n ≤ 6) (hw : nw < 199) (hf : Wf fs fz A) (hd : ∀ p, p < 6 → dg p < 12) {j : Nat} (hj : j < n) : perD o n nw dg fz A j = doM B n nw dg fs fz j := by
  have ih := per_rows ho hc h hn hw hf hd j (by omega)
  exact dd_eq (per_cfg ho hc hd (by omega)) (per_sm ho h hd (j := j) (by omega) hn (by omega) (fun k q m hk hq hm hne => by rw [ih k q m hk hq hm, if_neg (fun z => hne z.2)])) hn (by omega) (per_wf ho hf hd (by omega)) hd hj
theorem nV_pG (hw : nw < 200) {q k : Nat} (hq : q < n) (hn : n ≤ 6) (hk : k < 4) : pG B n nw dg fs fz n (gAt k q nw) = nV B n nw dg fs fz q k := by
  obtain ⟨a, b, c, d⟩ := pG_at (S := B) (n := n) (nw := nw) (dg := dg) (fs := fs) (fz := fz) hw n hq hn
  have h4 : k = 0 ∨ k = 1 ∨ k = 2 ∨ k = 3 := by omega
  unfold nV
  rcases h4 with rfl | rfl | rfl | rfl
  · rw [if_pos rfl]
    exact a
  · rw [if_neg (by decide), if_pos rfl]
    exact b
  · rw [if_neg (by decide), if_neg (by decide), if_pos rfl]
    exact c
  · rw [if_neg (by decide), if_neg (by decide), if_neg (by decide)]
    exact d
theorem pG_rows (hw : nw < 200) (hn : n ≤ 6) {k q m : Nat} (hk : k < 4) (hq : q < 6) (hm : m < 200) : pG B n nw dg fs fz n (gAt k q m) = if q < n ∧ m = nw then nV B n nw dg fs fz q k else gI B 110 (gAt k q m) := by
  by_cases e : m = nw
  · subst e
    by_cases z : q < n
    · rw [if_pos ⟨z, rfl⟩, nV_pG hw z hn hk]
    · rw [if_neg (fun y => z y.1), pG_hi hw hm hq n (by omega)]
  · rw [if_neg (fun y => e y.2), pG_ne hw hm e n]
theorem min_rows (ho : 53 < o) (hc : Cn A B) (h : Sm o n nw A B) (hn : n ≤ 6) (hw : nw < 199) (hf : Wf fs fz A) (hd : ∀ p, p < 6 → dg p < 12) {k q m : Nat} (hk : k < 4) (hq : q < 6) (hm : m < 200) : gI (minC o n nw dg fz A) (o + 2 + k) (q * 200 + m) = if q < n ∧ m = nw then nV B n nw dg fs fz q k else gI A (o + 2 + k) (q * 200 + m) := by
  rw [minC, gI_uI_ne (by omega), gI_uI_ne (by omega), wndS_stay (by omega)]
  exact per_rows ho hc h hn hw hf hd n (Nat.le_refl _) k q m hk hq hm
theorem wnd_eq {P : am_S} (h1 : gI P 1 5 = gI B 97 11) (h2 : gI P 1 6 = gI B 97 12) (h3 : gI P o 2 = gI B 97 24) : wndV o P = blwV B ∧ gI (wndS o P) o 2 = rndM B := by
  unfold wndV blwV rndM wndS blwS
  rw [h1, h2, h3]
  refine ⟨rfl, ?_⟩
  by_cases e : gI B 97 11 = 0 ∧ gI B 97 12 = 0
  · rw [if_pos e, if_pos e, h3]
  · rw [if_neg e, if_neg e, gI_at, gI_at]
theorem min_cn {U : am_S} (ho : 53 < o) (hc : Cn A B) (hn : n ≤ 6) (hd : ∀ p, p < 6 → dg p < 12) (hU : FrP B U) : Cn (minC o n nw dg fz A) U := by
  obtain ⟨c1, c2, c3, c4⟩ := hc
  have e : ∀ a, a < 18 → a ≠ 5 → gI (minC o n nw dg fz A) a = gI A a := fun a ha h5 => minC_stay ho hd hn h5 (by omega) (by omega)
  refine ⟨by rw [e 1 (by decide) (by decide), hU.2.1 10 (by decide) (by decide), c1], by rw [e 1 (by decide) (by decide), hU.2.1 11 (by decide) (by decide), c2], by rw [e 1 (by decide) (by decide), hU.2.1 12 (by decide) (by decide), c3], fun p hp => ?_⟩
  rw [e _ (by omega) (by omega), hU.1 99 (by decide) (by decide) (by decide) (by decide) (by decide), hU.1 100 (by decide) (by decide) (by decide) (by decide) (by decide), hU.1 102 (by decide) (by decide) (by decide) (by decide) (by decide)]
  exact c4 p hp
theorem min_sm {U : am_S} (ho : 53 < o) (hc : Cn A B) (h : Sm o n nw A B) (hn : n ≤ 6) (hw : nw < 199) (hf : Wf fs fz A) (hd : ∀ p, p < 6 → dg p < 12) (hU : MinM n nw dg fs fz B U) : Sm o n (nw + 1) (minC o n nw dg fz A) U := by
  have hc0 := hc
  have h0 := h
  obtain ⟨a, b, c, d, e, f⟩ := h
  obtain ⟨c1, c2, c3, c4⟩ := hc
  obtain ⟨u1, u2, u3, u4, u5⟩ := hU
  have p0 : gI (perS o n nw dg fz A n) o = gI A o := perS_stay ho hd (by omega) (by omega) (by omega) n hn
  have p1 : gI (perS o n nw dg fz A n) (o + 1) = gI A (o + 1) := perS_stay ho hd (by omega) (by omega) (by omega) n hn
  have p2 : gI (perS o n nw dg fz A n) 1 = gI A 1 := perS_stay ho hd (by omega) (by omega) (by omega) n hn
  obtain ⟨w1, w2⟩ := wnd_eq (o := o) (B := B) (P := perS o n nw dg fz A n) (by rw [p2, c2]) (by rw [p2, c3]) (by rw [p0, d])
  have sm : sumI (perD o n nw dg fz A) n = sumI (doM B n nw dg fs fz) n := sumI_congr n (fun j hj => per_dd ho hc0 h0 hn hw hf hd hj)
  refine ⟨gI_at, u2, ?_, ?_, fun m hm => ?_, fun k p m hk hp hm => ?_⟩
  · rw [minC, gI_un (by omega), gI_un (by omega), wndS_now (by decide), p0, c, u1.2.1 9 (by decide) (by decide)]
  · rw [minC, gI_un (by omega), gI_un (by omega), w2, u3]
  · rw [minC, gI_uI_ne (by omega), sm, w1, u4]
    have q1 : gI (wndS o (perS o n nw dg fz A n)) (o + 1) = gI A (o + 1) := by rw [wndS_stay (by omega), p1]
    rw [q1, e nw (Nat.le_refl _)]
    by_cases z : m = nw + 1
    · rw [gI_ua rfl z, z, pk_us]
    · rw [gI_un (fun _ y => z y), pk_un z, q1]
      exact e m (by omega)
  · rw [min_rows ho hc0 h0 hn hw hf hd hk (by omega) (by omega), u5, pG_rows (by omega) hn hk (by omega) (by omega)]
    by_cases z : p < n ∧ m = nw
    · rw [if_pos z, if_pos z]
    · rw [if_neg z, if_neg z]
      exact f k p m hk hp (by omega)
/-- rows of who isn't there are empty -/
def Zr (o n : Nat) (A B : am_S) : Prop := ∀ k p m, k < 4 → p < 6 → n ≤ p → m < 200 → gI A (o + 2 + k) (p * 200 + m) = 0 ∧ gI B 110 (gAt k p m) = 0
theorem min_zr {U : am_S} (ho : 53 < o) (hc : Cn A B) (h : Sm o n nw A B) (hn : n ≤ 6) (hw : nw < 199) (hf : Wf fs fz A) (hd : ∀ p, p < 6 → dg p < 12) (hU : MinM n nw dg fs fz B U) (hz : Zr o n A B) : Zr o n (minC o n nw dg fz A) U := fun k p m hk hp hnp hm => by
  rw [min_rows ho hc h hn hw hf hd hk hp hm, hU.2.2.2.2, pG_rows (by omega) hn hk hp hm, if_neg (fun z => absurd z.1 (by omega)), if_neg (fun z => absurd z.1 (by omega))]
  exact hz k p m hk hp hnp hm
theorem min_wf (ho : 53 < o) (hf : Wf fs fz A) (hn : n ≤ 6) (hd : ∀ p, p < 6 → dg p < 12) : Wf fs fz (minC o n nw dg fz A) := fun i hi => by
  rw [minC_stay ho hd hn (by omega) (by omega) (by omega)]
  exact hf i hi
theorem pas_sm (ho : 53 < o) (hc : Cn A B) (h : Sm o n nw A B) (hn : n ≤ 6) (hf : Wf fs fz A) (hd : ∀ p, p < 6 → dg p < 12) : ∀ i U, nw + i ≤ 199 → PasM n nw dg fs fz B i U → Sm o n (nw + i) (pasC o n nw dg fz A i) U ∧ Cn (pasC o n nw dg fz A i) U ∧ Wf fs fz (pasC o n nw dg fz A i) ∧ (Zr o n A B → Zr o n (pasC o n nw dg fz A i) U)
  | 0, U, _, hU => by
    rw [show U = B from hU]
    exact ⟨h, hc, hf, fun z => z⟩
  | i + 1, U, hw, hU => by
    obtain ⟨V, h1, h2⟩ := hU
    obtain ⟨a, b, c, d⟩ := pas_sm ho hc h hn hf hd i V (by omega) h1
    exact ⟨min_sm (nw := nw + i) ho b a hn (by omega) c hd h2, min_cn ho b hn hd h2.1, min_wf ho c hn hd, fun z => min_zr (nw := nw + i) ho b a hn (by omega) c hd h2 (d z)⟩
/-- a run of the reference there is -/
theorem pasM_ex (B : am_S) (n nw : Nat) (dg : Nat → Nat) (fs : Nat → Nat → Int32) (fz : Nat → Nat) : ∀ i, ∃ U, PasM n nw dg fs fz B i U
  | 0 => ⟨B, rfl⟩
  | i + 1 => by
    obtain ⟨U, hU⟩ := pasM_ex B n nw dg fs fz i
    refine ⟨rI (rI (uI (uI U 97 23 (nI (nw + i + 1))) 97 24 (rndM U)) 109 (upd (gI U 109) (nw + i + 1) (fPut (gI U 109 (nw + i) + (sumI (doM U n (nw + i) dg fs fz) n + blwV U)) 999))) 110 (pG U n (nw + i) dg fs fz n), U, hU, ⟨fun o a _ _ b c => by rw [gI_rI_ne c, gI_rI_ne b, gI_uI_ne a, gI_uI_ne a], fun k a b => ?_, fun _ => rfl, fun _ => rfl⟩, ?_, ?_, ?_, gI_rI_eq⟩
    · rw [gI_rI_ne (by decide), gI_rI_ne (by decide), gI_un (fun _ z => b z), gI_un (fun _ z => a z)]
    · rw [gI_rI_ne (by decide), gI_rI_ne (by decide), gI_un (by omega), gI_at]
    · rw [gI_rI_ne (by decide), gI_rI_ne (by decide), gI_at]
    · rw [gI_rI_ne (by decide), gI_rI_eq]
/-! tried out from the first minute -/
variable {T : am_S} {sd : Int32} {m : Nat}
theorem try_sm (hc : Cn A T) (hs : gI A 54 1 = gI T 97 9) (hB : BegB T sd B) : Cn (trl A sd) B ∧ Sm 60 n 0 (trl A sd) B := by
  obtain ⟨b1, b2, b3, b4, b5, b6⟩ := hB
  obtain ⟨c1, c2, c3, c4⟩ := hc
  refine ⟨⟨?_, ?_, ?_, fun p hp => ?_⟩, ?_, by rw [b3]; rfl, ?_, ?_, fun m hm => ?_, fun k p m _ _ hm => absurd hm (Nat.not_lt_zero _)⟩
  · rw [trl_ne (by decide) (by decide), b2 10 (by decide), c1]
  · rw [trl_ne (by decide) (by decide), b2 11 (by decide), c2]
  · rw [trl_ne (by decide) (by decide), b2 12 (by decide), c3]
  · rw [trl_ne (by omega) (by omega), b1 99 (by decide), b1 100 (by decide), b1 102 (by decide)]
    exact c4 p hp
  · rw [trl, gI_un (by omega), gI_at]; rfl
  · rw [trl, gI_un (by omega), gI_un (by omega), gI_un (by omega), gI_at, b2 9 (by decide), hs]
  · rw [trl, gI_un (by omega), gI_un (by omega), gI_at, b4]
  · have e : m = 0 := by omega
    subst e
    show gI (uI (uI (uI (uI A 60 1 (gI A 54 1)) 60 2 sd) 60 0 0) 61 0 (gI A 54 1)) 61 0 = _
    rw [gI_at, b5, hs]
theorem try_wf (hf : Wf fs fz A) : Wf fs fz (trl A sd) := fun i hi => by
  rw [trl_ne (by omega) (by omega)]
  exact hf i hi
theorem try_is (hc : Cn A T) (hs : gI A 54 1 = gI T 97 9) (hn : n ≤ 6) (hf : Wf fs fz A) (hd : ∀ p, p < 6 → dg p < 12) (hm : m ≤ 199) : CostIs T n dg fs fz sd m (tryV n dg fz A sd m) (gI (tryS n dg fz A sd m) 61 m) := fun B U hB hU => by
  obtain ⟨k1, k2⟩ := try_sm (n := n) hc hs hB
  obtain ⟨a, b, c, -⟩ := pas_sm (by decide) k1 k2 hn (try_wf hf) hd m U (by omega) hU
  rw [Nat.zero_add] at a
  refine ⟨?_, (a.2.2.2.2.1 m (Nat.le_refl _)).symm⟩
  refine sumI_congr m (fun j hj => ?_)
  have e : gI (tryS n dg fz A sd m) 1 4 = gI A 1 4 := by rw [tryS_stay hd hn (by decide) (by decide) (by decide)]
  have e2 : gI U 97 10 = gI A 1 4 := by
    rw [← e]
    exact b.1.symm
  unfold offM
  rw [e2, ← a.2.2.2.2.1 (j + 1) (by omega)]
  rfl
/-- of the same cells the same cost -/
theorem try_same {A2 : am_S} (hc : Cn A T) (hs : gI A 54 1 = gI T 97 9) (hf : Wf fs fz A) (hc2 : Cn A2 T) (hs2 : gI A2 54 1 = gI T 97 9) (hf2 : Wf fs fz A2) (hn : n ≤ 6) (hd : ∀ p, p < 6 → dg p < 12) (hm : m ≤ 199) : tryV n dg fz A2 sd m = tryV n dg fz A sd m := by
  have hB : BegB T sd (rI (uI (uI (uI T 97 23 0) 97 24 sd) 109 0 (gI T 97 9)) 110 (fun _ => 0)) := by
    refine ⟨fun o ho => ?_, fun k hk => ?_, ?_, ?_, ?_, fun a _ => by rw [gI_rI_eq]⟩
    · rw [gI_rI_ne (by omega), gI_uI_ne (by omega), gI_uI_ne (by omega), gI_uI_ne (by omega)]
    · rw [gI_rI_ne (by decide), gI_un (by omega), gI_un (by omega), gI_un (by omega)]
    · rw [gI_rI_ne (by decide), gI_un (by omega), gI_un (by omega), gI_at]
    · rw [gI_rI_ne (by decide), gI_un (by omega), gI_at]
    · rw [gI_rI_ne (by decide), gI_at]
  obtain ⟨U, hU⟩ := pasM_ex (rI (uI (uI (uI T 97 23 0) 97 24 sd) 109 0 (gI T 97 9)) 110 (fun _ => 0)) n 0 dg fs fz m
  rw [← (try_is hc hs hn hf hd hm _ U hB hU).1, ← (try_is hc2 hs2 hn hf2 hd hm _ U hB hU).1]
/-! a cost is never below 0 -/
theorem min_bd (ho : 53 < o) (hn : n ≤ 6) (hd : ∀ p, p < 6 → dg p < 12) {j : Nat} (h : j = nw + 1 ∨ (-999 ≤ gI A (o + 1) j ∧ gI A (o + 1) j ≤ 999)) : -999 ≤ gI (minC o n nw dg fz A) (o + 1) j ∧ gI (minC o n nw dg fz A) (o + 1) j ≤ 999 := by
  have p1 : gI (wndS o (perS o n nw dg fz A n)) (o + 1) = gI A (o + 1) := by rw [wndS_stay (by omega), perS_stay ho hd (by omega) (by omega) (by omega) n hn]
  rw [minC, gI_uI_ne (by omega)]
  by_cases z : j = nw + 1
  · rw [gI_ua rfl z]
    generalize gI (wndS o (perS o n nw dg fz A n)) (o + 1) nw + (sumI (perD o n nw dg fz A) n + wndV o (perS o n nw dg fz A n)) = v
    unfold fPut
    split
    · decide
    · split
      · decide
      · grind
  · rw [gI_un (fun _ y => z y), p1]
    rcases h with h | h
    · exact absurd h z
    · exact h
theorem pas_bd (ho : 53 < o) (hn : n ≤ 6) (hd : ∀ p, p < 6 → dg p < 12) : ∀ i j, nw < j → j ≤ nw + i → -999 ≤ gI (pasC o n nw dg fz A i) (o + 1) j ∧ gI (pasC o n nw dg fz A i) (o + 1) j ≤ 999
  | 0, j, h1, h2 => absurd h2 (by omega)
  | i + 1, j, h1, h2 => by
    rw [pasC]
    refine min_bd ho hn hd ?_
    by_cases z : j = nw + i + 1
    · exact Or.inl z
    · exact Or.inr (pas_bd ho hn hd i j h1 (by omega))
theorem abs_bd {x y : Int32} (hx : -999 ≤ x ∧ x ≤ 999) (hy : -99 ≤ y ∧ y ≤ 99) : ∃ k, k ≤ 1098 ∧ absI (x - y) = nI k := by
  have x1 := Int32.le_iff_toInt_le.mp hx.1
  have x2 := Int32.le_iff_toInt_le.mp hx.2
  have y1 := Int32.le_iff_toInt_le.mp hy.1
  have y2 := Int32.le_iff_toInt_le.mp hy.2
  have n1 : (-999 : Int32).toInt = -999 := by decide
  have n2 : (999 : Int32).toInt = 999 := by decide
  have n3 : (-99 : Int32).toInt = -99 := by decide
  have n4 : (99 : Int32).toInt = 99 := by decide
  have e : (x - y).toInt = x.toInt - y.toInt := by
    rw [Int32.toInt_sub]
    exact Int.bmod_eq_of_le (by omega) (by omega)
  have e0 : (0 : Int32).toInt = 0 := by decide
  unfold absI
  by_cases z : 0 ≤ x - y
  · have z2 := Int32.le_iff_toInt_le.mp z
    rw [if_pos z]
    refine ⟨(x.toInt - y.toInt).toNat, by omega, ?_⟩
    apply Int32.toInt_inj.mp
    rw [e, nI_toInt (by omega)]
    omega
  · rw [if_neg z]
    rw [Int32.not_le, Int32.lt_iff_toInt_lt] at z
    refine ⟨(y.toInt - x.toInt).toNat, by omega, ?_⟩
    apply Int32.toInt_inj.mp
    rw [Int32.toInt_sub, e0, e, nI_toInt (by omega), Int.bmod_eq_of_le (by omega) (by omega)]
    omega
theorem sum_nn {f : Nat → Int32} : ∀ m, m ≤ 1000 → (∀ j, j < m → ∃ k, k ≤ 1098 ∧ f j = nI k) → ∃ k, k ≤ 1098 * m ∧ sumI f m = nI k
  | 0, _, _ => ⟨0, by omega, rfl⟩
  | m + 1, h, hf => by
    obtain ⟨a, a1, a2⟩ := sum_nn m (by omega) (fun j hj => hf j (by omega))
    obtain ⟨b, b1, b2⟩ := hf m (by omega)
    refine ⟨a + b, by omega, ?_⟩
    rw [sumI, a2, b2, nI_add]
theorem try_nn (hn : n ≤ 6) (hd : ∀ p, p < 6 → dg p < 12) (hm : m ≤ 199) (hy : -99 ≤ gI A 1 4 ∧ gI A 1 4 ≤ 99) : ¬ tryV n dg fz A sd m < 0 := by
  obtain ⟨k, h1, h2⟩ := sum_nn (f := fun j => absI (gI (tryS n dg fz A sd m) 61 (j + 1) - gI A 1 4)) m (by omega) (fun j hj => abs_bd (pas_bd (o := 60) (by decide) hn hd m (j + 1) (by omega) (by omega)) hy)
  have e : tryV n dg fz A sd m = nI k := h2
  rw [e]
  have := nI_pos' (n := k) (by omega)
  grind
end MIN
