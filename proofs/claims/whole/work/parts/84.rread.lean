/-! Joint calls: rule, pays. -/
theorem rdGo_rn {sg : Nat} {tp : Nat → Nat} {n : Nat} : rdR (am_str sg) tp n = rn sg tp (min 40 n) 0 rd0 := by
  unfold rdR rn
  rw [Nat.sub_zero]
theorem nI_neg1 {q : Nat} (h : q = 40) : (-1 : Int32) - nI q = -41 := by
  subst h
  decide
theorem neg1_ne {q : Nat} (h : q < 1000) : ¬ (-1 : Int32) - nI q = 0 := fun z => by
  have h1 : nI q = -1 := by grind
  have h2 := nI_pos' (n := q) (by omega)
  rw [h1] at h2
  exact absurd h2 (by decide)
/-- both readings say the same -/
theorem rd_same {sg w : Nat} {tp : Nat → Nat} {n : Nat} (hs : sgR sg) (hw : (am_str sg).length = w) (hw6 : w ≤ 6) (hch : ∀ i, i < min 40 n → tp i < 256) : rdAns (am_str sg) tp n = rdA tp n sg ∧ (rdA tp n sg = 0 → ∃ l, rdCod (am_str sg) tp n = some l ∧ l.map mcd = (rdP tp n sg).2.2.2 ∧ okM w (l.map mcd) ∧ (l = [] ∨ hgM (l.map mcd) = 1) ∧ l.length ≤ 40) ∧ (¬ rdA tp n sg = 0 → rdCod (am_str sg) tp n = none) := by
  by_cases h0 : n = 0
  · subst h0
    have e1 : rdA tp 0 sg = 0 := by
      unfold rdA
      rw [if_neg (fun z => by have := z.1; omega)]
      exact if_pos ⟨rfl, rfl⟩
    rw [e1]
    exact ⟨rfl, fun _ => ⟨[], rfl, rfl, trivial, Or.inl rfl, by decide⟩, fun z => absurd rfl z⟩
  · have eP : rdP tp n sg = rdF tp (min 40 n) sg 328 0 (0, 0, []) := if_neg h0
    have eA : rdAns (am_str sg) tp n = rdE n (rn sg tp (min 40 n) 0 rd0).1 (rn sg tp (min 40 n) 0 rd0).2 := by
      unfold rdAns
      rw [if_neg h0, rdGo_rn]
    have eC : rdCod (am_str sg) tp n = rdC n (rn sg tp (min 40 n) 0 rd0).2 := by
      unfold rdCod
      rw [if_neg h0, rdGo_rn]
    obtain ⟨o1, o2⟩ := out_rd (sg := sg) (tp := tp) (to := min 40 n) hs (by omega) hch 328 0 0 0 [] [] [] (fun _ => false) 0 (by decide) (by omega) (by decide) (by omega) rfl (fun _ => rfl) (fun _ => trivial) (fun z => by cases z)
    have ok := rd_okM (sg := sg) (tp := tp) (to := min 40 n) hw hw6 hch 328 0 (by decide) (0, 0, []) (Nat.zero_le _) (Nat.zero_le _) trivial
    obtain ⟨-, l2, l3, -, -⟩ := rdF_ok (tp := tp) (to := min 40 n) (sg := sg) 328 0 (0, 0, []) (Nat.zero_le _) (Nat.zero_le _)
    rw [eA, eC]
    unfold rdA rdD
    rw [eP]
    generalize rdF tp (min 40 n) sg 328 0 (0, 0, []) = r at *
    have bad : ∀ q, q < min 40 n → r.2.1 = q → (if 40 < n ∧ ((r.1 = true ∧ r.2.1 = min 40 n) ∨ 40 ≤ r.2.1) then (-41 : Int32) else if (r.1 = true ∧ r.2.1 = min 40 n) then 0 else -1 - nI r.2.1) = -1 - nI q ∧ ¬ (-1 : Int32) - nI q = 0 := fun q hq e => by
      rw [if_neg (fun z => by rcases z.2 with y | y <;> omega), if_neg (fun z => by omega), e]
      exact ⟨rfl, neg1_ne (by omega)⟩
    by_cases hr : r.1 = true
    · obtain ⟨D2, E, cm2, nm2, dg2, a, b, c, -, -, bk⟩ := o1 hr
      have a : rn sg tp (min 40 n) 0 rd0 = rn sg tp (min 40 n) r.2.1 (D2, E ++ [], 0, cm2, nm2, dg2, false) := a
      by_cases hq : r.2.1 = min 40 n
      · rw [hq, rn_e] at a
        rw [a]
        by_cases h40 : 40 < n
        · have e : (if 40 < n ∧ ((r.1 = true ∧ r.2.1 = min 40 n) ∨ 40 ≤ r.2.1) then (-41 : Int32) else if (r.1 = true ∧ r.2.1 = min 40 n) then 0 else -1 - nI r.2.1) = -41 := if_pos ⟨h40, Or.inl ⟨hr, hq⟩⟩
          rw [e]
          refine ⟨?_, fun z => absurd z (by decide), fun _ => if_pos (Or.inl h40)⟩
          show (if rdBad n (D2, E ++ [], 0, cm2, nm2, dg2, false) then -1 - nI (min 40 n) else 0) = -41
          rw [if_pos (Or.inl h40)]
          exact nI_neg1 (by omega)
        · have e : (if 40 < n ∧ ((r.1 = true ∧ r.2.1 = min 40 n) ∨ 40 ≤ r.2.1) then (-41 : Int32) else if (r.1 = true ∧ r.2.1 = min 40 n) then 0 else -1 - nI r.2.1) = 0 := by
            rw [if_neg (fun z => h40 z.1)]
            exact if_pos ⟨hr, hq⟩
          rw [e]
          have nb : ¬ rdBad n (D2, E ++ [], 0, cm2, nm2, dg2, false) := fun z => by
            rcases z with z | z | z
            · exact h40 z
            · cases z
            · exact absurd z (Nat.lt_irrefl 0)
          have fd := fdn_0 E (fnm D2 nm2 dg2) (fun x hx => (b x hx).1)
          refine ⟨if_neg nb, fun _ => ⟨E.reverse ++ fnm D2 nm2 dg2, ?_, c, ?_, Or.inr ?_, ?_⟩, fun z => absurd rfl z⟩
          · show (if rdBad n (D2, E ++ [], 0, cm2, nm2, dg2, false) then none else some (fdn 0 (fnm D2 nm2 dg2) (E ++ [])).1) = _
            rw [if_neg nb, List.append_nil, fd]
          · rw [c]
            exact (ok hr).1
          · rw [c]
            exact (ok hr).2
          · have := congrArg List.length c
            rw [List.length_map] at this
            have l3 : r.2.2.2.length + 0 ≤ 0 + r.2.1 := l3
            omega
      · have lt : r.2.1 < min 40 n := by omega
        have st : stpR (am_str sg) (D2, E ++ [], 0, cm2, nm2, dg2, false) (tp r.2.1) = none := by
          rcases bk lt with z | z | z
          · exact z
          · rw [stp_b (by omega)]
            unfold tkB
            rw [if_pos z]
            rfl
          · have := z.1
            have := z.2
            omega
        rw [rn_n lt st] at a
        rw [a]
        obtain ⟨b1, b2⟩ := bad r.2.1 lt rfl
        rw [b1]
        exact ⟨rfl, fun z => absurd z b2, fun _ => rfl⟩
    · rcases o2 (Bool.eq_false_iff.mpr hr) with ⟨q1, q2⟩ | ⟨q1, s, q2, q3⟩
      · have q2 : rn sg tp (min 40 n) 0 rd0 = (r.2.1, none) := q2
        rw [q2]
        obtain ⟨b1, b2⟩ := bad r.2.1 q1 rfl
        rw [b1]
        exact ⟨rfl, fun z => absurd z b2, fun _ => rfl⟩
      · have q2 : rn sg tp (min 40 n) 0 rd0 = (min 40 n, some s) := q2
        rw [q2]
        have e : (if 40 < n ∧ ((r.1 = true ∧ r.2.1 = min 40 n) ∨ 40 ≤ r.2.1) then (-41 : Int32) else if (r.1 = true ∧ r.2.1 = min 40 n) then 0 else -1 - nI r.2.1) = -1 - nI (min 40 n) := by
          by_cases h40 : 40 < n
          · rw [if_pos ⟨h40, Or.inr (by omega)⟩]
            exact (nI_neg1 (by omega)).symm
          · rw [if_neg (fun z => h40 z.1), if_neg (fun z => hr z.1), q1]
        rw [e]
        have bd : rdBad n s := Or.inr q3
        exact ⟨if_pos bd, fun z => absurd z (neg1_ne (by omega)), fun _ => if_pos bd⟩
/-! The rows of codes on both sides. -/
def csL (l : List Int32) : Nat → Int32 := fun i => l.getD (l.length - 1 - i) 0
theorem stk_csL {l : List Int32} : Stk (csL l) l := fun _ _ => rfl
theorem fEv_cs {cs cs2 sg : Nat → Int32} {w : Nat} {g : Nat → Int32} : ∀ n, (∀ i, i < n → cs i = cs2 i) → fEv cs sg w g n = fEv cs2 sg w g n
  | 0, _ => rfl
  | n + 1, h => by
    unfold fEv
    rw [fEv_cs n (fun i hi => h i (by omega)), h n (by omega)]
theorem fVal_cs {cs cs2 sg : Nat → Int32} {w n : Nat} {g : Nat → Int32} (h : ∀ i, i < n → cs i = cs2 i) : fVal cs sg w g n = fVal cs2 sg w g n := by
  unfold fVal
  rw [fEv_cs n h]
theorem wf_l {w : Nat} {l : List Int32} {cs : Nat → Int32} (hw : w ≤ 6) (h40 : l.length ≤ 40) (hs : Stk cs l) (ho : okM w (l.map mcd)) (h1 : l = [] ∨ hgM (l.map mcd) = 1) : WF w cs l.length ∧ ∀ j, j < l.length → mcd (cs j) = mcode (cs j) := by
  obtain ⟨a, b, c⟩ := wf_of hw l cs hs ho
  refine ⟨⟨h40, b, ?_⟩, fun j hj => c _ ?_⟩
  · rcases h1 with h1 | h1
    · exact Or.inl (by rw [h1]; rfl)
    · exact Or.inr (by rw [a, h1])
  · rw [hs j hj, List.getD_eq_getElem?_getD, List.getElem?_eq_getElem (by omega)]
    exact List.getElem_mem _
theorem map_getD {l : List Int32} {i : Nat} (hi : i < l.length) : (l.map mcd).getD i 0 = mcd (l.getD i 0) := by
  rw [List.getD_eq_getElem?_getD, List.getD_eq_getElem?_getD, List.getElem?_map, List.getElem?_eq_getElem hi]
  rfl
/-- what the reference has taken over -/
theorem fm_new {U V : am_S} {p w : Nat} {l C : List Int32} {cs : Nat → Int32} {q : RdS} (hw : w ≤ 6) (hp : p < 13) (hC : RdC U q) (hq : q.2.2 = C) (he : l.map mcd = C) (hV : CpM U p 48 V) (h40 : l.length ≤ 40) (hs : Stk cs l) (ho : okM w (l.map mcd)) (h1 : l = [] ∨ hgM (l.map mcd) = 1) : FmOk V p cs l.length w := by
  obtain ⟨wf, mc⟩ := wf_l hw h40 hs ho h1
  obtain ⟨-, -, c3, c4⟩ := hC
  rw [hq] at c3 c4
  have ln : C.length = l.length := by rw [← he, List.length_map]
  refine ⟨?_, fun j hj => ?_, wf⟩
  · rw [hV.2.1, if_pos rfl, c3, ln]
  · have c4j : gI U 104 (624 + j) = C.getD (C.length - 1 - j) 0 := c4 j (by omega)
    rw [hV.2.2.1, if_pos (by omega), show 48 * p + j - 48 * p = j by omega, c4j, ln, ← he, map_getD (by omega), ← hs j hj]
    exact mc j hj
/-- what the relation reads but for rules, the pay and the text -/
def xAll (o k : Nat) : Prop := xPpl o k ∨ o = 102 ∨ xFog o ∨ xBem o k ∨ xCrs o k ∨ xKpt o ∨ xIdl o
theorem xAll_at {o k : Nat} (h : xAll o k) : (o < 18 ∨ (54 ≤ o ∧ o < 60) ∨ 97 ≤ o) ∧ o ≠ 104 ∧ o ≠ 105 ∧ (o = 97 → k = 3 ∨ (9 ≤ k ∧ k ≤ 12) ∨ k = 23 ∨ k = 24) := by
  rcases h with h | h | h | h | h | h | h
  · unfold xPpl at h
    omega
  · omega
  · unfold xFog at h
    omega
  · unfold xBem at h
    omega
  · unfold xCrs at h
    omega
  · unfold xKpt at h
    omega
  · unfold xIdl at h
    omega
theorem rc_rul {S T : am_S} {n nw : Nat} (h : ∀ o k, (o < 18 ∨ (54 ≤ o ∧ o < 60) ∨ 97 ≤ o) → o ≠ 104 → o ≠ 105 → (o = 97 → k = 3 ∨ (9 ≤ k ∧ k ≤ 12) ∨ k = 23 ∨ k = 24) → gI T o k = gI S o k) (hr : ∀ c, c < 4 → gR T c = gR S c) (R : RC S n nw) (gFrm : rFrm T) (gPay : rPay T) (gTxt : rTxt T) (gRef : rRef T) : RC T n nw := by
  obtain ⟨r1, r2, r3, r4, r5, r6, r7, r8, r9, r10, r11⟩ := R
  have h2 : ∀ o k, xAll o k → gI T o k = gI S o k := fun o k z => by
    obtain ⟨a, b, c, e⟩ := xAll_at z
    exact h o k a b c e
  exact ⟨rPpl_c (fun o k z => h2 o k (Or.inl z)) r1, rNer_c (fun k => h2 102 k (Or.inr (Or.inl rfl))) r2, rFog_c (fun o k z => h2 o k (Or.inr (Or.inr (Or.inl z)))) r3, rBem_c (fun o k z => h2 o k (Or.inr (Or.inr (Or.inr (Or.inl z))))) r4, rCrs_c (fun o k z => h2 o k (Or.inr (Or.inr (Or.inr (Or.inr (Or.inl z)))))) r5, rKpt_c (fun o k z => h2 o k (Or.inr (Or.inr (Or.inr (Or.inr (Or.inr (Or.inl z))))))) hr r6, gFrm, gPay, rIdl_c (fun o k z => h2 o k (Or.inr (Or.inr (Or.inr (Or.inr (Or.inr (Or.inr z))))))) r9, gTxt, gRef⟩
theorem sgR_0 : sgR 10 := by
  unfold sgR
  decide
theorem sgR_1 : sgR 11 := by
  unfold sgR
  decide
/-- the state behind reads, but for codes -/
theorem rdU_I {S U : am_S} {sg n o k : Nat} (h : FrC (rdU S sg n) U) (h1 : o = 97 → k ≠ 17 ∧ ¬ (18 ≤ k ∧ k ≤ 20)) (h2 : o = 104 → k < 624) (h3 : o = 105 → k ≠ 13) : gI U o k = gI S o k := by
  have e : gI (rdU S sg n) o k = gI S o k := by
    show gI (uI (uR (uI (uI (uI (uI S 97 17 0) 97 18 0) 97 20 0) 97 19 (nI (min 40 n))) 6 (1000000 + sg)) 105 13 0) o k = _
    rw [gI_un (fun a b => h3 a b)]
    show gI (uI (uI (uI (uI S 97 17 0) 97 18 0) 97 20 0) 97 19 (nI (min 40 n))) o k = _
    rw [gI_un (fun a b => by have := h1 a; omega), gI_un (fun a b => by have := h1 a; omega), gI_un (fun a b => by have := h1 a; omega), gI_un (fun a b => by have := h1 a; omega)]
  by_cases x1 : o = 97
  · subst x1
    have := h1 rfl
    rw [h.2.1 k (by omega) (by omega), e]
  · by_cases x2 : o = 104
    · subst x2
      rw [h.2.2.1 k (h2 rfl), e]
    · by_cases x3 : o = 105
      · subst x3
        rw [h.2.2.2.1 k (h3 rfl), e]
      · rw [h.1 o x1 x2 x3, e]
theorem rdU_J {S U : am_S} {sg n o : Nat} (h : FrC (rdU S sg n) U) : gJ U o = gJ S o := h.2.2.2.2.1 o
theorem rdU_R {S U : am_S} {sg n c : Nat} (h : FrC (rdU S sg n) U) : gR U c = if c = 6 then 1000000 + sg else gR S c := h.2.2.2.2.2 c
theorem rdU_17 {S U : am_S} {sg n : Nat} (h : FrC (rdU S sg n) U) : gI U 97 17 = 0 := by
  rw [h.2.1 17 (by decide) (by decide)]
  show gI (uI (uR (uI (uI (uI (uI S 97 17 0) 97 18 0) 97 20 0) 97 19 (nI (min 40 n))) 6 (1000000 + sg)) 105 13 0) 97 17 = _
  rw [gI_un (by omega)]
  show gI (uI (uI (uI (uI S 97 17 0) 97 18 0) 97 20 0) 97 19 (nI (min 40 n))) 97 17 = _
  rw [gI_un (by omega), gI_un (by omega), gI_un (by omega), gI_at]
theorem rref_6 {S V : am_S} {sg : Nat} (R : rRef S) (h : ∀ c, gR V c = if c = 6 then 1000000 + sg else gR S c) (hs : 0 < sg) : rRef V := by
  unfold rRef HopeOk at R ⊢
  rw [h 4, h 5, h 6, if_neg (by decide), if_neg (by decide), if_pos rfl]
  exact ⟨R.1, Or.inr (by omega)⟩
theorem txt_0 {V : am_S} (h1 : gI V 67 1 = 0) (h2 : gI V 97 17 = 0) : rTxt V := ⟨0, by decide, h1, h2, fun i hi => absurd hi (Nat.not_lt_zero i)⟩
theorem cp_I {U V : am_S} {w o k : Nat} (h : CpM U w 48 V) (h1 : o = 104 → ¬ (48 * w ≤ k ∧ k < 48 * w + 48)) (h2 : o = 105 → k ≠ w) : gI V o k = gI U o k := by
  by_cases x1 : o = 104
  · subst x1
    rw [h.2.2.1, if_neg (h1 rfl)]
  · by_cases x2 : o = 105
    · subst x2
      rw [h.2.1, if_neg (h2 rfl)]
    · rw [h.1 o x1 x2]
