/-! A thing, and what goes ahead, as the machine reads them. -/
def RdC (S : am_S) (s : RdS) : Prop := gI S 97 18 = nI s.1 ∧ gI S 97 20 = nI s.2.1 ∧ gI S 105 13 = nI s.2.2.length ∧ Stk (fun i => gI S 104 (624 + i)) s.2.2
def FrC (S T : am_S) : Prop := (∀ o, o ≠ 97 → o ≠ 104 → o ≠ 105 → gI T o = gI S o) ∧ (∀ k, k ≠ 18 → k ≠ 20 → gI T 97 k = gI S 97 k) ∧ (∀ a, a < 624 → gI T 104 a = gI S 104 a) ∧ (∀ a, a ≠ 13 → gI T 105 a = gI S 105 a) ∧ (∀ o, gJ T o = gJ S o) ∧ ∀ c, gR T c = gR S c
theorem frC_0 {S : am_S} : FrC S S := ⟨fun _ _ _ _ => rfl, fun _ _ _ => rfl, fun _ _ => rfl, fun _ _ => rfl, fun _ => rfl, fun _ => rfl⟩
theorem frC_t {S T U : am_S} (h : FrC S T) (h2 : FrC T U) : FrC S U := ⟨fun o a b c => by rw [h2.1 o a b c, h.1 o a b c], fun k a b => by rw [h2.2.1 k a b, h.2.1 k a b], fun a b => by rw [h2.2.2.1 a b, h.2.2.1 a b], fun a b => by rw [h2.2.2.2.1 a b, h.2.2.2.1 a b], fun o => by rw [h2.2.2.2.2.1 o, h.2.2.2.2.1 o], fun c => by rw [h2.2.2.2.2.2 c, h.2.2.2.2.2 c]⟩
theorem frC_97 {S T : am_S} {k : Nat} {x : Int32} (h : FrC S T) (hk : k = 18 ∨ k = 20) : FrC S (uI T 97 k x) := ⟨fun o a b c => by rw [gI_uI_ne a, h.1 o a b c], fun j a b => by rw [gI_uI, if_pos rfl, if_neg (by omega), h.2.1 j a b], fun a b => by rw [gI_uI_ne (by decide), h.2.2.1 a b], fun a b => by rw [gI_uI_ne (by decide), h.2.2.2.1 a b], fun o => by rw [gJ_uI_f, h.2.2.2.2.1 o], fun c => by rw [gR_uI, h.2.2.2.2.2 c]⟩
theorem frC_mark {S T : am_S} {n : Nat} {x y : Int32} (h : FrC S T) : FrC S (uI (uI T 104 (624 + n) x) 105 13 y) := ⟨fun o a b c => by rw [gI_uI_ne c, gI_uI_ne b, h.1 o a b c], fun j a b => by rw [gI_uI_ne (by decide), gI_uI_ne (by decide), h.2.1 j a b], fun a b => by rw [gI_uI_ne (by decide), gI_uI, if_pos rfl, if_neg (by omega), h.2.2.1 a b], fun a b => by rw [gI_uI, if_pos rfl, if_neg b, gI_uI_ne (by decide), h.2.2.2.1 a b], fun o => by rw [gJ_uI_f, gJ_uI_f, h.2.2.2.2.1 o], fun c => by rw [gR_uI, gR_uI, h.2.2.2.2.2 c]⟩
theorem tpM_fr {S T : am_S} {tp : Nat → Nat} {to : Nat} (h : FrC S T) (hT : TpM S tp to) : TpM T tp to := ⟨by rw [h.2.1 19 (by decide) (by decide), hT.1], hT.2.1, fun i hi => by rw [h.1 107 (by decide) (by decide) (by decide)]; exact hT.2.2 i hi⟩
theorem rdC_at {S : am_S} {s : RdS} {p : Nat} {x : Int32} (h : RdC S s) (hx : x = nI p) : RdC (uI S 97 18 x) (p, s.2) := by
  obtain ⟨a, b, c, e⟩ := h
  refine ⟨by rw [gI_uI, if_pos rfl, if_pos rfl, hx], by rw [gI_uI, if_pos rfl, if_neg (by decide)]; exact b, by rw [gI_uI_ne (by decide)]; exact c, ?_⟩
  rw [gI_uI_ne (by decide)]
  exact e
theorem rdC_ne {S : am_S} {s : RdS} {p : Nat} {x : Int32} (h : RdC S s) (hx : x = nI p) : RdC (uI S 97 20 x) (s.1, p, s.2.2) := by
  obtain ⟨a, b, c, e⟩ := h
  refine ⟨by rw [gI_uI, if_pos rfl, if_neg (by decide)]; exact a, by rw [gI_uI, if_pos rfl, if_pos rfl, hx], by rw [gI_uI_ne (by decide)]; exact c, ?_⟩
  rw [gI_uI_ne (by decide)]
  exact e
theorem rdC_mark {S : am_S} {s : RdS} {x : Int32} (h : RdC S s) : RdC (uI (uI S 104 (624 + s.2.2.length) x) 105 13 (nI (s.2.2.length + 1))) (s.1, s.2.1, x :: s.2.2) := by
  obtain ⟨a, b, c, e⟩ := h
  refine ⟨by rw [gI_uI_ne (by decide), gI_uI_ne (by decide)]; exact a, by rw [gI_uI_ne (by decide), gI_uI_ne (by decide)]; exact b, by rw [gI_uI, if_pos rfl, if_pos rfl]; rfl, ?_⟩
  have e2 : (fun i => gI (uI (uI S 104 (624 + s.2.2.length) x) 105 13 (nI (s.2.2.length + 1))) 104 (624 + i)) = upd (fun i => gI S 104 (624 + i)) s.2.2.length x := by
    funext i
    rw [gI_uI_ne (by decide), gI_uI, if_pos rfl]
    unfold upd
    by_cases hi : i = s.2.2.length
    · rw [if_pos (by omega), if_pos hi]
    · rw [if_neg (by omega), if_neg hi]
  rw [e2]
  exact stk_push e
theorem ixN_ltk {ch : Nat} : ∀ (l : List Nat) (k i : Nat), ixN ch l k = some i → i < k + l.length
  | [], k, i, h => by cases h
  | c :: t, k, i, h => by
    unfold ixN at h
    split at h
    · cases h
      rw [List.length_cons]
      omega
    · have := ixN_ltk t (k + 1) i h
      rw [List.length_cons]
      omega
theorem amg_i {tp : Nat → Nat} {to p i : Nat} {l : List Nat} (h : amg tp to l p = some i) : i < l.length := by
  unfold amg at h
  split at h
  · have := ixN_ltk l 0 i h
    omega
  · cases h
theorem aI_none {o : Option Nat} (h : o = none) : aI o < 0 := by rw [h]; decide
theorem aI_some {o : Option Nat} {i : Nat} (h : o = some i) (hi : i < 1000) : ¬ aI o < 0 := by rw [h]; exact nI_neg (by omega)
theorem aI_ok {tp : Nat → Nat} {to p : Nat} {l : List Nat} (hl : l.length ≤ 6) : aI (amg tp to l p) < 0 ↔ amg tp to l p = none := by
  match h : amg tp to l p with
  | none => exact ⟨fun _ => rfl, fun _ => by decide⟩
  | some i => exact ⟨fun z => absurd z (nI_neg (by have := amg_i h; omega)), fun z => by cases z⟩
theorem str_ok : ∀ i, i < 12 → (∀ k, k < (am_str i).length → (am_str i).getD k 0 < 1000) ∧ (am_str i).length ≤ 6 := by decide
theorem among_ct {d : Nat} {S : am_S} {tp : Nat → Nat} {to i : Nat} {s : RdS} (hT : TpM S tp to) (hs : RdC S s) (h1 : s.1 ≤ to) (hi : i < 12) : am_CT (d + 1) iX11_among [.ref 97, .ref (1000000 + i)] S (some (.int (aI (amg tp to (am_str i) s.1)))) S := ct_X11_among hT hs.1 h1 hi (str_ok i hi).1 (str_ok i hi).2
theorem ct_X11_ahead {d : Nat} {S : am_S} {tp : Nat → Nat} {to sg : Nat} {s : RdS} {g h : RdS → Bool × RdS} (hT : TpM S tp to) (hs : RdC S s) (h1 : s.1 ≤ to) (h5 : s.2.1 ≤ 5) (hl : s.2.2.length ≤ s.1) (hsg : gR S 6 = 1000000 + sg) (hgo : ∀ s : RdS, s.1 ≤ to → s.2.1 ≤ 5 → RdL to s (g s)) (hg : ∀ U (r : RdS), s.1 + 1 ≤ r.1 → TpM U tp to → RdC U r → r.1 ≤ to → r.2.1 ≤ 5 → r.2.2.length ≤ r.1 → gR U 6 = 1000000 + sg → am_CE (d + 4) iX11_ahead [.ref 97] U (some (.int (b01 ((g r).1 = true)))) (fun T => FrC U T ∧ RdC T (g r).2)) (hh : ∀ U (r : RdS), s.1 ≤ r.1 → TpM U tp to → RdC U r → r.1 ≤ to → r.2.1 ≤ 5 → r.2.2.length ≤ r.1 → gR U 6 = 1000000 + sg → am_CE (d + 4) iX11_thing [.ref 97] U (some (.int (b01 ((h r).1 = true)))) (fun T => FrC U T ∧ RdC T (h r).2)) : am_CE (d + 5) iX11_ahead [.ref 97] S (some (.int (b01 ((ahG g h tp to s).1 = true)))) (fun T => FrC S T ∧ RdC T (ahG g h tp to s).2) := by
  refine am_CE_in mmX11_ahead rfl rfl rfl ?_
  have al := aI_ok (tp := tp) (to := to) (p := s.1) (l := am_str 4) (by decide)
  match ha : amg tp to (am_str 4) s.1 with
  | none =>
    have e : ahG g h tp to s = h s := by rw [ahG, ha]
    rw [e]
    have w : aI (amg tp to (am_str 4) s.1) < 0 := al.mpr ha
    refine r_aload_n rfl rfl ?_
    refine r_ldcS rfl ?_
    refine r_callV rfl (among_ct (i := 4) hT hs h1 (by decide)) rfl rfl rfl (by decide) rfl (am_cnt rfl) ?_
    refine r_istore_n (L2 := [_, _, _]) rfl rfl ?_
    refine r_iload_n rfl rfl ?_
    refine r_if_ge rfl (fun h8 => ?_) (fun h8 => ?_)
    · exact absurd w (Int32.not_lt.mpr h8)
    · refine r_aload_n rfl rfl ?_
      refine r_callVE rfl (hh S s (Nat.le_refl _) hT hs h1 h5 hl hsg) rfl rfl rfl (by decide) rfl (am_cnt rfl) (fun V hV => ?_)
      refine r_zret rfl rfl (by exact b01_or) ?_
      exact ⟨rfl, _, rfl, hV⟩
  | some i =>
    have w : ¬ aI (amg tp to (am_str 4) s.1) < 0 := fun z => by rw [al, ha] at z; cases z
    have lt := amg_lt2 ha
    have i2 : i < 2 := amg_i ha
    obtain ⟨a1, a2, a3, a4, a5⟩ := hgo (s.1 + 1, s.2) lt h5
    have b3 : (g (s.1 + 1, s.2)).2.2.2.length + (s.1 + 1) ≤ s.2.2.length + (g (s.1 + 1, s.2)).2.1 := a3
    have h40 := hT.2.1
    have c1 : RdC (uI S 97 18 (gI S 97 18 + 1)) (s.1 + 1, s.2) := rdC_at hs (by rw [hs.1, nI_1])
    have gc := hg (uI S 97 18 (gI S 97 18 + 1)) (s.1 + 1, s.2) (Nat.le_refl _) (tpM_fr (frC_97 frC_0 (Or.inl rfl)) hT) c1 lt h5 (by show s.2.2.length ≤ s.1 + 1; omega) (by rw [gR_uI, hsg])
    by_cases hb : (g (s.1 + 1, s.2)).1 = true
    · have e : ahG g h tp to s = (true, (g (s.1 + 1, s.2)).2.1, (g (s.1 + 1, s.2)).2.2.1, (if i = 0 then 2033 else 2126) :: (g (s.1 + 1, s.2)).2.2.2) := by
        rw [ahG, ha]
        exact if_pos hb
      rw [e]
      have w2 : b01 ((g (s.1 + 1, s.2)).1 = true) = 1 := b01_t hb
      have vi : aI (amg tp to (am_str 4) s.1) = nI i := by rw [ha]; rfl
      refine r_aload_n rfl rfl ?_
      refine r_ldcS rfl ?_
      refine r_callV rfl (among_ct (i := 4) hT hs h1 (by decide)) rfl rfl rfl (by decide) rfl (am_cnt rfl) ?_
      refine r_istore_n (L2 := [_, _, _]) rfl rfl ?_
      refine r_iload_n rfl rfl ?_
      refine r_if_ge rfl (fun h8 => ?_) (fun h8 => ?_)
      · refine r_aload_n rfl rfl ?_
        refine r_dup rfl rfl ?_
        refine r_getI rfl rfl (by decide) (by decide) rfl ?_
        refine r_iconst rfl ?_
        refine r_iadd rfl ?_
        refine r_putI rfl rfl (by decide) (by decide) rfl ?_
        refine r_aload_n rfl rfl ?_
        refine r_callVE rfl gc rfl rfl rfl (by decide) rfl (am_cnt rfl) (fun V hV => ?_)
        refine r_istore_n (L2 := [_, _, _]) rfl rfl ?_
        refine r_iload_n rfl rfl ?_
        refine r_if_eq rfl (fun h32 => ?_) (fun h32 => ?_)
        · rw [w2] at h32
          exact absurd h32 (by decide)
        · refine r_aload_n rfl rfl ?_
          refine r_sipush rfl ?_
          refine r_iload_n rfl rfl ?_
          refine r_if_ne rfl (fun h40 => ?_) (fun h40 => ?_)
          · rw [vi, show (0 : Int32) = nI 0 from rfl, nI_eq (by omega) (by omega)] at h40
            refine r_bipush rfl ?_
            refine r_iadd rfl ?_
            refine r_callV rfl (ct_X11_marks hV.2.2.2.1 (by omega)) rfl rfl rfl (by decide) rfl (am_cnt rfl) ?_
            refine r_iload_n rfl rfl ?_
            refine r_zret rfl rfl (by exact b01_or) ?_
            refine ⟨by rw [w2]; rfl, _, rfl, frC_mark (frC_t (frC_97 frC_0 (Or.inl rfl)) hV.1), ?_⟩
            first
            | (rw [if_pos h40]; exact rdC_mark hV.2)
            | (rw [if_neg h40]; exact rdC_mark hV.2)
          · rw [vi, show (0 : Int32) = nI 0 from rfl, nI_eq (by omega) (by omega)] at h40
            refine r_bipush rfl ?_
            refine r_goto rfl ?_
            refine r_iadd rfl ?_
            refine r_callV rfl (ct_X11_marks hV.2.2.2.1 (by omega)) rfl rfl rfl (by decide) rfl (am_cnt rfl) ?_
            refine r_iload_n rfl rfl ?_
            refine r_zret rfl rfl (by exact b01_or) ?_
            refine ⟨by rw [w2]; rfl, _, rfl, frC_mark (frC_t (frC_97 frC_0 (Or.inl rfl)) hV.1), ?_⟩
            first
            | (rw [if_pos h40]; exact rdC_mark hV.2)
            | (rw [if_neg h40]; exact rdC_mark hV.2)
      · exact absurd (Int32.not_le.mp h8) w
    · have e : ahG g h tp to s = g (s.1 + 1, s.2) := by
        rw [ahG, ha]
        exact if_neg hb
      rw [e]
      have w2 : b01 ((g (s.1 + 1, s.2)).1 = true) = 0 := b01_f hb
      refine r_aload_n rfl rfl ?_
      refine r_ldcS rfl ?_
      refine r_callV rfl (among_ct (i := 4) hT hs h1 (by decide)) rfl rfl rfl (by decide) rfl (am_cnt rfl) ?_
      refine r_istore_n (L2 := [_, _, _]) rfl rfl ?_
      refine r_iload_n rfl rfl ?_
      refine r_if_ge rfl (fun h8 => ?_) (fun h8 => ?_)
      · refine r_aload_n rfl rfl ?_
        refine r_dup rfl rfl ?_
        refine r_getI rfl rfl (by decide) (by decide) rfl ?_
        refine r_iconst rfl ?_
        refine r_iadd rfl ?_
        refine r_putI rfl rfl (by decide) (by decide) rfl ?_
        refine r_aload_n rfl rfl ?_
        refine r_callVE rfl gc rfl rfl rfl (by decide) rfl (am_cnt rfl) (fun V hV => ?_)
        refine r_istore_n (L2 := [_, _, _]) rfl rfl ?_
        refine r_iload_n rfl rfl ?_
        refine r_if_eq rfl (fun h32 => ?_) (fun h32 => ?_)
        · refine r_iload_n rfl rfl ?_
          refine r_zret rfl rfl (by exact b01_or) ?_
          exact ⟨rfl, _, rfl, frC_t (frC_97 frC_0 (Or.inl rfl)) hV.1, hV.2⟩
        · exact absurd w2 h32
      · exact absurd (Int32.not_le.mp h8) w
