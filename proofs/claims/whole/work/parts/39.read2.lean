/-! One sign taken. -/
theorem rdOk_wt {S : am_S} {s : RSt} (h : RdOk S s) : gI S 67 9 = b01 (s.2.2.2.2.2.2 = true) := h.2.2.2.2.2.2.2.2
theorem ct_X5_takeDigit {d : Nat} {S : am_S} {s : RSt} {e : Nat} (h : RdOk S s) (he : e < 10) (hg : s.2.2.2.2.2.1 ≤ 3) : am_CE (d + 1) iX5_takeDigit [.ref 67, .int (nI e)] S (some (.int (b01 ((tkD s e).isSome = true)))) (RdP S (tkD s e)) := by
  refine am_CE_in mmX5_takeDigit rfl rfl rfl ?_
  obtain ⟨a1, a2, a3, a4, a5, a6, a7, a8, a9⟩ := h
  by_cases hw : s.2.2.2.2.2.2 = true
  · have e0 : tkD s e = some (s.1, s.2.1, s.2.2.1, s.2.2.2.1, nI e, 1, false) := if_pos hw
    rw [e0]
    have w0 : ¬ gI S 67 9 = 0 := by rw [a9, b01_t hw]; decide
    refine r_aload_n rfl rfl ?_
    refine r_getI rfl rfl (by decide) (by decide) rfl ?_
    refine r_if_eq rfl (fun h4 => ?_) (fun h4 => ?_)
    · exact absurd h4 w0
    · refine r_aload_n rfl rfl ?_
      refine r_iconst rfl ?_
      refine r_putZ rfl rfl (by decide) (by decide) rfl (by simp) ?_
      refine r_aload_n rfl rfl ?_
      refine r_iload_n rfl rfl ?_
      refine r_putI rfl rfl (by decide) (by decide) rfl ?_
      refine r_aload_n rfl rfl ?_
      refine r_iconst rfl ?_
      refine r_putI rfl rfl (by decide) (by decide) rfl ?_
      refine r_iconst rfl ?_
      refine r_zret rfl rfl (by simp) ?_
      refine ⟨rfl, _, rfl, frR_u (frR_u (frR_u frR_0 (by simp)) (by simp)) (by simp), fun s' hs => ?_⟩
      cases hs
      refine ⟨?_, ?_, ?_, ?_, ?_, ?_, ?_, ?_, ?_⟩
      · simpa [gI_uI] using a1
      · simpa [gI_uI_ne] using a2
      · simpa [gI_uI] using a3
      · simpa [gI_uI_ne] using a4
      · simpa [gI_uI] using a5
      · intro i hi
        rw [gI_uI_ne (by decide), gI_uI_ne (by decide), gI_uI_ne (by decide)]
        exact a6 i hi
      · simp [gI_uI]
      · simp [gI_uI]
        rfl
      · simp [gI_uI, b01]
  · have w0 : gI S 67 9 = 0 := by rw [a9, b01_f hw]
    by_cases hd : s.2.2.2.2.2.1 = 0 ∨ 3 ≤ s.2.2.2.2.2.1
    · have e0 : tkD s e = none := by rw [tkD, if_neg hw, if_pos hd]
      rw [e0]
      have w1 : ¬ gI S 67 8 = 0 → 3 ≤ gI S 67 8 := fun z => by
        rw [a8] at z ⊢
        rcases hd with hd | hd
        · rw [hd] at z; exact absurd rfl z
        · exact nI_le (a := 3) hd (by omega)
      refine r_aload_n rfl rfl ?_
      refine r_getI rfl rfl (by decide) (by decide) rfl ?_
      refine r_if_eq rfl (fun h4 => ?_) (fun h4 => ?_)
      · refine r_aload_n rfl rfl ?_
        refine r_getI rfl rfl (by decide) (by decide) rfl ?_
        refine r_if_eq rfl (fun h28 => ?_) (fun h28 => ?_)
        · refine r_iconst rfl ?_
          refine r_zret rfl rfl (by simp) ?_
          exact ⟨rfl, _, rfl, frR_0, fun s' hs => by cases hs⟩
        · refine r_aload_n rfl rfl ?_
          refine r_getI rfl rfl (by decide) (by decide) rfl ?_
          refine r_iconst rfl ?_
          refine r_icmp_lt rfl (fun h36 => ?_) (fun h36 => ?_)
          · exact absurd (w1 h28) (Int32.not_le.mpr h36)
          · refine r_iconst rfl ?_
            refine r_zret rfl rfl (by simp) ?_
            exact ⟨rfl, _, rfl, frR_0, fun s' hs => by cases hs⟩
      · exact absurd w0 h4
    · have e0 : tkD s e = some (s.1, s.2.1, s.2.2.1, s.2.2.2.1, s.2.2.2.2.1 * 10 + nI e, s.2.2.2.2.2.1 + 1, s.2.2.2.2.2.2) := by rw [tkD, if_neg hw, if_neg hd]
      rw [e0]
      have w1 : ¬ gI S 67 8 = 0 := fun z => by rw [a8] at z; exact absurd (nI_inj (b := 0) (by omega) (by omega) z) (by omega)
      have w2 : gI S 67 8 < 3 := by rw [a8]; exact nI_lt (b := 3) (by omega) (by omega)
      refine r_aload_n rfl rfl ?_
      refine r_getI rfl rfl (by decide) (by decide) rfl ?_
      refine r_if_eq rfl (fun h4 => ?_) (fun h4 => ?_)
      · refine r_aload_n rfl rfl ?_
        refine r_getI rfl rfl (by decide) (by decide) rfl ?_
        refine r_if_eq rfl (fun h28 => ?_) (fun h28 => ?_)
        · exact absurd h28 w1
        · refine r_aload_n rfl rfl ?_
          refine r_getI rfl rfl (by decide) (by decide) rfl ?_
          refine r_iconst rfl ?_
          refine r_icmp_lt rfl (fun h36 => ?_) (fun h36 => ?_)
          · refine r_aload_n rfl rfl ?_
            refine r_aload_n rfl rfl ?_
            refine r_getI rfl rfl (by decide) (by decide) rfl ?_
            refine r_bipush rfl ?_
            refine r_imul rfl ?_
            refine r_iload_n rfl rfl ?_
            refine r_iadd rfl ?_
            refine r_putI rfl rfl (by decide) (by decide) rfl ?_
            refine r_aload_n rfl rfl ?_
            refine r_dup rfl rfl ?_
            refine r_getI rfl rfl (by decide) (by decide) rfl ?_
            refine r_iconst rfl ?_
            refine r_iadd rfl ?_
            refine r_putI rfl rfl (by decide) (by decide) rfl ?_
            refine r_iconst rfl ?_
            refine r_zret rfl rfl (by simp) ?_
            refine ⟨rfl, _, rfl, frR_u (frR_u frR_0 (by simp)) (by simp), fun s' hs => ?_⟩
            cases hs
            refine ⟨?_, ?_, ?_, ?_, ?_, ?_, ?_, ?_, ?_⟩
            · simpa [gI_uI] using a1
            · simpa [gI_uI_ne] using a2
            · simpa [gI_uI] using a3
            · simpa [gI_uI_ne] using a4
            · simpa [gI_uI] using a5
            · intro i hi
              rw [gI_uI_ne (by decide), gI_uI_ne (by decide)]
              exact a6 i hi
            · intro _
              simp [gI_uI, a7 (by omega)]
            · simp [gI_uI, a8, nI_1]
            · simpa [gI_uI] using a9
          · exact absurd w2 h36
      · exact absurd w0 h4
theorem ct_X5_open {d : Nat} {S : am_S} {s : RSt} (h : RdOk S s) (hl : s.2.1.length < 40) (hd : s.2.2.1 ≤ 5) : am_CE (d + 2) iX5_open [.ref 67] S (some (.int (b01 (s.2.2.1 < 5)))) (RdP S (if s.2.2.1 < 5 then some (s.1, 2040 :: s.2.1, s.2.2.1 + 1, (fun i => if i = s.2.2.1 + 1 then false else s.2.2.2.1 i), s.2.2.2.2) else none)) := by
  refine am_CE_in mmX5_open rfl rfl rfl ?_
  have h0 := h
  obtain ⟨a1, a2, a3, a4, a5, a6, a7, a8, a9⟩ := h
  by_cases hc : s.2.2.1 < 5
  · rw [if_pos hc, b01_t hc]
    have w1 : ¬ 5 ≤ gI S 67 6 := by rw [a5]; exact Int32.not_le.mpr (nI_lt (b := 5) hc (by omega))
    have w2 : 0 ≤ gI S 67 6 := by rw [a5]; exact nI_pos' (by omega)
    have e1 : gI S 67 6 + 1 = nI (s.2.2.1 + 1) := by rw [a5, nI_1]
    have q1 : gI (uI S 67 6 (gI S 67 6 + 1)) 67 6 = nI (s.2.2.1 + 1) := by rw [gI_uI, if_pos rfl, if_pos rfl, e1]
    have b1 : (nI (s.2.2.1 + 1)).toNatClampNeg = s.2.2.1 + 1 := nI_clamp (by omega)
    have s1 : 0 ≤ nI (s.2.2.1 + 1) := nI_pos' (by omega)
    have s2 : nI (s.2.2.1 + 1) < Int32.ofNat 6 := nI_lt (by omega) (by omega)
    have ok : RdOk (uI (uI S 67 6 (gI S 67 6 + 1)) 73 (nI (s.2.2.1 + 1)).toNatClampNeg 0) (s.1, s.2.1, s.2.2.1 + 1, (fun i => if i = s.2.2.1 + 1 then false else s.2.2.2.1 i), s.2.2.2.2) := by
      rw [b1]
      refine ⟨?_, ?_, ?_, ?_, ?_, ?_, ?_, ?_, ?_⟩
      · simpa [gI_uI] using a1
      · simpa [gI_uI_ne] using a2
      · simpa [gI_uI] using a3
      · simpa [gI_uI_ne] using a4
      · rw [gI_uI_ne (by decide), q1]
      · intro i hi
        rw [gI_uI, if_pos rfl, gI_uI_ne (by decide)]
        by_cases hi2 : i = s.2.2.1 + 1
        · simp only [hi2, if_true]
          rfl
        · simp only [hi2, if_false]
          have hi3 : i ≤ s.2.2.1 + 1 := hi
          exact a6 i (by omega)
      · simpa [gI_uI] using a7
      · simpa [gI_uI] using a8
      · simpa [gI_uI] using a9
    refine r_aload_n rfl rfl ?_
    refine r_getI rfl rfl (by decide) (by decide) rfl ?_
    refine r_iconst rfl ?_
    refine r_icmp_ge rfl (fun h5 => ?_) (fun h5 => ?_)
    · exact absurd h5 w1
    · refine r_aload_n rfl rfl ?_
      refine r_getI rfl rfl (by decide) (by decide) rfl ?_
      refine r_if_ge rfl (fun h12 => ?_) (fun h12 => ?_)
      · refine r_aload_n rfl rfl ?_
        refine r_dup rfl rfl ?_
        refine r_getI rfl rfl (by decide) (by decide) rfl ?_
        refine r_iconst rfl ?_
        refine r_iadd rfl ?_
        refine r_putI rfl rfl (by decide) (by decide) rfl ?_
        refine r_aload_n rfl rfl ?_
        refine r_getC rfl rfl (by decide) (by decide) rfl ?_
        refine r_aload_n rfl rfl ?_
        refine r_getI rfl rfl (by decide) (by decide) rfl ?_
        refine r_iconst rfl ?_
        rw [q1]
        refine r_bast rfl rfl (by first | decide | assumption) (by first | exact s1 | exact s2 | simp) (by first | exact s1 | exact s2 | simp) (by first | exact s1 | exact s2 | simp) ?_
        refine r_aload_n rfl rfl ?_
        refine r_sipush rfl ?_
        refine r_callVE rfl (ct_X5_putOff ok hl) rfl rfl rfl (by decide) rfl (am_cnt rfl) (fun T hT => ?_)
        refine r_iconst rfl ?_
        refine r_zret rfl rfl (by first | exact s1 | exact s2 | simp) ?_
        exact ⟨rfl, _, rfl, frR_t (frR_u (frR_u frR_0 (by simp)) (by simp)) hT.1, fun s' hs => hT.2 s' hs⟩
      · exact absurd w2 h12
  · rw [if_neg hc, b01_f hc]
    have w1 : 5 ≤ gI S 67 6 := by rw [a5]; exact nI_le (a := 5) (by omega) (by omega)
    refine r_aload_n rfl rfl ?_
    refine r_getI rfl rfl (by decide) (by decide) rfl ?_
    refine r_iconst rfl ?_
    refine r_icmp_ge rfl (fun h5 => ?_) (fun h5 => ?_)
    · refine r_iconst rfl ?_
      refine r_zret rfl rfl (by simp) ?_
      exact ⟨rfl, _, rfl, frR_0, fun s' hs => by cases hs⟩
    · exact absurd w1 h5
def ixI : Option Nat → Int32
  | none => -1
  | some i => nI i
theorem ixo_ixN {x : Int32} {ch : Nat} (hx : x = nI ch) (hc : ch < 65536) : ∀ (l : List Nat) (k : Nat), (∀ c, c ∈ l → c < 65536) → am_ixo l x k = ixI (ixN ch l k)
  | [], k, _ => rfl
  | c :: t, k, h => by
    have hc2 := h c (List.mem_cons_self)
    unfold am_ixo ixN
    by_cases he : ch = c
    · rw [if_pos he, if_pos (by rw [hx, he])]
      rfl
    · rw [if_neg he, if_neg (fun z => he (nI_inj (by omega) (by omega) (hx ▸ z)))]
      exact ixo_ixN hx hc t (k + 1) (fun c hm => h c (List.mem_cons_of_mem _ hm))
theorem ixN_lt {ch : Nat} : ∀ (l : List Nat) (k i : Nat), ixN ch l k = some i → i < k + l.length
  | [], k, i, h => by cases h
  | c :: t, k, i, h => by
    unfold ixN at h
    rw [List.length_cons]
    split at h
    · cases h; omega
    · have := ixN_lt t (k + 1) i h; omega
/-- the signs of a text constant -/
def sgOk (j : Nat) : Prop := j < 12 ∧ (∀ c, c ∈ am_str j → c < 65536) ∧ (am_str j).length ≤ 6
theorem sg0 : sgOk 0 := ⟨by decide, by decide, by decide⟩
theorem sg1 : sgOk 1 := ⟨by decide, by decide, by decide⟩
theorem ch_i2c {ch : Nat} (h : ch < 256) : ((nI ch).toUInt32 % 65536).toInt32 = nI ch := by
  rw [pk_char, pk_tn (by omega), Nat.mod_eq_of_lt (by omega)]
theorem ct_X5_takeAhead {d : Nat} {S : am_S} {s : RSt} {ch j : Nat} (h : RdOk S s) (hch : ch < 256) (hj : sgOk j) (hl : s.1.length + s.2.1.length < 40) (hd : s.2.2.1 ≤ 5) : am_CE (d + 3) iX5_takeAhead [.ref 67, .int (nI ch), .ref (1000000 + j)] S (some (.int (b01 ((tkA (am_str j) s ch).isSome = true)))) (RdP S (tkA (am_str j) s ch)) := by
  refine am_CE_in mmX5_takeAhead rfl rfl rfl ?_
  have c33 : nI ch = 33 ↔ ch = 33 := nI_eq (b := 33) (by omega) (by omega)
  have c45 : nI ch = 45 ↔ ch = 45 := nI_eq (b := 45) (by omega) (by omega)
  have c40 : nI ch = 40 ↔ ch = 40 := nI_eq (b := 40) (by omega) (by omega)
  by_cases h1 : ch = 33 ∨ ch = 45
  · have e0 : tkA (am_str j) s ch = some (s.1, (if ch = 33 then 2033 else 2110) :: s.2.1, s.2.2) := if_pos h1
    rw [e0]
    by_cases h2 : ch = 33
    · rw [if_pos h2]
      refine r_iload_n rfl rfl ?_
      refine r_bipush rfl ?_
      refine r_icmp_eq rfl (fun h3 => ?_) (fun h3 => ?_)
      · refine r_aload_n rfl rfl ?_
        refine r_iload_n rfl rfl ?_
        refine r_bipush rfl ?_
        refine r_icmp_ne rfl (fun h16 => ?_) (fun h16 => ?_)
        · exact absurd (c33.mpr h2) h16
        · refine r_sipush rfl ?_
          refine r_goto rfl ?_
          refine r_callVE rfl (ct_X5_putOff h (by omega)) rfl rfl rfl (by decide) rfl (am_cnt rfl) (fun T hT => ?_)
          refine r_iconst rfl ?_
          refine r_zret rfl rfl (by simp) ?_
          exact ⟨rfl, _, rfl, hT⟩
      · exact absurd (c33.mpr h2) h3
    · rw [if_neg h2]
      have h4 : ch = 45 := h1.resolve_left h2
      refine r_iload_n rfl rfl ?_
      refine r_bipush rfl ?_
      refine r_icmp_eq rfl (fun h3 => ?_) (fun h3 => ?_)
      · exact absurd (c33.mp h3) h2
      · refine r_iload_n rfl rfl ?_
        refine r_bipush rfl ?_
        refine r_icmp_ne rfl (fun h9 => ?_) (fun h9 => ?_)
        · exact absurd (c45.mpr h4) h9
        · refine r_aload_n rfl rfl ?_
          refine r_iload_n rfl rfl ?_
          refine r_bipush rfl ?_
          refine r_icmp_ne rfl (fun h16 => ?_) (fun h16 => ?_)
          · refine r_sipush rfl ?_
            refine r_callVE rfl (ct_X5_putOff h (by omega)) rfl rfl rfl (by decide) rfl (am_cnt rfl) (fun T hT => ?_)
            refine r_iconst rfl ?_
            refine r_zret rfl rfl (by simp) ?_
            exact ⟨rfl, _, rfl, hT⟩
          · exact absurd (c33.mp h16) h2
  have n1 : ¬ nI ch = 33 := fun z => h1 (Or.inl (c33.mp z))
  have n2 : ¬ nI ch = 45 := fun z => h1 (Or.inr (c45.mp z))
  by_cases h2 : ch = 40
  · have e0 : tkA (am_str j) s ch = if s.2.2.1 < 5 then some (s.1, 2040 :: s.2.1, s.2.2.1 + 1, (fun i => if i = s.2.2.1 + 1 then false else s.2.2.2.1 i), s.2.2.2.2) else none := by rw [tkA, if_neg h1, if_pos h2]
    have e1 : b01 ((tkA (am_str j) s ch).isSome = true) = b01 (s.2.2.1 < 5) := by
      rw [e0]
      by_cases hc : s.2.2.1 < 5
      · rw [if_pos hc, b01_t hc]
        exact b01_t rfl
      · rw [if_neg hc, b01_f hc]
        rfl
    rw [e1, e0]
    refine r_iload_n rfl rfl ?_
    refine r_bipush rfl ?_
    refine r_icmp_eq rfl (fun h3 => ?_) (fun h3 => ?_)
    · exact absurd h3 n1
    · refine r_iload_n rfl rfl ?_
      refine r_bipush rfl ?_
      refine r_icmp_ne rfl (fun h9 => ?_) (fun h9 => ?_)
      · refine r_iload_n rfl rfl ?_
        refine r_bipush rfl ?_
        refine r_icmp_ne rfl (fun h36 => ?_) (fun h36 => ?_)
        · exact absurd (c40.mpr h2) h36
        · refine r_aload_n rfl rfl ?_
          refine r_callVE rfl (ct_X5_open h (by omega) hd) rfl rfl rfl (by decide) rfl (am_cnt rfl) (fun T hT => ?_)
          refine r_zret rfl rfl (by exact b01_or) ?_
          exact ⟨rfl, _, rfl, hT⟩
      · exact absurd h9 n2
  have n3 : ¬ nI ch = 40 := fun z => h2 (c40.mp z)
  have ei : am_ixo (am_str (1000000 + j - 1000000)) (nI ch) 0 = ixI (ixN ch (am_str j) 0) := by
    rw [Nat.add_sub_cancel_left]
    exact ixo_ixN (ch := ch) rfl (by omega) (am_str j) 0 hj.2.1
  have e0 : tkA (am_str j) s ch = tkS s (ixN ch (am_str j) 0) := by rw [tkA, if_neg h1, if_neg h2]
  have s1 : 0 ≤ nI ch := nI_pos' (by omega)
  have s2 : nI ch < 65536 := nI_lt (b := 65536) (by omega) (by omega)
  have hj12 := hj.1
  cases hix : ixN ch (am_str j) 0 with
  | none =>
    rw [hix] at ei e0
    rw [e0]
    refine r_iload_n rfl rfl ?_
    refine r_bipush rfl ?_
    refine r_icmp_eq rfl (fun h3 => ?_) (fun h3 => ?_)
    · exact absurd h3 n1
    · refine r_iload_n rfl rfl ?_
      refine r_bipush rfl ?_
      refine r_icmp_ne rfl (fun h9 => ?_) (fun h9 => ?_)
      · refine r_iload_n rfl rfl ?_
        refine r_bipush rfl ?_
        refine r_icmp_ne rfl (fun h36 => ?_) (fun h36 => ?_)
        · refine r_aload_n rfl rfl ?_
          refine r_iload_n rfl rfl ?_
          refine r_i2c rfl ?_
          rw [ch_i2c hch]
          refine r_sidx rfl (by omega) (by omega) s1 s2 (am_cnt rfl) ?_
          rw [ei]
          refine r_istore_n (L2 := [_, _, _, _]) rfl rfl ?_
          refine r_iload_n rfl rfl ?_
          refine r_if_ge rfl (fun h52 => ?_) (fun h52 => ?_)
          · exact absurd h52 (by decide)
          · refine r_iconst rfl ?_
            refine r_zret rfl rfl (by simp) ?_
            exact ⟨rfl, _, rfl, frR_0, fun s' hs => by cases hs⟩
        · exact absurd h36 n3
      · exact absurd h9 n2
  | some i =>
    rw [hix] at ei e0
    rw [e0]
    have hi := ixN_lt _ _ _ hix
    have hi6 := hj.2.2
    obtain ⟨a1, a2, a3, a4, a5, a6, a7, a8, a9⟩ := h
    have ff : ∀ x, fAddF S 69 x s.1.length = uI (uI S 70 s.1.length x) 69 1 (nI (s.1.length + 1)) := fun x => if_pos (by omega)
    refine r_iload_n rfl rfl ?_
    refine r_bipush rfl ?_
    refine r_icmp_eq rfl (fun h3 => ?_) (fun h3 => ?_)
    · exact absurd h3 n1
    · refine r_iload_n rfl rfl ?_
      refine r_bipush rfl ?_
      refine r_icmp_ne rfl (fun h9 => ?_) (fun h9 => ?_)
      · refine r_iload_n rfl rfl ?_
        refine r_bipush rfl ?_
        refine r_icmp_ne rfl (fun h36 => ?_) (fun h36 => ?_)
        · refine r_aload_n rfl rfl ?_
          refine r_iload_n rfl rfl ?_
          refine r_i2c rfl ?_
          rw [ch_i2c hch]
          refine r_sidx rfl (by omega) (by omega) s1 s2 (am_cnt rfl) ?_
          rw [ei]
          refine r_istore_n (L2 := [_, _, _, _]) rfl rfl ?_
          refine r_iload_n rfl rfl ?_
          refine r_if_ge rfl (fun h52 => ?_) (fun h52 => ?_)
          · refine r_aload_n rfl rfl ?_
            refine r_getC rfl rfl (by decide) (by decide) rfl ?_
            refine r_sipush rfl ?_
            refine r_iload_n rfl rfl ?_
            refine r_iadd rfl ?_
            rw [show (1000 : Int32) + ixI (some i) = nI (1000 + i) from nI_add 1000 i]
            refine r_callV rfl (ct_X1_add (o := 69) ⟨rfl, rfl, rfl⟩ a1 (by omega)) rfl rfl rfl (by decide) rfl (am_cnt rfl) ?_
            rw [ff]
            refine r_aload_n rfl rfl ?_
            refine r_iconst rfl ?_
            refine r_putZ rfl rfl (by decide) (by decide) rfl (by simp) ?_
            refine r_iconst rfl ?_
            refine r_zret rfl rfl (by simp) ?_
            refine ⟨rfl, _, rfl, frR_u (frR_u (frR_u frR_0 (by simp)) (by simp)) (by simp), fun s' hs => ?_⟩
            cases hs
            refine ⟨?_, ?_, ?_, ?_, ?_, ?_, ?_, ?_, ?_⟩
            · simp [gI_uI]
            · rw [gI_uI_ne (by decide), gI_uI_ne (by decide), gI_uI_eq]
              exact stk_push a2
            · simpa [gI_uI] using a3
            · simpa [gI_uI_ne] using a4
            · simpa [gI_uI] using a5
            · intro i hi
              rw [gI_uI_ne (by decide), gI_uI_ne (by decide), gI_uI_ne (by decide)]
              exact a6 i hi
            · simpa [gI_uI] using a7
            · simpa [gI_uI] using a8
            · simp [gI_uI, b01]
          · exact absurd (nI_pos' (by omega)) h52
        · exact absurd h36 n3
      · exact absurd h9 n2
