/-! A sign behind a thing; the whole text. -/
def clsR (s : RSt) : RSt := ((fdn 1 s.1 s.2.1).1, (fdn 1 s.1 s.2.1).2.tail, s.2.2.1 - 1, s.2.2.2)
theorem ct_X5_close {d : Nat} {S : am_S} {s : RSt} (h : RdOk S s) (hl : s.1.length + s.2.1.length ≤ 40) (hd : s.2.2.1 ≤ 5) : am_CE (d + 3) iX5_close [.ref 67] S (some (.int (b01 (¬ s.2.2.1 = 0)))) (RdP S (if s.2.2.1 = 0 then none else some (clsR s))) := by
  refine am_CE_in mmX5_close rfl rfl rfl ?_
  have h0 := h
  obtain ⟨a1, a2, a3, a4, a5, a6, a7, a8, a9⟩ := h
  by_cases hc : s.2.2.1 = 0
  · rw [if_pos hc, b01_f (fun z => z hc)]
    have w1 : gI S 67 6 = 0 := by rw [a5, hc]; rfl
    refine r_aload_n rfl rfl ?_
    refine r_getI rfl rfl (by decide) (by decide) rfl ?_
    refine r_if_ne rfl (fun h4 => ?_) (fun h4 => ?_)
    · exact absurd w1 h4
    · refine r_iconst rfl ?_
      refine r_zret rfl rfl (by simp) ?_
      exact ⟨rfl, _, rfl, frR_0, fun s' hs => by cases hs⟩
  · rw [if_neg hc, b01_t hc]
    have w1 : ¬ gI S 67 6 = 0 := fun z => by rw [a5] at z; exact absurd (nI_inj (b := 0) (by omega) (by omega) z) hc
    have e1 : gI S 67 6 - 1 = nI (s.2.2.1 - 1) := by rw [a5]; exact pk_sub (b := 1) (by omega)
    have ok : RdOk (uI S 67 6 (gI S 67 6 - 1)) (s.1, s.2.1, s.2.2.1 - 1, s.2.2.2) := by
      refine ⟨?_, ?_, ?_, ?_, ?_, ?_, ?_, ?_, ?_⟩
      · simpa [gI_uI] using a1
      · simpa [gI_uI_ne] using a2
      · simpa [gI_uI] using a3
      · simpa [gI_uI_ne] using a4
      · rw [gI_uI, if_pos rfl, if_pos rfl, e1]
      · intro i hi
        rw [gI_uI_ne (by decide)]
        have hi3 : i ≤ s.2.2.1 - 1 := hi
        exact a6 i (by omega)
      · simpa [gI_uI] using a7
      · simpa [gI_uI] using a8
      · simpa [gI_uI] using a9
    have fl := fdn_len 1 s.2.1 s.1
    have mx : ∀ n, n ≤ 40 → (if nI n - 1 < 0 then (0 : Int32) else nI n - 1) = nI (n - 1) := fun n hn => by
      match n, hn with
      | 0, _ => rfl
      | k + 1, hk => rw [nI_pred, if_neg (nI_pos (by omega))]; rfl
    refine r_aload_n rfl rfl ?_
    refine r_getI rfl rfl (by decide) (by decide) rfl ?_
    refine r_if_ne rfl (fun h4 => ?_) (fun h4 => ?_)
    · refine r_aload_n rfl rfl ?_
      refine r_dup rfl rfl ?_
      refine r_getI rfl rfl (by decide) (by decide) rfl ?_
      refine r_iconst rfl ?_
      refine r_isub rfl ?_
      refine r_putI rfl rfl (by decide) (by decide) rfl ?_
      refine r_aload_n rfl rfl ?_
      refine r_iconst rfl ?_
      refine r_callVE rfl (ct_X5_finishDownTo (rk := 1) ok hl (by omega)) rfl rfl rfl (by decide) rfl (am_cnt rfl) (fun T hT => ?_)
      refine r_aload_n rfl rfl ?_
      refine r_aload_n rfl rfl ?_
      refine r_getI rfl rfl (by decide) (by decide) rfl ?_
      refine r_iconst rfl ?_
      refine r_isub rfl ?_
      refine r_iconst rfl ?_
      refine r_max rfl (am_cnt rfl) ?_
      have t3 : gI T 67 4 = nI (fdn 1 s.1 s.2.1).2.length := (hT.2 _ rfl).2.2.1
      rw [t3, mx _ (by omega)]
      refine r_putI rfl rfl (by decide) (by decide) rfl ?_
      refine r_iconst rfl ?_
      refine r_zret rfl rfl (by simp) ?_
      refine ⟨rfl, _, rfl, frR_u (frR_t (frR_u frR_0 (by simp)) hT.1) (by simp), fun s' hs => ?_⟩
      cases hs
      obtain ⟨b1, b2, b3, b4, b5, b6, b7, b8, b9⟩ := hT.2 _ rfl
      refine ⟨?_, ?_, ?_, ?_, ?_, ?_, ?_, ?_, ?_⟩
      · simpa [gI_uI, clsR] using b1
      · simpa [gI_uI_ne, clsR] using b2
      · rw [gI_uI, if_pos rfl, if_pos rfl]
        show nI _ = nI (List.tail _).length
        rw [List.length_tail]
      · rw [gI_uI_ne (by decide)]
        show Stk _ (List.tail _)
        revert b4
        show Stk (gI T 72) (fdn 1 s.1 s.2.1).2 → _
        cases (fdn 1 s.1 s.2.1).2 with
        | nil => exact fun z => z
        | cons x l => exact fun z => stk_pop z
      · simpa [gI_uI, clsR] using b5
      · intro i hi
        rw [gI_uI_ne (by decide)]
        exact b6 i hi
      · simpa [gI_uI, clsR] using b7
      · simpa [gI_uI, clsR] using b8
      · rw [gI_uI, if_pos rfl, if_neg (by decide)]
        exact b9
    · exact absurd h4 w1
theorem fnm_len (D : List Int32) (nm : Int32) (dg : Nat) : (fnm D nm dg).length = D.length + (if 0 < dg then 1 else 0) := by
  unfold fnm
  split
  · rfl
  · rfl
abbrev fnS (s : RSt) : RSt := (fnm s.1 s.2.2.2.2.1 s.2.2.2.2.2.1, s.2.1, s.2.2.1, s.2.2.2.1, s.2.2.2.2.1, 0, s.2.2.2.2.2.2)
theorem ct_X5_takeBehind {d : Nat} {S : am_S} {s : RSt} {ch : Nat} (h : RdOk S s) (hch : ch < 256) (hl : Lim s 39) : am_CE (d + 4) iX5_takeBehind [.ref 67, .int (nI ch)] S (some (.int (b01 ((tkB s ch).isSome = true)))) (RdP S (tkB s ch)) := by
  refine am_CE_in mmX5_takeBehind rfl rfl rfl ?_
  obtain ⟨hl1, hl2, hl3⟩ := hl
  have a5 : gI S 67 6 = nI s.2.2.1 := h.2.2.2.2.1
  have w1 : ¬ gI S 67 6 < 0 := by rw [a5]; exact nI_pos (by omega)
  have w2 : gI S 67 6 ≤ 5 := by rw [a5]; exact nI_le (b := 5) hl2 (by omega)
  have c41 : nI ch = 41 ↔ ch = 41 := nI_eq (b := 41) (by omega) (by omega)
  have fl := fnm_len s.1 s.2.2.2.2.1 s.2.2.2.2.2.1
  have hfn : s.1.length < 40 ∨ s.2.2.2.2.2.1 = 0 := by
    by_cases hz : s.2.2.2.2.2.1 = 0
    · exact Or.inr hz
    · rw [if_pos (by omega)] at hl1
      exact Or.inl (by omega)
  have hfl : (fnS s).1.length + (fnS s).2.1.length ≤ 39 := by
    show (fnm s.1 s.2.2.2.2.1 s.2.2.2.2.2.1).length + s.2.1.length ≤ 39
    omega
  by_cases h1 : ch = 41
  · have e0 : tkB s ch = if (fnS s).2.2.1 = 0 then none else some (clsR (fnS s)) := by rw [tkB, if_pos h1]; rfl
    have e1 : b01 ((tkB s ch).isSome = true) = b01 (¬ (fnS s).2.2.1 = 0) := by
      rw [e0]
      by_cases hc : (fnS s).2.2.1 = 0
      · rw [if_pos hc, b01_f (P := ¬ (fnS s).2.2.1 = 0) (fun z => z hc)]
        rfl
      · rw [if_neg hc, b01_t hc]
        exact b01_t rfl
    rw [e1, e0]
    refine r_aload_n rfl rfl ?_
    refine r_getI rfl rfl (by decide) (by decide) rfl ?_
    refine r_if_lt rfl (fun h4 => ?_) (fun h4 => ?_)
    · exact absurd h4 w1
    · refine r_aload_n rfl rfl ?_
      refine r_getI rfl rfl (by decide) (by decide) rfl ?_
      refine r_iconst rfl ?_
      refine r_icmp_le rfl (fun h12 => ?_) (fun h12 => ?_)
      · refine r_aload_n rfl rfl ?_
        refine r_callVE rfl (ct_X5_finishNumber h hfn hl3) rfl rfl rfl (by decide) rfl (am_cnt rfl) (fun T hT => ?_)
        refine r_iload_n rfl rfl ?_
        refine r_bipush rfl ?_
        refine r_icmp_ne rfl (fun h24 => ?_) (fun h24 => ?_)
        · exact absurd (c41.mpr h1) h24
        · refine r_aload_n rfl rfl ?_
          refine r_callVE rfl (ct_X5_close (hT.2 _ rfl) (Nat.le_succ_of_le hfl) hl2) rfl rfl rfl (by decide) rfl (am_cnt rfl) (fun U hU => ?_)
          refine r_zret rfl rfl (by exact b01_or) ?_
          exact ⟨rfl, _, rfl, frR_t hT.1 hU.1, hU.2⟩
      · exact absurd w2 h12
  have n1 : ¬ nI ch = 41 := fun z => h1 (c41.mp z)
  have dd : nI ch + 2000 = nI (ch + 2000) := nI_add ch 2000
  generalize hr : fRank (nI (ch + 2000)) = r at *
  have hr6 : r ≤ 6 := by rw [← hr]; exact fRank_le _
  have r0 : nI r = 0 ↔ r = 0 := nI_eq (b := 0) (by omega) (by omega)
  have r3 : nI r = 3 ↔ r = 3 := nI_eq (b := 3) (by omega) (by omega)
  have r5 : nI r ≤ 5 ↔ r ≤ 5 := nI_leI (b := 5) (by omega) (by omega)
  have r33 : nI r ≤ 3 ↔ r ≤ 3 := nI_leI (b := 3) (by omega) (by omega)
  have bd : (nI s.2.2.1).toNatClampNeg = s.2.2.1 := nI_clamp (by omega)
  have s1 : 0 ≤ nI s.2.2.1 := nI_pos' (by omega)
  have s2 : nI s.2.2.1 < Int32.ofNat 6 := nI_lt (by omega) (by omega)
  by_cases hb : r = 0 ∨ 5 < r ∨ (r = 3 ∧ s.2.2.2.1 s.2.2.1 = true)
  · have e0 : tkB s ch = none := by rw [tkB, if_neg h1, hr, if_pos hb]
    rw [e0]
    refine r_aload_n rfl rfl ?_
    refine r_getI rfl rfl (by decide) (by decide) rfl ?_
    refine r_if_lt rfl (fun h4 => ?_) (fun h4 => ?_)
    · exact absurd h4 w1
    · refine r_aload_n rfl rfl ?_
      refine r_getI rfl rfl (by decide) (by decide) rfl ?_
      refine r_iconst rfl ?_
      refine r_icmp_le rfl (fun h12 => ?_) (fun h12 => ?_)
      · refine r_aload_n rfl rfl ?_
        refine r_callVE rfl (ct_X5_finishNumber h hfn hl3) rfl rfl rfl (by decide) rfl (am_cnt rfl) (fun T hT => ?_)
        refine r_iload_n rfl rfl ?_
        refine r_bipush rfl ?_
        refine r_icmp_ne rfl (fun h24 => ?_) (fun h24 => ?_)
        · refine r_iload_n rfl rfl ?_
          refine r_sipush rfl ?_
          refine r_iadd rfl ?_
          rw [dd]
          refine r_callS rfl (by decide) ct_X5_rankOf rfl rfl (am_cnt rfl) ?_
          refine r_istore_n (L2 := [_, _, _]) rfl rfl ?_
          rw [hr]
          refine r_iload_n rfl rfl ?_
          refine r_if_eq rfl (fun h42 => ?_) (fun h42 => ?_)
          · refine r_iconst rfl ?_
            refine r_zret rfl rfl (by first | exact s1 | exact s2 | simp) ?_
            exact ⟨rfl, _, rfl, hT.1, fun s' hs => by cases hs⟩
          · rw [r0] at h42
            refine r_iload_n rfl rfl ?_
            refine r_iconst rfl ?_
            refine r_icmp_gt rfl (fun h47 => ?_) (fun h47 => ?_)
            · refine r_iconst rfl ?_
              refine r_zret rfl rfl (by first | exact s1 | exact s2 | simp) ?_
              exact ⟨rfl, _, rfl, hT.1, fun s' hs => by cases hs⟩
            · have h47b := r5.mp (Int32.not_lt.mp h47)
              refine r_iload_n rfl rfl ?_
              refine r_iconst rfl ?_
              refine r_icmp_ne rfl (fun h52 => ?_) (fun h52 => ?_)
              · exfalso
                rw [r3] at h52
                omega
              · refine r_aload_n rfl rfl ?_
                refine r_getC rfl rfl (by decide) (by decide) rfl ?_
                have t5 : gI T 67 6 = nI s.2.2.1 := (hT.2 _ rfl).2.2.2.2.1
                refine r_aload_n rfl rfl ?_
                refine r_getI rfl rfl (by decide) (by decide) rfl ?_
                rw [t5]
                refine r_bald rfl rfl (by first | decide | assumption) (by first | exact s1 | exact s2 | simp) (by first | exact s1 | exact s2 | simp) ?_
                rw [bd, show gI T 73 s.2.2.1 = b01 (s.2.2.2.1 s.2.2.1 = true) from (hT.2 _ rfl).2.2.2.2.2.1 s.2.2.1 (Nat.le_refl _)]
                refine r_if_eq rfl (fun h64 => ?_) (fun h64 => ?_)
                · exfalso
                  rw [r3] at h52
                  rcases hb with hb | hb | hb
                  · omega
                  · omega
                  · rw [b01_t hb.2] at h64
                    exact absurd h64 (by decide)
                · refine r_iconst rfl ?_
                  refine r_zret rfl rfl (by first | exact s1 | exact s2 | simp) ?_
                  exact ⟨rfl, _, rfl, hT.1, fun s' hs => by cases hs⟩
        · exact absurd h24 n1
      · exact absurd w2 h12
  have hr0 : ¬ r = 0 := fun z => hb (Or.inl z)
  have hr5 : r ≤ 5 := Nat.le_of_not_lt fun z => hb (Or.inr (Or.inl z))
  have e0 : tkB s ch = some ((fdn r (fnm s.1 s.2.2.2.2.1 s.2.2.2.2.2.1) s.2.1).1, nI (ch + 2000) :: (fdn r (fnm s.1 s.2.2.2.2.1 s.2.2.2.2.2.1) s.2.1).2, s.2.2.1, (if r ≤ 3 then (fun i => if i = s.2.2.1 then decide (r = 3) else s.2.2.2.1 i) else s.2.2.2.1), s.2.2.2.2.1, 0, true) := by rw [tkB, if_neg h1, hr, if_neg hb]
  rw [e0]
  have fd := fdn_len r s.2.1 (fnm s.1 s.2.2.2.2.1 s.2.2.2.2.2.1)
  have fdl : (fdn r (fnm s.1 s.2.2.2.2.1 s.2.2.2.2.2.1) s.2.1).2.length < 40 := by omega
  have fin : ∀ (T2 V : am_S) (cm : Nat → Bool), FrR S T2 → FrR T2 V → RdOk V ((fdn r (fnm s.1 s.2.2.2.2.1 s.2.2.2.2.2.1) s.2.1).1, nI (ch + 2000) :: (fdn r (fnm s.1 s.2.2.2.2.1 s.2.2.2.2.2.1) s.2.1).2, s.2.2.1, cm, s.2.2.2.2.1, 0, s.2.2.2.2.2.2) → RdP S (some ((fdn r (fnm s.1 s.2.2.2.2.1 s.2.2.2.2.2.1) s.2.1).1, nI (ch + 2000) :: (fdn r (fnm s.1 s.2.2.2.2.1 s.2.2.2.2.2.1) s.2.1).2, s.2.2.1, cm, s.2.2.2.2.1, 0, true)) (uI V 67 9 1) := fun T2 V cm f1 f2 f3 => by
    obtain ⟨b1, b2, b3, b4, b5, b6, b7, b8, b9⟩ := f3
    refine ⟨frR_u (frR_t f1 f2) (by simp), fun s' hs => ?_⟩
    cases hs
    refine ⟨?_, ?_, ?_, ?_, ?_, ?_, ?_, ?_, ?_⟩
    · simpa [gI_uI] using b1
    · simpa [gI_uI_ne] using b2
    · simpa [gI_uI] using b3
    · simpa [gI_uI_ne] using b4
    · simpa [gI_uI] using b5
    · intro i hi
      rw [gI_uI_ne (by decide)]
      exact b6 i hi
    · simpa [gI_uI] using b7
    · simpa [gI_uI] using b8
    · simp [gI_uI, b01]
  have mid : ∀ (T : am_S) (x : Int32) (b : Bool), RdOk T (fnS s) → x = b01 (b = true) → RdOk (uI T 73 s.2.2.1 x) (fnm s.1 s.2.2.2.2.1 s.2.2.2.2.2.1, s.2.1, s.2.2.1, (fun i => if i = s.2.2.1 then b else s.2.2.2.1 i), s.2.2.2.2.1, 0, s.2.2.2.2.2.2) := fun T x b hT hx => by
    obtain ⟨b1, b2, b3, b4, b5, b6, b7, b8, b9⟩ := hT
    refine ⟨?_, ?_, ?_, ?_, ?_, ?_, ?_, ?_, ?_⟩
    · simpa [gI_uI] using b1
    · simpa [gI_uI_ne] using b2
    · simpa [gI_uI] using b3
    · simpa [gI_uI_ne] using b4
    · simpa [gI_uI] using b5
    · intro i hi
      rw [gI_uI, if_pos rfl]
      by_cases hi2 : i = s.2.2.1
      · simp only [hi2, if_true]
        exact hx
      · simp only [hi2, if_false]
        exact b6 i hi
    · simpa [gI_uI] using b7
    · simpa [gI_uI] using b8
    · simpa [gI_uI] using b9
  have go : ∀ {d : Nat} (T2 : am_S) (cm : Nat → Bool) (v : Option Value), FrR S T2 → RdOk T2 (fnm s.1 s.2.2.2.2.1 s.2.2.2.2.2.1, s.2.1, s.2.2.1, cm, s.2.2.2.2.1, 0, s.2.2.2.2.2.2) → cm = (if r ≤ 3 then (fun i => if i = s.2.2.1 then decide (r = 3) else s.2.2.2.1 i) else s.2.2.2.1) → am_Ex (am_Call am_MT (d + 3)) mmX5_takeBehind none (fun r1 G1 => r1 = some (.int (b01 ((some ((fdn r (fnm s.1 s.2.2.2.2.1 s.2.2.2.2.2.1) s.2.1).1, nI (ch + 2000) :: (fdn r (fnm s.1 s.2.2.2.2.1 s.2.2.2.2.2.1) s.2.1).2, s.2.2.1, (if r ≤ 3 then (fun i => if i = s.2.2.1 then decide (r = 3) else s.2.2.2.1 i) else s.2.2.2.1), s.2.2.2.2.1, 0, true) : Option RSt).isSome = true))) ∧ ∃ S2, G1 = am_H S2 ∧ RdP S (some ((fdn r (fnm s.1 s.2.2.2.2.1 s.2.2.2.2.2.1) s.2.1).1, nI (ch + 2000) :: (fdn r (fnm s.1 s.2.2.2.2.1 s.2.2.2.2.2.1) s.2.1).2, s.2.2.1, (if r ≤ 3 then (fun i => if i = s.2.2.1 then decide (r = 3) else s.2.2.2.1 i) else s.2.2.2.1), s.2.2.2.2.1, 0, true)) S2) (fun _ _ _ _ _ _ => False) 93 [some (.ref 67), some (.int (nI ch)), some (.int (nI r))] [] (am_H T2) 0 0 := fun {d} T2 cm v f1 f2 f3 => by
    rw [← f3]
    refine r_aload_n rfl rfl ?_
    refine r_iload_n rfl rfl ?_
    refine r_callVE rfl (ct_X5_finishDownTo f2 (by show (fnm s.1 s.2.2.2.2.1 s.2.2.2.2.2.1).length + s.2.1.length ≤ 40; omega) hr6) rfl rfl rfl (by decide) rfl (am_cnt rfl) (fun U hU => ?_)
    refine r_aload_n rfl rfl ?_
    refine r_iload_n rfl rfl ?_
    refine r_sipush rfl ?_
    refine r_iadd rfl ?_
    rw [dd]
    refine r_callVE rfl (ct_X5_putOff (hU.2 _ rfl) fdl) rfl rfl rfl (by decide) rfl (am_cnt rfl) (fun V hV => ?_)
    refine r_aload_n rfl rfl ?_
    refine r_iconst rfl ?_
    refine r_putZ rfl rfl (by decide) (by decide) rfl (by simp) ?_
    refine r_iconst rfl ?_
    refine r_zret rfl rfl (by simp) ?_
    exact ⟨rfl, _, rfl, fin U V cm (frR_t f1 hU.1) hV.1 (hV.2 _ rfl)⟩
  refine r_aload_n rfl rfl ?_
  refine r_getI rfl rfl (by decide) (by decide) rfl ?_
  refine r_if_lt rfl (fun h4 => ?_) (fun h4 => ?_)
  · exact absurd h4 w1
  · refine r_aload_n rfl rfl ?_
    refine r_getI rfl rfl (by decide) (by decide) rfl ?_
    refine r_iconst rfl ?_
    refine r_icmp_le rfl (fun h12 => ?_) (fun h12 => ?_)
    · refine r_aload_n rfl rfl ?_
      refine r_callVE rfl (ct_X5_finishNumber h hfn hl3) rfl rfl rfl (by decide) rfl (am_cnt rfl) (fun T hT => ?_)
      refine r_iload_n rfl rfl ?_
      refine r_bipush rfl ?_
      refine r_icmp_ne rfl (fun h24 => ?_) (fun h24 => ?_)
      · refine r_iload_n rfl rfl ?_
        refine r_sipush rfl ?_
        refine r_iadd rfl ?_
        rw [dd]
        refine r_callS rfl (by decide) ct_X5_rankOf rfl rfl (am_cnt rfl) ?_
        refine r_istore_n (L2 := [_, _, _]) rfl rfl ?_
        rw [hr]
        refine r_iload_n rfl rfl ?_
        refine r_if_eq rfl (fun h42 => ?_) (fun h42 => ?_)
        · exact absurd (r0.mp h42) hr0
        · refine r_iload_n rfl rfl ?_
          refine r_iconst rfl ?_
          refine r_icmp_gt rfl (fun h47 => ?_) (fun h47 => ?_)
          · exact absurd (r5.mpr hr5) (Int32.not_le.mpr h47)
          · refine r_iload_n rfl rfl ?_
            refine r_iconst rfl ?_
            refine r_icmp_ne rfl (fun h52 => ?_) (fun h52 => ?_)
            · have q3 : ¬ r = 3 := fun z => h52 (r3.mpr z)
              have bx : (0 : Int32) = b01 (decide (r = 3) = true) := by rw [b01_f (fun z => q3 (of_decide_eq_true z))]
              refine r_iload_n rfl rfl ?_
              refine r_iconst rfl ?_
              refine r_icmp_gt rfl (fun h71 => ?_) (fun h71 => ?_)
              · exact go T s.2.2.2.1 none hT.1 (hT.2 _ rfl) (by rw [if_neg (fun z => absurd (r33.mpr z) (Int32.not_le.mpr h71))])
              · have q4 : r ≤ 3 := r33.mp (Int32.not_lt.mp h71)
                refine r_aload_n rfl rfl ?_
                refine r_getC rfl rfl (by decide) (by decide) rfl ?_
                refine r_aload_n rfl rfl ?_
                refine r_getI rfl rfl (by decide) (by decide) rfl ?_
                rw [show gI T 67 6 = nI s.2.2.1 from (hT.2 _ rfl).2.2.2.2.1]
                refine r_iload_n rfl rfl ?_
                refine r_iconst rfl ?_
                refine r_icmp_ne rfl (fun h84 => ?_) (fun h84 => ?_)
                · refine r_iconst rfl ?_
                  refine r_bast rfl rfl (by first | decide | assumption) (by first | exact s1 | exact s2 | simp) (by first | exact s1 | exact s2 | simp) (by first | exact s1 | exact s2 | simp) ?_
                  rw [bd]
                  exact go _ _ none (frR_u hT.1 (by simp)) (mid T _ (decide (r = 3)) (hT.2 _ rfl) bx) (by rw [if_pos q4])
                · exact absurd (r3.mp h84) q3
            · have q3 : r = 3 := r3.mp h52
              have bx : (1 : Int32) = b01 (decide (r = 3) = true) := by rw [b01_t (decide_eq_true q3)]
              refine r_aload_n rfl rfl ?_
              refine r_getC rfl rfl (by decide) (by decide) rfl ?_
              have t5 : gI T 67 6 = nI s.2.2.1 := (hT.2 _ rfl).2.2.2.2.1
              refine r_aload_n rfl rfl ?_
              refine r_getI rfl rfl (by decide) (by decide) rfl ?_
              rw [t5]
              refine r_bald rfl rfl (by first | decide | assumption) (by first | exact s1 | exact s2 | simp) (by first | exact s1 | exact s2 | simp) ?_
              rw [bd, show gI T 73 s.2.2.1 = b01 (s.2.2.2.1 s.2.2.1 = true) from (hT.2 _ rfl).2.2.2.2.2.1 s.2.2.1 (Nat.le_refl _)]
              refine r_if_eq rfl (fun h64 => ?_) (fun h64 => ?_)
              · refine r_iload_n rfl rfl ?_
                refine r_iconst rfl ?_
                refine r_icmp_gt rfl (fun h71 => ?_) (fun h71 => ?_)
                · exact go T s.2.2.2.1 none hT.1 (hT.2 _ rfl) (by rw [if_neg (fun z => absurd (r33.mpr z) (Int32.not_le.mpr h71))])
                · have q4 : r ≤ 3 := r33.mp (Int32.not_lt.mp h71)
                  refine r_aload_n rfl rfl ?_
                  refine r_getC rfl rfl (by decide) (by decide) rfl ?_
                  refine r_aload_n rfl rfl ?_
                  refine r_getI rfl rfl (by decide) (by decide) rfl ?_
                  rw [show gI T 67 6 = nI s.2.2.1 from (hT.2 _ rfl).2.2.2.2.1]
                  refine r_iload_n rfl rfl ?_
                  refine r_iconst rfl ?_
                  refine r_icmp_ne rfl (fun h84 => ?_) (fun h84 => ?_)
                  · exact absurd (r3.mpr q3) h84
                  · refine r_iconst rfl ?_
                    refine r_goto rfl ?_
                    refine r_bast rfl rfl (by first | decide | assumption) (by first | exact s1 | exact s2 | simp) (by first | exact s1 | exact s2 | simp) (by first | exact s1 | exact s2 | simp) ?_
                    rw [bd]
                    exact go _ _ none (frR_u hT.1 (by simp)) (mid T _ (decide (r = 3)) (hT.2 _ rfl) bx) (by rw [if_pos q4])
              · exfalso
                exact h64 (b01_f fun z => hb (Or.inr (Or.inr ⟨q3, z⟩)))
      · exact absurd h24 n1
    · exact absurd w2 h12
