/-! The whole text read into a formula. -/
theorem ct_X5_take {d : Nat} {S : am_S} {s : RSt} {ch j : Nat} (h : RdOk S s) (hch : ch < 256) (hj : sgOk j) (hl : Lim s 39) : am_CE (d + 5) iX5_take [.ref 67, .int (nI ch), .ref (1000000 + j)] S (some (.int (b01 ((stpR (am_str j) s ch).isSome = true)))) (RdP S (stpR (am_str j) s ch)) := by
  refine am_CE_in mmX5_take rfl rfl rfl ?_
  have c1 : nI ch < 48 ↔ ch < 48 := nI_ltI (b := 48) (by omega) (by omega)
  have c2 : (57 : Int32) < nI ch ↔ 57 < ch := nI_ltI (a := 57) (by omega) (by omega)
  have hw := rdOk_wt h
  have hl2 := hl
  obtain ⟨l1, l2, l3⟩ := hl2
  by_cases hd : 48 ≤ ch ∧ ch ≤ 57
  · have e0 : stpR (am_str j) s ch = tkD s (ch - 48) := if_pos hd
    have e1 : nI ch - 48 = nI (ch - 48) := pk_sub (b := 48) hd.1
    rw [e0]
    refine r_iload_n rfl rfl ?_
    refine r_bipush rfl ?_
    refine r_icmp_lt rfl (fun h3 => ?_) (fun h3 => ?_)
    · exact absurd (c1.mp h3) (by omega)
    · refine r_iload_n rfl rfl ?_
      refine r_bipush rfl ?_
      refine r_icmp_gt rfl (fun h9 => ?_) (fun h9 => ?_)
      · exact absurd (c2.mp h9) (by omega)
      · refine r_aload_n rfl rfl ?_
        refine r_iload_n rfl rfl ?_
        refine r_bipush rfl ?_
        refine r_isub rfl ?_
        rw [e1]
        refine r_callVE rfl (ct_X5_takeDigit h (by omega) l3) rfl rfl rfl (by decide) rfl (am_cnt rfl) (fun T hT => ?_)
        refine r_zret rfl rfl (by exact b01_or) ?_
        exact ⟨rfl, _, rfl, hT⟩
  · by_cases hwt : s.2.2.2.2.2.2 = true
    · have e0 : stpR (am_str j) s ch = tkA (am_str j) s ch := by rw [stpR, if_neg hd, if_pos hwt]
      have w0 : ¬ gI S 67 9 = 0 := by rw [hw, b01_t hwt]; decide
      rw [e0]
      refine r_iload_n rfl rfl ?_
      refine r_bipush rfl ?_
      refine r_icmp_lt rfl (fun h3 => ?_) (fun h3 => ?_)
      · refine r_aload_n rfl rfl ?_
        refine r_getI rfl rfl (by decide) (by decide) rfl ?_
        refine r_if_eq rfl (fun h25 => ?_) (fun h25 => ?_)
        · exact absurd h25 w0
        · refine r_aload_n rfl rfl ?_
          refine r_iload_n rfl rfl ?_
          refine r_aload_n rfl rfl ?_
          refine r_callVE rfl (ct_X5_takeAhead h hch hj (by omega) l2) rfl rfl rfl (by decide) rfl (am_cnt rfl) (fun T hT => ?_)
          refine r_goto rfl ?_
          refine r_zret rfl rfl (by exact b01_or) ?_
          exact ⟨rfl, _, rfl, hT⟩
      · refine r_iload_n rfl rfl ?_
        refine r_bipush rfl ?_
        refine r_icmp_gt rfl (fun h9 => ?_) (fun h9 => ?_)
        · refine r_aload_n rfl rfl ?_
          refine r_getI rfl rfl (by decide) (by decide) rfl ?_
          refine r_if_eq rfl (fun h25 => ?_) (fun h25 => ?_)
          · exact absurd h25 w0
          · refine r_aload_n rfl rfl ?_
            refine r_iload_n rfl rfl ?_
            refine r_aload_n rfl rfl ?_
            refine r_callVE rfl (ct_X5_takeAhead h hch hj (by omega) l2) rfl rfl rfl (by decide) rfl (am_cnt rfl) (fun T hT => ?_)
            refine r_goto rfl ?_
            refine r_zret rfl rfl (by exact b01_or) ?_
            exact ⟨rfl, _, rfl, hT⟩
        · exact absurd ⟨Nat.le_of_not_lt (fun z => h3 (c1.mpr z)), Nat.le_of_not_lt (fun z => h9 (c2.mpr z))⟩ hd
    · have e0 : stpR (am_str j) s ch = tkB s ch := by rw [stpR, if_neg hd, if_neg hwt]
      have w0 : gI S 67 9 = 0 := by rw [hw, b01_f hwt]
      rw [e0]
      refine r_iload_n rfl rfl ?_
      refine r_bipush rfl ?_
      refine r_icmp_lt rfl (fun h3 => ?_) (fun h3 => ?_)
      · refine r_aload_n rfl rfl ?_
        refine r_getI rfl rfl (by decide) (by decide) rfl ?_
        refine r_if_eq rfl (fun h25 => ?_) (fun h25 => ?_)
        · refine r_aload_n rfl rfl ?_
          refine r_iload_n rfl rfl ?_
          refine r_callVE rfl (ct_X5_takeBehind h hch hl) rfl rfl rfl (by decide) rfl (am_cnt rfl) (fun T hT => ?_)
          refine r_zret rfl rfl (by exact b01_or) ?_
          exact ⟨rfl, _, rfl, hT⟩
        · exact absurd w0 h25
      · refine r_iload_n rfl rfl ?_
        refine r_bipush rfl ?_
        refine r_icmp_gt rfl (fun h9 => ?_) (fun h9 => ?_)
        · refine r_aload_n rfl rfl ?_
          refine r_getI rfl rfl (by decide) (by decide) rfl ?_
          refine r_if_eq rfl (fun h25 => ?_) (fun h25 => ?_)
          · refine r_aload_n rfl rfl ?_
            refine r_iload_n rfl rfl ?_
            refine r_callVE rfl (ct_X5_takeBehind h hch hl) rfl rfl rfl (by decide) rfl (am_cnt rfl) (fun T hT => ?_)
            refine r_zret rfl rfl (by exact b01_or) ?_
            exact ⟨rfl, _, rfl, hT⟩
          · exact absurd w0 h25
        · exact absurd ⟨Nat.le_of_not_lt (fun z => h3 (c1.mpr z)), Nat.le_of_not_lt (fun z => h9 (c2.mpr z))⟩ hd
abbrev rd0 : RSt := ([], [], 0, fun _ => false, 0, 0, true)
theorem stk_nil {f : Nat → Int32} : Stk f [] := fun i hi => absurd hi (Nat.not_lt_zero i)
theorem ct_X5_startAnew {d : Nat} {S : am_S} : am_CE (d + 1) iX5_startAnew [.ref 67] S (none) (fun T => FrR S T ∧ RdOk T rd0) := by
  refine am_CE_in mmX5_startAnew rfl rfl rfl ?_
  refine r_aload_n rfl rfl ?_
  refine r_getC rfl rfl (by decide) (by decide) rfl ?_
  refine r_iconst rfl ?_
  refine r_putI rfl rfl (by decide) (by decide) rfl ?_
  refine r_aload_n rfl rfl ?_
  refine r_iconst rfl ?_
  refine r_putI rfl rfl (by decide) (by decide) rfl ?_
  refine r_aload_n rfl rfl ?_
  refine r_iconst rfl ?_
  refine r_putI rfl rfl (by decide) (by decide) rfl ?_
  refine r_aload_n rfl rfl ?_
  refine r_iconst rfl ?_
  refine r_putI rfl rfl (by decide) (by decide) rfl ?_
  refine r_aload_n rfl rfl ?_
  refine r_getC rfl rfl (by decide) (by decide) rfl ?_
  refine r_iconst rfl ?_
  refine r_iconst rfl ?_
  refine r_bast rfl rfl (by first | decide | assumption) (by first | decide | simp) (by first | decide | simp) (by first | decide | simp) ?_
  refine r_aload_n rfl rfl ?_
  refine r_iconst rfl ?_
  refine r_putZ rfl rfl (by decide) (by decide) rfl (by first | decide | simp) ?_
  refine r_vret rfl ?_
  refine ⟨rfl, _, rfl, frR_u (frR_u (frR_u (frR_u (frR_u (frR_u frR_0 (by simp)) (by simp)) (by simp)) (by simp)) (by simp)) (by simp), ?_, ?_, ?_, ?_, ?_, ?_, ?_, ?_, ?_⟩
  · simp [gI_uI]
    rfl
  · exact stk_nil
  · simp [gI_uI]
    rfl
  · exact stk_nil
  · simp [gI_uI]
    rfl
  · intro i hi
    obtain rfl : i = 0 := Nat.le_zero.mp hi
    simp [gI_uI, b01]
  · intro z
    exact absurd z (Nat.lt_irrefl 0)
  · simp [gI_uI]
    rfl
  · simp [gI_uI, b01]
theorem lim_step {sg : List Nat} {s s2 : RSt} {ch p : Nat} (h : Lim s p) (he : stpR sg s ch = some s2) : Lim s2 (p + 1) := by
  obtain ⟨l1, l2, l3⟩ := h
  unfold stpR at he
  split at he
  · unfold tkD at he
    split at he
    · cases he
      refine ⟨?_, l2, by simp⟩
      simp only
      split at l1 <;> simp <;> omega
    · split at he
      · cases he
      · rename_i h1 h2
        cases he
        refine ⟨?_, l2, by simp only; omega⟩
        simp only
        rw [if_pos (by omega)] at l1
        rw [if_pos (by omega)]
        omega
  · split at he
    · unfold tkA at he
      split at he
      · cases he
        refine ⟨?_, l2, l3⟩
        simp only [List.length_cons]
        omega
      · split at he
        · split at he
          · cases he
            refine ⟨?_, by simp only; omega, l3⟩
            simp only [List.length_cons]
            omega
          · cases he
        · unfold tkS at he
          split at he
          · cases he
          · cases he
            refine ⟨?_, l2, l3⟩
            simp only [List.length_cons]
            omega
    · have fl := fnm_len s.1 s.2.2.2.2.1 s.2.2.2.2.2.1
      unfold tkB at he
      split at he
      · split at he
        · cases he
        · cases he
          have fd := fdn_len 1 s.2.1 (fnm s.1 s.2.2.2.2.1 s.2.2.2.2.2.1)
          refine ⟨?_, by simp only; omega, by simp⟩
          simp only [List.length_tail, Nat.lt_irrefl, if_false]
          omega
      · split at he
        · cases he
        · cases he
          have fd := fdn_len (fRank (nI (ch + 2000))) s.2.1 (fnm s.1 s.2.2.2.2.1 s.2.2.2.2.2.1)
          refine ⟨?_, l2, by simp⟩
          simp only [List.length_cons, Nat.lt_irrefl, if_false]
          omega
/-- k signs from the p-th on: where it stops, what stands then -/
def rdGo (sg : List Nat) (f : Nat → Nat) : Nat → Nat → RSt → Nat × Option RSt
  | 0, p, s => (p, some s)
  | k + 1, p, s => match stpR sg s (f p) with
    | none => (p, none)
    | some s2 => rdGo sg f k (p + 1) s2
abbrev rdBad (len : Nat) (s : RSt) : Prop := 40 < len ∨ s.2.2.2.2.2.2 = true ∨ 0 < s.2.2.1
def rdE (len p : Nat) : Option RSt → Int32
  | none => -1 - nI p
  | some s => if rdBad len s then -1 - nI (min 40 len) else 0
def rdC (len : Nat) : Option RSt → Option (List Int32)
  | none => none
  | some s => if rdBad len s then none else some (fdn 0 (fnm s.1 s.2.2.2.2.1 s.2.2.2.2.2.1) s.2.1).1
def rdR (sg : List Nat) (f : Nat → Nat) (len : Nat) : Nat × Option RSt := rdGo sg f (min 40 len) 0 rd0
def rdAns (sg : List Nat) (f : Nat → Nat) (len : Nat) : Int32 := if len = 0 then 0 else rdE len (rdR sg f len).1 (rdR sg f len).2
def rdCod (sg : List Nat) (f : Nat → Nat) (len : Nat) : Option (List Int32) := if len = 0 then some [] else rdC len (rdR sg f len).2
def TxOk (S : am_S) (f : Nat → Nat) (len : Nat) : Prop := gI S 67 1 = nI len ∧ len ≤ 60 ∧ ∀ i, i < len → gI S 68 i = nI (f i) ∧ f i < 256
theorem txOk_fr {S T : am_S} {f : Nat → Nat} {len : Nat} (h : TxOk S f len) (hF : FrR S T) : TxOk T f len := ⟨hF.2.1.trans h.1, h.2.1, fun i hi => by rw [hF.1 68 (by decide) (by decide) (by decide) (by decide) (by decide)]; exact h.2.2 i hi⟩
def RdF (S : am_S) (o : Nat) (c : Option (List Int32)) (T : am_S) : Prop := (∀ a, a ≠ 67 → a ≠ 69 → a ≠ 70 → a ≠ 72 → a ≠ 73 → a ≠ o → a ≠ o + 1 → gI T a = gI S a) ∧ gI T 67 1 = gI S 67 1 ∧ (∀ o, gJ T o = gJ S o) ∧ (∀ c, gR T c = gR S c) ∧ (c = none → gI T o = gI S o ∧ gI T (o + 1) = gI S (o + 1)) ∧ ∀ l, c = some l → gI T o 1 = nI l.length ∧ l.length ≤ 40 ∧ Stk (gI T (o + 1)) l
theorem rdF_fail {S T : am_S} {o : Nat} (h : FrR S T) (ho : o + 2 < 67 ∨ 73 < o) : RdF S o none T := ⟨fun a b c e f g _ _ => h.1 a b c e f g, h.2.1, h.2.2.1, h.2.2.2, fun _ => ⟨h.1 o (by omega) (by omega) (by omega) (by omega) (by omega), h.1 (o + 1) (by omega) (by omega) (by omega) (by omega) (by omega)⟩, fun l z => by cases z⟩
theorem rdF_cpy {S T : am_S} {s : RSt} {o : Nat} (h : FrR S T) (ho : o + 2 < 67 ∨ 73 < o) (hs : RdOk T s) (hl : s.1.length ≤ 40) : RdF S o (some s.1) (cpyF T o 69) := by
  refine ⟨fun a b c e f g x y => ?_, ?_, fun a => h.2.2.1 a, fun c => h.2.2.2 c, fun z => by (cases z), fun l z => ?_⟩
  · rw [cpyF, gI_rI_ne y, gI_uI_ne x, h.1 a b c e f g]
  · rw [cpyF, gI_rI_ne (by omega), gI_uI_ne (by omega), h.2.1]
  · cases z
    refine ⟨?_, hl, fun i hi => ?_⟩
    · rw [cpyF, gI_rI_ne (by omega), gI_uI, if_pos rfl, if_pos rfl, hs.1]
    · rw [cpyF, gI_rI_eq, pk_cpy_in (by omega) (by omega), show 0 + (i - 0) = i by omega]
      exact hs.2.1 i hi
theorem ct_X5_read {d : Nat} {S : am_S} {f : Nat → Nat} {len j o : Nat} (hx : TxOk S f len) (hj : sgOk j) (hF : IsF S o) (ho : o + 2 < 67 ∨ 73 < o) : am_CE (d + 6) iX5_read [.ref 67, .ref (1000000 + j), .ref o] S (some (.int (rdAns (am_str j) f len))) (RdF S o (rdCod (am_str j) f len)) := by
  refine am_CE_in mmX5_read rfl rfl rfl ?_
  have hlen := hx.2.1
  have hGF : ∀ T : am_S, (∀ c, gR T c = gR S c) → IsF T o := fun T hT => by unfold IsF; rw [hT 0]; exact hF
  have kn : ∀ T : am_S, (∀ c, gR T c = gR S c) → am_kn (gR T 0) o = (1, 0) := fun T hT => (hGF T hT).1
  by_cases hl0 : len = 0
  · have e1 : rdAns (am_str j) f len = 0 := if_pos hl0
    have e2 : rdCod (am_str j) f len = some [] := if_pos hl0
    have w1 : ∀ T, FrR S T → gI T 67 1 ≤ 0 := fun T h => by rw [h.2.1, hx.1, hl0]; decide
    rw [e1, e2]
    refine r_aload_n rfl rfl ?_
    refine r_callVE rfl ct_X5_startAnew rfl rfl rfl (by decide) rfl (am_cnt rfl) (fun T hT => ?_)
    refine r_aload_n rfl rfl ?_
    refine r_getI rfl rfl (by decide) (by decide) rfl ?_
    refine r_if_le rfl (fun h8 => ?_) (fun h8 => ?_)
    · refine r_aload_n rfl rfl ?_
      refine r_aload_n rfl rfl ?_
      refine r_getC rfl rfl (by decide) (by decide) rfl ?_
      refine r_callV rfl (ct_X1_copy (hGF T hT.1.2.2.2) (o := o) (f := 69) ⟨rfl, rfl, rfl⟩ (by omega)) rfl rfl (kn _ hT.1.2.2.2) (by decide) rfl (am_cnt rfl) ?_
      refine r_iconst rfl ?_
      refine r_iret rfl rfl ?_
      exact ⟨rfl, _, rfl, rdF_cpy hT.1 ho hT.2 (by decide)⟩
    · exact absurd (w1 T hT.1) h8
  have e1 : rdAns (am_str j) f len = rdE len (rdR (am_str j) f len).1 (rdR (am_str j) f len).2 := if_neg hl0
  have e2 : rdCod (am_str j) f len = rdC len (rdR (am_str j) f len).2 := if_neg hl0
  generalize hR : rdR (am_str j) f len = R at e1 e2
  have mn : (if (40 : Int32) < nI len then (40 : Int32) else nI len) = nI (min 40 len) := min_nI (a := 40) (by omega) (by omega)
  have mk : min 40 len ≤ 40 := Nat.min_le_left _ _
  have mk2 : min 40 len ≤ len := Nat.min_le_right _ _
  have loop : ∀ (k : Nat) (p : Nat) (T : am_S) (s : RSt), (p ≤ min 40 len) → (min 40 len < p + k) → (FrR S T) → (RdOk T s) → (Lim s p) → (rdGo (am_str j) f (min 40 len - p) p s = R) → am_Ex (am_Call am_MT (d + 5)) mmX5_read none (fun r1 G1 => r1 = (some (.int (rdAns (am_str j) f len))) ∧ ∃ S2, G1 = am_H S2 ∧ (RdF S o (rdCod (am_str j) f len)) S2) (fun _ _ _ _ _ _ => False) 24 [some (.ref 67), some (.ref (1000000 + j)), some (.ref o), some (.int (nI (min 40 len))), some (.int (nI p))] [] (am_H (T)) 0 0 := by
    intro k
    induction k with
    | zero =>
      intro p T s q1 q2 f1 f2 f3 f4
      omega
    | succ k ih =>
      intro p T s q1 q2 f1 f2 f3 f4
      have bp : (nI p).toNatClampNeg = p := nI_clamp (by omega)
      have s1 : 0 ≤ nI p := nI_pos' (by omega)
      have s2 : nI p < Int32.ofNat 60 := nI_lt (by omega) (by omega)
      have tx := txOk_fr hx f1
      by_cases hp : p = min 40 len
      · have w1 : nI (min 40 len) ≤ nI p := nI_le (by omega) (by omega)
        rw [show min 40 len - p = 0 by omega, rdGo] at f4
        have f5 := f4
        subst f4
        have l8 : gI T 67 1 = nI len := tx.1
        have lw : gI T 67 9 = b01 (s.2.2.2.2.2.2 = true) := rdOk_wt f2
        have ld : gI T 67 6 = nI s.2.2.1 := f2.2.2.2.2.1
        obtain ⟨m1, m2, m3⟩ := f3
        have cg : nI (min 40 len) < nI len ↔ 40 < len := by rw [nI_ltI (by omega) (by omega)]; omega
        have bad : rdBad len s → rdE len p (some s) = -1 - nI (min 40 len) ∧ rdC len (some s) = none := fun h => ⟨if_pos h, if_pos h⟩
        have goo : ¬ rdBad len s → rdE len p (some s) = 0 ∧ rdC len (some s) = some (fdn 0 (fnm s.1 s.2.2.2.2.1 s.2.2.2.2.2.1) s.2.1).1 := fun h => ⟨if_neg h, if_neg h⟩
        have hfn : s.1.length < 40 ∨ s.2.2.2.2.2.1 = 0 := by
          by_cases hz : s.2.2.2.2.2.1 = 0
          · exact Or.inr hz
          · rw [if_pos (by omega)] at m1
            exact Or.inl (by omega)
        have fl := fnm_len s.1 s.2.2.2.2.1 s.2.2.2.2.2.1
        have fd := fdn_len 0 s.2.1 (fnm s.1 s.2.2.2.2.1 s.2.2.2.2.2.1)
        refine r_iload rfl rfl ?_
        refine r_iload_n rfl rfl ?_
        refine r_icmp_ge rfl (fun h27 => ?_) (fun h27 => ?_)
        · refine r_aload_n rfl rfl ?_
          refine r_getI rfl rfl (by decide) (by decide) rfl ?_
          refine r_iload_n rfl rfl ?_
          rw [l8]
          refine r_icmp_gt rfl (fun h61 => ?_) (fun h61 => ?_)
          · have hb := bad (Or.inl (cg.mp h61))
            refine r_iconst rfl ?_
            refine r_iload_n rfl rfl ?_
            refine r_isub rfl ?_
            refine r_iret rfl rfl ?_
            exact ⟨by rw [show rdAns (am_str j) f len = _ from e1.trans hb.1], _, rfl, by rw [show rdCod (am_str j) f len = _ from e2.trans hb.2]; exact rdF_fail f1 ho⟩
          · refine r_aload_n rfl rfl ?_
            refine r_getI rfl rfl (by decide) (by decide) rfl ?_
            refine r_if_ne rfl (fun h68 => ?_) (fun h68 => ?_)
            · rw [lw] at h68
              have hb := bad (Or.inr (Or.inl (Decidable.not_not.mp fun z => h68 (b01_f z))))
              refine r_iconst rfl ?_
              refine r_iload_n rfl rfl ?_
              refine r_isub rfl ?_
              refine r_iret rfl rfl ?_
              exact ⟨by rw [show rdAns (am_str j) f len = _ from e1.trans hb.1], _, rfl, by rw [show rdCod (am_str j) f len = _ from e2.trans hb.2]; exact rdF_fail f1 ho⟩
            · refine r_aload_n rfl rfl ?_
              refine r_getI rfl rfl (by decide) (by decide) rfl ?_
              refine r_if_le rfl (fun h75 => ?_) (fun h75 => ?_)
              · rw [ld] at h75
                rw [lw] at h68
                have hg := goo (fun z => z.elim (fun y => h61 (cg.mpr y)) (fun y => y.elim (fun x => absurd h68 (by rw [b01_t x]; decide)) (fun x => absurd h75 (Int32.not_le.mpr (nI_lt (a := 0) x (by omega))))))
                refine r_aload_n rfl rfl ?_
                refine r_callVE rfl (ct_X5_finishNumber f2 hfn m3) rfl rfl rfl (by decide) rfl (am_cnt rfl) (fun U hU => ?_)
                refine r_aload_n rfl rfl ?_
                refine r_iconst rfl ?_
                refine r_callVE rfl (ct_X5_finishDownTo (rk := 0) (hU.2 _ rfl) (by show (fnm s.1 s.2.2.2.2.1 s.2.2.2.2.2.1).length + s.2.1.length ≤ 40; omega) (by omega)) rfl rfl rfl (by decide) rfl (am_cnt rfl) (fun V hV => ?_)
                refine r_aload_n rfl rfl ?_
                refine r_aload_n rfl rfl ?_
                refine r_getC rfl rfl (by decide) (by decide) rfl ?_
                refine r_callV rfl (ct_X1_copy (hGF V (frR_t (frR_t f1 hU.1) hV.1).2.2.2) (o := o) (f := 69) ⟨rfl, rfl, rfl⟩ (by omega)) rfl rfl (kn _ (frR_t (frR_t f1 hU.1) hV.1).2.2.2) (by decide) rfl (am_cnt rfl) ?_
                refine r_iconst rfl ?_
                refine r_iret rfl rfl ?_
                refine ⟨by rw [show rdAns (am_str j) f len = _ from e1.trans hg.1], _, rfl, ?_⟩
                rw [show rdCod (am_str j) f len = _ from e2.trans hg.2]
                exact rdF_cpy (s := ((fdn 0 (fnm s.1 s.2.2.2.2.1 s.2.2.2.2.2.1) s.2.1).1, (fdn 0 (fnm s.1 s.2.2.2.2.1 s.2.2.2.2.2.1) s.2.1).2, s.2.2.1, s.2.2.2.1, s.2.2.2.2.1, 0, s.2.2.2.2.2.2)) (frR_t (frR_t f1 hU.1) hV.1) ho (hV.2 _ rfl) (by show (fdn 0 (fnm s.1 s.2.2.2.2.1 s.2.2.2.2.2.1) s.2.1).1.length ≤ 40; omega)
              · rw [ld] at h75
                have hb := bad (Or.inr (Or.inr ((nI_ltI (a := 0) (by omega) (by omega)).mp (Int32.not_le.mp h75))))
                refine r_iconst rfl ?_
                refine r_iload_n rfl rfl ?_
                refine r_isub rfl ?_
                refine r_iret rfl rfl ?_
                exact ⟨by rw [show rdAns (am_str j) f len = _ from e1.trans hb.1], _, rfl, by rw [show rdCod (am_str j) f len = _ from e2.trans hb.2]; exact rdF_fail f1 ho⟩
        · exact absurd w1 h27
      · have w1 : ¬ nI (min 40 len) ≤ nI p := Int32.not_le.mpr (nI_lt (by omega) (by omega))
        have tp := tx.2.2 p (by omega)
        have tv : gI T 68 (nI p).toNatClampNeg = nI (f p) := by rw [bp, tp.1]
        rw [show min 40 len - p = (min 40 len - (p + 1)) + 1 by omega, rdGo] at f4
        have lm : Lim s 39 := ⟨by have := f3.1; omega, f3.2.1, f3.2.2⟩
        cases hst : stpR (am_str j) s (f p) with
        | none =>
          rw [hst] at f4
          subst f4
          refine r_iload rfl rfl ?_
          refine r_iload_n rfl rfl ?_
          refine r_icmp_ge rfl (fun h27 => ?_) (fun h27 => ?_)
          · exact absurd h27 w1
          · refine r_aload_n rfl rfl ?_
            refine r_aload_n rfl rfl ?_
            refine r_getC rfl rfl (by decide) (by decide) rfl ?_
            refine r_iload rfl rfl ?_
            refine r_iald rfl rfl (by first | decide | assumption) (by first | exact s1 | exact s2) (by first | exact s1 | exact s2) ?_
            rw [tv]
            refine r_aload_n rfl rfl ?_
            refine r_callVE rfl (ct_X5_take f2 tp.2 hj lm) rfl rfl rfl (by decide) rfl (am_cnt rfl) (fun U hU => ?_)
            rw [hst]
            refine r_if_ne rfl (fun h42 => ?_) (fun h42 => ?_)
            · exact absurd (show b01 ((none : Option RSt).isSome = true) = 0 from rfl) h42
            · refine r_iconst rfl ?_
              refine r_iload rfl rfl ?_
              refine r_isub rfl ?_
              refine r_iret rfl rfl ?_
              exact ⟨by rw [show rdAns (am_str j) f len = -1 - nI p from e1], _, rfl, by rw [show rdCod (am_str j) f len = none from e2]; exact rdF_fail (frR_t f1 hU.1) ho⟩
        | some w2 =>
          rw [hst] at f4
          refine r_iload rfl rfl ?_
          refine r_iload_n rfl rfl ?_
          refine r_icmp_ge rfl (fun h27 => ?_) (fun h27 => ?_)
          · exact absurd h27 w1
          · refine r_aload_n rfl rfl ?_
            refine r_aload_n rfl rfl ?_
            refine r_getC rfl rfl (by decide) (by decide) rfl ?_
            refine r_iload rfl rfl ?_
            refine r_iald rfl rfl (by first | decide | assumption) (by first | exact s1 | exact s2) (by first | exact s1 | exact s2) ?_
            rw [tv]
            refine r_aload_n rfl rfl ?_
            refine r_callVE rfl (ct_X5_take f2 tp.2 hj lm) rfl rfl rfl (by decide) rfl (am_cnt rfl) (fun U hU => ?_)
            rw [hst]
            refine r_if_ne rfl (fun h42 => ?_) (fun h42 => ?_)
            · refine r_iinc (L2 := [_, _, _, _, _]) rfl rfl rfl ?_
              refine r_goto rfl ?_
              rw [nI_1]
              exact ih (p + 1) U w2 (by omega) (by omega) (frR_t f1 hU.1) (hU.2 w2 hst) (lim_step f3 hst) f4
            · exact absurd h42 (show ¬ b01 ((some w2 : Option RSt).isSome = true) = 0 by rw [b01_t (P := (some w2 : Option RSt).isSome = true) rfl]; decide)
  have wz : ∀ T, FrR S T → ¬ gI T 67 1 ≤ 0 := fun T h => by rw [h.2.1, hx.1]; exact Int32.not_le.mpr (nI_lt (a := 0) (by omega) (by omega))
  refine r_aload_n rfl rfl ?_
  refine r_callVE rfl ct_X5_startAnew rfl rfl rfl (by decide) rfl (am_cnt rfl) (fun T hT => ?_)
  refine r_aload_n rfl rfl ?_
  refine r_getI rfl rfl (by decide) (by decide) rfl ?_
  refine r_if_le rfl (fun h8 => ?_) (fun h8 => ?_)
  · exact absurd h8 (wz T hT.1)
  · refine r_aload_n rfl rfl ?_
    refine r_getI rfl rfl (by decide) (by decide) rfl ?_
    refine r_bipush rfl ?_
    rw [show gI T 67 1 = nI len from (hT.1.2.1).trans hx.1]
    refine r_min rfl (am_cnt rfl) ?_
    rw [mn]
    refine r_istore_n (L2 := [_, _, _, _, _]) rfl rfl ?_
    refine r_iconst rfl ?_
    refine r_istore (L2 := [_, _, _, _, _]) rfl rfl ?_
    exact loop 41 0 T rd0 (by omega) (by omega) hT.1 hT.2 ⟨by decide, by decide, by decide⟩ hR
theorem ct_X10_rule_no {d : Nat} {S : am_S} {i : Int32} (h : i < 0 ∨ 12 ≤ i) : am_CT (d + 7) iX10_rule [.ref 0, .int i] S (some (.int (-100))) (uI S 67 1 0) := by
  refine am_CT_in mmX10_rule rfl rfl rfl ?_
  refine r_bipush rfl ?_
  refine r_istore_n (L2 := [_, _, _]) rfl rfl ?_
  refine r_iload_n rfl rfl ?_
  refine r_if_lt rfl (fun h4 => ?_) (fun h4 => ?_)
  · refine r_aload_n rfl rfl ?_
    refine r_getC rfl rfl (by decide) (by decide) rfl ?_
    refine r_iconst rfl ?_
    refine r_putI rfl rfl (by decide) (by decide) rfl ?_
    refine r_iload_n rfl rfl ?_
    refine r_iret rfl rfl ?_
    exact ⟨rfl, rfl⟩
  · refine r_iload_n rfl rfl ?_
    refine r_bipush rfl ?_
    refine r_icmp_ge rfl (fun h10 => ?_) (fun h10 => ?_)
    · refine r_aload_n rfl rfl ?_
      refine r_getC rfl rfl (by decide) (by decide) rfl ?_
      refine r_iconst rfl ?_
      refine r_putI rfl rfl (by decide) (by decide) rfl ?_
      refine r_iload_n rfl rfl ?_
      refine r_iret rfl rfl ?_
      exact ⟨rfl, rfl⟩
    · exact absurd h (fun z => z.elim h4 h10)
def RdF0 (S : am_S) (o : Nat) (c : Option (List Int32)) (T : am_S) : Prop := ∃ T1, RdF S o c T1 ∧ T = uI T1 67 1 0
theorem ct_X10_rule_ok {d : Nat} {S : am_S} {f : Nat → Nat} {len i : Nat} (hx : TxOk S f len) (hi : i < 12) : am_CE (d + 7) iX10_rule [.ref 0, .int (nI i)] S (some (.int (rdAns (am_str 0) f len))) (RdF0 S (18 + 3 * i) (rdCod (am_str 0) f len)) := by
  refine am_CE_in mmX10_rule rfl rfl rfl ?_
  have bi : (nI i).toNatClampNeg = i := nI_clamp (by omega)
  have s1 : 0 ≤ nI i := nI_pos' (by omega)
  have s2 : nI i < 12 := nI_lt (b := 12) hi (by omega)
  refine r_bipush rfl ?_
  refine r_istore_n (L2 := [_, _, _]) rfl rfl ?_
  refine r_iload_n rfl rfl ?_
  refine r_if_lt rfl (fun h4 => ?_) (fun h4 => ?_)
  · exact absurd s1 (Int32.not_le.mpr h4)
  · refine r_iload_n rfl rfl ?_
    refine r_bipush rfl ?_
    refine r_icmp_ge rfl (fun h10 => ?_) (fun h10 => ?_)
    · exact absurd s2 (Int32.not_lt.mpr h10)
    · refine r_aload_n rfl rfl ?_
      refine r_getC rfl rfl (by decide) (by decide) rfl ?_
      refine r_ldcS rfl ?_
      refine r_aload_n rfl rfl ?_
      refine r_getC rfl rfl (by decide) (by decide) rfl ?_
      refine r_getC rfl rfl (by decide) (by decide) rfl ?_
      refine r_iload_n rfl rfl ?_
      refine r_aaldF rfl rfl (by first | exact s1 | exact s2) (by first | exact s1 | exact s2) ?_
      rw [bi]
      refine r_callVE rfl (ct_X5_read (j := 0) hx sg0 (isF_form hi) (by omega)) rfl rfl rfl (by decide) rfl (am_cnt rfl) (fun T hT => ?_)
      refine r_istore_n (L2 := [_, _, _]) rfl rfl ?_
      refine r_aload_n rfl rfl ?_
      refine r_getC rfl rfl (by decide) (by decide) rfl ?_
      refine r_iconst rfl ?_
      refine r_putI rfl rfl (by decide) (by decide) rfl ?_
      refine r_iload_n rfl rfl ?_
      refine r_iret rfl rfl ?_
      exact ⟨rfl, _, rfl, T, hT, rfl⟩
def PayF (S : am_S) (c : Option (List Int32)) (v : Nat → Int32) (T : am_S) : Prop := (∀ a, (a < 67 ∨ a = 68 ∨ a = 71 ∨ (73 < a ∧ a < 88) ∨ 96 < a ∨ (92 ≤ a ∧ a ≤ 95)) → gI T a = gI S a) ∧ gI T 67 1 = 0 ∧ (∀ o, gJ T o = gJ S o) ∧ (∀ c, gR T c = gR S c) ∧ (c = none → gI T 88 = gI S 88 ∧ gI T 89 = gI S 89 ∧ gI T 91 = gI S 91) ∧ ∀ l, c = some l → gI T 88 1 = nI l.length ∧ l.length ≤ 40 ∧ Stk (gI T 89) l ∧ ∀ a, a < 81 → gI T 91 a = v a
theorem rdE_0 {len p : Nat} {r : Option RSt} (hp : p ≤ 40) : rdE len p r = 0 ↔ ∃ l, rdC len r = some l := by
  have neg : ∀ q, q ≤ 40 → ¬ (-1 : Int32) - nI q = 0 := fun q hq z => by
    have h1 : nI q = -1 := by grind
    have h2 := nI_pos' (n := q) (by omega)
    rw [h1] at h2
    exact absurd h2 (by decide)
  match r with
  | none => exact ⟨fun z => absurd z (neg p hp), fun ⟨l, hl⟩ => by cases hl⟩
  | some s =>
    have e1 : rdE len p (some s) = if rdBad len s then -1 - nI (min 40 len) else 0 := rfl
    have e2 : rdC len (some s) = if rdBad len s then none else some (fdn 0 (fnm s.1 s.2.2.2.2.1 s.2.2.2.2.2.1) s.2.1).1 := rfl
    rw [e1, e2]
    by_cases h : rdBad len s
    · rw [if_pos h, if_pos h]
      exact ⟨fun z => absurd z (neg _ (Nat.min_le_left _ _)), fun ⟨l, hl⟩ => by cases hl⟩
    · rw [if_neg h, if_neg h]
      exact ⟨fun _ => ⟨_, rfl⟩, fun _ => rfl⟩
theorem rdGo_le {sg : List Nat} {f : Nat → Nat} : ∀ k p s, (rdGo sg f k p s).1 ≤ p + k
  | 0, p, s => Nat.le_refl _
  | k + 1, p, s => by
    unfold rdGo
    split
    · simp only; omega
    · have := rdGo_le (sg := sg) (f := f) k (p + 1) (by assumption)
      omega
theorem rdAns_0 {sg : List Nat} {f : Nat → Nat} {len : Nat} : rdAns sg f len = 0 ↔ ∃ l, rdCod sg f len = some l := by
  unfold rdAns rdCod
  by_cases h : len = 0
  · rw [if_pos h, if_pos h]
    exact ⟨fun _ => ⟨_, rfl⟩, fun _ => rfl⟩
  · rw [if_neg h, if_neg h]
    refine rdE_0 ?_
    have := rdGo_le (sg := sg) (f := f) (min 40 len) 0 rd0
    have := Nat.min_le_left 40 len
    unfold rdR
    omega
theorem ct_X10_pays {d : Nat} {S : am_S} {f : Nat → Nat} {len : Nat} {v : Nat → Int32} (hx : TxOk S f len) (hv : ∀ l, rdCod (am_str 1) f len = some l → ∀ cs g sg at_, Stk cs l → at_ < 81 → sg 0 = nI (at_ / 27) → sg 1 = nI (at_ / 9 % 3) → sg 2 = nI (at_ / 3 % 3) → sg 3 = nI (at_ % 3) → fVal cs sg 4 g l.length = v at_) : am_CE (d + 7) iX10_pays [.ref 0] S (some (.int (rdAns (am_str 1) f len))) (PayF S (rdCod (am_str 1) f len) v) := by
  refine am_CE_in mmX10_pays rfl rfl rfl ?_
  have br := @rdAns_0 (am_str 1) f len
  have fin : ∀ T, RdF S 88 (rdCod (am_str 1) f len) T → ¬ rdAns (am_str 1) f len = 0 → PayF S (rdCod (am_str 1) f len) v (uI T 67 1 0) := fun T hT hn => by
    have hc : rdCod (am_str 1) f len = none := by
      cases h : rdCod (am_str 1) f len with
      | none => rfl
      | some l => exact absurd (br.mpr ⟨l, h⟩) hn
    obtain ⟨t1, t2, t3, t4, t5, t6⟩ := hT
    refine ⟨fun a ha => ?_, by rw [gI_uI, if_pos rfl, if_pos rfl], t3, t4, fun _ => ?_, fun l hl => by rw [hc] at hl; cases hl⟩
    · rw [gI_uI_ne (by omega), t1 a (by omega) (by omega) (by omega) (by omega) (by omega) (by omega) (by omega)]
    · rw [gI_uI_ne (by decide), gI_uI_ne (by decide), gI_uI_ne (by decide)]
      exact ⟨(t5 hc).1, (t5 hc).2, t1 91 (by decide) (by decide) (by decide) (by decide) (by decide) (by decide) (by decide)⟩
  by_cases h0 : rdAns (am_str 1) f len = 0
  · obtain ⟨l, hl⟩ := br.mp h0
    rw [h0]
    have hv2 : ∀ T, RdF S 88 (rdCod (am_str 1) f len) T → ∀ g sg at_, at_ < 81 → sg 0 = nI (at_ / 27) → sg 1 = nI (at_ / 9 % 3) → sg 2 = nI (at_ / 3 % 3) → sg 3 = nI (at_ % 3) → fVal (gI (uI T 67 1 0) 89) sg 4 g l.length = v at_ := fun T hT g sg at_ ha a b c e => by
      rw [gI_uI_ne (by decide)]
      exact hv l hl _ g sg at_ (hT.2.2.2.2.2 l hl).2.2 ha a b c e
    have n88 : ∀ T, RdF S 88 (rdCod (am_str 1) f len) T → gI (uI T 67 1 0) 88 1 = nI l.length ∧ l.length ≤ 40 := fun T hT => by
      rw [gI_uI_ne (by decide)]
      exact ⟨(hT.2.2.2.2.2 l hl).1, (hT.2.2.2.2.2 l hl).2.1⟩
    have fin2 : ∀ T U, RdF S 88 (rdCod (am_str 1) f len) T → ((∀ o, (o < 90 ∨ 96 < o ∨ (92 ≤ o ∧ o ≤ 95)) → gI U o = gI (uI T 67 1 0) o) ∧ (∀ o, gJ U o = gJ (uI T 67 1 0) o) ∧ (∀ c, gR U c = gR (uI T 67 1 0) c) ∧ ∀ a, a < 81 → gI U 91 a = v a) → PayF S (rdCod (am_str 1) f len) v U := fun T U hT hU => by
      obtain ⟨t1, t2, t3, t4, t5, t6⟩ := hT
      obtain ⟨u1, u2, u3, u4⟩ := hU
      refine ⟨fun a ha => ?_, ?_, fun o => by rw [u2 o]; exact t3 o, fun c => by rw [u3 c]; exact t4 c, fun z => by (rw [hl] at z; cases z), fun l2 hl2 => ?_⟩
      · rw [u1 a (by omega), gI_uI_ne (by omega), t1 a (by omega) (by omega) (by omega) (by omega) (by omega) (by omega) (by omega)]
      · rw [u1 67 (by decide), gI_uI, if_pos rfl, if_pos rfl]
      · have t7 := t6 l2 hl2
        rw [u1 88 (by decide), u1 89 (by decide), gI_uI_ne (by decide), gI_uI_ne (by decide)]
        exact ⟨t7.1, t7.2.1, t7.2.2, u4⟩
    refine r_aload_n rfl rfl ?_
    refine r_getC rfl rfl (by decide) (by decide) rfl ?_
    refine r_ldc_wS rfl ?_
    refine r_aload_n rfl rfl ?_
    refine r_getC rfl rfl (by decide) (by decide) rfl ?_
    refine r_getC rfl rfl (by decide) (by decide) rfl ?_
    refine r_callVE rfl (ct_X5_read (j := 1) (o := 88) hx sg1 ⟨rfl, rfl, rfl⟩ (by decide)) rfl rfl rfl (by decide) rfl (am_cnt rfl) (fun T hT => ?_)
    rw [h0]
    refine r_istore_n (L2 := [_, _]) rfl rfl ?_
    refine r_aload_n rfl rfl ?_
    refine r_getC rfl rfl (by decide) (by decide) rfl ?_
    refine r_iconst rfl ?_
    refine r_putI rfl rfl (by decide) (by decide) rfl ?_
    refine r_iload_n rfl rfl ?_
    refine r_if_ne rfl (fun h27 => ?_) (fun h27 => ?_)
    · exact absurd rfl h27
    · refine r_aload_n rfl rfl ?_
      refine r_getC rfl rfl (by decide) (by decide) rfl ?_
      refine r_callVE rfl (ct_X3_tabulate (n88 T hT).1 (n88 T hT).2 (hv2 T hT)) rfl rfl rfl (by decide) rfl (am_cnt rfl) (fun U hU => ?_)
      refine r_iload_n rfl rfl ?_
      refine r_iret rfl rfl ?_
      exact ⟨rfl, _, rfl, fin2 T U hT hU⟩
  · skip
    refine r_aload_n rfl rfl ?_
    refine r_getC rfl rfl (by decide) (by decide) rfl ?_
    refine r_ldc_wS rfl ?_
    refine r_aload_n rfl rfl ?_
    refine r_getC rfl rfl (by decide) (by decide) rfl ?_
    refine r_getC rfl rfl (by decide) (by decide) rfl ?_
    refine r_callVE rfl (ct_X5_read (j := 1) (o := 88) hx sg1 ⟨rfl, rfl, rfl⟩ (by decide)) rfl rfl rfl (by decide) rfl (am_cnt rfl) (fun T hT => ?_)
    refine r_istore_n (L2 := [_, _]) rfl rfl ?_
    refine r_aload_n rfl rfl ?_
    refine r_getC rfl rfl (by decide) (by decide) rfl ?_
    refine r_iconst rfl ?_
    refine r_putI rfl rfl (by decide) (by decide) rfl ?_
    refine r_iload_n rfl rfl ?_
    refine r_if_ne rfl (fun h27 => ?_) (fun h27 => ?_)
    · refine r_iload_n rfl rfl ?_
      refine r_iret rfl rfl ?_
      exact ⟨rfl, _, rfl, fin T hT h0⟩
    · exact absurd h27 h0
