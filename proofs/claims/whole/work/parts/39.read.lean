/-! The text read sign by sign: reader 67, text 68, draft 69 (codes 70), waiting 72, compared 73. -/
section AMSTR
variable {C : am_C} {M : am_M} {scr : Option (Nat × (Nat → Int32))} {Q : Option Value → am_G → Prop} {X : am_P} {pc npc a b u pos pp : Nat} {cv : Int32} {cl : Int64} {L : am_L} {st : List Value} {G : am_G} {nc ns : Nat}
theorem r_slen {n o : Nat} (hk : am_lk (am_mt M) pc = some (pp, .invokevirtual n, npc, a, b, 13, u, pos, cv, cl)) (h1 : 1000000 ≤ o) (h2 : o < 1000012) (hc : (st.map fun v => v.category).sum ≤ 8) (k : am_Ex C M scr Q X npc L (.int (nI (am_str (o - 1000000)).length) :: st) G nc ns) : am_Ex C M scr Q X pc L (.ref o :: st) G nc ns := am_Ex_in (by
  unfold am_step
  rw [hk]
  exact ⟨h1, h2, hc, k⟩)
theorem r_schar {n o : Nat} {i : Int32} (hk : am_lk (am_mt M) pc = some (pp, .invokevirtual n, npc, a, b, 14, u, pos, cv, cl)) (h1 : 1000000 ≤ o) (h2 : o < 1000012) (hi : vp_in i (am_str (o - 1000000)).length) (hc : (st.map fun v => v.category).sum ≤ 8) (k : am_Ex C M scr Q X npc L (.int (nI ((am_str (o - 1000000)).getD i.toNatClampNeg 0)) :: st) G nc ns) : am_Ex C M scr Q X pc L (.int i :: .ref o :: st) G nc ns := am_Ex_in (by
  unfold am_step
  rw [hk]
  exact ⟨h1, h2, hi, hc, k⟩)
theorem r_sidx {n o : Nat} {x : Int32} (hk : am_lk (am_mt M) pc = some (pp, .invokevirtual n, npc, a, b, 16, u, pos, cv, cl)) (h1 : 1000000 ≤ o) (h2 : o < 1000012) (h3 : 0 ≤ x) (h4 : x < 65536) (hc : (st.map fun v => v.category).sum ≤ 8) (k : am_Ex C M scr Q X npc L (.int (am_ixo (am_str (o - 1000000)) x 0) :: st) G nc ns) : am_Ex C M scr Q X pc L (.int x :: .ref o :: st) G nc ns := am_Ex_in (by
  unfold am_step
  rw [hk]
  exact ⟨h1, h2, h3, h4, hc, k⟩)
end AMSTR
/-- a row holds a list, its head uppermost -/
def Stk (f : Nat → Int32) (l : List Int32) : Prop := ∀ i, i < l.length → f i = l.getD (l.length - 1 - i) 0
theorem stk_push {f : Nat → Int32} {l : List Int32} {x : Int32} (h : Stk f l) : Stk (upd f l.length x) (x :: l) := fun i hi => by
  rw [List.length_cons] at hi ⊢
  by_cases he : i = l.length
  · rw [he, pk_us, show l.length + 1 - 1 - l.length = 0 by omega]
    rfl
  · rw [pk_un he, h i (by omega), show l.length + 1 - 1 - i = (l.length - 1 - i) + 1 by omega]
    rfl
theorem stk_top {f : Nat → Int32} {l : List Int32} {x : Int32} (h : Stk f (x :: l)) : f l.length = x := by
  rw [h l.length (by simp), List.length_cons, show l.length + 1 - 1 - l.length = 0 by omega]
  rfl
theorem stk_pop {f : Nat → Int32} {l : List Int32} {x : Int32} (h : Stk f (x :: l)) : Stk f l := fun i hi => by
  rw [h i (by rw [List.length_cons]; omega), List.length_cons, show l.length + 1 - 1 - i = (l.length - 1 - i) + 1 by omega]
  rfl
abbrev RSt : Type := List Int32 × List Int32 × Nat × (Nat → Bool) × Int32 × Nat × Bool
def fRank (c : Int32) : Nat := if c = 2033 ∨ c = 2110 then 6 else if c = 2124 then 1 else if c = 2038 then 2 else if c = 2060 ∨ c = 2061 ∨ c = 2062 then 3 else if c = 2043 ∨ c = 2045 then 4 else if c = 2042 ∨ c = 2047 then 5 else 0
theorem fRank_le (x : Int32) : fRank x ≤ 6 := by
  unfold fRank
  repeat' split
  all_goals omega
def fdn (rk : Nat) : List Int32 → List Int32 → List Int32 × List Int32
  | D, [] => (D, [])
  | D, x :: W => if x = 2040 ∨ fRank x < rk then (D, x :: W) else fdn rk (x :: D) W
def fnm (D : List Int32) (nm : Int32) (dg : Nat) : List Int32 := if 0 < dg then nm :: D else D
def ixN (ch : Nat) : List Nat → Nat → Option Nat
  | [], _ => none
  | c :: t, k => if ch = c then some k else ixN ch t (k + 1)
def tkD (s : RSt) (d : Nat) : Option RSt := if s.2.2.2.2.2.2 = true then some (s.1, s.2.1, s.2.2.1, s.2.2.2.1, nI d, 1, false) else if s.2.2.2.2.2.1 = 0 ∨ 3 ≤ s.2.2.2.2.2.1 then none else some (s.1, s.2.1, s.2.2.1, s.2.2.2.1, s.2.2.2.2.1 * 10 + nI d, s.2.2.2.2.2.1 + 1, s.2.2.2.2.2.2)
def tkS (s : RSt) : Option Nat → Option RSt
  | none => none
  | some i => some (nI (1000 + i) :: s.1, s.2.1, s.2.2.1, s.2.2.2.1, s.2.2.2.2.1, s.2.2.2.2.2.1, false)
def tkA (sg : List Nat) (s : RSt) (ch : Nat) : Option RSt := if ch = 33 ∨ ch = 45 then some (s.1, (if ch = 33 then 2033 else 2110) :: s.2.1, s.2.2) else if ch = 40 then (if s.2.2.1 < 5 then some (s.1, 2040 :: s.2.1, s.2.2.1 + 1, (fun i => if i = s.2.2.1 + 1 then false else s.2.2.2.1 i), s.2.2.2.2) else none) else tkS s (ixN ch sg 0)
def tkB (s : RSt) (ch : Nat) : Option RSt := if ch = 41 then (if s.2.2.1 = 0 then none else some ((fdn 1 (fnm s.1 s.2.2.2.2.1 s.2.2.2.2.2.1) s.2.1).1, (fdn 1 (fnm s.1 s.2.2.2.2.1 s.2.2.2.2.2.1) s.2.1).2.tail, s.2.2.1 - 1, s.2.2.2.1, s.2.2.2.2.1, 0, s.2.2.2.2.2.2)) else if fRank (nI (ch + 2000)) = 0 ∨ 5 < fRank (nI (ch + 2000)) ∨ (fRank (nI (ch + 2000)) = 3 ∧ s.2.2.2.1 s.2.2.1 = true) then none else some ((fdn (fRank (nI (ch + 2000))) (fnm s.1 s.2.2.2.2.1 s.2.2.2.2.2.1) s.2.1).1, nI (ch + 2000) :: (fdn (fRank (nI (ch + 2000))) (fnm s.1 s.2.2.2.2.1 s.2.2.2.2.2.1) s.2.1).2, s.2.2.1, (if fRank (nI (ch + 2000)) ≤ 3 then (fun i => if i = s.2.2.1 then decide (fRank (nI (ch + 2000)) = 3) else s.2.2.2.1 i) else s.2.2.2.1), s.2.2.2.2.1, 0, true)
def stpR (sg : List Nat) (s : RSt) (ch : Nat) : Option RSt := if 48 ≤ ch ∧ ch ≤ 57 then tkD s (ch - 48) else if s.2.2.2.2.2.2 = true then tkA sg s ch else tkB s ch
def RdOk (S : am_S) (s : RSt) : Prop := gI S 69 1 = nI s.1.length ∧ Stk (gI S 70) s.1 ∧ gI S 67 4 = nI s.2.1.length ∧ Stk (gI S 72) s.2.1 ∧ gI S 67 6 = nI s.2.2.1 ∧ (∀ i, i ≤ s.2.2.1 → gI S 73 i = b01 (s.2.2.2.1 i = true)) ∧ (0 < s.2.2.2.2.2.1 → gI S 67 7 = s.2.2.2.2.1) ∧ gI S 67 8 = nI s.2.2.2.2.2.1 ∧ gI S 67 9 = b01 (s.2.2.2.2.2.2 = true)
def Lim (s : RSt) (p : Nat) : Prop := s.1.length + s.2.1.length + (if 0 < s.2.2.2.2.2.1 then 1 else 0) ≤ p ∧ s.2.2.1 ≤ 5 ∧ s.2.2.2.2.2.1 ≤ 3
def FrR (S T : am_S) : Prop := (∀ o, o ≠ 67 → o ≠ 69 → o ≠ 70 → o ≠ 72 → o ≠ 73 → gI T o = gI S o) ∧ gI T 67 1 = gI S 67 1 ∧ (∀ o, gJ T o = gJ S o) ∧ (∀ c, gR T c = gR S c)
def RdP (S : am_S) (r : Option RSt) (T : am_S) : Prop := FrR S T ∧ ∀ s, r = some s → RdOk T s
theorem frR_0 {S : am_S} : FrR S S := ⟨fun _ _ _ _ _ _ => rfl, rfl, fun _ => rfl, fun _ => rfl⟩
theorem frR_t {S T U : am_S} (h : FrR S T) (h2 : FrR T U) : FrR S U := ⟨fun o a b c e f => by rw [h2.1 o a b c e f, h.1 o a b c e f], by rw [h2.2.1, h.2.1], fun o => by rw [h2.2.2.1, h.2.2.1], fun c => by rw [h2.2.2.2, h.2.2.2]⟩
theorem frR_u {S T : am_S} {o k : Nat} {x : Int32} (h : FrR S T) (ho : (o = 67 ∧ k ≠ 1) ∨ o = 69 ∨ o = 70 ∨ o = 72 ∨ o = 73) : FrR S (uI T o k x) := by
  refine ⟨fun a b c e f g => ?_, ?_, fun a => h.2.2.1 a, fun c => h.2.2.2 c⟩
  · rw [gI_uI_ne (by omega), h.1 a b c e f g]
  · rw [← h.2.1]
    rcases ho with ⟨rfl, hk⟩ | rfl | rfl | rfl | rfl
    · rw [gI_uI, if_pos rfl, if_neg (fun z => hk z.symm)]
    · rw [gI_uI_ne (by decide)]
    · rw [gI_uI_ne (by decide)]
    · rw [gI_uI_ne (by decide)]
    · rw [gI_uI_ne (by decide)]
theorem ct_X5_rankOf {d : Nat} {S : am_S} {c : Int32} : am_CT (d + 1) iX5_rankOf [.int c] S (some (.int (nI (fRank c)))) (S) := by
  refine am_CT_in mmX5_rankOf rfl rfl rfl ?_
  by_cases p1 : c = 2033
  · subst p1
    refine r_iload_n rfl rfl ?_
    refine r_sipush rfl ?_
    refine r_icmp_eq rfl (fun h4 => ?_) (fun h4 => ?_)
    · refine r_bipush rfl ?_
      refine r_iret rfl rfl ?_
      exact ⟨rfl, rfl⟩
    · exact absurd rfl h4
  by_cases p2 : c = 2110
  · subst p2
    refine r_iload_n rfl rfl ?_
    refine r_sipush rfl ?_
    refine r_icmp_eq rfl (fun h4 => ?_) (fun h4 => ?_)
    · first | exact absurd h4 (by decide) | exact absurd (by decide) h4
    · refine r_iload_n rfl rfl ?_
      refine r_sipush rfl ?_
      refine r_icmp_ne rfl (fun h11 => ?_) (fun h11 => ?_)
      · exact absurd rfl h11
      · refine r_bipush rfl ?_
        refine r_iret rfl rfl ?_
        exact ⟨rfl, rfl⟩
  refine r_iload_n rfl rfl ?_
  refine r_sipush rfl ?_
  refine r_icmp_eq rfl (fun h => absurd h p1) (fun _ => ?_)
  refine r_iload_n rfl rfl ?_
  refine r_sipush rfl ?_
  refine r_icmp_ne rfl (fun _ => ?_) (fun h => absurd h p2)
  refine r_iload_n rfl rfl ?_
  refine r_sipush rfl ?_
  refine r_isub rfl ?_
  by_cases q0 : c = 2038
  · subst q0
    refine r_lookupT rfl (tgt := 106) (by decide) ?_
    refine r_iconst rfl ?_
    refine r_iret rfl rfl ?_
    exact ⟨rfl, rfl⟩
  by_cases q1 : c = 2042
  · subst q1
    refine r_lookupT rfl (tgt := 112) (by decide) ?_
    refine r_iconst rfl ?_
    refine r_iret rfl rfl ?_
    exact ⟨rfl, rfl⟩
  by_cases q2 : c = 2043
  · subst q2
    refine r_lookupT rfl (tgt := 110) (by decide) ?_
    refine r_iconst rfl ?_
    refine r_iret rfl rfl ?_
    exact ⟨rfl, rfl⟩
  by_cases q3 : c = 2045
  · subst q3
    refine r_lookupT rfl (tgt := 110) (by decide) ?_
    refine r_iconst rfl ?_
    refine r_iret rfl rfl ?_
    exact ⟨rfl, rfl⟩
  by_cases q4 : c = 2047
  · subst q4
    refine r_lookupT rfl (tgt := 112) (by decide) ?_
    refine r_iconst rfl ?_
    refine r_iret rfl rfl ?_
    exact ⟨rfl, rfl⟩
  by_cases q5 : c = 2060
  · subst q5
    refine r_lookupT rfl (tgt := 108) (by decide) ?_
    refine r_iconst rfl ?_
    refine r_iret rfl rfl ?_
    exact ⟨rfl, rfl⟩
  by_cases q6 : c = 2061
  · subst q6
    refine r_lookupT rfl (tgt := 108) (by decide) ?_
    refine r_iconst rfl ?_
    refine r_iret rfl rfl ?_
    exact ⟨rfl, rfl⟩
  by_cases q7 : c = 2062
  · subst q7
    refine r_lookupT rfl (tgt := 108) (by decide) ?_
    refine r_iconst rfl ?_
    refine r_iret rfl rfl ?_
    exact ⟨rfl, rfl⟩
  by_cases q8 : c = 2124
  · subst q8
    refine r_lookupT rfl (tgt := 104) (by decide) ?_
    refine r_iconst rfl ?_
    refine r_iret rfl rfl ?_
    exact ⟨rfl, rfl⟩
  have e0 : fRank c = 0 := by
    unfold fRank
    rw [if_neg (fun z => z.elim p1 p2), if_neg q8, if_neg q0, if_neg (fun z => z.elim q5 (fun y => y.elim q6 q7)), if_neg (fun z => z.elim q2 q3), if_neg (fun z => z.elim q1 q4)]
  rw [e0]
  refine r_lookupT rfl (tgt := 114) (by
    show am_tg 22 (Op.lookupswitch.offset [(38, 84), (42, 90), (43, 88), (45, 88), (47, 90), (60, 86), (61, 86), (62, 86), (124, 82)] 92 (c - 2000).toInt) = 114
    rw [lks_miss (k := 38) (a := 38) (by grind) (by decide), lks_miss (k := 42) (a := 42) (by grind) (by decide), lks_miss (k := 43) (a := 43) (by grind) (by decide), lks_miss (k := 45) (a := 45) (by grind) (by decide), lks_miss (k := 47) (a := 47) (by grind) (by decide), lks_miss (k := 60) (a := 60) (by grind) (by decide), lks_miss (k := 61) (a := 61) (by grind) (by decide), lks_miss (k := 62) (a := 62) (by grind) (by decide), lks_miss (k := 124) (a := 124) (by grind) (by decide)]
    rfl) ?_
  refine r_iconst rfl ?_
  refine r_iret rfl rfl ?_
  exact ⟨rfl, rfl⟩
theorem ct_X5_putOff {d : Nat} {S : am_S} {s : RSt} {x : Int32} (h : RdOk S s) (hl : s.2.1.length < 40) : am_CE (d + 1) iX5_putOff [.ref 67, .int x] S (none) (RdP S (some (s.1, x :: s.2.1, s.2.2))) := by
  refine am_CE_in mmX5_putOff rfl rfl rfl ?_
  obtain ⟨a1, a2, a3, a4, a5, a6, a7, a8, a9⟩ := h
  have b1 : (gI S 67 4).toNatClampNeg = s.2.1.length := by rw [a3, nI_clamp (by omega)]
  have w1 : ¬ 40 ≤ gI S 67 4 := by rw [a3]; exact Int32.not_le.mpr (nI_lt (b := 40) hl (by omega))
  have s1 : 0 ≤ gI S 67 4 := by rw [a3]; exact nI_pos' (by omega)
  have s2 : gI S 67 4 < Int32.ofNat 40 := by rw [a3]; exact nI_lt (by omega) (by omega)
  refine r_aload_n rfl rfl ?_
  refine r_getI rfl rfl (by decide) (by decide) rfl ?_
  refine r_aload_n rfl rfl ?_
  refine r_getC rfl rfl (by decide) (by decide) rfl ?_
  refine r_alen rfl rfl (by decide) ?_
  refine r_icmp_ge rfl (fun h9 => ?_) (fun h9 => ?_)
  · exact absurd h9 w1
  · refine r_aload_n rfl rfl ?_
    refine r_getC rfl rfl (by decide) (by decide) rfl ?_
    refine r_aload_n rfl rfl ?_
    refine r_getI rfl rfl (by decide) (by decide) rfl ?_
    refine r_iload_n rfl rfl ?_
    refine r_iast rfl rfl (by first | decide | assumption) (by first | exact s1 | exact s2) (by first | exact s1 | exact s2) ?_
    refine r_aload_n rfl rfl ?_
    refine r_dup rfl rfl ?_
    refine r_getI rfl rfl (by decide) (by decide) rfl ?_
    refine r_iconst rfl ?_
    refine r_iadd rfl ?_
    refine r_putI rfl rfl (by decide) (by decide) rfl ?_
    refine r_vret rfl ?_
    rw [b1]
    refine ⟨rfl, _, rfl, frR_u (frR_u frR_0 (by simp)) (by simp), fun s' hs => ?_⟩
    cases hs
    refine ⟨?_, ?_, ?_, ?_, ?_, ?_, ?_, ?_, ?_⟩
    · simpa [gI_uI] using a1
    · simpa [gI_uI_ne] using a2
    · simp [gI_uI, a3, nI_1]
    · rw [gI_uI_ne (by decide), gI_uI_eq]
      exact stk_push a4
    · simpa [gI_uI] using a5
    · intro i hi
      rw [gI_uI_ne (by decide), gI_uI_ne (by decide)]
      exact a6 i hi
    · simpa [gI_uI] using a7
    · simpa [gI_uI] using a8
    · simpa [gI_uI] using a9
theorem ct_X5_finishNumber {d : Nat} {S : am_S} {s : RSt} (h : RdOk S s) (hl : s.1.length < 40 ∨ s.2.2.2.2.2.1 = 0) (hg : s.2.2.2.2.2.1 ≤ 3) : am_CE (d + 2) iX5_finishNumber [.ref 67] S (none) (RdP S (some (fnm s.1 s.2.2.2.2.1 s.2.2.2.2.2.1, s.2.1, s.2.2.1, s.2.2.2.1, s.2.2.2.2.1, 0, s.2.2.2.2.2.2))) := by
  refine am_CE_in mmX5_finishNumber rfl rfl rfl ?_
  have h0 := h
  obtain ⟨a1, a2, a3, a4, a5, a6, a7, a8, a9⟩ := h
  by_cases hd : 0 < s.2.2.2.2.2.1
  · have hl2 : s.1.length < 40 := by omega
    have e0 : fnm s.1 s.2.2.2.2.1 s.2.2.2.2.2.1 = s.2.2.2.2.1 :: s.1 := if_pos hd
    have w1 : 0 < gI S 67 8 := by rw [a8]; exact nI_lt (a := 0) hd (by omega)
    have ff : fAddF S 69 (gI S 67 7) s.1.length = uI (uI S 70 s.1.length (gI S 67 7)) 69 1 (nI (s.1.length + 1)) := if_pos hl2
    rw [e0]
    refine r_aload_n rfl rfl ?_
    refine r_getI rfl rfl (by decide) (by decide) rfl ?_
    refine r_if_le rfl (fun h4 => ?_) (fun h4 => ?_)
    · exact absurd w1 (Int32.not_lt.mpr h4)
    · refine r_aload_n rfl rfl ?_
      refine r_getC rfl rfl (by decide) (by decide) rfl ?_
      refine r_aload_n rfl rfl ?_
      refine r_getI rfl rfl (by decide) (by decide) rfl ?_
      refine r_callV rfl (ct_X1_add (o := 69) ⟨rfl, rfl, rfl⟩ a1 (by omega)) rfl rfl rfl (by decide) rfl (am_cnt rfl) ?_
      refine r_aload_n rfl rfl ?_
      refine r_iconst rfl ?_
      refine r_putI rfl rfl (by decide) (by decide) rfl ?_
      refine r_vret rfl ?_
      rw [ff]
      refine ⟨rfl, _, rfl, frR_u (frR_u (frR_u frR_0 (by simp)) (by simp)) (by simp), fun s' hs => ?_⟩
      cases hs
      refine ⟨?_, ?_, ?_, ?_, ?_, ?_, ?_, ?_, ?_⟩
      · simp [gI_uI]
      · rw [gI_uI_ne (by decide), gI_uI_ne (by decide), gI_uI_eq, a7 hd]
        exact stk_push a2
      · simpa [gI_uI] using a3
      · simpa [gI_uI_ne] using a4
      · simpa [gI_uI] using a5
      · intro i hi
        rw [gI_uI_ne (by decide), gI_uI_ne (by decide), gI_uI_ne (by decide)]
        exact a6 i hi
      · intro z
        exact absurd z (Nat.lt_irrefl 0)
      · simp [gI_uI]
        rfl
      · simpa [gI_uI] using a9
  · have hd0 : s.2.2.2.2.2.1 = 0 := by omega
    have e0 : fnm s.1 s.2.2.2.2.1 s.2.2.2.2.2.1 = s.1 := if_neg hd
    have w1 : gI S 67 8 ≤ 0 := by rw [a8, hd0]; decide
    rw [e0]
    refine r_aload_n rfl rfl ?_
    refine r_getI rfl rfl (by decide) (by decide) rfl ?_
    refine r_if_le rfl (fun h4 => ?_) (fun h4 => ?_)
    · refine r_vret rfl ?_
      refine ⟨rfl, _, rfl, frR_0, fun s' hs => ?_⟩
      cases hs
      exact ⟨a1, a2, a3, a4, a5, a6, fun z => absurd z (Nat.lt_irrefl 0), by rw [a8, hd0], a9⟩
    · exact absurd w1 h4
theorem fdn_len (rk : Nat) : ∀ (W D : List Int32), (fdn rk D W).1.length + (fdn rk D W).2.length = D.length + W.length
  | [], D => by unfold fdn; rfl
  | x :: W, D => by
    unfold fdn
    split
    · rfl
    · rw [fdn_len rk W (x :: D), List.length_cons, List.length_cons]
      omega
theorem ct_X5_finishDownTo {d : Nat} {S : am_S} {s : RSt} {rk : Nat} (h : RdOk S s) (hl : s.1.length + s.2.1.length ≤ 40) (hr : rk ≤ 6) : am_CE (d + 2) iX5_finishDownTo [.ref 67, .int (nI rk)] S (none) (RdP S (some ((fdn rk s.1 s.2.1).1, (fdn rk s.1 s.2.1).2, s.2.2))) := by
  refine am_CE_in mmX5_finishDownTo rfl rfl rfl ?_
  have loop : ∀ (k : Nat) (D : List Int32) (W : List Int32) (T : am_S), (W.length < k) → (D.length + W.length ≤ 40) → (fdn rk D W = fdn rk s.1 s.2.1) → (FrR S T) → (RdOk T (D, W, s.2.2)) → am_Ex (am_Call am_MT (d + 1)) mmX5_finishDownTo none (fun r1 G1 => r1 = (none) ∧ ∃ S2, G1 = am_H S2 ∧ (RdP S (some ((fdn rk s.1 s.2.1).1, (fdn rk s.1 s.2.1).2, s.2.2))) S2) (fun _ _ _ _ _ _ => False) 7 [some (.ref 67), some (.int (nI rk)), some (.int (nI W.length + (-1)))] [] (am_H (T)) 0 0 := by
    intro k
    induction k with
    | zero =>
      intro D W T q2 q3 q4 f1 f2
      omega
    | succ k ih =>
      intro D W T q2 q3 q4 f1 f2
      match W, q2, q3, q4, f2 with
      | [], q2, q3, q4, f2 =>
        refine r_iload_n rfl rfl ?_
        refine r_if_lt rfl (fun h8 => ?_) (fun h8 => ?_)
        · refine r_vret rfl ?_
          refine ⟨rfl, _, rfl, f1, fun s' hs => ?_⟩
          cases hs
          rw [← q4]
          exact f2
        · exact absurd h8 (by decide)
      | x :: W2, q2, q3, q4, f2 =>
        rw [List.length_cons] at q2 q3
        have f3 := f2
        obtain ⟨a1, a2, a3, a4, a5, a6, a7, a8, a9⟩ := f2
        have e1 : nI (x :: W2).length + (-1) = nI W2.length := by rw [List.length_cons, pk_m1]
        have b1 : (nI W2.length).toNatClampNeg = W2.length := nI_clamp (by omega)
        have s1 : 0 ≤ nI W2.length := nI_pos' (by omega)
        have s2 : nI W2.length < Int32.ofNat 40 := nI_lt (by omega) (by omega)
        have tp : gI T 72 W2.length = x := stk_top a4
        have ff : fAddF T 69 x D.length = uI (uI T 70 D.length x) 69 1 (nI (D.length + 1)) := if_pos (by omega)
        have fx : gI T 72 (nI W2.length).toNatClampNeg = x := by rw [b1, tp]
        have rl : nI (fRank x) < nI rk ↔ fRank x < rk := nI_ltI (by have := fRank_le x; omega) (by omega)
        rw [e1]
        refine r_iload_n rfl rfl ?_
        refine r_if_lt rfl (fun h8 => ?_) (fun h8 => ?_)
        · exact absurd h8 (nI_neg (by omega))
        · refine r_aload_n rfl rfl ?_
          refine r_getC rfl rfl (by decide) (by decide) rfl ?_
          refine r_iload_n rfl rfl ?_
          refine r_iald rfl rfl (by first | decide | assumption) (by first | exact s1 | exact s2) (by first | exact s1 | exact s2) ?_
          refine r_sipush rfl ?_
          refine r_icmp_eq rfl (fun h20 => ?_) (fun h20 => ?_)
          · rw [fx] at h20
            rw [fdn, if_pos (Or.inl h20)] at q4
            refine r_vret rfl ?_
            refine ⟨rfl, _, rfl, f1, fun s' hs => ?_⟩
            cases hs
            rw [← q4]
            exact f3
          · rw [fx] at h20
            refine r_aload_n rfl rfl ?_
            refine r_getC rfl rfl (by decide) (by decide) rfl ?_
            refine r_iload_n rfl rfl ?_
            refine r_iald rfl rfl (by first | decide | assumption) (by first | exact s1 | exact s2) (by first | exact s1 | exact s2) ?_
            rw [fx]
            refine r_callS rfl (by decide) ct_X5_rankOf rfl rfl (am_cnt rfl) ?_
            refine r_iload_n rfl rfl ?_
            refine r_icmp_lt rfl (fun h33 => ?_) (fun h33 => ?_)
            · rw [rl] at h33
              rw [fdn, if_pos (Or.inr h33)] at q4
              refine r_vret rfl ?_
              refine ⟨rfl, _, rfl, f1, fun s' hs => ?_⟩
              cases hs
              rw [← q4]
              exact f3
            · rw [rl] at h33
              rw [fdn, if_neg (fun z => z.elim h20 h33)] at q4
              refine r_aload_n rfl rfl ?_
              refine r_getC rfl rfl (by decide) (by decide) rfl ?_
              refine r_aload_n rfl rfl ?_
              refine r_getC rfl rfl (by decide) (by decide) rfl ?_
              refine r_iload_n rfl rfl ?_
              refine r_iald rfl rfl (by first | decide | assumption) (by first | exact s1 | exact s2) (by first | exact s1 | exact s2) ?_
              rw [fx]
              refine r_callV rfl (ct_X1_add (o := 69) ⟨rfl, rfl, rfl⟩ a1 (by show D.length ≤ 40; omega)) rfl rfl rfl (by decide) rfl (am_cnt rfl) ?_
              refine r_aload_n rfl rfl ?_
              refine r_iload_n rfl rfl ?_
              refine r_putI rfl rfl (by decide) (by decide) rfl ?_
              refine r_iinc (L2 := [_, _, _]) rfl rfl rfl ?_
              refine r_goto rfl ?_
              rw [ff]
              refine ih (x :: D) W2 _ (by omega) (by rw [List.length_cons]; omega) q4 (frR_u (frR_u (frR_u f1 (by simp)) (by simp)) (by simp)) ⟨?_, ?_, ?_, ?_, ?_, ?_, ?_, ?_, ?_⟩
              · simp [gI_uI]
              · rw [gI_uI_ne (by decide), gI_uI_ne (by decide), gI_uI_eq]
                exact stk_push a2
              · simp [gI_uI]
              · rw [gI_uI_ne (by decide), gI_uI_ne (by decide), gI_uI_ne (by decide)]
                exact stk_pop a4
              · simpa [gI_uI] using a5
              · intro i hi
                rw [gI_uI_ne (by decide), gI_uI_ne (by decide), gI_uI_ne (by decide)]
                exact a6 i hi
              · simpa [gI_uI] using a7
              · simpa [gI_uI] using a8
              · simpa [gI_uI] using a9
  have e0 : gI S 67 4 - 1 = nI s.2.1.length + (-1) := by rw [h.2.2.1]; grind
  refine r_aload_n rfl rfl ?_
  refine r_getI rfl rfl (by decide) (by decide) rfl ?_
  refine r_iconst rfl ?_
  refine r_isub rfl ?_
  rw [e0]
  refine r_istore_n (L2 := [_, _, _]) rfl rfl ?_
  exact loop 41 s.1 s.2.1 S (by omega) (by omega) rfl frR_0 h
