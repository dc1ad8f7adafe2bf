/-! One who steers by the reference: winds 116, 117; hopes 114, 115. -/
def PutOk (b c : Nat) : Prop := (b = 33 ∧ c = 4) ∨ (b = 34 ∧ c = 5) ∨ (b = 21 ∧ c = 6)
theorem fk11 : (List.range 54).all (fun k => decide ((am_fk 11 k = (3, 4) ↔ k = 33) ∧ (am_fk 11 k = (3, 5) ↔ k = 34) ∧ (am_fk 11 k = (4, 6) ↔ k = 21))) = true := by decide +kernel
theorem len11 : (am_fkl 11).length = 54 := by decide
theorem am_H_putH {S : am_S} {b c x : Nat} (hc : PutOk b c) (hx : x ≠ 0) : (am_H S).set 97 (.inr (.inr (.inr (11, ((List.range (am_fkl 11).length).map (am_fv S 11 97)).set b (.ref x))))) = am_H (uR S c x) := by
  have hc3 : c ≠ 0 ∧ c ≠ 1 ∧ c ≠ 2 ∧ c ≠ 3 := by unfold PutOk at hc; omega
  refine am_H_set (gR_uR.trans (if_neg (by omega))) ?_ (fun _ _ => rfl) (fun _ _ => rfl) (Or.inl rfl) (Or.inr ⟨gR_uR.trans (if_neg (by omega)), gR_uR.trans (if_neg (by omega)), gR_uR.trans (if_neg (by omega))⟩)
  show am_ck (uR S c x) 97 (11, 0) = _
  rw [ck_O2 (by decide)]
  congr 4
  apply List.ext_getElem?
  intro i
  rw [List.getElem?_set, List.getElem?_map, List.getElem?_map, List.length_map, List.length_range, len11]
  by_cases hi : i < 54
  · rw [List.getElem?_range hi, Option.map_some, Option.map_some]
    have e := all_range wf_fk1 (show 11 < 12 by omega)
    have e2 := all_range e (show i < 60 by omega)
    have f := of_decide_eq_true (all_range fk11 hi)
    have fv : ∀ T : am_S, ∀ q, am_fk 11 i = q → am_fv T 11 97 i = (match q with
      | (0, _) => .int (gI T 97 i)
      | (1, c) => .ref c
      | (2, c) => .ref (97 + c)
      | (3, c) => .ref (gR T c)
      | (_, c) => match gR T c with
        | 0 => .null
        | n + 1 => .ref (n + 1)) := fun T q hq => by
      unfold am_fv
      rw [hq]
      match q with
      | (0, _) => rfl
      | (1, _) => rfl
      | (2, _) => rfl
      | (3, _) => rfl
      | (n + 4, _) => rfl
    by_cases hib : b = i
    · subst hib
      rw [if_pos rfl, if_pos hi]
      unfold PutOk at hc
      rcases hc with ⟨h1, h2⟩ | ⟨h1, h2⟩ | ⟨h1, h2⟩
      · rw [fv _ _ (f.1.mpr h1)]
        show some (Value.ref (gR (uR S c x) 4)) = _
        rw [gR_uR, if_pos h2.symm]
      · rw [fv _ _ (f.2.1.mpr h1)]
        show some (Value.ref (gR (uR S c x) 5)) = _
        rw [gR_uR, if_pos h2.symm]
      · rw [fv _ _ (f.2.2.mpr h1)]
        show some (match gR (uR S c x) 6 with
          | 0 => Value.null
          | n + 1 => .ref (n + 1)) = _
        rw [gR_uR, if_pos h2.symm]
        obtain ⟨y, rfl⟩ : ∃ y, x = y + 1 := ⟨x - 1, by omega⟩
        rfl
    · rw [if_neg hib]
      congr 1
      generalize hq : am_fk 11 i = q at e2 f
      rw [fv (uR S c x) q hq, fv S q hq]
      match q, e2, f with
      | (0, _), _, _ => rfl
      | (1, _), _, _ => rfl
      | (2, _), _, _ => rfl
      | (3, c2), e2, f =>
        show Value.ref (gR (uR S c x) c2) = Value.ref (gR S c2)
        rw [gR_uR, if_neg]
        intro hcc
        subst hcc
        unfold PutOk at hc
        rcases hc with ⟨h1, h2⟩ | ⟨h1, h2⟩ | ⟨h1, h2⟩
        · exact hib (by rw [h1]; exact (f.1.mp (by rw [h2])).symm)
        · exact hib (by rw [h1]; exact (f.2.1.mp (by rw [h2])).symm)
        · rcases of_decide_eq_true e2 with z | z
          · omega
          · omega
      | (4, c2), e2, f =>
        show (match gR (uR S c x) c2 with
          | 0 => Value.null
          | n + 1 => .ref (n + 1)) = match gR S c2 with
          | 0 => Value.null
          | n + 1 => .ref (n + 1)
        rw [gR_uR, if_neg]
        intro hcc
        subst hcc
        have z : c2 = 6 := of_decide_eq_true e2
        unfold PutOk at hc
        rcases hc with ⟨h1, h2⟩ | ⟨h1, h2⟩ | ⟨h1, h2⟩
        · omega
        · omega
        · exact hib (by rw [h1]; exact (f.2.2.mp (by rw [h2])).symm)
      | (n + 5, c2), e2, f => cases e2
  · have hn : (List.range 54)[i]? = none := by simp; omega
    rw [hn, Option.map_none, Option.map_none]
    split
    · split
      · omega
      · rfl
    · rfl
section AMH
variable {C : am_C} {M : am_M} {scr : Option (Nat × (Nat → Int32))} {Q : Option Value → am_G → Prop} {X : am_P} {pc npc b u pos pp : Nat} {cv : Int32} {cl : Int64} {L : am_L} {st : List Value} {S : am_S} {nc ns : Nat}
theorem r_putH {n x c : Nat} (hk : am_lk (am_mt M) pc = some (pp, .putfield n, npc, 11, b, 2, u, pos, cv, cl)) (hc : (b = 33 ∧ c = 4) ∨ (b = 34 ∧ c = 5) ∨ (b = 21 ∧ c = 6)) (hx : x ≠ 0) (k : am_Ex C M scr Q X npc L st (am_H (uR S c x)) nc ns) : am_Ex C M scr Q X pc L (.ref x :: .ref 97 :: st) (am_H S) nc ns := am_Ex_in (by
  unfold am_step
  rw [hk]
  simp only [am_ins]
  rw [am_H_get (o := 97) (q := (11, 0)) rfl (by decide), ck_O2 (by decide)]
  refine ⟨rfl, by rw [List.length_map, List.length_range, len11]; rcases hc with ⟨h, _⟩ | ⟨h, _⟩ | ⟨h, _⟩ <;> omega, ?_⟩
  show am_Ex C M scr Q X npc L st ((am_H S).set 97 _) nc ns
  rw [am_H_putH hc hx]
  exact k)
end AMH
theorem wnd_hi {dn sl up : Nat} : ∀ m i, 2 * m < i → wnd dn sl up m i = 0
  | 0, i, h => if_neg (by omega)
  | m + 1, i, h => by
    unfold wnd
    rw [wnd_hi m i (by omega), wnd_hi m (i - 1) (by omega), wnd_hi m (i - 2) (by omega)]
    simp
def wnM (dn sl up m k : Nat) : Nat := if 6 ≤ k + m then wnd dn sl up m (k + m - 6) else 0
theorem wnM_s {dn sl up m k : Nat} (hm : m ≤ 5) (hk : k < 13) : wnM dn sl up (m + 1) k = dn * (if k < 12 then wnM dn sl up m (k + 1) else 0) + sl * wnM dn sl up m k + up * (if 0 < k then wnM dn sl up m (k - 1) else 0) := by
  by_cases h : 6 ≤ k + (m + 1)
  · have e1 : (if k < 12 then wnM dn sl up m (k + 1) else 0) = wnd dn sl up m (k + m - 5) := by
      by_cases h2 : k < 12
      · rw [if_pos h2, wnM, if_pos (by omega), show k + 1 + m - 6 = k + m - 5 by omega]
      · rw [if_neg h2, wnd_hi m _ (by omega)]
    have e2 : wnM dn sl up m k = if 1 ≤ k + m - 5 then wnd dn sl up m (k + m - 5 - 1) else 0 := by
      unfold wnM
      by_cases h2 : 6 ≤ k + m
      · rw [if_pos h2, if_pos (by omega), show k + m - 6 = k + m - 5 - 1 by omega]
      · rw [if_neg h2, if_neg (by omega)]
    have e3 : (if 0 < k then wnM dn sl up m (k - 1) else 0) = if 2 ≤ k + m - 5 then wnd dn sl up m (k + m - 5 - 2) else 0 := by
      by_cases h2 : 2 ≤ k + m - 5
      · rw [if_pos h2, if_pos (by omega), wnM, if_pos (by omega), show k - 1 + m - 6 = k + m - 5 - 2 by omega]
      · rw [if_neg h2]
        split
        · rw [wnM, if_neg (by omega)]
        · rfl
    rw [e1, e2, e3, wnM, if_pos h, show k + (m + 1) - 6 = k + m - 5 by omega, wnd, Nat.mul_comm dn]
    have f1 : sl * (if 1 ≤ k + m - 5 then wnd dn sl up m (k + m - 5 - 1) else 0) = if 1 ≤ k + m - 5 then wnd dn sl up m (k + m - 5 - 1) * sl else 0 := by
      split
      · exact Nat.mul_comm _ _
      · rfl
    have f2 : up * (if 2 ≤ k + m - 5 then wnd dn sl up m (k + m - 5 - 2) else 0) = if 2 ≤ k + m - 5 then wnd dn sl up m (k + m - 5 - 2) * up else 0 := by
      split
      · exact Nat.mul_comm _ _
      · rfl
    rw [f1, f2]
  · have z1 : (if k < 12 then wnM dn sl up m (k + 1) else 0) = 0 := by
      split
      · rw [wnM, if_neg (by omega)]
      · rfl
    have z2 : wnM dn sl up m k = 0 := by rw [wnM, if_neg (by omega)]
    have z3 : (if 0 < k then wnM dn sl up m (k - 1) else 0) = 0 := by
      split
      · rw [wnM, if_neg (by omega)]
      · rfl
    rw [z1, z2, z3, wnM, if_neg (by omega)]
    simp
def WnM (dn sl up : Nat) (S : am_S) : Prop := gI S 97 11 = nI dn ∧ gI S 97 12 = nI up ∧ dn + sl + up = 10
/-- nothing else has changed -/
def FrS (S T : am_S) : Prop := (∀ o, o ≠ 97 → gI T o = gI S o) ∧ (∀ k, k ≠ 37 → gI T 97 k = gI S 97 k) ∧ (∀ o, (o < 114 ∨ 117 < o) → gJ T o = gJ S o) ∧ (∀ c, c ≠ 4 → c ≠ 5 → gR T c = gR S c)
theorem frS_0 {S : am_S} : FrS S S := ⟨fun _ _ => rfl, fun _ _ => rfl, fun _ _ => rfl, fun _ _ _ => rfl⟩
theorem frS_t {S T U : am_S} (h : FrS S T) (h2 : FrS T U) : FrS S U := ⟨fun o a => by rw [h2.1 o a, h.1 o a], fun k a => by rw [h2.2.1 k a, h.2.1 k a], fun o a => by rw [h2.2.2.1 o a, h.2.2.1 o a], fun c a b => by rw [h2.2.2.2 c a b, h.2.2.2 c a b]⟩
theorem frS_uJ {S T : am_S} {o j : Nat} {x : Int64} (h : FrS S T) (ho : 114 ≤ o ∧ o ≤ 117) : FrS S (uJ T o j x) := ⟨fun a ha => h.1 a ha, fun k hk => h.2.1 k hk, fun a ha => by rw [gJ_uJ_ne (by omega), h.2.2.1 a ha], fun c x y => h.2.2.2 c x y⟩
theorem frS_u37 {S T : am_S} {x : Int32} (h : FrS S T) : FrS S (uI T 97 37 x) := ⟨fun a ha => by rw [gI_uI_ne ha, h.1 a ha], fun k hk => by rw [gI_uI, if_pos rfl, if_neg hk, h.2.1 k hk], fun a ha => h.2.2.1 a ha, fun c x y => h.2.2.2 c x y⟩
theorem wnM_fr {dn sl up : Nat} {S T : am_S} (h : FrS S T) (hY : WnM dn sl up S) : WnM dn sl up T := ⟨by rw [h.2.1 11 (by decide), hY.1], by rw [h.2.1 12 (by decide), hY.2.1], hY.2.2⟩
theorem ct_X11_sumsWinds {d : Nat} {S : am_S} {dn sl up u : Nat} (hY : WnM dn sl up S) (hu : u ≤ 5) : am_CE (d + 2) iX11_sumsWinds [.ref 97, .int (nI u)] S (none) (fun T => FrS S T ∧ (∀ c, gR T c = gR S c) ∧ (∀ o, o ≠ 116 → o ≠ 117 → gJ T o = gJ S o) ∧ (∀ j, gI T 97 j = gI S 97 j) ∧ ∀ k, k < 13 → gJ T 116 k = lN (wnM dn sl up u k)) := by
  refine am_CE_in mmX11_sumsWinds rfl rfl rfl ?_
  have hs := hY.2.2
  have hsl : 10 - nI dn - nI up = nI sl := by
    rw [show (10 : Int32) = nI 10 from rfl, pk_sub (by omega), pk_sub (by omega)]
    congr 1
    omega
  have loop3 : ∀ (k3 : Nat) (m : Nat) (T : am_S) (v3 : Option Value) (v4 : Option Value) (v5 : Option Value) (v6 : Option Value) (v7 : Option Value), (m ≤ u) → (u < m + k3) → (FrS S T ∧ (∀ c, gR T c = gR S c) ∧ (∀ o, o ≠ 116 → o ≠ 117 → gJ T o = gJ S o) ∧ (∀ j, gI T 97 j = gI S 97 j)) → (∀ k3, k3 < 13 → gJ T 116 k3 = lN (wnM dn sl up m k3)) → am_Ex (am_Call am_MT (d + 1)) mmX11_sumsWinds none (fun r1 G1 => r1 = (none) ∧ ∃ S2, G1 = am_H S2 ∧ (fun T => FrS S T ∧ (∀ c, gR T c = gR S c) ∧ (∀ o, o ≠ 116 → o ≠ 117 → gJ T o = gJ S o) ∧ (∀ j, gI T 97 j = gI S 97 j) ∧ ∀ k, k < 13 → gJ T 116 k = lN (wnM dn sl up u k)) S2) (fun _ _ _ _ _ _ => False) 37 [some (.ref 97), some (.int (nI u)), some (.int (nI m)), v3, v4, v5, v6, v7] [] (am_H (T)) 0 0 := by
    intro k3
    induction k3 with
    | zero =>
      intro m T v3 v4 v5 v6 v7 h1 h2 f1 f2
      omega
    | succ k3 ih3 =>
      intro m T v3 v4 v5 v6 v7 h1 h2 f1 f2
      have loop5 : ∀ (k5 : Nat) (j : Nat) (U : am_S) (v4 : Option Value) (v5 : Option Value) (v6 : Option Value) (v7 : Option Value), (m < u) → (j ≤ 13) → (13 < j + k5) → (FrS S U ∧ (∀ c, gR U c = gR S c) ∧ (∀ o, o ≠ 116 → o ≠ 117 → gJ U o = gJ S o) ∧ (∀ j, gI U 97 j = gI S 97 j)) → (∀ k5, k5 < 13 → gJ U 117 k5 = lN (wnM dn sl up (m + 1) k5)) → (∀ k5, k5 < j → gJ U 116 k5 = lN (wnM dn sl up (m + 1) k5)) → am_Ex (am_Call am_MT (d + 1)) mmX11_sumsWinds none (fun r1 G1 => r1 = (none) ∧ ∃ S2, G1 = am_H S2 ∧ (fun T => FrS S T ∧ (∀ c, gR T c = gR S c) ∧ (∀ o, o ≠ 116 → o ≠ 117 → gJ T o = gJ S o) ∧ (∀ j, gI T 97 j = gI S 97 j) ∧ ∀ k, k < 13 → gJ T 116 k = lN (wnM dn sl up u k)) S2) (fun _ _ _ _ _ _ => False) 140 [some (.ref 97), some (.int (nI u)), some (.int (nI m)), some (.int (nI j)), v4, v5, v6, v7] [] (am_H (U)) 0 0 := by
        intro k5
        induction k5 with
        | zero =>
          intro j U v4 v5 v6 v7 q0 q1 q2 g1 g2 g3
          omega
        | succ k5 ih5 =>
          intro j U v4 v5 v6 v7 q0 q1 q2 g1 g2 g3
          have bj : (nI j).toNatClampNeg = j := nI_clamp (by omega)
          have s1 : 0 ≤ nI j := nI_pos' (by omega)
          refine r_iload_n rfl rfl ?_
          refine r_bipush rfl ?_
          refine r_icmp_ge rfl (fun h143 => ?_) (fun h143 => ?_)
          · have hj : j = 13 := by
              rw [show (13 : Int32) = nI 13 from rfl, nI_leI (by omega) (by omega)] at h143
              omega
            subst hj
            refine r_iinc (L2 := [_, _, _, _, _, _, _, _]) rfl rfl rfl ?_
            refine r_goto rfl ?_
            rw [nI_1]
            exact ih3 (m + 1) U _ _ _ _ _ (by omega) (by omega) g1 g3
          · rw [show (13 : Int32) = nI 13 from rfl, nI_leI (by omega) (by omega)] at h143
            have s2 : nI j < Int32.ofNat 13 := nI_lt (by omega) (by omega)
            refine r_aload_n rfl rfl ?_
            refine r_getC rfl rfl (by decide) (by decide) rfl ?_
            refine r_iload_n rfl rfl ?_
            refine r_aload_n rfl rfl ?_
            refine r_getC rfl rfl (by decide) (by decide) rfl ?_
            refine r_iload_n rfl rfl ?_
            refine r_lald rfl rfl (by first | decide | assumption) (by first | exact s1 | exact s2) (by first | exact s1 | exact s2) ?_
            refine r_last rfl rfl (by first | decide | assumption) (by first | exact s1 | exact s2) (by first | exact s1 | exact s2) ?_
            refine r_iinc (L2 := [_, _, _, _, _, _, _, _]) rfl rfl rfl ?_
            refine r_goto rfl ?_
            rw [bj, nI_1]
            refine ih5 (j + 1) _ _ _ _ _ q0 (by omega) (by omega) ⟨frS_uJ g1.1 (by decide), g1.2.1, fun o a b => by rw [gJ_uJ_ne a, g1.2.2.1 o a b], g1.2.2.2⟩ (fun k hk => by rw [gJ_uJ_ne (by decide), g2 k hk]) (fun k hk => ?_)
            rw [gJ_uJ_eq]
            by_cases h : k = j
            · rw [h, pk_uLs, g2 j (by omega)]
            · rw [pk_uLn h, g3 k (by omega)]
      have loop4 : ∀ (k4 : Nat) (j : Nat) (U : am_S) (v4 : Option Value) (v5 : Option Value) (v6 : Option Value) (v7 : Option Value), (m < u) → (j ≤ 13) → (13 < j + k4) → (FrS S U ∧ (∀ c, gR U c = gR S c) ∧ (∀ o, o ≠ 116 → o ≠ 117 → gJ U o = gJ S o) ∧ (∀ j, gI U 97 j = gI S 97 j)) → (∀ k4, k4 < 13 → gJ U 116 k4 = lN (wnM dn sl up m k4)) → (∀ k4, k4 < j → gJ U 117 k4 = lN (wnM dn sl up (m + 1) k4)) → am_Ex (am_Call am_MT (d + 1)) mmX11_sumsWinds none (fun r1 G1 => r1 = (none) ∧ ∃ S2, G1 = am_H S2 ∧ (fun T => FrS S T ∧ (∀ c, gR T c = gR S c) ∧ (∀ o, o ≠ 116 → o ≠ 117 → gJ T o = gJ S o) ∧ (∀ j, gI T 97 j = gI S 97 j) ∧ ∀ k, k < 13 → gJ T 116 k = lN (wnM dn sl up u k)) S2) (fun _ _ _ _ _ _ => False) 44 [some (.ref 97), some (.int (nI u)), some (.int (nI m)), some (.int (nI j)), v4, v5, v6, v7] [] (am_H (U)) 0 0 := by
        intro k4
        induction k4 with
        | zero =>
          intro j U v4 v5 v6 v7 q0 q1 q2 g1 g2 g3
          omega
        | succ k4 ih4 =>
          intro j U v4 v5 v6 v7 q0 q1 q2 g1 g2 g3
          have bj : (nI j).toNatClampNeg = j := nI_clamp (by omega)
          have s1 : 0 ≤ nI j := nI_pos' (by omega)
          have c11 : gI U 97 11 = nI dn := by rw [g1.2.2.2, hY.1]
          have c12 : gI U 97 12 = nI up := by rw [g1.2.2.2, hY.2.1]
          have bj1 : (nI (j + 1)).toNatClampNeg = j + 1 := nI_clamp (by omega)
          have s3 : 0 ≤ nI (j + 1) := nI_pos' (by omega)
          have bj2 : (nI (j - 1)).toNatClampNeg = j - 1 := nI_clamp (by omega)
          have s5 : 0 ≤ nI (j - 1) := nI_pos' (by omega)
          have s6 : nI (j - 1) < Int32.ofNat 13 := nI_lt (by omega) (by omega)
          have m1 : 0 < j → nI j - 1 = nI (j - 1) := fun h => pk_sub (b := 1) h
          have nx : ∀ (x a b : Nat), j < 13 → a = (if j < 12 then wnM dn sl up m (j + 1) else 0) → b = (if 0 < j then wnM dn sl up m (j - 1) else 0) → x = dn * a + sl * wnM dn sl up m j + up * b → ∀ v4 v5 v6 v7, am_Ex (am_Call am_MT (d + 1)) mmX11_sumsWinds none (fun r1 G1 => r1 = (none) ∧ ∃ S2, G1 = am_H S2 ∧ (fun T => FrS S T ∧ (∀ c, gR T c = gR S c) ∧ (∀ o, o ≠ 116 → o ≠ 117 → gJ T o = gJ S o) ∧ (∀ j, gI T 97 j = gI S 97 j) ∧ ∀ k, k < 13 → gJ T 116 k = lN (wnM dn sl up u k)) S2) (fun _ _ _ _ _ _ => False) 44 [some (.ref 97), some (.int (nI u)), some (.int (nI m)), some (.int (nI (j + 1))), v4, v5, v6, v7] [] (am_H (uJ U 117 j (lN x))) 0 0 := fun x a b hj ha hb hx v4 v5 v6 v7 => by
            refine ih4 (j + 1) _ _ _ _ _ q0 (by omega) (by omega) ⟨frS_uJ g1.1 (by decide), g1.2.1, fun o a b => by rw [gJ_uJ_ne b, g1.2.2.1 o a b], g1.2.2.2⟩ (fun k hk => by rw [gJ_uJ_ne (by decide), g2 k hk]) (fun k hk => ?_)
            rw [gJ_uJ_eq]
            by_cases h : k = j
            · rw [h, pk_uLs, hx, ha, hb, wnM_s (by omega) hj]
            · rw [pk_uLn h, g3 k (by omega)]
          refine r_iload_n rfl rfl ?_
          refine r_bipush rfl ?_
          refine r_icmp_ge rfl (fun h47 => ?_) (fun h47 => ?_)
          · have hj : j = 13 := by
              rw [show (13 : Int32) = nI 13 from rfl, nI_leI (by omega) (by omega)] at h47
              omega
            subst hj
            refine r_iconst rfl ?_
            refine r_istore_n (L2 := [_, _, _, _, _, _, _, _]) rfl rfl ?_
            exact loop5 14 0 U _ _ _ _ q0 (by omega) (by omega) g1 g3 (fun k hk => by omega)
          · rw [show (13 : Int32) = nI 13 from rfl, nI_leI (by omega) (by omega)] at h47
            have s2 : nI j < Int32.ofNat 13 := nI_lt (by omega) (by omega)
            refine r_iload_n rfl rfl ?_
            refine r_bipush rfl ?_
            refine r_icmp_ge rfl (fun h53 => ?_) (fun h53 => ?_)
            · rw [show (12 : Int32) = nI 12 from rfl, nI_leI (by omega) (by omega)] at h53
              have xa : (0 : Nat) = (if j < 12 then wnM dn sl up m (j + 1) else 0) := (if_neg (by omega)).symm
              refine r_lconst rfl ?_
              refine r_lstore (L2 := [_, _, _, _, _, _, _, _]) rfl rfl ?_
              refine r_iload_n rfl rfl ?_
              refine r_if_le rfl (fun h71 => ?_) (fun h71 => ?_)
              · rw [show (0 : Int32) = nI 0 from rfl, nI_leI (by omega) (by omega)] at h71
                have xb : (0 : Nat) = (if 0 < j then wnM dn sl up m (j - 1) else 0) := (if_neg (by omega)).symm
                refine r_lconst rfl ?_
                refine r_lstore (L2 := [_, _, _, _, _, _, _, _]) rfl rfl ?_
                refine r_aload_n rfl rfl ?_
                refine r_getC rfl rfl (by decide) (by decide) rfl ?_
                refine r_iload_n rfl rfl ?_
                refine r_aload_n rfl rfl ?_
                refine r_getI rfl rfl (by decide) (by decide) rfl ?_
                refine r_i2l rfl ?_
                rw [c11, nI_l (by omega)]
                refine r_lload rfl rfl ?_
                refine r_lmul rfl ?_
                refine r_bipush rfl ?_
                refine r_aload_n rfl rfl ?_
                refine r_getI rfl rfl (by decide) (by decide) rfl ?_
                refine r_isub rfl ?_
                refine r_aload_n rfl rfl ?_
                refine r_getI rfl rfl (by decide) (by decide) rfl ?_
                refine r_isub rfl ?_
                rw [c11, c12, hsl]
                refine r_i2l rfl ?_
                rw [nI_l (by omega)]
                refine r_aload_n rfl rfl ?_
                refine r_getC rfl rfl (by decide) (by decide) rfl ?_
                refine r_iload_n rfl rfl ?_
                refine r_lald rfl rfl (by first | decide | assumption) (by first | exact s1 | exact s2 | exact s3 | exact s4 | exact s5 | exact s6) (by first | exact s1 | exact s2 | exact s3 | exact s4 | exact s5 | exact s6) ?_
                rw [bj, g2 j (by omega)]
                refine r_lmul rfl ?_
                refine r_ladd rfl ?_
                refine r_aload_n rfl rfl ?_
                refine r_getI rfl rfl (by decide) (by decide) rfl ?_
                refine r_i2l rfl ?_
                rw [c12, nI_l (by omega)]
                refine r_lload rfl rfl ?_
                refine r_lmul rfl ?_
                refine r_ladd rfl ?_
                refine r_last rfl rfl (by first | decide | assumption) (by first | exact s1 | exact s2 | exact s3 | exact s4 | exact s5 | exact s6) (by first | exact s1 | exact s2 | exact s3 | exact s4 | exact s5 | exact s6) ?_
                refine r_iinc (L2 := [_, _, _, _, _, _, _, _]) rfl rfl rfl ?_
                refine r_goto rfl ?_
                rw [bj, nI_1]
                simp only [show (0 : Int64) = lN 0 from rfl, lN_mul, lN_add]
                exact nx _ _ _ (by omega) xa xb rfl _ _ _ _
              · rw [show (0 : Int32) = nI 0 from rfl, nI_leI (by omega) (by omega)] at h71
                have xb : wnM dn sl up m (j - 1) = (if 0 < j then wnM dn sl up m (j - 1) else 0) := (if_pos (by omega)).symm
                refine r_aload_n rfl rfl ?_
                refine r_getC rfl rfl (by decide) (by decide) rfl ?_
                refine r_iload_n rfl rfl ?_
                refine r_iconst rfl ?_
                refine r_isub rfl ?_
                rw [m1 (by omega)]
                refine r_lald rfl rfl (by first | decide | assumption) (by first | exact s1 | exact s2 | exact s3 | exact s4 | exact s5 | exact s6) (by first | exact s1 | exact s2 | exact s3 | exact s4 | exact s5 | exact s6) ?_
                rw [bj2, g2 (j - 1) (by omega)]
                refine r_goto rfl ?_
                refine r_lstore (L2 := [_, _, _, _, _, _, _, _]) rfl rfl ?_
                refine r_aload_n rfl rfl ?_
                refine r_getC rfl rfl (by decide) (by decide) rfl ?_
                refine r_iload_n rfl rfl ?_
                refine r_aload_n rfl rfl ?_
                refine r_getI rfl rfl (by decide) (by decide) rfl ?_
                refine r_i2l rfl ?_
                rw [c11, nI_l (by omega)]
                refine r_lload rfl rfl ?_
                refine r_lmul rfl ?_
                refine r_bipush rfl ?_
                refine r_aload_n rfl rfl ?_
                refine r_getI rfl rfl (by decide) (by decide) rfl ?_
                refine r_isub rfl ?_
                refine r_aload_n rfl rfl ?_
                refine r_getI rfl rfl (by decide) (by decide) rfl ?_
                refine r_isub rfl ?_
                rw [c11, c12, hsl]
                refine r_i2l rfl ?_
                rw [nI_l (by omega)]
                refine r_aload_n rfl rfl ?_
                refine r_getC rfl rfl (by decide) (by decide) rfl ?_
                refine r_iload_n rfl rfl ?_
                refine r_lald rfl rfl (by first | decide | assumption) (by first | exact s1 | exact s2 | exact s3 | exact s4 | exact s5 | exact s6) (by first | exact s1 | exact s2 | exact s3 | exact s4 | exact s5 | exact s6) ?_
                rw [bj, g2 j (by omega)]
                refine r_lmul rfl ?_
                refine r_ladd rfl ?_
                refine r_aload_n rfl rfl ?_
                refine r_getI rfl rfl (by decide) (by decide) rfl ?_
                refine r_i2l rfl ?_
                rw [c12, nI_l (by omega)]
                refine r_lload rfl rfl ?_
                refine r_lmul rfl ?_
                refine r_ladd rfl ?_
                refine r_last rfl rfl (by first | decide | assumption) (by first | exact s1 | exact s2 | exact s3 | exact s4 | exact s5 | exact s6) (by first | exact s1 | exact s2 | exact s3 | exact s4 | exact s5 | exact s6) ?_
                refine r_iinc (L2 := [_, _, _, _, _, _, _, _]) rfl rfl rfl ?_
                refine r_goto rfl ?_
                rw [bj, nI_1]
                simp only [show (0 : Int64) = lN 0 from rfl, lN_mul, lN_add]
                exact nx _ _ _ (by omega) xa xb rfl _ _ _ _
            · rw [show (12 : Int32) = nI 12 from rfl, nI_leI (by omega) (by omega)] at h53
              have s4 : nI (j + 1) < Int32.ofNat 13 := nI_lt (by omega) (by omega)
              have xa : wnM dn sl up m (j + 1) = (if j < 12 then wnM dn sl up m (j + 1) else 0) := (if_pos (by omega)).symm
              refine r_aload_n rfl rfl ?_
              refine r_getC rfl rfl (by decide) (by decide) rfl ?_
              refine r_iload_n rfl rfl ?_
              refine r_iconst rfl ?_
              refine r_iadd rfl ?_
              rw [nI_1]
              refine r_lald rfl rfl (by first | decide | assumption) (by first | exact s1 | exact s2 | exact s3 | exact s4 | exact s5 | exact s6) (by first | exact s1 | exact s2 | exact s3 | exact s4 | exact s5 | exact s6) ?_
              rw [bj1, g2 (j + 1) (by omega)]
              refine r_goto rfl ?_
              refine r_lstore (L2 := [_, _, _, _, _, _, _, _]) rfl rfl ?_
              refine r_iload_n rfl rfl ?_
              refine r_if_le rfl (fun h71 => ?_) (fun h71 => ?_)
              · rw [show (0 : Int32) = nI 0 from rfl, nI_leI (by omega) (by omega)] at h71
                have xb : (0 : Nat) = (if 0 < j then wnM dn sl up m (j - 1) else 0) := (if_neg (by omega)).symm
                refine r_lconst rfl ?_
                refine r_lstore (L2 := [_, _, _, _, _, _, _, _]) rfl rfl ?_
                refine r_aload_n rfl rfl ?_
                refine r_getC rfl rfl (by decide) (by decide) rfl ?_
                refine r_iload_n rfl rfl ?_
                refine r_aload_n rfl rfl ?_
                refine r_getI rfl rfl (by decide) (by decide) rfl ?_
                refine r_i2l rfl ?_
                rw [c11, nI_l (by omega)]
                refine r_lload rfl rfl ?_
                refine r_lmul rfl ?_
                refine r_bipush rfl ?_
                refine r_aload_n rfl rfl ?_
                refine r_getI rfl rfl (by decide) (by decide) rfl ?_
                refine r_isub rfl ?_
                refine r_aload_n rfl rfl ?_
                refine r_getI rfl rfl (by decide) (by decide) rfl ?_
                refine r_isub rfl ?_
                rw [c11, c12, hsl]
                refine r_i2l rfl ?_
                rw [nI_l (by omega)]
                refine r_aload_n rfl rfl ?_
                refine r_getC rfl rfl (by decide) (by decide) rfl ?_
                refine r_iload_n rfl rfl ?_
                refine r_lald rfl rfl (by first | decide | assumption) (by first | exact s1 | exact s2 | exact s3 | exact s4 | exact s5 | exact s6) (by first | exact s1 | exact s2 | exact s3 | exact s4 | exact s5 | exact s6) ?_
                rw [bj, g2 j (by omega)]
                refine r_lmul rfl ?_
                refine r_ladd rfl ?_
                refine r_aload_n rfl rfl ?_
                refine r_getI rfl rfl (by decide) (by decide) rfl ?_
                refine r_i2l rfl ?_
                rw [c12, nI_l (by omega)]
                refine r_lload rfl rfl ?_
                refine r_lmul rfl ?_
                refine r_ladd rfl ?_
                refine r_last rfl rfl (by first | decide | assumption) (by first | exact s1 | exact s2 | exact s3 | exact s4 | exact s5 | exact s6) (by first | exact s1 | exact s2 | exact s3 | exact s4 | exact s5 | exact s6) ?_
                refine r_iinc (L2 := [_, _, _, _, _, _, _, _]) rfl rfl rfl ?_
                refine r_goto rfl ?_
                rw [bj, nI_1]
                simp only [show (0 : Int64) = lN 0 from rfl, lN_mul, lN_add]
                exact nx _ _ _ (by omega) xa xb rfl _ _ _ _
              · rw [show (0 : Int32) = nI 0 from rfl, nI_leI (by omega) (by omega)] at h71
                have xb : wnM dn sl up m (j - 1) = (if 0 < j then wnM dn sl up m (j - 1) else 0) := (if_pos (by omega)).symm
                refine r_aload_n rfl rfl ?_
                refine r_getC rfl rfl (by decide) (by decide) rfl ?_
                refine r_iload_n rfl rfl ?_
                refine r_iconst rfl ?_
                refine r_isub rfl ?_
                rw [m1 (by omega)]
                refine r_lald rfl rfl (by first | decide | assumption) (by first | exact s1 | exact s2 | exact s3 | exact s4 | exact s5 | exact s6) (by first | exact s1 | exact s2 | exact s3 | exact s4 | exact s5 | exact s6) ?_
                rw [bj2, g2 (j - 1) (by omega)]
                refine r_goto rfl ?_
                refine r_lstore (L2 := [_, _, _, _, _, _, _, _]) rfl rfl ?_
                refine r_aload_n rfl rfl ?_
                refine r_getC rfl rfl (by decide) (by decide) rfl ?_
                refine r_iload_n rfl rfl ?_
                refine r_aload_n rfl rfl ?_
                refine r_getI rfl rfl (by decide) (by decide) rfl ?_
                refine r_i2l rfl ?_
                rw [c11, nI_l (by omega)]
                refine r_lload rfl rfl ?_
                refine r_lmul rfl ?_
                refine r_bipush rfl ?_
                refine r_aload_n rfl rfl ?_
                refine r_getI rfl rfl (by decide) (by decide) rfl ?_
                refine r_isub rfl ?_
                refine r_aload_n rfl rfl ?_
                refine r_getI rfl rfl (by decide) (by decide) rfl ?_
                refine r_isub rfl ?_
                rw [c11, c12, hsl]
                refine r_i2l rfl ?_
                rw [nI_l (by omega)]
                refine r_aload_n rfl rfl ?_
                refine r_getC rfl rfl (by decide) (by decide) rfl ?_
                refine r_iload_n rfl rfl ?_
                refine r_lald rfl rfl (by first | decide | assumption) (by first | exact s1 | exact s2 | exact s3 | exact s4 | exact s5 | exact s6) (by first | exact s1 | exact s2 | exact s3 | exact s4 | exact s5 | exact s6) ?_
                rw [bj, g2 j (by omega)]
                refine r_lmul rfl ?_
                refine r_ladd rfl ?_
                refine r_aload_n rfl rfl ?_
                refine r_getI rfl rfl (by decide) (by decide) rfl ?_
                refine r_i2l rfl ?_
                rw [c12, nI_l (by omega)]
                refine r_lload rfl rfl ?_
                refine r_lmul rfl ?_
                refine r_ladd rfl ?_
                refine r_last rfl rfl (by first | decide | assumption) (by first | exact s1 | exact s2 | exact s3 | exact s4 | exact s5 | exact s6) (by first | exact s1 | exact s2 | exact s3 | exact s4 | exact s5 | exact s6) ?_
                refine r_iinc (L2 := [_, _, _, _, _, _, _, _]) rfl rfl rfl ?_
                refine r_goto rfl ?_
                rw [bj, nI_1]
                simp only [show (0 : Int64) = lN 0 from rfl, lN_mul, lN_add]
                exact nx _ _ _ (by omega) xa xb rfl _ _ _ _
      refine r_iload_n rfl rfl ?_
      refine r_iload_n rfl rfl ?_
      refine r_icmp_ge rfl (fun h39 => ?_) (fun h39 => ?_)
      · rw [nI_leI (by omega) (by omega)] at h39
        obtain rfl : m = u := by omega
        refine r_vret rfl ?_
        exact ⟨rfl, _, rfl, f1.1, f1.2.1, f1.2.2.1, f1.2.2.2, f2⟩
      · rw [nI_leI (by omega) (by omega)] at h39
        refine r_iconst rfl ?_
        refine r_istore_n (L2 := [_, _, _, _, _, _, _, _]) rfl rfl ?_
        exact loop4 14 0 T _ _ _ _ (by omega) (by omega) (by omega) f1 f2 (fun k hk => by omega)
  have loop : ∀ (k : Nat) (j : Nat) (T : am_S), (j ≤ 13) → (13 < j + k) → (FrS S T ∧ (∀ c, gR T c = gR S c) ∧ (∀ o, o ≠ 116 → o ≠ 117 → gJ T o = gJ S o) ∧ (∀ j, gI T 97 j = gI S 97 j)) → (∀ k, k < j → gJ T 116 k = lN (wnM dn sl up 0 k)) → am_Ex (am_Call am_MT (d + 1)) mmX11_sumsWinds none (fun r1 G1 => r1 = (none) ∧ ∃ S2, G1 = am_H S2 ∧ (fun T => FrS S T ∧ (∀ c, gR T c = gR S c) ∧ (∀ o, o ≠ 116 → o ≠ 117 → gJ T o = gJ S o) ∧ (∀ j, gI T 97 j = gI S 97 j) ∧ ∀ k, k < 13 → gJ T 116 k = lN (wnM dn sl up u k)) S2) (fun _ _ _ _ _ _ => False) 2 [some (.ref 97), some (.int (nI u)), some (.int (nI j)), none, none, none, none, none] [] (am_H (T)) 0 0 := by
    intro k
    induction k with
    | zero =>
      intro j T q1 q2 f1 f2
      omega
    | succ k ih =>
      intro j T q1 q2 f1 f2
      have bj : (nI j).toNatClampNeg = j := nI_clamp (by omega)
      have s1 : 0 ≤ nI j := nI_pos' (by omega)
      have nx : ∀ x : Int64, j < 13 → x = lN (wnM dn sl up 0 j) → am_Ex (am_Call am_MT (d + 1)) mmX11_sumsWinds none (fun r1 G1 => r1 = (none) ∧ ∃ S2, G1 = am_H S2 ∧ (fun T => FrS S T ∧ (∀ c, gR T c = gR S c) ∧ (∀ o, o ≠ 116 → o ≠ 117 → gJ T o = gJ S o) ∧ (∀ j, gI T 97 j = gI S 97 j) ∧ ∀ k, k < 13 → gJ T 116 k = lN (wnM dn sl up u k)) S2) (fun _ _ _ _ _ _ => False) 2 [some (.ref 97), some (.int (nI u)), some (.int (nI (j + 1))), none, none, none, none, none] [] (am_H (uJ T 116 j x)) 0 0 := fun x hj hx => by
        refine ih (j + 1) _ (by omega) (by omega) ⟨frS_uJ f1.1 (by decide), f1.2.1, fun o a b => by rw [gJ_uJ_ne a, f1.2.2.1 o a b], f1.2.2.2⟩ (fun k hk => ?_)
        rw [gJ_uJ_eq]
        by_cases h : k = j
        · rw [h, pk_uLs, hx]
        · rw [pk_uLn h, f2 k (by omega)]
      refine r_iload_n rfl rfl ?_
      refine r_bipush rfl ?_
      refine r_icmp_ge rfl (fun h5 => ?_) (fun h5 => ?_)
      · have hj : j = 13 := by
          rw [show (13 : Int32) = nI 13 from rfl, nI_leI (by omega) (by omega)] at h5
          omega
        subst hj
        refine r_iconst rfl ?_
        refine r_istore_n (L2 := [_, _, _, _, _, _, _, _]) rfl rfl ?_
        exact loop3 (u + 1) 0 T none none none none none (by omega) (by omega) f1 f2
      · rw [show (13 : Int32) = nI 13 from rfl, nI_leI (by omega) (by omega)] at h5
        have s2 : nI j < Int32.ofNat 13 := nI_lt (by omega) (by omega)
        refine r_aload_n rfl rfl ?_
        refine r_getC rfl rfl (by decide) (by decide) rfl ?_
        refine r_iload_n rfl rfl ?_
        refine r_iload_n rfl rfl ?_
        refine r_bipush rfl ?_
        refine r_icmp_ne rfl (fun h16 => ?_) (fun h16 => ?_)
        · rw [show (6 : Int32) = nI 6 from rfl, nI_eq (by omega) (by omega)] at h16
          have xv : (0 : Int64) = lN (wnM dn sl up 0 j) := by
            unfold wnM wnd
            split
            · rw [if_neg (by omega)]; rfl
            · rfl
          refine r_iconst rfl ?_
          refine r_callS rfl (by decide) (ct_X11_flag (by simp)) rfl rfl (am_cnt rfl) ?_
          refine r_i2l rfl ?_
          refine r_last rfl rfl (by first | decide | assumption) (by first | exact s1 | exact s2) (by first | exact s1 | exact s2) ?_
          refine r_iinc (L2 := [_, _, _, _, _, _, _, _]) rfl rfl rfl ?_
          refine r_goto rfl ?_
          rw [bj, nI_1]
          exact nx _ (by omega) xv
        · rw [show (6 : Int32) = nI 6 from rfl, nI_eq (by omega) (by omega)] at h16
          have xv : (1 : Int64) = lN (wnM dn sl up 0 j) := by
            rw [h16]
            rfl
          refine r_iconst rfl ?_
          refine r_goto rfl ?_
          refine r_callS rfl (by decide) (ct_X11_flag (by simp)) rfl rfl (am_cnt rfl) ?_
          refine r_i2l rfl ?_
          refine r_last rfl rfl (by first | decide | assumption) (by first | exact s1 | exact s2) (by first | exact s1 | exact s2) ?_
          refine r_iinc (L2 := [_, _, _, _, _, _, _, _]) rfl rfl rfl ?_
          refine r_goto rfl ?_
          rw [bj, nI_1]
          exact nx _ (by omega) xv
  refine r_iconst rfl ?_
  refine r_istore_n (L2 := [_, _, _, _, _, _, _, _]) rfl rfl ?_
  exact loop 14 0 S (by omega) (by omega) ⟨frS_0, fun _ => rfl, fun _ _ _ => rfl, fun _ => rfl⟩ (fun k hk => by omega)
