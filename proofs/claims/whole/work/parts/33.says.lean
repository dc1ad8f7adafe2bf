/-! Ways; asked, answered, known. -/
theorem nI_inj {a b : Nat} (ha : a < 2147483648) (hb : b < 2147483648) (h : nI a = nI b) : a = b := by
  have := congrArg Int32.toNatClampNeg h
  rw [nI_clamp ha, nI_clamp hb] at this
  exact this
theorem leastN_congr {f g : Nat → Nat} : ∀ n, (∀ q, q < n → f q = g q) → leastN f n = leastN g n
  | 0, _ => rfl
  | n + 1, h => by rw [leastN, leastN, leastN_congr n (fun q hq => h q (by omega)), h n (by omega)]
theorem few_congr {S T : am_S} {lt th : Nat → Nat} {last : Nat} (h : ∀ o, o < 18 → gI T o = gI S o) (hl : last < 6) : ∀ k v, v < 6 → fewN T lt th last k v = fewN S lt th last k v
  | 0, v, _ => by
    unfold fewN nearP
    rw [h (6 + 2 * last) (by omega)]
  | k + 1, v, hv => by
    rw [fewN_s, fewN_s]
    refine leastN_congr 6 (fun q hq => ?_)
    unfold byN nearP
    rw [h (6 + 2 * v) (by omega), few_congr h hl k q hq]
theorem bstN_congr {f g : Nat → Nat} (h : ∀ k, f k = g k) : ∀ k, bstN f k = bstN g k
  | 0 => by rw [bstN, bstN, h]
  | k + 1 => by rw [bstN, bstN, h, bstN_congr h k]
theorem minuV_congr {S T : am_S} {lt th : Nat → Nat} {one last : Nat} (h : ∀ o, o < 18 → gI T o = gI S o) (hl : last < 6) (ho : one < 6) : minuV T lt th one last = minuV S lt th one last := by
  unfold minuV bstW
  rw [bstN_congr (fun k => few_congr h hl k one ho)]
theorem minuS_ne {S : am_S} {lt th : Nat → Nat} {one last k a : Nat} (h1 : a ≠ 76) (h2 : a ≠ 77) : gI (minuS S lt th one last k) a = gI S a := by
  rw [minuS, gI_uI_ne h1, gI_rI_ne h2]
theorem pplOk_congr {S T : am_S} {lt th : Nat → Nat} (h : ∀ o, o < 18 → gI T o = gI S o) (hp : PplOk lt th S) : PplOk lt th T := fun p h6 => by
  rw [h (6 + 2 * p) (by omega)]
  exact hp p h6
def fstF (p : Nat → Prop) [DecidablePred p] (q : Nat) : Nat → Nat
  | 0 => q
  | f + 1 => if p q then q else fstF p (q + 1) f
theorem fstF_le (p : Nat → Prop) [DecidablePred p] : ∀ f q, fstF p q f ≤ q + f
  | 0, _ => Nat.le_refl _
  | f + 1, q => by
    unfold fstF
    have := fstF_le p f (q + 1)
    split <;> omega
/-- whom it goes to next, of k who pass on -/
def hopN (S : am_S) (lt th : Nat → Nat) (last v k : Nat) : Nat := fstF (fun q => byN S lt th last v q (k - 1) = fewN S lt th last k v) 0 5
def atN (S : am_S) (lt th : Nat → Nat) (one last P : Nat) : Nat → Nat
  | 0 => one
  | j + 1 => hopN S lt th last (atN S lt th one last P j) (P - j)
theorem atN_lt {S : am_S} {lt th : Nat → Nat} {one last P : Nat} (h : one < 6) : ∀ j, atN S lt th one last P j < 6
  | 0 => h
  | j + 1 => by
    have := fstF_le (fun q => byN S lt th last (atN S lt th one last P j) q (P - j - 1) = fewN S lt th last (P - j) (atN S lt th one last P j)) 5 0
    unfold atN hopN
    omega
def wayG (S T : am_S) (lt th : Nat → Nat) (one last P j : Nat) : Nat → Int32 := fun a => if a < j then nI (atN S lt th one last P (a + 1)) else gI T 78 a
theorem wayG_up {S T : am_S} {lt th : Nat → Nat} {one last P j : Nat} : upd (wayG S T lt th one last P j) j (nI (atN S lt th one last P (j + 1))) = wayG S T lt th one last P (j + 1) := by
  funext a
  unfold upd wayG
  by_cases ha : a = j
  · subst ha
    rw [if_pos rfl, if_pos (by omega)]
  · rw [if_neg ha]
    by_cases hb : a < j
    · rw [if_pos hb, if_pos (by omega)]
    · rw [if_neg hb, if_neg (by omega)]
theorem wayG_0 {S T : am_S} {lt th : Nat → Nat} {one last P : Nat} : wayG S T lt th one last P 0 = gI T 78 := by
  funext a
  exact if_neg (by omega)
theorem ct_X8_findWay {d : Nat} {S T : am_S} {lt th : Nat → Nat} {one last P : Nat} (hp : PplOk lt th S) (hT : ∀ o, o < 18 → gI T o = gI S o) (hf : FewOk S lt th last 30 T) (hP : gI T 76 2 = nI P) (hP4 : P ≤ 4) (ho : one < 6) (hl : last < 6) : am_CT (d + 3) iX8_findWay [.ref 76, .ref 1, .int (nI one)] T (none) (rI T 78 (wayG S T lt th one last P P)) := by
  refine am_CT_in mmX8_findWay rfl rfl rfl ?_
  have loop : ∀ (k : Nat) (j : Nat) (v5 : Option Value), (j ≤ P) → (P < j + k) → am_Ex (am_Call am_MT (d + 2)) mmX8_findWay none (fun r1 G1 => r1 = (none) ∧ G1 = am_H (rI T 78 (wayG S T lt th one last P P))) (fun _ _ _ _ _ _ => False) 8 [some (.ref 76), some (.ref 1), some (.int (nI one)), some (.int (nI (atN S lt th one last P j))), some (.int (nI (P - j))), v5] [] (am_H (rI T 78 (wayG S T lt th one last P j))) 0 0 := by
    intro k
    induction k with
    | zero =>
      intro j v5 h1 h2
      omega
    | succ k ih =>
      intro j v5 h1 h2
      have hat := atN_lt (S := S) (lt := lt) (th := th) (last := last) (P := P) ho j
      have hT2 : ∀ o, o < 18 → gI (rI T 78 (wayG S T lt th one last P j)) o = gI S o := fun o h => by rw [gI_rI_ne (by omega), hT o h]
      have hf2 : FewOk S lt th last 30 (rI T 78 (wayG S T lt th one last P j)) := fun k v a b => by rw [gI_rI_ne (by decide)]; exact hf k v a b
      have hP2 : gI (rI T 78 (wayG S T lt th one last P j)) 76 2 = nI P := by rw [gI_rI_ne (by decide), hP]
      have loop2 : ∀ (k2 : Nat) (q : Nat), (j < P) → (q ≤ 5) → (5 < q + k2) → (fstF (fun q => byN S lt th last (atN S lt th one last P j) q (P - j - 1) = fewN S lt th last (P - j) (atN S lt th one last P j)) q (5 - q) = atN S lt th one last P (j + 1)) → am_Ex (am_Call am_MT (d + 2)) mmX8_findWay none (fun r1 G1 => r1 = (none) ∧ G1 = am_H (rI T 78 (wayG S T lt th one last P P))) (fun _ _ _ _ _ _ => False) 22 [some (.ref 76), some (.ref 1), some (.int (nI one)), some (.int (nI (atN S lt th one last P j))), some (.int (nI (P - j))), some (.int (nI q))] [] (am_H (rI T 78 (wayG S T lt th one last P j))) 0 0 := by
        intro k2
        induction k2 with
        | zero =>
          intro q q0 q1 q2 q3
          omega
        | succ k2 ih2 =>
          intro q q0 q1 q2 q3
          have e1 : nI (P - j) * 6 + nI (atN S lt th one last P j) = nI ((P - j) * 6 + atN S lt th one last P j) := ix6
          have b1 : (nI (P - j) * 6 + nI (atN S lt th one last P j)).toNatClampNeg = (P - j) * 6 + atN S lt th one last P j := by rw [e1, nI_clamp (by omega)]
          have s5 : 0 ≤ nI (P - j) * 6 + nI (atN S lt th one last P j) := by rw [e1]; exact nI_pos' (by omega)
          have s6 : nI (P - j) * 6 + nI (atN S lt th one last P j) < Int32.ofNat 30 := by rw [e1]; exact nI_lt (by omega) (by omega)
          have f1 : gI (rI T 78 (wayG S T lt th one last P j)) 77 (nI (P - j) * 6 + nI (atN S lt th one last P j)).toNatClampNeg = nI (fewN S lt th last (P - j) (atN S lt th one last P j)) := by
            rw [b1]
            exact hf2 (P - j) _ hat (by omega)
          have g1 := fewN_le (S := S) (lt := lt) (th := th) (hp last hl).2.1 (P - j) (atN S lt th one last P j)
          have c1 : nI P - nI (P - j) = nI j := by rw [pk_sub (by omega), show P - (P - j) = j by omega]
          have b2 : (gI (rI T 78 (wayG S T lt th one last P j)) 76 2 - nI (P - j)).toNatClampNeg = j := by rw [hP2, c1, nI_clamp (by omega)]
          have s7 : 0 ≤ gI (rI T 78 (wayG S T lt th one last P j)) 76 2 - nI (P - j) := by rw [hP2, c1]; exact nI_pos' (by omega)
          have s8 : gI (rI T 78 (wayG S T lt th one last P j)) 76 2 - nI (P - j) < Int32.ofNat 4 := by rw [hP2, c1]; exact nI_lt (by omega) (by omega)
          have ct : q < 6 → ∀ {d : Nat}, am_CT (d + 2) iX8_minutesBy [.ref 76, .ref 1, .int (nI (atN S lt th one last P j)), .int (nI q), .int (nI (P - j))] (rI T 78 (wayG S T lt th one last P j)) (some (.int (nI (byN S lt th last (atN S lt th one last P j) q (P - j - 1))))) (rI T 78 (wayG S T lt th one last P j)) := fun hq {d} => by
            have e := ct_X8_minutesBy (d := d) (k := P - j - 1) (v := atN S lt th one last P j) (q := q) (i := 30) hp hT2 hf2 (by omega) hat hq (by omega) hl
            rw [show P - j - 1 + 1 = P - j by omega] at e
            exact e
          have m1 : nI (P - j) + -1 = nI (P - (j + 1)) := by rw [nI_m1 (by omega)]; congr 1
          have st : q = atN S lt th one last P (j + 1) → uI (rI T 78 (wayG S T lt th one last P j)) 78 j (nI q) = rI T 78 (wayG S T lt th one last P (j + 1)) := fun h => by rw [h, uI_rIs, wayG_up]
          refine r_iload rfl rfl ?_
          refine r_iconst rfl ?_
          refine r_icmp_ge rfl (fun h25 => ?_) (fun h25 => ?_)
          · have hq : q = 5 := by
              rw [show (5 : Int32) = nI 5 from rfl, nI_leI (by omega) (by omega)] at h25
              omega
            have hq2 : q = atN S lt th one last P (j + 1) := by
              rw [← q3, hq]
              rfl
            refine r_aload_n rfl rfl ?_
            refine r_getC rfl rfl (by decide) (by decide) rfl ?_
            refine r_aload_n rfl rfl ?_
            refine r_getI rfl rfl (by decide) (by decide) rfl ?_
            refine r_iload rfl rfl ?_
            refine r_isub rfl ?_
            refine r_iload rfl rfl ?_
            refine r_iast rfl rfl (by first | decide | assumption) (by first | exact s5 | exact s6 | exact s7 | exact s8) (by first | exact s5 | exact s6 | exact s7 | exact s8) ?_
            refine r_iload rfl rfl ?_
            refine r_istore_n (L2 := [_, _, _, _, _, _]) rfl rfl ?_
            refine r_iinc (L2 := [_, _, _, _, _, _]) rfl rfl rfl ?_
            refine r_goto rfl ?_
            rw [b2, st hq2, m1, hq2]
            exact ih (j + 1) _ (by omega) (by omega)
          · rw [show (5 : Int32) = nI 5 from rfl, nI_leI (by omega) (by omega)] at h25
            obtain ⟨f, hf5⟩ : ∃ f, 5 - q = f + 1 := ⟨4 - q, by omega⟩
            have g2 := byN_le (S := S) (v := atN S lt th one last P j) (q := q) (k := P - j - 1) hp hl (by omega)
            rw [hf5, fstF] at q3
            refine r_aload_n rfl rfl ?_
            refine r_aload_n rfl rfl ?_
            refine r_iload_n rfl rfl ?_
            refine r_iload rfl rfl ?_
            refine r_iload rfl rfl ?_
            refine r_callV rfl (ct (by omega)) rfl rfl rfl (by decide) rfl (am_cnt rfl) ?_
            refine r_aload_n rfl rfl ?_
            refine r_getC rfl rfl (by decide) (by decide) rfl ?_
            refine r_iload rfl rfl ?_
            refine r_bipush rfl ?_
            refine r_imul rfl ?_
            refine r_iload_n rfl rfl ?_
            refine r_iadd rfl ?_
            refine r_iald rfl rfl (by first | decide | assumption) (by first | exact s5 | exact s6 | exact s7 | exact s8) (by first | exact s5 | exact s6 | exact s7 | exact s8) ?_
            rw [f1]
            refine r_icmp_eq rfl (fun h50 => ?_) (fun h50 => ?_)
            · have h50b : byN S lt th last (atN S lt th one last P j) q (P - j - 1) = fewN S lt th last (P - j) (atN S lt th one last P j) := nI_inj (by omega) (by omega) h50
              rw [if_pos h50b] at q3
              have hq2 := q3
              refine r_aload_n rfl rfl ?_
              refine r_getC rfl rfl (by decide) (by decide) rfl ?_
              refine r_aload_n rfl rfl ?_
              refine r_getI rfl rfl (by decide) (by decide) rfl ?_
              refine r_iload rfl rfl ?_
              refine r_isub rfl ?_
              refine r_iload rfl rfl ?_
              refine r_iast rfl rfl (by first | decide | assumption) (by first | exact s5 | exact s6 | exact s7 | exact s8) (by first | exact s5 | exact s6 | exact s7 | exact s8) ?_
              refine r_iload rfl rfl ?_
              refine r_istore_n (L2 := [_, _, _, _, _, _]) rfl rfl ?_
              refine r_iinc (L2 := [_, _, _, _, _, _]) rfl rfl rfl ?_
              refine r_goto rfl ?_
              rw [b2, st hq2, m1, hq2]
              exact ih (j + 1) _ (by omega) (by omega)
            · have h50b : ¬ byN S lt th last (atN S lt th one last P j) q (P - j - 1) = fewN S lt th last (P - j) (atN S lt th one last P j) := fun z => h50 (congrArg nI z)
              rw [if_neg h50b] at q3
              refine r_iinc (L2 := [_, _, _, _, _, _]) rfl rfl rfl ?_
              refine r_goto rfl ?_
              rw [nI_1]
              exact ih2 (q + 1) q0 (by omega) (by omega) (by rw [show 5 - (q + 1) = f by omega]; exact q3)
      have w1 : nI (P - j) ≤ 4 := nI_le (b := 4) (by omega) (by omega)
      refine r_iload rfl rfl ?_
      refine r_if_le rfl (fun h10 => ?_) (fun h10 => ?_)
      · have hj : j = P := by
          rw [show (0 : Int32) = nI 0 from rfl, nI_leI (by omega) (by omega)] at h10
          omega
        rw [hj]
        refine r_vret rfl ?_
        exact ⟨rfl, rfl⟩
      · have hj : j < P := by
          rw [show (0 : Int32) = nI 0 from rfl, nI_leI (by omega) (by omega)] at h10
          omega
        refine r_iload rfl rfl ?_
        refine r_iconst rfl ?_
        refine r_icmp_gt rfl (fun h16 => ?_) (fun h16 => ?_)
        · exact absurd w1 (Int32.not_le.mpr h16)
        · refine r_iconst rfl ?_
          refine r_istore (L2 := [_, _, _, _, _, _]) rfl rfl ?_
          exact loop2 6 0 hj (by omega) (by omega) rfl
  refine r_iload_n rfl rfl ?_
  refine r_istore_n (L2 := [_, _, _, _, _, _]) rfl rfl ?_
  refine r_aload_n rfl rfl ?_
  refine r_getI rfl rfl (by decide) (by decide) rfl ?_
  refine r_istore (L2 := [_, _, _, _, _, _]) rfl rfl ?_
  rw [hP]
  have e := loop (P + 1) 0 none (by omega) (by omega)
  rw [wayG_0, rI_id] at e
  exact e
theorem hasP_one {S : am_S} {n p : Nat} (hn : gI S 1 1 = nI n) (hz : n ≤ 6) (hp : p < n) : b01 (hasP S (nI p)) = 1 := b01_t (hasP_nI hn hz hp)
def bstP (S : am_S) (lt th : Nat → Nat) (one last : Nat) : Nat := (bstW S lt th one last 4).2
theorem bstP_le {S : am_S} {lt th : Nat → Nat} {one last : Nat} (hp : PplOk lt th S) (hl : last < 6) : bstP S lt th one last ≤ 4 := (bstN_le _ (fun k => fewN_le (hp last hl).2.1 k one) 4).2
def wayS (S : am_S) (lt th : Nat → Nat) (one last : Nat) : am_S := rI (minuS S lt th one last 4) 78 (wayG S (minuS S lt th one last 4) lt th one last (bstP S lt th one last) (bstP S lt th one last))
def telS (S : am_S) (lt th : Nat → Nat) (one last : Nat) : Nat → am_S
  | 0 => uI (wayS S lt th one last) 74 1 0
  | j + 1 => tAdd (telS S lt th one last j) (nI (atN S lt th one last (bstP S lt th one last) (j + 1))).toInt64 j
theorem telS_ne {S : am_S} {lt th : Nat → Nat} {one last a : Nat} (h : a ≠ 74) : ∀ j, gI (telS S lt th one last j) a = gI (wayS S lt th one last) a
  | 0 => by rw [telS, gI_uI_ne h]
  | j + 1 => by rw [telS, tAdd, gI_uI_ne h, gI_uJ_f, telS_ne h j]
theorem telS_n {S : am_S} {lt th : Nat → Nat} {one last : Nat} : ∀ j, gI (telS S lt th one last j) 74 1 = nI j
  | 0 => by
    rw [telS, gI_uI, if_pos rfl, if_pos rfl]
    rfl
  | j + 1 => by rw [telS, tAdd_n]
theorem ct_X10_says_no {d : Nat} {S : am_S} {p q : Int32} (h : ¬ twoP S p q) : am_CT (d + 5) iX10_says [.ref 0, .int p, .int q] S (some (.int (-1))) (S) := by
  refine am_CT_in mmX10_says rfl rfl rfl ?_
  refine r_aload_n rfl rfl ?_
  refine r_getC rfl rfl (by decide) (by decide) rfl ?_
  refine r_iload_n rfl rfl ?_
  refine r_iload_n rfl rfl ?_
  refine r_callV rfl ct_X9_hasTwo rfl rfl rfl (by decide) rfl (am_cnt rfl) ?_
  refine r_if_ne rfl (fun h9 => ?_) (fun h9 => ?_)
  · exact (h9 (b01_f (h))).elim
  · refine r_iconst rfl ?_
    refine r_iret rfl rfl ?_
    exact ⟨rfl, rfl⟩
theorem nI_inj20 : True := trivial
theorem ct_X10_says_ok {d : Nat} {S : am_S} {lt th : Nat → Nat} {n one last : Nat} (hn : gI S 1 1 = nI n) (hz : n ≤ 6) (hp : PplOk lt th S) (h1 : one < n) (hl : last < n) (hne : one ≠ last) : am_CT (d + 5) iX10_says [.ref 0, .int (nI one), .int (nI last)] S (some (.int (minuV S lt th one last))) ((if minuV S lt th one last = -2 then minuS S lt th one last 4 else telS S lt th one last (bstP S lt th one last))) := by
  refine am_CT_in mmX10_says rfl rfl rfl ?_
  have hl6 : last < 6 := by omega
  have two := two_nI hn hz h1 hl hne
  have hb := bstP_le (one := one) hp hl6
  have hT : ∀ o, o < 18 → gI (minuS S lt th one last 4) o = gI S o := fun o h => minuS_ne (by omega) (by omega)
  have hf : FewOk S lt th last 30 (minuS S lt th one last 4) := fun k v a b => by
    rw [minuS, gI_uI_ne (by decide)]
    exact fewG_ok k v a b
  have hP : gI (minuS S lt th one last 4) 76 2 = nI (bstP S lt th one last) := by
    rw [minuS, gI_uI, if_pos rfl, if_pos rfl]
    rfl
  have hPj : ∀ j, gI (telS S lt th one last j) 76 2 = nI (bstP S lt th one last) := fun j => by
    rw [telS_ne (by decide), wayS, gI_rI_ne (by decide), hP]
  have loop : ∀ (k : Nat) (j : Nat), (¬ minuV S lt th one last = -2) → (j ≤ bstP S lt th one last) → (bstP S lt th one last < j + k) → am_Ex (am_Call am_MT (d + 4)) mmX10_says none (fun r1 G1 => r1 = (some (.int (minuV S lt th one last))) ∧ G1 = am_H ((if minuV S lt th one last = -2 then minuS S lt th one last 4 else telS S lt th one last (bstP S lt th one last)))) (fun _ _ _ _ _ _ => False) 56 [some (.ref 0), some (.int (nI one)), some (.int (nI last)), some (.int (minuV S lt th one last)), some (.int (nI j))] [] (am_H (telS S lt th one last j)) 0 0 := by
    intro k
    induction k with
    | zero =>
      intro j q0 q1 q2
      omega
    | succ k ih =>
      intro j q0 q1 q2
      have b1 : (nI j).toNatClampNeg = j := nI_clamp (by omega)
      have s1 : 0 ≤ nI j := nI_pos' (by omega)
      have w1 : j < bstP S lt th one last → gI (telS S lt th one last j) 78 (nI j).toNatClampNeg = nI (atN S lt th one last (bstP S lt th one last) (j + 1)) := fun h => by
        rw [b1, telS_ne (by decide), wayS, gI_rI_eq, wayG, if_pos h]
      refine r_iload rfl rfl ?_
      refine r_aload_n rfl rfl ?_
      refine r_getC rfl rfl (by decide) (by decide) rfl ?_
      refine r_getI rfl rfl (by decide) (by decide) rfl ?_
      refine r_icmp_ge rfl (fun h65 => ?_) (fun h65 => ?_)
      · rw [hPj, nI_leI (by omega) (by omega)] at h65
        have hj : j = bstP S lt th one last := by omega
        rw [if_neg q0, hj]
        refine r_iload_n rfl rfl ?_
        refine r_iret rfl rfl ?_
        exact ⟨rfl, rfl⟩
      · rw [hPj, nI_leI (by omega) (by omega)] at h65
        have s2 : nI j < Int32.ofNat 4 := nI_lt (by omega) (by omega)
        refine r_aload_n rfl rfl ?_
        refine r_getC rfl rfl (by decide) (by decide) rfl ?_
        refine r_aload_n rfl rfl ?_
        refine r_getC rfl rfl (by decide) (by decide) rfl ?_
        refine r_getC rfl rfl (by decide) (by decide) rfl ?_
        refine r_iload rfl rfl ?_
        refine r_iald rfl rfl (by first | decide | assumption) (by first | exact s1 | exact s2) (by first | exact s1 | exact s2) ?_
        rw [w1 (by omega)]
        refine r_i2l rfl ?_
        refine r_callV rfl (ct_X7_add (telS_n j) (by omega)) rfl rfl rfl (by decide) rfl (am_cnt rfl) ?_
        refine r_iinc (L2 := [_, _, _, _, _]) rfl rfl rfl ?_
        refine r_goto rfl ?_
        rw [nI_1]
        exact ih (j + 1) q0 (by omega) (by omega)
  refine r_aload_n rfl rfl ?_
  refine r_getC rfl rfl (by decide) (by decide) rfl ?_
  refine r_iload_n rfl rfl ?_
  refine r_iload_n rfl rfl ?_
  refine r_callV rfl ct_X9_hasTwo rfl rfl rfl (by decide) rfl (am_cnt rfl) ?_
  refine r_if_ne rfl (fun h9 => ?_) (fun h9 => ?_)
  · refine r_aload_n rfl rfl ?_
    refine r_getC rfl rfl (by decide) (by decide) rfl ?_
    refine r_aload_n rfl rfl ?_
    refine r_getC rfl rfl (by decide) (by decide) rfl ?_
    refine r_iload_n rfl rfl ?_
    refine r_iload_n rfl rfl ?_
    refine r_callV rfl (ct_X8_minutes hn hz hp h1 hl hne) rfl rfl rfl (by decide) rfl (am_cnt rfl) ?_
    refine r_istore_n (L2 := [_, _, _, _, _]) rfl rfl ?_
    refine r_iload_n rfl rfl ?_
    refine r_bipush rfl ?_
    refine r_icmp_eq rfl (fun h31 => ?_) (fun h31 => ?_)
    · rw [if_pos h31]
      refine r_iload_n rfl rfl ?_
      refine r_iret rfl rfl ?_
      exact ⟨rfl, rfl⟩
    · refine r_aload_n rfl rfl ?_
      refine r_getC rfl rfl (by decide) (by decide) rfl ?_
      refine r_aload_n rfl rfl ?_
      refine r_getC rfl rfl (by decide) (by decide) rfl ?_
      refine r_iload_n rfl rfl ?_
      refine r_callV rfl (ct_X8_findWay (S := S) (last := last) hp hT hf hP hb (by omega) hl6) rfl rfl rfl (by decide) rfl (am_cnt rfl) ?_
      refine r_aload_n rfl rfl ?_
      refine r_getC rfl rfl (by decide) (by decide) rfl ?_
      refine r_callV rfl ct_X7_clear rfl rfl rfl (by decide) rfl (am_cnt rfl) ?_
      refine r_iconst rfl ?_
      refine r_istore (L2 := [_, _, _, _, _]) rfl rfl ?_
      exact loop (bstP S lt th one last + 1) 0 h31 (by omega) (by omega)
  · exact absurd (two) (b01_eq0.mp h9)
theorem ct_X10_soon_no {d : Nat} {S : am_S} {p q : Int32} (h : ¬ twoP S p q) : am_CT (d + 5) iX10_soon [.ref 0, .int p, .int q] S (some (.int (-1))) (S) := by
  refine am_CT_in mmX10_soon rfl rfl rfl ?_
  refine r_aload_n rfl rfl ?_
  refine r_getC rfl rfl (by decide) (by decide) rfl ?_
  refine r_iload_n rfl rfl ?_
  refine r_iload_n rfl rfl ?_
  refine r_callV rfl ct_X9_hasTwo rfl rfl rfl (by decide) rfl (am_cnt rfl) ?_
  refine r_if_ne rfl (fun h9 => ?_) (fun h9 => ?_)
  · exact (h9 (b01_f (h))).elim
  · refine r_iconst rfl ?_
    refine r_iret rfl rfl ?_
    exact ⟨rfl, rfl⟩
/-- asked both ways -/
def bothS (S : am_S) (lt th : Nat → Nat) (one other : Nat) : am_S := minuS (minuS S lt th one other 4) lt th other one 4
theorem bothS_ne {S : am_S} {lt th : Nat → Nat} {one other a : Nat} (h1 : a ≠ 76) (h2 : a ≠ 77) : gI (bothS S lt th one other) a = gI S a := by rw [bothS, minuS_ne h1 h2, minuS_ne h1 h2]
theorem both_ct {d : Nat} {S : am_S} {lt th : Nat → Nat} {n one other : Nat} (hn : gI S 1 1 = nI n) (hz : n ≤ 6) (hp : PplOk lt th S) (h1 : one < n) (hl : other < n) (hne : one ≠ other) : am_CT (d + 4) iX8_minutes [.ref 76, .ref 1, .int (nI other), .int (nI one)] (minuS S lt th one other 4) (some (.int (minuV S lt th other one))) (bothS S lt th one other) := by
  have hT : ∀ o, o < 18 → gI (minuS S lt th one other 4) o = gI S o := fun o h => minuS_ne (by omega) (by omega)
  have e := ct_X8_minutes (d := d) (S := minuS S lt th one other 4) (one := other) (last := one) ((congrFun (hT 1 (by decide)) 1).trans hn) hz (pplOk_congr hT hp) hl h1 hne.symm
  rw [minuV_congr hT (by omega) (by omega)] at e
  exact e
abbrev seesP (S : am_S) (p q : Nat) : Prop := fBit (gI S (6 + 2 * p) 4) (nI q)
theorem seen_ct {d : Nat} {S T : am_S} {n p q : Nat} (hn : gI S 1 1 = nI n) (hz : n ≤ 6) (h1 : p < n) (hl : q < n) (hne : p ≠ q) (hT : ∀ o, o < 18 → gI T o = gI S o) : am_CT (d + 3) iX9_isSeen [.ref 1, .int (nI p), .int (nI q)] T (some (.int (b01 (seesP S p q)))) T := by
  have hn2 : gI T 1 1 = nI n := (congrFun (hT 1 (by decide)) 1).trans hn
  have e := ct_X9_isSeen (d := d) (S := T) (p := nI p) (q := nI q) (by rw [hn2]; exact nI_le (b := 6) hz (by omega))
  have e2 : b01 (twoP T (nI p) (nI q) ∧ fBit (gI T (cP (nI p)) 4) (nI q)) = b01 (seesP S p q) := by
    have h3 : cP (nI p) = 6 + 2 * p := by unfold cP; rw [nI_clamp (by omega)]
    rw [h3, hT (6 + 2 * p) (by omega)]
    have two := two_nI hn2 hz h1 hl hne
    by_cases hs : seesP S p q
    · rw [b01_t hs, b01_t ⟨two, hs⟩]
    · rw [b01_f hs, b01_f (fun z => hs z.2)]
  rw [e2] at e
  exact e
theorem near_ct {d : Nat} {S T : am_S} {n p q : Nat} (hn : gI S 1 1 = nI n) (hz : n ≤ 6) (h1 : p < n) (hl : q < n) (hne : p ≠ q) (hT : ∀ o, o < 18 → gI T o = gI S o) : am_CT (d + 3) iX9_isNear [.ref 1, .int (nI p), .int (nI q)] T (some (.int (b01 (nearP S p q)))) T := by
  have hn2 : gI T 1 1 = nI n := (congrFun (hT 1 (by decide)) 1).trans hn
  have e := ct_X9_isNear (d := d) (S := T) (p := nI p) (q := nI q) (by rw [hn2]; exact nI_le (b := 6) hz (by omega))
  have e2 : b01 (twoP T (nI p) (nI q) ∧ fBit (gI T (cP (nI p)) 3) (nI q)) = b01 (nearP S p q) := by
    have h3 : cP (nI p) = 6 + 2 * p := by unfold cP; rw [nI_clamp (by omega)]
    rw [h3, hT (6 + 2 * p) (by omega)]
    have two := two_nI hn2 hz h1 hl hne
    by_cases hs : nearP S p q
    · rw [b01_t hs, b01_t ⟨two, hs⟩]
    · rw [b01_f hs, b01_f (fun z => hs z.2)]
  rw [e2] at e
  exact e
def soonV (S : am_S) (lt th : Nat → Nat) (one other : Nat) : Int32 := if minuV S lt th one other = -2 ∨ (¬ seesP S one other ∧ minuV S lt th other one = -2) then -2 else minuV S lt th one other + nI (th other) + (if seesP S one other then 0 else minuV S lt th other one)
theorem ct_X10_soon_ok {d : Nat} {S : am_S} {lt th : Nat → Nat} {n one other : Nat} (hn : gI S 1 1 = nI n) (hz : n ≤ 6) (hp : PplOk lt th S) (h1 : one < n) (hl : other < n) (hne : one ≠ other) : am_CT (d + 5) iX10_soon [.ref 0, .int (nI one), .int (nI other)] S (some (.int (soonV S lt th one other))) ((if minuV S lt th one other = -2 ∨ (¬ seesP S one other ∧ minuV S lt th other one = -2) then bothS S lt th one other else t1 (bothS S lt th one other) (if seesP S one other then 1 else 0))) := by
  refine am_CT_in mmX10_soon rfl rfl rfl ?_
  have two := two_nI hn hz h1 hl hne
  have hT : ∀ o, o < 18 → gI (bothS S lt th one other) o = gI S o := fun o h => bothS_ne (by omega) (by omega)
  have bo : (nI other).toNatClampNeg = other := nI_clamp (by omega)
  have s1 : 0 ≤ nI other := nI_pos' (by omega)
  have s2 : nI other < Int32.ofNat 6 := nI_lt (by omega) (by omega)
  have hth : ∀ x : Int64, gI (t1 (bothS S lt th one other) x) (6 + 2 * (nI other).toNatClampNeg) 2 = nI (th other) := fun x => by
    rw [bo, t1_ne (by omega), bothS_ne (by omega) (by omega), (hp other (by omega)).2.2.1]
  have cs : ∀ P : Prop, ∀ [Decidable P], ∀ (a b : Int32) (A B : am_S), P → (if P then a else b) = a ∧ (if P then A else B) = A := fun P _ a b A B h => ⟨if_pos h, if_pos h⟩
  have cn : ∀ P : Prop, ∀ [Decidable P], ∀ (a b : Int32) (A B : am_S), ¬ P → (if P then a else b) = b ∧ (if P then A else B) = B := fun P _ a b A B h => ⟨if_neg h, if_neg h⟩
  unfold soonV
  refine r_aload_n rfl rfl ?_
  refine r_getC rfl rfl (by decide) (by decide) rfl ?_
  refine r_iload_n rfl rfl ?_
  refine r_iload_n rfl rfl ?_
  refine r_callV rfl ct_X9_hasTwo rfl rfl rfl (by decide) rfl (am_cnt rfl) ?_
  refine r_if_ne rfl (fun h9 => ?_) (fun h9 => ?_)
  · refine r_aload_n rfl rfl ?_
    refine r_getC rfl rfl (by decide) (by decide) rfl ?_
    refine r_aload_n rfl rfl ?_
    refine r_getC rfl rfl (by decide) (by decide) rfl ?_
    refine r_iload_n rfl rfl ?_
    refine r_iload_n rfl rfl ?_
    refine r_callV rfl (ct_X8_minutes hn hz hp h1 hl hne) rfl rfl rfl (by decide) rfl (am_cnt rfl) ?_
    refine r_istore_n (L2 := [_, _, _, _, _, _]) rfl rfl ?_
    refine r_aload_n rfl rfl ?_
    refine r_getC rfl rfl (by decide) (by decide) rfl ?_
    refine r_aload_n rfl rfl ?_
    refine r_getC rfl rfl (by decide) (by decide) rfl ?_
    refine r_iload_n rfl rfl ?_
    refine r_iload_n rfl rfl ?_
    refine r_callV rfl (both_ct hn hz hp h1 hl hne) rfl rfl rfl (by decide) rfl (am_cnt rfl) ?_
    refine r_istore (L2 := [_, _, _, _, _, _]) rfl rfl ?_
    refine r_aload_n rfl rfl ?_
    refine r_getC rfl rfl (by decide) (by decide) rfl ?_
    refine r_iload_n rfl rfl ?_
    refine r_iload_n rfl rfl ?_
    refine r_callV rfl (seen_ct hn hz h1 hl hne hT) rfl rfl rfl (by decide) rfl (am_cnt rfl) ?_
    refine r_istore (L2 := [_, _, _, _, _, _]) rfl rfl ?_
    refine r_iload_n rfl rfl ?_
    refine r_bipush rfl ?_
    refine r_icmp_eq rfl (fun h57 => ?_) (fun h57 => ?_)
    · have hc : minuV S lt th one other = -2 ∨ (¬ seesP S one other ∧ minuV S lt th other one = -2) := Or.inl h57
      refine r_bipush rfl ?_
      refine r_iret rfl rfl ?_
      rw [(cs _ _ _ S S hc).1, (cs _ 0 0 _ _ hc).2]
      exact ⟨rfl, rfl⟩
    · refine r_iload rfl rfl ?_
      refine r_if_ne rfl (fun h62 => ?_) (fun h62 => ?_)
      · have hs : seesP S one other := Decidable.not_not.mp fun z => h62 (b01_f z)
        have hc : ¬ (minuV S lt th one other = -2 ∨ (¬ seesP S one other ∧ minuV S lt th other one = -2)) := fun z => z.elim h57 (fun y => y.1 hs)
        refine r_aload_n rfl rfl ?_
        refine r_getC rfl rfl (by decide) (by decide) rfl ?_
        refine r_iload rfl rfl ?_
        refine r_if_eq rfl (fun h81 => ?_) (fun h81 => ?_)
        · exact absurd hs (b01_eq0.mp h81)
        · refine r_lconst rfl ?_
          refine r_goto rfl ?_
          refine r_callV rfl ct_X7_tellOne rfl rfl rfl (by decide) rfl (am_cnt rfl) ?_
          refine r_iload_n rfl rfl ?_
          refine r_aload_n rfl rfl ?_
          refine r_getC rfl rfl (by decide) (by decide) rfl ?_
          refine r_getC rfl rfl (by decide) (by decide) rfl ?_
          refine r_iload_n rfl rfl ?_
          refine r_aaldP rfl rfl (by first | exact s1 | exact s2) (by first | exact s1 | exact s2) ?_
          refine r_getI rfl (by rw [bo]; exact kn_person (by omega)) (by decide) (by decide) rfl ?_
          refine r_iadd rfl ?_
          refine r_iload rfl rfl ?_
          refine r_if_eq rfl (fun h108 => ?_) (fun h108 => ?_)
          · exact absurd hs (b01_eq0.mp h108)
          · refine r_iconst rfl ?_
            refine r_goto rfl ?_
            refine r_iadd rfl ?_
            refine r_iret rfl rfl ?_
            rw [(cn _ _ _ S S hc).1, (cn _ 0 0 _ _ hc).2, hth]
            first | (rw [if_pos hs, if_pos hs]; exact ⟨rfl, rfl⟩) | (rw [if_neg hs, if_neg hs]; exact ⟨rfl, rfl⟩)
      · have hs := b01_eq0.mp h62
        refine r_iload rfl rfl ?_
        refine r_bipush rfl ?_
        refine r_icmp_ne rfl (fun h69 => ?_) (fun h69 => ?_)
        · have hc : ¬ (minuV S lt th one other = -2 ∨ (¬ seesP S one other ∧ minuV S lt th other one = -2)) := fun z => z.elim h57 (fun y => h69 y.2)
          refine r_aload_n rfl rfl ?_
          refine r_getC rfl rfl (by decide) (by decide) rfl ?_
          refine r_iload rfl rfl ?_
          refine r_if_eq rfl (fun h81 => ?_) (fun h81 => ?_)
          · refine r_lconst rfl ?_
            refine r_callV rfl ct_X7_tellOne rfl rfl rfl (by decide) rfl (am_cnt rfl) ?_
            refine r_iload_n rfl rfl ?_
            refine r_aload_n rfl rfl ?_
            refine r_getC rfl rfl (by decide) (by decide) rfl ?_
            refine r_getC rfl rfl (by decide) (by decide) rfl ?_
            refine r_iload_n rfl rfl ?_
            refine r_aaldP rfl rfl (by first | exact s1 | exact s2) (by first | exact s1 | exact s2) ?_
            refine r_getI rfl (by rw [bo]; exact kn_person (by omega)) (by decide) (by decide) rfl ?_
            refine r_iadd rfl ?_
            refine r_iload rfl rfl ?_
            refine r_if_eq rfl (fun h108 => ?_) (fun h108 => ?_)
            · refine r_iload rfl rfl ?_
              refine r_iadd rfl ?_
              refine r_iret rfl rfl ?_
              rw [(cn _ _ _ S S hc).1, (cn _ 0 0 _ _ hc).2, hth]
              first | (rw [if_pos hs, if_pos hs]; exact ⟨rfl, rfl⟩) | (rw [if_neg hs, if_neg hs]; exact ⟨rfl, rfl⟩)
            · exact absurd (b01_f hs) h108
          · exact absurd (b01_f hs) h81
        · have hc : minuV S lt th one other = -2 ∨ (¬ seesP S one other ∧ minuV S lt th other one = -2) := Or.inr ⟨hs, h69⟩
          refine r_bipush rfl ?_
          refine r_iret rfl rfl ?_
          rw [(cs _ _ _ S S hc).1, (cs _ 0 0 _ _ hc).2]
          exact ⟨rfl, rfl⟩
  · exact absurd (two) (b01_eq0.mp h9)
/-- how often it comes, from a count and a minute on -/
def knwN (A B tp tq m : Nat) : Nat → Nat → Nat → Nat
  | 0, c, _ => c
  | f + 1, c, t => if c < 99 ∧ t ≤ m then knwN A B tp tq m f (c + 1) (if (c + 1) % 2 = 1 then t + (tq + B) else t + (tp + A)) else c
def knowV (S : am_S) (lt th : Nat → Nat) (one other m : Nat) : Int32 := if minuV S lt th one other = -2 ∨ minuV S lt th other one = -2 then 0 else nI (knwN (bstW S lt th one other 4).1 (bstW S lt th other one 4).1 (th one) (th other) m 100 0 (bstW S lt th one other 4).1)
theorem minuV_nI {S : am_S} {lt th : Nat → Nat} {one last : Nat} (hp : PplOk lt th S) (hl : last < 6) (h : ¬ minuV S lt th one last = -2) : minuV S lt th one last = nI (bstW S lt th one last 4).1 ∧ (bstW S lt th one last 4).1 < 1000000 := by
  unfold minuV at h ⊢
  by_cases hc : 1000000 ≤ (bstW S lt th one last 4).1
  · rw [if_pos hc] at h
    exact absurd rfl h
  · rw [if_neg hc]
    exact ⟨rfl, by omega⟩
theorem ct_X10_know_no {d : Nat} {S : am_S} {p q m : Int32} (h : ¬ (twoP S p q ∧ 0 ≤ m ∧ m ≤ 199)) : am_CT (d + 5) iX10_know [.ref 0, .int p, .int q, .int m] S (some (.int (-1))) (S) := by
  refine am_CT_in mmX10_know rfl rfl rfl ?_
  refine r_aload_n rfl rfl ?_
  refine r_getC rfl rfl (by decide) (by decide) rfl ?_
  refine r_iload_n rfl rfl ?_
  refine r_iload_n rfl rfl ?_
  refine r_callV rfl ct_X9_hasTwo rfl rfl rfl (by decide) rfl (am_cnt rfl) ?_
  refine r_if_eq rfl (fun h9 => ?_) (fun h9 => ?_)
  · refine r_iconst rfl ?_
    refine r_iret rfl rfl ?_
    exact ⟨rfl, rfl⟩
  · refine r_iload_n rfl rfl ?_
    refine r_iconst rfl ?_
    refine r_sipush rfl ?_
    refine r_callS rfl (by decide) ct_X10_isWithin rfl rfl (am_cnt rfl) ?_
    refine r_if_ne rfl (fun h20 => ?_) (fun h20 => ?_)
    · exfalso
      simp only [b01_eq0] at *
      grind
    · refine r_iconst rfl ?_
      refine r_iret rfl rfl ?_
      exact ⟨rfl, rfl⟩
theorem ct_X10_know_all {d : Nat} {S : am_S} {n one other m : Nat} (hn : gI S 1 1 = nI n) (hz : n ≤ 6) (h1 : one < n) (hl : other < n) (hne : one ≠ other) (hm : m ≤ 199) (hs : seesP S one other ∧ seesP S other one) : am_CT (d + 5) iX10_know [.ref 0, .int (nI one), .int (nI other), .int (nI m)] S (some (.int 99)) (S) := by
  refine am_CT_in mmX10_know rfl rfl rfl ?_
  have two := two_nI hn hz h1 hl hne
  have c1 : 0 ≤ nI m ∧ nI m ≤ 199 := ⟨nI_pos' (by omega), nI_le (b := 199) hm (by omega)⟩
  refine r_aload_n rfl rfl ?_
  refine r_getC rfl rfl (by decide) (by decide) rfl ?_
  refine r_iload_n rfl rfl ?_
  refine r_iload_n rfl rfl ?_
  refine r_callV rfl ct_X9_hasTwo rfl rfl rfl (by decide) rfl (am_cnt rfl) ?_
  refine r_if_eq rfl (fun h9 => ?_) (fun h9 => ?_)
  · exact absurd (two) (b01_eq0.mp h9)
  · refine r_iload_n rfl rfl ?_
    refine r_iconst rfl ?_
    refine r_sipush rfl ?_
    refine r_callS rfl (by decide) ct_X10_isWithin rfl rfl (am_cnt rfl) ?_
    refine r_if_ne rfl (fun h20 => ?_) (fun h20 => ?_)
    · refine r_aload_n rfl rfl ?_
      refine r_getC rfl rfl (by decide) (by decide) rfl ?_
      refine r_iload_n rfl rfl ?_
      refine r_iload_n rfl rfl ?_
      refine r_callV rfl (seen_ct hn hz h1 hl hne (fun _ _ => rfl)) rfl rfl rfl (by decide) rfl (am_cnt rfl) ?_
      refine r_if_eq rfl (fun h34 => ?_) (fun h34 => ?_)
      · exact absurd (hs.1) (b01_eq0.mp h34)
      · refine r_aload_n rfl rfl ?_
        refine r_getC rfl rfl (by decide) (by decide) rfl ?_
        refine r_iload_n rfl rfl ?_
        refine r_iload_n rfl rfl ?_
        refine r_callV rfl (seen_ct hn hz hl h1 hne.symm (fun _ _ => rfl)) rfl rfl rfl (by decide) rfl (am_cnt rfl) ?_
        refine r_if_eq rfl (fun h46 => ?_) (fun h46 => ?_)
        · exact absurd (hs.2) (b01_eq0.mp h46)
        · refine r_bipush rfl ?_
          refine r_iret rfl rfl ?_
          exact ⟨rfl, rfl⟩
    · exact absurd (c1) (b01_eq0.mp h20)
theorem ct_X10_know_ok {d : Nat} {S : am_S} {lt th : Nat → Nat} {n one other m : Nat} (hn : gI S 1 1 = nI n) (hz : n ≤ 6) (hp : PplOk lt th S) (h1 : one < n) (hl : other < n) (hne : one ≠ other) (hm : m ≤ 199) (hs : ¬ (seesP S one other ∧ seesP S other one)) : am_CT (d + 5) iX10_know [.ref 0, .int (nI one), .int (nI other), .int (nI m)] S (some (.int (knowV S lt th one other m))) (bothS S lt th one other) := by
  refine am_CT_in mmX10_know rfl rfl rfl ?_
  have two := two_nI hn hz h1 hl hne
  have c1 : 0 ≤ nI m ∧ nI m ≤ 199 := ⟨nI_pos' (by omega), nI_le (b := 199) hm (by omega)⟩
  have hT : ∀ o, o < 18 → gI (bothS S lt th one other) o = gI S o := fun o h => bothS_ne (by omega) (by omega)
  have bo : (nI other).toNatClampNeg = other := nI_clamp (by omega)
  have bp : (nI one).toNatClampNeg = one := nI_clamp (by omega)
  have s1 : 0 ≤ nI other := nI_pos' (by omega)
  have s2 : nI other < Int32.ofNat 6 := nI_lt (by omega) (by omega)
  have s3 : 0 ≤ nI one := nI_pos' (by omega)
  have s4 : nI one < Int32.ofNat 6 := nI_lt (by omega) (by omega)
  have q3 := hp one (by omega)
  have q4 := hp other (by omega)
  have g1 : gI (bothS S lt th one other) (6 + 2 * one) 2 = nI (th one) := by rw [hT _ (by omega), q3.2.2.1]
  have g2 : gI (bothS S lt th one other) (6 + 2 * other) 2 = nI (th other) := by rw [hT _ (by omega), q4.2.2.1]
  by_cases hc : minuV S lt th one other = -2 ∨ minuV S lt th other one = -2
  · rw [knowV, if_pos hc]
    refine r_aload_n rfl rfl ?_
    refine r_getC rfl rfl (by decide) (by decide) rfl ?_
    refine r_iload_n rfl rfl ?_
    refine r_iload_n rfl rfl ?_
    refine r_callV rfl ct_X9_hasTwo rfl rfl rfl (by decide) rfl (am_cnt rfl) ?_
    refine r_if_eq rfl (fun h9 => ?_) (fun h9 => ?_)
    · exact absurd (two) (b01_eq0.mp h9)
    · refine r_iload_n rfl rfl ?_
      refine r_iconst rfl ?_
      refine r_sipush rfl ?_
      refine r_callS rfl (by decide) ct_X10_isWithin rfl rfl (am_cnt rfl) ?_
      refine r_if_ne rfl (fun h20 => ?_) (fun h20 => ?_)
      · refine r_aload_n rfl rfl ?_
        refine r_getC rfl rfl (by decide) (by decide) rfl ?_
        refine r_iload_n rfl rfl ?_
        refine r_iload_n rfl rfl ?_
        refine r_callV rfl (seen_ct hn hz h1 hl hne (fun _ _ => rfl)) rfl rfl rfl (by decide) rfl (am_cnt rfl) ?_
        refine r_if_eq rfl (fun h34 => ?_) (fun h34 => ?_)
        · refine r_aload_n rfl rfl ?_
          refine r_getC rfl rfl (by decide) (by decide) rfl ?_
          refine r_aload_n rfl rfl ?_
          refine r_getC rfl rfl (by decide) (by decide) rfl ?_
          refine r_iload_n rfl rfl ?_
          refine r_iload_n rfl rfl ?_
          refine r_callV rfl (ct_X8_minutes hn hz hp h1 hl hne) rfl rfl rfl (by decide) rfl (am_cnt rfl) ?_
          refine r_istore (L2 := [_, _, _, _, _, _, _, _, _]) rfl rfl ?_
          refine r_aload_n rfl rfl ?_
          refine r_getC rfl rfl (by decide) (by decide) rfl ?_
          refine r_aload_n rfl rfl ?_
          refine r_getC rfl rfl (by decide) (by decide) rfl ?_
          refine r_iload_n rfl rfl ?_
          refine r_iload_n rfl rfl ?_
          refine r_callV rfl (both_ct hn hz hp h1 hl hne) rfl rfl rfl (by decide) rfl (am_cnt rfl) ?_
          refine r_istore (L2 := [_, _, _, _, _, _, _, _, _]) rfl rfl ?_
          refine r_iload rfl rfl ?_
          refine r_bipush rfl ?_
          refine r_icmp_eq rfl (fun h86 => ?_) (fun h86 => ?_)
          · refine r_iconst rfl ?_
            refine r_iret rfl rfl ?_
            exact ⟨rfl, rfl⟩
          · refine r_iload rfl rfl ?_
            refine r_bipush rfl ?_
            refine r_icmp_ne rfl (fun h93 => ?_) (fun h93 => ?_)
            · exact absurd hc (fun z => z.elim h86 h93)
            · refine r_iconst rfl ?_
              refine r_iret rfl rfl ?_
              exact ⟨rfl, rfl⟩
        · refine r_aload_n rfl rfl ?_
          refine r_getC rfl rfl (by decide) (by decide) rfl ?_
          refine r_iload_n rfl rfl ?_
          refine r_iload_n rfl rfl ?_
          refine r_callV rfl (seen_ct hn hz hl h1 hne.symm (fun _ _ => rfl)) rfl rfl rfl (by decide) rfl (am_cnt rfl) ?_
          refine r_if_eq rfl (fun h46 => ?_) (fun h46 => ?_)
          · refine r_aload_n rfl rfl ?_
            refine r_getC rfl rfl (by decide) (by decide) rfl ?_
            refine r_aload_n rfl rfl ?_
            refine r_getC rfl rfl (by decide) (by decide) rfl ?_
            refine r_iload_n rfl rfl ?_
            refine r_iload_n rfl rfl ?_
            refine r_callV rfl (ct_X8_minutes hn hz hp h1 hl hne) rfl rfl rfl (by decide) rfl (am_cnt rfl) ?_
            refine r_istore (L2 := [_, _, _, _, _, _, _, _, _]) rfl rfl ?_
            refine r_aload_n rfl rfl ?_
            refine r_getC rfl rfl (by decide) (by decide) rfl ?_
            refine r_aload_n rfl rfl ?_
            refine r_getC rfl rfl (by decide) (by decide) rfl ?_
            refine r_iload_n rfl rfl ?_
            refine r_iload_n rfl rfl ?_
            refine r_callV rfl (both_ct hn hz hp h1 hl hne) rfl rfl rfl (by decide) rfl (am_cnt rfl) ?_
            refine r_istore (L2 := [_, _, _, _, _, _, _, _, _]) rfl rfl ?_
            refine r_iload rfl rfl ?_
            refine r_bipush rfl ?_
            refine r_icmp_eq rfl (fun h86 => ?_) (fun h86 => ?_)
            · refine r_iconst rfl ?_
              refine r_iret rfl rfl ?_
              exact ⟨rfl, rfl⟩
            · refine r_iload rfl rfl ?_
              refine r_bipush rfl ?_
              refine r_icmp_ne rfl (fun h93 => ?_) (fun h93 => ?_)
              · exact absurd hc (fun z => z.elim h86 h93)
              · refine r_iconst rfl ?_
                refine r_iret rfl rfl ?_
                exact ⟨rfl, rfl⟩
          · exact absurd ⟨Decidable.not_not.mp fun z => h34 (b01_f z), Decidable.not_not.mp fun z => h46 (b01_f z)⟩ hs
      · exact absurd (c1) (b01_eq0.mp h20)
  · have kv : knowV S lt th one other m = nI (knwN (bstW S lt th one other 4).1 (bstW S lt th other one 4).1 (th one) (th other) m 100 0 (bstW S lt th one other 4).1) := by rw [knowV, if_neg hc]
    obtain ⟨mA, bA⟩ := minuV_nI hp (by omega) (fun z => hc (Or.inl z))
    obtain ⟨mB, bB⟩ := minuV_nI hp (by omega) (fun z => hc (Or.inr z))
    have loop : ∀ (k : Nat) (c : Nat) (t : Nat) (v8 : Option Value), (k + c = 101 ∧ c ≤ 99) → (t ≤ 1000000 + c * 1000010) → (knwN (bstW S lt th one other 4).1 (bstW S lt th other one 4).1 (th one) (th other) m (k - 1) c t = knwN (bstW S lt th one other 4).1 (bstW S lt th other one 4).1 (th one) (th other) m 100 0 (bstW S lt th one other 4).1) → am_Ex (am_Call am_MT (d + 4)) mmX10_know none (fun r1 G1 => r1 = (some (.int (knowV S lt th one other m))) ∧ G1 = am_H (bothS S lt th one other)) (fun _ _ _ _ _ _ => False) 105 [some (.ref 0), some (.int (nI one)), some (.int (nI other)), some (.int (nI m)), some (.int (nI (bstW S lt th one other 4).1)), some (.int (nI (bstW S lt th other one 4).1)), some (.int (nI t)), some (.int (nI c)), v8] [] (am_H (bothS S lt th one other)) 0 0 := by
      intro k
      induction k with
      | zero =>
        intro c t v8 q1 q2 q3
        omega
      | succ k ih =>
        intro c t v8 q1 q2 q3
        obtain ⟨f, hf⟩ : ∃ f, k + 1 - 1 = f + 1 := ⟨k - 1, by omega⟩
        rw [hf, knwN] at q3
        have r1 : nI (c + 1) - nI (c + 1) / 2 * 2 = nI ((c + 1) % 2) := by
          rw [show nI (c + 1) / 2 = nI ((c + 1) / 2) from pk_div (a := c + 1) (d := 2) (by omega) (by decide) (by decide), show nI ((c + 1) / 2) * 2 = nI ((c + 1) / 2 * 2) from pk_mul _ 2, pk_sub (by omega)]
          congr 1
          omega
        have en : c = 99 ∨ m < t → nI c = knowV S lt th one other m := fun h => by
          rw [kv, ← q3, if_neg (by omega)]
        refine r_iload rfl rfl ?_
        refine r_bipush rfl ?_
        refine r_icmp_ge rfl (fun h109 => ?_) (fun h109 => ?_)
        · rw [show (99 : Int32) = nI 99 from rfl, nI_leI (by omega) (by omega)] at h109
          rw [en (by omega)]
          refine r_iload rfl rfl ?_
          refine r_iret rfl rfl ?_
          exact ⟨rfl, rfl⟩
        · rw [show (99 : Int32) = nI 99 from rfl, nI_leI (by omega) (by omega)] at h109
          refine r_iload rfl rfl ?_
          refine r_iload_n rfl rfl ?_
          refine r_icmp_gt rfl (fun h115 => ?_) (fun h115 => ?_)
          · rw [nI_ltI (by omega) (by omega)] at h115
            rw [en (by omega)]
            refine r_iload rfl rfl ?_
            refine r_iret rfl rfl ?_
            exact ⟨rfl, rfl⟩
          · rw [nI_ltI (by omega) (by omega)] at h115
            rw [if_pos (by omega)] at q3
            refine r_iinc (L2 := [_, _, _, _, _, _, _, _, _]) rfl rfl rfl ?_
            refine r_iload rfl rfl ?_
            refine r_iconst rfl ?_
            refine r_irem rfl (by decide) ?_
            rw [nI_1, r1]
            refine r_iconst rfl ?_
            refine r_icmp_ne rfl (fun h126 => ?_) (fun h126 => ?_)
            · have h126b : ¬ (c + 1) % 2 = 1 := fun z => h126 (by rw [z]; rfl)
              rw [if_neg h126b] at q3
              refine r_iconst rfl ?_
              refine r_istore (L2 := [_, _, _, _, _, _, _, _, _]) rfl rfl ?_
              refine r_iload rfl rfl ?_
              refine r_iload rfl rfl ?_
              refine r_if_eq rfl (fun h140 => ?_) (fun h140 => ?_)
              · refine r_aload_n rfl rfl ?_
                refine r_getC rfl rfl (by decide) (by decide) rfl ?_
                refine r_getC rfl rfl (by decide) (by decide) rfl ?_
                refine r_iload_n rfl rfl ?_
                refine r_aaldP rfl rfl (by first | exact s1 | exact s2 | exact s3 | exact s4 | decide) (by first | exact s1 | exact s2 | exact s3 | exact s4 | decide) ?_
                refine r_getI rfl (by rw [bp]; exact kn_person (by omega)) (by decide) (by decide) rfl ?_
                refine r_iload rfl rfl ?_
                refine r_iadd rfl ?_
                refine r_iadd rfl ?_
                refine r_istore (L2 := [_, _, _, _, _, _, _, _, _]) rfl rfl ?_
                refine r_goto rfl ?_
                first | rw [bo, g2] | rw [bp, g1]
                rw [nI_add, nI_add]
                exact ih (c + 1) _ _ (by omega) (by omega) (by rw [show k - 1 = f by omega]; exact q3)
              · first | exact absurd h140 (by decide) | exact absurd (by decide) h140
            · have h126b : (c + 1) % 2 = 1 := nI_inj (b := 1) (by omega) (by omega) h126
              rw [if_pos h126b] at q3
              refine r_iconst rfl ?_
              refine r_goto rfl ?_
              refine r_istore (L2 := [_, _, _, _, _, _, _, _, _]) rfl rfl ?_
              refine r_iload rfl rfl ?_
              refine r_iload rfl rfl ?_
              refine r_if_eq rfl (fun h140 => ?_) (fun h140 => ?_)
              · first | exact absurd h140 (by decide) | exact absurd (by decide) h140
              · refine r_aload_n rfl rfl ?_
                refine r_getC rfl rfl (by decide) (by decide) rfl ?_
                refine r_getC rfl rfl (by decide) (by decide) rfl ?_
                refine r_iload_n rfl rfl ?_
                refine r_aaldP rfl rfl (by first | exact s1 | exact s2 | exact s3 | exact s4 | decide) (by first | exact s1 | exact s2 | exact s3 | exact s4 | decide) ?_
                refine r_getI rfl (by rw [bo]; exact kn_person (by omega)) (by decide) (by decide) rfl ?_
                refine r_iload rfl rfl ?_
                refine r_iadd rfl ?_
                refine r_goto rfl ?_
                refine r_iadd rfl ?_
                refine r_istore (L2 := [_, _, _, _, _, _, _, _, _]) rfl rfl ?_
                refine r_goto rfl ?_
                first | rw [bo, g2] | rw [bp, g1]
                rw [nI_add, nI_add]
                exact ih (c + 1) _ _ (by omega) (by omega) (by rw [show k - 1 = f by omega]; exact q3)
    refine r_aload_n rfl rfl ?_
    refine r_getC rfl rfl (by decide) (by decide) rfl ?_
    refine r_iload_n rfl rfl ?_
    refine r_iload_n rfl rfl ?_
    refine r_callV rfl ct_X9_hasTwo rfl rfl rfl (by decide) rfl (am_cnt rfl) ?_
    refine r_if_eq rfl (fun h9 => ?_) (fun h9 => ?_)
    · exact absurd (two) (b01_eq0.mp h9)
    · refine r_iload_n rfl rfl ?_
      refine r_iconst rfl ?_
      refine r_sipush rfl ?_
      refine r_callS rfl (by decide) ct_X10_isWithin rfl rfl (am_cnt rfl) ?_
      refine r_if_ne rfl (fun h20 => ?_) (fun h20 => ?_)
      · refine r_aload_n rfl rfl ?_
        refine r_getC rfl rfl (by decide) (by decide) rfl ?_
        refine r_iload_n rfl rfl ?_
        refine r_iload_n rfl rfl ?_
        refine r_callV rfl (seen_ct hn hz h1 hl hne (fun _ _ => rfl)) rfl rfl rfl (by decide) rfl (am_cnt rfl) ?_
        refine r_if_eq rfl (fun h34 => ?_) (fun h34 => ?_)
        · refine r_aload_n rfl rfl ?_
          refine r_getC rfl rfl (by decide) (by decide) rfl ?_
          refine r_aload_n rfl rfl ?_
          refine r_getC rfl rfl (by decide) (by decide) rfl ?_
          refine r_iload_n rfl rfl ?_
          refine r_iload_n rfl rfl ?_
          refine r_callV rfl (ct_X8_minutes hn hz hp h1 hl hne) rfl rfl rfl (by decide) rfl (am_cnt rfl) ?_
          refine r_istore (L2 := [_, _, _, _, _, _, _, _, _]) rfl rfl ?_
          refine r_aload_n rfl rfl ?_
          refine r_getC rfl rfl (by decide) (by decide) rfl ?_
          refine r_aload_n rfl rfl ?_
          refine r_getC rfl rfl (by decide) (by decide) rfl ?_
          refine r_iload_n rfl rfl ?_
          refine r_iload_n rfl rfl ?_
          refine r_callV rfl (both_ct hn hz hp h1 hl hne) rfl rfl rfl (by decide) rfl (am_cnt rfl) ?_
          refine r_istore (L2 := [_, _, _, _, _, _, _, _, _]) rfl rfl ?_
          refine r_iload rfl rfl ?_
          refine r_bipush rfl ?_
          refine r_icmp_eq rfl (fun h86 => ?_) (fun h86 => ?_)
          · exact absurd (Or.inl h86) hc
          · refine r_iload rfl rfl ?_
            refine r_bipush rfl ?_
            refine r_icmp_ne rfl (fun h93 => ?_) (fun h93 => ?_)
            · refine r_iload rfl rfl ?_
              refine r_istore (L2 := [_, _, _, _, _, _, _, _, _]) rfl rfl ?_
              refine r_iconst rfl ?_
              refine r_istore (L2 := [_, _, _, _, _, _, _, _, _]) rfl rfl ?_
              rw [mA, mB]
              exact loop 101 0 _ none (by omega) (by omega) rfl
            · exact absurd (Or.inr h93) hc
        · refine r_aload_n rfl rfl ?_
          refine r_getC rfl rfl (by decide) (by decide) rfl ?_
          refine r_iload_n rfl rfl ?_
          refine r_iload_n rfl rfl ?_
          refine r_callV rfl (seen_ct hn hz hl h1 hne.symm (fun _ _ => rfl)) rfl rfl rfl (by decide) rfl (am_cnt rfl) ?_
          refine r_if_eq rfl (fun h46 => ?_) (fun h46 => ?_)
          · refine r_aload_n rfl rfl ?_
            refine r_getC rfl rfl (by decide) (by decide) rfl ?_
            refine r_aload_n rfl rfl ?_
            refine r_getC rfl rfl (by decide) (by decide) rfl ?_
            refine r_iload_n rfl rfl ?_
            refine r_iload_n rfl rfl ?_
            refine r_callV rfl (ct_X8_minutes hn hz hp h1 hl hne) rfl rfl rfl (by decide) rfl (am_cnt rfl) ?_
            refine r_istore (L2 := [_, _, _, _, _, _, _, _, _]) rfl rfl ?_
            refine r_aload_n rfl rfl ?_
            refine r_getC rfl rfl (by decide) (by decide) rfl ?_
            refine r_aload_n rfl rfl ?_
            refine r_getC rfl rfl (by decide) (by decide) rfl ?_
            refine r_iload_n rfl rfl ?_
            refine r_iload_n rfl rfl ?_
            refine r_callV rfl (both_ct hn hz hp h1 hl hne) rfl rfl rfl (by decide) rfl (am_cnt rfl) ?_
            refine r_istore (L2 := [_, _, _, _, _, _, _, _, _]) rfl rfl ?_
            refine r_iload rfl rfl ?_
            refine r_bipush rfl ?_
            refine r_icmp_eq rfl (fun h86 => ?_) (fun h86 => ?_)
            · exact absurd (Or.inl h86) hc
            · refine r_iload rfl rfl ?_
              refine r_bipush rfl ?_
              refine r_icmp_ne rfl (fun h93 => ?_) (fun h93 => ?_)
              · refine r_iload rfl rfl ?_
                refine r_istore (L2 := [_, _, _, _, _, _, _, _, _]) rfl rfl ?_
                refine r_iconst rfl ?_
                refine r_istore (L2 := [_, _, _, _, _, _, _, _, _]) rfl rfl ?_
                rw [mA, mB]
                exact loop 101 0 _ none (by omega) (by omega) rfl
              · exact absurd (Or.inr h93) hc
          · exact absurd ⟨Decidable.not_not.mp fun z => h34 (b01_f z), Decidable.not_not.mp fun z => h46 (b01_f z)⟩ hs
      · exact absurd (c1) (b01_eq0.mp h20)
theorem maxI_ne2 {x y : Int32} (h1 : ¬ x = -2) (h2 : ¬ y = -2) : ¬ maxI x y = -2 := by
  unfold maxI
  split
  · exact h2
  · exact h1
/-- the last who hears one, -2 if one never does; what stands then -/
def hbX (S : am_S) (lt th : Nat → Nat) (one : Nat) : Nat → am_S × Int32
  | 0 => (S, 0)
  | j + 1 => if (hbX S lt th one j).2 = -2 ∨ j = one then hbX S lt th one j else (minuS (hbX S lt th one j).1 lt th one j 4, if minuV S lt th one j = -2 then -2 else maxI (hbX S lt th one j).2 (minuV S lt th one j))
theorem hbX_ne {S : am_S} {lt th : Nat → Nat} {one a : Nat} (h1 : a ≠ 76) (h2 : a ≠ 77) : ∀ j, gI (hbX S lt th one j).1 a = gI S a
  | 0 => rfl
  | j + 1 => by
    unfold hbX
    split
    · exact hbX_ne h1 h2 j
    · rw [minuS_ne h1 h2, hbX_ne h1 h2 j]
theorem hbX_end {S : am_S} {lt th : Nat → Nat} {one j : Nat} (h : (hbX S lt th one j).2 = -2) : ∀ i, hbX S lt th one (j + i) = hbX S lt th one j
  | 0 => rfl
  | i + 1 => by
    have e := hbX_end h i
    rw [show j + (i + 1) = j + i + 1 by omega, hbX, if_pos (Or.inl (by rw [e, h])), e]
theorem minu_ct {d : Nat} {S T : am_S} {lt th : Nat → Nat} {n one other : Nat} (hn : gI S 1 1 = nI n) (hz : n ≤ 6) (hp : PplOk lt th S) (h1 : one < n) (hl : other < n) (hne : one ≠ other) (hT : ∀ o, o < 18 → gI T o = gI S o) : am_CT (d + 4) iX8_minutes [.ref 76, .ref 1, .int (nI one), .int (nI other)] T (some (.int (minuV S lt th one other))) (minuS T lt th one other 4) := by
  have e := ct_X8_minutes (d := d) (S := T) (one := one) (last := other) ((congrFun (hT 1 (by decide)) 1).trans hn) hz (pplOk_congr hT hp) h1 hl hne
  rw [minuV_congr hT (by omega) (by omega)] at e
  exact e
theorem ct_X10_heardByAll {d : Nat} {S : am_S} {lt th : Nat → Nat} {n one : Nat} (hn : gI S 1 1 = nI n) (hz : n ≤ 6) (hp : PplOk lt th S) (h1 : one < n) : am_CT (d + 5) iX10_heardByAll [.ref 0, .int (nI one)] S (some (.int (hbX S lt th one n).2)) ((hbX S lt th one n).1) := by
  refine am_CT_in mmX10_heardByAll rfl rfl rfl ?_
  have loop : ∀ (k : Nat) (j : Nat) (v4 : Option Value), (j ≤ n) → (n < j + k) → (¬ (hbX S lt th one j).2 = -2) → am_Ex (am_Call am_MT (d + 4)) mmX10_heardByAll none (fun r1 G1 => r1 = (some (.int (hbX S lt th one n).2)) ∧ G1 = am_H ((hbX S lt th one n).1)) (fun _ _ _ _ _ _ => False) 4 [some (.ref 0), some (.int (nI one)), some (.int (hbX S lt th one j).2), some (.int (nI j)), v4] [] (am_H ((hbX S lt th one j).1)) 0 0 := by
    intro k
    induction k with
    | zero =>
      intro j v4 q1 q2 q3
      omega
    | succ k ih =>
      intro j v4 q1 q2 q3
      have hn2 : gI (hbX S lt th one j).1 1 1 = nI n := by rw [hbX_ne (by decide) (by decide), hn]
      have hT : ∀ o, o < 18 → gI (hbX S lt th one j).1 o = gI S o := fun o h => hbX_ne (by omega) (by omega) j
      by_cases hj : j = one
      · have e1 : hbX S lt th one (j + 1) = hbX S lt th one j := by rw [hbX, if_pos (Or.inr hj)]
        refine r_iload_n rfl rfl ?_
        refine r_aload_n rfl rfl ?_
        refine r_getC rfl rfl (by decide) (by decide) rfl ?_
        refine r_getI rfl rfl (by decide) (by decide) rfl ?_
        refine r_icmp_ge rfl (fun h12 => ?_) (fun h12 => ?_)
        · rw [hn2, nI_leI (by omega) (by omega)] at h12
          omega
        · refine r_iload_n rfl rfl ?_
          refine r_iload_n rfl rfl ?_
          refine r_icmp_eq rfl (fun h17 => ?_) (fun h17 => ?_)
          · refine r_iinc (L2 := [_, _, _, _, _]) rfl rfl rfl ?_
            refine r_goto rfl ?_
            rw [nI_1]
            have e := ih (j + 1) v4 (by omega) (by omega) (by rw [e1]; exact q3)
            rw [e1] at e
            exact e
          · exact absurd (congrArg nI hj) h17
      · have e1 : hbX S lt th one (j + 1) = (minuS (hbX S lt th one j).1 lt th one j 4, if minuV S lt th one j = -2 then -2 else (if (hbX S lt th one j).2 < minuV S lt th one j then minuV S lt th one j else (hbX S lt th one j).2)) := by rw [hbX, if_neg (fun z => z.elim q3 hj)]; rfl
        refine r_iload_n rfl rfl ?_
        refine r_aload_n rfl rfl ?_
        refine r_getC rfl rfl (by decide) (by decide) rfl ?_
        refine r_getI rfl rfl (by decide) (by decide) rfl ?_
        refine r_icmp_ge rfl (fun h12 => ?_) (fun h12 => ?_)
        · rw [hn2, nI_leI (by omega) (by omega)] at h12
          obtain rfl : j = n := by omega
          refine r_iload_n rfl rfl ?_
          refine r_iret rfl rfl ?_
          exact ⟨rfl, rfl⟩
        · rw [hn2, nI_leI (by omega) (by omega)] at h12
          refine r_iload_n rfl rfl ?_
          refine r_iload_n rfl rfl ?_
          refine r_icmp_eq rfl (fun h17 => ?_) (fun h17 => ?_)
          · exact absurd (nI_inj (by omega) (by omega) h17) hj
          · refine r_aload_n rfl rfl ?_
            refine r_getC rfl rfl (by decide) (by decide) rfl ?_
            refine r_aload_n rfl rfl ?_
            refine r_getC rfl rfl (by decide) (by decide) rfl ?_
            refine r_iload_n rfl rfl ?_
            refine r_iload_n rfl rfl ?_
            refine r_callV rfl (minu_ct hn hz hp h1 (by omega) (fun z => hj z.symm) hT) rfl rfl rfl (by decide) rfl (am_cnt rfl) ?_
            refine r_istore (L2 := [_, _, _, _, _]) rfl rfl ?_
            refine r_iload rfl rfl ?_
            refine r_bipush rfl ?_
            refine r_icmp_ne rfl (fun h39 => ?_) (fun h39 => ?_)
            · refine r_iload_n rfl rfl ?_
              refine r_iload rfl rfl ?_
              refine r_max rfl (am_cnt rfl) ?_
              refine r_istore_n (L2 := [_, _, _, _, _]) rfl rfl ?_
              refine r_iinc (L2 := [_, _, _, _, _]) rfl rfl rfl ?_
              refine r_goto rfl ?_
              rw [if_neg h39] at e1
              rw [nI_1]
              have e := ih (j + 1) (some (.int (minuV S lt th one j))) (by omega) (by omega) (by rw [e1]; exact maxI_ne2 q3 h39)
              simp only [e1] at e
              exact e
            · refine r_bipush rfl ?_
              refine r_iret rfl rfl ?_
              rw [if_pos h39] at e1
              have e2 := hbX_end (S := S) (lt := lt) (th := th) (one := one) (j := j + 1) (by rw [e1]) (n - (j + 1))
              rw [show j + 1 + (n - (j + 1)) = n by omega, e1] at e2
              rw [e2]
              exact ⟨rfl, rfl⟩
  refine r_iconst rfl ?_
  refine r_istore_n (L2 := [_, _, _, _, _]) rfl rfl ?_
  refine r_iconst rfl ?_
  refine r_istore_n (L2 := [_, _, _, _, _]) rfl rfl ?_
  exact loop (n + 1) 0 none (by omega) (by omega) (show ¬ (0 : Int32) = -2 by decide)
