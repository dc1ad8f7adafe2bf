/-! How words come from one to another one: cell 76, fewest 77, way 78. -/
theorem nI_sub1 {n : Nat} : nI (n + 1) - 1 = nI n := pk_sub (a := n + 1) (b := 1) (by omega)
abbrev nearP (S : am_S) (v q : Nat) : Prop := fBit (gI S (6 + 2 * v) 3) (nI q)
def leastN (f : Nat → Nat) : Nat → Nat
  | 0 => 1000000
  | n + 1 => min (leastN f n) (f n)
theorem leastN_le (f : Nat → Nat) : ∀ n, leastN f n ≤ 1000000
  | 0 => Nat.le_refl _
  | n + 1 => Nat.le_trans (Nat.min_le_left _ _) (leastN_le f n)
def fewN (S : am_S) (lt th : Nat → Nat) (last : Nat) : Nat → Nat → Nat
  | 0, v => if nearP S last v then lt last else 1000000
  | k + 1, v => leastN (fun q => if nearP S v q then lt q + th q + fewN S lt th last k q else 1000000) 6
def byN (S : am_S) (lt th : Nat → Nat) (last v q k : Nat) : Nat := if nearP S v q then lt q + th q + fewN S lt th last k q else 1000000
theorem fewN_s {S : am_S} {lt th : Nat → Nat} {last k v : Nat} : fewN S lt th last (k + 1) v = leastN (fun q => byN S lt th last v q k) 6 := rfl
def PplOk (lt th : Nat → Nat) (S : am_S) : Prop := ∀ p, p < 6 → gI S (6 + 2 * p) 0 = nI (lt p) ∧ lt p ≤ 20 ∧ gI S (6 + 2 * p) 2 = nI (th p) ∧ th p ≤ 9
theorem fewN_le {S : am_S} {lt th : Nat → Nat} {last : Nat} (h : lt last ≤ 20) : ∀ k v, fewN S lt th last k v ≤ 1000000
  | 0, v => by
    unfold fewN
    split <;> omega
  | k + 1, v => leastN_le _ 6
theorem byN_le {S : am_S} {lt th : Nat → Nat} {last v q k : Nat} (h : PplOk lt th S) (hl : last < 6) (hq : q < 6) : byN S lt th last v q k ≤ 1000029 := by
  have a := fewN_le (S := S) (lt := lt) (th := th) (h last hl).2.1 k q
  have b := h q hq
  unfold byN
  split <;> omega
/-- the row of the fewest, i of its numbers written -/
def fewG (S : am_S) (lt th : Nat → Nat) (last i : Nat) : Nat → Int32 := fun a => if a < i then nI (fewN S lt th last (a / 6) (a % 6)) else gI S 77 a
theorem fewG_up {S : am_S} {lt th : Nat → Nat} {last i : Nat} {x : Int32} (hx : x = nI (fewN S lt th last (i / 6) (i % 6))) : upd (fewG S lt th last i) i x = fewG S lt th last (i + 1) := by
  funext a
  unfold upd fewG
  by_cases ha : a = i
  · subst ha
    rw [if_pos rfl, if_pos (by omega), hx]
  · rw [if_neg ha]
    by_cases hb : a < i
    · rw [if_pos hb, if_pos (by omega)]
    · rw [if_neg hb, if_neg (by omega)]
theorem fewG_0 {S : am_S} {lt th : Nat → Nat} {last : Nat} : fewG S lt th last 0 = gI S 77 := by
  funext a
  exact if_neg (by omega)
theorem ix6 {k v : Nat} : nI k * 6 + nI v = nI (k * 6 + v) := (congrArg (fun z => z + nI v) (pk_mul k 6)).trans (nI_add _ _)
/-- the row stands up to level k -/
def FewOk (S : am_S) (lt th : Nat → Nat) (last i : Nat) (T : am_S) : Prop := ∀ k v, v < 6 → k * 6 + v < i → gI T 77 (k * 6 + v) = nI (fewN S lt th last k v)
theorem fewG_ok {S : am_S} {lt th : Nat → Nat} {last i : Nat} : FewOk S lt th last i (rI S 77 (fewG S lt th last i)) := fun k v hv hi => by
  rw [gI_rI_eq, fewG, if_pos hi, show (k * 6 + v) / 6 = k by omega, show (k * 6 + v) % 6 = v by omega]
theorem ct_X8_minutesBy {d : Nat} {S T : am_S} {lt th : Nat → Nat} {last v q k i : Nat} (hp : PplOk lt th S) (hT : ∀ o, o < 18 → gI T o = gI S o) (hf : FewOk S lt th last i T) (hi : k * 6 + q < i) (hv : v < 6) (hq : q < 6) (hk : k < 4) (hl : last < 6) : am_CT (d + 2) iX8_minutesBy [.ref 76, .ref 1, .int (nI v), .int (nI q), .int (nI (k + 1))] T (some (.int (nI (byN S lt th last v q k)))) (T) := by
  refine am_CT_in mmX8_minutesBy rfl rfl rfl ?_
  have bv : (nI v).toNatClampNeg = v := nI_clamp (by omega)
  have bq : (nI q).toNatClampNeg = q := nI_clamp (by omega)
  have s1 : 0 ≤ nI v := nI_pos' (by omega)
  have s2 : nI v < Int32.ofNat 6 := nI_lt (by omega) (by omega)
  have s3 : 0 ≤ nI q := nI_pos' (by omega)
  have s4 : nI q < Int32.ofNat 6 := nI_lt (by omega) (by omega)
  have e1 : (nI (k + 1) - 1) * 6 + nI q = nI (k * 6 + q) := by rw [nI_sub1, ix6]
  have b1 : ((nI (k + 1) - 1) * 6 + nI q).toNatClampNeg = k * 6 + q := by rw [e1, nI_clamp (by omega)]
  have s5 : 0 ≤ (nI (k + 1) - 1) * 6 + nI q := by rw [e1]; exact nI_pos' (by omega)
  have s6 : (nI (k + 1) - 1) * 6 + nI q < Int32.ofNat 30 := by rw [e1]; exact nI_lt (by omega) (by omega)
  have n1 : nI (k + 1) ≤ 4 := nI_le (b := 4) (by omega) (by omega)
  have n0 : ¬ nI (k + 1) < 1 := fun z => absurd z (Int32.not_lt.mpr (nI_le (a := 1) (by omega) (by omega)))
  have g1 := hT (6 + 2 * v) (by omega)
  have g2 := hT (6 + 2 * q) (by omega)
  have g3 := hp q hq
  have g4 := hf k q hq hi
  have g5 := fewN_le (S := S) (lt := lt) (th := th) (hp last hl).2.1 k q
  refine r_aload_n rfl rfl ?_
  refine r_getC rfl rfl (by decide) (by decide) rfl ?_
  refine r_iload_n rfl rfl ?_
  refine r_aaldP rfl rfl (by first | exact s1 | exact s2 | exact s3 | exact s4 | exact s5 | exact s6) (by first | exact s1 | exact s2 | exact s3 | exact s4 | exact s5 | exact s6) ?_
  refine r_getI rfl (by rw [bv]; exact kn_person hv) (by decide) (by decide) rfl ?_
  refine r_iload_n rfl rfl ?_
  refine r_callS rfl (by decide) ct_X10_hasBit rfl rfl (am_cnt rfl) ?_
  refine r_if_eq rfl (fun h13 => ?_) (fun h13 => ?_)
  · rw [b01_eq0, bv, g1] at h13
    have e0 : byN S lt th last v q k = 1000000 := if_neg h13
    refine r_ldc rfl ?_
    refine r_iret rfl rfl ?_
    rw [e0]
    exact ⟨rfl, rfl⟩
  · rw [b01_eq0, bv, g1] at h13
    have e0 : byN S lt th last v q k = lt q + th q + fewN S lt th last k q := if_pos (Decidable.not_not.mp h13)
    refine r_iload rfl rfl ?_
    refine r_iconst rfl ?_
    refine r_icmp_lt rfl (fun h19 => ?_) (fun h19 => ?_)
    · exact absurd h19 n0
    · refine r_iload rfl rfl ?_
      refine r_iconst rfl ?_
      refine r_icmp_le rfl (fun h25 => ?_) (fun h25 => ?_)
      · refine r_aload_n rfl rfl ?_
        refine r_getC rfl rfl (by decide) (by decide) rfl ?_
        refine r_iload_n rfl rfl ?_
        refine r_aaldP rfl rfl (by first | exact s1 | exact s2 | exact s3 | exact s4 | exact s5 | exact s6) (by first | exact s1 | exact s2 | exact s3 | exact s4 | exact s5 | exact s6) ?_
        refine r_getI rfl (by rw [bq]; exact kn_person hq) (by decide) (by decide) rfl ?_
        refine r_aload_n rfl rfl ?_
        refine r_getC rfl rfl (by decide) (by decide) rfl ?_
        refine r_iload_n rfl rfl ?_
        refine r_aaldP rfl rfl (by first | exact s1 | exact s2 | exact s3 | exact s4 | exact s5 | exact s6) (by first | exact s1 | exact s2 | exact s3 | exact s4 | exact s5 | exact s6) ?_
        refine r_getI rfl (by rw [bq]; exact kn_person hq) (by decide) (by decide) rfl ?_
        refine r_iadd rfl ?_
        refine r_aload_n rfl rfl ?_
        refine r_getC rfl rfl (by decide) (by decide) rfl ?_
        refine r_iload rfl rfl ?_
        refine r_iconst rfl ?_
        refine r_isub rfl ?_
        refine r_bipush rfl ?_
        refine r_imul rfl ?_
        refine r_iload_n rfl rfl ?_
        refine r_iadd rfl ?_
        refine r_iald rfl rfl (by first | decide | assumption) (by first | exact s1 | exact s2 | exact s3 | exact s4 | exact s5 | exact s6) (by first | exact s1 | exact s2 | exact s3 | exact s4 | exact s5 | exact s6) ?_
        refine r_iadd rfl ?_
        refine r_iret rfl rfl ?_
        rw [e0, b1, bq, g2, g3.1, g3.2.2.1, g4, nI_add, nI_add]
        exact ⟨rfl, rfl⟩
      · exact absurd n1 h25
theorem min_nI {a b : Nat} (ha : a < 2147483648) (hb : b < 2147483648) : (if nI a < nI b then nI a else nI b) = nI (min a b) := by
  by_cases h : a < b
  · rw [if_pos (nI_lt h hb), Nat.min_eq_left (by omega)]
  · rw [if_neg (nI_nlt (by omega) ha), Nat.min_eq_right (by omega)]
theorem ct_X8_measure {d : Nat} {S : am_S} {lt th : Nat → Nat} {last : Nat} (hp : PplOk lt th S) (hl : last < 6) : am_CT (d + 3) iX8_measure [.ref 76, .ref 1, .int (nI last)] S (none) (rI S 77 (fewG S lt th last 30)) := by
  refine am_CT_in mmX8_measure rfl rfl rfl ?_
  have bl : (nI last).toNatClampNeg = last := nI_clamp (by omega)
  have s1 : 0 ≤ nI last := nI_pos' (by omega)
  have s2 : nI last < Int32.ofNat 6 := nI_lt (by omega) (by omega)
  have gS : ∀ i o, o < 18 → gI (rI S 77 (fewG S lt th last i)) o = gI S o := fun i o ho => gI_rI_ne (by omega)
  have g3 := hp last hl
  have kp : ∀ m, am_kn m (6 + 2 * (nI last).toNatClampNeg) = (4, 0) := fun m => by rw [bl]; exact kn_person hl
  have up : ∀ i x, i < 30 → x = nI (fewN S lt th last (i / 6) (i % 6)) → uI (rI S 77 (fewG S lt th last i)) 77 i x = rI S 77 (fewG S lt th last (i + 1)) := fun i x hi hx => by rw [uI_rIs, fewG_up hx]
  have loop : ∀ (k : Nat) (j : Nat) (v4 : Option Value) (v5 : Option Value) (v6 : Option Value), (1 ≤ j ∧ j ≤ 5) → (5 < j + k) → am_Ex (am_Call am_MT (d + 2)) mmX8_measure none (fun r1 G1 => r1 = (none) ∧ G1 = am_H (rI S 77 (fewG S lt th last 30))) (fun _ _ _ _ _ _ => False) 52 [some (.ref 76), some (.ref 1), some (.int (nI last)), some (.int (nI j)), v4, v5, v6] [] (am_H (rI S 77 (fewG S lt th last (6 * j)))) 0 0 := by
    intro k
    induction k with
    | zero =>
      intro j v4 v5 v6 h1 h2
      omega
    | succ k ih =>
      intro j v4 v5 v6 h1 h2
      have loop2 : ∀ (k2 : Nat) (v : Nat) (v5 : Option Value) (v6 : Option Value), (j ≤ 4) → (v ≤ 6) → (6 < v + k2) → am_Ex (am_Call am_MT (d + 2)) mmX8_measure none (fun r1 G1 => r1 = (none) ∧ G1 = am_H (rI S 77 (fewG S lt th last 30))) (fun _ _ _ _ _ _ => False) 60 [some (.ref 76), some (.ref 1), some (.int (nI last)), some (.int (nI j)), some (.int (nI v)), v5, v6] [] (am_H (rI S 77 (fewG S lt th last (6 * j + v)))) 0 0 := by
        intro k2
        induction k2 with
        | zero =>
          intro v v5 v6 q0 q1 q2
          omega
        | succ k2 ih2 =>
          intro v v5 v6 q0 q1 q2
          have loop3 : ∀ (k3 : Nat) (q : Nat), (v < 6) → (q ≤ 6) → (6 < q + k3) → am_Ex (am_Call am_MT (d + 2)) mmX8_measure none (fun r1 G1 => r1 = (none) ∧ G1 = am_H (rI S 77 (fewG S lt th last 30))) (fun _ _ _ _ _ _ => False) 74 [some (.ref 76), some (.ref 1), some (.int (nI last)), some (.int (nI j)), some (.int (nI v)), some (.int (nI (leastN (fun q => byN S lt th last v q (j - 1)) q))), some (.int (nI q))] [] (am_H (rI S 77 (fewG S lt th last (6 * j + v)))) 0 0 := by
            intro k3
            induction k3 with
            | zero =>
              intro q t0 t1 t2
              omega
            | succ k3 ih3 =>
              intro q t0 t1 t2
              have c1 := leastN_le (fun q => byN S lt th last v q (j - 1)) q
              have e1 : nI j * 6 + nI v = nI (6 * j + v) := by rw [ix6, Nat.mul_comm]
              have b1 : (nI j * 6 + nI v).toNatClampNeg = 6 * j + v := by rw [e1, nI_clamp (by omega)]
              have s5 : 0 ≤ nI j * 6 + nI v := by rw [e1]; exact nI_pos' (by omega)
              have s6 : nI j * 6 + nI v < Int32.ofNat 30 := by rw [e1]; exact nI_lt (by omega) (by omega)
              have m1 : q < 6 → (if nI (byN S lt th last v q (j - 1)) < nI (leastN (fun q => byN S lt th last v q (j - 1)) q) then nI (byN S lt th last v q (j - 1)) else nI (leastN (fun q => byN S lt th last v q (j - 1)) q)) = nI (leastN (fun q => byN S lt th last v q (j - 1)) (q + 1)) := fun hq => by
                have c2 := byN_le (v := v) (k := j - 1) hp hl hq
                rw [min_nI (by omega) (by omega), Nat.min_comm]
                rfl
              have ct : q < 6 → ∀ {d : Nat}, am_CT (d + 2) iX8_minutesBy [.ref 76, .ref 1, .int (nI v), .int (nI q), .int (nI j)] (rI S 77 (fewG S lt th last (6 * j + v))) (some (.int (nI (byN S lt th last v q (j - 1))))) (rI S 77 (fewG S lt th last (6 * j + v))) := fun hq {d} => by
                have e := ct_X8_minutesBy (d := d) (k := j - 1) (v := v) (q := q) (i := 6 * j + v) hp (gS (6 * j + v)) fewG_ok (by omega) t0 hq (by omega) hl
                rw [show j - 1 + 1 = j by omega] at e
                exact e
              refine r_iload rfl rfl ?_
              refine r_bipush rfl ?_
              refine r_icmp_ge rfl (fun h78 => ?_) (fun h78 => ?_)
              · have hq : q = 6 := by
                  rw [show (6 : Int32) = nI 6 from rfl, nI_leI (by omega) (by omega)] at h78
                  omega
                refine r_aload_n rfl rfl ?_
                refine r_getC rfl rfl (by decide) (by decide) rfl ?_
                refine r_iload_n rfl rfl ?_
                refine r_bipush rfl ?_
                refine r_imul rfl ?_
                refine r_iload rfl rfl ?_
                refine r_iadd rfl ?_
                refine r_iload rfl rfl ?_
                refine r_iast rfl rfl (by first | decide | assumption) (by first | exact s5 | exact s6) (by first | exact s5 | exact s6) ?_
                refine r_iinc (L2 := [_, _, _, _, _, _, _]) rfl rfl rfl ?_
                refine r_goto rfl ?_
                rw [b1, up _ _ (by omega) (by rw [show (6 * j + v) / 6 = j - 1 + 1 by omega, show (6 * j + v) % 6 = v by omega, fewN_s, hq]), nI_1]
                exact ih2 (v + 1) _ _ q0 (by omega) (by omega)
              · rw [show (6 : Int32) = nI 6 from rfl, nI_leI (by omega) (by omega)] at h78
                refine r_iload rfl rfl ?_
                refine r_aload_n rfl rfl ?_
                refine r_aload_n rfl rfl ?_
                refine r_iload rfl rfl ?_
                refine r_iload rfl rfl ?_
                refine r_iload_n rfl rfl ?_
                refine r_callV rfl (ct (by omega)) rfl rfl rfl (by decide) rfl (am_cnt rfl) ?_
                refine r_min rfl (am_cnt rfl) ?_
                rw [m1 (by omega)]
                refine r_istore (L2 := [_, _, _, _, _, _, _]) rfl rfl ?_
                refine r_iinc (L2 := [_, _, _, _, _, _, _]) rfl rfl rfl ?_
                refine r_goto rfl ?_
                rw [nI_1]
                exact ih3 (q + 1) t0 (by omega) (by omega)
          refine r_iload rfl rfl ?_
          refine r_bipush rfl ?_
          refine r_icmp_ge rfl (fun h64 => ?_) (fun h64 => ?_)
          · have hv : v = 6 := by
              rw [show (6 : Int32) = nI 6 from rfl, nI_leI (by omega) (by omega)] at h64
              omega
            refine r_iinc (L2 := [_, _, _, _, _, _, _]) rfl rfl rfl ?_
            refine r_goto rfl ?_
            rw [nI_1]
            have e := ih (j + 1) (some (.int (nI v))) v5 v6 (by omega) (by omega)
            rw [show 6 * (j + 1) = 6 * j + v by omega] at e
            exact e
          · rw [show (6 : Int32) = nI 6 from rfl, nI_leI (by omega) (by omega)] at h64
            refine r_ldc rfl ?_
            refine r_istore (L2 := [_, _, _, _, _, _, _]) rfl rfl ?_
            refine r_iconst rfl ?_
            refine r_istore (L2 := [_, _, _, _, _, _, _]) rfl rfl ?_
            exact loop3 7 0 (by omega) (by omega) (by omega)
      refine r_iload_n rfl rfl ?_
      refine r_iconst rfl ?_
      refine r_icmp_gt rfl (fun h54 => ?_) (fun h54 => ?_)
      · have hj : j = 5 := by
          rw [show (4 : Int32) = nI 4 from rfl, nI_ltI (by omega) (by omega)] at h54
          omega
        rw [hj]
        refine r_vret rfl ?_
        exact ⟨rfl, rfl⟩
      · rw [show (4 : Int32) = nI 4 from rfl, nI_ltI (by omega) (by omega)] at h54
        refine r_iconst rfl ?_
        refine r_istore (L2 := [_, _, _, _, _, _, _]) rfl rfl ?_
        exact loop2 7 0 v5 v6 (by omega) (by omega) (by omega)
  have loop4 : ∀ (k4 : Nat) (v : Nat), (v ≤ 6) → (6 < v + k4) → am_Ex (am_Call am_MT (d + 2)) mmX8_measure none (fun r1 G1 => r1 = (none) ∧ G1 = am_H (rI S 77 (fewG S lt th last 30))) (fun _ _ _ _ _ _ => False) 2 [some (.ref 76), some (.ref 1), some (.int (nI last)), some (.int (nI v)), none, none, none] [] (am_H (rI S 77 (fewG S lt th last v))) 0 0 := by
    intro k4
    induction k4 with
    | zero =>
      intro v h1 h2
      omega
    | succ k4 ih4 =>
      intro v h1 h2
      have b1 : (nI v).toNatClampNeg = v := nI_clamp (by omega)
      have s3 : 0 ≤ nI v := nI_pos' (by omega)
      have e1 : v < 6 → ∀ x, x = nI (if nearP S last v then lt last else 1000000) → uI (rI S 77 (fewG S lt th last v)) 77 v x = rI S 77 (fewG S lt th last (v + 1)) := fun hv x hx => up v x (by omega) (by rw [show v / 6 = 0 by omega, show v % 6 = v by omega]; exact hx)
      refine r_iload_n rfl rfl ?_
      refine r_bipush rfl ?_
      refine r_icmp_ge rfl (fun h5 => ?_) (fun h5 => ?_)
      · have hv : v = 6 := by
          rw [show (6 : Int32) = nI 6 from rfl, nI_leI (by omega) (by omega)] at h5
          omega
        subst hv
        refine r_iconst rfl ?_
        refine r_istore_n (L2 := [_, _, _, _, _, _, _]) rfl rfl ?_
        exact loop 5 1 _ _ _ (by omega) (by omega)
      · rw [show (6 : Int32) = nI 6 from rfl, nI_leI (by omega) (by omega)] at h5
        have s4 : nI v < Int32.ofNat 30 := nI_lt (by omega) (by omega)
        refine r_aload_n rfl rfl ?_
        refine r_getC rfl rfl (by decide) (by decide) rfl ?_
        refine r_iload_n rfl rfl ?_
        refine r_aload_n rfl rfl ?_
        refine r_getC rfl rfl (by decide) (by decide) rfl ?_
        refine r_iload_n rfl rfl ?_
        refine r_aaldP rfl rfl (by first | exact s1 | exact s2 | exact s3 | exact s4) (by first | exact s1 | exact s2 | exact s3 | exact s4) ?_
        refine r_getI rfl (kp _) (by decide) (by decide) rfl ?_
        refine r_iload_n rfl rfl ?_
        refine r_callS rfl (by decide) ct_X10_hasBit rfl rfl (am_cnt rfl) ?_
        refine r_if_eq rfl (fun h26 => ?_) (fun h26 => ?_)
        · rw [b01_eq0, bl, gS _ _ (by omega)] at h26
          have e2 := e1 (by omega) 1000000 (by rw [if_neg h26]; rfl)
          refine r_ldc rfl ?_
          refine r_iast rfl rfl (by first | decide | assumption) (by first | exact s1 | exact s2 | exact s3 | exact s4) (by first | exact s1 | exact s2 | exact s3 | exact s4) ?_
          refine r_iinc (L2 := [_, _, _, _, _, _, _]) rfl rfl rfl ?_
          refine r_goto rfl ?_
          rw [nI_1, b1]
          first | rw [e2] | rw [bl, gS _ _ (by omega), g3.1, e2]
          exact ih4 (v + 1) (by omega) (by omega)
        · rw [b01_eq0, bl, gS _ _ (by omega)] at h26
          have e2 := e1 (by omega) (nI (lt last)) (by rw [if_pos (Decidable.not_not.mp h26)])
          refine r_aload_n rfl rfl ?_
          refine r_getC rfl rfl (by decide) (by decide) rfl ?_
          refine r_iload_n rfl rfl ?_
          refine r_aaldP rfl rfl (by first | exact s1 | exact s2 | exact s3 | exact s4) (by first | exact s1 | exact s2 | exact s3 | exact s4) ?_
          refine r_getI rfl (kp _) (by decide) (by decide) rfl ?_
          refine r_goto rfl ?_
          refine r_iast rfl rfl (by first | decide | assumption) (by first | exact s1 | exact s2 | exact s3 | exact s4) (by first | exact s1 | exact s2 | exact s3 | exact s4) ?_
          refine r_iinc (L2 := [_, _, _, _, _, _, _]) rfl rfl rfl ?_
          refine r_goto rfl ?_
          rw [nI_1, b1]
          first | rw [e2] | rw [bl, gS _ _ (by omega), g3.1, e2]
          exact ih4 (v + 1) (by omega) (by omega)
  refine r_iconst rfl ?_
  refine r_istore_n (L2 := [_, _, _, _, _, _, _]) rfl rfl ?_
  have e := loop4 7 0 (by omega) (by omega)
  rw [fewG_0, rI_id] at e
  exact e
/-- the least, by how many -/
def bstN (f : Nat → Nat) : Nat → Nat × Nat
  | 0 => (f 0, 0)
  | k + 1 => if f (k + 1) < (bstN f k).1 then (f (k + 1), k + 1) else bstN f k
theorem bstN_le (f : Nat → Nat) (h : ∀ k, f k ≤ 1000000) : ∀ k, (bstN f k).1 ≤ 1000000 ∧ (bstN f k).2 ≤ k
  | 0 => ⟨h 0, Nat.le_refl _⟩
  | k + 1 => by
    unfold bstN
    have := bstN_le f h k
    split
    · exact ⟨h _, Nat.le_refl _⟩
    · omega
def bstW (S : am_S) (lt th : Nat → Nat) (one last : Nat) : Nat → Nat × Nat := bstN (fun k => fewN S lt th last k one)
def minuS (S : am_S) (lt th : Nat → Nat) (one last : Nat) (k : Nat) : am_S := uI (rI S 77 (fewG S lt th last 30)) 76 2 (nI (bstW S lt th one last k).2)
def minuV (S : am_S) (lt th : Nat → Nat) (one last : Nat) : Int32 := if 1000000 ≤ (bstW S lt th one last 4).1 then -2 else nI (bstW S lt th one last 4).1
theorem two_nI {S : am_S} {n p q : Nat} (hn : gI S 1 1 = nI n) (hz : n ≤ 6) (hp : p < n) (hq : q < n) (hpq : p ≠ q) : twoP S (nI p) (nI q) := ⟨hasP_nI hn hz hp, hasP_nI hn hz hq, fun z => hpq (by
    have := congrArg Int32.toNatClampNeg z
    rw [nI_clamp (by omega), nI_clamp (by omega)] at this
    exact this)⟩
theorem ct_X8_minutes {d : Nat} {S : am_S} {lt th : Nat → Nat} {n one last : Nat} (hn : gI S 1 1 = nI n) (hz : n ≤ 6) (hp : PplOk lt th S) (h1 : one < n) (hl : last < n) (hne : one ≠ last) : am_CT (d + 4) iX8_minutes [.ref 76, .ref 1, .int (nI one), .int (nI last)] S (some (.int (minuV S lt th one last))) (minuS S lt th one last 4) := by
  refine am_CT_in mmX8_minutes rfl rfl rfl ?_
  have hl6 : last < 6 := by omega
  have two := two_nI hn hz h1 hl hne
  have hle : ∀ k, (bstW S lt th one last k).1 ≤ 1000000 ∧ (bstW S lt th one last k).2 ≤ k := fun k => bstN_le _ (fun k => fewN_le (hp last hl6).2.1 k one) k
  have bo : (nI one).toNatClampNeg = one := nI_clamp (by omega)
  have s1 : 0 ≤ nI one := nI_pos' (by omega)
  have s2 : nI one < Int32.ofNat 30 := nI_lt (by omega) (by omega)
  have f0 : gI (uI (rI S 77 (fewG S lt th last 30)) 76 2 0) 77 one = nI (bstW S lt th one last 0).1 := by
    rw [gI_uI_ne (by decide)]
    have := fewG_ok (S := S) (lt := lt) (th := th) (last := last) (i := 30) 0 one (by omega) (by omega)
    rw [Nat.zero_mul, Nat.zero_add] at this
    rw [this]
    rfl
  have loop : ∀ (k : Nat) (j : Nat), (1 ≤ j ∧ j ≤ 5) → (5 < j + k) → am_Ex (am_Call am_MT (d + 3)) mmX8_minutes none (fun r1 G1 => r1 = (some (.int (minuV S lt th one last))) ∧ G1 = am_H (minuS S lt th one last 4)) (fun _ _ _ _ _ _ => False) 34 [some (.ref 76), some (.ref 1), some (.int (nI one)), some (.int (nI last)), some (.int (nI (bstW S lt th one last (j - 1)).1)), some (.int (nI j))] [] (am_H (minuS S lt th one last (j - 1))) 0 0 := by
    intro k
    induction k with
    | zero =>
      intro j q1 q2
      omega
    | succ k ih =>
      intro j q1 q2
      have e1 : nI j * 6 + nI one = nI (j * 6 + one) := ix6
      have b1 : (nI j * 6 + nI one).toNatClampNeg = j * 6 + one := by rw [e1, nI_clamp (by omega)]
      have s5 : 0 ≤ nI j * 6 + nI one := by rw [e1]; exact nI_pos' (by omega)
      have f1 : j ≤ 4 → gI (minuS S lt th one last (j - 1)) 77 (nI j * 6 + nI one).toNatClampNeg = nI (fewN S lt th last j one) := fun hj => by
        rw [b1, minuS, gI_uI_ne (by decide)]
        exact fewG_ok j one (by omega) (by omega)
      have hj1 := hle (j - 1)
      have hf1 := fewN_le (S := S) (lt := lt) (th := th) (hp last hl6).2.1 j one
      have nx : j ≤ 4 → bstW S lt th one last j = if fewN S lt th last j one < (bstW S lt th one last (j - 1)).1 then (fewN S lt th last j one, j) else bstW S lt th one last (j - 1) := fun hj => by
        obtain ⟨i, rfl⟩ : ∃ i, j = i + 1 := ⟨j - 1, by omega⟩
        rfl
      have us : ∀ x, uI (minuS S lt th one last (j - 1)) 76 2 x = uI (rI S 77 (fewG S lt th last 30)) 76 2 x := fun x => by rw [minuS, uI_uI]
      refine r_iload rfl rfl ?_
      refine r_iconst rfl ?_
      refine r_icmp_gt rfl (fun h37 => ?_) (fun h37 => ?_)
      · have hj : j = 5 := by
          rw [show (4 : Int32) = nI 4 from rfl, nI_ltI (by omega) (by omega)] at h37
          omega
        rw [hj]
        refine r_iload rfl rfl ?_
        refine r_ldc rfl ?_
        refine r_icmp_lt rfl (fun h87 => ?_) (fun h87 => ?_)
        · refine r_iload rfl rfl ?_
          refine r_iret rfl rfl ?_
          have h5 := (hle 4).1
          rw [show (5 : Nat) - 1 = 4 from rfl] at h87 ⊢
          rw [show (1000000 : Int32) = nI 1000000 from rfl, nI_ltI (by omega) (by omega)] at h87
          first | (rw [minuV, if_neg (by omega)]; exact ⟨rfl, rfl⟩) | (rw [minuV, if_pos (by omega)]; exact ⟨rfl, rfl⟩)
        · refine r_bipush rfl ?_
          refine r_goto rfl ?_
          refine r_iret rfl rfl ?_
          have h5 := (hle 4).1
          rw [show (5 : Nat) - 1 = 4 from rfl] at h87 ⊢
          rw [show (1000000 : Int32) = nI 1000000 from rfl, nI_ltI (by omega) (by omega)] at h87
          first | (rw [minuV, if_neg (by omega)]; exact ⟨rfl, rfl⟩) | (rw [minuV, if_pos (by omega)]; exact ⟨rfl, rfl⟩)
      · rw [show (4 : Int32) = nI 4 from rfl, nI_ltI (by omega) (by omega)] at h37
        have s6 : nI j * 6 + nI one < Int32.ofNat 30 := by rw [e1]; exact nI_lt (by omega) (by omega)
        refine r_aload_n rfl rfl ?_
        refine r_getC rfl rfl (by decide) (by decide) rfl ?_
        refine r_iload rfl rfl ?_
        refine r_bipush rfl ?_
        refine r_imul rfl ?_
        refine r_iload_n rfl rfl ?_
        refine r_iadd rfl ?_
        refine r_iald rfl rfl (by first | decide | assumption) (by first | exact s5 | exact s6) (by first | exact s5 | exact s6) ?_
        refine r_iload rfl rfl ?_
        refine r_icmp_ge rfl (fun h54 => ?_) (fun h54 => ?_)
        · rw [f1 (by omega), nI_leI (by omega) (by omega)] at h54
          have e2 := nx (by omega)
          rw [if_neg (by omega)] at e2
          refine r_iinc (L2 := [_, _, _, _, _, _]) rfl rfl rfl ?_
          refine r_goto rfl ?_
          rw [nI_1]
          have e := ih (j + 1) (by omega) (by omega)
          rw [show j + 1 - 1 = j by omega, show minuS S lt th one last j = uI (rI S 77 (fewG S lt th last 30)) 76 2 (nI (bstW S lt th one last j).2) from rfl, e2] at e
          first | (rw [us]; exact e) | exact e
        · rw [f1 (by omega), nI_leI (by omega) (by omega)] at h54
          have e2 := nx (by omega)
          rw [if_pos (by omega)] at e2
          refine r_aload_n rfl rfl ?_
          refine r_getC rfl rfl (by decide) (by decide) rfl ?_
          refine r_iload rfl rfl ?_
          refine r_bipush rfl ?_
          refine r_imul rfl ?_
          refine r_iload_n rfl rfl ?_
          refine r_iadd rfl ?_
          refine r_iald rfl rfl (by first | decide | assumption) (by first | exact s5 | exact s6) (by first | exact s5 | exact s6) ?_
          rw [f1 (by omega)]
          refine r_istore (L2 := [_, _, _, _, _, _]) rfl rfl ?_
          refine r_aload_n rfl rfl ?_
          refine r_iload rfl rfl ?_
          refine r_putI rfl rfl (by decide) (by decide) rfl ?_
          refine r_iinc (L2 := [_, _, _, _, _, _]) rfl rfl rfl ?_
          refine r_goto rfl ?_
          rw [nI_1]
          have e := ih (j + 1) (by omega) (by omega)
          rw [show j + 1 - 1 = j by omega, show minuS S lt th one last j = uI (rI S 77 (fewG S lt th last 30)) 76 2 (nI (bstW S lt th one last j).2) from rfl, e2] at e
          first | (rw [us]; exact e) | exact e
  refine r_aload_n rfl rfl ?_
  refine r_iload_n rfl rfl ?_
  refine r_iload_n rfl rfl ?_
  refine r_callV rfl ct_X9_hasTwo rfl rfl rfl (by decide) rfl (am_cnt rfl) ?_
  refine r_if_ne rfl (fun h6 => ?_) (fun h6 => ?_)
  · refine r_aload_n rfl rfl ?_
    refine r_aload_n rfl rfl ?_
    refine r_iload_n rfl rfl ?_
    refine r_callV rfl (ct_X8_measure hp hl6) rfl rfl rfl (by decide) rfl (am_cnt rfl) ?_
    refine r_aload_n rfl rfl ?_
    refine r_iconst rfl ?_
    refine r_putI rfl rfl (by decide) (by decide) rfl ?_
    refine r_aload_n rfl rfl ?_
    refine r_getC rfl rfl (by decide) (by decide) rfl ?_
    refine r_iload_n rfl rfl ?_
    refine r_iald rfl rfl (by first | decide | assumption) (by first | exact s1 | exact s2) (by first | exact s1 | exact s2) ?_
    refine r_istore (L2 := [_, _, _, _, _, _]) rfl rfl ?_
    refine r_iconst rfl ?_
    refine r_istore (L2 := [_, _, _, _, _, _]) rfl rfl ?_
    rw [bo, f0]
    exact loop 5 1 (by omega) (by omega)
  · exact absurd (two) (b01_eq0.mp h6)
