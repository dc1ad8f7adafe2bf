/-! Deaf, crier, soon, know, of the reference. -/
theorem min_d {d : Nat} {S W : am_S} {lt st th : Nat → Nat} {n a b : Nat} (hp : PM S lt st th) (hn : gI S 97 3 = nI n) (hz : n ≤ 6) (hW : FrW S W) (ha : a < n) (hb : b < n) : am_CE (d + 3) iX11_minutesTo [.ref 97, .int (nI a), .int (nI b)] W (some (.int (nI (mnM (farR S lt th b n n) a)))) (fun U => FrW W U ∧ FarOk (farR S lt th b n n) U) := by
  have e := ct_X11_minutesTo (d := d) (S := W) (pm_fr hp (fun o ho => hW.1 o (by omega))) (by rw [hW.1 97 (by decide), hn]) hz ha hb
  rw [far_congr (hW.1 102 (by decide))] at e
  exact e
theorem mnM_le {F : Nat → Nat} (h : ∀ a, F a ≤ 1000000) (one : Nat) : mnM F one ≤ 1000000 := by
  have := h one
  unfold mnM
  split <;> omega
theorem ct_X11_deaf_no {d : Nat} {S T : am_S} {p : Int32} (hT : uI S 97 0 0 = T) (hz : 0 ≤ gI T 97 3) (h : ¬ hasM T p) : am_CT (d + 4) iX11_deaf [.ref 97, .int p] S (some (.int (-1))) (T) := by
  refine am_CT_in mmX11_deaf rfl rfl rfl ?_
  refine r_aload_n rfl rfl ?_
  refine r_iconst rfl ?_
  refine r_putI rfl rfl (by decide) (by decide) rfl ?_
  try rw [hT]
  refine r_aload_n rfl rfl ?_
  refine r_iload_n rfl rfl ?_
  refine r_callV rfl (ct_X11_isPerson hz) rfl rfl rfl (by decide) rfl (am_cnt rfl) ?_
  refine r_if_ne rfl (fun h10 => ?_) (fun h10 => ?_)
  · exact (h10 (b01_f (h))).elim
  · refine r_iconst rfl ?_
    refine r_iret rfl rfl ?_
    exact ⟨rfl, rfl⟩
def dfM (S : am_S) (lt th : Nat → Nat) (n p : Nat) : Nat → Int32
  | 0 => 0
  | j + 1 => dfM S lt th n p j ||| (if ¬ j = p ∧ mnM (farR S lt th p n n) j = 1000000 then 1 <<< (nI j &&& 31) else 0)
theorem ct_X11_deaf_ok {d : Nat} {S T : am_S} {lt st th : Nat → Nat} {n p : Nat} (hT : uI S 97 0 0 = T) (hp : PM T lt st th) (hn : gI T 97 3 = nI n) (hz : n ≤ 6) (hpn : p < n) : am_CE (d + 4) iX11_deaf [.ref 97, .int (nI p)] S (some (.int (dfM T lt th n p n))) (fun U => FrW T U) := by
  refine am_CE_in mmX11_deaf rfl rfl rfl ?_
  have loop : ∀ (k : Nat) (j : Nat) (W : am_S), (j ≤ n) → (n < j + k) → (FrW T W) → am_Ex (am_Call am_MT (d + 3)) mmX11_deaf none (fun r1 G1 => r1 = (some (.int (dfM T lt th n p n))) ∧ ∃ S2, G1 = am_H S2 ∧ (fun U => FrW T U) S2) (fun _ _ _ _ _ _ => False) 19 [some (.ref 97), some (.int (nI p)), some (.int (dfM T lt th n p j)), some (.int (nI j))] [] (am_H (W)) 0 0 := by
    intro k
    induction k with
    | zero =>
      intro j W q1 q2 f1
      omega
    | succ k ih =>
      intro j W q1 q2 f1
      have w3 : gI W 97 3 = nI n := by rw [f1.1 97 (by decide), hn]
      have Fl := mnM_le (farR_le (S := T) (lt := lt) (th := th) (last := p) (n := n) n) j
      refine r_iload_n rfl rfl ?_
      refine r_aload_n rfl rfl ?_
      refine r_getI rfl rfl (by decide) (by decide) rfl ?_
      rw [w3]
      refine r_icmp_ge rfl (fun h24 => ?_) (fun h24 => ?_)
      · rw [nI_leI (by omega) (by omega)] at h24
        obtain rfl : j = n := by omega
        refine r_iload_n rfl rfl ?_
        refine r_iret rfl rfl ?_
        exact ⟨rfl, _, rfl, f1⟩
      · rw [nI_leI (by omega) (by omega)] at h24
        refine r_iload_n rfl rfl ?_
        refine r_iload_n rfl rfl ?_
        refine r_iload_n rfl rfl ?_
        refine r_icmp_eq rfl (fun h30 => ?_) (fun h30 => ?_)
        · rw [nI_eq (by omega) (by omega)] at h30
          have e1 : dfM T lt th n p (j + 1) = dfM T lt th n p j ||| 0 := by rw [dfM, if_neg (fun z => z.1 h30)]
          refine r_iconst rfl ?_
          refine r_ior rfl ?_
          refine r_istore_n (L2 := [_, _, _, _]) rfl rfl ?_
          refine r_iinc (L2 := [_, _, _, _]) rfl rfl rfl ?_
          refine r_goto rfl ?_
          rw [← e1, nI_1]
          first | exact ih (j + 1) V (by omega) (by omega) (frW_t f1 hV.1) | exact ih (j + 1) W (by omega) (by omega) f1
        · rw [nI_eq (by omega) (by omega)] at h30
          refine r_aload_n rfl rfl ?_
          refine r_iload_n rfl rfl ?_
          refine r_iload_n rfl rfl ?_
          refine r_callVE rfl (min_d hp hn hz f1 (by omega) hpn) rfl rfl rfl (by decide) rfl (am_cnt rfl) (fun V hV => ?_)
          refine r_ldc_w rfl ?_
          refine r_icmp_ne rfl (fun h42 => ?_) (fun h42 => ?_)
          · rw [show (1000000 : Int32) = nI 1000000 from rfl, nI_eq (by omega) (by omega)] at h42
            have e1 : dfM T lt th n p (j + 1) = dfM T lt th n p j ||| 0 := by rw [dfM, if_neg (fun z => h42 z.2)]
            refine r_iconst rfl ?_
            refine r_ior rfl ?_
            refine r_istore_n (L2 := [_, _, _, _]) rfl rfl ?_
            refine r_iinc (L2 := [_, _, _, _]) rfl rfl rfl ?_
            refine r_goto rfl ?_
            rw [← e1, nI_1]
            first | exact ih (j + 1) V (by omega) (by omega) (frW_t f1 hV.1) | exact ih (j + 1) W (by omega) (by omega) f1
          · rw [show (1000000 : Int32) = nI 1000000 from rfl, nI_eq (by omega) (by omega)] at h42
            have e1 : dfM T lt th n p (j + 1) = dfM T lt th n p j ||| (1 <<< (nI j &&& 31)) := by rw [dfM, if_pos ⟨h30, h42⟩]
            refine r_iconst rfl ?_
            refine r_iload_n rfl rfl ?_
            refine r_ishl rfl ?_
            refine r_goto rfl ?_
            refine r_ior rfl ?_
            refine r_istore_n (L2 := [_, _, _, _]) rfl rfl ?_
            refine r_iinc (L2 := [_, _, _, _]) rfl rfl rfl ?_
            refine r_goto rfl ?_
            rw [← e1, nI_1]
            first | exact ih (j + 1) V (by omega) (by omega) (frW_t f1 hV.1) | exact ih (j + 1) W (by omega) (by omega) f1
  refine r_aload_n rfl rfl ?_
  refine r_iconst rfl ?_
  refine r_putI rfl rfl (by decide) (by decide) rfl ?_
  try rw [hT]
  refine r_aload_n rfl rfl ?_
  refine r_iload_n rfl rfl ?_
  refine r_callV rfl (ct_X11_isPerson (zM hn hz)) rfl rfl rfl (by decide) rfl (am_cnt rfl) ?_
  refine r_if_ne rfl (fun h10 => ?_) (fun h10 => ?_)
  · refine r_iconst rfl ?_
    refine r_istore_n (L2 := [_, _, _, _]) rfl rfl ?_
    refine r_iconst rfl ?_
    refine r_istore_n (L2 := [_, _, _, _]) rfl rfl ?_
    exact loop (n + 1) 0 T (by omega) (by omega) frW_0
  · exact absurd (hasM_nI hn hz hpn) (b01_eq0.mp h10)
theorem ct_X11_crier_no {d : Nat} {S T : am_S} (hT : uI S 97 0 0 = T) (h : gI T 97 3 < 2) : am_CT (d + 4) iX11_crier [.ref 97] S (some (.int (-1))) (T) := by
  refine am_CT_in mmX11_crier rfl rfl rfl ?_
  refine r_aload_n rfl rfl ?_
  refine r_iconst rfl ?_
  refine r_putI rfl rfl (by decide) (by decide) rfl ?_
  try rw [hT]
  refine r_aload_n rfl rfl ?_
  refine r_getI rfl rfl (by decide) (by decide) rfl ?_
  refine r_iconst rfl ?_
  refine r_icmp_ge rfl (fun h10 => ?_) (fun h10 => ?_)
  · exact absurd h (Int32.not_lt.mpr h10)
  · refine r_iconst rfl ?_
    refine r_iret rfl rfl ?_
    exact ⟨rfl, rfl⟩
def wsM (S : am_S) (lt th : Nat → Nat) (n one : Nat) : Nat → Nat
  | 0 => 0
  | j + 1 => if j = one then wsM S lt th n one j else max (wsM S lt th n one j) (mnM (farR S lt th j n n) one)
theorem wsM_le {S : am_S} {lt th : Nat → Nat} {n one : Nat} : ∀ j, wsM S lt th n one j ≤ 1000000
  | 0 => by rw [wsM]; omega
  | j + 1 => by
    have a := wsM_le (S := S) (lt := lt) (th := th) (n := n) (one := one) j
    have b := mnM_le (farR_le (S := S) (lt := lt) (th := th) (last := j) (n := n) n) one
    unfold wsM
    split <;> omega
/-- the best, or who never; the soonest -/
def crM (S : am_S) (lt th : Nat → Nat) (n : Nat) : Nat → Option Nat × Nat
  | 0 => (none, 0)
  | i + 1 => if wsM S lt th n i n < 1000000 ∧ ((crM S lt th n i).1 = none ∨ wsM S lt th n i n < (crM S lt th n i).2) then (some i, wsM S lt th n i n) else crM S lt th n i
def crA : Option Nat → Int32
  | none => -2
  | some i => nI i
theorem crM_le {S : am_S} {lt th : Nat → Nat} {n : Nat} : ∀ i, (crM S lt th n i).2 ≤ 1000000 ∧ ∀ x, (crM S lt th n i).1 = some x → x < i
  | 0 => ⟨by rw [crM]; omega, fun x h => by rw [crM] at h; cases h⟩
  | i + 1 => by
    have a := crM_le (S := S) (lt := lt) (th := th) (n := n) i
    unfold crM
    split
    · refine ⟨wsM_le n, fun x h => ?_⟩
      cases h
      omega
    · exact ⟨a.1, fun x h => by have := a.2 x h; omega⟩
theorem max_nI {a b : Nat} (ha : a < 2147483648) (hb : b < 2147483648) : (if nI a < nI b then nI b else nI a) = nI (max a b) := by
  by_cases h : a < b
  · rw [if_pos (nI_lt h hb), Nat.max_eq_right (by omega)]
  · rw [if_neg (nI_nlt (by omega) ha), Nat.max_eq_left (by omega)]
theorem ct_X11_crier_ok {d : Nat} {S T : am_S} {lt st th : Nat → Nat} {n : Nat} (hT : uI S 97 0 0 = T) (hp : PM T lt st th) (hn : gI T 97 3 = nI n) (hz : n ≤ 6) (h2 : 2 ≤ n) : am_CE (d + 4) iX11_crier [.ref 97] S (some (.int (crA (crM T lt th n n).1))) (fun U => ∃ U1, FrW T U1 ∧ U = if (crM T lt th n n).1 = none then U1 else e1 U1 (nI (crM T lt th n n).2).toInt64) := by
  refine am_CE_in mmX11_crier rfl rfl rfl ?_
  have c2 : (2 : Int32) ≤ gI T 97 3 := by rw [hn]; exact nI_le (a := 2) h2 (by omega)
  have loop : ∀ (k : Nat) (i : Nat) (W : am_S) (v4 : Option Value) (v5 : Option Value), (i ≤ n) → (n < i + k) → (FrW T W) → am_Ex (am_Call am_MT (d + 3)) mmX11_crier none (fun r1 G1 => r1 = (some (.int (crA (crM T lt th n n).1))) ∧ ∃ S2, G1 = am_H S2 ∧ (fun U => ∃ U1, FrW T U1 ∧ U = if (crM T lt th n n).1 = none then U1 else e1 U1 (nI (crM T lt th n n).2).toInt64) S2) (fun _ _ _ _ _ _ => False) 22 [some (.ref 97), some (.int (crA (crM T lt th n i).1)), some (.int (nI (crM T lt th n i).2)), some (.int (nI i)), v4, v5] [] (am_H (W)) 0 0 := by
    intro k
    induction k with
    | zero =>
      intro i W v4 v5 q1 q2 f1
      omega
    | succ k ih =>
      intro i W v4 v5 q1 q2 f1
      have w3 : gI W 97 3 = nI n := by rw [f1.1 97 (by decide), hn]
      have loop2 : ∀ (k2 : Nat) (j : Nat) (V : am_S), (i < n) → (j ≤ n) → (n < j + k2) → (FrW T V) → am_Ex (am_Call am_MT (d + 3)) mmX11_crier none (fun r1 G1 => r1 = (some (.int (crA (crM T lt th n n).1))) ∧ ∃ S2, G1 = am_H S2 ∧ (fun U => ∃ U1, FrW T U1 ∧ U = if (crM T lt th n n).1 = none then U1 else e1 U1 (nI (crM T lt th n n).2).toInt64) S2) (fun _ _ _ _ _ _ => False) 36 [some (.ref 97), some (.int (crA (crM T lt th n i).1)), some (.int (nI (crM T lt th n i).2)), some (.int (nI i)), some (.int (nI (wsM T lt th n i j))), some (.int (nI j))] [] (am_H (V)) 0 0 := by
        intro k2
        induction k2 with
        | zero =>
          intro j V q0 p1 p2 g1
          omega
        | succ k2 ih2 =>
          intro j V q0 p1 p2 g1
          have v3 : gI V 97 3 = nI n := by rw [g1.1 97 (by decide), hn]
          have wl := wsM_le (S := T) (lt := lt) (th := th) (n := n) (one := i) j
          have Fl := mnM_le (farR_le (S := T) (lt := lt) (th := th) (last := j) (n := n) n) i
          have cl := crM_le (S := T) (lt := lt) (th := th) (n := n) i
          have en : j = n → ∀ x, crM T lt th n (i + 1) = x ↔ (if wsM T lt th n i j < 1000000 ∧ ((crM T lt th n i).1 = none ∨ wsM T lt th n i j < (crM T lt th n i).2) then (some i, wsM T lt th n i j) else crM T lt th n i) = x := fun h x => by rw [crM, h]
          have ng : crA (crM T lt th n i).1 < 0 ↔ (crM T lt th n i).1 = none := by
            match hc : (crM T lt th n i).1 with
            | none => exact ⟨fun _ => rfl, fun _ => by decide⟩
            | some x =>
              have := cl.2 x hc
              exact ⟨fun z => absurd z (nI_neg (by omega)), fun z => by cases z⟩
          refine r_iload rfl rfl ?_
          refine r_aload_n rfl rfl ?_
          refine r_getI rfl rfl (by decide) (by decide) rfl ?_
          rw [v3]
          refine r_icmp_ge rfl (fun h42 => ?_) (fun h42 => ?_)
          · rw [nI_leI (by omega) (by omega)] at h42
            have hj : j = n := by omega
            refine r_iload rfl rfl ?_
            refine r_ldc_w rfl ?_
            refine r_icmp_ge rfl (fun h81 => ?_) (fun h81 => ?_)
            · rw [show (1000000 : Int32) = nI 1000000 from rfl, nI_leI (by omega) (by omega)] at h81
              have e2 := (en hj _).mpr (if_neg (fun z => absurd z.1 (by omega)))
              refine r_iinc (L2 := [_, _, _, _, _, _]) rfl rfl rfl ?_
              refine r_goto rfl ?_
              rw [nI_1]
              have e := ih (i + 1) V (some (.int (nI (wsM T lt th n i j)))) (some (.int (nI j))) (by omega) (by omega) g1
              rw [e2] at e
              exact e
            · rw [show (1000000 : Int32) = nI 1000000 from rfl, nI_leI (by omega) (by omega)] at h81
              refine r_iload_n rfl rfl ?_
              refine r_if_lt rfl (fun h85 => ?_) (fun h85 => ?_)
              · have e2 := (en hj _).mpr (if_pos ⟨by omega, Or.inl (ng.mp h85)⟩)
                refine r_iload_n rfl rfl ?_
                refine r_istore_n (L2 := [_, _, _, _, _, _]) rfl rfl ?_
                refine r_iload rfl rfl ?_
                refine r_istore_n (L2 := [_, _, _, _, _, _]) rfl rfl ?_
                refine r_iinc (L2 := [_, _, _, _, _, _]) rfl rfl rfl ?_
                refine r_goto rfl ?_
                rw [nI_1]
                have e := ih (i + 1) V (some (.int (nI (wsM T lt th n i j)))) (some (.int (nI j))) (by omega) (by omega) g1
                rw [e2] at e
                exact e
              · refine r_iload rfl rfl ?_
                refine r_iload_n rfl rfl ?_
                refine r_icmp_ge rfl (fun h91 => ?_) (fun h91 => ?_)
                · rw [nI_leI (by omega) (by omega)] at h91
                  have e2 := (en hj _).mpr (if_neg (fun z => z.2.elim (fun y => h85 (ng.mpr y)) (fun y => absurd y (by omega))))
                  refine r_iinc (L2 := [_, _, _, _, _, _]) rfl rfl rfl ?_
                  refine r_goto rfl ?_
                  rw [nI_1]
                  have e := ih (i + 1) V (some (.int (nI (wsM T lt th n i j)))) (some (.int (nI j))) (by omega) (by omega) g1
                  rw [e2] at e
                  exact e
                · rw [nI_leI (by omega) (by omega)] at h91
                  have e2 := (en hj _).mpr (if_pos ⟨by omega, Or.inr (by omega)⟩)
                  refine r_iload_n rfl rfl ?_
                  refine r_istore_n (L2 := [_, _, _, _, _, _]) rfl rfl ?_
                  refine r_iload rfl rfl ?_
                  refine r_istore_n (L2 := [_, _, _, _, _, _]) rfl rfl ?_
                  refine r_iinc (L2 := [_, _, _, _, _, _]) rfl rfl rfl ?_
                  refine r_goto rfl ?_
                  rw [nI_1]
                  have e := ih (i + 1) V (some (.int (nI (wsM T lt th n i j)))) (some (.int (nI j))) (by omega) (by omega) g1
                  rw [e2] at e
                  exact e
          · rw [nI_leI (by omega) (by omega)] at h42
            refine r_iload rfl rfl ?_
            refine r_iload_n rfl rfl ?_
            refine r_icmp_ne rfl (fun h48 => ?_) (fun h48 => ?_)
            · rw [nI_eq (by omega) (by omega)] at h48
              have e1 : wsM T lt th n i (j + 1) = max (wsM T lt th n i j) (mnM (farR T lt th j n n) i) := by rw [wsM, if_neg h48]
              refine r_iload rfl rfl ?_
              refine r_aload_n rfl rfl ?_
              refine r_iload_n rfl rfl ?_
              refine r_iload rfl rfl ?_
              refine r_callVE rfl (min_d hp hn hz g1 q0 (by omega)) rfl rfl rfl (by decide) rfl (am_cnt rfl) (fun U hU => ?_)
              refine r_max rfl (am_cnt rfl) ?_
              try rw [max_nI (by omega) (by omega)]
              refine r_istore (L2 := [_, _, _, _, _, _]) rfl rfl ?_
              refine r_iinc (L2 := [_, _, _, _, _, _]) rfl rfl rfl ?_
              refine r_goto rfl ?_
              rw [← e1, nI_1]
              first | exact ih2 (j + 1) U q0 (by omega) (by omega) (frW_t g1 hU.1) | exact ih2 (j + 1) V q0 (by omega) (by omega) g1
            · rw [nI_eq (by omega) (by omega)] at h48
              have e1 : wsM T lt th n i (j + 1) = wsM T lt th n i j := by rw [wsM, if_pos h48]
              refine r_iload rfl rfl ?_
              refine r_goto rfl ?_
              try rw [max_nI (by omega) (by omega)]
              refine r_istore (L2 := [_, _, _, _, _, _]) rfl rfl ?_
              refine r_iinc (L2 := [_, _, _, _, _, _]) rfl rfl rfl ?_
              refine r_goto rfl ?_
              rw [← e1, nI_1]
              first | exact ih2 (j + 1) U q0 (by omega) (by omega) (frW_t g1 hU.1) | exact ih2 (j + 1) V q0 (by omega) (by omega) g1
      have cl := crM_le (S := T) (lt := lt) (th := th) (n := n) i
      refine r_iload_n rfl rfl ?_
      refine r_aload_n rfl rfl ?_
      refine r_getI rfl rfl (by decide) (by decide) rfl ?_
      rw [w3]
      refine r_icmp_ge rfl (fun h27 => ?_) (fun h27 => ?_)
      · rw [nI_leI (by omega) (by omega)] at h27
        obtain rfl : i = n := by omega
        refine r_iload_n rfl rfl ?_
        refine r_if_lt rfl (fun h106 => ?_) (fun h106 => ?_)
        · have hc : (crM T lt th i i).1 = none := by
            match hc : (crM T lt th i i).1 with
            | none => rfl
            | some x =>
              rw [hc] at h106
              have := cl.2 x hc
              exact absurd h106 (nI_neg (by omega))
          refine r_iload_n rfl rfl ?_
          refine r_iret rfl rfl ?_
          first
          | exact ⟨rfl, _, rfl, W, f1, (if_pos hc).symm⟩
          | exact ⟨rfl, _, rfl, W, f1, (if_neg hc).symm⟩
        · have hc : ¬ (crM T lt th i i).1 = none := fun z => h106 (by rw [z]; decide)
          refine r_aload_n rfl rfl ?_
          refine r_iconst rfl ?_
          refine r_putI rfl rfl (by decide) (by decide) rfl ?_
          refine r_aload_n rfl rfl ?_
          refine r_iload_n rfl rfl ?_
          refine r_i2l rfl ?_
          refine r_callV rfl (ct_X11_enters u971 (by decide)) rfl rfl rfl (by decide) rfl (am_cnt rfl) ?_
          refine r_iload_n rfl rfl ?_
          refine r_iret rfl rfl ?_
          first
          | exact ⟨rfl, _, rfl, W, f1, (if_pos hc).symm⟩
          | exact ⟨rfl, _, rfl, W, f1, (if_neg hc).symm⟩
      · rw [nI_leI (by omega) (by omega)] at h27
        refine r_iconst rfl ?_
        refine r_istore (L2 := [_, _, _, _, _, _]) rfl rfl ?_
        refine r_iconst rfl ?_
        refine r_istore (L2 := [_, _, _, _, _, _]) rfl rfl ?_
        exact loop2 (n + 1) 0 W (by omega) (by omega) (by omega) f1
  refine r_aload_n rfl rfl ?_
  refine r_iconst rfl ?_
  refine r_putI rfl rfl (by decide) (by decide) rfl ?_
  try rw [hT]
  refine r_aload_n rfl rfl ?_
  refine r_getI rfl rfl (by decide) (by decide) rfl ?_
  refine r_iconst rfl ?_
  refine r_icmp_ge rfl (fun h10 => ?_) (fun h10 => ?_)
  · refine r_bipush rfl ?_
    refine r_istore_n (L2 := [_, _, _, _, _, _]) rfl rfl ?_
    refine r_iconst rfl ?_
    refine r_istore_n (L2 := [_, _, _, _, _, _]) rfl rfl ?_
    refine r_iconst rfl ?_
    refine r_istore_n (L2 := [_, _, _, _, _, _]) rfl rfl ?_
    exact loop (n + 1) 0 T _ _ (by omega) (by omega) frW_0
  · exact absurd c2 h10
