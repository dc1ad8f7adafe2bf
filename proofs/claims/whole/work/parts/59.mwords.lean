/-! How far words are, in the reference: far 120. -/
abbrev nrM (S : am_S) (v q : Nat) : Prop := fBit (gI S 102 v) (nI q)
def stpN (lt th : Nat → Nat) (last q : Nat) : Nat := 16 * (lt q + if q = last then 0 else th q) + 1
def far1 (S : am_S) (lt th : Nat → Nat) (last : Nat) (F : Nat → Nat) (v q : Nat) : Nat → Nat := fun a => if a = v ∧ v ≠ last ∧ nrM S v q ∧ F q < 1000000 then min (F q + stpN lt th last q) (F v) else F a
def farQ (S : am_S) (lt th : Nat → Nat) (last : Nat) (F : Nat → Nat) (v : Nat) : Nat → Nat → Nat
  | 0 => F
  | q + 1 => far1 S lt th last (farQ S lt th last F v q) v q
def farV (S : am_S) (lt th : Nat → Nat) (last n : Nat) (F : Nat → Nat) : Nat → Nat → Nat
  | 0 => F
  | v + 1 => farQ S lt th last (farV S lt th last n F v) v n
def far0 (last : Nat) : Nat → Nat := fun a => if a = last then 0 else 1000000
def farR (S : am_S) (lt th : Nat → Nat) (last n : Nat) : Nat → Nat → Nat
  | 0 => far0 last
  | r + 1 => farV S lt th last n (farR S lt th last n r) n
theorem far1_le {S : am_S} {lt th : Nat → Nat} {last : Nat} {F : Nat → Nat} {v q : Nat} (h : ∀ a, F a ≤ 1000000) : ∀ a, far1 S lt th last F v q a ≤ 1000000 := fun a => by
  unfold far1
  split
  · have := h v
    omega
  · exact h a
theorem farQ_le {S : am_S} {lt th : Nat → Nat} {last : Nat} {F : Nat → Nat} {v : Nat} (h : ∀ a, F a ≤ 1000000) : ∀ q a, farQ S lt th last F v q a ≤ 1000000
  | 0 => h
  | q + 1 => far1_le (farQ_le h q)
theorem farV_le {S : am_S} {lt th : Nat → Nat} {last n : Nat} {F : Nat → Nat} (h : ∀ a, F a ≤ 1000000) : ∀ v a, farV S lt th last n F v a ≤ 1000000
  | 0 => h
  | v + 1 => farQ_le (farV_le h v) n
theorem farR_le {S : am_S} {lt th : Nat → Nat} {last n : Nat} : ∀ r a, farR S lt th last n r a ≤ 1000000
  | 0 => fun a => by
    unfold farR far0
    split <;> omega
  | r + 1 => farV_le (farR_le r) n
def FrW (S T : am_S) : Prop := (∀ o, o ≠ 120 → gI T o = gI S o) ∧ (∀ o, gJ T o = gJ S o) ∧ ∀ c, gR T c = gR S c
theorem frW_0 {S : am_S} : FrW S S := ⟨fun _ _ => rfl, fun _ => rfl, fun _ => rfl⟩
theorem frW_uI {S T : am_S} {k : Nat} {x : Int32} (h : FrW S T) : FrW S (uI T 120 k x) := ⟨fun o a => by rw [gI_uI_ne a, h.1 o a], fun o => by rw [gJ_uI_f, h.2.1 o], fun c => by rw [gR_uI, h.2.2 c]⟩
theorem frW_t {S T U : am_S} (h : FrW S T) (h2 : FrW T U) : FrW S U := ⟨fun o a => by rw [h2.1 o a, h.1 o a], fun o => by rw [h2.2.1 o, h.2.1 o], fun c => by rw [h2.2.2 c, h.2.2 c]⟩
def FarOk (F : Nat → Nat) (T : am_S) : Prop := ∀ a, a < 6 → gI T 120 a = nI (F a)
theorem far_congr {S T : am_S} {lt th : Nat → Nat} {last n : Nat} (h : gI T 102 = gI S 102) : farR T lt th last n = farR S lt th last n := by
  have e1 : ∀ F v q, far1 T lt th last F v q = far1 S lt th last F v q := fun F v q => by
    unfold far1 nrM
    rw [h]
  have e2 : ∀ F v q, farQ T lt th last F v q = farQ S lt th last F v q := fun F v q => by
    induction q with
    | zero => rfl
    | succ q ih => rw [farQ, farQ, ih, e1]
  have e3 : ∀ F v, farV T lt th last n F v = farV S lt th last n F v := fun F v => by
    induction v with
    | zero => rfl
    | succ v ih => rw [farV, farV, ih, e2]
  funext r
  induction r with
  | zero => rfl
  | succ r ih => rw [farR, farR, ih, e3]
theorem pm_fr {S T : am_S} {lt st th : Nat → Nat} (hp : PM S lt st th) (h : ∀ o, (o = 99 ∨ o = 100 ∨ o = 101) → gI T o = gI S o) : PM T lt st th := fun p hp6 => by
  rw [h 99 (by omega), h 100 (by omega), h 101 (by omega)]
  exact hp p hp6
theorem ct_X11_stepTo {d : Nat} {S : am_S} {lt st th : Nat → Nat} {q last : Nat} (hp : PM S lt st th) (hq : q < 6) (hl : last < 6) : am_CT (d + 1) iX11_stepTo [.ref 97, .int (nI q), .int (nI last)] S (some (.int (nI (stpN lt th last q)))) (S) := by
  refine am_CT_in mmX11_stepTo rfl rfl rfl ?_
  have bq : (nI q).toNatClampNeg = q := nI_clamp (by omega)
  have s1 : 0 ≤ nI q := nI_pos' (by omega)
  have s2 : nI q < Int32.ofNat 6 := nI_lt (by omega) (by omega)
  have g := hp q hq
  have fin : ∀ x : Nat, (16 : Int32) * (nI (lt q) + nI x) + 1 = nI (16 * (lt q + x) + 1) := fun x => by
    rw [nI_add, show (16 : Int32) * nI (lt q + x) = nI (16 * (lt q + x)) from pk_mul 16 _, show (1 : Int32) = nI 1 from rfl, nI_add]
  unfold stpN
  refine r_bipush rfl ?_
  refine r_aload_n rfl rfl ?_
  refine r_getC rfl rfl (by decide) (by decide) rfl ?_
  refine r_iload_n rfl rfl ?_
  refine r_iald rfl rfl (by first | decide | assumption) (by first | exact s1 | exact s2) (by first | exact s1 | exact s2) ?_
  refine r_iload_n rfl rfl ?_
  refine r_iload_n rfl rfl ?_
  refine r_icmp_ne rfl (fun h10 => ?_) (fun h10 => ?_)
  · rw [nI_eq (by omega) (by omega)] at h10
    refine r_aload_n rfl rfl ?_
    refine r_getC rfl rfl (by decide) (by decide) rfl ?_
    refine r_iload_n rfl rfl ?_
    refine r_iald rfl rfl (by first | decide | assumption) (by first | exact s1 | exact s2) (by first | exact s1 | exact s2) ?_
    refine r_iadd rfl ?_
    refine r_imul rfl ?_
    refine r_iconst rfl ?_
    refine r_iadd rfl ?_
    refine r_iret rfl rfl ?_
    rw [bq, g.1]
    first
    | (rw [if_neg h10, g.2.2.2.2.1, fin]; exact ⟨rfl, rfl⟩)
    | (rw [if_pos h10, ← fin]; exact ⟨rfl, rfl⟩)
  · rw [nI_eq (by omega) (by omega)] at h10
    refine r_iconst rfl ?_
    refine r_goto rfl ?_
    refine r_iadd rfl ?_
    refine r_imul rfl ?_
    refine r_iconst rfl ?_
    refine r_iadd rfl ?_
    refine r_iret rfl rfl ?_
    rw [bq, g.1]
    first
    | (rw [if_neg h10, g.2.2.2.2.1, fin]; exact ⟨rfl, rfl⟩)
    | (rw [if_pos h10, ← fin]; exact ⟨rfl, rfl⟩)
theorem ct_X11_fars {d : Nat} {S : am_S} {lt st th : Nat → Nat} {n last : Nat} (hp : PM S lt st th) (hn : gI S 97 3 = nI n) (hz : n ≤ 6) (hl : last < n) : am_CE (d + 2) iX11_fars [.ref 97, .int (nI last)] S (none) (fun T => FrW S T ∧ FarOk (farR S lt th last n n) T) := by
  refine am_CE_in mmX11_fars rfl rfl rfl ?_
  have n3 : ∀ T, FrW S T → gI T 97 3 = nI n := fun T h => by rw [h.1 97 (by decide), hn]
  have loop : ∀ (k : Nat) (r : Nat) (T : am_S) (v3 : Option Value) (v4 : Option Value), (r ≤ n) → (n < r + k) → (FrW S T) → (FarOk (farR S lt th last n r) T) → am_Ex (am_Call am_MT (d + 1)) mmX11_fars none (fun r1 G1 => r1 = (none) ∧ ∃ S2, G1 = am_H S2 ∧ (fun T => FrW S T ∧ FarOk (farR S lt th last n n) T) S2) (fun _ _ _ _ _ _ => False) 34 [some (.ref 97), some (.int (nI last)), some (.int (nI r)), v3, v4] [] (am_H (T)) 0 0 := by
    intro k
    induction k with
    | zero =>
      intro r T v3 v4 q1 q2 f1 f2
      omega
    | succ k ih =>
      intro r T v3 v4 q1 q2 f1 f2
      have t3 := n3 T f1
      have loop2 : ∀ (k2 : Nat) (v : Nat) (U : am_S) (v4 : Option Value), (r < n) → (v ≤ n) → (n < v + k2) → (FrW S U) → (FarOk (farV S lt th last n (farR S lt th last n r) v) U) → am_Ex (am_Call am_MT (d + 1)) mmX11_fars none (fun r1 G1 => r1 = (none) ∧ ∃ S2, G1 = am_H S2 ∧ (fun T => FrW S T ∧ FarOk (farR S lt th last n n) T) S2) (fun _ _ _ _ _ _ => False) 44 [some (.ref 97), some (.int (nI last)), some (.int (nI r)), some (.int (nI v)), v4] [] (am_H (U)) 0 0 := by
        intro k2
        induction k2 with
        | zero =>
          intro v U v4 q0 p1 p2 g1 g2
          omega
        | succ k2 ih2 =>
          intro v U v4 q0 p1 p2 g1 g2
          have u3 := n3 U g1
          have bv : (nI v).toNatClampNeg = v := nI_clamp (by omega)
          have s1 : 0 ≤ nI v := nI_pos' (by omega)
          have loop3 : ∀ (k3 : Nat) (q : Nat) (W : am_S), (v < n) → (q ≤ n) → (n < q + k3) → (FrW S W) → (FarOk (farQ S lt th last (farV S lt th last n (farR S lt th last n r) v) v q) W) → am_Ex (am_Call am_MT (d + 1)) mmX11_fars none (fun r1 G1 => r1 = (none) ∧ ∃ S2, G1 = am_H S2 ∧ (fun T => FrW S T ∧ FarOk (farR S lt th last n n) T) S2) (fun _ _ _ _ _ _ => False) 55 [some (.ref 97), some (.int (nI last)), some (.int (nI r)), some (.int (nI v)), some (.int (nI q))] [] (am_H (W)) 0 0 := by
            intro k3
            induction k3 with
            | zero =>
              intro q W v0 r1 r2 w1 w2
              omega
            | succ k3 ih3 =>
              intro q W v0 r1 r2 w1 w2
              have w3 := n3 W w1
              have bq : (nI q).toNatClampNeg = q := nI_clamp (by omega)
              have s2 : nI v < Int32.ofNat 6 := nI_lt (by omega) (by omega)
              have s3 : 0 ≤ nI q := nI_pos' (by omega)
              have wv := w2 v (by omega)
              have Fl := farQ_le (S := S) (lt := lt) (th := th) (last := last) (F := farV S lt th last n (farR S lt th last n r) v) (v := v) (farV_le (farR_le r) v) q
              have hp2 : PM W lt st th := pm_fr hp (fun o ho => w1.1 o (by omega))
              have g102 : gI W 102 = gI S 102 := w1.1 102 (by decide)
              have keep : ¬ (v ≠ last ∧ nrM S v q ∧ farQ S lt th last (farV S lt th last n (farR S lt th last n r) v) v q q < 1000000) → FarOk (farQ S lt th last (farV S lt th last n (farR S lt th last n r) v) v (q + 1)) W := fun h a ha => by
                rw [w2 a ha, farQ, far1, if_neg (fun z => h z.2)]
              have setF : v ≠ last ∧ nrM S v q ∧ farQ S lt th last (farV S lt th last n (farR S lt th last n r) v) v q q < 1000000 → FarOk (farQ S lt th last (farV S lt th last n (farR S lt th last n r) v) v (q + 1)) (uI W 120 v (nI (min (farQ S lt th last (farV S lt th last n (farR S lt th last n r) v) v q q + stpN lt th last q) (farQ S lt th last (farV S lt th last n (farR S lt th last n r) v) v q v)))) := fun h a ha => by
                rw [gI_uI, if_pos rfl, farQ, far1]
                by_cases hav : a = v
                · rw [if_pos hav, if_pos ⟨hav, h⟩]
                · rw [if_neg hav, if_neg (fun z => hav z.1), w2 a ha]
              have st1 : q < 6 → stpN lt th last q ≤ 465 := fun hq => by
                have := hp q hq
                unfold stpN
                split <;> omega
              refine r_iload rfl rfl ?_
              refine r_aload_n rfl rfl ?_
              refine r_getI rfl rfl (by decide) (by decide) rfl ?_
              rw [w3]
              refine r_icmp_ge rfl (fun h61 => ?_) (fun h61 => ?_)
              · rw [nI_leI (by omega) (by omega)] at h61
                obtain rfl : q = n := by omega
                refine r_iinc (L2 := [_, _, _, _, _]) rfl rfl rfl ?_
                refine r_goto rfl ?_
                rw [nI_1]
                exact ih2 (v + 1) W _ q0 (by omega) (by omega) w1 w2
              · rw [nI_leI (by omega) (by omega)] at h61
                have s4 : nI q < Int32.ofNat 6 := nI_lt (by omega) (by omega)
                have Flq := Fl q
                refine r_iload_n rfl rfl ?_
                refine r_iload_n rfl rfl ?_
                refine r_icmp_eq rfl (fun h66 => ?_) (fun h66 => ?_)
                · rw [nI_eq (by omega) (by omega)] at h66
                  have kq := keep (fun z => z.1 h66)
                  refine r_iinc (L2 := [_, _, _, _, _]) rfl rfl rfl ?_
                  refine r_goto rfl ?_
                  rw [nI_1]
                  first
                  | exact ih3 (q + 1) W v0 (by omega) (by omega) w1 kq
                  | (rw [bv]; exact ih3 (q + 1) _ v0 (by omega) (by omega) (frW_uI w1) (setF hs))
                · rw [nI_eq (by omega) (by omega)] at h66
                  refine r_aload_n rfl rfl ?_
                  refine r_getC rfl rfl (by decide) (by decide) rfl ?_
                  refine r_iload_n rfl rfl ?_
                  refine r_iald rfl rfl (by first | decide | assumption) (by first | exact s1 | exact s2 | exact s3 | exact s4) (by first | exact s1 | exact s2 | exact s3 | exact s4) ?_
                  refine r_iload rfl rfl ?_
                  refine r_callS rfl (by decide) ct_X11_has rfl rfl (am_cnt rfl) ?_
                  refine r_if_eq rfl (fun h80 => ?_) (fun h80 => ?_)
                  · rw [b01_eq0, bv, g102] at h80
                    have kq := keep (fun z => h80 z.2.1)
                    refine r_iinc (L2 := [_, _, _, _, _]) rfl rfl rfl ?_
                    refine r_goto rfl ?_
                    rw [nI_1]
                    first
                    | exact ih3 (q + 1) W v0 (by omega) (by omega) w1 kq
                    | (rw [bv]; exact ih3 (q + 1) _ v0 (by omega) (by omega) (frW_uI w1) (setF hs))
                  · rw [b01_eq0, bv, g102] at h80
                    refine r_aload_n rfl rfl ?_
                    refine r_getC rfl rfl (by decide) (by decide) rfl ?_
                    refine r_iload rfl rfl ?_
                    refine r_iald rfl rfl (by first | decide | assumption) (by first | exact s1 | exact s2 | exact s3 | exact s4) (by first | exact s1 | exact s2 | exact s3 | exact s4) ?_
                    rw [bq, w2 q (by omega)]
                    refine r_ldc_w rfl ?_
                    refine r_icmp_ge rfl (fun h93 => ?_) (fun h93 => ?_)
                    · rw [show (1000000 : Int32) = nI 1000000 from rfl, nI_leI (by omega) (by omega)] at h93
                      have kq := keep (fun z => absurd z.2.2 (by omega))
                      refine r_iinc (L2 := [_, _, _, _, _]) rfl rfl rfl ?_
                      refine r_goto rfl ?_
                      rw [nI_1]
                      first
                      | exact ih3 (q + 1) W v0 (by omega) (by omega) w1 kq
                      | (rw [bv]; exact ih3 (q + 1) _ v0 (by omega) (by omega) (frW_uI w1) (setF hs))
                    · rw [show (1000000 : Int32) = nI 1000000 from rfl, nI_leI (by omega) (by omega)] at h93
                      have hs : v ≠ last ∧ nrM S v q ∧ _ := ⟨h66, Decidable.not_not.mp h80, Nat.not_le.mp h93⟩
                      refine r_aload_n rfl rfl ?_
                      refine r_getC rfl rfl (by decide) (by decide) rfl ?_
                      refine r_iload_n rfl rfl ?_
                      refine r_aload_n rfl rfl ?_
                      refine r_getC rfl rfl (by decide) (by decide) rfl ?_
                      refine r_iload_n rfl rfl ?_
                      refine r_iald rfl rfl (by first | decide | assumption) (by first | exact s1 | exact s2 | exact s3 | exact s4) (by first | exact s1 | exact s2 | exact s3 | exact s4) ?_
                      rw [bv, wv]
                      refine r_aload_n rfl rfl ?_
                      refine r_getC rfl rfl (by decide) (by decide) rfl ?_
                      refine r_iload rfl rfl ?_
                      refine r_iald rfl rfl (by first | decide | assumption) (by first | exact s1 | exact s2 | exact s3 | exact s4) (by first | exact s1 | exact s2 | exact s3 | exact s4) ?_
                      rw [bq, w2 q (by omega)]
                      refine r_aload_n rfl rfl ?_
                      refine r_iload rfl rfl ?_
                      refine r_iload_n rfl rfl ?_
                      refine r_callV rfl (ct_X11_stepTo hp2 (by omega) (by omega)) rfl rfl rfl (by decide) rfl (am_cnt rfl) ?_
                      refine r_iadd rfl ?_
                      rw [nI_add]
                      refine r_min rfl (am_cnt rfl) ?_
                      rw [min_nI (by have := Fl q; have := st1 (by omega); omega) (by have := Fl v; omega)]
                      refine r_iast rfl rfl (by first | decide | assumption) (by first | exact s1 | exact s2 | exact s3 | exact s4) (by first | exact s1 | exact s2 | exact s3 | exact s4) ?_
                      refine r_iinc (L2 := [_, _, _, _, _]) rfl rfl rfl ?_
                      refine r_goto rfl ?_
                      rw [nI_1]
                      first
                      | exact ih3 (q + 1) W v0 (by omega) (by omega) w1 kq
                      | (rw [bv]; exact ih3 (q + 1) _ v0 (by omega) (by omega) (frW_uI w1) (setF hs))
          refine r_iload_n rfl rfl ?_
          refine r_aload_n rfl rfl ?_
          refine r_getI rfl rfl (by decide) (by decide) rfl ?_
          rw [u3]
          refine r_icmp_ge rfl (fun h49 => ?_) (fun h49 => ?_)
          · rw [nI_leI (by omega) (by omega)] at h49
            obtain rfl : v = n := by omega
            refine r_iinc (L2 := [_, _, _, _, _]) rfl rfl rfl ?_
            refine r_goto rfl ?_
            rw [nI_1]
            exact ih (r + 1) U _ _ (by omega) (by omega) g1 g2
          · rw [nI_leI (by omega) (by omega)] at h49
            refine r_iconst rfl ?_
            refine r_istore (L2 := [_, _, _, _, _]) rfl rfl ?_
            exact loop3 (n + 1) 0 U (by omega) (by omega) (by omega) g1 g2
      refine r_iload_n rfl rfl ?_
      refine r_aload_n rfl rfl ?_
      refine r_getI rfl rfl (by decide) (by decide) rfl ?_
      rw [t3]
      refine r_icmp_ge rfl (fun h39 => ?_) (fun h39 => ?_)
      · rw [nI_leI (by omega) (by omega)] at h39
        obtain rfl : r = n := by omega
        refine r_vret rfl ?_
        exact ⟨rfl, _, rfl, f1, f2⟩
      · rw [nI_leI (by omega) (by omega)] at h39
        refine r_iconst rfl ?_
        refine r_istore_n (L2 := [_, _, _, _, _]) rfl rfl ?_
        exact loop2 (n + 1) 0 T _ (by omega) (by omega) (by omega) f1 f2
  have loop4 : ∀ (k4 : Nat) (j : Nat) (T : am_S), (j ≤ 6) → (6 < j + k4) → (FrW S T) → (∀ a, a < j → gI T 120 a = nI (far0 last a)) → am_Ex (am_Call am_MT (d + 1)) mmX11_fars none (fun r1 G1 => r1 = (none) ∧ ∃ S2, G1 = am_H S2 ∧ (fun T => FrW S T ∧ FarOk (farR S lt th last n n) T) S2) (fun _ _ _ _ _ _ => False) 2 [some (.ref 97), some (.int (nI last)), some (.int (nI j)), none, none] [] (am_H (T)) 0 0 := by
    intro k4
    induction k4 with
    | zero =>
      intro j T q1 q2 f1 f2
      omega
    | succ k4 ih4 =>
      intro j T q1 q2 f1 f2
      have bj : (nI j).toNatClampNeg = j := nI_clamp (by omega)
      have s1 : 0 ≤ nI j := nI_pos' (by omega)
      have nx : ∀ x : Int32, x = nI (far0 last j) → ∀ a, a < j + 1 → gI (uI T 120 j x) 120 a = nI (far0 last a) := fun x hx a ha => by
        rw [gI_uI, if_pos rfl]
        by_cases h : a = j
        · rw [if_pos h, hx, h]
        · rw [if_neg h, f2 a (by omega)]
      refine r_iload_n rfl rfl ?_
      refine r_bipush rfl ?_
      refine r_icmp_ge rfl (fun h5 => ?_) (fun h5 => ?_)
      · have hj : j = 6 := by
          rw [show (6 : Int32) = nI 6 from rfl, nI_leI (by omega) (by omega)] at h5
          omega
        subst hj
        refine r_iconst rfl ?_
        refine r_istore_n (L2 := [_, _, _, _, _]) rfl rfl ?_
        exact loop (n + 1) 0 T _ _ (by omega) (by omega) f1 f2
      · have hj : j < 6 := by
          rw [show (6 : Int32) = nI 6 from rfl, nI_leI (by omega) (by omega)] at h5
          omega
        have s2 : nI j < Int32.ofNat 6 := nI_lt (by omega) (by omega)
        refine r_aload_n rfl rfl ?_
        refine r_getC rfl rfl (by decide) (by decide) rfl ?_
        refine r_iload_n rfl rfl ?_
        refine r_iload_n rfl rfl ?_
        refine r_iload_n rfl rfl ?_
        refine r_icmp_ne rfl (fun h15 => ?_) (fun h15 => ?_)
        · rw [nI_eq (by omega) (by omega)] at h15
          refine r_ldc_w rfl ?_
          refine r_iast rfl rfl (by first | decide | assumption) (by first | exact s1 | exact s2) (by first | exact s1 | exact s2) ?_
          refine r_iinc (L2 := [_, _, _, _, _]) rfl rfl rfl ?_
          refine r_goto rfl ?_
          rw [bj, nI_1]
          exact ih4 (j + 1) _ (by omega) (by omega) (frW_uI f1) (nx _ (by unfold far0; first | (rw [if_neg h15]; rfl) | (rw [if_pos h15]; rfl)))
        · rw [nI_eq (by omega) (by omega)] at h15
          refine r_iconst rfl ?_
          refine r_goto rfl ?_
          refine r_iast rfl rfl (by first | decide | assumption) (by first | exact s1 | exact s2) (by first | exact s1 | exact s2) ?_
          refine r_iinc (L2 := [_, _, _, _, _]) rfl rfl rfl ?_
          refine r_goto rfl ?_
          rw [bj, nI_1]
          exact ih4 (j + 1) _ (by omega) (by omega) (frW_uI f1) (nx _ (by unfold far0; first | (rw [if_neg h15]; rfl) | (rw [if_pos h15]; rfl)))
  refine r_iconst rfl ?_
  refine r_istore_n (L2 := [_, _, _, _, _]) rfl rfl ?_
  exact loop4 7 0 S (by omega) (by omega) frW_0 (fun a ha => by omega)
def mnM (F : Nat → Nat) (one : Nat) : Nat := if F one = 1000000 then 1000000 else F one / 16
theorem ct_X11_minutesTo {d : Nat} {S : am_S} {lt st th : Nat → Nat} {n one last : Nat} (hp : PM S lt st th) (hn : gI S 97 3 = nI n) (hz : n ≤ 6) (h1 : one < n) (hl : last < n) : am_CE (d + 3) iX11_minutesTo [.ref 97, .int (nI one), .int (nI last)] S (some (.int (nI (mnM (farR S lt th last n n) one)))) (fun T => FrW S T ∧ FarOk (farR S lt th last n n) T) := by
  refine am_CE_in mmX11_minutesTo rfl rfl rfl ?_
  have bo : (nI one).toNatClampNeg = one := nI_clamp (by omega)
  have s1 : 0 ≤ nI one := nI_pos' (by omega)
  have s2 : nI one < Int32.ofNat 6 := nI_lt (by omega) (by omega)
  have Fl := farR_le (S := S) (lt := lt) (th := th) (last := last) (n := n) n one
  have dv : nI (farR S lt th last n n one) / 16 = nI (farR S lt th last n n one / 16) := pk_div (d := 16) (by omega) (by decide) (by decide)
  unfold mnM
  refine r_aload_n rfl rfl ?_
  refine r_iload_n rfl rfl ?_
  refine r_callVE rfl (ct_X11_fars hp hn hz hl) rfl rfl rfl (by decide) rfl (am_cnt rfl) (fun T hT => ?_)
  refine r_aload_n rfl rfl ?_
  refine r_getC rfl rfl (by decide) (by decide) rfl ?_
  refine r_iload_n rfl rfl ?_
  refine r_iald rfl rfl (by first | decide | assumption) (by first | exact s1 | exact s2 | decide) (by first | exact s1 | exact s2 | decide) ?_
  rw [bo, hT.2 one (by omega)]
  refine r_ldc_w rfl ?_
  refine r_icmp_ne rfl (fun h14 => ?_) (fun h14 => ?_)
  · rw [show (1000000 : Int32) = nI 1000000 from rfl, nI_eq (by omega) (by omega)] at h14
    rw [if_neg h14]
    refine r_aload_n rfl rfl ?_
    refine r_getC rfl rfl (by decide) (by decide) rfl ?_
    refine r_iload_n rfl rfl ?_
    refine r_iald rfl rfl (by first | decide | assumption) (by first | exact s1 | exact s2 | decide) (by first | exact s1 | exact s2 | decide) ?_
    rw [bo, hT.2 one (by omega)]
    refine r_bipush rfl ?_
    refine r_idiv rfl (by decide) ?_
    refine r_iret rfl rfl ?_
    first
    | (rw [dv]; exact ⟨rfl, _, rfl, hT.1, hT.2⟩)
    | exact ⟨rfl, _, rfl, hT.1, hT.2⟩
  · rw [show (1000000 : Int32) = nI 1000000 from rfl, nI_eq (by omega) (by omega)] at h14
    rw [if_pos h14]
    refine r_ldc_w rfl ?_
    refine r_goto rfl ?_
    refine r_iret rfl rfl ?_
    first
    | (rw [dv]; exact ⟨rfl, _, rfl, hT.1, hT.2⟩)
    | exact ⟨rfl, _, rfl, hT.1, hT.2⟩
