/-! Says of the reference. -/
theorem fstF_ex {p : Nat → Prop} [DecidablePred p] : ∀ f q q2, q ≤ q2 → q2 < q + f → p q2 → p (fstF p q f) ∧ fstF p q f ≤ q2 ∧ q ≤ fstF p q f ∧ ∀ a, q ≤ a → a < fstF p q f → ¬ p a
  | 0, q, q2, h1, h2, _ => by omega
  | f + 1, q, q2, h1, h2, h3 => by
    unfold fstF
    by_cases h : p q
    · rw [if_pos h]
      exact ⟨h, h1, Nat.le_refl _, fun a b c => by omega⟩
    · rw [if_neg h]
      have hq : q ≠ q2 := fun z => h (by rw [z]; exact h3)
      obtain ⟨a, b, c, e⟩ := fstF_ex f (q + 1) q2 (by omega) (by omega) h3
      refine ⟨a, b, by omega, fun x y z => ?_⟩
      by_cases hx : x = q
      · rw [hx]; exact h
      · exact e x (by omega) z
abbrev wyP (S : am_S) (lt th : Nat → Nat) (last : Nat) (F : Nat → Nat) (v q : Nat) : Prop := nrM S v q ∧ ¬ F q = 1000000 ∧ F q + stpN lt th last q = F v
/-- who is next, and who it is after j -/
def nxM (S : am_S) (lt th : Nat → Nat) (last : Nat) (F : Nat → Nat) (v : Nat) : Nat := fstF (fun q => wyP S lt th last F v q) 0 6
def atM (S : am_S) (lt th : Nat → Nat) (last : Nat) (F : Nat → Nat) (one : Nat) : Nat → Nat
  | 0 => one
  | j + 1 => nxM S lt th last F (atM S lt th last F one j)
theorem nxM_ok {S : am_S} {lt th : Nat → Nat} {last : Nat} {F : Nat → Nat} {v : Nat} (h : ∃ q, q < 6 ∧ wyP S lt th last F v q) : wyP S lt th last F v (nxM S lt th last F v) ∧ nxM S lt th last F v < 6 ∧ ∀ a, a < nxM S lt th last F v → ¬ wyP S lt th last F v a := by
  obtain ⟨q, h1, h2⟩ := h
  obtain ⟨a, b, c, e⟩ := fstF_ex (p := fun q => wyP S lt th last F v q) 6 0 q (by omega) (by omega) h2
  exact ⟨a, Nat.lt_of_le_of_lt b h1, fun x hx => e x (by omega) hx⟩
theorem elL_o {S : am_S} {f : Nat → Int64} {o : Nat} (h : o ≠ 97) : ∀ n, gI (elL S f n) o = gI S o
  | 0 => by rw [elL, gI_uI_ne h]
  | n + 1 => by rw [elL, eAdd, gI_uI_ne h, gI_uJ_f, elL_o h n]
theorem ct_X11_says_no {d : Nat} {S T : am_S} {p q : Int32} (hT : uI S 97 0 0 = T) (hz : 0 ≤ gI T 97 3) (h : ¬ twoM T p q) : am_CT (d + 4) iX11_says [.ref 97, .int p, .int q] S (some (.int (-1))) (T) := by
  refine am_CT_in mmX11_says rfl rfl rfl ?_
  refine r_aload_n rfl rfl ?_
  refine r_iconst rfl ?_
  refine r_putI rfl rfl (by decide) (by decide) rfl ?_
  try rw [hT]
  refine r_aload_n rfl rfl ?_
  refine r_iload_n rfl rfl ?_
  refine r_iload_n rfl rfl ?_
  refine r_callV rfl (ct_X11_arePair hz) rfl rfl rfl (by decide) rfl (am_cnt rfl) ?_
  refine r_if_ne rfl (fun h11 => ?_) (fun h11 => ?_)
  · exact (h11 (b01_f (h))).elim
  · refine r_iconst rfl ?_
    refine r_iret rfl rfl ?_
    exact ⟨rfl, rfl⟩
theorem ct_X11_says_un {d : Nat} {S T : am_S} {lt st th : Nat → Nat} {n one last : Nat} (hT : uI S 97 0 0 = T) (hp : PM T lt st th) (hn : gI T 97 3 = nI n) (hz : n ≤ 6) (h1 : one < n) (hl : last < n) (hne : one ≠ last) (hm : mnV T lt th n one last = 1000000) : am_CE (d + 4) iX11_says [.ref 97, .int (nI one), .int (nI last)] S (some (.int (-2))) (fun U => FrW T U) := by
  refine am_CE_in mmX11_says rfl rfl rfl ?_
  have two := two_nM hn hz h1 hl hne
  refine r_aload_n rfl rfl ?_
  refine r_iconst rfl ?_
  refine r_putI rfl rfl (by decide) (by decide) rfl ?_
  try rw [hT]
  refine r_aload_n rfl rfl ?_
  refine r_iload_n rfl rfl ?_
  refine r_iload_n rfl rfl ?_
  refine r_callV rfl (ct_X11_arePair (zM hn hz)) rfl rfl rfl (by decide) rfl (am_cnt rfl) ?_
  refine r_if_ne rfl (fun h11 => ?_) (fun h11 => ?_)
  · refine r_aload_n rfl rfl ?_
    refine r_iload_n rfl rfl ?_
    refine r_iload_n rfl rfl ?_
    refine r_callVE rfl (mnV_ct hp hn hz frW_0 h1 hl) rfl rfl rfl (by decide) rfl (am_cnt rfl) (fun V hV => ?_)
    refine r_istore_n (L2 := [_, _, _, _, _, _]) rfl rfl ?_
    refine r_iload_n rfl rfl ?_
    refine r_ldc_w rfl ?_
    refine r_icmp_ne rfl (fun h27 => ?_) (fun h27 => ?_)
    · exact absurd (congrArg nI hm) h27
    · refine r_bipush rfl ?_
      refine r_iret rfl rfl ?_
      exact ⟨rfl, _, rfl, hV.1⟩
  · exact absurd (two) (b01_eq0.mp h11)
def wyL (S : am_S) (lt th : Nat → Nat) (last : Nat) (F : Nat → Nat) (one j : Nat) : Int64 := (nI (atM S lt th last F one (j + 1))).toInt64
theorem ct_X11_says_ok {d : Nat} {S T : am_S} {lt st th : Nat → Nat} {n one last K : Nat} {F : Nat → Nat} (hT : uI S 97 0 0 = T) (hF : farR T lt th last n n = F) (hp : PM T lt st th) (hn : gI T 97 3 = nI n) (hz : n ≤ 6) (h1 : one < n) (hl : last < n) (hne : one ≠ last) (hm : ¬ mnV T lt th n one last = 1000000) (hK : 1 ≤ K ∧ K ≤ 6) (hat : atM T lt th last F one K = last) (hw : ∀ j, j < K → ¬ atM T lt th last F one j = last ∧ ∃ q, q < 6 ∧ wyP T lt th last F (atM T lt th last F one j) q) : am_CE (d + 4) iX11_says [.ref 97, .int (nI one), .int (nI last)] S (some (.int (nI (mnV T lt th n one last)))) (fun U => ∃ T1, FrW T T1 ∧ U = elL T1 (wyL T lt th last F one) (K - 1)) := by
  refine am_CE_in mmX11_says rfl rfl rfl ?_
  have two := two_nM hn hz h1 hl hne
  have ml := mnV_le (S := T) (lt := lt) (th := th) (n := n) (a := one) (b := last)
  have Fl : ∀ a, F a ≤ 1000000 := fun a => by rw [← hF]; exact farR_le n a
  have a6 : ∀ j, j ≤ K → atM T lt th last F one j < 6 := fun j hj => by
    match j, hj with
    | 0, _ => show one < 6; omega
    | i + 1, hi => exact (nxM_ok (hw i (by omega)).2).2.1
  have loop : ∀ (k : Nat) (j : Nat) (T1 : am_S) (v5 : Option Value), (j ≤ K) → (K < j + k) → (FrW T T1) → (FarOk F T1) → am_Ex (am_Call am_MT (d + 3)) mmX11_says none (fun r1 G1 => r1 = (some (.int (nI (mnV T lt th n one last)))) ∧ ∃ S2, G1 = am_H S2 ∧ (fun U => ∃ T1, FrW T T1 ∧ U = elL T1 (wyL T lt th last F one) (K - 1)) S2) (fun _ _ _ _ _ _ => False) 41 [some (.ref 97), some (.int (nI one)), some (.int (nI last)), some (.int (nI (mnV T lt th n one last))), some (.int (nI (atM T lt th last F one j))), v5] [] (am_H (elL T1 (wyL T lt th last F one) (min j (K - 1)))) 0 0 := by
    intro k
    induction k with
    | zero =>
      intro j T1 v5 q1 q2 f1 f2
      omega
    | succ k ih =>
      intro j T1 v5 q1 q2 f1 f2
      have aj := a6 j q1
      by_cases hjK : j = K
      · have ej : atM T lt th last F one j = last := by rw [hjK, hat]
        rw [ej, show min j (K - 1) = K - 1 by omega]
        refine r_iload rfl rfl ?_
        refine r_iload_n rfl rfl ?_
        refine r_icmp_eq rfl (fun h44 => ?_) (fun h44 => ?_)
        · refine r_iload_n rfl rfl ?_
          refine r_iret rfl rfl ?_
          exact ⟨rfl, _, rfl, T1, f1, rfl⟩
        · exact absurd rfl h44
      · obtain ⟨nl, ex⟩ := hw j (by omega)
        obtain ⟨x1, x2, x3⟩ := nxM_ok ex
        have nlI : ¬ nI (atM T lt th last F one j) = nI last := fun z => nl (nI_inj (by omega) (by omega) z)
        have nxe : atM T lt th last F one (j + 1) = nxM T lt th last F (atM T lt th last F one j) := rfl
        have bv : (nI (atM T lt th last F one j)).toNatClampNeg = atM T lt th last F one j := nI_clamp (by omega)
        have s1 : 0 ≤ nI (atM T lt th last F one j) := nI_pos' (by omega)
        have s2 : nI (atM T lt th last F one j) < Int32.ofNat 6 := nI_lt (by omega) (by omega)
        have g102 : gI (elL T1 (wyL T lt th last F one) (min j (K - 1))) 102 = gI T 102 := by rw [elL_o (by decide), f1.1 102 (by decide)]
        have g120 : ∀ a, a < 6 → gI (elL T1 (wyL T lt th last F one) (min j (K - 1))) 120 a = nI (F a) := fun a ha => by rw [elL_o (by decide), f2 a ha]
        have hp2 : PM (elL T1 (wyL T lt th last F one) (min j (K - 1))) lt st th := pm_fr hp (fun o ho => by rw [elL_o (by omega), f1.1 o (by omega)])
        have nK : min j (K - 1) = j := by omega
        have loop2 : ∀ (k2 : Nat) (q : Nat), (q ≤ nxM T lt th last F (atM T lt th last F one j)) → (nxM T lt th last F (atM T lt th last F one j) < q + k2) → am_Ex (am_Call am_MT (d + 3)) mmX11_says none (fun r1 G1 => r1 = (some (.int (nI (mnV T lt th n one last)))) ∧ ∃ S2, G1 = am_H S2 ∧ (fun U => ∃ T1, FrW T T1 ∧ U = elL T1 (wyL T lt th last F one) (K - 1)) S2) (fun _ _ _ _ _ _ => False) 50 [some (.ref 97), some (.int (nI one)), some (.int (nI last)), some (.int (nI (mnV T lt th n one last))), some (.int (nI (atM T lt th last F one j))), some (.int (nI q))] [] (am_H (elL T1 (wyL T lt th last F one) (min j (K - 1)))) 0 0 := by
          intro k2
          induction k2 with
          | zero =>
            intro q p1 p2
            omega
          | succ k2 ih2 =>
            intro q p1 p2
            have bq : (nI q).toNatClampNeg = q := nI_clamp (by omega)
            have s3 : 0 ≤ nI q := nI_pos' (by omega)
            have s4 : nI q < Int32.ofNat 6 := nI_lt (by omega) (by omega)
            have Fq := Fl q
            have Fv := Fl (atM T lt th last F one j)
            have sq : stpN lt th last q ≤ 465 := by
              have := hp q (by omega)
              unfold stpN
              split <;> omega
            by_cases hq : q = nxM T lt th last F (atM T lt th last F one j)
            · rw [← hq] at x1 nxe
              obtain ⟨y1, y2, y3⟩ := x1
              refine r_aload_n rfl rfl ?_
              refine r_getC rfl rfl (by decide) (by decide) rfl ?_
              refine r_iload rfl rfl ?_
              refine r_iald rfl rfl (by first | decide | assumption) (by first | exact s1 | exact s2 | exact s3 | exact s4) (by first | exact s1 | exact s2 | exact s3 | exact s4) ?_
              refine r_iload rfl rfl ?_
              refine r_callS rfl (by decide) ct_X11_has rfl rfl (am_cnt rfl) ?_
              refine r_if_eq rfl (fun h62 => ?_) (fun h62 => ?_)
              · rw [bv, g102, b01_eq0] at h62
                exact absurd y1 h62
              · refine r_aload_n rfl rfl ?_
                refine r_getC rfl rfl (by decide) (by decide) rfl ?_
                refine r_iload rfl rfl ?_
                refine r_iald rfl rfl (by first | decide | assumption) (by first | exact s1 | exact s2 | exact s3 | exact s4) (by first | exact s1 | exact s2 | exact s3 | exact s4) ?_
                rw [bq, g120 q (by omega)]
                refine r_ldc_w rfl ?_
                refine r_icmp_eq rfl (fun h75 => ?_) (fun h75 => ?_)
                · rw [show (1000000 : Int32) = nI 1000000 from rfl, nI_eq (by omega) (by omega)] at h75
                  exact absurd h75 y2
                · refine r_aload_n rfl rfl ?_
                  refine r_getC rfl rfl (by decide) (by decide) rfl ?_
                  refine r_iload rfl rfl ?_
                  refine r_iald rfl rfl (by first | decide | assumption) (by first | exact s1 | exact s2 | exact s3 | exact s4) (by first | exact s1 | exact s2 | exact s3 | exact s4) ?_
                  rw [bq, g120 q (by omega)]
                  refine r_aload_n rfl rfl ?_
                  refine r_iload rfl rfl ?_
                  refine r_iload_n rfl rfl ?_
                  refine r_callV rfl (ct_X11_stepTo hp2 (by omega) (by omega)) rfl rfl rfl (by decide) rfl (am_cnt rfl) ?_
                  refine r_iadd rfl ?_
                  rw [nI_add]
                  refine r_aload_n rfl rfl ?_
                  refine r_getC rfl rfl (by decide) (by decide) rfl ?_
                  refine r_iload rfl rfl ?_
                  refine r_iald rfl rfl (by first | decide | assumption) (by first | exact s1 | exact s2 | exact s3 | exact s4) (by first | exact s1 | exact s2 | exact s3 | exact s4) ?_
                  rw [bv, g120 _ aj]
                  refine r_icmp_eq rfl (fun h100 => ?_) (fun h100 => ?_)
                  · refine r_iload rfl rfl ?_
                    refine r_iload_n rfl rfl ?_
                    refine r_icmp_eq rfl (fun h112 => ?_) (fun h112 => ?_)
                    · rw [nI_eq (by omega) (by omega)] at h112
                      have hjl : j + 1 = K := by
                        apply Decidable.byContradiction
                        intro z
                        exact (hw (j + 1) (by omega)).1 (by rw [nxe, h112])
                      refine r_iload rfl rfl ?_
                      refine r_istore (L2 := [_, _, _, _, _, _]) rfl rfl ?_
                      refine r_goto rfl ?_
                      have e := ih (j + 1) T1 (some (.int (nI q))) (by omega) (by omega) f1 f2
                      rw [nxe] at e
                      first
                      | (rw [show min (j + 1) (K - 1) = min j (K - 1) by omega] at e; exact e)
                      | (rw [show min (j + 1) (K - 1) = min j (K - 1) + 1 by omega, elL, show wyL T lt th last F one (min j (K - 1)) = (nI q).toInt64 from by rw [nK, wyL, nxe]] at e; exact e)
                    · rw [nI_eq (by omega) (by omega)] at h112
                      have hjl : j + 1 < K := by
                        apply Decidable.byContradiction
                        intro z
                        exact h112 (by rw [← nxe, show j + 1 = K by omega, hat])
                      refine r_aload_n rfl rfl ?_
                      refine r_iload rfl rfl ?_
                      refine r_i2l rfl ?_
                      refine r_callV rfl (ct_X11_enters (elL_n (min j (K - 1))) (by omega)) rfl rfl rfl (by decide) rfl (am_cnt rfl) ?_
                      refine r_iload rfl rfl ?_
                      refine r_istore (L2 := [_, _, _, _, _, _]) rfl rfl ?_
                      refine r_goto rfl ?_
                      have e := ih (j + 1) T1 (some (.int (nI q))) (by omega) (by omega) f1 f2
                      rw [nxe] at e
                      first
                      | (rw [show min (j + 1) (K - 1) = min j (K - 1) by omega] at e; exact e)
                      | (rw [show min (j + 1) (K - 1) = min j (K - 1) + 1 by omega, elL, show wyL T lt th last F one (min j (K - 1)) = (nI q).toInt64 from by rw [nK, wyL, nxe]] at e; exact e)
                  · exact absurd (congrArg nI y3) h100
            · have nq := x3 q (by omega)
              refine r_aload_n rfl rfl ?_
              refine r_getC rfl rfl (by decide) (by decide) rfl ?_
              refine r_iload rfl rfl ?_
              refine r_iald rfl rfl (by first | decide | assumption) (by first | exact s1 | exact s2 | exact s3 | exact s4) (by first | exact s1 | exact s2 | exact s3 | exact s4) ?_
              refine r_iload rfl rfl ?_
              refine r_callS rfl (by decide) ct_X11_has rfl rfl (am_cnt rfl) ?_
              refine r_if_eq rfl (fun h62 => ?_) (fun h62 => ?_)
              · refine r_iinc (L2 := [_, _, _, _, _, _]) rfl rfl rfl ?_
                refine r_goto rfl ?_
                rw [nI_1]
                exact ih2 (q + 1) (by omega) (by omega)
              · rw [bv, g102, b01_eq0] at h62
                refine r_aload_n rfl rfl ?_
                refine r_getC rfl rfl (by decide) (by decide) rfl ?_
                refine r_iload rfl rfl ?_
                refine r_iald rfl rfl (by first | decide | assumption) (by first | exact s1 | exact s2 | exact s3 | exact s4) (by first | exact s1 | exact s2 | exact s3 | exact s4) ?_
                rw [bq, g120 q (by omega)]
                refine r_ldc_w rfl ?_
                refine r_icmp_eq rfl (fun h75 => ?_) (fun h75 => ?_)
                · refine r_iinc (L2 := [_, _, _, _, _, _]) rfl rfl rfl ?_
                  refine r_goto rfl ?_
                  rw [nI_1]
                  exact ih2 (q + 1) (by omega) (by omega)
                · rw [show (1000000 : Int32) = nI 1000000 from rfl, nI_eq (by omega) (by omega)] at h75
                  refine r_aload_n rfl rfl ?_
                  refine r_getC rfl rfl (by decide) (by decide) rfl ?_
                  refine r_iload rfl rfl ?_
                  refine r_iald rfl rfl (by first | decide | assumption) (by first | exact s1 | exact s2 | exact s3 | exact s4) (by first | exact s1 | exact s2 | exact s3 | exact s4) ?_
                  rw [bq, g120 q (by omega)]
                  refine r_aload_n rfl rfl ?_
                  refine r_iload rfl rfl ?_
                  refine r_iload_n rfl rfl ?_
                  refine r_callV rfl (ct_X11_stepTo hp2 (by omega) (by omega)) rfl rfl rfl (by decide) rfl (am_cnt rfl) ?_
                  refine r_iadd rfl ?_
                  rw [nI_add]
                  refine r_aload_n rfl rfl ?_
                  refine r_getC rfl rfl (by decide) (by decide) rfl ?_
                  refine r_iload rfl rfl ?_
                  refine r_iald rfl rfl (by first | decide | assumption) (by first | exact s1 | exact s2 | exact s3 | exact s4) (by first | exact s1 | exact s2 | exact s3 | exact s4) ?_
                  rw [bv, g120 _ aj]
                  refine r_icmp_eq rfl (fun h100 => ?_) (fun h100 => ?_)
                  · rw [nI_eq (by omega) (by omega)] at h100
                    exact absurd ⟨Decidable.not_not.mp h62, h75, h100⟩ nq
                  · refine r_iinc (L2 := [_, _, _, _, _, _]) rfl rfl rfl ?_
                    refine r_goto rfl ?_
                    rw [nI_1]
                    exact ih2 (q + 1) (by omega) (by omega)
        refine r_iload rfl rfl ?_
        refine r_iload_n rfl rfl ?_
        refine r_icmp_eq rfl (fun h44 => ?_) (fun h44 => ?_)
        · exact absurd h44 nlI
        · refine r_iconst rfl ?_
          refine r_istore (L2 := [_, _, _, _, _, _]) rfl rfl ?_
          exact loop2 7 0 (by omega) (by omega)
  refine r_aload_n rfl rfl ?_
  refine r_iconst rfl ?_
  refine r_putI rfl rfl (by decide) (by decide) rfl ?_
  try rw [hT]
  refine r_aload_n rfl rfl ?_
  refine r_iload_n rfl rfl ?_
  refine r_iload_n rfl rfl ?_
  refine r_callV rfl (ct_X11_arePair (zM hn hz)) rfl rfl rfl (by decide) rfl (am_cnt rfl) ?_
  refine r_if_ne rfl (fun h11 => ?_) (fun h11 => ?_)
  · refine r_aload_n rfl rfl ?_
    refine r_iload_n rfl rfl ?_
    refine r_iload_n rfl rfl ?_
    refine r_callVE rfl (mnV_ct hp hn hz frW_0 h1 hl) rfl rfl rfl (by decide) rfl (am_cnt rfl) (fun V hV => ?_)
    refine r_istore_n (L2 := [_, _, _, _, _, _]) rfl rfl ?_
    refine r_iload_n rfl rfl ?_
    refine r_ldc_w rfl ?_
    refine r_icmp_ne rfl (fun h27 => ?_) (fun h27 => ?_)
    · refine r_aload_n rfl rfl ?_
      refine r_iconst rfl ?_
      refine r_putI rfl rfl (by decide) (by decide) rfl ?_
      refine r_iload_n rfl rfl ?_
      refine r_istore (L2 := [_, _, _, _, _, _]) rfl rfl ?_
      have e := loop (K + 1) 0 V none (by omega) (by omega) hV.1 (by rw [← hF]; exact hV.2)
      rw [show min 0 (K - 1) = 0 by omega] at e
      exact e
    · rw [show (1000000 : Int32) = nI 1000000 from rfl, nI_eq (by omega) (by omega)] at h27
      exact absurd h27 hm
  · exact absurd (two) (b01_eq0.mp h11)
