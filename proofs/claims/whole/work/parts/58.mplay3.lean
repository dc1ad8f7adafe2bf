/-! Answers by turns; stand and gap of the reference. -/
def preN (x : Nat → Nat) : Nat → Nat
  | 0 => 0
  | n + 1 => 10 * preN x n + x n
def num3 (x : Nat → Nat) : Nat := x 0 * 100 + x 1 * 10 + x 2
theorem preN_3 (x : Nat → Nat) : preN x 3 = num3 x := by
  simp only [preN, num3]
  omega
theorem num3_d {x : Nat → Nat} (h : Dig x) : ∀ i, i < 3 → dgt (num3 x) i = x i := by
  have a := h 0 (by omega)
  have b := h 1 (by omega)
  have c := h 2 (by omega)
  intro i hi
  unfold dgt num3
  match i, hi with
  | 0, _ => rw [if_pos rfl]; omega
  | 1, _ => rw [if_neg (by decide), if_pos rfl]; omega
  | 2, _ => rw [if_neg (by decide), if_neg (by decide)]; omega
theorem num3_lt {x : Nat → Nat} (h : Dig x) : num3 x < 1000 := by
  have a := h 0 (by omega)
  have b := h 1 (by omega)
  have c := h 2 (by omega)
  unfold num3
  omega
theorem num3_dgt {a : Nat} : num3 (dgt a) = a := by
  unfold num3 dgt
  rw [if_pos rfl, if_neg (by decide), if_pos rfl, if_neg (by decide), if_neg (by decide)]
  omega
theorem num3_ne {x y : Nat → Nat} (hx : Dig x) (hy : Dig y) : num3 y = num3 x ↔ ¬ chB x y 3 = true := by
  have a := hx 0 (by omega)
  have b := hx 1 (by omega)
  have c := hx 2 (by omega)
  have a2 := hy 0 (by omega)
  have b2 := hy 1 (by omega)
  have c2 := hy 2 (by omega)
  constructor
  · intro h z
    unfold num3 at h
    have := chB_t z
    omega
  · intro h
    have e := chB_f h
    rw [num3, num3, e 0 (by omega), e 1 (by omega), e 2 (by omega)]
theorem ct_X11_answers {d : Nat} {S : am_S} {h : Nat → Nat → Int} {z : Nat → Nat} {w : Int32} {o R : Nat} (hb : ∀ {d : Nat} U s t, FrD S U → s < 3 → t < 3 → am_CE (d + 5) iX11_partOf [.ref 97, .int w, .int (nI s), .int (nI t), .int (nI R)] U (some (.long (iJ (h s t)))) (fun T => FrD U T)) (ho : ∀ t, t < 3 → okZ (h 0 t) ∧ okZ (h 1 t) ∧ okZ (h 2 t)) (hR : o < 1000) (hz : ∀ s, s < 3 → dgt o s = z s ∧ z s < 3) : am_CE (d + 6) iX11_answers [.ref 97, .int w, .int (nI o), .int (nI R)] S (some (.int (nI (num3 (fun s => bth (h s) (z s)))))) (fun T => FrD S T) := by
  refine am_CE_in mmX11_answers rfl rfl rfl ?_
  have ok : ∀ s t, s < 3 → t < 3 → okZ (h s t) := fun s t hs ht => by
    have := ho t ht
    match s, hs with
    | 0, _ => exact this.1
    | 1, _ => exact this.2.1
    | 2, _ => exact this.2.2
  have loop : ∀ (k : Nat) (s : Nat) (T : am_S) (v6 : Option Value) (v7 : Option Value), (s ≤ 3) → (3 < s + k) → (FrD S T) → am_Ex (am_Call am_MT (d + 5)) mmX11_answers none (fun r1 G1 => r1 = (some (.int (nI (num3 (fun s => bth (h s) (z s)))))) ∧ ∃ S2, G1 = am_H S2 ∧ (fun T => FrD S T) S2) (fun _ _ _ _ _ _ => False) 6 [some (.ref 97), some (.int w), some (.int (nI o)), some (.int (nI R)), some (.int (nI (preN (fun s => bth (h s) (z s)) s))), some (.int (nI s)), v6, v7] [] (am_H (T)) 0 0 := by
    intro k
    induction k with
    | zero =>
      intro s T v6 v7 q1 q2 f1
      omega
    | succ k ih =>
      intro s T v6 v7 q1 q2 f1
      have bl := bsN_le (h s)
      have loop2 : ∀ (k2 : Nat) (t : Nat) (U : am_S), (s < 3) → (1 ≤ t ∧ t ≤ 3) → (3 < t + k2) → (FrD S U) → am_Ex (am_Call am_MT (d + 5)) mmX11_answers none (fun r1 G1 => r1 = (some (.int (nI (num3 (fun s => bth (h s) (z s)))))) ∧ ∃ S2, G1 = am_H S2 ∧ (fun T => FrD S T) S2) (fun _ _ _ _ _ _ => False) 18 [some (.ref 97), some (.int w), some (.int (nI o)), some (.int (nI R)), some (.int (nI (preN (fun s => bth (h s) (z s)) s))), some (.int (nI s)), some (.int (nI (bsN (h s) (t - 1)))), some (.int (nI t))] [] (am_H (U)) 0 0 := by
        intro k2
        induction k2 with
        | zero =>
          intro t U q0 p1 p2 g1
          omega
        | succ k2 ih2 =>
          intro t U q0 p1 p2 g1
          have b1 := bl (t - 1)
          have b2 := bl 2
          have nx : t < 3 → bsN (h s) (t + 1 - 1) = if h s (bsN (h s) (t - 1)) < h s t then t else bsN (h s) (t - 1) := fun ht => by
            obtain ⟨i, rfl⟩ : ∃ i, t = i + 1 := ⟨t - 1, by omega⟩
            rfl
          have pe : preN (fun s => bth (h s) (z s)) (s + 1) = 10 * preN (fun s => bth (h s) (z s)) s + bth (h s) (z s) := rfl
          have zs := hz s q0
          have pm : (10 : Int32) * nI (preN (fun s => bth (h s) (z s)) s) = nI (10 * preN (fun s => bth (h s) (z s)) s) := pk_mul 10 _
          by_cases ht3 : t = 3
          · have w3 : (3 : Int32) ≤ nI t := nI_le (a := 3) (by omega) (by omega)
            have b3 : bsN (h s) (t - 1) = bsN (h s) 2 := by rw [ht3]
            rw [b3]
            refine r_iload rfl rfl ?_
            refine r_iconst rfl ?_
            refine r_icmp_ge rfl (fun h21 => ?_) (fun h21 => ?_)
            · refine r_iload_n rfl rfl ?_
              refine r_iload rfl rfl ?_
              refine r_callS rfl (by decide) (ct_X11_thingOf hR q0) rfl rfl (am_cnt rfl) ?_
              rw [zs.1]
              refine r_istore (L2 := [_, _, _, _, _, _, _, _]) rfl rfl ?_
              refine r_aload_n rfl rfl ?_
              refine r_iload_n rfl rfl ?_
              refine r_iload rfl rfl ?_
              refine r_iload rfl rfl ?_
              refine r_iload_n rfl rfl ?_
              refine r_callVE rfl (hb U s (z s) g1 q0 zs.2) rfl rfl rfl (by decide) rfl (am_cnt rfl) (fun V hV => ?_)
              refine r_aload_n rfl rfl ?_
              refine r_iload_n rfl rfl ?_
              refine r_iload rfl rfl ?_
              refine r_iload rfl rfl ?_
              refine r_iload_n rfl rfl ?_
              refine r_callVE rfl (hb V s (bsN (h s) 2) (frD_tt g1 hV) q0 (by omega)) rfl rfl rfl (by decide) rfl (am_cnt rfl) (fun W hW => ?_)
              refine r_lcmp rfl ?_
              refine r_if_ne rfl (fun h92 => ?_) (fun h92 => ?_)
              · rw [lc_eq, iJ_eq (ok _ _ q0 zs.2) (ok _ _ q0 (by omega))] at h92
                have e0 : bth (h s) (z s) = bsN (h s) 2 := if_neg h92
                refine r_iload rfl rfl ?_
                refine r_istore (L2 := [_, _, _, _, _, _, _, _]) rfl rfl ?_
                refine r_bipush rfl ?_
                refine r_iload rfl rfl ?_
                refine r_imul rfl ?_
                refine r_iload rfl rfl ?_
                refine r_iadd rfl ?_
                rw [pm, nI_add]
                refine r_istore (L2 := [_, _, _, _, _, _, _, _]) rfl rfl ?_
                refine r_iinc (L2 := [_, _, _, _, _, _, _, _]) rfl rfl rfl ?_
                refine r_goto rfl ?_
                rw [nI_1]
                rw [e0] at pe
                have e := ih (s + 1) W (some (.int (nI (bth (h s) (z s))))) (some (.int (nI (z s)))) (by omega) (by omega) (frD_tt (frD_tt g1 hV) hW)
                rw [pe, e0] at e
                exact e
              · rw [lc_eq, iJ_eq (ok _ _ q0 zs.2) (ok _ _ q0 (by omega))] at h92
                have e0 : bth (h s) (z s) = z s := if_pos h92
                refine r_iload rfl rfl ?_
                refine r_goto rfl ?_
                refine r_istore (L2 := [_, _, _, _, _, _, _, _]) rfl rfl ?_
                refine r_bipush rfl ?_
                refine r_iload rfl rfl ?_
                refine r_imul rfl ?_
                refine r_iload rfl rfl ?_
                refine r_iadd rfl ?_
                rw [pm, nI_add]
                refine r_istore (L2 := [_, _, _, _, _, _, _, _]) rfl rfl ?_
                refine r_iinc (L2 := [_, _, _, _, _, _, _, _]) rfl rfl rfl ?_
                refine r_goto rfl ?_
                rw [nI_1]
                rw [e0] at pe
                have e := ih (s + 1) W (some (.int (nI (bth (h s) (z s))))) (some (.int (nI (z s)))) (by omega) (by omega) (frD_tt (frD_tt g1 hV) hW)
                rw [pe, e0] at e
                exact e
            · exact absurd w3 h21
          · have ht : t < 3 := by omega
            have w3 : ¬ (3 : Int32) ≤ nI t := Int32.not_le.mpr (nI_lt (b := 3) ht (by omega))
            have nx2 := nx ht
            refine r_iload rfl rfl ?_
            refine r_iconst rfl ?_
            refine r_icmp_ge rfl (fun h21 => ?_) (fun h21 => ?_)
            · exact absurd h21 w3
            · refine r_aload_n rfl rfl ?_
              refine r_iload_n rfl rfl ?_
              refine r_iload rfl rfl ?_
              refine r_iload rfl rfl ?_
              refine r_iload_n rfl rfl ?_
              refine r_callVE rfl (hb U s t g1 q0 ht) rfl rfl rfl (by decide) rfl (am_cnt rfl) (fun V hV => ?_)
              refine r_aload_n rfl rfl ?_
              refine r_iload_n rfl rfl ?_
              refine r_iload rfl rfl ?_
              refine r_iload rfl rfl ?_
              refine r_iload_n rfl rfl ?_
              refine r_callVE rfl (hb V s (bsN (h s) (t - 1)) (frD_tt g1 hV) q0 (by omega)) rfl rfl rfl (by decide) rfl (am_cnt rfl) (fun W hW => ?_)
              refine r_lcmp rfl ?_
              refine r_if_le rfl (fun h45 => ?_) (fun h45 => ?_)
              · rw [lc_le, iJ_le (ok _ _ q0 ht) (ok _ _ q0 (by omega))] at h45
                rw [if_neg (by omega)] at nx2
                refine r_iload rfl rfl ?_
                refine r_istore (L2 := [_, _, _, _, _, _, _, _]) rfl rfl ?_
                refine r_iinc (L2 := [_, _, _, _, _, _, _, _]) rfl rfl rfl ?_
                refine r_goto rfl ?_
                rw [nI_1]
                have e := ih2 (t + 1) W q0 (by omega) (by omega) (frD_tt (frD_tt g1 hV) hW)
                rw [nx2] at e
                exact e
              · rw [lc_le, iJ_le (ok _ _ q0 ht) (ok _ _ q0 (by omega))] at h45
                rw [if_pos (by omega)] at nx2
                refine r_iload rfl rfl ?_
                refine r_goto rfl ?_
                refine r_istore (L2 := [_, _, _, _, _, _, _, _]) rfl rfl ?_
                refine r_iinc (L2 := [_, _, _, _, _, _, _, _]) rfl rfl rfl ?_
                refine r_goto rfl ?_
                rw [nI_1]
                have e := ih2 (t + 1) W q0 (by omega) (by omega) (frD_tt (frD_tt g1 hV) hW)
                rw [nx2] at e
                exact e
      refine r_iload rfl rfl ?_
      refine r_iconst rfl ?_
      refine r_icmp_ge rfl (fun h9 => ?_) (fun h9 => ?_)
      · have hs : s = 3 := by
          rw [show (3 : Int32) = nI 3 from rfl, nI_leI (by omega) (by omega)] at h9
          omega
        subst hs
        refine r_iload rfl rfl ?_
        refine r_iret rfl rfl ?_
        rw [preN_3]
        exact ⟨rfl, _, rfl, f1⟩
      · have hs : s < 3 := by
          rw [show (3 : Int32) = nI 3 from rfl, nI_leI (by omega) (by omega)] at h9
          omega
        refine r_iconst rfl ?_
        refine r_istore (L2 := [_, _, _, _, _, _, _, _]) rfl rfl ?_
        refine r_iconst rfl ?_
        refine r_istore (L2 := [_, _, _, _, _, _, _, _]) rfl rfl ?_
        exact loop2 3 1 T hs (by omega) (by omega) f1
  refine r_iconst rfl ?_
  refine r_istore (L2 := [_, _, _, _, _, _, _, _]) rfl rfl ?_
  refine r_iconst rfl ?_
  refine r_istore (L2 := [_, _, _, _, _, _, _, _]) rfl rfl ?_
  exact loop 4 0 S none none (by omega) (by omega) frD_0
theorem br1_okA {m : Pay} {y : Nat → Nat} (hB : Bd m) (hy : Dig y) {s t : Nat} (hs : s < 3) (ht : t < 3) : okZ (br1 m y s t) := okZ_of (by have := br1_ok hB hy hs ht; omega)
theorem br2_okA {m : Pay} {x : Nat → Nat} (hB : Bd m) (hx : Dig x) {s t : Nat} (hs : s < 3) (ht : t < 3) : okZ (br2 m x s t) := okZ_of (by have := br2_ok hB hx hs ht; omega)
theorem ct_X11_stands {d : Nat} {S : am_S} {m : Pay} {a b : Nat} (hM : PyM m S) (hB : Bd m) (ha : Dig (dgt a)) (hb : Dig (dgt b)) : am_CE (d + 7) iX11_stands [.ref 97, .int (nI a), .int (nI b)] S (some (.int (nI (plyR m a b).2.2))) (fun T => FrN S T ∧ gI T 97 42 = nI (num3 (plyR m a b).1) ∧ gI T 97 43 = nI (num3 (plyR m a b).2.1) ∧ Dig (plyR m a b).1 ∧ Dig (plyR m a b).2.1) := by
  refine am_CE_in mmX11_stands rfl rfl rfl ?_
  have loop : ∀ (k : Nat) (t : Nat) (u : Nat) (c : Nat) (x : Nat → Nat) (y : Nat → Nat) (T : am_S) (v6 : Option Value) (v7 : Option Value), (t + 3 * potN m (smZ m x y) + (2 - u) ≤ 2900 ∧ u ≤ 2) → (t + k = 2901) → (FrN S T) → (Dig x) → (Dig y) → (gI T 97 42 = nI (num3 x)) → (gI T 97 43 = nI (num3 y)) → (plyS m (3000 - t) t x y c u = plyR m a b) → (c ≤ t) → am_Ex (am_Call am_MT (d + 6)) mmX11_stands none (fun r1 G1 => r1 = (some (.int (nI (plyR m a b).2.2))) ∧ ∃ S2, G1 = am_H S2 ∧ (fun T => FrN S T ∧ gI T 97 42 = nI (num3 (plyR m a b).1) ∧ gI T 97 43 = nI (num3 (plyR m a b).2.1) ∧ Dig (plyR m a b).1 ∧ Dig (plyR m a b).2.1) S2) (fun _ _ _ _ _ _ => False) 18 [some (.ref 97), some (.int (nI a)), some (.int (nI b)), some (.int (nI c)), some (.int (nI u)), some (.int (nI (t % 2))), v6, v7] [] (am_H (T)) 0 0 := by
    intro k
    induction k with
    | zero =>
      intro t u c x y T v6 v7 q1 q2 f1 hx hy f2 f3 f4 f5
      omega
    | succ k ih =>
      intro t u c x y T v6 v7 q1 q2 f1 hx hy f2 f3 f4 f5
      by_cases hu : 2 ≤ u
      · have w2 : 2 ≤ nI u := nI_le (a := 2) hu (by omega)
        rw [ply_end hu] at f4
        refine r_iload rfl rfl ?_
        refine r_iconst rfl ?_
        refine r_icmp_ge rfl (fun h21 => ?_) (fun h21 => ?_)
        · refine r_iload_n rfl rfl ?_
          refine r_iret rfl rfl ?_
          rw [← f4]
          exact ⟨rfl, _, rfl, f1, f2, f3, hx, hy⟩
        · exact absurd w2 h21
      · have w2 : ¬ 2 ≤ nI u := Int32.not_le.mpr (nI_lt (b := 2) (by omega) (by omega))
        have hf : 3000 - t = (3000 - (t + 1)) + 1 := by omega
        rw [hf, plyS, if_neg hu] at f4
        have lx := num3_lt hx
        have ly := num3_lt hy
        by_cases ht : t % 2 = 0
        · rw [if_pos ht] at f4
          have hp : (1 : Int32) - nI 0 = nI ((t + 1) % 2) := by rw [show (t + 1) % 2 = 1 by omega]; rfl
          have hn : Dig (nx1 m x y) := nx1_lt hx
          have ln := num3_lt hn
          rw [ht]
          have an : ∀ {d : Nat}, am_CE (d + 6) iX11_answers [.ref 97, .int (nI 0), .int (nI (num3 x)), .int (nI (num3 y))] T (some (.int (nI (num3 (nx1 m x y))))) (fun U => FrD T U) := fun {d} => ct_X11_answers (h := br1 m y) (z := x) (fun {d} U s t g hs ht => ct_X11_partOf_one (pyM_D (pyM_N hM f1) g) ly (fun i hi => ⟨num3_d hy i hi, hy i hi⟩) hs ht) (fun t ht => ⟨br1_okA hB hy (by omega) ht, br1_okA hB hy (by omega) ht, br1_okA hB hy (by omega) ht⟩) lx (fun s hs => ⟨num3_d hx s hs, hx s hs⟩)
          refine r_iload rfl rfl ?_
          refine r_iconst rfl ?_
          refine r_icmp_ge rfl (fun h21 => ?_) (fun h21 => ?_)
          · exact absurd h21 w2
          · refine r_iload rfl rfl ?_
            refine r_if_ne rfl (fun h26 => ?_) (fun h26 => ?_)
            · exact absurd rfl h26
            · refine r_aload_n rfl rfl ?_
              refine r_getI rfl rfl (by decide) (by decide) rfl ?_
              refine r_goto rfl ?_
              rw [f2]
              refine r_istore (L2 := [_, _, _, _, _, _, _, _]) rfl rfl ?_
              refine r_aload_n rfl rfl ?_
              refine r_iload rfl rfl ?_
              refine r_iload rfl rfl ?_
              refine r_iload rfl rfl ?_
              refine r_if_ne rfl (fun h49 => ?_) (fun h49 => ?_)
              · exact absurd rfl h49
              · refine r_aload_n rfl rfl ?_
                refine r_getI rfl rfl (by decide) (by decide) rfl ?_
                refine r_goto rfl ?_
                rw [f3]
                refine r_callVE rfl an rfl rfl rfl (by decide) rfl (am_cnt rfl) (fun V hV => ?_)
                refine r_istore (L2 := [_, _, _, _, _, _, _, _]) rfl rfl ?_
                refine r_aload_n rfl rfl ?_
                refine r_iload rfl rfl ?_
                refine r_if_ne rfl (fun h71 => ?_) (fun h71 => ?_)
                · exact absurd rfl h71
                · refine r_iload rfl rfl ?_
                  refine r_goto rfl ?_
                  refine r_putI rfl rfl (by decide) (by decide) rfl ?_
                  refine r_aload_n rfl rfl ?_
                  refine r_iload rfl rfl ?_
                  refine r_iconst rfl ?_
                  refine r_icmp_ne rfl (fun h90 => ?_) (fun h90 => ?_)
                  · refine r_aload_n rfl rfl ?_
                    refine r_getI rfl rfl (by decide) (by decide) rfl ?_
                    refine r_putI rfl rfl (by decide) (by decide) rfl ?_
                    refine r_iload_n rfl rfl ?_
                    refine r_iload rfl rfl ?_
                    refine r_iload rfl rfl ?_
                    refine r_icmp_eq rfl (fun h110 => ?_) (fun h110 => ?_)
                    · rw [nI_eq (by omega) (by omega)] at h110
                      have hc := (num3_ne hx hn).mp h110
                      refine r_iconst rfl ?_
                      refine r_callS rfl (by decide) (ct_X11_flag (by simp)) rfl rfl (am_cnt rfl) ?_
                      refine r_iadd rfl ?_
                      refine r_istore_n (L2 := [_, _, _, _, _, _, _, _]) rfl rfl ?_
                      refine r_iload rfl rfl ?_
                      refine r_iload rfl rfl ?_
                      refine r_icmp_ne rfl (fun h127 => ?_) (fun h127 => ?_)
                      · exact absurd (congrArg nI h110) h127
                      · refine r_iload rfl rfl ?_
                        refine r_iconst rfl ?_
                        refine r_iadd rfl ?_
                        refine r_goto rfl ?_
                        refine r_istore (L2 := [_, _, _, _, _, _, _, _]) rfl rfl ?_
                        refine r_iconst rfl ?_
                        refine r_iload rfl rfl ?_
                        refine r_isub rfl ?_
                        rw [hp]
                        refine r_istore (L2 := [_, _, _, _, _, _, _, _]) rfl rfl ?_
                        refine r_goto rfl ?_
                        first
                          | (rw [if_pos hc] at f4
                             rw [nI_1]
                             have po := pot_lt (nx1_lt (m := m) (y := y) hx) hy (up1 hx hc)
                             exact ih (t + 1) 0 (c + 1) _ _ _ _ _ (by omega) (by omega) (frN_uI (frN_uI (frN_D f1 hV) (by decide)) (by decide)) hn hy (by simp [gI_uI]) (by simp [gI_uI, hV.1 97 (by decide) (by decide), f3]) f4 (by omega))
                          | (rw [if_neg hc] at f4
                             rw [Int32.add_zero, nI_1]
                             exact ih (t + 1) (u + 1) c x y _ _ _ (by omega) (by omega) (frN_uI (frN_uI (frN_D f1 hV) (by decide)) (by decide)) hx hy (by simp [gI_uI, h110]) (by simp [gI_uI, hV.1 97 (by decide) (by decide), f3]) f4 (by omega))
                    · rw [nI_eq (by omega) (by omega)] at h110
                      have hc := Decidable.not_not.mp fun z => h110 ((num3_ne hx hn).mpr z)
                      refine r_iconst rfl ?_
                      refine r_goto rfl ?_
                      refine r_callS rfl (by decide) (ct_X11_flag (by simp)) rfl rfl (am_cnt rfl) ?_
                      refine r_iadd rfl ?_
                      refine r_istore_n (L2 := [_, _, _, _, _, _, _, _]) rfl rfl ?_
                      refine r_iload rfl rfl ?_
                      refine r_iload rfl rfl ?_
                      refine r_icmp_ne rfl (fun h127 => ?_) (fun h127 => ?_)
                      · refine r_iconst rfl ?_
                        refine r_istore (L2 := [_, _, _, _, _, _, _, _]) rfl rfl ?_
                        refine r_iconst rfl ?_
                        refine r_iload rfl rfl ?_
                        refine r_isub rfl ?_
                        rw [hp]
                        refine r_istore (L2 := [_, _, _, _, _, _, _, _]) rfl rfl ?_
                        refine r_goto rfl ?_
                        first
                          | (rw [if_pos hc] at f4
                             rw [nI_1]
                             have po := pot_lt (nx1_lt (m := m) (y := y) hx) hy (up1 hx hc)
                             exact ih (t + 1) 0 (c + 1) _ _ _ _ _ (by omega) (by omega) (frN_uI (frN_uI (frN_D f1 hV) (by decide)) (by decide)) hn hy (by simp [gI_uI]) (by simp [gI_uI, hV.1 97 (by decide) (by decide), f3]) f4 (by omega))
                          | (rw [if_neg hc] at f4
                             rw [Int32.add_zero, nI_1]
                             exact ih (t + 1) (u + 1) c x y _ _ _ (by omega) (by omega) (frN_uI (frN_uI (frN_D f1 hV) (by decide)) (by decide)) hx hy (by simp [gI_uI, h110]) (by simp [gI_uI, hV.1 97 (by decide) (by decide), f3]) f4 (by omega))
                      · exact absurd ((nI_eq (by omega) (by omega)).mp h127) h110
                  · first | exact absurd h90 (by decide) | exact absurd (by decide) h90
        · have ht1 : t % 2 = 1 := by omega
          rw [if_neg ht] at f4
          have hp : (1 : Int32) - nI 1 = nI ((t + 1) % 2) := by rw [show (t + 1) % 2 = 0 by omega]; rfl
          have hn : Dig (nx2 m x y) := nx2_lt hy
          have ln := num3_lt hn
          rw [ht1]
          have an : ∀ {d : Nat}, am_CE (d + 6) iX11_answers [.ref 97, .int (nI 1), .int (nI (num3 y)), .int (nI (num3 x))] T (some (.int (nI (num3 (nx2 m x y))))) (fun U => FrD T U) := fun {d} => ct_X11_answers (h := br2 m x) (z := y) (fun {d} U s t g hs ht => ct_X11_partOf_other (pyM_D (pyM_N hM f1) g) lx (fun i hi => ⟨num3_d hx i hi, hx i hi⟩) hs ht) (fun t ht => ⟨br2_okA hB hx (by omega) ht, br2_okA hB hx (by omega) ht, br2_okA hB hx (by omega) ht⟩) ly (fun s hs => ⟨num3_d hy s hs, hy s hs⟩)
          refine r_iload rfl rfl ?_
          refine r_iconst rfl ?_
          refine r_icmp_ge rfl (fun h21 => ?_) (fun h21 => ?_)
          · exact absurd h21 w2
          · refine r_iload rfl rfl ?_
            refine r_if_ne rfl (fun h26 => ?_) (fun h26 => ?_)
            · refine r_aload_n rfl rfl ?_
              refine r_getI rfl rfl (by decide) (by decide) rfl ?_
              rw [f3]
              refine r_istore (L2 := [_, _, _, _, _, _, _, _]) rfl rfl ?_
              refine r_aload_n rfl rfl ?_
              refine r_iload rfl rfl ?_
              refine r_iload rfl rfl ?_
              refine r_iload rfl rfl ?_
              refine r_if_ne rfl (fun h49 => ?_) (fun h49 => ?_)
              · refine r_aload_n rfl rfl ?_
                refine r_getI rfl rfl (by decide) (by decide) rfl ?_
                rw [f2]
                refine r_callVE rfl an rfl rfl rfl (by decide) rfl (am_cnt rfl) (fun V hV => ?_)
                refine r_istore (L2 := [_, _, _, _, _, _, _, _]) rfl rfl ?_
                refine r_aload_n rfl rfl ?_
                refine r_iload rfl rfl ?_
                refine r_if_ne rfl (fun h71 => ?_) (fun h71 => ?_)
                · refine r_aload_n rfl rfl ?_
                  refine r_getI rfl rfl (by decide) (by decide) rfl ?_
                  refine r_putI rfl rfl (by decide) (by decide) rfl ?_
                  refine r_aload_n rfl rfl ?_
                  refine r_iload rfl rfl ?_
                  refine r_iconst rfl ?_
                  refine r_icmp_ne rfl (fun h90 => ?_) (fun h90 => ?_)
                  · exact absurd rfl h90
                  · refine r_iload rfl rfl ?_
                    refine r_goto rfl ?_
                    refine r_putI rfl rfl (by decide) (by decide) rfl ?_
                    refine r_iload_n rfl rfl ?_
                    refine r_iload rfl rfl ?_
                    refine r_iload rfl rfl ?_
                    refine r_icmp_eq rfl (fun h110 => ?_) (fun h110 => ?_)
                    · rw [nI_eq (by omega) (by omega)] at h110
                      have hc := (num3_ne hy hn).mp h110
                      refine r_iconst rfl ?_
                      refine r_callS rfl (by decide) (ct_X11_flag (by simp)) rfl rfl (am_cnt rfl) ?_
                      refine r_iadd rfl ?_
                      refine r_istore_n (L2 := [_, _, _, _, _, _, _, _]) rfl rfl ?_
                      refine r_iload rfl rfl ?_
                      refine r_iload rfl rfl ?_
                      refine r_icmp_ne rfl (fun h127 => ?_) (fun h127 => ?_)
                      · exact absurd (congrArg nI h110) h127
                      · refine r_iload rfl rfl ?_
                        refine r_iconst rfl ?_
                        refine r_iadd rfl ?_
                        refine r_goto rfl ?_
                        refine r_istore (L2 := [_, _, _, _, _, _, _, _]) rfl rfl ?_
                        refine r_iconst rfl ?_
                        refine r_iload rfl rfl ?_
                        refine r_isub rfl ?_
                        rw [hp]
                        refine r_istore (L2 := [_, _, _, _, _, _, _, _]) rfl rfl ?_
                        refine r_goto rfl ?_
                        first
                          | (rw [if_pos hc] at f4
                             rw [nI_1]
                             have po := pot_lt hx (nx2_lt (m := m) (x := x) hy) (up2 hy hc)
                             exact ih (t + 1) 0 (c + 1) _ _ _ _ _ (by omega) (by omega) (frN_uI (frN_uI (frN_D f1 hV) (by decide)) (by decide)) hx hn (by simp [gI_uI, hV.1 97 (by decide) (by decide), f2]) (by simp [gI_uI]) f4 (by omega))
                          | (rw [if_neg hc] at f4
                             rw [Int32.add_zero, nI_1]
                             exact ih (t + 1) (u + 1) c x y _ _ _ (by omega) (by omega) (frN_uI (frN_uI (frN_D f1 hV) (by decide)) (by decide)) hx hy (by simp [gI_uI, hV.1 97 (by decide) (by decide), f2]) (by simp [gI_uI, h110]) f4 (by omega))
                    · rw [nI_eq (by omega) (by omega)] at h110
                      have hc := Decidable.not_not.mp fun z => h110 ((num3_ne hy hn).mpr z)
                      refine r_iconst rfl ?_
                      refine r_goto rfl ?_
                      refine r_callS rfl (by decide) (ct_X11_flag (by simp)) rfl rfl (am_cnt rfl) ?_
                      refine r_iadd rfl ?_
                      refine r_istore_n (L2 := [_, _, _, _, _, _, _, _]) rfl rfl ?_
                      refine r_iload rfl rfl ?_
                      refine r_iload rfl rfl ?_
                      refine r_icmp_ne rfl (fun h127 => ?_) (fun h127 => ?_)
                      · refine r_iconst rfl ?_
                        refine r_istore (L2 := [_, _, _, _, _, _, _, _]) rfl rfl ?_
                        refine r_iconst rfl ?_
                        refine r_iload rfl rfl ?_
                        refine r_isub rfl ?_
                        rw [hp]
                        refine r_istore (L2 := [_, _, _, _, _, _, _, _]) rfl rfl ?_
                        refine r_goto rfl ?_
                        first
                          | (rw [if_pos hc] at f4
                             rw [nI_1]
                             have po := pot_lt hx (nx2_lt (m := m) (x := x) hy) (up2 hy hc)
                             exact ih (t + 1) 0 (c + 1) _ _ _ _ _ (by omega) (by omega) (frN_uI (frN_uI (frN_D f1 hV) (by decide)) (by decide)) hx hn (by simp [gI_uI, hV.1 97 (by decide) (by decide), f2]) (by simp [gI_uI]) f4 (by omega))
                          | (rw [if_neg hc] at f4
                             rw [Int32.add_zero, nI_1]
                             exact ih (t + 1) (u + 1) c x y _ _ _ (by omega) (by omega) (frN_uI (frN_uI (frN_D f1 hV) (by decide)) (by decide)) hx hy (by simp [gI_uI, hV.1 97 (by decide) (by decide), f2]) (by simp [gI_uI, h110]) f4 (by omega))
                      · exact absurd ((nI_eq (by omega) (by omega)).mp h127) h110
                · first | exact absurd h71 (by decide) | exact absurd (by decide) h71
              · first | exact absurd h49 (by decide) | exact absurd (by decide) h49
            · first | exact absurd h26 (by decide) | exact absurd (by decide) h26
  refine r_aload_n rfl rfl ?_
  refine r_iload_n rfl rfl ?_
  refine r_putI rfl rfl (by decide) (by decide) rfl ?_
  refine r_aload_n rfl rfl ?_
  refine r_iload_n rfl rfl ?_
  refine r_putI rfl rfl (by decide) (by decide) rfl ?_
  refine r_iconst rfl ?_
  refine r_istore_n (L2 := [_, _, _, _, _, _, _, _]) rfl rfl ?_
  refine r_iconst rfl ?_
  refine r_istore (L2 := [_, _, _, _, _, _, _, _]) rfl rfl ?_
  refine r_iconst rfl ?_
  refine r_istore (L2 := [_, _, _, _, _, _, _, _]) rfl rfl ?_
  refine loop 2901 0 0 0 (dgt a) (dgt b) _ none none ⟨?_, by omega⟩ (by omega) (frN_uI (frN_uI frN_0 (by decide)) (by decide)) ha hb (by rw [num3_dgt]; simp [gI_uI]) (by rw [num3_dgt]; simp [gI_uI]) rfl (by omega)
  have := cnt_n (p := fun k => smZ m (dgt a) (dgt b) < smZ m (ru (k / 27)) (ru (k % 27))) 729
  unfold potN
  omega
theorem ct_X11_isStand {d : Nat} {S : am_S} {n : Int32} : am_CT (d + 2) iX11_isStand [.int n] S (some (.int (b01 (okRule n)))) (S) := by
  refine am_CT_in mmX11_isStand rfl rfl rfl ?_
  have l1 : (3 : Int32) ≤ n / 10 - n / 10 / 10 * 10 ↔ ¬ n / 10 - n / 10 / 10 * 10 ≤ 2 := by
    rw [fa_le, fa_le, show (3 : Int32).toInt = 3 from rfl, show (2 : Int32).toInt = 2 from rfl]
    omega
  have l2 : (3 : Int32) ≤ n - n / 10 * 10 ↔ ¬ n - n / 10 * 10 ≤ 2 := by
    rw [fa_le, fa_le, show (3 : Int32).toInt = 3 from rfl, show (2 : Int32).toInt = 2 from rfl]
    omega
  refine r_iload_n rfl rfl ?_
  refine r_i2l rfl ?_
  refine r_lconst rfl ?_
  refine r_ldc2_w rfl ?_
  refine r_callS rfl (by decide) ct_X11_in rfl rfl (am_cnt rfl) ?_
  refine r_if_eq rfl (fun h9 => ?_) (fun h9 => ?_)
  · refine r_iconst rfl ?_
    refine r_zret rfl rfl (by first | decide | simp) ?_
    refine ⟨?_, rfl⟩
    simp only [b01_eq0, wl_m999, wg_m999, wl_m99, wg_m99, wl_m50, wg_m50, wl_m1, wg_m1, wl_0, wg_0, wl_1, wg_1, wl_2, wg_2, wl_3, wg_3, wl_4, wg_4, wl_6, wg_6, wl_9, wg_9, wl_10, wg_10, wl_11, wg_11, wl_20, wg_20, wl_48, wg_48, wl_50, wg_50, wl_57, wg_57, wl_99, wg_99, wl_100, wg_100, wl_199, wg_199, wl_222, wg_222, wl_999, wg_999, wl_9999, wg_9999, fa_wide_le, okRule, b01] at *
    grind
  · refine r_iload_n rfl rfl ?_
    refine r_bipush rfl ?_
    refine r_idiv rfl (by decide) ?_
    refine r_bipush rfl ?_
    refine r_irem rfl (by decide) ?_
    refine r_iconst rfl ?_
    refine r_icmp_ge rfl (fun h20 => ?_) (fun h20 => ?_)
    · refine r_iconst rfl ?_
      refine r_zret rfl rfl (by first | decide | simp) ?_
      refine ⟨?_, rfl⟩
      simp only [b01_eq0, wl_m999, wg_m999, wl_m99, wg_m99, wl_m50, wg_m50, wl_m1, wg_m1, wl_0, wg_0, wl_1, wg_1, wl_2, wg_2, wl_3, wg_3, wl_4, wg_4, wl_6, wg_6, wl_9, wg_9, wl_10, wg_10, wl_11, wg_11, wl_20, wg_20, wl_48, wg_48, wl_50, wg_50, wl_57, wg_57, wl_99, wg_99, wl_100, wg_100, wl_199, wg_199, wl_222, wg_222, wl_999, wg_999, wl_9999, wg_9999, fa_wide_le, okRule, b01] at *
      grind
    · refine r_iload_n rfl rfl ?_
      refine r_bipush rfl ?_
      refine r_irem rfl (by decide) ?_
      refine r_iconst rfl ?_
      refine r_icmp_ge rfl (fun h28 => ?_) (fun h28 => ?_)
      · refine r_iconst rfl ?_
        refine r_zret rfl rfl (by first | decide | simp) ?_
        refine ⟨?_, rfl⟩
        simp only [b01_eq0, wl_m999, wg_m999, wl_m99, wg_m99, wl_m50, wg_m50, wl_m1, wg_m1, wl_0, wg_0, wl_1, wg_1, wl_2, wg_2, wl_3, wg_3, wl_4, wg_4, wl_6, wg_6, wl_9, wg_9, wl_10, wg_10, wl_11, wg_11, wl_20, wg_20, wl_48, wg_48, wl_50, wg_50, wl_57, wg_57, wl_99, wg_99, wl_100, wg_100, wl_199, wg_199, wl_222, wg_222, wl_999, wg_999, wl_9999, wg_9999, fa_wide_le, okRule, b01] at *
        grind
      · refine r_iconst rfl ?_
        refine r_goto rfl ?_
        refine r_zret rfl rfl (by first | decide | simp) ?_
        refine ⟨?_, rfl⟩
        simp only [b01_eq0, wl_m999, wg_m999, wl_m99, wg_m99, wl_m50, wg_m50, wl_m1, wg_m1, wl_0, wg_0, wl_1, wg_1, wl_2, wg_2, wl_3, wg_3, wl_4, wg_4, wl_6, wg_6, wl_9, wg_9, wl_10, wg_10, wl_11, wg_11, wl_20, wg_20, wl_48, wg_48, wl_50, wg_50, wl_57, wg_57, wl_99, wg_99, wl_100, wg_100, wl_199, wg_199, wl_222, wg_222, wl_999, wg_999, wl_9999, wg_9999, fa_wide_le, okRule, b01] at *
        grind
theorem ct_X11_stand_no {d : Nat} {S T : am_S} {a b : Int32} (hT : uI S 97 0 0 = T) (h : ¬ (okRule a ∧ okRule b)) : am_CT (d + 8) iX11_stand [.ref 97, .int a, .int b] S (some (.int (-1))) (T) := by
  refine am_CT_in mmX11_stand rfl rfl rfl ?_
  refine r_aload_n rfl rfl ?_
  refine r_iconst rfl ?_
  refine r_putI rfl rfl (by decide) (by decide) rfl ?_
  try rw [hT]
  refine r_iload_n rfl rfl ?_
  refine r_callS rfl (by decide) ct_X11_isStand rfl rfl (am_cnt rfl) ?_
  refine r_if_eq rfl (fun h9 => ?_) (fun h9 => ?_)
  · refine r_iconst rfl ?_
    refine r_iret rfl rfl ?_
    exact ⟨rfl, rfl⟩
  · refine r_iload_n rfl rfl ?_
    refine r_callS rfl (by decide) ct_X11_isStand rfl rfl (am_cnt rfl) ?_
    refine r_if_ne rfl (fun h16 => ?_) (fun h16 => ?_)
    · exfalso
      simp only [b01_eq0] at *
      grind
    · refine r_iconst rfl ?_
      refine r_iret rfl rfl ?_
      exact ⟨rfl, rfl⟩
theorem frD_97 {S T : am_S} (h : FrD S T) : gI T 97 = gI S 97 := h.1 97 (by decide) (by decide)
theorem ct_X11_stand_ok {d : Nat} {S T : am_S} {m : Pay} {a b : Nat} (hT : uI S 97 0 0 = T) (hM : PyM m T) (hB : Bd m) (ha : Dig (dgt a)) (hb : Dig (dgt b)) (oa : okRule (nI a)) (ob : okRule (nI b)) : am_CE (d + 8) iX11_stand [.ref 97, .int (nI a), .int (nI b)] S (some (.int (nI (plyR m a b).2.2))) (fun U => ∃ T1 V, FrN T T1 ∧ FrD (e2 T1 (nI (num3 (plyR m a b).1)).toInt64 (nI (num3 (plyR m a b).2.1)).toInt64) V ∧ U = eAdd V (iJ (smZ m (plyR m a b).1 (plyR m a b).2.1)) 2) := by
  refine am_CE_in mmX11_stand rfl rfl rfl ?_
  have w : ∀ {d : Nat} U, FrN T U → Dig (plyR m a b).1 → Dig (plyR m a b).2.1 → am_CE (d + 5) iX11_worthOf [.ref 97, .int (nI (num3 (plyR m a b).1)), .int (nI (num3 (plyR m a b).2.1))] (e2 U (nI (num3 (plyR m a b).1)).toInt64 (nI (num3 (plyR m a b).2.1)).toInt64) (some (.long (iJ (smZ m (plyR m a b).1 (plyR m a b).2.1)))) (fun V => FrD (e2 U (nI (num3 (plyR m a b).1)).toInt64 (nI (num3 (plyR m a b).2.1)).toInt64) V) := fun {d} U hU h1 h2 => by
    have e := ct_X11_worthOf (d := d) (S := e2 U (nI (num3 (plyR m a b).1)).toInt64 (nI (num3 (plyR m a b).2.1)).toInt64) (pyM_o (pyM_N hM hU) fun o ho => by rw [e2, eAdd, gI_uI_ne (by omega), gI_uJ_f, e1, eAdd, gI_uI_ne (by omega), gI_uJ_f, gI_uI_ne (by omega)]) (fun i hi => by rw [num3_d h1 i hi]; exact h1 i hi) (fun i hi => by rw [num3_d h2 i hi]; exact h2 i hi) (num3_lt h1) (num3_lt h2)
    rw [smZ_congr (num3_d h1) (num3_d h2)] at e
    exact e
  refine r_aload_n rfl rfl ?_
  refine r_iconst rfl ?_
  refine r_putI rfl rfl (by decide) (by decide) rfl ?_
  try rw [hT]
  refine r_iload_n rfl rfl ?_
  refine r_callS rfl (by decide) ct_X11_isStand rfl rfl (am_cnt rfl) ?_
  refine r_if_eq rfl (fun h9 => ?_) (fun h9 => ?_)
  · exact absurd (oa) (b01_eq0.mp h9)
  · refine r_iload_n rfl rfl ?_
    refine r_callS rfl (by decide) ct_X11_isStand rfl rfl (am_cnt rfl) ?_
    refine r_if_ne rfl (fun h16 => ?_) (fun h16 => ?_)
    · refine r_aload_n rfl rfl ?_
      refine r_iload_n rfl rfl ?_
      refine r_iload_n rfl rfl ?_
      refine r_callVE rfl (ct_X11_stands hM hB ha hb) rfl rfl rfl (by decide) rfl (am_cnt rfl) (fun U hU => ?_)
      refine r_istore_n (L2 := [_, _, _, _]) rfl rfl ?_
      refine r_aload_n rfl rfl ?_
      refine r_iconst rfl ?_
      refine r_putI rfl rfl (by decide) (by decide) rfl ?_
      refine r_aload_n rfl rfl ?_
      refine r_aload_n rfl rfl ?_
      refine r_getI rfl rfl (by decide) (by decide) rfl ?_
      rw [show gI (uI U 97 1 0) 97 42 = nI (num3 (plyR m a b).1) from by rw [gI_uI, if_pos rfl, if_neg (by decide), hU.2.1]]
      refine r_i2l rfl ?_
      refine r_callV rfl (ct_X11_enters u971 (by decide)) rfl rfl rfl (by decide) rfl (am_cnt rfl) ?_
      refine r_aload_n rfl rfl ?_
      refine r_aload_n rfl rfl ?_
      refine r_getI rfl rfl (by decide) (by decide) rfl ?_
      rw [eAdd_97 (by decide), show gI (uI U 97 1 0) 97 43 = nI (num3 (plyR m a b).2.1) from by rw [gI_uI, if_pos rfl, if_neg (by decide), hU.2.2.1]]
      refine r_i2l rfl ?_
      refine r_callV rfl (ct_X11_enters eAdd_n (by decide)) rfl rfl rfl (by decide) rfl (am_cnt rfl) ?_
      refine r_aload_n rfl rfl ?_
      refine r_aload_n rfl rfl ?_
      refine r_aload_n rfl rfl ?_
      refine r_getI rfl rfl (by decide) (by decide) rfl ?_
      rw [eAdd_97 (by decide), eAdd_97 (by decide), show gI (uI U 97 1 0) 97 42 = nI (num3 (plyR m a b).1) from by rw [gI_uI, if_pos rfl, if_neg (by decide), hU.2.1]]
      refine r_aload_n rfl rfl ?_
      refine r_getI rfl rfl (by decide) (by decide) rfl ?_
      rw [eAdd_97 (by decide), eAdd_97 (by decide), show gI (uI U 97 1 0) 97 43 = nI (num3 (plyR m a b).2.1) from by rw [gI_uI, if_pos rfl, if_neg (by decide), hU.2.2.1]]
      refine r_callVE rfl (w U hU.1 hU.2.2.2.1 hU.2.2.2.2) rfl rfl rfl (by decide) rfl (am_cnt rfl) (fun V hV => ?_)
      refine r_callV rfl (ct_X11_enters (by rw [hV.1 97 (by decide) (by decide)]; exact eAdd_n) (by decide)) rfl rfl rfl (by decide) rfl (am_cnt rfl) ?_
      refine r_iload_n rfl rfl ?_
      refine r_iret rfl rfl ?_
      exact ⟨rfl, _, rfl, U, V, hU.1, hV, rfl⟩
    · exact absurd (ob) (b01_eq0.mp h16)
theorem ct_X11_gap {d : Nat} {S T : am_S} {m : Pay} (hT : uI S 97 0 0 = T) (hM : PyM m T) (hB : Bd m) : am_CE (d + 8) iX11_gap [.ref 97] S (some (.long (iJ (b2v m (b2I m 728)) - iJ (smZ m (plyR m 0 0).1 (plyR m 0 0).2.1)))) (fun U => ∃ W, FrN T W ∧ FrD (e1 W (iJ (msb m))) U) := by
  refine am_CE_in mmX11_gap rfl rfl rfl ?_
  have z0 : Dig (dgt 0) := fun i hi => by unfold dgt; split; omega; split <;> omega
  have loop : ∀ (k : Nat) (s : Nat) (U : am_S) (v6 : Option Value) (v7 : Option Value) (v8 : Option Value), (s ≤ 9) → (9 < s + k) → (FrN T U) → (gI U 97 42 = nI (num3 (plyR m 0 0).1) ∧ gI U 97 43 = nI (num3 (plyR m 0 0).2.1) ∧ Dig (plyR m 0 0).1 ∧ Dig (plyR m 0 0).2.1) → am_Ex (am_Call am_MT (d + 7)) mmX11_gap none (fun r1 G1 => r1 = (some (.long (iJ (b2v m (b2I m 728)) - iJ (smZ m (plyR m 0 0).1 (plyR m 0 0).2.1)))) ∧ ∃ S2, G1 = am_H S2 ∧ (fun U => ∃ W, FrN T W ∧ FrD (e1 W (iJ (msb m))) U) S2) (fun _ _ _ _ _ _ => False) 22 [some (.ref 97), some (.long (iJ (b2v m (b2I m 728)))), none, some (.long (iJ (sumZ (fun s => mxZ (ms9 m s) 8) s))), none, some (.int (nI s)), v6, v7, v8] [] (am_H (U)) 0 0 := by
    intro k
    induction k with
    | zero =>
      intro s U v6 v7 v8 q1 q2 f1 f2
      omega
    | succ k ih =>
      intro s U v6 v7 v8 q1 q2 f1 f2
      have loop2 : ∀ (k2 : Nat) (d2 : Nat) (U : am_S), (s < 9) → (1 ≤ d2 ∧ d2 ≤ 9) → (9 < d2 + k2) → (FrN T U) → (gI U 97 42 = nI (num3 (plyR m 0 0).1) ∧ gI U 97 43 = nI (num3 (plyR m 0 0).2.1) ∧ Dig (plyR m 0 0).1 ∧ Dig (plyR m 0 0).2.1) → am_Ex (am_Call am_MT (d + 7)) mmX11_gap none (fun r1 G1 => r1 = (some (.long (iJ (b2v m (b2I m 728)) - iJ (smZ m (plyR m 0 0).1 (plyR m 0 0).2.1)))) ∧ ∃ S2, G1 = am_H S2 ∧ (fun U => ∃ W, FrN T W ∧ FrD (e1 W (iJ (msb m))) U) S2) (fun _ _ _ _ _ _ => False) 48 [some (.ref 97), some (.long (iJ (b2v m (b2I m 728)))), none, some (.long (iJ (sumZ (fun s => mxZ (ms9 m s) 8) s))), none, some (.int (nI s)), some (.long (iJ (mxZ (ms9 m s) (d2 - 1)))), none, some (.int (nI d2))] [] (am_H (U)) 0 0 := by
        intro k2
        induction k2 with
        | zero =>
          intro d2 U q0 p1 p2 g1 g2
          omega
        | succ k2 ih2 =>
          intro d2 U q0 p1 p2 g1 g2
          have ok : ∀ d, d < 9 → okZ (ms9 m s d) := fun d hd => okZ_of (by have := hB (s / 3) (s % 3) (d / 3) (d % 3) (by omega) (by omega) (by omega) (by omega); unfold ms9; omega)
          have nx : d2 < 9 → (if iJ (ms9 m s d2) < iJ (mxZ (ms9 m s) (d2 - 1)) then iJ (mxZ (ms9 m s) (d2 - 1)) else iJ (ms9 m s d2)) = iJ (mxZ (ms9 m s) (d2 + 1 - 1)) := fun hd => by
            obtain ⟨i, rfl⟩ : ∃ i, d2 = i + 1 := ⟨d2 - 1, by omega⟩
            have a := iJ_lt (ok (i + 1) hd) (mxZ_ok ok i (by omega))
            show (if iJ (ms9 m s (i + 1)) < iJ (mxZ (ms9 m s) i) then iJ (mxZ (ms9 m s) i) else iJ (ms9 m s (i + 1))) = iJ (if ms9 m s (i + 1) < mxZ (ms9 m s) i then mxZ (ms9 m s) i else ms9 m s (i + 1))
            by_cases h : ms9 m s (i + 1) < mxZ (ms9 m s) i
            · rw [if_pos h, if_pos (a.mpr h)]
            · rw [if_neg h, if_neg (fun z => h (a.mp z))]
          refine r_iload rfl rfl ?_
          refine r_bipush rfl ?_
          refine r_icmp_ge rfl (fun h52 => ?_) (fun h52 => ?_)
          · have hd : d2 = 9 := by
              rw [show (9 : Int32) = nI 9 from rfl, nI_leI (by omega) (by omega)] at h52
              omega
            subst hd
            refine r_lload_n rfl rfl ?_
            refine r_lload rfl rfl ?_
            refine r_ladd rfl ?_
            refine r_lstore_n (L2 := [_, _, _, _, _, _, _, _, _]) rfl rfl ?_
            refine r_iinc (L2 := [_, _, _, _, _, _, _, _, _]) rfl rfl rfl ?_
            refine r_goto rfl ?_
            rw [iJ_add, nI_1]
            exact ih (s + 1) U _ _ _ (by omega) (by omega) g1 g2
          · have hd : d2 < 9 := by
              rw [show (9 : Int32) = nI 9 from rfl, nI_leI (by omega) (by omega)] at h52
              omega
            refine r_lload rfl rfl ?_
            refine r_aload_n rfl rfl ?_
            refine r_iload rfl rfl ?_
            refine r_iconst rfl ?_
            refine r_idiv rfl (by decide) ?_
            rw [d3e s q0]
            refine r_iload rfl rfl ?_
            refine r_iconst rfl ?_
            refine r_irem rfl (by decide) ?_
            rw [m3e s q0]
            refine r_iload rfl rfl ?_
            refine r_iconst rfl ?_
            refine r_idiv rfl (by decide) ?_
            rw [d3e d2 (by omega)]
            refine r_iload rfl rfl ?_
            refine r_iconst rfl ?_
            refine r_irem rfl (by decide) ?_
            rw [m3e d2 (by omega)]
            refine r_callVE rfl (ct_X11_worth (pyM_N hM g1) (by omega) (by omega) (by omega) (by omega)) rfl rfl rfl (by decide) rfl (am_cnt rfl) (fun V hV => ?_)
            rw [show m (s / 3) (s % 3) (d2 / 3) (d2 % 3) = ms9 m s d2 from rfl]
            refine r_maxl rfl (am_cnt rfl) ?_
            rw [nx (by omega)]
            refine r_lstore (L2 := [_, _, _, _, _, _, _, _, _]) rfl rfl ?_
            refine r_iinc (L2 := [_, _, _, _, _, _, _, _, _]) rfl rfl rfl ?_
            refine r_goto rfl ?_
            rw [nI_1]
            exact ih2 (d2 + 1) V q0 (by omega) (by omega) (frN_D g1 hV) (by rw [frD_97 hV]; exact g2)
      by_cases hs9 : s = 9
      · have w9 : (9 : Int32) ≤ nI s := nI_le (a := 9) (by omega) (by omega)
        obtain ⟨g42, g43, h1, h2⟩ := f2
        have ms : sumZ (fun s => mxZ (ms9 m s) 8) s = msb m := by rw [hs9]; rfl
        have w : ∀ {d : Nat}, am_CE (d + 5) iX11_worthOf [.ref 97, .int (nI (num3 (plyR m 0 0).1)), .int (nI (num3 (plyR m 0 0).2.1))] (e1 U (iJ (msb m))) (some (.long (iJ (smZ m (plyR m 0 0).1 (plyR m 0 0).2.1)))) (fun V => FrD (e1 U (iJ (msb m))) V) := fun {d} => by
          have e := ct_X11_worthOf (d := d) (S := e1 U (iJ (msb m))) (pyM_o (pyM_N hM f1) fun o ho => by rw [e1, eAdd, gI_uI_ne (by omega), gI_uJ_f, gI_uI_ne (by omega)]) (fun i hi => by rw [num3_d h1 i hi]; exact h1 i hi) (fun i hi => by rw [num3_d h2 i hi]; exact h2 i hi) (num3_lt h1) (num3_lt h2)
          rw [smZ_congr (num3_d h1) (num3_d h2)] at e
          exact e
        rw [ms]
        refine r_iload rfl rfl ?_
        refine r_bipush rfl ?_
        refine r_icmp_ge rfl (fun h26 => ?_) (fun h26 => ?_)
        · refine r_aload_n rfl rfl ?_
          refine r_iconst rfl ?_
          refine r_putI rfl rfl (by decide) (by decide) rfl ?_
          refine r_aload_n rfl rfl ?_
          refine r_lload_n rfl rfl ?_
          refine r_callV rfl (ct_X11_enters u971 (by decide)) rfl rfl rfl (by decide) rfl (am_cnt rfl) ?_
          refine r_lload_n rfl rfl ?_
          refine r_aload_n rfl rfl ?_
          refine r_aload_n rfl rfl ?_
          refine r_getI rfl rfl (by decide) (by decide) rfl ?_
          rw [eAdd_97 (by decide), show gI (uI U 97 1 0) 97 42 = nI (num3 (plyR m 0 0).1) from by rw [gI_uI, if_pos rfl, if_neg (by decide), g42]]
          refine r_aload_n rfl rfl ?_
          refine r_getI rfl rfl (by decide) (by decide) rfl ?_
          rw [eAdd_97 (by decide), show gI (uI U 97 1 0) 97 43 = nI (num3 (plyR m 0 0).2.1) from by rw [gI_uI, if_pos rfl, if_neg (by decide), g43]]
          refine r_callVE rfl w rfl rfl rfl (by decide) rfl (am_cnt rfl) (fun V hV => ?_)
          refine r_lsub rfl ?_
          refine r_lret rfl ?_
          exact ⟨rfl, _, rfl, U, f1, hV⟩
        · exact absurd w9 h26
      · have hs : s < 9 := by omega
        have w9 : ¬ (9 : Int32) ≤ nI s := Int32.not_le.mpr (nI_lt (b := 9) hs (by omega))
        refine r_iload rfl rfl ?_
        refine r_bipush rfl ?_
        refine r_icmp_ge rfl (fun h26 => ?_) (fun h26 => ?_)
        · exact absurd h26 w9
        · refine r_aload_n rfl rfl ?_
          refine r_iload rfl rfl ?_
          refine r_iconst rfl ?_
          refine r_idiv rfl (by decide) ?_
          rw [d3e s hs]
          refine r_iload rfl rfl ?_
          refine r_iconst rfl ?_
          refine r_irem rfl (by decide) ?_
          rw [m3e s hs]
          refine r_iconst rfl ?_
          refine r_iconst rfl ?_
          refine r_callVE rfl (ct_X11_worth (a := 0) (b := 0) (pyM_N hM f1) (by omega) (by omega) (by omega) (by omega)) rfl rfl rfl (by decide) rfl (am_cnt rfl) (fun V hV => ?_)
          refine r_lstore (L2 := [_, _, _, _, _, _, _, _, _]) rfl rfl ?_
          refine r_iconst rfl ?_
          refine r_istore (L2 := [_, _, _, _, _, _, _, _, _]) rfl rfl ?_
          exact loop2 9 1 V hs (by omega) (by omega) (frN_D f1 hV) (by rw [frD_97 hV]; exact f2)
  refine r_aload_n rfl rfl ?_
  refine r_iconst rfl ?_
  refine r_putI rfl rfl (by decide) (by decide) rfl ?_
  try rw [hT]
  refine r_aload_n rfl rfl ?_
  refine r_callVE rfl (ct_X11_bestOfTwo hM hB) rfl rfl rfl (by decide) rfl (am_cnt rfl) (fun U hU => ?_)
  refine r_lstore_n (L2 := [_, _, _, _, _, _, _, _, _]) rfl rfl ?_
  refine r_aload_n rfl rfl ?_
  refine r_iconst rfl ?_
  refine r_iconst rfl ?_
  refine r_callVE rfl (ct_X11_stands (a := 0) (b := 0) (pyM_N hM hU.1) hB z0 z0) rfl rfl rfl (by decide) rfl (am_cnt rfl) (fun V hV => ?_)
  refine r_pop rfl rfl ?_
  refine r_lconst rfl ?_
  refine r_lstore_n (L2 := [_, _, _, _, _, _, _, _, _]) rfl rfl ?_
  refine r_iconst rfl ?_
  refine r_istore (L2 := [_, _, _, _, _, _, _, _, _]) rfl rfl ?_
  exact loop 10 0 V none none none (by omega) (by omega) (frN_t hU.1 hV.1) hV.2
