/-! By turns each does the best, till neither changes. -/
def dgt (R i : Nat) : Nat := if i = 0 then R / 100 else if i = 1 then R / 10 % 10 else R % 10
theorem ct_X3_spell {d : Nat} {S : am_S} {c R : Nat} (hk : am_kn (gR S 0) c = (20, 3)) (hR : R < 1000) : am_CT (d + 1) iX3_spell [.int (nI R), .ref c] S (none) (uI (uI (uI S c 0 (nI (dgt R 0))) c 1 (nI (dgt R 1))) c 2 (nI (dgt R 2))) := by
  refine am_CT_in mmX3_spell rfl rfl rfl ?_
  have d1 : nI R / 100 = nI (R / 100) := pk_div (d := 100) (by omega) (by decide) (by decide)
  have d2 : nI R / 10 = nI (R / 10) := pk_div (d := 10) (by omega) (by decide) (by decide)
  have d3 : nI (R / 10) - nI (R / 10) / 10 * 10 = nI (R / 10 % 10) := pk_rem (d := 10) (by omega) (by decide) (by decide)
  have d4 : nI R - nI R / 10 * 10 = nI (R % 10) := pk_rem (d := 10) (by omega) (by decide) (by decide)
  refine r_aload_n rfl rfl ?_
  refine r_iconst rfl ?_
  refine r_iload_n rfl rfl ?_
  refine r_bipush rfl ?_
  refine r_idiv rfl (by decide) ?_
  rw [d1]
  refine r_iast rfl hk (by first | decide | assumption) (by decide) (by decide) ?_
  refine r_aload_n rfl rfl ?_
  refine r_iconst rfl ?_
  refine r_iload_n rfl rfl ?_
  refine r_bipush rfl ?_
  refine r_idiv rfl (by decide) ?_
  rw [d2]
  refine r_bipush rfl ?_
  refine r_irem rfl (by decide) ?_
  rw [d3]
  refine r_iast rfl hk (by first | decide | assumption) (by decide) (by decide) ?_
  refine r_aload_n rfl rfl ?_
  refine r_iconst rfl ?_
  refine r_iload_n rfl rfl ?_
  refine r_bipush rfl ?_
  refine r_irem rfl (by decide) ?_
  rw [d4]
  refine r_iast rfl hk (by first | decide | assumption) (by decide) (by decide) ?_
  refine r_vret rfl ?_
  exact ⟨rfl, rfl⟩
theorem spell_rw {S : am_S} {c R : Nat} (h : ∀ i, i < 3 → dgt R i < 3) : RW (uI (uI (uI S c 0 (nI (dgt R 0))) c 1 (nI (dgt R 1))) c 2 (nI (dgt R 2))) c (dgt R) := fun i hi => by
  refine ⟨?_, h i hi⟩
  simp only [gI_uI, if_true]
  match i, hi with
  | 0, _ => rfl
  | 1, _ => rfl
  | 2, _ => rfl
def rnoI (x : Nat → Nat) : Int32 := nI (x 0 * 100 + x 1 * 10 + x 2)
theorem ct_X3_ruleNumber {d : Nat} {S : am_S} {c : Nat} {x : Nat → Nat} (hk : am_kn (gR S 0) c = (20, 3)) (hx : RW S c x) : am_CT (d + 1) iX3_ruleNumber [.ref c] S (some (.int (rnoI x))) (S) := by
  refine am_CT_in mmX3_ruleNumber rfl rfl rfl ?_
  refine r_aload_n rfl rfl ?_
  refine r_iconst rfl ?_
  refine r_iald rfl hk (by first | decide | assumption) (by decide) (by decide) ?_
  refine r_bipush rfl ?_
  refine r_imul rfl ?_
  refine r_aload_n rfl rfl ?_
  refine r_iconst rfl ?_
  refine r_iald rfl hk (by first | decide | assumption) (by decide) (by decide) ?_
  refine r_bipush rfl ?_
  refine r_imul rfl ?_
  refine r_iadd rfl ?_
  refine r_aload_n rfl rfl ?_
  refine r_iconst rfl ?_
  refine r_iald rfl hk (by first | decide | assumption) (by decide) (by decide) ?_
  refine r_iadd rfl ?_
  refine r_iret rfl rfl ?_
  rw [show (0 : Int32).toNatClampNeg = 0 from rfl, show (1 : Int32).toNatClampNeg = 1 from rfl, show (2 : Int32).toNatClampNeg = 2 from rfl, (hx 0 (by decide)).1, (hx 1 (by decide)).1, (hx 2 (by decide)).1, show nI (x 0) * 100 = nI (x 0 * 100) from pk_mul _ 100, show nI (x 1) * 10 = nI (x 1 * 10) from pk_mul _ 10, nI_add, nI_add]
  exact ⟨rfl, rfl⟩
def nx1 (m : Pay) (x y : Nat → Nat) (s : Nat) : Nat := bth (br1 m y s) (x s)
def nx2 (m : Pay) (x y : Nat → Nat) (s : Nat) : Nat := bth (br2 m x s) (y s)
abbrev Dig (x : Nat → Nat) : Prop := ∀ i, i < 3 → x i < 3
theorem nx1_lt {m : Pay} {x y : Nat → Nat} (hx : Dig x) : Dig (nx1 m x y) := fun i hi => bth_lt _ (hx i hi)
theorem nx2_lt {m : Pay} {x y : Nat → Nat} (hy : Dig y) : Dig (nx2 m x y) := fun i hi => bth_lt _ (hy i hi)
theorem chB_f {x y : Nat → Nat} (h : ¬ chB x y 3 = true) : ∀ i, i < 3 → y i = x i := by
  simp only [chB, Bool.false_or, Bool.or_eq_true, decide_eq_true_eq, not_or, Decidable.not_not] at h
  intro i hi
  match i, hi with
  | 0, _ => exact h.1.1
  | 1, _ => exact h.1.2
  | 2, _ => exact h.2
theorem chB_t {x y : Nat → Nat} (h : chB x y 3 = true) : ¬ y 0 = x 0 ∨ ¬ y 1 = x 1 ∨ ¬ y 2 = x 2 := by
  simp only [chB, Bool.false_or, Bool.or_eq_true, decide_eq_true_eq] at h
  rcases h with (h | h) | h
  · exact Or.inl h
  · exact Or.inr (Or.inl h)
  · exact Or.inr (Or.inr h)
theorem up1 {m : Pay} {x y : Nat → Nat} (hx : Dig x) (h : chB x (nx1 m x y) 3 = true) : smZ m x y < smZ m (nx1 m x y) y := by
  rw [sm_e1 m x, sm_e1 m (nx1 m x y)]
  have a0 := bth_le (br1 m y 0) (hx 0 (by omega))
  have a1 := bth_le (br1 m y 1) (hx 1 (by omega))
  have a2 := bth_le (br1 m y 2) (hx 2 (by omega))
  have b0 := bth_ne (br1 m y 0) (hx 0 (by omega))
  have b1 := bth_ne (br1 m y 1) (hx 1 (by omega))
  have b2 := bth_ne (br1 m y 2) (hx 2 (by omega))
  have c := chB_t h
  unfold nx1 at *
  rcases c with c | c | c
  · have := b0 c; omega
  · have := b1 c; omega
  · have := b2 c; omega
theorem up2 {m : Pay} {x y : Nat → Nat} (hy : Dig y) (h : chB y (nx2 m x y) 3 = true) : smZ m x y < smZ m x (nx2 m x y) := by
  rw [sm_e2 m x y, sm_e2 m x (nx2 m x y)]
  have a0 := bth_le (br2 m x 0) (hy 0 (by omega))
  have a1 := bth_le (br2 m x 1) (hy 1 (by omega))
  have a2 := bth_le (br2 m x 2) (hy 2 (by omega))
  have b0 := bth_ne (br2 m x 0) (hy 0 (by omega))
  have b1 := bth_ne (br2 m x 1) (hy 1 (by omega))
  have b2 := bth_ne (br2 m x 2) (hy 2 (by omega))
  have c := chB_t h
  unfold nx2 at *
  rcases c with c | c | c
  · have := b0 c; omega
  · have := b1 c; omega
  · have := b2 c; omega
theorem smZ_congr {m : Pay} {x y x2 y2 : Nat → Nat} (hx : ∀ i, i < 3 → x i = x2 i) (hy : ∀ i, i < 3 → y i = y2 i) : smZ m x y = smZ m x2 y2 := by
  simp only [smZ, sumZ, hx 0 (by omega), hx 1 (by omega), hx 2 (by omega), hy 0 (by omega), hy 1 (by omega), hy 2 (by omega)]
def cntN (p : Nat → Prop) [DecidablePred p] : Nat → Nat
  | 0 => 0
  | n + 1 => cntN p n + (if p n then 1 else 0)
theorem cnt_le {p q : Nat → Prop} [DecidablePred p] [DecidablePred q] (h : ∀ i, q i → p i) : ∀ n, cntN q n ≤ cntN p n
  | 0 => Nat.le_refl _
  | n + 1 => by
    have := cnt_le h n
    unfold cntN
    by_cases hq : q n
    · rw [if_pos hq, if_pos (h n hq)]; omega
    · rw [if_neg hq]; omega
theorem cnt_lt {p q : Nat → Prop} [DecidablePred p] [DecidablePred q] (h : ∀ i, q i → p i) {j : Nat} (hp : p j) (hq : ¬ q j) : ∀ n, j < n → cntN q n < cntN p n
  | n + 1, hj => by
    unfold cntN
    by_cases hjn : j = n
    · subst hjn
      have := cnt_le h j
      rw [if_pos hp, if_neg hq]; omega
    · have := cnt_lt h hp hq n (by omega)
      by_cases hq2 : q n
      · rw [if_pos hq2, if_pos (h n hq2)]; omega
      · rw [if_neg hq2]; omega
theorem cnt_n {p : Nat → Prop} [DecidablePred p] : ∀ n, cntN p n ≤ n
  | 0 => Nat.le_refl _
  | n + 1 => by
    have := cnt_n (p := p) n
    unfold cntN
    split <;> omega
def potN (m : Pay) (v : Int) : Nat := cntN (fun k => v < smZ m (ru (k / 27)) (ru (k % 27))) 729
theorem ru_of {x : Nat → Nat} (h : Dig x) : ∀ i, i < 3 → ru (x 0 * 9 + x 1 * 3 + x 2) i = x i := by
  have a := h 0 (by omega)
  have b := h 1 (by omega)
  have c := h 2 (by omega)
  intro i hi
  match i, hi with
  | 0, _ => unfold ru; rw [if_pos rfl]; omega
  | 1, _ => unfold ru; rw [if_neg (by decide), if_pos rfl]; omega
  | 2, _ => unfold ru; rw [if_neg (by decide), if_neg (by decide)]; omega
theorem pot_lt {m : Pay} {v : Int} {x y : Nat → Nat} (hx : Dig x) (hy : Dig y) (h : v < smZ m x y) : potN m (smZ m x y) < potN m v := by
  have a0 := hx 0 (by omega)
  have a1 := hx 1 (by omega)
  have a2 := hx 2 (by omega)
  have b0 := hy 0 (by omega)
  have b1 := hy 1 (by omega)
  have b2 := hy 2 (by omega)
  have e : smZ m (ru (((x 0 * 9 + x 1 * 3 + x 2) * 27 + (y 0 * 9 + y 1 * 3 + y 2)) / 27)) (ru (((x 0 * 9 + x 1 * 3 + x 2) * 27 + (y 0 * 9 + y 1 * 3 + y 2)) % 27)) = smZ m x y := by
    rw [show ((x 0 * 9 + x 1 * 3 + x 2) * 27 + (y 0 * 9 + y 1 * 3 + y 2)) / 27 = x 0 * 9 + x 1 * 3 + x 2 by omega, show ((x 0 * 9 + x 1 * 3 + x 2) * 27 + (y 0 * 9 + y 1 * 3 + y 2)) % 27 = y 0 * 9 + y 1 * 3 + y 2 by omega]
    exact smZ_congr (ru_of hx) (ru_of hy)
  refine cnt_lt (fun i hi => Int.lt_trans h hi) (j := (x 0 * 9 + x 1 * 3 + x 2) * 27 + (y 0 * 9 + y 1 * 3 + y 2)) ?_ ?_ 729 (by omega)
  · show v < _
    rw [e]
    exact h
  · show ¬ _ < _
    rw [e]
    exact Int.lt_irrefl _
/-- rules and how many turns changed one: fuel, turn, rules, changed, unchanged -/
def plyS (m : Pay) : Nat → Nat → (Nat → Nat) → (Nat → Nat) → Nat → Nat → (Nat → Nat) × (Nat → Nat) × Nat
  | 0, _, x, y, c, _ => (x, y, c)
  | f + 1, t, x, y, c, u =>
    if 2 ≤ u then (x, y, c)
    else if t % 2 = 0 then (if chB x (nx1 m x y) 3 = true then plyS m f (t + 1) (nx1 m x y) y (c + 1) 0 else plyS m f (t + 1) x y c (u + 1))
    else (if chB y (nx2 m x y) 3 = true then plyS m f (t + 1) x (nx2 m x y) (c + 1) 0 else plyS m f (t + 1) x y c (u + 1))
theorem ply_end {m : Pay} {f t c u : Nat} {x y : Nat → Nat} (h : 2 ≤ u) : plyS m f t x y c u = (x, y, c) := by
  match f with
  | 0 => rfl
  | f + 1 => rw [plyS, if_pos h]
def plyR (m : Pay) (a b : Nat) : (Nat → Nat) × (Nat → Nat) × Nat := plyS m 3000 0 (dgt a) (dgt b) 0 0
theorem rw_of {S : am_S} {c : Nat} {x y : Nat → Nat} (h : RW S c y) (he : ∀ i, i < 3 → y i = x i) : RW S c x := fun i hi => by
  rw [← he i hi]
  exact h i hi
theorem chG_rw {S : am_S} {c : Nat} {y : Nat → Nat} (h : Dig y) : RW (rI S c (chG S c y 3)) c y := fun i hi => by
  rw [gI_rI_eq, chG, if_pos hi]
  exact ⟨rfl, h i hi⟩
theorem par2 (t : Nat) (ht : t < 1000000) : nI t - nI t / 2 * 2 = nI (t % 2) := pk_rem (d := 2) (by omega) (by decide) (by decide)
theorem ct_X3_playByTurns {d : Nat} {S : am_S} {m : Pay} {a b : Nat} (hM : MW m S) (hB : Bd m) (ha : Dig (dgt a)) (hb : Dig (dgt b)) (ha2 : a < 1000) (hb2 : b < 1000) : am_CE (d + 5) iX3_playByTurns [.ref 86, .int (nI a), .int (nI b)] S (some (.int (nI (plyR m a b).2.2))) (fun T => FrM S T ∧ RW T 92 (plyR m a b).1 ∧ RW T 93 (plyR m a b).2.1) := by
  refine am_CE_in mmX3_playByTurns rfl rfl rfl ?_
  have loop : ∀ (k : Nat) (t : Nat) (u : Nat) (c : Nat) (x : Nat → Nat) (y : Nat → Nat) (T : am_S), (t + 3 * potN m (smZ m x y) + (2 - u) ≤ 2900 ∧ u ≤ 2) → (t + k = 2901) → (FrM S T) → (RW T 92 x) → (RW T 93 y) → (plyS m (3000 - t) t x y c u = plyR m a b) → (c ≤ t) → am_Ex (am_Call am_MT (d + 4)) mmX3_playByTurns none (fun r1 G1 => r1 = (some (.int (nI (plyR m a b).2.2))) ∧ ∃ S2, G1 = am_H S2 ∧ (fun T => FrM S T ∧ RW T 92 (plyR m a b).1 ∧ RW T 93 (plyR m a b).2.1) S2) (fun _ _ _ _ _ _ => False) 24 [some (.ref 86), some (.int (nI a)), some (.int (nI b)), some (.int (nI c)), some (.int (nI u)), some (.int (nI t))] [] (am_H (T)) 0 0 := by
    intro k
    induction k with
    | zero =>
      intro t u c x y T q1 q2 f1 f2 f3 f4 f5
      omega
    | succ k ih =>
      intro t u c x y T q1 q2 f1 f2 f3 f4 f5
      have w1 : ¬ 1000000 ≤ nI t := Int32.not_le.mpr (nI_lt (b := 1000000) (by omega) (by omega))
      have hx : Dig x := fun i hi => (f2 i hi).2
      have hy : Dig y := fun i hi => (f3 i hi).2
      by_cases hu : 2 ≤ u
      · have w2 : 2 ≤ nI u := nI_le (a := 2) hu (by omega)
        rw [ply_end hu] at f4
        refine r_iload rfl rfl ?_
        refine r_ldc rfl ?_
        refine r_icmp_ge rfl (fun h28 => ?_) (fun h28 => ?_)
        · exact absurd h28 w1
        · refine r_iload rfl rfl ?_
          refine r_iconst rfl ?_
          refine r_icmp_ge rfl (fun h34 => ?_) (fun h34 => ?_)
          · refine r_iload_n rfl rfl ?_
            refine r_iret rfl rfl ?_
            rw [← f4]
            exact ⟨rfl, _, rfl, f1, f2, f3⟩
          · exact absurd w2 h34
      · have w2 : ¬ 2 ≤ nI u := Int32.not_le.mpr (nI_lt (b := 2) (by omega) (by omega))
        have hf : 3000 - t = (3000 - (t + 1)) + 1 := by omega
        rw [hf, plyS, if_neg hu] at f4
        by_cases ht : t % 2 = 0
        · rw [if_pos ht] at f4
          have hp : nI t - nI t / 2 * 2 = 0 := by rw [par2 t (by omega), ht]; rfl
          have cc : am_CT (d + 4) iX3_changes [.ref 86, .int 1] T (some (.int (b01 (chB x (nx1 m x y) 3 = true)))) (rI T 92 (chG T 92 (nx1 m x y) 3)) := ct_X3_changes_one (h := br1 m y) f2 (fun {d} g s t hs ht => ct_X3_brings_one (mw_rI (mw_fr f1 hM) (Or.inl rfl)) (rw_rI f3 (by decide)) hs ht) (fun s t hs ht => okZ_of (by have := br1_ok hB hy hs ht; omega))
          have fr := frM_rI (g := chG T 92 (nx1 m x y) 3) (o := 92) f1 (by decide)
          have y1 : RW (rI T 92 (chG T 92 (nx1 m x y) 3)) 93 y := rw_rI f3 (by decide)
          have x1 : RW (rI T 92 (chG T 92 (nx1 m x y) 3)) 92 (nx1 m x y) := chG_rw (nx1_lt hx)
          refine r_iload rfl rfl ?_
          refine r_ldc rfl ?_
          refine r_icmp_ge rfl (fun h28 => ?_) (fun h28 => ?_)
          · exact absurd h28 w1
          · refine r_iload rfl rfl ?_
            refine r_iconst rfl ?_
            refine r_icmp_ge rfl (fun h34 => ?_) (fun h34 => ?_)
            · exact absurd h34 w2
            · refine r_aload_n rfl rfl ?_
              refine r_iload rfl rfl ?_
              refine r_iconst rfl ?_
              refine r_irem rfl (by decide) ?_
              rw [hp]
              refine r_if_ne rfl (fun h42 => ?_) (fun h42 => ?_)
              · first | exact absurd h42 (by decide) | exact absurd (by decide) h42
              · refine r_iconst rfl ?_
                refine r_goto rfl ?_
                refine r_callV rfl cc rfl rfl rfl (by decide) rfl (am_cnt rfl) ?_
                refine r_if_eq rfl (fun h53 => ?_) (fun h53 => ?_)
                · have hc := b01_eq0.mp h53
                  refine r_iinc (L2 := [_, _, _, _, _, _]) rfl rfl rfl ?_
                  refine r_iinc (L2 := [_, _, _, _, _, _]) rfl rfl rfl ?_
                  refine r_goto rfl ?_
                  rw [nI_1, nI_1]
                  first
                    | (rw [if_pos hc] at f4
                       have po := pot_lt (nx1_lt (m := m) (y := y) hx) hy (up1 hx hc)
                       exact ih (t + 1) 0 (c + 1) _ _ _ (by omega) (by omega) fr x1 y1 f4 (by omega))
                    | (rw [if_neg hc] at f4
                       exact ih (t + 1) (u + 1) c x y _ (by omega) (by omega) fr (rw_of x1 (chB_f hc)) y1 f4 (by omega))
                · have hc := Decidable.not_not.mp fun z => h53 (b01_f z)
                  refine r_iinc (L2 := [_, _, _, _, _, _]) rfl rfl rfl ?_
                  refine r_iconst rfl ?_
                  refine r_istore (L2 := [_, _, _, _, _, _]) rfl rfl ?_
                  refine r_goto rfl ?_
                  refine r_iinc (L2 := [_, _, _, _, _, _]) rfl rfl rfl ?_
                  refine r_goto rfl ?_
                  rw [nI_1, nI_1]
                  first
                    | (rw [if_pos hc] at f4
                       have po := pot_lt (nx1_lt (m := m) (y := y) hx) hy (up1 hx hc)
                       exact ih (t + 1) 0 (c + 1) _ _ _ (by omega) (by omega) fr x1 y1 f4 (by omega))
                    | (rw [if_neg hc] at f4
                       exact ih (t + 1) (u + 1) c x y _ (by omega) (by omega) fr (rw_of x1 (chB_f hc)) y1 f4 (by omega))
        · rw [if_neg ht] at f4
          have hp : nI t - nI t / 2 * 2 = 1 := by rw [par2 t (by omega), show t % 2 = 1 by omega]; rfl
          have cc : am_CT (d + 4) iX3_changes [.ref 86, .int 0] T (some (.int (b01 (chB y (nx2 m x y) 3 = true)))) (rI T 93 (chG T 93 (nx2 m x y) 3)) := ct_X3_changes_other (h := br2 m x) f3 (fun {d} g s t hs ht => ct_X3_brings_other (mw_rI (mw_fr f1 hM) (Or.inr rfl)) (rw_rI f2 (by decide)) hs ht) (fun s t hs ht => okZ_of (by have := br2_ok hB hx hs ht; omega))
          have fr := frM_rI (g := chG T 93 (nx2 m x y) 3) (o := 93) f1 (by decide)
          have x1 : RW (rI T 93 (chG T 93 (nx2 m x y) 3)) 92 x := rw_rI f2 (by decide)
          have y1 : RW (rI T 93 (chG T 93 (nx2 m x y) 3)) 93 (nx2 m x y) := chG_rw (nx2_lt hy)
          refine r_iload rfl rfl ?_
          refine r_ldc rfl ?_
          refine r_icmp_ge rfl (fun h28 => ?_) (fun h28 => ?_)
          · exact absurd h28 w1
          · refine r_iload rfl rfl ?_
            refine r_iconst rfl ?_
            refine r_icmp_ge rfl (fun h34 => ?_) (fun h34 => ?_)
            · exact absurd h34 w2
            · refine r_aload_n rfl rfl ?_
              refine r_iload rfl rfl ?_
              refine r_iconst rfl ?_
              refine r_irem rfl (by decide) ?_
              rw [hp]
              refine r_if_ne rfl (fun h42 => ?_) (fun h42 => ?_)
              · refine r_iconst rfl ?_
                refine r_callV rfl cc rfl rfl rfl (by decide) rfl (am_cnt rfl) ?_
                refine r_if_eq rfl (fun h53 => ?_) (fun h53 => ?_)
                · have hc := b01_eq0.mp h53
                  refine r_iinc (L2 := [_, _, _, _, _, _]) rfl rfl rfl ?_
                  refine r_iinc (L2 := [_, _, _, _, _, _]) rfl rfl rfl ?_
                  refine r_goto rfl ?_
                  rw [nI_1, nI_1]
                  first
                    | (rw [if_pos hc] at f4
                       have po := pot_lt hx (nx2_lt (m := m) (x := x) hy) (up2 hy hc)
                       exact ih (t + 1) 0 (c + 1) _ _ _ (by omega) (by omega) fr x1 y1 f4 (by omega))
                    | (rw [if_neg hc] at f4
                       exact ih (t + 1) (u + 1) c x y _ (by omega) (by omega) fr x1 (rw_of y1 (chB_f hc)) f4 (by omega))
                · have hc := Decidable.not_not.mp fun z => h53 (b01_f z)
                  refine r_iinc (L2 := [_, _, _, _, _, _]) rfl rfl rfl ?_
                  refine r_iconst rfl ?_
                  refine r_istore (L2 := [_, _, _, _, _, _]) rfl rfl ?_
                  refine r_goto rfl ?_
                  refine r_iinc (L2 := [_, _, _, _, _, _]) rfl rfl rfl ?_
                  refine r_goto rfl ?_
                  rw [nI_1, nI_1]
                  first
                    | (rw [if_pos hc] at f4
                       have po := pot_lt hx (nx2_lt (m := m) (x := x) hy) (up2 hy hc)
                       exact ih (t + 1) 0 (c + 1) _ _ _ (by omega) (by omega) fr x1 y1 f4 (by omega))
                    | (rw [if_neg hc] at f4
                       exact ih (t + 1) (u + 1) c x y _ (by omega) (by omega) fr x1 (rw_of y1 (chB_f hc)) f4 (by omega))
              · first | exact absurd h42 (by decide) | exact absurd (by decide) h42
  refine r_iload_n rfl rfl ?_
  refine r_aload_n rfl rfl ?_
  refine r_getC rfl rfl (by decide) (by decide) rfl ?_
  refine r_callS rfl (by decide) (ct_X3_spell rfl ha2) rfl rfl (am_cnt rfl) ?_
  refine r_iload_n rfl rfl ?_
  refine r_aload_n rfl rfl ?_
  refine r_getC rfl rfl (by decide) (by decide) rfl ?_
  refine r_callS rfl (by decide) (ct_X3_spell rfl hb2) rfl rfl (am_cnt rfl) ?_
  refine r_iconst rfl ?_
  refine r_istore_n (L2 := [_, _, _, _, _, _]) rfl rfl ?_
  refine r_iconst rfl ?_
  refine r_istore (L2 := [_, _, _, _, _, _]) rfl rfl ?_
  refine r_iconst rfl ?_
  refine r_istore (L2 := [_, _, _, _, _, _]) rfl rfl ?_
  refine loop 2901 0 0 0 (dgt a) (dgt b) _ ⟨?_, by omega⟩ (by omega) (frM_uI (frM_uI (frM_uI (frM_uI (frM_uI (frM_uI frM_0 (by decide)) (by decide)) (by decide)) (by decide)) (by decide)) (by decide)) (fun i hi => ?_) (spell_rw hb) rfl (by omega)
  · have := cnt_n (p := fun k => smZ m (dgt a) (dgt b) < smZ m (ru (k / 27)) (ru (k % 27))) 729
    unfold potN
    omega
  · rw [gI_uI_ne (by decide), gI_uI_ne (by decide), gI_uI_ne (by decide)]
    exact spell_rw ha i hi
def mxZ (f : Nat → Int) : Nat → Int
  | 0 => f 0
  | n + 1 => if f (n + 1) < mxZ f n then mxZ f n else f (n + 1)
def ms9 (m : Pay) (s d : Nat) : Int := m (s / 3) (s % 3) (d / 3) (d % 3)
def msb (m : Pay) : Int := sumZ (fun s => mxZ (ms9 m s) 8) 9
theorem mxZ_ok {f : Nat → Int} (h : ∀ d, d < 9 → okZ (f d)) : ∀ n, n < 9 → okZ (mxZ f n)
  | 0, _ => h 0 (by omega)
  | n + 1, hn => by
    unfold mxZ
    split
    · exact mxZ_ok h n (by omega)
    · exact h _ hn
theorem d3e (s : Nat) (hs : s < 9) : nI s / 3 = nI (s / 3) := pk_div (d := 3) (by omega) (by decide) (by decide)
theorem m3e (s : Nat) (hs : s < 9) : nI s - nI s / 3 * 3 = nI (s % 3) := pk_rem (d := 3) (by omega) (by decide) (by decide)
theorem ct_X3_mostSeeingBoth {d : Nat} {S : am_S} {m : Pay} (hM : MW m S) (hB : Bd m) : am_CT (d + 2) iX3_mostSeeingBoth [.ref 86] S (some (.long (iJ (msb m)))) (S) := by
  refine am_CT_in mmX3_mostSeeingBoth rfl rfl rfl ?_
  have loop : ∀ (k : Nat) (s : Nat) (v4 : Option Value) (v5 : Option Value) (v6 : Option Value), (s ≤ 9) → (9 < s + k) → am_Ex (am_Call am_MT (d + 1)) mmX3_mostSeeingBoth none (fun r1 G1 => r1 = (some (.long (iJ (msb m)))) ∧ G1 = am_H (S)) (fun _ _ _ _ _ _ => False) 4 [some (.ref 86), some (.long (iJ (sumZ (fun s => mxZ (ms9 m s) 8) s))), none, some (.int (nI s)), v4, v5, v6] [] (am_H (S)) 0 0 := by
    intro k
    induction k with
    | zero =>
      intro s v4 v5 v6 q1 q2
      omega
    | succ k ih =>
      intro s v4 v5 v6 q1 q2
      have loop2 : ∀ (k2 : Nat) (d2 : Nat), (s < 9) → (1 ≤ d2 ∧ d2 ≤ 9) → (9 < d2 + k2) → am_Ex (am_Call am_MT (d + 1)) mmX3_mostSeeingBoth none (fun r1 G1 => r1 = (some (.long (iJ (msb m)))) ∧ G1 = am_H (S)) (fun _ _ _ _ _ _ => False) 27 [some (.ref 86), some (.long (iJ (sumZ (fun s => mxZ (ms9 m s) 8) s))), none, some (.int (nI s)), some (.long (iJ (mxZ (ms9 m s) (d2 - 1)))), none, some (.int (nI d2))] [] (am_H (S)) 0 0 := by
        intro k2
        induction k2 with
        | zero =>
          intro d2 q0 p1 p2
          omega
        | succ k2 ih2 =>
          intro d2 q0 p1 p2
          have ok : ∀ d, d < 9 → okZ (ms9 m s d) := fun d hd => okZ_of (by have := hB (s / 3) (s % 3) (d / 3) (d % 3) (by omega) (by omega) (by omega) (by omega); unfold ms9; omega)
          have nx : d2 < 9 → (if iJ (ms9 m s d2) < iJ (mxZ (ms9 m s) (d2 - 1)) then iJ (mxZ (ms9 m s) (d2 - 1)) else iJ (ms9 m s d2)) = iJ (mxZ (ms9 m s) (d2 + 1 - 1)) := fun hd => by
            obtain ⟨i, rfl⟩ : ∃ i, d2 = i + 1 := ⟨d2 - 1, by omega⟩
            have a := iJ_lt (ok (i + 1) hd) (mxZ_ok ok i (by omega))
            show (if iJ (ms9 m s (i + 1)) < iJ (mxZ (ms9 m s) i) then iJ (mxZ (ms9 m s) i) else iJ (ms9 m s (i + 1))) = iJ (if ms9 m s (i + 1) < mxZ (ms9 m s) i then mxZ (ms9 m s) i else ms9 m s (i + 1))
            by_cases h : ms9 m s (i + 1) < mxZ (ms9 m s) i
            · rw [if_pos h, if_pos (a.mpr h)]
            · rw [if_neg h, if_neg (fun z => h (a.mp z))]
          refine r_iload rfl rfl ?_
          refine r_bipush rfl ?_
          refine r_icmp_ge rfl (fun h31 => ?_) (fun h31 => ?_)
          · have hd : d2 = 9 := by
              rw [show (9 : Int32) = nI 9 from rfl, nI_leI (by omega) (by omega)] at h31
              omega
            subst hd
            refine r_lload_n rfl rfl ?_
            refine r_lload rfl rfl ?_
            refine r_ladd rfl ?_
            refine r_lstore_n (L2 := [_, _, _, _, _, _, _]) rfl rfl ?_
            refine r_iinc (L2 := [_, _, _, _, _, _, _]) rfl rfl rfl ?_
            refine r_goto rfl ?_
            rw [iJ_add, nI_1]
            exact ih (s + 1) _ _ _ (by omega) (by omega)
          · have hd : d2 < 9 := by
              rw [show (9 : Int32) = nI 9 from rfl, nI_leI (by omega) (by omega)] at h31
              omega
            refine r_lload rfl rfl ?_
            refine r_aload_n rfl rfl ?_
            refine r_iload_n rfl rfl ?_
            refine r_iconst rfl ?_
            refine r_idiv rfl (by decide) ?_
            rw [d3e s q0]
            refine r_iload_n rfl rfl ?_
            refine r_iconst rfl ?_
            refine r_irem rfl (by decide) ?_
            rw [m3e s q0]
            refine r_iload rfl rfl ?_
            refine r_iconst rfl ?_
            refine r_idiv rfl (by decide) ?_
            rw [d3e d2 (by omega)]
            refine r_iload rfl rfl ?_
            refine r_iconst rfl ?_
            refine r_irem rfl (by decide) ?_
            rw [m3e d2 (by omega)]
            refine r_callV rfl (ct_X3_worth hM (by omega) (by omega) (by omega) (by omega)) rfl rfl rfl (by decide) rfl (am_cnt rfl) ?_
            rw [show m (s / 3) (s % 3) (d2 / 3) (d2 % 3) = ms9 m s d2 from rfl]
            refine r_maxl rfl (am_cnt rfl) ?_
            rw [nx (by omega)]
            refine r_lstore (L2 := [_, _, _, _, _, _, _]) rfl rfl ?_
            refine r_iinc (L2 := [_, _, _, _, _, _, _]) rfl rfl rfl ?_
            refine r_goto rfl ?_
            rw [nI_1]
            exact ih2 (d2 + 1) q0 (by omega) (by omega)
      refine r_iload_n rfl rfl ?_
      refine r_bipush rfl ?_
      refine r_icmp_ge rfl (fun h7 => ?_) (fun h7 => ?_)
      · have hs : s = 9 := by
          rw [show (9 : Int32) = nI 9 from rfl, nI_leI (by omega) (by omega)] at h7
          omega
        subst hs
        refine r_lload_n rfl rfl ?_
        refine r_lret rfl ?_
        exact ⟨rfl, rfl⟩
      · have hs : s < 9 := by
          rw [show (9 : Int32) = nI 9 from rfl, nI_leI (by omega) (by omega)] at h7
          omega
        refine r_aload_n rfl rfl ?_
        refine r_iload_n rfl rfl ?_
        refine r_iconst rfl ?_
        refine r_idiv rfl (by decide) ?_
        rw [d3e s hs]
        refine r_iload_n rfl rfl ?_
        refine r_iconst rfl ?_
        refine r_irem rfl (by decide) ?_
        rw [m3e s hs]
        refine r_iconst rfl ?_
        refine r_iconst rfl ?_
        refine r_callV rfl (ct_X3_worth (a := 0) (b := 0) hM (by omega) (by omega) (by omega) (by omega)) rfl rfl rfl (by decide) rfl (am_cnt rfl) ?_
        refine r_lstore (L2 := [_, _, _, _, _, _, _]) rfl rfl ?_
        refine r_iconst rfl ?_
        refine r_istore (L2 := [_, _, _, _, _, _, _]) rfl rfl ?_
        exact loop2 9 1 hs (by omega) (by omega)
  refine r_lconst rfl ?_
  refine r_lstore_n (L2 := [_, _, _, _, _, _, _]) rfl rfl ?_
  refine r_iconst rfl ?_
  refine r_istore_n (L2 := [_, _, _, _, _, _, _]) rfl rfl ?_
  exact loop 10 0 none none none (by omega) (by omega)
/-- what is told, n of it -/
def telL (S : am_S) (f : Nat → Int64) : Nat → am_S
  | 0 => uI S 74 1 0
  | n + 1 => tAdd (telL S f n) (f n) n
theorem telL_ne {S : am_S} {f : Nat → Int64} {a : Nat} (h : a ≠ 74) : ∀ n, gI (telL S f n) a = gI S a
  | 0 => by rw [telL, gI_uI_ne h]
  | n + 1 => by rw [telL, tAdd, gI_uI_ne h, gI_uJ_f, telL_ne h n]
theorem telL_n {S : am_S} {f : Nat → Int64} : ∀ n, gI (telL S f n) 74 1 = nI n
  | 0 => by
    rw [telL, gI_uI, if_pos rfl, if_pos rfl]
    rfl
  | n + 1 => by rw [telL, tAdd_n]
def bst6 (m : Pay) (a : Nat) : Int64 := (nI (if a < 3 then ru (pbI m 26) a else bo m (pbI m 26) (a - 3))).toInt64
theorem ct_X10_two {d : Nat} {S : am_S} {m : Pay} (hM : MW m S) (hB : Bd m) : am_CE (d + 5) iX10_two [.ref 0] S (some (.long (iJ (pbv m (pbI m 26))))) (fun T => ∃ T1, FrM S T1 ∧ T = telL T1 (bst6 m) 6) := by
  refine am_CE_in mmX10_two rfl rfl rfl ?_
  have loop2 : ∀ (k2 : Nat) (j : Nat) (T1 : am_S), (j ≤ 3) → (3 < j + k2) → (FrM S T1) → (∀ a, a < 3 → gI T1 94 a = nI (ru (pbI m 26) a) ∧ gI T1 95 a = nI (bo m (pbI m 26) a)) → am_Ex (am_Call am_MT (d + 4)) mmX10_two none (fun r1 G1 => r1 = (some (.long (iJ (pbv m (pbI m 26))))) ∧ ∃ S2, G1 = am_H S2 ∧ (fun T => ∃ T1, FrM S T1 ∧ T = telL T1 (bst6 m) 6) S2) (fun _ _ _ _ _ _ => False) 47 [some (.ref 0), some (.long (iJ (pbv m (pbI m 26)))), none, some (.int (nI j))] [] (am_H (telL T1 (bst6 m) (3 + j))) 0 0 := by
    intro k2
    induction k2 with
    | zero =>
      intro j T1 q1 q2 f1 f2
      omega
    | succ k2 ih2 =>
      intro j T1 q1 q2 f1 f2
      have bj : (nI j).toNatClampNeg = j := nI_clamp (by omega)
      have s1 : 0 ≤ nI j := nI_pos' (by omega)
      have v1 : j < 3 → (gI (telL T1 (bst6 m) (3 + j)) 95 (nI j).toNatClampNeg).toInt64 = bst6 m (3 + j) := fun h => by
        rw [bj, telL_ne (by decide), (f2 j h).2, bst6, if_neg (by omega), show 3 + j - 3 = j by omega]
      refine r_iload_n rfl rfl ?_
      refine r_iconst rfl ?_
      refine r_icmp_ge rfl (fun h49 => ?_) (fun h49 => ?_)
      · have hj : j = 3 := by
          rw [show (3 : Int32) = nI 3 from rfl, nI_leI (by omega) (by omega)] at h49
          omega
        subst hj
        refine r_lload_n rfl rfl ?_
        refine r_lret rfl ?_
        exact ⟨rfl, _, rfl, T1, f1, rfl⟩
      · have hj : j < 3 := by
          rw [show (3 : Int32) = nI 3 from rfl, nI_leI (by omega) (by omega)] at h49
          omega
        have s2 : nI j < Int32.ofNat 3 := nI_lt (by omega) (by omega)
        refine r_aload_n rfl rfl ?_
        refine r_getC rfl rfl (by decide) (by decide) rfl ?_
        refine r_aload_n rfl rfl ?_
        refine r_getC rfl rfl (by decide) (by decide) rfl ?_
        refine r_getC rfl rfl (by decide) (by decide) rfl ?_
        refine r_iload_n rfl rfl ?_
        refine r_iald rfl rfl (by first | decide | assumption) (by first | exact s1 | exact s2) (by first | exact s1 | exact s2) ?_
        refine r_i2l rfl ?_
        rw [v1 hj]
        refine r_callV rfl (ct_X7_add (telL_n (3 + j)) (by omega)) rfl rfl rfl (by decide) rfl (am_cnt rfl) ?_
        refine r_iinc (L2 := [_, _, _, _]) rfl rfl rfl ?_
        refine r_goto rfl ?_
        rw [nI_1]
        exact ih2 (j + 1) T1 (by omega) (by omega) f1 f2
  have loop : ∀ (k : Nat) (j : Nat) (T1 : am_S), (j ≤ 3) → (3 < j + k) → (FrM S T1) → (∀ a, a < 3 → gI T1 94 a = nI (ru (pbI m 26) a) ∧ gI T1 95 a = nI (bo m (pbI m 26) a)) → am_Ex (am_Call am_MT (d + 4)) mmX10_two none (fun r1 G1 => r1 = (some (.long (iJ (pbv m (pbI m 26))))) ∧ ∃ S2, G1 = am_H S2 ∧ (fun T => ∃ T1, FrM S T1 ∧ T = telL T1 (bst6 m) 6) S2) (fun _ _ _ _ _ _ => False) 17 [some (.ref 0), some (.long (iJ (pbv m (pbI m 26)))), none, some (.int (nI j))] [] (am_H (telL T1 (bst6 m) j)) 0 0 := by
    intro k
    induction k with
    | zero =>
      intro j T1 q1 q2 f1 f2
      omega
    | succ k ih =>
      intro j T1 q1 q2 f1 f2
      have bj : (nI j).toNatClampNeg = j := nI_clamp (by omega)
      have s1 : 0 ≤ nI j := nI_pos' (by omega)
      have v1 : j < 3 → (gI (telL T1 (bst6 m) j) 94 (nI j).toNatClampNeg).toInt64 = bst6 m j := fun h => by
        rw [bj, telL_ne (by decide), (f2 j h).1, bst6, if_pos h]
      refine r_iload_n rfl rfl ?_
      refine r_iconst rfl ?_
      refine r_icmp_ge rfl (fun h19 => ?_) (fun h19 => ?_)
      · have hj : j = 3 := by
          rw [show (3 : Int32) = nI 3 from rfl, nI_leI (by omega) (by omega)] at h19
          omega
        subst hj
        refine r_iconst rfl ?_
        refine r_istore_n (L2 := [_, _, _, _]) rfl rfl ?_
        exact loop2 4 0 T1 (by omega) (by omega) f1 f2
      · have hj : j < 3 := by
          rw [show (3 : Int32) = nI 3 from rfl, nI_leI (by omega) (by omega)] at h19
          omega
        have s2 : nI j < Int32.ofNat 3 := nI_lt (by omega) (by omega)
        refine r_aload_n rfl rfl ?_
        refine r_getC rfl rfl (by decide) (by decide) rfl ?_
        refine r_aload_n rfl rfl ?_
        refine r_getC rfl rfl (by decide) (by decide) rfl ?_
        refine r_getC rfl rfl (by decide) (by decide) rfl ?_
        refine r_iload_n rfl rfl ?_
        refine r_iald rfl rfl (by first | decide | assumption) (by first | exact s1 | exact s2) (by first | exact s1 | exact s2) ?_
        refine r_i2l rfl ?_
        rw [v1 hj]
        refine r_callV rfl (ct_X7_add (telL_n j) (by omega)) rfl rfl rfl (by decide) rfl (am_cnt rfl) ?_
        refine r_iinc (L2 := [_, _, _, _]) rfl rfl rfl ?_
        refine r_goto rfl ?_
        rw [nI_1]
        exact ih (j + 1) T1 (by omega) (by omega) f1 f2
  refine r_aload_n rfl rfl ?_
  refine r_getC rfl rfl (by decide) (by decide) rfl ?_
  refine r_callVE rfl (ct_X3_playBest hM hB) rfl rfl rfl (by decide) rfl (am_cnt rfl) (fun T hT => ?_)
  refine r_lstore_n (L2 := [_, _, _, _]) rfl rfl ?_
  refine r_aload_n rfl rfl ?_
  refine r_getC rfl rfl (by decide) (by decide) rfl ?_
  refine r_callV rfl ct_X7_clear rfl rfl rfl (by decide) rfl (am_cnt rfl) ?_
  refine r_iconst rfl ?_
  refine r_istore_n (L2 := [_, _, _, _]) rfl rfl ?_
  exact loop 4 0 T (by omega) (by omega) hT.1 hT.2
theorem ct_X10_stand_no {d : Nat} {S : am_S} {a b : Int32} (h : ¬ (okRule a ∧ okRule b)) : am_CT (d + 6) iX10_stand [.ref 0, .int a, .int b] S (some (.int (-1))) (S) := by
  refine am_CT_in mmX10_stand rfl rfl rfl ?_
  refine r_iload_n rfl rfl ?_
  refine r_callS rfl (by decide) ct_X10_isRuleNumber rfl rfl (am_cnt rfl) ?_
  refine r_if_eq rfl (fun h4 => ?_) (fun h4 => ?_)
  · refine r_iconst rfl ?_
    refine r_iret rfl rfl ?_
    exact ⟨rfl, rfl⟩
  · refine r_iload_n rfl rfl ?_
    refine r_callS rfl (by decide) ct_X10_isRuleNumber rfl rfl (am_cnt rfl) ?_
    refine r_if_ne rfl (fun h11 => ?_) (fun h11 => ?_)
    · exfalso
      simp only [b01_eq0] at *
      grind
    · refine r_iconst rfl ?_
      refine r_iret rfl rfl ?_
      exact ⟨rfl, rfl⟩
theorem ct_X10_stand_ok {d : Nat} {S : am_S} {m : Pay} {a b : Nat} (hM : MW m S) (hB : Bd m) (ha : Dig (dgt a)) (hb : Dig (dgt b)) (ha2 : a < 1000) (hb2 : b < 1000) (oa : okRule (nI a)) (ob : okRule (nI b)) : am_CE (d + 6) iX10_stand [.ref 0, .int (nI a), .int (nI b)] S (some (.int (nI (plyR m a b).2.2))) (fun T => ∃ T1, FrM S T1 ∧ T = t3 T1 (rnoI (plyR m a b).1).toInt64 (rnoI (plyR m a b).2.1).toInt64 (iJ (smZ m (plyR m a b).1 (plyR m a b).2.1))) := by
  refine am_CE_in mmX10_stand rfl rfl rfl ?_
  refine r_iload_n rfl rfl ?_
  refine r_callS rfl (by decide) ct_X10_isRuleNumber rfl rfl (am_cnt rfl) ?_
  refine r_if_eq rfl (fun h4 => ?_) (fun h4 => ?_)
  · exact absurd (oa) (b01_eq0.mp h4)
  · refine r_iload_n rfl rfl ?_
    refine r_callS rfl (by decide) ct_X10_isRuleNumber rfl rfl (am_cnt rfl) ?_
    refine r_if_ne rfl (fun h11 => ?_) (fun h11 => ?_)
    · refine r_aload_n rfl rfl ?_
      refine r_getC rfl rfl (by decide) (by decide) rfl ?_
      refine r_iload_n rfl rfl ?_
      refine r_iload_n rfl rfl ?_
      refine r_callVE rfl (ct_X3_playByTurns hM hB ha hb ha2 hb2) rfl rfl rfl (by decide) rfl (am_cnt rfl) (fun T hT => ?_)
      refine r_istore_n (L2 := [_, _, _, _]) rfl rfl ?_
      refine r_aload_n rfl rfl ?_
      refine r_getC rfl rfl (by decide) (by decide) rfl ?_
      refine r_aload_n rfl rfl ?_
      refine r_getC rfl rfl (by decide) (by decide) rfl ?_
      refine r_getC rfl rfl (by decide) (by decide) rfl ?_
      refine r_callS rfl (by decide) (ct_X3_ruleNumber rfl hT.2.1) rfl rfl (am_cnt rfl) ?_
      refine r_i2l rfl ?_
      refine r_aload_n rfl rfl ?_
      refine r_getC rfl rfl (by decide) (by decide) rfl ?_
      refine r_getC rfl rfl (by decide) (by decide) rfl ?_
      refine r_callS rfl (by decide) (ct_X3_ruleNumber rfl hT.2.2) rfl rfl (am_cnt rfl) ?_
      refine r_i2l rfl ?_
      refine r_aload_n rfl rfl ?_
      refine r_getC rfl rfl (by decide) (by decide) rfl ?_
      refine r_callV rfl (ct_X3_sum (mw_fr hT.1 hM) hT.2.1 hT.2.2) rfl rfl rfl (by decide) rfl (am_cnt rfl) ?_
      refine r_callV rfl ct_X7_tellThree rfl rfl rfl (by decide) rfl (am_cnt rfl) ?_
      refine r_iload_n rfl rfl ?_
      refine r_iret rfl rfl ?_
      exact ⟨rfl, _, rfl, T, hT.1, rfl⟩
    · exact absurd (ob) (b01_eq0.mp h11)
theorem ct_X10_gap {d : Nat} {S : am_S} {m : Pay} (hM : MW m S) (hB : Bd m) : am_CE (d + 6) iX10_gap [.ref 0] S (some (.long (iJ (pbv m (pbI m 26)) - iJ (smZ m (plyR m 0 0).1 (plyR m 0 0).2.1)))) (fun T => ∃ T1, FrM S T1 ∧ T = t1 T1 (iJ (msb m))) := by
  refine am_CE_in mmX10_gap rfl rfl rfl ?_
  have z0 : Dig (dgt 0) := fun i hi => by unfold dgt; split; omega; split <;> omega
  have fs : ∀ T1 x, FrM S T1 → MW m (t1 T1 x) := fun T1 x h i j a b hi hj ha hb => by
    rw [t1_ne (by decide), t1_ne (by decide)]
    exact mw_fr h hM i j a b hi hj ha hb
  refine r_aload_n rfl rfl ?_
  refine r_getC rfl rfl (by decide) (by decide) rfl ?_
  refine r_callVE rfl (ct_X3_playBest hM hB) rfl rfl rfl (by decide) rfl (am_cnt rfl) (fun T hT => ?_)
  refine r_lstore_n (L2 := [_, _, _]) rfl rfl ?_
  refine r_aload_n rfl rfl ?_
  refine r_getC rfl rfl (by decide) (by decide) rfl ?_
  refine r_iconst rfl ?_
  refine r_iconst rfl ?_
  refine r_callVE rfl (ct_X3_playByTurns (a := 0) (b := 0) (mw_fr hT.1 hM) hB z0 z0 (by omega) (by omega)) rfl rfl rfl (by decide) rfl (am_cnt rfl) (fun U hU => ?_)
  refine r_pop rfl rfl ?_
  refine r_aload_n rfl rfl ?_
  refine r_getC rfl rfl (by decide) (by decide) rfl ?_
  refine r_aload_n rfl rfl ?_
  refine r_getC rfl rfl (by decide) (by decide) rfl ?_
  refine r_callV rfl (ct_X3_mostSeeingBoth (mw_fr (frM_t hT.1 hU.1) hM) hB) rfl rfl rfl (by decide) rfl (am_cnt rfl) ?_
  refine r_callV rfl ct_X7_tellOne rfl rfl rfl (by decide) rfl (am_cnt rfl) ?_
  refine r_lload_n rfl rfl ?_
  refine r_aload_n rfl rfl ?_
  refine r_getC rfl rfl (by decide) (by decide) rfl ?_
  refine r_callV rfl (ct_X3_sum (fs U _ (frM_t hT.1 hU.1)) (fun i hi => by rw [t1_ne (by decide)]; exact hU.2.1 i hi) (fun i hi => by rw [t1_ne (by decide)]; exact hU.2.2 i hi)) rfl rfl rfl (by decide) rfl (am_cnt rfl) ?_
  refine r_lsub rfl ?_
  refine r_lret rfl ?_
  exact ⟨rfl, _, rfl, U, frM_t hT.1 hU.1, rfl⟩
/-- what is paid stands in its row: v at each place -/
theorem ct_X3_tabulate {d : Nat} {S : am_S} {n : Nat} {v : Nat → Int32} (hn : gI S 88 1 = nI n) (hb : n ≤ 40) (hv : ∀ g sg at_, at_ < 81 → sg 0 = nI (at_ / 27) → sg 1 = nI (at_ / 9 % 3) → sg 2 = nI (at_ / 3 % 3) → sg 3 = nI (at_ % 3) → fVal (gI S 89) sg 4 g n = v at_) : am_CE (d + 4) iX3_tabulate [.ref 86] S (none) (fun T => (∀ o, (o < 90 ∨ 96 < o ∨ (92 ≤ o ∧ o ≤ 95)) → gI T o = gI S o) ∧ (∀ o, gJ T o = gJ S o) ∧ (∀ c, gR T c = gR S c) ∧ ∀ a, a < 81 → gI T 91 a = v a) := by
  refine am_CE_in mmX3_tabulate rfl rfl rfl ?_
  have loop : ∀ (k : Nat) (j : Nat) (T : am_S), (j ≤ 81) → (81 < j + k) → ((∀ o, (o < 90 ∨ 96 < o ∨ (92 ≤ o ∧ o ≤ 95)) → gI T o = gI S o) ∧ (∀ o, gJ T o = gJ S o) ∧ (∀ c, gR T c = gR S c)) → (∀ a, a < j → gI T 91 a = v a) → am_Ex (am_Call am_MT (d + 3)) mmX3_tabulate none (fun r1 G1 => r1 = (none) ∧ ∃ S2, G1 = am_H S2 ∧ (fun T => (∀ o, (o < 90 ∨ 96 < o ∨ (92 ≤ o ∧ o ≤ 95)) → gI T o = gI S o) ∧ (∀ o, gJ T o = gJ S o) ∧ (∀ c, gR T c = gR S c) ∧ ∀ a, a < 81 → gI T 91 a = v a) S2) (fun _ _ _ _ _ _ => False) 2 [some (.ref 86), some (.int (nI j))] [] (am_H (T)) 0 0 := by
    intro k
    induction k with
    | zero =>
      intro j T q1 q2 f1 f2
      omega
    | succ k ih =>
      intro j T q1 q2 f1 f2
      have bj : (nI j).toNatClampNeg = j := nI_clamp (by omega)
      have s1 : 0 ≤ nI j := nI_pos' (by omega)
      have e1 : nI j / 27 = nI (j / 27) := pk_div (d := 27) (by omega) (by decide) (by decide)
      have e2 : nI j / 9 = nI (j / 9) := pk_div (d := 9) (by omega) (by decide) (by decide)
      have e3 : nI (j / 9) - nI (j / 9) / 3 * 3 = nI (j / 9 % 3) := pk_rem (d := 3) (by omega) (by decide) (by decide)
      have e4 : nI j / 3 = nI (j / 3) := pk_div (d := 3) (by omega) (by decide) (by decide)
      have e5 : nI (j / 3) - nI (j / 3) / 3 * 3 = nI (j / 3 % 3) := pk_rem (d := 3) (by omega) (by decide) (by decide)
      have e6 : nI j - nI j / 3 * 3 = nI (j % 3) := pk_rem (d := 3) (by omega) (by decide) (by decide)
      have n8 : ∀ a b c e, gI (uI (uI (uI (uI T 96 0 a) 96 1 b) 96 2 c) 96 3 e) 88 1 = nI n := fun a b c e => by
        rw [gI_uI_ne (by decide), gI_uI_ne (by decide), gI_uI_ne (by decide), gI_uI_ne (by decide), f1.1 88 (by decide), hn]
      have vv : j < 81 → ∀ g, fVal (gI (uI (uI (uI (uI T 96 0 (nI (j / 27))) 96 1 (nI (j / 9 % 3))) 96 2 (nI (j / 3 % 3))) 96 3 (nI (j % 3))) 89) (gI (uI (uI (uI (uI T 96 0 (nI (j / 27))) 96 1 (nI (j / 9 % 3))) 96 2 (nI (j / 3 % 3))) 96 3 (nI (j % 3))) 96) 4 g n = v j := fun hj g => by
        rw [show gI (uI (uI (uI (uI T 96 0 (nI (j / 27))) 96 1 (nI (j / 9 % 3))) 96 2 (nI (j / 3 % 3))) 96 3 (nI (j % 3))) 89 = gI S 89 from by rw [gI_uI_ne (by decide), gI_uI_ne (by decide), gI_uI_ne (by decide), gI_uI_ne (by decide), f1.1 89 (by decide)]]
        exact hv g _ j hj rfl rfl rfl rfl
      refine r_iload_n rfl rfl ?_
      refine r_aload_n rfl rfl ?_
      refine r_getC rfl rfl (by decide) (by decide) rfl ?_
      refine r_alen rfl rfl (by decide) ?_
      refine r_icmp_ge rfl (fun h8 => ?_) (fun h8 => ?_)
      · have hj : j = 81 := by
          rw [show Int32.ofNat 81 = nI 81 from rfl, nI_leI (by omega) (by omega)] at h8
          omega
        subst hj
        refine r_vret rfl ?_
        exact ⟨rfl, _, rfl, f1.1, f1.2.1, f1.2.2, f2⟩
      · have hj : j < 81 := by
          rw [show Int32.ofNat 81 = nI 81 from rfl, nI_leI (by omega) (by omega)] at h8
          omega
        have s2 : nI j < Int32.ofNat 81 := nI_lt (by omega) (by omega)
        refine r_aload_n rfl rfl ?_
        refine r_getC rfl rfl (by decide) (by decide) rfl ?_
        refine r_iconst rfl ?_
        refine r_iload_n rfl rfl ?_
        refine r_bipush rfl ?_
        refine r_idiv rfl (by decide) ?_
        rw [e1]
        refine r_iast rfl rfl (by first | decide | assumption) (by first | decide | exact s1 | exact s2) (by first | decide | exact s1 | exact s2) ?_
        refine r_aload_n rfl rfl ?_
        refine r_getC rfl rfl (by decide) (by decide) rfl ?_
        refine r_iconst rfl ?_
        refine r_iload_n rfl rfl ?_
        refine r_bipush rfl ?_
        refine r_idiv rfl (by decide) ?_
        rw [e2]
        refine r_iconst rfl ?_
        refine r_irem rfl (by decide) ?_
        rw [e3]
        refine r_iast rfl rfl (by first | decide | assumption) (by first | decide | exact s1 | exact s2) (by first | decide | exact s1 | exact s2) ?_
        refine r_aload_n rfl rfl ?_
        refine r_getC rfl rfl (by decide) (by decide) rfl ?_
        refine r_iconst rfl ?_
        refine r_iload_n rfl rfl ?_
        refine r_iconst rfl ?_
        refine r_idiv rfl (by decide) ?_
        rw [e4]
        refine r_iconst rfl ?_
        refine r_irem rfl (by decide) ?_
        rw [e5]
        refine r_iast rfl rfl (by first | decide | assumption) (by first | decide | exact s1 | exact s2) (by first | decide | exact s1 | exact s2) ?_
        refine r_aload_n rfl rfl ?_
        refine r_getC rfl rfl (by decide) (by decide) rfl ?_
        refine r_iconst rfl ?_
        refine r_iload_n rfl rfl ?_
        refine r_iconst rfl ?_
        refine r_irem rfl (by decide) ?_
        rw [e6]
        refine r_iast rfl rfl (by first | decide | assumption) (by first | decide | exact s1 | exact s2) (by first | decide | exact s1 | exact s2) ?_
        refine r_aload_n rfl rfl ?_
        refine r_getC rfl rfl (by decide) (by decide) rfl ?_
        refine r_iload_n rfl rfl ?_
        refine r_aload_n rfl rfl ?_
        refine r_getC rfl rfl (by decide) (by decide) rfl ?_
        refine r_aload_n rfl rfl ?_
        refine r_getC rfl rfl (by decide) (by decide) rfl ?_
        refine r_callV rfl (ct_X1_value (o := 88) (q := 96) (w := 4) (n := n) ⟨rfl, rfl, rfl⟩ (n8 _ _ _ _) hb rfl (by decide) (by decide)) rfl rfl rfl (by decide) rfl (am_cnt rfl) ?_
        rw [show (2 : Int32).toNatClampNeg = 2 from rfl, show (3 : Int32).toNatClampNeg = 3 from rfl, show (0 : Int32).toNatClampNeg = 0 from rfl, show (1 : Int32).toNatClampNeg = 1 from rfl, vv hj]
        refine r_iast rfl rfl (by first | decide | assumption) (by first | decide | exact s1 | exact s2) (by first | decide | exact s1 | exact s2) ?_
        refine r_iinc (L2 := [_, _]) rfl rfl rfl ?_
        refine r_goto rfl ?_
        rw [bj, nI_1]
        refine ih (j + 1) _ (by omega) (by omega) ⟨fun o ho => ?_, fun o => ?_, fun c => ?_⟩ (fun a ha => ?_)
        · rw [gI_uI_ne (by omega), gI_rI_ne (by omega), gI_uI_ne (by omega), gI_uI_ne (by omega), gI_uI_ne (by omega), gI_uI_ne (by omega), f1.1 o ho]
        · exact f1.2.1 o
        · exact f1.2.2 c
        · rw [gI_uI, if_pos rfl]
          by_cases hab : a = j
          · rw [if_pos hab, hab]
          · rw [if_neg hab, gI_rI_ne (by decide), gI_uI_ne (by decide), gI_uI_ne (by decide), gI_uI_ne (by decide), gI_uI_ne (by decide)]
            exact f2 a (by omega)
  refine r_iconst rfl ?_
  refine r_istore_n (L2 := [_, _]) rfl rfl ?_
  exact loop 82 0 S (by omega) (by omega) ⟨fun _ _ => rfl, fun _ => rfl, fun _ => rfl⟩ (fun a ha => by omega)
