/-! cost, waits, swings, sheet, sign, crossed of the reference. -/
theorem maxI_le {x y z : Int32} : maxI x y ≤ z ↔ x ≤ z ∧ y ≤ z := by unfold maxI; grind
theorem maxI_or (x y : Int32) : maxI x y = x ∨ maxI x y = y := by unfold maxI; grind
/-- the greatest of f 0 .. f (n - 1) and of 0, told by what it does -/
def TopOf (f : Nat → Int32) (n : Nat) (v : Int32) : Prop := (0 ≤ v ∧ ∀ j, j < n → f j ≤ v) ∧ (v = 0 ∨ ∃ j, j < n ∧ v = f j)
theorem topOf_uniq {f : Nat → Int32} {n : Nat} {v w : Int32} (hv : TopOf f n v) (hw : TopOf f n w) : v = w := by
  have a : ∀ v w, TopOf f n v → TopOf f n w → v ≤ w := fun v w hv hw => by
    rcases hv.2 with h | ⟨j, hj, h⟩
    · rw [h]; exact hw.1.1
    · rw [h]; exact hw.1.2 j hj
  have h1 := a v w hv hw
  have h2 := a w v hw hv
  grind
theorem topI_of (f : Nat → Int32) : ∀ n, TopOf f n (topI f 0 n)
  | 0 => ⟨⟨by show (0 : Int32) ≤ 0; decide, fun j hj => absurd hj (Nat.not_lt_zero j)⟩, Or.inl rfl⟩
  | n + 1 => by
    obtain ⟨⟨a, b⟩, c⟩ := topI_of f n
    rw [topI, Nat.zero_add]
    have m1 : topI f 0 n ≤ maxI (topI f 0 n) (f n) ∧ f n ≤ maxI (topI f 0 n) (f n) := maxI_le.mp (by grind)
    refine ⟨⟨by have := m1.1; grind, fun j hj => ?_⟩, ?_⟩
    · by_cases h : j = n
      · rw [h]; exact m1.2
      · have := b j (by omega); have := m1.1; grind
    · rcases maxI_or (topI f 0 n) (f n) with h | h
      · rw [h]
        rcases c with c | ⟨j, hj, c⟩
        · exact Or.inl c
        · exact Or.inr ⟨j, by omega, c⟩
      · rw [h]
        exact Or.inr ⟨n, by omega, rfl⟩
def topD (f : Nat → Int32) (nw : Nat) : Nat → Int32
  | 0 => 0
  | j + 1 => maxI (topD f nw j) (f (nw - j))
theorem topD_of (f : Nat → Int32) (nw : Nat) : ∀ n, n ≤ nw + 1 → TopOf (fun j => f (nw - j)) n (topD f nw n)
  | 0, _ => ⟨⟨by show (0 : Int32) ≤ 0; decide, fun j hj => absurd hj (Nat.not_lt_zero j)⟩, Or.inl rfl⟩
  | n + 1, hn => by
    obtain ⟨⟨a, b⟩, c⟩ := topD_of f nw n (by omega)
    rw [topD]
    have m1 : topD f nw n ≤ maxI (topD f nw n) (f (nw - n)) ∧ f (nw - n) ≤ maxI (topD f nw n) (f (nw - n)) := maxI_le.mp (by grind)
    refine ⟨⟨by have := m1.1; grind, fun j hj => ?_⟩, ?_⟩
    · by_cases h : j = n
      · rw [h]; exact m1.2
      · have := b j (by omega); have := m1.1; grind
    · rcases maxI_or (topD f nw n) (f (nw - n)) with h | h
      · rw [h]
        rcases c with c | ⟨j, hj, c⟩
        · exact Or.inl c
        · exact Or.inr ⟨j, by omega, c⟩
      · rw [h]
        exact Or.inr ⟨n, by omega, rfl⟩
theorem topD_top (f : Nat → Int32) (nw : Nat) : topD f nw (nw + 1) = topI f 0 (nw + 1) := by
  obtain ⟨⟨a, b⟩, c⟩ := topD_of f nw (nw + 1) (Nat.le_refl _)
  refine topOf_uniq (f := f) (n := nw + 1) ⟨⟨a, fun j hj => ?_⟩, ?_⟩ (topI_of f (nw + 1))
  · have h1 : f (nw - (nw - j)) ≤ topD f nw (nw + 1) := b (nw - j) (by omega)
    rw [show nw - (nw - j) = j by omega] at h1
    exact h1
  · rcases c with c | ⟨j, hj, c⟩
    · exact Or.inl c
    · exact Or.inr ⟨nw - j, by omega, c⟩
/-- how many from the top on, so far -/
def rrN (p : Nat → Prop) [DecidablePred p] (nw : Nat) : Nat → Nat
  | 0 => 0
  | j + 1 => if p (nw - j) ∧ rrN p nw j = j then j + 1 else rrN p nw j
theorem rrN_ok (p : Nat → Prop) [DecidablePred p] (nw : Nat) : ∀ j, j ≤ nw + 1 → rrN p nw j ≤ j ∧ (∀ i, nw + 1 - rrN p nw j ≤ i → i < nw + 1 → p i) ∧ (rrN p nw j = j ∨ ¬ p (nw - rrN p nw j))
  | 0, _ => ⟨Nat.le_refl _, fun i a b => by rw [rrN] at a; omega, Or.inl rfl⟩
  | j + 1, hj => by
    obtain ⟨a, b, c⟩ := rrN_ok p nw j (by omega)
    by_cases h : p (nw - j) ∧ rrN p nw j = j
    · have e : rrN p nw (j + 1) = j + 1 := if_pos h
      rw [e]
      refine ⟨Nat.le_refl _, fun i x y => ?_, Or.inl rfl⟩
      by_cases hi : i = nw - j
      · rw [hi]; exact h.1
      · exact b i (by omega) y
    · have e : rrN p nw (j + 1) = rrN p nw j := if_neg h
      rw [e]
      refine ⟨by omega, b, ?_⟩
      rcases c with c | c
      · right
        intro z
        rw [c] at z
        exact h ⟨z, c⟩
      · exact Or.inr c
theorem rrN_set (p : Nat → Prop) [DecidablePred p] (nw : Nat) : rrN p nw (nw + 1) = trun p (nw + 1) := by
  obtain ⟨a, b, c⟩ := rrN_ok p nw (nw + 1) (Nat.le_refl _)
  refine (trun_all p (rrN p nw (nw + 1)) (nw + 1) a b ?_).symm
  rcases c with c | c
  · exact Or.inl c
  · exact Or.inr (by rw [show nw + 1 - rrN p nw (nw + 1) - 1 = nw - rrN p nw (nw + 1) by omega]; exact c)
theorem ct_X11_cost {d : Nat} {S T : am_S} {nw : Nat} (hT : uI S 97 0 0 = T) (hnw : gI T 97 23 = nI nw) (hw : nw ≤ 199) : am_CT (d + 2) iX11_cost [.ref 97] S (some (.int (sumI (fun j => offM T (j + 1)) nw))) (e2 T (setI (fun m => gI T 109 m = gI T 97 10) nw).toInt64 (topI (offM T) 0 (nw + 1)).toInt64) := by
  refine am_CT_in mmX11_cost rfl rfl rfl ?_
  have t2 : ∀ a b, gI (e2 T a b) 97 23 = nI nw := fun a b => by rw [e2_97 (by decide), hnw]
  have cn : ∀ {d : Nat} a b, am_CT (d + 1) iX11_costNow [.ref 97] (e2 T a b) (some (.int (sumI (fun j => offM T (j + 1)) nw))) (e2 T a b) := fun {d} a b => by
    have e := ct_X11_costNow (d := d) (S := e2 T a b) (t2 a b) hw
    rw [sumI_congr (g := fun j => offM T (j + 1)) nw (fun j _ => by unfold offM; rw [e2_ne (by decide), e2_97 (by decide)])] at e
    exact e
  have c971 : gI (uI T 97 1 0) 97 23 = nI nw := by rw [gI_uI, if_pos rfl, if_neg (by decide), hnw]
  have loop : ∀ (k : Nat) (j : Nat), (j ≤ nw + 1) → (nw + 1 < j + k) → am_Ex (am_Call am_MT (d + 1)) mmX11_cost none (fun r1 G1 => r1 = (some (.int (sumI (fun j => offM T (j + 1)) nw))) ∧ G1 = am_H (e2 T (setI (fun m => gI T 109 m = gI T 97 10) nw).toInt64 (topI (offM T) 0 (nw + 1)).toInt64)) (fun _ _ _ _ _ _ => False) 19 [some (.ref 97), some (.int (nI (nw + 1 - rrN (fun m => gI T 109 m = gI T 97 10) nw j))), some (.int (topD (offM T) nw j)), some (.int (nI (nw + 1 - j) + (-1)))] [] (am_H (T)) 0 0 := by
    intro k
    induction k with
    | zero =>
      intro j q1 q2
      omega
    | succ k ih =>
      intro j q1 q2
      have rk := rrN_ok (fun m => gI T 109 m = gI T 97 10) nw j q1
      by_cases hj : j = nw + 1
      · have er := rrN_set (fun m => gI T 109 m = gI T 97 10) nw
        have et := topD_top (offM T) nw
        have tl := trun_le (fun m => gI T 109 m = gI T 97 10) (nw + 1)
        rw [hj, er, et, Nat.sub_self]
        by_cases h0 : trun (fun m => gI T 109 m = gI T 97 10) (nw + 1) = 0
        · have es : setI (fun m => gI T 109 m = gI T 97 10) nw = -1 := if_pos h0
          have w1 : nI nw < nI (nw + 1 - trun (fun m => gI T 109 m = gI T 97 10) (nw + 1)) := nI_lt (by omega) (by omega)
          rw [es]
          refine r_iload_n rfl rfl ?_
          refine r_if_lt rfl (fun h20 => ?_) (fun h20 => ?_)
          · refine r_aload_n rfl rfl ?_
            refine r_iconst rfl ?_
            refine r_putI rfl rfl (by decide) (by decide) rfl ?_
            refine r_aload_n rfl rfl ?_
            refine r_iload_n rfl rfl ?_
            refine r_aload_n rfl rfl ?_
            refine r_getI rfl rfl (by decide) (by decide) rfl ?_
            rw [c971]
            refine r_icmp_le rfl (fun h85 => ?_) (fun h85 => ?_)
            · exact absurd w1 (Int32.not_lt.mpr h85)
            · refine r_ldc2_w rfl ?_
              refine r_goto rfl ?_
              refine r_callV rfl (ct_X11_enters u971 (by decide)) rfl rfl rfl (by decide) rfl (am_cnt rfl) ?_
              refine r_aload_n rfl rfl ?_
              refine r_iload_n rfl rfl ?_
              refine r_i2l rfl ?_
              refine r_callV rfl (ct_X11_enters eAdd_n (by decide)) rfl rfl rfl (by decide) rfl (am_cnt rfl) ?_
              refine r_aload_n rfl rfl ?_
              refine r_callV rfl (cn _ _) rfl rfl rfl (by decide) rfl (am_cnt rfl) ?_
              refine r_iret rfl rfl ?_
              exact ⟨rfl, rfl⟩
          · exact absurd h20 (by decide)
        · have es : setI (fun m => gI T 109 m = gI T 97 10) nw = nI (nw + 1 - trun (fun m => gI T 109 m = gI T 97 10) (nw + 1)) := if_neg h0
          have w1 : nI (nw + 1 - trun (fun m => gI T 109 m = gI T 97 10) (nw + 1)) ≤ nI nw := nI_le (by omega) (by omega)
          rw [es]
          refine r_iload_n rfl rfl ?_
          refine r_if_lt rfl (fun h20 => ?_) (fun h20 => ?_)
          · refine r_aload_n rfl rfl ?_
            refine r_iconst rfl ?_
            refine r_putI rfl rfl (by decide) (by decide) rfl ?_
            refine r_aload_n rfl rfl ?_
            refine r_iload_n rfl rfl ?_
            refine r_aload_n rfl rfl ?_
            refine r_getI rfl rfl (by decide) (by decide) rfl ?_
            rw [c971]
            refine r_icmp_le rfl (fun h85 => ?_) (fun h85 => ?_)
            · refine r_iload_n rfl rfl ?_
              refine r_i2l rfl ?_
              refine r_callV rfl (ct_X11_enters u971 (by decide)) rfl rfl rfl (by decide) rfl (am_cnt rfl) ?_
              refine r_aload_n rfl rfl ?_
              refine r_iload_n rfl rfl ?_
              refine r_i2l rfl ?_
              refine r_callV rfl (ct_X11_enters eAdd_n (by decide)) rfl rfl rfl (by decide) rfl (am_cnt rfl) ?_
              refine r_aload_n rfl rfl ?_
              refine r_callV rfl (cn _ _) rfl rfl rfl (by decide) rfl (am_cnt rfl) ?_
              refine r_iret rfl rfl ?_
              exact ⟨rfl, rfl⟩
            · exact absurd w1 h85
          · exact absurd h20 (by decide)
      · rw [nI_m1 (by omega), show nw + 1 - j - 1 = nw - j by omega]
        have bj : (nI (nw - j)).toNatClampNeg = nw - j := nI_clamp (by omega)
        have s1 : 0 ≤ nI (nw - j) := nI_pos' (by omega)
        have s2 : nI (nw - j) < Int32.ofNat 201 := nI_lt (by omega) (by omega)
        have nx : ∀ x, x = nI (nw + 1 - rrN (fun m => gI T 109 m = gI T 97 10) nw (j + 1)) → am_Ex (am_Call am_MT (d + 1)) mmX11_cost none (fun r1 G1 => r1 = (some (.int (sumI (fun j => offM T (j + 1)) nw))) ∧ G1 = am_H (e2 T (setI (fun m => gI T 109 m = gI T 97 10) nw).toInt64 (topI (offM T) 0 (nw + 1)).toInt64)) (fun _ _ _ _ _ _ => False) 19 [some (.ref 97), some (.int x), some (.int (maxI (topD (offM T) nw j) (offM T (nw - j)))), some (.int (nI (nw - j) + (-1)))] [] (am_H T) 0 0 := fun x hx => by
          have e := ih (j + 1) (by omega) (by omega)
          rw [show nw + 1 - (j + 1) = nw - j by omega] at e
          rw [hx]
          exact e
        have r1 : rrN (fun m => gI T 109 m = gI T 97 10) nw (j + 1) = if gI T 109 (nw - j) = gI T 97 10 ∧ rrN (fun m => gI T 109 m = gI T 97 10) nw j = j then j + 1 else rrN (fun m => gI T 109 m = gI T 97 10) nw j := rfl
        refine r_iload_n rfl rfl ?_
        refine r_if_lt rfl (fun h20 => ?_) (fun h20 => ?_)
        · exact absurd h20 (nI_neg (by omega))
        · refine r_aload_n rfl rfl ?_
          refine r_getC rfl rfl (by decide) (by decide) rfl ?_
          refine r_iload_n rfl rfl ?_
          refine r_iald rfl rfl (by first | decide | assumption) (by first | exact s1 | exact s2) (by first | exact s1 | exact s2) ?_
          refine r_aload_n rfl rfl ?_
          refine r_getI rfl rfl (by decide) (by decide) rfl ?_
          rw [bj]
          refine r_icmp_ne rfl (fun h33 => ?_) (fun h33 => ?_)
          · rw [if_neg (fun z => h33 z.1)] at r1
            refine r_iload_n rfl rfl ?_
            refine r_istore_n (L2 := [_, _, _, _]) rfl rfl ?_
            refine r_iload_n rfl rfl ?_
            refine r_aload_n rfl rfl ?_
            refine r_getC rfl rfl (by decide) (by decide) rfl ?_
            refine r_iload_n rfl rfl ?_
            refine r_iald rfl rfl (by first | decide | assumption) (by first | exact s1 | exact s2) (by first | exact s1 | exact s2) ?_
            refine r_aload_n rfl rfl ?_
            refine r_getI rfl rfl (by decide) (by decide) rfl ?_
            refine r_isub rfl ?_
            refine r_abs rfl (am_cnt rfl) ?_
            refine r_max rfl (am_cnt rfl) ?_
            refine r_istore_n (L2 := [_, _, _, _]) rfl rfl ?_
            refine r_iinc (L2 := [_, _, _, _]) rfl rfl rfl ?_
            refine r_goto rfl ?_
            rw [bj]
            exact nx _ (by (rw [r1]) <;> (congr 1; omega))
          · refine r_iload_n rfl rfl ?_
            refine r_iload_n rfl rfl ?_
            refine r_iconst rfl ?_
            refine r_iadd rfl ?_
            rw [nI_1]
            refine r_icmp_ne rfl (fun h40 => ?_) (fun h40 => ?_)
            · rw [nI_eq (by omega) (by omega)] at h40
              rw [if_neg (fun z => h40 (by omega))] at r1
              refine r_iload_n rfl rfl ?_
              refine r_istore_n (L2 := [_, _, _, _]) rfl rfl ?_
              refine r_iload_n rfl rfl ?_
              refine r_aload_n rfl rfl ?_
              refine r_getC rfl rfl (by decide) (by decide) rfl ?_
              refine r_iload_n rfl rfl ?_
              refine r_iald rfl rfl (by first | decide | assumption) (by first | exact s1 | exact s2) (by first | exact s1 | exact s2) ?_
              refine r_aload_n rfl rfl ?_
              refine r_getI rfl rfl (by decide) (by decide) rfl ?_
              refine r_isub rfl ?_
              refine r_abs rfl (am_cnt rfl) ?_
              refine r_max rfl (am_cnt rfl) ?_
              refine r_istore_n (L2 := [_, _, _, _]) rfl rfl ?_
              refine r_iinc (L2 := [_, _, _, _]) rfl rfl rfl ?_
              refine r_goto rfl ?_
              rw [bj]
              exact nx _ (by (rw [r1]) <;> (congr 1; omega))
            · rw [nI_eq (by omega) (by omega)] at h40
              rw [if_pos ⟨h33, by omega⟩] at r1
              refine r_iload_n rfl rfl ?_
              refine r_goto rfl ?_
              refine r_istore_n (L2 := [_, _, _, _]) rfl rfl ?_
              refine r_iload_n rfl rfl ?_
              refine r_aload_n rfl rfl ?_
              refine r_getC rfl rfl (by decide) (by decide) rfl ?_
              refine r_iload_n rfl rfl ?_
              refine r_iald rfl rfl (by first | decide | assumption) (by first | exact s1 | exact s2) (by first | exact s1 | exact s2) ?_
              refine r_aload_n rfl rfl ?_
              refine r_getI rfl rfl (by decide) (by decide) rfl ?_
              refine r_isub rfl ?_
              refine r_abs rfl (am_cnt rfl) ?_
              refine r_max rfl (am_cnt rfl) ?_
              refine r_istore_n (L2 := [_, _, _, _]) rfl rfl ?_
              refine r_iinc (L2 := [_, _, _, _]) rfl rfl rfl ?_
              refine r_goto rfl ?_
              rw [bj]
              exact nx _ (by (rw [r1]) <;> (congr 1; omega))
  refine r_aload_n rfl rfl ?_
  refine r_iconst rfl ?_
  refine r_putI rfl rfl (by decide) (by decide) rfl ?_
  try rw [hT]
  refine r_aload_n rfl rfl ?_
  refine r_getI rfl rfl (by decide) (by decide) rfl ?_
  rw [hnw]
  refine r_iconst rfl ?_
  refine r_iadd rfl ?_
  refine r_istore_n (L2 := [_, _, _, _]) rfl rfl ?_
  refine r_iconst rfl ?_
  refine r_istore_n (L2 := [_, _, _, _]) rfl rfl ?_
  refine r_aload_n rfl rfl ?_
  refine r_getI rfl rfl (by decide) (by decide) rfl ?_
  rw [hnw]
  refine r_istore_n (L2 := [_, _, _, _]) rfl rfl ?_
  have e := loop (nw + 2) 0 (by omega) (by omega)
  rw [Nat.sub_zero, nI_m1 (by omega), show nw + 1 - 1 = nw by omega] at e
  rw [nI_1]
  exact e
theorem ct_X11_waits_no {d : Nat} {S T : am_S} {p : Int32} (hT : uI S 97 0 0 = T) (hz : 0 ≤ gI T 97 3) (h : ¬ hasM T p) : am_CT (d + 3) iX11_waits [.ref 97, .int p] S (some (.int (-1))) (T) := by
  refine am_CT_in mmX11_waits rfl rfl rfl ?_
  refine r_aload_n rfl rfl ?_
  refine r_iconst rfl ?_
  refine r_putI rfl rfl (by decide) (by decide) rfl ?_
  try rw [hT]
  refine r_aload_n rfl rfl ?_
  refine r_iload_n rfl rfl ?_
  refine r_callV rfl (ct_X11_isPerson hz) rfl rfl rfl (by decide) rfl (am_cnt rfl) ?_
  refine r_if_ne rfl (fun h10 => ?_) (fun h10 => ?_)
  · exact (h10 (b01_f (h))).elim
  · refine r_iconst rfl ?_
    refine r_iret rfl rfl ?_
    exact ⟨rfl, rfl⟩
/-- all, most, run, against: told by signs -/
abbrev agn (a b : Int32) : Prop := (0 < a ∧ b < 0) ∨ (a < 0 ∧ 0 < b)
def wtI (f g : Nat → Int32) : Nat → Int32 × Int32 × Int32 × Int32
  | 0 => (0, 0, 0, 0)
  | n + 1 => ((wtI f g n).1 + (if f n = 0 then 1 else 0), maxI (wtI f g n).2.1 (if f n = 0 then (wtI f g n).2.2.1 + 1 else 0), (if f n = 0 then (wtI f g n).2.2.1 + 1 else 0), (wtI f g n).2.2.2 + (if agn (f n) (g n) then 1 else 0))
def wtM (S : am_S) (n p nw : Nat) : Int32 × Int32 × Int32 × Int32 := wtI (fun m => gI S 110 (gAt 0 p m)) (fun m => sumI (fun i => gI S 110 (gAt 0 i m)) n) nw
theorem wtM_s {S : am_S} {n p j : Nat} : wtM S n p (j + 1) = ((wtM S n p j).1 + (if gI S 110 (gAt 0 p j) = 0 then 1 else 0), maxI (wtM S n p j).2.1 (if gI S 110 (gAt 0 p j) = 0 then (wtM S n p j).2.2.1 + 1 else 0), (if gI S 110 (gAt 0 p j) = 0 then (wtM S n p j).2.2.1 + 1 else 0), (wtM S n p j).2.2.2 + (if agn (gI S 110 (gAt 0 p j)) (sumI (fun i => gI S 110 (gAt 0 i j)) n) then 1 else 0)) := rfl
theorem ct_X11_waits_ok {d : Nat} {S T : am_S} {n nw p : Nat} (hT : uI S 97 0 0 = T) (hn : gI T 97 3 = nI n) (hz : n ≤ 6) (hnw : gI T 97 23 = nI nw) (hw : nw ≤ 199) (hp : p < n) : am_CT (d + 3) iX11_waits [.ref 97, .int (nI p)] S (some (.int (wtM T n p nw).1)) (e2 T (wtM T n p nw).2.1.toInt64 (wtM T n p nw).2.2.2.toInt64) := by
  refine am_CT_in mmX11_waits rfl rfl rfl ?_
  have c3 := hasM_nI hn hz hp
  have loop : ∀ (k : Nat) (j : Nat) (a : Int32) (b : Int32) (c : Int32) (e : Int32) (v7 : Option Value) (v8 : Option Value) (v9 : Option Value), (j ≤ nw) → (nw < j + k) → ((a, b, c, e) = wtM T n p j) → am_Ex (am_Call am_MT (d + 2)) mmX11_waits none (fun r1 G1 => r1 = (some (.int (wtM T n p nw).1)) ∧ G1 = am_H (e2 T (wtM T n p nw).2.1.toInt64 (wtM T n p nw).2.2.2.toInt64)) (fun _ _ _ _ _ _ => False) 28 [some (.ref 97), some (.int (nI p)), some (.int a), some (.int c), some (.int b), some (.int e), some (.int (nI j)), v7, v8, v9] [] (am_H (T)) 0 0 := by
    intro k
    induction k with
    | zero =>
      intro j a b c e v7 v8 v9 h1 h2 h3
      omega
    | succ k ih =>
      intro j a b c e v7 v8 v9 h1 h2 h3
      have loop2 : ∀ (k2 : Nat) (q : Nat), (j < nw) → (q ≤ n) → (n < q + k2) → am_Ex (am_Call am_MT (d + 2)) mmX11_waits none (fun r1 G1 => r1 = (some (.int (wtM T n p nw).1)) ∧ G1 = am_H (e2 T (wtM T n p nw).2.1.toInt64 (wtM T n p nw).2.2.2.toInt64)) (fun _ _ _ _ _ _ => False) 53 [some (.ref 97), some (.int (nI p)), some (.int a), some (.int c), some (.int b), some (.int e), some (.int (nI j)), some (.int (gI T 110 (gAt 0 p j))), some (.int (sumI (fun i => gI T 110 (gAt 0 i j)) q)), some (.int (nI q))] [] (am_H (T)) 0 0 := by
        intro k2
        induction k2 with
        | zero =>
          intro q q0 q1 q2
          omega
        | succ k2 ih2 =>
          intro q q0 q1 q2
          have nx : ∀ x y z w, (x, y, z, w) = wtM T n p (j + 1) → q = n → am_Ex (am_Call am_MT (d + 2)) mmX11_waits none (fun r1 G1 => r1 = (some (.int (wtM T n p nw).1)) ∧ G1 = am_H (e2 T (wtM T n p nw).2.1.toInt64 (wtM T n p nw).2.2.2.toInt64)) (fun _ _ _ _ _ _ => False) 28 [some (.ref 97), some (.int (nI p)), some (.int x), some (.int z), some (.int y), some (.int w), some (.int (nI (j + 1))), some (.int (gI T 110 (gAt 0 p j))), some (.int (sumI (fun i => gI T 110 (gAt 0 i j)) q)), some (.int (nI q))] [] (am_H T) 0 0 := fun x y z w h hq => ih (j + 1) x y z w _ _ _ (by omega) (by omega) h
          refine r_iload rfl rfl ?_
          refine r_aload_n rfl rfl ?_
          refine r_getI rfl rfl (by decide) (by decide) rfl ?_
          rw [hn]
          refine r_icmp_ge rfl (fun h59 => ?_) (fun h59 => ?_)
          · rw [nI_leI (by omega) (by omega)] at h59
            obtain rfl : q = n := by omega
            refine r_iload_n rfl rfl ?_
            refine r_iload rfl rfl ?_
            refine r_if_ne rfl (fun h85 => ?_) (fun h85 => ?_)
            · refine r_iconst rfl ?_
              refine r_callS rfl (by decide) (ct_X11_flag (by simp)) rfl rfl (am_cnt rfl) ?_
              refine r_iadd rfl ?_
              refine r_istore_n (L2 := [_, _, _, _, _, _, _, _, _, _]) rfl rfl ?_
              refine r_iload rfl rfl ?_
              refine r_if_ne rfl (fun h100 => ?_) (fun h100 => ?_)
              · refine r_iconst rfl ?_
                refine r_istore_n (L2 := [_, _, _, _, _, _, _, _, _, _]) rfl rfl ?_
                refine r_iload rfl rfl ?_
                refine r_iload_n rfl rfl ?_
                refine r_max rfl (am_cnt rfl) ?_
                refine r_istore (L2 := [_, _, _, _, _, _, _, _, _, _]) rfl rfl ?_
                refine r_iload rfl rfl ?_
                refine r_iload rfl rfl ?_
                refine r_if_le rfl (fun h123 => ?_) (fun h123 => ?_)
                · refine r_iload rfl rfl ?_
                  refine r_if_ge rfl (fun h133 => ?_) (fun h133 => ?_)
                  · refine r_iconst rfl ?_
                    refine r_callS rfl (by decide) (ct_X11_flag (by simp)) rfl rfl (am_cnt rfl) ?_
                    refine r_iadd rfl ?_
                    refine r_istore (L2 := [_, _, _, _, _, _, _, _, _, _]) rfl rfl ?_
                    refine r_iinc (L2 := [_, _, _, _, _, _, _, _, _, _]) rfl rfl rfl ?_
                    refine r_goto rfl ?_
                    rw [nI_1]
                    refine nx _ _ _ _ ?_ rfl
                    rw [wtM_s, ← h3]
                    simp only
                    grind [maxI]
                  · refine r_iload rfl rfl ?_
                    refine r_if_le rfl (fun h138 => ?_) (fun h138 => ?_)
                    · refine r_iconst rfl ?_
                      refine r_callS rfl (by decide) (ct_X11_flag (by simp)) rfl rfl (am_cnt rfl) ?_
                      refine r_iadd rfl ?_
                      refine r_istore (L2 := [_, _, _, _, _, _, _, _, _, _]) rfl rfl ?_
                      refine r_iinc (L2 := [_, _, _, _, _, _, _, _, _, _]) rfl rfl rfl ?_
                      refine r_goto rfl ?_
                      rw [nI_1]
                      refine nx _ _ _ _ ?_ rfl
                      rw [wtM_s, ← h3]
                      simp only
                      grind [maxI]
                    · refine r_iconst rfl ?_
                      refine r_goto rfl ?_
                      refine r_callS rfl (by decide) (ct_X11_flag (by simp)) rfl rfl (am_cnt rfl) ?_
                      refine r_iadd rfl ?_
                      refine r_istore (L2 := [_, _, _, _, _, _, _, _, _, _]) rfl rfl ?_
                      refine r_iinc (L2 := [_, _, _, _, _, _, _, _, _, _]) rfl rfl rfl ?_
                      refine r_goto rfl ?_
                      rw [nI_1]
                      refine nx _ _ _ _ ?_ rfl
                      rw [wtM_s, ← h3]
                      simp only
                      grind [maxI]
                · refine r_iload rfl rfl ?_
                  refine r_if_lt rfl (fun h128 => ?_) (fun h128 => ?_)
                  · refine r_iconst rfl ?_
                    refine r_goto rfl ?_
                    refine r_callS rfl (by decide) (ct_X11_flag (by simp)) rfl rfl (am_cnt rfl) ?_
                    refine r_iadd rfl ?_
                    refine r_istore (L2 := [_, _, _, _, _, _, _, _, _, _]) rfl rfl ?_
                    refine r_iinc (L2 := [_, _, _, _, _, _, _, _, _, _]) rfl rfl rfl ?_
                    refine r_goto rfl ?_
                    rw [nI_1]
                    refine nx _ _ _ _ ?_ rfl
                    rw [wtM_s, ← h3]
                    simp only
                    grind [maxI]
                  · refine r_iload rfl rfl ?_
                    refine r_if_ge rfl (fun h133 => ?_) (fun h133 => ?_)
                    · refine r_iconst rfl ?_
                      refine r_callS rfl (by decide) (ct_X11_flag (by simp)) rfl rfl (am_cnt rfl) ?_
                      refine r_iadd rfl ?_
                      refine r_istore (L2 := [_, _, _, _, _, _, _, _, _, _]) rfl rfl ?_
                      refine r_iinc (L2 := [_, _, _, _, _, _, _, _, _, _]) rfl rfl rfl ?_
                      refine r_goto rfl ?_
                      rw [nI_1]
                      refine nx _ _ _ _ ?_ rfl
                      rw [wtM_s, ← h3]
                      simp only
                      grind [maxI]
                    · refine r_iload rfl rfl ?_
                      refine r_if_le rfl (fun h138 => ?_) (fun h138 => ?_)
                      · refine r_iconst rfl ?_
                        refine r_callS rfl (by decide) (ct_X11_flag (by simp)) rfl rfl (am_cnt rfl) ?_
                        refine r_iadd rfl ?_
                        refine r_istore (L2 := [_, _, _, _, _, _, _, _, _, _]) rfl rfl ?_
                        refine r_iinc (L2 := [_, _, _, _, _, _, _, _, _, _]) rfl rfl rfl ?_
                        refine r_goto rfl ?_
                        rw [nI_1]
                        refine nx _ _ _ _ ?_ rfl
                        rw [wtM_s, ← h3]
                        simp only
                        grind [maxI]
                      · refine r_iconst rfl ?_
                        refine r_goto rfl ?_
                        refine r_callS rfl (by decide) (ct_X11_flag (by simp)) rfl rfl (am_cnt rfl) ?_
                        refine r_iadd rfl ?_
                        refine r_istore (L2 := [_, _, _, _, _, _, _, _, _, _]) rfl rfl ?_
                        refine r_iinc (L2 := [_, _, _, _, _, _, _, _, _, _]) rfl rfl rfl ?_
                        refine r_goto rfl ?_
                        rw [nI_1]
                        refine nx _ _ _ _ ?_ rfl
                        rw [wtM_s, ← h3]
                        simp only
                        grind [maxI]
              · refine r_iload_n rfl rfl ?_
                refine r_iconst rfl ?_
                refine r_iadd rfl ?_
                refine r_goto rfl ?_
                refine r_istore_n (L2 := [_, _, _, _, _, _, _, _, _, _]) rfl rfl ?_
                refine r_iload rfl rfl ?_
                refine r_iload_n rfl rfl ?_
                refine r_max rfl (am_cnt rfl) ?_
                refine r_istore (L2 := [_, _, _, _, _, _, _, _, _, _]) rfl rfl ?_
                refine r_iload rfl rfl ?_
                refine r_iload rfl rfl ?_
                refine r_if_le rfl (fun h123 => ?_) (fun h123 => ?_)
                · refine r_iload rfl rfl ?_
                  refine r_if_ge rfl (fun h133 => ?_) (fun h133 => ?_)
                  · refine r_iconst rfl ?_
                    refine r_callS rfl (by decide) (ct_X11_flag (by simp)) rfl rfl (am_cnt rfl) ?_
                    refine r_iadd rfl ?_
                    refine r_istore (L2 := [_, _, _, _, _, _, _, _, _, _]) rfl rfl ?_
                    refine r_iinc (L2 := [_, _, _, _, _, _, _, _, _, _]) rfl rfl rfl ?_
                    refine r_goto rfl ?_
                    rw [nI_1]
                    refine nx _ _ _ _ ?_ rfl
                    rw [wtM_s, ← h3]
                    simp only
                    grind [maxI]
                  · refine r_iload rfl rfl ?_
                    refine r_if_le rfl (fun h138 => ?_) (fun h138 => ?_)
                    · refine r_iconst rfl ?_
                      refine r_callS rfl (by decide) (ct_X11_flag (by simp)) rfl rfl (am_cnt rfl) ?_
                      refine r_iadd rfl ?_
                      refine r_istore (L2 := [_, _, _, _, _, _, _, _, _, _]) rfl rfl ?_
                      refine r_iinc (L2 := [_, _, _, _, _, _, _, _, _, _]) rfl rfl rfl ?_
                      refine r_goto rfl ?_
                      rw [nI_1]
                      refine nx _ _ _ _ ?_ rfl
                      rw [wtM_s, ← h3]
                      simp only
                      grind [maxI]
                    · refine r_iconst rfl ?_
                      refine r_goto rfl ?_
                      refine r_callS rfl (by decide) (ct_X11_flag (by simp)) rfl rfl (am_cnt rfl) ?_
                      refine r_iadd rfl ?_
                      refine r_istore (L2 := [_, _, _, _, _, _, _, _, _, _]) rfl rfl ?_
                      refine r_iinc (L2 := [_, _, _, _, _, _, _, _, _, _]) rfl rfl rfl ?_
                      refine r_goto rfl ?_
                      rw [nI_1]
                      refine nx _ _ _ _ ?_ rfl
                      rw [wtM_s, ← h3]
                      simp only
                      grind [maxI]
                · refine r_iload rfl rfl ?_
                  refine r_if_lt rfl (fun h128 => ?_) (fun h128 => ?_)
                  · refine r_iconst rfl ?_
                    refine r_goto rfl ?_
                    refine r_callS rfl (by decide) (ct_X11_flag (by simp)) rfl rfl (am_cnt rfl) ?_
                    refine r_iadd rfl ?_
                    refine r_istore (L2 := [_, _, _, _, _, _, _, _, _, _]) rfl rfl ?_
                    refine r_iinc (L2 := [_, _, _, _, _, _, _, _, _, _]) rfl rfl rfl ?_
                    refine r_goto rfl ?_
                    rw [nI_1]
                    refine nx _ _ _ _ ?_ rfl
                    rw [wtM_s, ← h3]
                    simp only
                    grind [maxI]
                  · refine r_iload rfl rfl ?_
                    refine r_if_ge rfl (fun h133 => ?_) (fun h133 => ?_)
                    · refine r_iconst rfl ?_
                      refine r_callS rfl (by decide) (ct_X11_flag (by simp)) rfl rfl (am_cnt rfl) ?_
                      refine r_iadd rfl ?_
                      refine r_istore (L2 := [_, _, _, _, _, _, _, _, _, _]) rfl rfl ?_
                      refine r_iinc (L2 := [_, _, _, _, _, _, _, _, _, _]) rfl rfl rfl ?_
                      refine r_goto rfl ?_
                      rw [nI_1]
                      refine nx _ _ _ _ ?_ rfl
                      rw [wtM_s, ← h3]
                      simp only
                      grind [maxI]
                    · refine r_iload rfl rfl ?_
                      refine r_if_le rfl (fun h138 => ?_) (fun h138 => ?_)
                      · refine r_iconst rfl ?_
                        refine r_callS rfl (by decide) (ct_X11_flag (by simp)) rfl rfl (am_cnt rfl) ?_
                        refine r_iadd rfl ?_
                        refine r_istore (L2 := [_, _, _, _, _, _, _, _, _, _]) rfl rfl ?_
                        refine r_iinc (L2 := [_, _, _, _, _, _, _, _, _, _]) rfl rfl rfl ?_
                        refine r_goto rfl ?_
                        rw [nI_1]
                        refine nx _ _ _ _ ?_ rfl
                        rw [wtM_s, ← h3]
                        simp only
                        grind [maxI]
                      · refine r_iconst rfl ?_
                        refine r_goto rfl ?_
                        refine r_callS rfl (by decide) (ct_X11_flag (by simp)) rfl rfl (am_cnt rfl) ?_
                        refine r_iadd rfl ?_
                        refine r_istore (L2 := [_, _, _, _, _, _, _, _, _, _]) rfl rfl ?_
                        refine r_iinc (L2 := [_, _, _, _, _, _, _, _, _, _]) rfl rfl rfl ?_
                        refine r_goto rfl ?_
                        rw [nI_1]
                        refine nx _ _ _ _ ?_ rfl
                        rw [wtM_s, ← h3]
                        simp only
                        grind [maxI]
            · refine r_iconst rfl ?_
              refine r_goto rfl ?_
              refine r_callS rfl (by decide) (ct_X11_flag (by simp)) rfl rfl (am_cnt rfl) ?_
              refine r_iadd rfl ?_
              refine r_istore_n (L2 := [_, _, _, _, _, _, _, _, _, _]) rfl rfl ?_
              refine r_iload rfl rfl ?_
              refine r_if_ne rfl (fun h100 => ?_) (fun h100 => ?_)
              · refine r_iconst rfl ?_
                refine r_istore_n (L2 := [_, _, _, _, _, _, _, _, _, _]) rfl rfl ?_
                refine r_iload rfl rfl ?_
                refine r_iload_n rfl rfl ?_
                refine r_max rfl (am_cnt rfl) ?_
                refine r_istore (L2 := [_, _, _, _, _, _, _, _, _, _]) rfl rfl ?_
                refine r_iload rfl rfl ?_
                refine r_iload rfl rfl ?_
                refine r_if_le rfl (fun h123 => ?_) (fun h123 => ?_)
                · refine r_iload rfl rfl ?_
                  refine r_if_ge rfl (fun h133 => ?_) (fun h133 => ?_)
                  · refine r_iconst rfl ?_
                    refine r_callS rfl (by decide) (ct_X11_flag (by simp)) rfl rfl (am_cnt rfl) ?_
                    refine r_iadd rfl ?_
                    refine r_istore (L2 := [_, _, _, _, _, _, _, _, _, _]) rfl rfl ?_
                    refine r_iinc (L2 := [_, _, _, _, _, _, _, _, _, _]) rfl rfl rfl ?_
                    refine r_goto rfl ?_
                    rw [nI_1]
                    refine nx _ _ _ _ ?_ rfl
                    rw [wtM_s, ← h3]
                    simp only
                    grind [maxI]
                  · refine r_iload rfl rfl ?_
                    refine r_if_le rfl (fun h138 => ?_) (fun h138 => ?_)
                    · refine r_iconst rfl ?_
                      refine r_callS rfl (by decide) (ct_X11_flag (by simp)) rfl rfl (am_cnt rfl) ?_
                      refine r_iadd rfl ?_
                      refine r_istore (L2 := [_, _, _, _, _, _, _, _, _, _]) rfl rfl ?_
                      refine r_iinc (L2 := [_, _, _, _, _, _, _, _, _, _]) rfl rfl rfl ?_
                      refine r_goto rfl ?_
                      rw [nI_1]
                      refine nx _ _ _ _ ?_ rfl
                      rw [wtM_s, ← h3]
                      simp only
                      grind [maxI]
                    · refine r_iconst rfl ?_
                      refine r_goto rfl ?_
                      refine r_callS rfl (by decide) (ct_X11_flag (by simp)) rfl rfl (am_cnt rfl) ?_
                      refine r_iadd rfl ?_
                      refine r_istore (L2 := [_, _, _, _, _, _, _, _, _, _]) rfl rfl ?_
                      refine r_iinc (L2 := [_, _, _, _, _, _, _, _, _, _]) rfl rfl rfl ?_
                      refine r_goto rfl ?_
                      rw [nI_1]
                      refine nx _ _ _ _ ?_ rfl
                      rw [wtM_s, ← h3]
                      simp only
                      grind [maxI]
                · refine r_iload rfl rfl ?_
                  refine r_if_lt rfl (fun h128 => ?_) (fun h128 => ?_)
                  · refine r_iconst rfl ?_
                    refine r_goto rfl ?_
                    refine r_callS rfl (by decide) (ct_X11_flag (by simp)) rfl rfl (am_cnt rfl) ?_
                    refine r_iadd rfl ?_
                    refine r_istore (L2 := [_, _, _, _, _, _, _, _, _, _]) rfl rfl ?_
                    refine r_iinc (L2 := [_, _, _, _, _, _, _, _, _, _]) rfl rfl rfl ?_
                    refine r_goto rfl ?_
                    rw [nI_1]
                    refine nx _ _ _ _ ?_ rfl
                    rw [wtM_s, ← h3]
                    simp only
                    grind [maxI]
                  · refine r_iload rfl rfl ?_
                    refine r_if_ge rfl (fun h133 => ?_) (fun h133 => ?_)
                    · refine r_iconst rfl ?_
                      refine r_callS rfl (by decide) (ct_X11_flag (by simp)) rfl rfl (am_cnt rfl) ?_
                      refine r_iadd rfl ?_
                      refine r_istore (L2 := [_, _, _, _, _, _, _, _, _, _]) rfl rfl ?_
                      refine r_iinc (L2 := [_, _, _, _, _, _, _, _, _, _]) rfl rfl rfl ?_
                      refine r_goto rfl ?_
                      rw [nI_1]
                      refine nx _ _ _ _ ?_ rfl
                      rw [wtM_s, ← h3]
                      simp only
                      grind [maxI]
                    · refine r_iload rfl rfl ?_
                      refine r_if_le rfl (fun h138 => ?_) (fun h138 => ?_)
                      · refine r_iconst rfl ?_
                        refine r_callS rfl (by decide) (ct_X11_flag (by simp)) rfl rfl (am_cnt rfl) ?_
                        refine r_iadd rfl ?_
                        refine r_istore (L2 := [_, _, _, _, _, _, _, _, _, _]) rfl rfl ?_
                        refine r_iinc (L2 := [_, _, _, _, _, _, _, _, _, _]) rfl rfl rfl ?_
                        refine r_goto rfl ?_
                        rw [nI_1]
                        refine nx _ _ _ _ ?_ rfl
                        rw [wtM_s, ← h3]
                        simp only
                        grind [maxI]
                      · refine r_iconst rfl ?_
                        refine r_goto rfl ?_
                        refine r_callS rfl (by decide) (ct_X11_flag (by simp)) rfl rfl (am_cnt rfl) ?_
                        refine r_iadd rfl ?_
                        refine r_istore (L2 := [_, _, _, _, _, _, _, _, _, _]) rfl rfl ?_
                        refine r_iinc (L2 := [_, _, _, _, _, _, _, _, _, _]) rfl rfl rfl ?_
                        refine r_goto rfl ?_
                        rw [nI_1]
                        refine nx _ _ _ _ ?_ rfl
                        rw [wtM_s, ← h3]
                        simp only
                        grind [maxI]
              · refine r_iload_n rfl rfl ?_
                refine r_iconst rfl ?_
                refine r_iadd rfl ?_
                refine r_goto rfl ?_
                refine r_istore_n (L2 := [_, _, _, _, _, _, _, _, _, _]) rfl rfl ?_
                refine r_iload rfl rfl ?_
                refine r_iload_n rfl rfl ?_
                refine r_max rfl (am_cnt rfl) ?_
                refine r_istore (L2 := [_, _, _, _, _, _, _, _, _, _]) rfl rfl ?_
                refine r_iload rfl rfl ?_
                refine r_iload rfl rfl ?_
                refine r_if_le rfl (fun h123 => ?_) (fun h123 => ?_)
                · refine r_iload rfl rfl ?_
                  refine r_if_ge rfl (fun h133 => ?_) (fun h133 => ?_)
                  · refine r_iconst rfl ?_
                    refine r_callS rfl (by decide) (ct_X11_flag (by simp)) rfl rfl (am_cnt rfl) ?_
                    refine r_iadd rfl ?_
                    refine r_istore (L2 := [_, _, _, _, _, _, _, _, _, _]) rfl rfl ?_
                    refine r_iinc (L2 := [_, _, _, _, _, _, _, _, _, _]) rfl rfl rfl ?_
                    refine r_goto rfl ?_
                    rw [nI_1]
                    refine nx _ _ _ _ ?_ rfl
                    rw [wtM_s, ← h3]
                    simp only
                    grind [maxI]
                  · refine r_iload rfl rfl ?_
                    refine r_if_le rfl (fun h138 => ?_) (fun h138 => ?_)
                    · refine r_iconst rfl ?_
                      refine r_callS rfl (by decide) (ct_X11_flag (by simp)) rfl rfl (am_cnt rfl) ?_
                      refine r_iadd rfl ?_
                      refine r_istore (L2 := [_, _, _, _, _, _, _, _, _, _]) rfl rfl ?_
                      refine r_iinc (L2 := [_, _, _, _, _, _, _, _, _, _]) rfl rfl rfl ?_
                      refine r_goto rfl ?_
                      rw [nI_1]
                      refine nx _ _ _ _ ?_ rfl
                      rw [wtM_s, ← h3]
                      simp only
                      grind [maxI]
                    · refine r_iconst rfl ?_
                      refine r_goto rfl ?_
                      refine r_callS rfl (by decide) (ct_X11_flag (by simp)) rfl rfl (am_cnt rfl) ?_
                      refine r_iadd rfl ?_
                      refine r_istore (L2 := [_, _, _, _, _, _, _, _, _, _]) rfl rfl ?_
                      refine r_iinc (L2 := [_, _, _, _, _, _, _, _, _, _]) rfl rfl rfl ?_
                      refine r_goto rfl ?_
                      rw [nI_1]
                      refine nx _ _ _ _ ?_ rfl
                      rw [wtM_s, ← h3]
                      simp only
                      grind [maxI]
                · refine r_iload rfl rfl ?_
                  refine r_if_lt rfl (fun h128 => ?_) (fun h128 => ?_)
                  · refine r_iconst rfl ?_
                    refine r_goto rfl ?_
                    refine r_callS rfl (by decide) (ct_X11_flag (by simp)) rfl rfl (am_cnt rfl) ?_
                    refine r_iadd rfl ?_
                    refine r_istore (L2 := [_, _, _, _, _, _, _, _, _, _]) rfl rfl ?_
                    refine r_iinc (L2 := [_, _, _, _, _, _, _, _, _, _]) rfl rfl rfl ?_
                    refine r_goto rfl ?_
                    rw [nI_1]
                    refine nx _ _ _ _ ?_ rfl
                    rw [wtM_s, ← h3]
                    simp only
                    grind [maxI]
                  · refine r_iload rfl rfl ?_
                    refine r_if_ge rfl (fun h133 => ?_) (fun h133 => ?_)
                    · refine r_iconst rfl ?_
                      refine r_callS rfl (by decide) (ct_X11_flag (by simp)) rfl rfl (am_cnt rfl) ?_
                      refine r_iadd rfl ?_
                      refine r_istore (L2 := [_, _, _, _, _, _, _, _, _, _]) rfl rfl ?_
                      refine r_iinc (L2 := [_, _, _, _, _, _, _, _, _, _]) rfl rfl rfl ?_
                      refine r_goto rfl ?_
                      rw [nI_1]
                      refine nx _ _ _ _ ?_ rfl
                      rw [wtM_s, ← h3]
                      simp only
                      grind [maxI]
                    · refine r_iload rfl rfl ?_
                      refine r_if_le rfl (fun h138 => ?_) (fun h138 => ?_)
                      · refine r_iconst rfl ?_
                        refine r_callS rfl (by decide) (ct_X11_flag (by simp)) rfl rfl (am_cnt rfl) ?_
                        refine r_iadd rfl ?_
                        refine r_istore (L2 := [_, _, _, _, _, _, _, _, _, _]) rfl rfl ?_
                        refine r_iinc (L2 := [_, _, _, _, _, _, _, _, _, _]) rfl rfl rfl ?_
                        refine r_goto rfl ?_
                        rw [nI_1]
                        refine nx _ _ _ _ ?_ rfl
                        rw [wtM_s, ← h3]
                        simp only
                        grind [maxI]
                      · refine r_iconst rfl ?_
                        refine r_goto rfl ?_
                        refine r_callS rfl (by decide) (ct_X11_flag (by simp)) rfl rfl (am_cnt rfl) ?_
                        refine r_iadd rfl ?_
                        refine r_istore (L2 := [_, _, _, _, _, _, _, _, _, _]) rfl rfl ?_
                        refine r_iinc (L2 := [_, _, _, _, _, _, _, _, _, _]) rfl rfl rfl ?_
                        refine r_goto rfl ?_
                        rw [nI_1]
                        refine nx _ _ _ _ ?_ rfl
                        rw [wtM_s, ← h3]
                        simp only
                        grind [maxI]
          · rw [nI_leI (by omega) (by omega)] at h59
            refine r_iload rfl rfl ?_
            refine r_aload_n rfl rfl ?_
            refine r_iconst rfl ?_
            refine r_iload rfl rfl ?_
            refine r_iload rfl rfl ?_
            refine r_callV rfl (wasN (k := 0) (by omega) (by omega) (by omega)) rfl rfl rfl (by decide) rfl (am_cnt rfl) ?_
            refine r_iadd rfl ?_
            refine r_istore (L2 := [_, _, _, _, _, _, _, _, _, _]) rfl rfl ?_
            refine r_iinc (L2 := [_, _, _, _, _, _, _, _, _, _]) rfl rfl rfl ?_
            refine r_goto rfl ?_
            rw [nI_1]
            exact ih2 (q + 1) q0 (by omega) (by omega)
      refine r_iload rfl rfl ?_
      refine r_aload_n rfl rfl ?_
      refine r_getI rfl rfl (by decide) (by decide) rfl ?_
      rw [hnw]
      refine r_icmp_ge rfl (fun h34 => ?_) (fun h34 => ?_)
      · rw [nI_leI (by omega) (by omega)] at h34
        obtain rfl : j = nw := by omega
        refine r_aload_n rfl rfl ?_
        refine r_iconst rfl ?_
        refine r_putI rfl rfl (by decide) (by decide) rfl ?_
        refine r_aload_n rfl rfl ?_
        refine r_iload rfl rfl ?_
        refine r_i2l rfl ?_
        refine r_callV rfl (ct_X11_enters u971 (by decide)) rfl rfl rfl (by decide) rfl (am_cnt rfl) ?_
        refine r_aload_n rfl rfl ?_
        refine r_iload rfl rfl ?_
        refine r_i2l rfl ?_
        refine r_callV rfl (ct_X11_enters eAdd_n (by decide)) rfl rfl rfl (by decide) rfl (am_cnt rfl) ?_
        refine r_iload_n rfl rfl ?_
        refine r_iret rfl rfl ?_
        rw [← h3]
        exact ⟨rfl, rfl⟩
      · rw [nI_leI (by omega) (by omega)] at h34
        refine r_aload_n rfl rfl ?_
        refine r_iconst rfl ?_
        refine r_iload_n rfl rfl ?_
        refine r_iload rfl rfl ?_
        refine r_callV rfl (wasN (k := 0) (by omega) (by omega) (by omega)) rfl rfl rfl (by decide) rfl (am_cnt rfl) ?_
        refine r_istore (L2 := [_, _, _, _, _, _, _, _, _, _]) rfl rfl ?_
        refine r_iconst rfl ?_
        refine r_istore (L2 := [_, _, _, _, _, _, _, _, _, _]) rfl rfl ?_
        refine r_iconst rfl ?_
        refine r_istore (L2 := [_, _, _, _, _, _, _, _, _, _]) rfl rfl ?_
        exact loop2 (n + 1) 0 (by omega) (by omega) (by omega)
  refine r_aload_n rfl rfl ?_
  refine r_iconst rfl ?_
  refine r_putI rfl rfl (by decide) (by decide) rfl ?_
  try rw [hT]
  refine r_aload_n rfl rfl ?_
  refine r_iload_n rfl rfl ?_
  refine r_callV rfl (ct_X11_isPerson (zM hn hz)) rfl rfl rfl (by decide) rfl (am_cnt rfl) ?_
  refine r_if_ne rfl (fun h10 => ?_) (fun h10 => ?_)
  · refine r_iconst rfl ?_
    refine r_istore_n (L2 := [_, _, _, _, _, _, _, _, _, _]) rfl rfl ?_
    refine r_iconst rfl ?_
    refine r_istore_n (L2 := [_, _, _, _, _, _, _, _, _, _]) rfl rfl ?_
    refine r_iconst rfl ?_
    refine r_istore (L2 := [_, _, _, _, _, _, _, _, _, _]) rfl rfl ?_
    refine r_iconst rfl ?_
    refine r_istore (L2 := [_, _, _, _, _, _, _, _, _, _]) rfl rfl ?_
    refine r_iconst rfl ?_
    refine r_istore (L2 := [_, _, _, _, _, _, _, _, _, _]) rfl rfl ?_
    exact loop (nw + 1) 0 _ _ _ _ none none none (by omega) (by omega) rfl
  · exact absurd (c3) (b01_eq0.mp h10)
def swM (S : am_S) (nw j : Nat) : Int32 × Int32 × Int32 × Int32 := ((turnI (fun m => gI S 109 m - gI S 97 10) j).1, (turnI (fun m => gI S 109 m - gI S 97 10) j).2, topI (offM S) 0 (min j (nw / 2 + 1)), topI (offM S) (nw / 2 + 1) (j - (nw / 2 + 1)))
theorem or_m1 (y : Int32) : (-1 : Int32) ||| y = -1 := by
  rw [← Int32.toBitVec_inj, Int32.toBitVec_or]
  show 4294967295#32 ||| y.toBitVec = 4294967295#32
  apply BitVec.eq_of_toNat_eq
  have h1 := (4294967295#32 ||| y.toBitVec).isLt
  have h2 := Nat.left_le_or (n := (4294967295#32).toNat) (m := y.toBitVec.toNat)
  rw [BitVec.toNat_or] at h1 ⊢
  have h3 : (4294967295#32).toNat = 4294967295 := by decide
  rw [h3] at h1 h2 ⊢
  omega
theorem or_0 (y : Int32) : (0 : Int32) ||| y = y := by
  rw [← Int32.toBitVec_inj, Int32.toBitVec_or]
  show 0#32 ||| y.toBitVec = y.toBitVec
  simp
theorem sgn_val (x : Int32) : sgn x = if x < 0 then -1 else if x = 0 then 0 else 1 := by
  have hx := Int32.le_toInt x
  have hx2 := Int32.toInt_lt x
  have c31 : ((2 ^ 31 : Nat) : Int) = 2147483648 := by decide
  have e1 : (x >>> ((31 : Int32) &&& 31)).toInt = x.toInt / 2147483648 := by rw [pk_shr x ((31 : Int32) &&& 31) 31 (by decide), Int.shiftRight_eq_div_pow, c31]
  unfold sgn
  by_cases h : x < 0
  · have h2 : x.toInt < 0 := (fa_lt x 0).mp h
    have e3 : x >>> ((31 : Int32) &&& 31) = -1 := by
      apply Int32.toInt_inj.mp
      rw [e1, show (-1 : Int32).toInt = -1 from by decide]
      omega
    rw [if_pos h, e3, or_m1]
  · rw [if_neg h]
    obtain ⟨j, hj, rfl⟩ := nI_of h
    by_cases h0 : nI j = 0
    · rw [h0]
      decide
    · rw [if_neg h0]
      have hj0 : j ≠ 0 := fun z => h0 (by rw [z]; rfl)
      have e3 : nI j >>> ((31 : Int32) &&& 31) = 0 := by
        apply Int32.toInt_inj.mp
        rw [e1, nI_toInt hj, show (0 : Int32).toInt = 0 from by decide]
        omega
      have e2 : ((-nI j).toUInt32 >>> ((31 : Int32).toUInt32 &&& Int32.toUInt32 31)).toInt32 = 1 := by
        apply Int32.toBitVec_inj.mp
        apply BitVec.eq_of_toNat_eq
        rw [pk_ushr (-nI j) 31 31 (by decide), Int32.toBitVec_neg, BitVec.toNat_neg, pk_tn (by omega)]
        show (2 ^ 32 - j) % 2 ^ 32 / 2 ^ 31 = 1
        omega
      rw [e3, e2, or_0]
theorem sgn_0 {x : Int32} : sgn x = 0 ↔ x = 0 := by
  rw [sgn_val]
  grind
theorem ct_X11_swings {d : Nat} {S T : am_S} {nw : Nat} (hT : uI S 97 0 0 = T) (hnw : gI T 97 23 = nI nw) (hw : nw ≤ 199) : am_CT (d + 2) iX11_swings [.ref 97] S (some (.int (turnI (fun m => gI T 109 m - gI T 97 10) (nw + 1)).1)) (e2 T (topI (offM T) 0 (nw / 2 + 1)).toInt64 (topI (offM T) (nw / 2 + 1) (nw + 1 - (nw / 2 + 1))).toInt64) := by
  refine am_CT_in mmX11_swings rfl rfl rfl ?_
  have d2 : nI nw / 2 = nI (nw / 2) := pk_div (d := 2) (by omega) (by decide) (by decide)
  have loop : ∀ (k : Nat) (j : Nat) (a : Int32) (b : Int32) (v6 : Option Value), (j ≤ nw + 1) → (nw + 1 < j + k) → ((a, b) = turnI (fun m => gI T 109 m - gI T 97 10) j) → am_Ex (am_Call am_MT (d + 1)) mmX11_swings none (fun r1 G1 => r1 = (some (.int (turnI (fun m => gI T 109 m - gI T 97 10) (nw + 1)).1)) ∧ G1 = am_H (e2 T (topI (offM T) 0 (nw / 2 + 1)).toInt64 (topI (offM T) (nw / 2 + 1) (nw + 1 - (nw / 2 + 1))).toInt64)) (fun _ _ _ _ _ _ => False) 17 [some (.ref 97), some (.int a), some (.int b), some (.int (topI (offM T) 0 (min j (nw / 2 + 1)))), some (.int (topI (offM T) (nw / 2 + 1) (j - (nw / 2 + 1)))), some (.int (nI j)), v6] [] (am_H (T)) 0 0 := by
    intro k
    induction k with
    | zero =>
      intro j a b v6 h1 h2 h3
      omega
    | succ k ih =>
      intro j a b v6 h1 h2 h3
      have bj : (nI j).toNatClampNeg = j := nI_clamp (by omega)
      have s1 : 0 ≤ nI j := nI_pos' (by omega)
      have s2 : nI j < Int32.ofNat 201 := nI_lt (by omega) (by omega)
      by_cases hj : j = nw + 1
      · have w1 : nI nw < nI j := nI_lt (by omega) (by omega)
        have e1' : min j (nw / 2 + 1) = nw / 2 + 1 := by omega
        rw [e1', hj, show a = _ from congrArg Prod.fst h3, hj]
        rw [hj] at w1
        refine r_iload rfl rfl ?_
        refine r_aload_n rfl rfl ?_
        refine r_getI rfl rfl (by decide) (by decide) rfl ?_
        rw [hnw]
        refine r_icmp_gt rfl (fun h23 => ?_) (fun h23 => ?_)
        · refine r_aload_n rfl rfl ?_
          refine r_iconst rfl ?_
          refine r_putI rfl rfl (by decide) (by decide) rfl ?_
          refine r_aload_n rfl rfl ?_
          refine r_iload_n rfl rfl ?_
          refine r_i2l rfl ?_
          refine r_callV rfl (ct_X11_enters u971 (by decide)) rfl rfl rfl (by decide) rfl (am_cnt rfl) ?_
          refine r_aload_n rfl rfl ?_
          refine r_iload rfl rfl ?_
          refine r_i2l rfl ?_
          refine r_callV rfl (ct_X11_enters eAdd_n (by decide)) rfl rfl rfl (by decide) rfl (am_cnt rfl) ?_
          refine r_iload_n rfl rfl ?_
          refine r_iret rfl rfl ?_
          exact ⟨rfl, rfl⟩
        · exact absurd w1 h23
      · have w1 : ¬ nI nw < nI j := nI_nlt (by omega) (by omega)
        have tn : turnI (fun m => gI T 109 m - gI T 97 10) (j + 1) = (a + (if sgn (gI T 109 j - gI T 97 10) * b < 0 then 1 else 0), if sgn (gI T 109 j - gI T 97 10) = 0 then b else sgn (gI T 109 j - gI T 97 10)) := by rw [turnI, ← h3]
        have sg0 : sgn (gI T 109 j - gI T 97 10) = 0 ↔ gI T 109 j - gI T 97 10 = 0 := sgn_0
        by_cases hh : j ≤ nw / 2
        · have m1 : min (j + 1) (nw / 2 + 1) = j + 1 := by omega
          have m2 : min j (nw / 2 + 1) = j := by omega
          have m3 : j + 1 - (nw / 2 + 1) = j - (nw / 2 + 1) := by omega
          have w2 : ¬ nI (nw / 2) < nI j := nI_nlt (by omega) (by omega)
          have w3 : nI j ≤ nI (nw / 2) := nI_le hh (by omega)
          have nx : ∀ x y v6, (x, y) = turnI (fun m => gI T 109 m - gI T 97 10) (j + 1) → am_Ex (am_Call am_MT (d + 1)) mmX11_swings none (fun r1 G1 => r1 = (some (.int (turnI (fun m => gI T 109 m - gI T 97 10) (nw + 1)).1)) ∧ G1 = am_H (e2 T (topI (offM T) 0 (nw / 2 + 1)).toInt64 (topI (offM T) (nw / 2 + 1) (nw + 1 - (nw / 2 + 1))).toInt64)) (fun _ _ _ _ _ _ => False) 17 [some (.ref 97), some (.int x), some (.int y), some (.int (maxI (topI (offM T) 0 j) (offM T j))), some (.int (topI (offM T) (nw / 2 + 1) (j - (nw / 2 + 1)))), some (.int (nI (j + 1))), v6] [] (am_H T) 0 0 := fun x y v6 h => by
            have e := ih (j + 1) x y v6 (by omega) (by omega) h
            rw [m1, m3, show topI (offM T) 0 (j + 1) = maxI (topI (offM T) 0 j) (offM T j) from by rw [topI, Nat.zero_add]] at e
            exact e
          rw [m2]
          refine r_iload rfl rfl ?_
          refine r_aload_n rfl rfl ?_
          refine r_getI rfl rfl (by decide) (by decide) rfl ?_
          rw [hnw]
          refine r_icmp_gt rfl (fun h23 => ?_) (fun h23 => ?_)
          · exact absurd h23 w1
          · refine r_aload_n rfl rfl ?_
            refine r_getC rfl rfl (by decide) (by decide) rfl ?_
            refine r_iload rfl rfl ?_
            refine r_iald rfl rfl (by first | decide | assumption) (by first | exact s1 | exact s2) (by first | exact s1 | exact s2) ?_
            refine r_aload_n rfl rfl ?_
            rw [bj]
            refine r_getI rfl rfl (by decide) (by decide) rfl ?_
            refine r_isub rfl ?_
            refine r_istore (L2 := [_, _, _, _, _, _, _]) rfl rfl ?_
            refine r_iload_n rfl rfl ?_
            refine r_iload rfl rfl ?_
            refine r_callS rfl (by decide) ct_J6_signum_0f7a4 rfl rfl (am_cnt rfl) ?_
            refine r_iload_n rfl rfl ?_
            refine r_imul rfl ?_
            refine r_if_ge rfl (fun h48 => ?_) (fun h48 => ?_)
            · refine r_iconst rfl ?_
              refine r_callS rfl (by decide) (ct_X11_flag (by simp)) rfl rfl (am_cnt rfl) ?_
              refine r_iadd rfl ?_
              refine r_istore_n (L2 := [_, _, _, _, _, _, _]) rfl rfl ?_
              refine r_iload rfl rfl ?_
              refine r_if_ne rfl (fun h63 => ?_) (fun h63 => ?_)
              · refine r_iload rfl rfl ?_
                refine r_callS rfl (by decide) ct_J6_signum_0f7a4 rfl rfl (am_cnt rfl) ?_
                refine r_istore_n (L2 := [_, _, _, _, _, _, _]) rfl rfl ?_
                refine r_iload rfl rfl ?_
                refine r_aload_n rfl rfl ?_
                refine r_getI rfl rfl (by decide) (by decide) rfl ?_
                refine r_iconst rfl ?_
                refine r_idiv rfl (by decide) ?_
                rw [hnw, d2]
                refine r_icmp_gt rfl (fun h84 => ?_) (fun h84 => ?_)
                · exact absurd h84 w2
                · refine r_iload_n rfl rfl ?_
                  refine r_iload rfl rfl ?_
                  refine r_abs rfl (am_cnt rfl) ?_
                  refine r_max rfl (am_cnt rfl) ?_
                  refine r_goto rfl ?_
                  refine r_istore_n (L2 := [_, _, _, _, _, _, _]) rfl rfl ?_
                  refine r_iload rfl rfl ?_
                  refine r_aload_n rfl rfl ?_
                  refine r_getI rfl rfl (by decide) (by decide) rfl ?_
                  refine r_iconst rfl ?_
                  refine r_idiv rfl (by decide) ?_
                  rw [hnw, d2]
                  refine r_icmp_le rfl (fun h109 => ?_) (fun h109 => ?_)
                  · refine r_iload rfl rfl ?_
                    refine r_istore (L2 := [_, _, _, _, _, _, _]) rfl rfl ?_
                    refine r_iinc (L2 := [_, _, _, _, _, _, _]) rfl rfl rfl ?_
                    refine r_goto rfl ?_
                    rw [nI_1]
                    refine nx _ _ _ ?_
                    rw [tn]
                    grind
                  · exact absurd w3 h109
              · refine r_iload_n rfl rfl ?_
                refine r_goto rfl ?_
                refine r_istore_n (L2 := [_, _, _, _, _, _, _]) rfl rfl ?_
                refine r_iload rfl rfl ?_
                refine r_aload_n rfl rfl ?_
                refine r_getI rfl rfl (by decide) (by decide) rfl ?_
                refine r_iconst rfl ?_
                refine r_idiv rfl (by decide) ?_
                rw [hnw, d2]
                refine r_icmp_gt rfl (fun h84 => ?_) (fun h84 => ?_)
                · exact absurd h84 w2
                · refine r_iload_n rfl rfl ?_
                  refine r_iload rfl rfl ?_
                  refine r_abs rfl (am_cnt rfl) ?_
                  refine r_max rfl (am_cnt rfl) ?_
                  refine r_goto rfl ?_
                  refine r_istore_n (L2 := [_, _, _, _, _, _, _]) rfl rfl ?_
                  refine r_iload rfl rfl ?_
                  refine r_aload_n rfl rfl ?_
                  refine r_getI rfl rfl (by decide) (by decide) rfl ?_
                  refine r_iconst rfl ?_
                  refine r_idiv rfl (by decide) ?_
                  rw [hnw, d2]
                  refine r_icmp_le rfl (fun h109 => ?_) (fun h109 => ?_)
                  · refine r_iload rfl rfl ?_
                    refine r_istore (L2 := [_, _, _, _, _, _, _]) rfl rfl ?_
                    refine r_iinc (L2 := [_, _, _, _, _, _, _]) rfl rfl rfl ?_
                    refine r_goto rfl ?_
                    rw [nI_1]
                    refine nx _ _ _ ?_
                    rw [tn]
                    grind
                  · exact absurd w3 h109
            · refine r_iconst rfl ?_
              refine r_goto rfl ?_
              refine r_callS rfl (by decide) (ct_X11_flag (by simp)) rfl rfl (am_cnt rfl) ?_
              refine r_iadd rfl ?_
              refine r_istore_n (L2 := [_, _, _, _, _, _, _]) rfl rfl ?_
              refine r_iload rfl rfl ?_
              refine r_if_ne rfl (fun h63 => ?_) (fun h63 => ?_)
              · refine r_iload rfl rfl ?_
                refine r_callS rfl (by decide) ct_J6_signum_0f7a4 rfl rfl (am_cnt rfl) ?_
                refine r_istore_n (L2 := [_, _, _, _, _, _, _]) rfl rfl ?_
                refine r_iload rfl rfl ?_
                refine r_aload_n rfl rfl ?_
                refine r_getI rfl rfl (by decide) (by decide) rfl ?_
                refine r_iconst rfl ?_
                refine r_idiv rfl (by decide) ?_
                rw [hnw, d2]
                refine r_icmp_gt rfl (fun h84 => ?_) (fun h84 => ?_)
                · exact absurd h84 w2
                · refine r_iload_n rfl rfl ?_
                  refine r_iload rfl rfl ?_
                  refine r_abs rfl (am_cnt rfl) ?_
                  refine r_max rfl (am_cnt rfl) ?_
                  refine r_goto rfl ?_
                  refine r_istore_n (L2 := [_, _, _, _, _, _, _]) rfl rfl ?_
                  refine r_iload rfl rfl ?_
                  refine r_aload_n rfl rfl ?_
                  refine r_getI rfl rfl (by decide) (by decide) rfl ?_
                  refine r_iconst rfl ?_
                  refine r_idiv rfl (by decide) ?_
                  rw [hnw, d2]
                  refine r_icmp_le rfl (fun h109 => ?_) (fun h109 => ?_)
                  · refine r_iload rfl rfl ?_
                    refine r_istore (L2 := [_, _, _, _, _, _, _]) rfl rfl ?_
                    refine r_iinc (L2 := [_, _, _, _, _, _, _]) rfl rfl rfl ?_
                    refine r_goto rfl ?_
                    rw [nI_1]
                    refine nx _ _ _ ?_
                    rw [tn]
                    grind
                  · exact absurd w3 h109
              · refine r_iload_n rfl rfl ?_
                refine r_goto rfl ?_
                refine r_istore_n (L2 := [_, _, _, _, _, _, _]) rfl rfl ?_
                refine r_iload rfl rfl ?_
                refine r_aload_n rfl rfl ?_
                refine r_getI rfl rfl (by decide) (by decide) rfl ?_
                refine r_iconst rfl ?_
                refine r_idiv rfl (by decide) ?_
                rw [hnw, d2]
                refine r_icmp_gt rfl (fun h84 => ?_) (fun h84 => ?_)
                · exact absurd h84 w2
                · refine r_iload_n rfl rfl ?_
                  refine r_iload rfl rfl ?_
                  refine r_abs rfl (am_cnt rfl) ?_
                  refine r_max rfl (am_cnt rfl) ?_
                  refine r_goto rfl ?_
                  refine r_istore_n (L2 := [_, _, _, _, _, _, _]) rfl rfl ?_
                  refine r_iload rfl rfl ?_
                  refine r_aload_n rfl rfl ?_
                  refine r_getI rfl rfl (by decide) (by decide) rfl ?_
                  refine r_iconst rfl ?_
                  refine r_idiv rfl (by decide) ?_
                  rw [hnw, d2]
                  refine r_icmp_le rfl (fun h109 => ?_) (fun h109 => ?_)
                  · refine r_iload rfl rfl ?_
                    refine r_istore (L2 := [_, _, _, _, _, _, _]) rfl rfl ?_
                    refine r_iinc (L2 := [_, _, _, _, _, _, _]) rfl rfl rfl ?_
                    refine r_goto rfl ?_
                    rw [nI_1]
                    refine nx _ _ _ ?_
                    rw [tn]
                    grind
                  · exact absurd w3 h109
        · have m1 : min (j + 1) (nw / 2 + 1) = nw / 2 + 1 := by omega
          have m2 : min j (nw / 2 + 1) = nw / 2 + 1 := by omega
          have m3 : j + 1 - (nw / 2 + 1) = j - (nw / 2 + 1) + 1 := by omega
          have w2 : nI (nw / 2) < nI j := nI_lt (by omega) (by omega)
          have w3 : ¬ nI j ≤ nI (nw / 2) := Int32.not_le.mpr w2
          have nx : ∀ x y v6, (x, y) = turnI (fun m => gI T 109 m - gI T 97 10) (j + 1) → am_Ex (am_Call am_MT (d + 1)) mmX11_swings none (fun r1 G1 => r1 = (some (.int (turnI (fun m => gI T 109 m - gI T 97 10) (nw + 1)).1)) ∧ G1 = am_H (e2 T (topI (offM T) 0 (nw / 2 + 1)).toInt64 (topI (offM T) (nw / 2 + 1) (nw + 1 - (nw / 2 + 1))).toInt64)) (fun _ _ _ _ _ _ => False) 17 [some (.ref 97), some (.int x), some (.int y), some (.int (topI (offM T) 0 (nw / 2 + 1))), some (.int (maxI (topI (offM T) (nw / 2 + 1) (j - (nw / 2 + 1))) (offM T j))), some (.int (nI (j + 1))), v6] [] (am_H T) 0 0 := fun x y v6 h => by
            have e := ih (j + 1) x y v6 (by omega) (by omega) h
            rw [m1, m3, show topI (offM T) (nw / 2 + 1) (j - (nw / 2 + 1) + 1) = maxI (topI (offM T) (nw / 2 + 1) (j - (nw / 2 + 1))) (offM T j) from by rw [topI, show nw / 2 + 1 + (j - (nw / 2 + 1)) = j by omega]] at e
            exact e
          rw [m2]
          refine r_iload rfl rfl ?_
          refine r_aload_n rfl rfl ?_
          refine r_getI rfl rfl (by decide) (by decide) rfl ?_
          rw [hnw]
          refine r_icmp_gt rfl (fun h23 => ?_) (fun h23 => ?_)
          · exact absurd h23 w1
          · refine r_aload_n rfl rfl ?_
            refine r_getC rfl rfl (by decide) (by decide) rfl ?_
            refine r_iload rfl rfl ?_
            refine r_iald rfl rfl (by first | decide | assumption) (by first | exact s1 | exact s2) (by first | exact s1 | exact s2) ?_
            refine r_aload_n rfl rfl ?_
            rw [bj]
            refine r_getI rfl rfl (by decide) (by decide) rfl ?_
            refine r_isub rfl ?_
            refine r_istore (L2 := [_, _, _, _, _, _, _]) rfl rfl ?_
            refine r_iload_n rfl rfl ?_
            refine r_iload rfl rfl ?_
            refine r_callS rfl (by decide) ct_J6_signum_0f7a4 rfl rfl (am_cnt rfl) ?_
            refine r_iload_n rfl rfl ?_
            refine r_imul rfl ?_
            refine r_if_ge rfl (fun h48 => ?_) (fun h48 => ?_)
            · refine r_iconst rfl ?_
              refine r_callS rfl (by decide) (ct_X11_flag (by simp)) rfl rfl (am_cnt rfl) ?_
              refine r_iadd rfl ?_
              refine r_istore_n (L2 := [_, _, _, _, _, _, _]) rfl rfl ?_
              refine r_iload rfl rfl ?_
              refine r_if_ne rfl (fun h63 => ?_) (fun h63 => ?_)
              · refine r_iload rfl rfl ?_
                refine r_callS rfl (by decide) ct_J6_signum_0f7a4 rfl rfl (am_cnt rfl) ?_
                refine r_istore_n (L2 := [_, _, _, _, _, _, _]) rfl rfl ?_
                refine r_iload rfl rfl ?_
                refine r_aload_n rfl rfl ?_
                refine r_getI rfl rfl (by decide) (by decide) rfl ?_
                refine r_iconst rfl ?_
                refine r_idiv rfl (by decide) ?_
                rw [hnw, d2]
                refine r_icmp_gt rfl (fun h84 => ?_) (fun h84 => ?_)
                · refine r_iload_n rfl rfl ?_
                  refine r_istore_n (L2 := [_, _, _, _, _, _, _]) rfl rfl ?_
                  refine r_iload rfl rfl ?_
                  refine r_aload_n rfl rfl ?_
                  refine r_getI rfl rfl (by decide) (by decide) rfl ?_
                  refine r_iconst rfl ?_
                  refine r_idiv rfl (by decide) ?_
                  rw [hnw, d2]
                  refine r_icmp_le rfl (fun h109 => ?_) (fun h109 => ?_)
                  · exact absurd h109 w3
                  · refine r_iload rfl rfl ?_
                    refine r_iload rfl rfl ?_
                    refine r_abs rfl (am_cnt rfl) ?_
                    refine r_max rfl (am_cnt rfl) ?_
                    refine r_goto rfl ?_
                    refine r_istore (L2 := [_, _, _, _, _, _, _]) rfl rfl ?_
                    refine r_iinc (L2 := [_, _, _, _, _, _, _]) rfl rfl rfl ?_
                    refine r_goto rfl ?_
                    rw [nI_1]
                    refine nx _ _ _ ?_
                    rw [tn]
                    grind
                · exact absurd w2 h84
              · refine r_iload_n rfl rfl ?_
                refine r_goto rfl ?_
                refine r_istore_n (L2 := [_, _, _, _, _, _, _]) rfl rfl ?_
                refine r_iload rfl rfl ?_
                refine r_aload_n rfl rfl ?_
                refine r_getI rfl rfl (by decide) (by decide) rfl ?_
                refine r_iconst rfl ?_
                refine r_idiv rfl (by decide) ?_
                rw [hnw, d2]
                refine r_icmp_gt rfl (fun h84 => ?_) (fun h84 => ?_)
                · refine r_iload_n rfl rfl ?_
                  refine r_istore_n (L2 := [_, _, _, _, _, _, _]) rfl rfl ?_
                  refine r_iload rfl rfl ?_
                  refine r_aload_n rfl rfl ?_
                  refine r_getI rfl rfl (by decide) (by decide) rfl ?_
                  refine r_iconst rfl ?_
                  refine r_idiv rfl (by decide) ?_
                  rw [hnw, d2]
                  refine r_icmp_le rfl (fun h109 => ?_) (fun h109 => ?_)
                  · exact absurd h109 w3
                  · refine r_iload rfl rfl ?_
                    refine r_iload rfl rfl ?_
                    refine r_abs rfl (am_cnt rfl) ?_
                    refine r_max rfl (am_cnt rfl) ?_
                    refine r_goto rfl ?_
                    refine r_istore (L2 := [_, _, _, _, _, _, _]) rfl rfl ?_
                    refine r_iinc (L2 := [_, _, _, _, _, _, _]) rfl rfl rfl ?_
                    refine r_goto rfl ?_
                    rw [nI_1]
                    refine nx _ _ _ ?_
                    rw [tn]
                    grind
                · exact absurd w2 h84
            · refine r_iconst rfl ?_
              refine r_goto rfl ?_
              refine r_callS rfl (by decide) (ct_X11_flag (by simp)) rfl rfl (am_cnt rfl) ?_
              refine r_iadd rfl ?_
              refine r_istore_n (L2 := [_, _, _, _, _, _, _]) rfl rfl ?_
              refine r_iload rfl rfl ?_
              refine r_if_ne rfl (fun h63 => ?_) (fun h63 => ?_)
              · refine r_iload rfl rfl ?_
                refine r_callS rfl (by decide) ct_J6_signum_0f7a4 rfl rfl (am_cnt rfl) ?_
                refine r_istore_n (L2 := [_, _, _, _, _, _, _]) rfl rfl ?_
                refine r_iload rfl rfl ?_
                refine r_aload_n rfl rfl ?_
                refine r_getI rfl rfl (by decide) (by decide) rfl ?_
                refine r_iconst rfl ?_
                refine r_idiv rfl (by decide) ?_
                rw [hnw, d2]
                refine r_icmp_gt rfl (fun h84 => ?_) (fun h84 => ?_)
                · refine r_iload_n rfl rfl ?_
                  refine r_istore_n (L2 := [_, _, _, _, _, _, _]) rfl rfl ?_
                  refine r_iload rfl rfl ?_
                  refine r_aload_n rfl rfl ?_
                  refine r_getI rfl rfl (by decide) (by decide) rfl ?_
                  refine r_iconst rfl ?_
                  refine r_idiv rfl (by decide) ?_
                  rw [hnw, d2]
                  refine r_icmp_le rfl (fun h109 => ?_) (fun h109 => ?_)
                  · exact absurd h109 w3
                  · refine r_iload rfl rfl ?_
                    refine r_iload rfl rfl ?_
                    refine r_abs rfl (am_cnt rfl) ?_
                    refine r_max rfl (am_cnt rfl) ?_
                    refine r_goto rfl ?_
                    refine r_istore (L2 := [_, _, _, _, _, _, _]) rfl rfl ?_
                    refine r_iinc (L2 := [_, _, _, _, _, _, _]) rfl rfl rfl ?_
                    refine r_goto rfl ?_
                    rw [nI_1]
                    refine nx _ _ _ ?_
                    rw [tn]
                    grind
                · exact absurd w2 h84
              · refine r_iload_n rfl rfl ?_
                refine r_goto rfl ?_
                refine r_istore_n (L2 := [_, _, _, _, _, _, _]) rfl rfl ?_
                refine r_iload rfl rfl ?_
                refine r_aload_n rfl rfl ?_
                refine r_getI rfl rfl (by decide) (by decide) rfl ?_
                refine r_iconst rfl ?_
                refine r_idiv rfl (by decide) ?_
                rw [hnw, d2]
                refine r_icmp_gt rfl (fun h84 => ?_) (fun h84 => ?_)
                · refine r_iload_n rfl rfl ?_
                  refine r_istore_n (L2 := [_, _, _, _, _, _, _]) rfl rfl ?_
                  refine r_iload rfl rfl ?_
                  refine r_aload_n rfl rfl ?_
                  refine r_getI rfl rfl (by decide) (by decide) rfl ?_
                  refine r_iconst rfl ?_
                  refine r_idiv rfl (by decide) ?_
                  rw [hnw, d2]
                  refine r_icmp_le rfl (fun h109 => ?_) (fun h109 => ?_)
                  · exact absurd h109 w3
                  · refine r_iload rfl rfl ?_
                    refine r_iload rfl rfl ?_
                    refine r_abs rfl (am_cnt rfl) ?_
                    refine r_max rfl (am_cnt rfl) ?_
                    refine r_goto rfl ?_
                    refine r_istore (L2 := [_, _, _, _, _, _, _]) rfl rfl ?_
                    refine r_iinc (L2 := [_, _, _, _, _, _, _]) rfl rfl rfl ?_
                    refine r_goto rfl ?_
                    rw [nI_1]
                    refine nx _ _ _ ?_
                    rw [tn]
                    grind
                · exact absurd w2 h84
  refine r_aload_n rfl rfl ?_
  refine r_iconst rfl ?_
  refine r_putI rfl rfl (by decide) (by decide) rfl ?_
  try rw [hT]
  refine r_iconst rfl ?_
  refine r_istore_n (L2 := [_, _, _, _, _, _, _]) rfl rfl ?_
  refine r_iconst rfl ?_
  refine r_istore_n (L2 := [_, _, _, _, _, _, _]) rfl rfl ?_
  refine r_iconst rfl ?_
  refine r_istore_n (L2 := [_, _, _, _, _, _, _]) rfl rfl ?_
  refine r_iconst rfl ?_
  refine r_istore (L2 := [_, _, _, _, _, _, _]) rfl rfl ?_
  refine r_iconst rfl ?_
  refine r_istore (L2 := [_, _, _, _, _, _, _]) rfl rfl ?_
  have e := loop (nw + 2) 0 _ _ none (by omega) (by omega) rfl
  rw [Nat.zero_min, Nat.zero_sub] at e
  exact e
