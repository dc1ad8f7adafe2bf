/-! Courses kept: row 66; a new course. -/
theorem am_H_len {S : am_S} : (am_H S).length = 131 + 6 * gR S 0 := by rw [am_H, List.length_map, List.length_range]
def RfOk (S : am_S) : Prop := gR S 0 ≤ 3 ∧ (gR S 1 ≤ gR S 0 ∧ gR S 2 ≤ gR S 0 ∧ gR S 3 ≤ gR S 0) ∧ gR S 4 < 131 ∧ gR S 5 < 131 ∧ (gR S 6 = 0 ∨ 1000000 < gR S 6)
theorem wf_fk1 : (List.range 12).all (fun ci => (List.range 60).all (fun k => match am_fk ci k with
  | (1, c) => decide (c < 131)
  | (3, c) => decide (c = 4 ∨ c = 5)
  | (4, c) => decide (c = 6)
  | (2, c) => decide (c ≤ 5)
  | (0, _) => true
  | _ => false)) = true := by decide +kernel
theorem wf_fk2 : (List.range 131).all (fun o => (List.range 60).all (fun k => match am_fk (am_kl.getD o (99, 0)).1 k with
  | (2, c) => decide ((am_kl.getD o (99, 0)).1 < 12 → o + c < 131)
  | _ => true)) = true := by decide +kernel
theorem wf_kl : (List.range 131).all (fun o => decide ((am_kl.getD o (99, 0)).1 < 12 ∨ (20 ≤ (am_kl.getD o (99, 0)).1 ∧ (am_kl.getD o (99, 0)).1 ≤ 25))) = true := by decide +kernel
theorem all_range {n : Nat} {p : Nat → Bool} (h : (List.range n).all p = true) {i : Nat} (hi : i < n) : p i = true := List.all_eq_true.mp h i (List.mem_range.mpr hi)
theorem wf_len : (List.range 12).all (fun ci => decide ((am_fkl ci).length ≤ 60)) = true := by decide +kernel
theorem wf_fv {S : am_S} {m ci o k : Nat} (hS : RfOk S) (hci : ci < 12) (hk : k < 60) (h2 : ∀ c, am_fk ci k = (2, c) → o + c < m) (hm : 131 ≤ m) : am_wfv m (am_fv S ci o k) = true := by
  have e := all_range (all_range wf_fk1 hci) hk
  unfold am_fv
  match hq : am_fk ci k with
  | (0, _) => rfl
  | (1, c) =>
    rw [hq] at e
    have e2 := of_decide_eq_true e
    show (decide (c < m) || decide (1000000 ≤ c)) = true
    rw [Bool.or_eq_true, decide_eq_true_eq]
    exact Or.inl (by omega)
  | (2, c) =>
    show (decide (o + c < m) || decide (1000000 ≤ o + c)) = true
    rw [Bool.or_eq_true, decide_eq_true_eq]
    exact Or.inl (h2 c hq)
  | (3, c) =>
    rw [hq] at e
    have e2 := of_decide_eq_true e
    show (decide (gR S c < m) || decide (1000000 ≤ gR S c)) = true
    rw [Bool.or_eq_true, decide_eq_true_eq]
    rcases e2 with rfl | rfl
    · exact Or.inl (by have := hS.2.2.1; omega)
    · exact Or.inl (by have := hS.2.2.2.1; omega)
  | (4, c) =>
    rw [hq] at e
    have e2 : c = 6 := of_decide_eq_true e
    subst e2
    have h6 := hS.2.2.2.2
    show am_wfv m (match gR S 6 with
      | 0 => .null
      | n + 1 => .ref (n + 1)) = true
    match hg : gR S 6 with
    | 0 => rfl
    | n + 1 =>
      rw [hg] at h6
      show (decide (n + 1 < m) || decide (1000000 ≤ n + 1)) = true
      rw [Bool.or_eq_true, decide_eq_true_eq, decide_eq_true_eq]
      exact Or.inr (by omega)
  | (n + 5, c) =>
    rw [hq] at e
    cases e
def am_wfr (m : Nat) : Option Nat → Bool
  | none => true
  | some k => decide (k < m) || decide (1000000 ≤ k)
theorem wfE_R {m t : Nat} {l : List (Option Nat)} : am_wfE m (.inr (.inr (.inl (t, l)))) = l.all (am_wfr m) := by
  show l.all _ = _
  congr 1
theorem wf_ck {S : am_S} {m o : Nat} (hS : RfOk S) (ho : o < 131 + 6 * gR S 0) (hm : 131 + 6 * gR S 0 ≤ m) : am_wfE m (am_ck S o (am_kn (gR S 0) o)) = true := by
  have obj : ∀ ci, ci < 12 → (∀ k c, am_fk ci k = (2, c) → k < 60 → o + c < m) → am_wfE m (am_ck S o (ci, 0)) = true := fun ci hci h2 => by
    rw [am_ck_O hci]
    show ((List.range (am_fkl ci).length).map (am_fv S ci o)).all (am_wfv m) = true
    rw [List.all_eq_true]
    intro v hv
    obtain ⟨k, hk, rfl⟩ := List.mem_map.mp hv
    have hk2 := List.mem_range.mp hk
    have hl := of_decide_eq_true (all_range wf_len hci)
    exact wf_fv hS hci (by omega) (fun c hc => h2 k c hc (by omega)) (by omega)
  have rr : ∀ k, k < 131 → (decide (k < m) || decide (1000000 ≤ k)) = true := fun k hk => by
    rw [Bool.or_eq_true, decide_eq_true_eq]
    exact Or.inl (by omega)
  unfold am_kn
  by_cases h1 : o < 131
  · rw [show Nat.blt o 131 = true from Nat.blt_eq.mpr h1]
    show am_wfE m (am_ck S o (am_kl.getD o (99, 0))) = true
    have e2 := all_range wf_fk2 h1
    have e3 := of_decide_eq_true (all_range wf_kl h1)
    generalize hq : am_kl.getD o (99, 0) = q at *
    obtain ⟨t, n⟩ := q
    rcases e3 with e3 | e3
    · have hz : am_ck S o (t, n) = am_ck S o (t, 0) := by
        have e3b : t < 12 := e3
        match t, e3b with
        | 0, _ => rfl
        | 1, _ => rfl
        | 2, _ => rfl
        | 3, _ => rfl
        | 4, _ => rfl
        | 5, _ => rfl
        | 6, _ => rfl
        | 7, _ => rfl
        | 8, _ => rfl
        | 9, _ => rfl
        | 10, _ => rfl
        | 11, _ => rfl
      rw [hz]
      refine obj t e3 (fun k c hc hk => ?_)
      have e4 := all_range e2 hk
      rw [hc] at e4
      have e5 := of_decide_eq_true e4 e3
      omega
    · have e3a : 20 ≤ t := e3.1
      have e3b : t ≤ 25 := e3.2
      have e4 : t = 20 ∨ t = 21 ∨ t = 22 ∨ t = 23 ∨ t = 24 ∨ t = 25 := by omega
      rcases e4 with rfl | rfl | rfl | rfl | rfl | rfl
      · rfl
      · rfl
      · rfl
      · show am_wfE m (.inr (.inr (.inl (3, [some 6, some 8, some 10, some 12, some 14, some 16])))) = true
        rw [wfE_R]
        simp only [List.all_cons, List.all_nil, Bool.and_true, am_wfr, rr 6 (by omega), rr 8 (by omega), rr 10 (by omega), rr 12 (by omega), rr 14 (by omega), rr 16 (by omega)]
      · show am_wfE m (.inr (.inr (.inl (4, [some 18, some 21, some 24, some 27, some 30, some 33, some 36, some 39, some 42, some 45, some 48, some 51])))) = true
        rw [wfE_R]
        simp only [List.all_cons, List.all_nil, Bool.and_true, am_wfr, rr 18 (by omega), rr 21 (by omega), rr 24 (by omega), rr 27 (by omega), rr 30 (by omega), rr 33 (by omega), rr 36 (by omega), rr 39 (by omega), rr 42 (by omega), rr 45 (by omega), rr 48 (by omega), rr 51 (by omega)]
      · show am_wfE m (.inr (.inr (.inl (5, [am_kr (gR S 1), am_kr (gR S 2), am_kr (gR S 3)])))) = true
        have kk : ∀ n, n ≤ gR S 0 → am_wfr m (am_kr n) = true := fun n hn => by
          match n, hn with
          | 0, _ => rfl
          | j + 1, hj =>
            show (decide (131 + 6 * j < m) || decide (1000000 ≤ 131 + 6 * j)) = true
            rw [Bool.or_eq_true, decide_eq_true_eq]
            exact Or.inl (by omega)
        rw [wfE_R]
        simp only [List.all_cons, List.all_nil, Bool.and_true, Bool.and_eq_true]
        exact ⟨kk _ hS.2.1.1, kk _ hS.2.1.2.1, kk _ hS.2.1.2.2⟩
  · rw [show Nat.blt o 131 = false from by rw [← Bool.not_eq_true, Nat.blt_eq]; exact h1, show Nat.blt o (131 + 6 * gR S 0) = true from Nat.blt_eq.mpr ho, cond_false, cond_true]
    have e5 : (o - 131) % 6 = 0 ∨ (o - 131) % 6 = 1 ∨ ∃ n, (o - 131) % 6 = n + 2 := by
      match (o - 131) % 6 with
      | 0 => exact Or.inl rfl
      | 1 => exact Or.inr (Or.inl rfl)
      | n + 2 => exact Or.inr (Or.inr ⟨n, rfl⟩)
    rcases e5 with e5 | e5 | ⟨n, e5⟩
    · rw [e5]
      refine obj 0 (by omega) (fun k c hc hk => ?_)
      have e := all_range (all_range wf_fk1 (show 0 < 12 by omega)) hk
      rw [hc] at e
      have e2 : c ≤ 5 := of_decide_eq_true e
      omega
    · rw [e5]
      rfl
    · rw [e5]
      rfl
theorem wf_H {S : am_S} {m : Nat} (hS : RfOk S) (hm : 131 + 6 * gR S 0 ≤ m) : (am_H S).all (am_wfE m) = true := by
  rw [List.all_eq_true]
  intro e he
  obtain ⟨o, ho, rfl⟩ := List.mem_map.mp he
  exact wf_ck hS (List.mem_range.mp ho) hm
theorem ck_O2 {S : am_S} {o t n : Nat} (h : t < 12) : am_ck S o (t, n) = .inr (.inr (.inr (t, (List.range (am_fkl t).length).map (am_fv S t o)))) := by
  match t, h with
  | 0, _ => rfl
  | 1, _ => rfl
  | 2, _ => rfl
  | 3, _ => rfl
  | 4, _ => rfl
  | 5, _ => rfl
  | 6, _ => rfl
  | 7, _ => rfl
  | 8, _ => rfl
  | 9, _ => rfl
  | 10, _ => rfl
  | 11, _ => rfl
theorem kn_kind {m o : Nat} (h : o < 131 + 6 * m) : (am_kn m o).1 < 12 ∨ (20 ≤ (am_kn m o).1 ∧ (am_kn m o).1 ≤ 25) := by
  unfold am_kn
  by_cases h1 : o < 131
  · rw [show Nat.blt o 131 = true from Nat.blt_eq.mpr h1, cond_true]
    exact of_decide_eq_true (all_range wf_kl h1)
  · rw [show Nat.blt o 131 = false from by rw [← Bool.not_eq_true, Nat.blt_eq]; exact h1, show Nat.blt o (131 + 6 * m) = true from Nat.blt_eq.mpr h, cond_false, cond_true]
    match (o - 131) % 6 with
    | 0 => exact Or.inl (by decide)
    | 1 => exact Or.inr ⟨by decide, by decide⟩
    | n + 2 => exact Or.inr ⟨by show 20 ≤ 20; omega, by show 20 ≤ 25; omega⟩
theorem ck_cong {S S2 : am_S} {o : Nat} {q : Nat × Nat} (hq : q.1 < 12 ∨ (20 ≤ q.1 ∧ q.1 ≤ 25)) (h1 : gI S2 o = gI S o) (h2 : gJ S2 o = gJ S o) (h3 : q.1 = 11 → gR S2 4 = gR S 4 ∧ gR S2 5 = gR S 5 ∧ gR S2 6 = gR S 6) (h4 : q.1 = 25 → gR S2 1 = gR S 1 ∧ gR S2 2 = gR S 2 ∧ gR S2 3 = gR S 3) : am_ck S2 o q = am_ck S o q := by
  obtain ⟨t, n⟩ := q
  rcases hq with hq | hq
  · rw [ck_O2 hq, ck_O2 hq]
    congr 4
    refine List.map_congr_left (fun k hk => ?_)
    have hl := of_decide_eq_true (all_range wf_len (show t < 12 from hq))
    have hk2 : k < (am_fkl t).length := List.mem_range.mp hk
    have e := all_range (all_range wf_fk1 (show t < 12 from hq)) (show k < 60 by omega)
    have e11 : ∀ c, (am_fk t k = (3, c) ∨ am_fk t k = (4, c)) → t = 11 := fun c hc => by
      have ht : t < 12 := hq
      have e2 : (List.range 11).all (fun ci => (List.range 60).all (fun k => decide ((am_fk ci k).1 < 3))) = true := by decide +kernel
      apply Decidable.byContradiction
      intro hn
      have e3 := of_decide_eq_true (all_range (all_range e2 (show t < 11 by omega)) (show k < 60 by omega))
      rcases hc with hc | hc
      · rw [hc] at e3; exact absurd (show 3 < 3 from e3) (by decide)
      · rw [hc] at e3; exact absurd (show 4 < 3 from e3) (by decide)
    unfold am_fv
    match hc : am_fk t k with
    | (0, c) =>
      show Value.int (gI S2 o k) = _
      rw [h1]
      rfl
    | (1, c) => rfl
    | (2, c) => rfl
    | (3, c) =>
      rw [hc] at e
      have e2 := of_decide_eq_true e
      have e3 := h3 (e11 c (Or.inl hc))
      show Value.ref (gR S2 c) = Value.ref (gR S c)
      rcases e2 with rfl | rfl
      · rw [e3.1]
      · rw [e3.2.1]
    | (4, c) =>
      rw [hc] at e
      have e2 : c = 6 := of_decide_eq_true e
      have e3 := h3 (e11 c (Or.inr hc))
      subst e2
      show (match gR S2 6 with
        | 0 => Value.null
        | n + 1 => .ref (n + 1)) = match gR S 6 with
        | 0 => .null
        | n + 1 => .ref (n + 1)
      rw [e3.2.2]
    | (n + 5, c) =>
      rw [hc] at e
      cases e
  · have e4 : t = 20 ∨ t = 21 ∨ t = 22 ∨ t = 23 ∨ t = 24 ∨ t = 25 := by have a : 20 ≤ t := hq.1; have b : t ≤ 25 := hq.2; omega
    rcases e4 with rfl | rfl | rfl | rfl | rfl | rfl
    · show Sum.inl (0, n, gI S2 o) = _
      rw [h1]
      rfl
    · show Sum.inr (Sum.inl (n, gJ S2 o)) = _
      rw [h2]
      rfl
    · show Sum.inl (2, n, gI S2 o) = _
      rw [h1]
      rfl
    · rfl
    · rfl
    · obtain ⟨a, b, c⟩ := h4 rfl
      show Sum.inr (Sum.inr (Sum.inl (5, [am_kr (gR S2 1), am_kr (gR S2 2), am_kr (gR S2 3)]))) = _
      rw [a, b, c]
      rfl
theorem gI_uR {S : am_S} {c v : Nat} : gI (uR S c v) = gI S := rfl
theorem gJ_uR {S : am_S} {c v : Nat} : gJ (uR S c v) = gJ S := rfl
theorem gR_uR {S : am_S} {c v a : Nat} : gR (uR S c v) a = if a = c then v else gR S a := rfl
theorem kn_25 {m o : Nat} (h : o < 131 + 6 * m) (hk : (am_kn m o).1 = 25) : o = 66 := by
  unfold am_kn at hk
  by_cases h1 : o < 131
  · rw [show Nat.blt o 131 = true from Nat.blt_eq.mpr h1, cond_true] at hk
    have e : (List.range 131).all (fun o => decide ((am_kl.getD o (99, 0)).1 = 25 → o = 66)) = true := by decide +kernel
    exact of_decide_eq_true (all_range e h1) hk
  · rw [show Nat.blt o 131 = false from by rw [← Bool.not_eq_true, Nat.blt_eq]; exact h1, show Nat.blt o (131 + 6 * m) = true from Nat.blt_eq.mpr h, cond_false, cond_true] at hk
    exfalso
    revert hk
    match (o - 131) % 6 with
    | 0 => decide
    | 1 => decide
    | n + 2 => exact fun z => absurd z (show ¬ 20 = 25 by decide)
theorem kn_11 {m o : Nat} (h : o < 131 + 6 * m) (hk : (am_kn m o).1 = 11) : o = 97 := by
  unfold am_kn at hk
  by_cases h1 : o < 131
  · rw [show Nat.blt o 131 = true from Nat.blt_eq.mpr h1, cond_true] at hk
    have e : (List.range 131).all (fun o => decide ((am_kl.getD o (99, 0)).1 = 11 → o = 97)) = true := by decide +kernel
    exact of_decide_eq_true (all_range e h1) hk
  · rw [show Nat.blt o 131 = false from by rw [← Bool.not_eq_true, Nat.blt_eq]; exact h1, show Nat.blt o (131 + 6 * m) = true from Nat.blt_eq.mpr h, cond_false, cond_true] at hk
    exfalso
    revert hk
    match (o - 131) % 6 with
    | 0 => decide
    | 1 => decide
    | n + 2 => exact fun z => absurd z (show ¬ 20 = 11 by decide)
/-- a cell is set: all others as they were -/
theorem am_H_set {S S2 : am_S} {o : Nat} {e : am_E} (h0 : gR S2 0 = gR S 0) (h1 : am_ck S2 o (am_kn (gR S 0) o) = e) (h2 : ∀ a, a ≠ o → gI S2 a = gI S a) (h3 : ∀ a, a ≠ o → gJ S2 a = gJ S a) (h4 : (o = 97 ∨ (gR S2 4 = gR S 4 ∧ gR S2 5 = gR S 5 ∧ gR S2 6 = gR S 6))) (h5 : (o = 66 ∨ (gR S2 1 = gR S 1 ∧ gR S2 2 = gR S 2 ∧ gR S2 3 = gR S 3))) : (am_H S).set o e = am_H S2 := by
  apply List.ext_getElem?
  intro i
  simp only [am_H, List.getElem?_set, List.getElem?_map, List.length_map, List.length_range, h0]
  by_cases hi : o = i
  · subst hi
    rw [if_pos rfl]
    by_cases hl : o < 131 + 6 * gR S 0
    · rw [if_pos hl, List.getElem?_range hl, Option.map_some, h1]
    · rw [if_neg hl]
      have : (List.range (131 + 6 * gR S 0))[o]? = none := by simp; omega
      rw [this]
      rfl
  · rw [if_neg hi]
    by_cases hl : i < 131 + 6 * gR S 0
    · rw [List.getElem?_range hl, Option.map_some, Option.map_some, ck_cong (kn_kind hl) (h2 i (fun z => hi z.symm)) (h3 i (fun z => hi z.symm)) (fun hk => h4.resolve_left (fun z => hi (z.trans (kn_11 hl hk).symm))) (fun hk => h5.resolve_left (fun z => hi (z.trans (kn_25 hl hk).symm)))]
    · have : (List.range (131 + 6 * gR S 0))[i]? = none := by simp; omega
      rw [this]
      rfl
theorem am_H_putK {S : am_S} {j r : Nat} (hj : j < 3) : (am_H S).set 66 (.inr (.inr (.inl (5, [am_kr (gR S 1), am_kr (gR S 2), am_kr (gR S 3)].set j (some (131 + 6 * r)))))) = am_H (uR S (1 + j) (r + 1)) := by
  refine am_H_set (gR_uR.trans (if_neg (by omega))) ?_ (fun _ _ => rfl) (fun _ _ => rfl) (Or.inr ⟨gR_uR.trans (if_neg (by omega)), gR_uR.trans (if_neg (by omega)), gR_uR.trans (if_neg (by omega))⟩) (Or.inl rfl)
  match j, hj with
  | 0, _ => rfl
  | 1, _ => rfl
  | 2, _ => rfl
def newC (S : am_S) : am_S := (fun o k => if 131 + 6 * gR S 0 ≤ o then (if o = 131 + 6 * gR S 0 ∧ k = 2 then 1 else 0) else gI S o k, S.2.1, fun c => if c = 0 then gR S 0 + 1 else gR S c)
theorem newC_I {S : am_S} {o : Nat} (h : o < 131 + 6 * gR S 0) : gI (newC S) o = gI S o := funext fun k => if_neg (by omega)
theorem newC_H {S : am_S} : am_H (newC S) = am_H S ++ [.inr (.inr (.inr (0, [.int 0, .int 0, .int 1, .int 0, .ref (131 + 6 * gR S 0 + 1), .ref (131 + 6 * gR S 0 + 2), .ref (131 + 6 * gR S 0 + 3), .ref (131 + 6 * gR S 0 + 4), .ref (131 + 6 * gR S 0 + 5)]))), .inl (0, 200, fun _ => 0), .inl (0, 1200, fun _ => 0), .inl (0, 1200, fun _ => 0), .inl (0, 1200, fun _ => 0), .inl (0, 1200, fun _ => 0)] := by
  have e0 : gR (newC S) 0 = gR S 0 + 1 := rfl
  have kn : ∀ i, i < 6 → am_kn (gR S 0 + 1) (131 + 6 * gR S 0 + i) = (match i with
    | 0 => (0, 0)
    | 1 => (20, 200)
    | _ => (20, 1200)) := fun i hi => by
    unfold am_kn
    rw [show Nat.blt (131 + 6 * gR S 0 + i) 131 = false from by rw [← Bool.not_eq_true, Nat.blt_eq]; omega, show Nat.blt (131 + 6 * gR S 0 + i) (131 + 6 * (gR S 0 + 1)) = true from Nat.blt_eq.mpr (by omega), cond_false, cond_true, show (131 + 6 * gR S 0 + i - 131) % 6 = i by omega]
    match i with
    | 0 => rfl
    | 1 => rfl
    | n + 2 => rfl
  have gz : ∀ i, 0 < i → gI (newC S) (131 + 6 * gR S 0 + i) = fun _ => 0 := fun i hi => funext fun k => by
    show (if _ then _ else _) = _
    rw [if_pos (by omega), if_neg (by omega)]
  have g0 : ∀ k, gI (newC S) (131 + 6 * gR S 0) k = if k = 2 then 1 else 0 := fun k => by
    show (if _ then _ else _) = _
    rw [if_pos (Nat.le_refl _)]
    by_cases h : k = 2
    · rw [if_pos h, if_pos ⟨rfl, h⟩]
    · rw [if_neg h, if_neg (fun z => h z.2)]
  rw [am_H, e0, show 131 + 6 * (gR S 0 + 1) = 131 + 6 * gR S 0 + 1 + 1 + 1 + 1 + 1 + 1 by omega]
  simp only [List.range_succ, List.map_append, List.map_cons, List.map_nil, List.append_assoc, List.cons_append, List.nil_append]
  congr 1
  · rw [am_H]
    refine List.map_congr_left (fun o ho => ?_)
    have hlt := List.mem_range.mp ho
    have ek : am_kn (gR S 0 + 1) o = am_kn (gR S 0) o := by
      unfold am_kn
      by_cases h1 : o < 131
      · rw [show Nat.blt o 131 = true from Nat.blt_eq.mpr h1, cond_true, cond_true]
      · rw [show Nat.blt o 131 = false from by rw [← Bool.not_eq_true, Nat.blt_eq]; exact h1, show Nat.blt o (131 + 6 * gR S 0) = true from Nat.blt_eq.mpr hlt, show Nat.blt o (131 + 6 * (gR S 0 + 1)) = true from Nat.blt_eq.mpr (by omega)]
    rw [ek]
    exact ck_cong (kn_kind hlt) (newC_I hlt) rfl (fun _ => ⟨rfl, rfl, rfl⟩) (fun _ => ⟨rfl, rfl, rfl⟩)
  · have a0 := kn 0 (by omega)
    have a1 := kn 1 (by omega)
    have a2 := kn 2 (by omega)
    have a3 := kn 3 (by omega)
    have a4 := kn 4 (by omega)
    have a5 := kn 5 (by omega)
    simp only [Nat.add_zero] at a0
    rw [a0, a1, show 131 + 6 * gR S 0 + 1 + 1 = 131 + 6 * gR S 0 + 2 by omega, a2, show 131 + 6 * gR S 0 + 2 + 1 = 131 + 6 * gR S 0 + 3 by omega, a3, show 131 + 6 * gR S 0 + 3 + 1 = 131 + 6 * gR S 0 + 4 by omega, a4, show 131 + 6 * gR S 0 + 4 + 1 = 131 + 6 * gR S 0 + 5 by omega, a5]
    have c0 : am_ck (newC S) (131 + 6 * gR S 0) (0, 0) = .inr (.inr (.inr (0, [.int 0, .int 0, .int 1, .int 0, .ref (131 + 6 * gR S 0 + 1), .ref (131 + 6 * gR S 0 + 2), .ref (131 + 6 * gR S 0 + 3), .ref (131 + 6 * gR S 0 + 4), .ref (131 + 6 * gR S 0 + 5)]))) := by
      show Sum.inr (Sum.inr (Sum.inr (0, [Value.int (gI (newC S) (131 + 6 * gR S 0) 0), .int (gI (newC S) (131 + 6 * gR S 0) 1), .int (gI (newC S) (131 + 6 * gR S 0) 2), .int (gI (newC S) (131 + 6 * gR S 0) 3), .ref _, .ref _, .ref _, .ref _, .ref _]))) = _
      rw [g0, g0, g0, g0]
      rfl
    have cA : ∀ i n, 0 < i → am_ck (newC S) (131 + 6 * gR S 0 + i) (20, n) = .inl (0, n, fun _ => 0) := fun i n hi => by
      show Sum.inl (0, n, gI (newC S) (131 + 6 * gR S 0 + i)) = _
      rw [gz i hi]
    rw [c0]
    show [_, am_ck (newC S) (131 + 6 * gR S 0 + 1) (20, 200), am_ck (newC S) (131 + 6 * gR S 0 + 2) (20, 1200), am_ck (newC S) (131 + 6 * gR S 0 + 3) (20, 1200), am_ck (newC S) (131 + 6 * gR S 0 + 4) (20, 1200), am_ck (newC S) (131 + 6 * gR S 0 + 5) (20, 1200)] = _
    rw [cA 1 _ (by omega), cA 2 _ (by omega), cA 3 _ (by omega), cA 4 _ (by omega), cA 5 _ (by omega)]
