/-! The class's fewest minutes are the reference's. -/
theorem wl_min {P : Nat → Prop} : ∀ N n, n ≤ N → P n → ∃ a, P a ∧ ∀ m, P m → a ≤ m
  | 0, n, h, hp => ⟨n, hp, fun m _ => by omega⟩
  | N + 1, n, h, hp => by
    by_cases e : ∃ m, P m ∧ m < n
    · obtain ⟨m, hm, hl⟩ := e
      exact wl_min N m (by omega) hm
    · exact ⟨n, hp, fun m hm => Nat.le_of_not_lt (fun z => e ⟨m, hm, z⟩)⟩
/-- two of more than there are places stand on one -/
theorem wl_php : ∀ (n : Nat) (f : Nat → Nat), (∀ i, i ≤ n → f i < n) → ∃ i j, i < j ∧ j ≤ n ∧ f i = f j
  | 0, f, h => absurd (h 0 (Nat.le_refl _)) (Nat.not_lt_zero _)
  | n + 1, f, h => by
    by_cases e : ∃ i, i ≤ n ∧ f i = f (n + 1)
    · obtain ⟨i, h1, h2⟩ := e
      exact ⟨i, n + 1, by omega, Nat.le_refl _, h2⟩
    · have e2 : ∀ i, i ≤ n → ¬ f i = f (n + 1) := fun i hi z => e ⟨i, hi, z⟩
      obtain ⟨i, j, h1, h2, h3⟩ := wl_php n (fun i => if f i = n then f (n + 1) else f i) (fun i hi => by
        have a := h i (by omega)
        have b := h (n + 1) (Nat.le_refl _)
        have c := e2 i hi
        show (if f i = n then f (n + 1) else f i) < n
        split <;> omega)
      have c1 := e2 i (by omega)
      have c2 := e2 j h2
      have h3 : (if f i = n then f (n + 1) else f i) = (if f j = n then f (n + 1) else f j) := h3
      refine ⟨i, j, h1, by omega, ?_⟩
      split at h3 <;> split at h3 <;> omega
theorem leastN_at {f : Nat → Nat} : ∀ n q, q < n → leastN f n ≤ f q
  | 0, q, h => absurd h (Nat.not_lt_zero _)
  | n + 1, q, h => by
    unfold leastN
    by_cases e : q = n
    · rw [e]; exact Nat.min_le_right _ _
    · exact Nat.le_trans (Nat.min_le_left _ _) (leastN_at n q (by omega))
theorem leastN_ex {f : Nat → Nat} : ∀ n, leastN f n < 1000000 → ∃ q, q < n ∧ f q = leastN f n
  | 0, h => absurd h (by unfold leastN; omega)
  | n + 1, h => by
    unfold leastN at h ⊢
    by_cases e : leastN f n ≤ f n
    · have m : min (leastN f n) (f n) = leastN f n := Nat.min_eq_left e
      rw [m] at h ⊢
      obtain ⟨q, a, b⟩ := leastN_ex n h
      exact ⟨q, by omega, b⟩
    · have m : min (leastN f n) (f n) = f n := Nat.min_eq_right (by omega)
      rw [m]
      exact ⟨n, by omega, rfl⟩
/-- the least, and of equal ones by the fewest -/
def WB (S : am_S) (lt th : Nat → Nat) (last v c k : Nat) : Prop := c < 1000000 ∧ fewN S lt th last k v = c ∧ ∀ j, c ≤ fewN S lt th last j v ∧ (fewN S lt th last j v = c → k ≤ j)
section WAY
variable {S : am_S} {lt th : Nat → Nat} {last n : Nat}
theorem few_up {v q k : Nat} (h : nearP S v q) (hq : q < 6) : fewN S lt th last (k + 1) v ≤ lt q + th q + fewN S lt th last k q := by
  rw [fewN_s]
  have e := leastN_at (f := fun q => byN S lt th last v q k) 6 q hq
  have e2 : byN S lt th last v q k = lt q + th q + fewN S lt th last k q := if_pos h
  omega
theorem few_dn {v k : Nat} (h : fewN S lt th last (k + 1) v < 1000000) : ∃ q, q < 6 ∧ nearP S v q ∧ fewN S lt th last (k + 1) v = lt q + th q + fewN S lt th last k q ∧ fewN S lt th last k q < 1000000 := by
  rw [fewN_s] at h ⊢
  obtain ⟨q, a, b⟩ := leastN_ex 6 h
  rw [← b] at h ⊢
  have b2 : byN S lt th last v q k = (if nearP S v q then lt q + th q + fewN S lt th last k q else 1000000) := rfl
  by_cases e : nearP S v q
  · rw [if_pos e] at b2
    exact ⟨q, a, e, b2, by have : byN S lt th last v q k < 1000000 := h
                           omega⟩
  · rw [if_neg e] at b2
    have : byN S lt th last v q k < 1000000 := h
    omega
theorem wb_ex {v j : Nat} (h : fewN S lt th last j v < 1000000) : ∃ c k, WB S lt th last v c k := by
  obtain ⟨c, ⟨j1, hc⟩, hm⟩ := wl_min (P := fun c => ∃ j, fewN S lt th last j v = c) _ _ (Nat.le_refl _) ⟨j, rfl⟩
  obtain ⟨k, hk, hm2⟩ := wl_min (P := fun k => fewN S lt th last k v = c) _ _ (Nat.le_refl _) hc
  refine ⟨c, k, ?_, hk, fun i => ⟨hm _ ⟨i, rfl⟩, fun z => hm2 i z⟩⟩
  have := hm _ ⟨j, rfl⟩
  omega
theorem wb_u {v c k c2 k2 : Nat} (h : WB S lt th last v c k) (h2 : WB S lt th last v c2 k2) : c = c2 ∧ k = k2 := by
  have a1 := h.2.2 k2
  have a2 := h2.2.2 k
  have b1 := h.2.1
  have b2 := h2.2.1
  have e : c = c2 := by omega
  subst e
  have d1 := a1.2 b2
  have d2 := a2.2 b1
  exact ⟨rfl, by omega⟩
/-- who is near whom: both ways, of those who are there -/
def WN (S : am_S) (n : Nat) : Prop := n ≤ 6 ∧ ∀ v q, v < 6 → q < 6 → nearP S v q → v < n ∧ q < n ∧ v ≠ q ∧ nearP S q v
theorem few_n (hN : WN S n) (hl : last < 6) {k v : Nat} (hv : v < 6) (h : fewN S lt th last k v < 1000000) : v < n := by
  cases k with
  | zero =>
    unfold fewN at h
    split at h
    · rename_i e
      exact (hN.2 last v hl hv e).2.1
    · omega
  | succ k =>
    obtain ⟨q, hq, e, -⟩ := few_dn h
    exact (hN.2 v q hv hq e).1
theorem wb_q (hN : WN S n) (hl : last < 6) {v q c k : Nat} (hv : v < 6) (hvl : v ≠ last) (hq : q < 6) (hW : WB S lt th last v c (k + 1)) (hn : nearP S v q) (hc : lt q + th q + fewN S lt th last k q = c) : q ≠ last ∧ WB S lt th last q (fewN S lt th last k q) k := by
  obtain ⟨h1, h2, h3⟩ := hW
  refine ⟨fun z => ?_, by omega, rfl, fun j => ?_⟩
  · subst z
    have e : fewN S lt th q 0 v = lt q := if_pos (hN.2 v q hv hq hn).2.2.2
    have a := h3 0
    rw [e] at a
    have b := a.2 (by omega)
    omega
  · have a := few_up (S := S) (lt := lt) (th := th) (last := last) (k := j) hn hq
    have b := h3 (j + 1)
    refine ⟨by omega, fun z => ?_⟩
    have := b.2 (by omega)
    omega
theorem wb_step (hN : WN S n) (hl : last < 6) {v c k : Nat} (hv : v < 6) (hvl : v ≠ last) (hW : WB S lt th last v c (k + 1)) : ∃ q, q < 6 ∧ nearP S v q ∧ q ≠ last ∧ ∃ c2, WB S lt th last q c2 k ∧ c = lt q + th q + c2 := by
  obtain ⟨q, hq, a, b, e⟩ := few_dn (S := S) (lt := lt) (th := th) (last := last) (k := k) (v := v) (by rw [hW.2.1]; exact hW.1)
  rw [hW.2.1] at b
  obtain ⟨f, g⟩ := wb_q hN hl hv hvl hq hW a b.symm
  exact ⟨q, hq, a, f, _, g, b⟩
theorem wb_chain (hN : WN S n) (hl : last < 6) : ∀ k v c, v < 6 → v ≠ last → WB S lt th last v c k → ∃ u : Nat → Nat, ∀ j, j ≤ k → u j < 6 ∧ u j ≠ last ∧ ∃ c2, WB S lt th last (u j) c2 j
  | 0, v, c, hv, hvl, hW => ⟨fun _ => v, fun j hj => ⟨hv, hvl, c, by
    obtain rfl : j = 0 := by omega
    exact hW⟩⟩
  | k + 1, v, c, hv, hvl, hW => by
    obtain ⟨q, hq, -, hql, c2, hW2, -⟩ := wb_step hN hl hv hvl hW
    obtain ⟨u, hu⟩ := wb_chain hN hl k q c2 hq hql hW2
    refine ⟨fun j => if j = k + 1 then v else u j, fun j hj => ?_⟩
    by_cases e : j = k + 1
    · subst e
      show (if k + 1 = k + 1 then v else u (k + 1)) < 6 ∧ (if k + 1 = k + 1 then v else u (k + 1)) ≠ last ∧ ∃ c2, WB S lt th last (if k + 1 = k + 1 then v else u (k + 1)) c2 (k + 1)
      rw [if_pos rfl]
      exact ⟨hv, hvl, c, hW⟩
    · show (if j = k + 1 then v else u j) < 6 ∧ (if j = k + 1 then v else u j) ≠ last ∧ ∃ c2, WB S lt th last (if j = k + 1 then v else u j) c2 j
      rw [if_neg e]
      exact hu j (by omega)
theorem wb_k (hN : WN S n) (hl : last < n) {v c k : Nat} (hv : v < 6) (hvl : v ≠ last) (hW : WB S lt th last v c k) : k + 2 ≤ n := by
  have hl6 : last < 6 := by have := hN.1; omega
  obtain ⟨u, hu⟩ := wb_chain hN hl6 k v c hv hvl hW
  apply Decidable.byContradiction
  intro hc
  obtain ⟨i, j, h1, h2, h3⟩ := wl_php n (fun i => if i ≤ k then u i else last) (fun i hi => by
    show (if i ≤ k then u i else last) < n
    split
    · obtain ⟨a, b, c2, d⟩ := hu i (by assumption)
      exact few_n (lt := lt) (th := th) (k := i) hN hl6 a (by rw [d.2.1]; exact d.1)
    · exact hl)
  have h3 : (if i ≤ k then u i else last) = (if j ≤ k then u j else last) := h3
  rw [if_pos (by omega)] at h3
  obtain ⟨a, b, c2, d⟩ := hu i (by omega)
  by_cases e : j ≤ k
  · rw [if_pos e] at h3
    obtain ⟨a1, b1, c3, d1⟩ := hu j e
    rw [← h3] at d1
    have := (wb_u d d1).2
    omega
  · rw [if_neg e] at h3
    exact b h3
theorem bstN_sp (f : Nat → Nat) : ∀ K, f (bstN f K).2 = (bstN f K).1 ∧ (bstN f K).2 ≤ K ∧ ∀ j, j ≤ K → (bstN f K).1 ≤ f j ∧ (f j = (bstN f K).1 → (bstN f K).2 ≤ j)
  | 0 => ⟨rfl, Nat.le_refl _, fun j hj => by
    obtain rfl : j = 0 := by omega
    exact ⟨Nat.le_refl _, fun _ => Nat.le_refl _⟩⟩
  | K + 1 => by
    obtain ⟨a, b, c⟩ := bstN_sp f K
    unfold bstN
    by_cases h : f (K + 1) < (bstN f K).1
    · rw [if_pos h]
      refine ⟨rfl, Nat.le_refl _, fun j hj => ?_⟩
      by_cases e : j = K + 1
      · rw [e]
        exact ⟨Nat.le_refl _, fun _ => Nat.le_refl _⟩
      · have := c j (by omega)
        exact ⟨by omega, fun z => by omega⟩
    · rw [if_neg h]
      refine ⟨a, by omega, fun j hj => ?_⟩
      by_cases e : j = K + 1
      · rw [e]
        exact ⟨by omega, fun z => by omega⟩
      · exact c j (by omega)
theorem wb_bst (hN : WN S n) (hl : last < n) {v : Nat} (hv : v < 6) (hvl : v ≠ last) (h : (bstW S lt th v last 4).1 < 1000000) : WB S lt th last v (bstW S lt th v last 4).1 (bstW S lt th v last 4).2 := by
  obtain ⟨a, b, c⟩ := bstN_sp (fun k => fewN S lt th last k v) 4
  have ed : bstW S lt th v last 4 = bstN (fun k => fewN S lt th last k v) 4 := rfl
  rw [ed] at h ⊢
  generalize bstN (fun k => fewN S lt th last k v) 4 = x at *
  have a : fewN S lt th last x.2 v = x.1 := a
  obtain ⟨c0, k0, hW⟩ := wb_ex (S := S) (lt := lt) (th := th) (last := last) (v := v) (j := x.2) (by rw [a]; exact h)
  have hk := wb_k hN hl hv hvl hW
  have hn := hN.1
  have d := c k0 (by omega)
  have d : x.1 ≤ fewN S lt th last k0 v ∧ (fewN S lt th last k0 v = x.1 → x.2 ≤ k0) := d
  have f := hW.2.2 x.2
  rw [hW.2.1] at d
  rw [a] at f
  have e1 : c0 = x.1 := by omega
  have e2 : k0 = x.2 := by
    have := d.2 e1
    have := f.2 e1.symm
    omega
  rw [e1, e2] at hW
  exact hW
theorem wb_inf (hN : WN S n) (hl : last < n) {v : Nat} (hv : v < 6) (hvl : v ≠ last) (h : ¬ (bstW S lt th v last 4).1 < 1000000) (j : Nat) : ¬ fewN S lt th last j v < 1000000 := fun z => by
  obtain ⟨c0, k0, hW⟩ := wb_ex z
  have hk := wb_k hN hl hv hvl hW
  have hn := hN.1
  obtain ⟨a, b, c⟩ := bstN_sp (fun k => fewN S lt th last k v) 4
  have d := (c k0 (by omega)).1
  have d : (bstW S lt th v last 4).1 ≤ fewN S lt th last k0 v := d
  rw [hW.2.1] at d
  have := hW.1
  omega
def WL (lt th : Nat → Nat) : Prop := ∀ p, p < 6 → lt p ≤ 20 ∧ th p ≤ 9
theorem few_bd (hB : WL lt th) (hl : last < 6) : ∀ k v, v < 6 → fewN S lt th last k v < 1000000 → fewN S lt th last k v ≤ 20 + 29 * k
  | 0, v, hv, h => by
    unfold fewN at h ⊢
    have := hB last hl
    split at h
    · rw [if_pos (by assumption)]
      omega
    · omega
  | k + 1, v, hv, h => by
    obtain ⟨q, a, b, c, d⟩ := few_dn h
    have e := few_bd hB hl k q a d
    have := hB q a
    omega
/-- minutes and steps in one number -/
def wX (S : am_S) (lt th : Nat → Nat) (last v : Nat) : Nat := if v = last then 0 else if (bstW S lt th v last 4).1 < 1000000 then 16 * (bstW S lt th v last 4).1 + (bstW S lt th v last 4).2 + 1 else 1000000
theorem wX_l : wX S lt th last last = 0 := if_pos rfl
theorem wX_wb (hN : WN S n) (hB : WL lt th) (hl : last < n) {v c k : Nat} (hv : v < 6) (hvl : v ≠ last) (hW : WB S lt th last v c k) : wX S lt th last v = 16 * c + k + 1 ∧ k + 2 ≤ n ∧ c ≤ 136 := by
  have hk := wb_k hN hl hv hvl hW
  have hn := hN.1
  have hb := few_bd (S := S) hB (by omega : last < 6) k v hv (by rw [hW.2.1]; exact hW.1)
  rw [hW.2.1] at hb
  refine ⟨?_, hk, by omega⟩
  unfold wX
  by_cases e : (bstW S lt th v last 4).1 < 1000000
  · have hW2 := wb_bst hN hl hv hvl e
    obtain ⟨e1, e2⟩ := wb_u hW hW2
    rw [if_neg hvl, if_pos e, e1, e2]
  · exact absurd (by rw [hW.2.1]; exact hW.1) (wb_inf hN hl hv hvl e k)
theorem wX_cs (hN : WN S n) (hB : WL lt th) (hl : last < n) {v : Nat} (hv : v < 6) (hvl : v ≠ last) : (∃ c k, WB S lt th last v c k ∧ wX S lt th last v = 16 * c + k + 1 ∧ k + 2 ≤ n ∧ c ≤ 136) ∨ (wX S lt th last v = 1000000 ∧ ∀ j, ¬ fewN S lt th last j v < 1000000) := by
  by_cases e : (bstW S lt th v last 4).1 < 1000000
  · have hW := wb_bst hN hl hv hvl e
    exact Or.inl ⟨_, _, hW, wX_wb hN hB hl hv hvl hW⟩
  · refine Or.inr ⟨?_, fun j => wb_inf hN hl hv hvl e j⟩
    unfold wX
    rw [if_neg hvl, if_neg e]
theorem wb_le (hN : WN S n) (hB : WL lt th) (hl : last < n) {v j : Nat} (hv : v < 6) (hvl : v ≠ last) (h : fewN S lt th last j v < 1000000) : wX S lt th last v ≤ 16 * fewN S lt th last j v + j + 1 := by
  obtain ⟨c, k, hW⟩ := wb_ex h
  obtain ⟨e, h1, h2⟩ := wX_wb hN hB hl hv hvl hW
  have hn := hN.1
  have a := hW.2.2 j
  rw [e]
  by_cases z : fewN S lt th last j v = c
  · have := a.2 z
    omega
  · omega
theorem wX_edge (hN : WN S n) (hB : WL lt th) (hl : last < n) {v q : Nat} (hv : v < 6) (hq : q < 6) (hvl : v ≠ last) (hn : nearP S v q) (hX : wX S lt th last q < 1000000) : wX S lt th last v ≤ wX S lt th last q + stpN lt th last q := by
  have hn6 := hN.1
  unfold stpN
  by_cases e : q = last
  · subst e
    rw [wX_l, if_pos rfl]
    have e0 : fewN S lt th q 0 v = lt q := if_pos (hN.2 v q hv hq hn).2.2.2
    have := (hB q hq).1
    have a := wb_le (j := 0) hN hB hl hv hvl (by rw [e0]; omega)
    rw [e0] at a
    omega
  · rw [if_neg e]
    rcases wX_cs hN hB hl hq e with ⟨c, k, hW, e1, e2, e3⟩ | ⟨e1, -⟩
    · have u := few_up (S := S) (lt := lt) (th := th) (last := last) (k := k) hn hq
      rw [hW.2.1] at u
      have := hB q hq
      have a := wb_le (j := k + 1) hN hB hl hv hvl (by omega)
      omega
    · omega
/-! the reference's rounds -/
variable {T : am_S}
theorem far1_d {F : Nat → Nat} {v q a : Nat} : far1 T lt th last F v q a ≤ F a := by
  unfold far1
  split
  · rename_i h
    rw [h.1]
    exact Nat.min_le_right _ _
  · exact Nat.le_refl _
theorem farQ_d {F : Nat → Nat} {v a : Nat} : ∀ m i, farQ T lt th last F v (i + m) a ≤ farQ T lt th last F v i a
  | 0, i => Nat.le_refl _
  | m + 1, i => Nat.le_trans (by rw [← Nat.add_assoc, farQ]; exact far1_d) (farQ_d m i)
theorem farQ_0 {F : Nat → Nat} {v a m : Nat} : farQ T lt th last F v m a ≤ F a := by
  have := farQ_d (T := T) (lt := lt) (th := th) (last := last) (F := F) (v := v) (a := a) m 0
  rw [Nat.zero_add] at this
  exact this
theorem farV_d {F : Nat → Nat} {a : Nat} : ∀ m i, farV T lt th last n F (i + m) a ≤ farV T lt th last n F i a
  | 0, i => Nat.le_refl _
  | m + 1, i => Nat.le_trans (by rw [← Nat.add_assoc, farV]; exact farQ_0) (farV_d m i)
theorem farV_0 {F : Nat → Nat} {a m : Nat} : farV T lt th last n F m a ≤ F a := by
  have := farV_d (T := T) (lt := lt) (th := th) (last := last) (n := n) (F := F) (a := a) m 0
  rw [Nat.zero_add] at this
  exact this
theorem farR_l : ∀ r, farR T lt th last n r last = 0
  | 0 => if_pos rfl
  | r + 1 => by
    have a : farR T lt th last n (r + 1) last ≤ farR T lt th last n r last := farV_0
    rw [farR_l r] at a
    omega
theorem farV_go {F : Nat → Nat} {v q : Nat} (hvl : v ≠ last) (hv : v < n) (hq : q < n) (h : nrM T v q) (hF : F q < 1000000) : farV T lt th last n F n v ≤ F q + stpN lt th last q := by
  have e1 : farV T lt th last n F n v ≤ farV T lt th last n F (v + 1) v := by
    have := farV_d (T := T) (lt := lt) (th := th) (last := last) (n := n) (F := F) (a := v) (n - (v + 1)) (v + 1)
    rw [show v + 1 + (n - (v + 1)) = n by omega] at this
    exact this
  have a0 : farV T lt th last n F v q ≤ F q := farV_0
  have e2 : farV T lt th last n F (v + 1) v ≤ farV T lt th last n F v q + stpN lt th last q := by
    rw [farV]
    generalize farV T lt th last n F v = G at a0
    have b1 : farQ T lt th last G v n v ≤ farQ T lt th last G v (q + 1) v := by
      have := farQ_d (T := T) (lt := lt) (th := th) (last := last) (F := G) (v := v) (a := v) (n - (q + 1)) (q + 1)
      rw [show q + 1 + (n - (q + 1)) = n by omega] at this
      exact this
    have b0 : farQ T lt th last G v q q ≤ G q := farQ_0
    have b2 : farQ T lt th last G v (q + 1) v ≤ farQ T lt th last G v q q + stpN lt th last q := by
      rw [farQ, far1, if_pos ⟨rfl, hvl, h, by omega⟩]
      exact Nat.min_le_left _ _
    omega
  omega
/-- the same near ones on both sides -/
def WE (S T : am_S) : Prop := ∀ v q, v < 6 → q < 6 → (nearP S v q ↔ nrM T v q)
theorem far1_g (hN : WN S n) (hB : WL lt th) (hl : last < n) (hE : WE S T) {F : Nat → Nat} {v q : Nat} (hv : v < 6) (hq : q < 6) (h : ∀ a, a < 6 → wX S lt th last a ≤ F a) : ∀ a, a < 6 → wX S lt th last a ≤ far1 T lt th last F v q a := fun a ha => by
  unfold far1
  split
  · rename_i e
    obtain ⟨e1, e2, e3, e4⟩ := e
    subst e1
    have b := h q hq
    have c := wX_edge hN hB hl hv hq e2 ((hE a q hv hq).mpr e3) (by omega)
    have d := h a ha
    refine Nat.le_min.mpr ⟨by omega, d⟩
  · exact h a ha
theorem farQ_g (hN : WN S n) (hB : WL lt th) (hl : last < n) (hE : WE S T) {F : Nat → Nat} {v : Nat} (hv : v < 6) (h : ∀ a, a < 6 → wX S lt th last a ≤ F a) : ∀ m, m ≤ 6 → ∀ a, a < 6 → wX S lt th last a ≤ farQ T lt th last F v m a
  | 0, _ => h
  | m + 1, hm => far1_g hN hB hl hE hv (by omega) (farQ_g hN hB hl hE hv h m (by omega))
theorem farV_g (hN : WN S n) (hB : WL lt th) (hl : last < n) (hE : WE S T) {F : Nat → Nat} (h : ∀ a, a < 6 → wX S lt th last a ≤ F a) : ∀ m, m ≤ 6 → ∀ a, a < 6 → wX S lt th last a ≤ farV T lt th last n F m a
  | 0, _ => h
  | m + 1, hm => farQ_g hN hB hl hE (by omega) (farV_g hN hB hl hE h m (by omega)) n hN.1
theorem wX_le (hN : WN S n) (hB : WL lt th) (hl : last < n) {v : Nat} (hv : v < 6) : wX S lt th last v ≤ 1000000 := by
  by_cases e : v = last
  · rw [e, wX_l]; omega
  · have hn := hN.1
    rcases wX_cs hN hB hl hv e with ⟨c, k, hW, e1, e2, e3⟩ | ⟨e1, -⟩ <;> omega
theorem farR_g (hN : WN S n) (hB : WL lt th) (hl : last < n) (hE : WE S T) : ∀ r, ∀ a, a < 6 → wX S lt th last a ≤ farR T lt th last n r a
  | 0, a, ha => by
    unfold farR far0
    split
    · rename_i e
      rw [e, wX_l]
      exact Nat.le_refl _
    · exact wX_le hN hB hl ha
  | r + 1, a, ha => farV_g hN hB hl hE (farR_g hN hB hl hE r) n hN.1 a ha
theorem farR_u (hN : WN S n) (hB : WL lt th) (hl : last < n) (hE : WE S T) : ∀ r v c k, v < 6 → v ≠ last → WB S lt th last v c k → k + 1 ≤ r → farR T lt th last n r v ≤ 16 * c + k + 1
  | 0, v, c, k, _, _, _, h => by omega
  | r + 1, v, c, k, hv, hvl, hW, h => by
    have hn := hN.1
    obtain ⟨-, hk, hc⟩ := wX_wb hN hB hl hv hvl hW
    have hvn : v < n := few_n (lt := lt) (th := th) (last := last) (k := k) hN (by omega) hv (by rw [hW.2.1]; exact hW.1)
    cases k with
    | zero =>
      have e0 : nearP S last v := by
        have a := hW.2.1
        unfold fewN at a
        by_cases z : nearP S last v
        · exact z
        · rw [if_neg z] at a
          omega
      have e1 : c = lt last := by
        have a := hW.2.1
        unfold fewN at a
        rw [if_pos e0] at a
        exact a.symm
      have e2 := (hN.2 last v (by omega) hv e0).2.2.2
      have g := farV_go (T := T) (lt := lt) (th := th) (last := last) (F := farR T lt th last n r) hvl hvn hl ((hE v last hv (by omega)).mp e2) (by rw [farR_l]; omega)
      rw [farR_l] at g
      have g : farR T lt th last n (r + 1) v ≤ 0 + stpN lt th last last := g
      unfold stpN at g
      rw [if_pos rfl] at g
      omega
    | succ k =>
      obtain ⟨q, hq, hvq, hql, c2, hW2, e⟩ := wb_step hN (by omega) hv hvl hW
      have u := farR_u hN hB hl hE r q c2 k hq hql hW2 (by omega)
      have g := farV_go (T := T) (lt := lt) (th := th) (last := last) (F := farR T lt th last n r) hvl hvn (hN.2 v q hv hq hvq).2.1 ((hE v q hv hq).mp hvq) (by omega)
      have g : farR T lt th last n (r + 1) v ≤ farR T lt th last n r q + stpN lt th last q := g
      unfold stpN at g
      rw [if_neg hql] at g
      omega
theorem farR_X (hN : WN S n) (hB : WL lt th) (hl : last < n) (hE : WE S T) {v : Nat} (hv : v < 6) : farR T lt th last n n v = wX S lt th last v := by
  have g := farR_g hN hB hl hE n v hv
  by_cases e : v = last
  · subst e
    rw [farR_l, wX_l]
  · rcases wX_cs hN hB hl hv e with ⟨c, k, hW, e1, e2, e3⟩ | ⟨e1, -⟩
    · have u := farR_u hN hB hl hE n v c k hv e hW (by omega)
      omega
    · have u := farR_le (S := T) (lt := lt) (th := th) (last := last) (n := n) n v
      omega
theorem mnV_bst (hN : WN S n) (hB : WL lt th) (hl : last < n) (hE : WE S T) {v : Nat} (hv : v < 6) (hvl : v ≠ last) : mnV T lt th n v last = (bstW S lt th v last 4).1 := by
  unfold mnV mnM
  rw [farR_X hN hB hl hE hv]
  have b := (bstN_le (fun k => fewN S lt th last k v) (fun k => fewN_le (hB last (by have := hN.1; omega)).1 k v) 4).1
  have b : (bstW S lt th v last 4).1 ≤ 1000000 := b
  unfold wX
  rw [if_neg hvl]
  by_cases e : (bstW S lt th v last 4).1 < 1000000
  · rw [if_pos e]
    have hW := wb_bst hN hl hv hvl e
    obtain ⟨e1, e2, e3⟩ := wX_wb hN hB hl hv hvl hW
    have hn := hN.1
    rw [if_neg (by omega)]
    omega
  · rw [if_neg e, if_pos rfl]
    omega
/-! who passes it on -/
theorem fstF_cg {p q : Nat → Prop} [DecidablePred p] [DecidablePred q] : ∀ f a, (∀ x, a ≤ x → x < a + f → (p x ↔ q x)) → fstF p a f = fstF q a f
  | 0, _, _ => rfl
  | f + 1, a, h => by
    unfold fstF
    have h0 := h a (Nat.le_refl _) (by omega)
    by_cases hp : p a
    · rw [if_pos hp, if_pos (h0.mp hp)]
    · rw [if_neg hp, if_neg (fun z => hp (h0.mpr z)), fstF_cg f (a + 1) (fun x h1 h2 => h x (by omega) (by omega))]
theorem fstF_1 {p : Nat → Prop} [DecidablePred p] : ∀ f a, (∃ x, a ≤ x ∧ x < a + f + 1 ∧ p x) → fstF p a f = fstF p a (f + 1)
  | 0, a, h => by
    obtain ⟨x, h1, h2, h3⟩ := h
    obtain rfl : x = a := by omega
    unfold fstF
    rw [if_pos h3]
  | f + 1, a, h => by
    rw [fstF, fstF]
    by_cases hp : p a
    · rw [if_pos hp, if_pos hp]
    · rw [if_neg hp, if_neg hp]
      refine fstF_1 f (a + 1) ?_
      obtain ⟨x, h1, h2, h3⟩ := h
      refine ⟨x, ?_, by omega, h3⟩
      apply Decidable.byContradiction
      intro z
      obtain rfl : x = a := by omega
      exact hp h3
theorem wy_s (hN : WN S n) (hB : WL lt th) (hl : last < n) (hE : WE S T) {F : Nat → Nat} (hF : ∀ a, a < 6 → F a = wX S lt th last a) {v q c k : Nat} (hv : v < 6) (hvl : v ≠ last) (hW : WB S lt th last v c (k + 1)) (hq : q < 6) : byN S lt th last v q k = fewN S lt th last (k + 1) v ↔ wyP T lt th last F v q := by
  have hn := hN.1
  obtain ⟨x1, x2, x3⟩ := wX_wb hN hB hl hv hvl hW
  have hf := hW.2.1
  have hc := hW.1
  unfold wyP
  rw [hf, hF q hq, hF v hv, x1]
  have b2 : byN S lt th last v q k = (if nearP S v q then lt q + th q + fewN S lt th last k q else 1000000) := rfl
  constructor
  · intro h
    rw [h] at b2
    by_cases e : nearP S v q
    · rw [if_pos e] at b2
      obtain ⟨f, g⟩ := wb_q hN (by omega) hv hvl hq hW e b2.symm
      obtain ⟨y1, y2, y3⟩ := wX_wb hN hB hl hq f g
      refine ⟨(hE v q hv hq).mp e, by omega, ?_⟩
      unfold stpN
      rw [if_neg f]
      omega
    · rw [if_neg e] at b2
      omega
  · rintro ⟨h1, h2, h3⟩
    have e := (hE v q hv hq).mpr h1
    rw [b2, if_pos e]
    unfold stpN at h3
    by_cases f : q = last
    · rw [if_pos f] at h3
      subst f
      rw [wX_l] at h3
      omega
    · rw [if_neg f] at h3
      rcases wX_cs hN hB hl hq f with ⟨c2, k2, hW2, e1, e2, e3⟩ | ⟨e1, -⟩
      · have : k2 = k := by omega
        subst this
        rw [hW2.2.1]
        omega
      · omega
theorem wy_0 (hN : WN S n) (hB : WL lt th) (hl : last < n) (hE : WE S T) {F : Nat → Nat} (hF : ∀ a, a < 6 → F a = wX S lt th last a) {v q c : Nat} (hv : v < 6) (hvl : v ≠ last) (hW : WB S lt th last v c 0) (hq : q < 6) : wyP T lt th last F v q ↔ q = last := by
  have hn := hN.1
  obtain ⟨x1, x2, x3⟩ := wX_wb hN hB hl hv hvl hW
  have hf := hW.2.1
  have hc := hW.1
  unfold fewN at hf
  unfold wyP
  rw [hF q hq, hF v hv, x1]
  have e0 : nearP S last v := by
    by_cases z : nearP S last v
    · exact z
    · rw [if_neg z] at hf
      omega
  rw [if_pos e0] at hf
  constructor
  · rintro ⟨h1, h2, h3⟩
    unfold stpN at h3
    apply Decidable.byContradiction
    intro f
    rw [if_neg f] at h3
    rcases wX_cs hN hB hl hq f with ⟨c2, k2, hW2, e1, e2, e3⟩ | ⟨e1, -⟩
    · omega
    · omega
  · intro f
    subst f
    refine ⟨(hE v q hv hq).mp (hN.2 q v hq hv e0).2.2.2, by rw [wX_l]; omega, ?_⟩
    unfold stpN
    rw [if_pos rfl, wX_l]
    omega
theorem at_eq (hN : WN S n) (hB : WL lt th) (hl : last < n) (hE : WE S T) {F : Nat → Nat} (hF : ∀ a, a < 6 → F a = wX S lt th last a) {one c P : Nat} (h1 : one < 6) (h1l : one ≠ last) (hW : WB S lt th last one c P) : ∀ j, j ≤ P → atN S lt th one last P j = atM T lt th last F one j ∧ atM T lt th last F one j < 6 ∧ atM T lt th last F one j ≠ last ∧ ∃ c2, WB S lt th last (atM T lt th last F one j) c2 (P - j)
  | 0, _ => ⟨rfl, h1, h1l, c, hW⟩
  | j + 1, hj => by
    obtain ⟨e1, e2, e3, c2, hW2⟩ := at_eq hN hB hl hE hF h1 h1l hW j (by omega)
    obtain ⟨k, hk⟩ : ∃ k, P - j = k + 1 := ⟨P - j - 1, by omega⟩
    have hk2 : P - (j + 1) = k := by omega
    rw [hk] at hW2
    have ex : ∃ q, q < 6 ∧ wyP T lt th last F (atM T lt th last F one j) q := by
      obtain ⟨q, hq, a, b, c3, hW3, e⟩ := wb_step hN (by have := hN.1; omega) e2 e3 hW2
      refine ⟨q, hq, (wy_s hN hB hl hE hF e2 e3 hW2 hq).mp ?_⟩
      rw [byN, if_pos a, hW3.2.1, hW2.2.1, e]
    have ok := nxM_ok ex
    have eq : atN S lt th one last P (j + 1) = atM T lt th last F one (j + 1) := by
      rw [atN, atM, hopN, nxM, e1, hk, show k + 1 - 1 = k by omega]
      obtain ⟨q, hq, hw⟩ := ex
      have w := fstF_1 (p := fun q => byN S lt th last (atM T lt th last F one j) q k = fewN S lt th last (k + 1) (atM T lt th last F one j)) 5 0 ⟨q, by omega, by omega, (wy_s hN hB hl hE hF e2 e3 hW2 hq).mpr hw⟩
      rw [w]
      exact fstF_cg 6 0 (fun x _ hx => wy_s hN hB hl hE hF e2 e3 hW2 (by omega))
    have em : atM T lt th last F one (j + 1) = nxM T lt th last F (atM T lt th last F one j) := rfl
    have bx := (wy_s hN hB hl hE hF e2 e3 hW2 ok.2.1).mpr ok.1
    rw [hW2.2.1] at bx
    have nx := (hE _ _ e2 ok.2.1).mpr ok.1.1
    rw [byN, if_pos nx] at bx
    obtain ⟨f, g⟩ := wb_q hN (by have := hN.1; omega) e2 e3 ok.2.1 hW2 nx bx
    rw [hk2]
    exact ⟨eq, by rw [em]; exact ok.2.1, by rw [em]; exact f, _, by rw [em]; exact g⟩
theorem at_end (hN : WN S n) (hB : WL lt th) (hl : last < n) (hE : WE S T) {F : Nat → Nat} (hF : ∀ a, a < 6 → F a = wX S lt th last a) {one c P : Nat} (h1 : one < 6) (h1l : one ≠ last) (hW : WB S lt th last one c P) : atM T lt th last F one (P + 1) = last ∧ ∀ j, j < P + 1 → ¬ atM T lt th last F one j = last ∧ ∃ q, q < 6 ∧ wyP T lt th last F (atM T lt th last F one j) q := by
  have hl6 : last < 6 := by have := hN.1; omega
  obtain ⟨e1, e2, e3, c2, hW2⟩ := at_eq hN hB hl hE hF h1 h1l hW P (Nat.le_refl _)
  rw [Nat.sub_self] at hW2
  have ex : ∃ q, q < 6 ∧ wyP T lt th last F (atM T lt th last F one P) q := ⟨last, hl6, (wy_0 hN hB hl hE hF e2 e3 hW2 hl6).mpr rfl⟩
  refine ⟨?_, fun j hj => ?_⟩
  · have ok := nxM_ok ex
    exact (wy_0 hN hB hl hE hF e2 e3 hW2 ok.2.1).mp ok.1
  · obtain ⟨a1, a2, a3, c3, hW3⟩ := at_eq hN hB hl hE hF h1 h1l hW j (by omega)
    refine ⟨a3, ?_⟩
    by_cases z : j = P
    · rw [z]; exact ex
    · obtain ⟨k, hk⟩ : ∃ k, P - j = k + 1 := ⟨P - j - 1, by omega⟩
      rw [hk] at hW3
      obtain ⟨q, hq, a, b, c4, hW4, e⟩ := wb_step hN hl6 a2 a3 hW3
      refine ⟨q, hq, (wy_s hN hB hl hE hF a2 a3 hW3 hq).mp ?_⟩
      rw [byN, if_pos a, hW4.2.1, hW3.2.1, e]
end WAY
