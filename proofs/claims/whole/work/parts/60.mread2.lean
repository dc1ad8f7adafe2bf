/-! What the reference reads, by its own descent: place, brackets, codes (the last first). -/
abbrev RdS : Type := Nat × Nat × List Int32
def nmG (tp : Nat → Nat) (to : Nat) : Nat → Nat → Nat → Nat × Nat
  | 0, p, v => (p, v)
  | k + 1, p, v => if isD tp to p then nmG tp to k (p + 1) (10 * v + tp p - 48) else (p, v)
def opsM (k : Nat) : Nat := 5 + k
def rkL (g : RdS → Bool × RdS) (tp : Nat → Nat) (to k : Nat) : Nat → Bool → RdS → Bool × RdS
  | 0, b, s => (b, s)
  | n + 1, b, s => if b = true ∧ ¬ amg tp to (am_str (opsM k)) s.1 = none then
      (if k = 2 then ((g (s.1 + 1, s.2)).1, if (g (s.1 + 1, s.2)).1 = true then ((g (s.1 + 1, s.2)).2.1, (g (s.1 + 1, s.2)).2.2.1, nI (2000 + tp s.1) :: (g (s.1 + 1, s.2)).2.2.2) else (g (s.1 + 1, s.2)).2)
      else rkL g tp to k n (g (s.1 + 1, s.2)).1 (if (g (s.1 + 1, s.2)).1 = true then ((g (s.1 + 1, s.2)).2.1, (g (s.1 + 1, s.2)).2.2.1, nI (2000 + tp s.1) :: (g (s.1 + 1, s.2)).2.2.2) else (g (s.1 + 1, s.2)).2))
    else (b, s)
def thG (g : RdS → Bool × RdS) (tp : Nat → Nat) (to sg : Nat) (s : RdS) : Bool × RdS :=
  if isD tp to s.1 then (true, (nmG tp to 3 s.1 0).1, s.2.1, nI (nmG tp to 3 s.1 0).2 :: s.2.2)
  else match amg tp to (am_str sg) s.1 with
    | some i => (true, s.1 + 1, s.2.1, nI (1000 + i) :: s.2.2)
    | none => if amg tp to (am_str 2) s.1 = none ∨ s.2.1 = 5 then (false, s)
      else if (g (s.1 + 1, s.2.1 + 1, s.2.2)).1 = true ∧ ¬ amg tp to (am_str 3) (g (s.1 + 1, s.2.1 + 1, s.2.2)).2.1 = none then (true, (g (s.1 + 1, s.2.1 + 1, s.2.2)).2.1 + 1, (g (s.1 + 1, s.2.1 + 1, s.2.2)).2.2.1 - 1, (g (s.1 + 1, s.2.1 + 1, s.2.2)).2.2.2)
      else (false, (g (s.1 + 1, s.2.1 + 1, s.2.2)).2)
def ahG (g h : RdS → Bool × RdS) (tp : Nat → Nat) (to : Nat) (s : RdS) : Bool × RdS :=
  match amg tp to (am_str 4) s.1 with
  | none => h s
  | some i => if (g (s.1 + 1, s.2)).1 = true then (true, (g (s.1 + 1, s.2)).2.1, (g (s.1 + 1, s.2)).2.2.1, (if i = 0 then 2033 else 2126) :: (g (s.1 + 1, s.2)).2.2.2) else g (s.1 + 1, s.2)
/-- what is read: 0 to 4 by rank, 5 what goes ahead, 6 a thing -/
def rdF (tp : Nat → Nat) (to sg : Nat) : Nat → Nat → RdS → Bool × RdS
  | 0, _, s => (false, s)
  | f + 1, k, s => if k = 6 then thG (rdF tp to sg f 0) tp to sg s else if k = 5 then ahG (rdF tp to sg f 5) (rdF tp to sg f 6) tp to s else rkL (rdF tp to sg f (k + 1)) tp to k 60 (rdF tp to sg f (k + 1) s).1 (rdF tp to sg f (k + 1) s).2
/-- it goes on, not past the end, and writes no more than it goes -/
def RdL (to : Nat) (s : RdS) (r : Bool × RdS) : Prop := s.1 ≤ r.2.1 ∧ r.2.1 ≤ to ∧ r.2.2.2.length + s.1 ≤ s.2.2.length + r.2.1 ∧ r.2.2.1 ≤ 5 ∧ (r.1 = true → r.2.2.1 = s.2.1)
theorem amg_lt {tp : Nat → Nat} {to p : Nat} {l : List Nat} (h : ¬ amg tp to l p = none) : p < to := by
  unfold amg at h
  split at h
  · assumption
  · exact absurd rfl h
theorem amg_lt2 {tp : Nat → Nat} {to p i : Nat} {l : List Nat} (h : amg tp to l p = some i) : p < to := amg_lt (by rw [h]; exact fun z => by cases z)
theorem nmG_le {tp : Nat → Nat} {to : Nat} : ∀ k p v, p ≤ to → p ≤ (nmG tp to k p v).1 ∧ (nmG tp to k p v).1 ≤ to
  | 0, p, v, h => ⟨Nat.le_refl _, h⟩
  | k + 1, p, v, h => by
    unfold nmG
    split
    · rename_i h1
      have := nmG_le (tp := tp) k (p + 1) (10 * v + tp p - 48) h1.1
      omega
    · exact ⟨Nat.le_refl _, h⟩
theorem lin3 {b s l c e f : Nat} (h1 : b + s ≤ l + c) (h2 : e + c ≤ b + f) : e + s ≤ l + f := by omega
theorem rkL_ok {g : RdS → Bool × RdS} {tp : Nat → Nat} {to k : Nat} (hg : ∀ s : RdS, s.1 ≤ to → s.2.1 ≤ 5 → RdL to s (g s)) : ∀ n b (s : RdS), s.1 ≤ to → s.2.1 ≤ 5 → RdL to s (rkL g tp to k n b s)
  | 0, b, s, h, h5 => ⟨Nat.le_refl _, h, Nat.le_refl _, h5, fun _ => rfl⟩
  | n + 1, b, s, h, h5 => by
    unfold rkL
    by_cases hc : b = true ∧ ¬ amg tp to (am_str (opsM k)) s.1 = none
    · rw [if_pos hc]
      have lt := amg_lt hc.2
      obtain ⟨a1, a2, a3, a4, a5⟩ := hg (s.1 + 1, s.2) lt h5
      have nx : RdL to s ((g (s.1 + 1, s.2)).1, if (g (s.1 + 1, s.2)).1 = true then ((g (s.1 + 1, s.2)).2.1, (g (s.1 + 1, s.2)).2.2.1, nI (2000 + tp s.1) :: (g (s.1 + 1, s.2)).2.2.2) else (g (s.1 + 1, s.2)).2) := by
        have b1 : s.1 + 1 ≤ (g (s.1 + 1, s.2)).2.1 := a1
        have b3 : (g (s.1 + 1, s.2)).2.2.2.length + (s.1 + 1) ≤ s.2.2.length + (g (s.1 + 1, s.2)).2.1 := a3
        by_cases hb : (g (s.1 + 1, s.2)).1 = true
        · rw [if_pos hb]
          refine ⟨?_, a2, ?_, a4, a5⟩
          · show s.1 ≤ (g (s.1 + 1, s.2)).2.1
            omega
          · show (g (s.1 + 1, s.2)).2.2.2.length + 1 + s.1 ≤ s.2.2.length + (g (s.1 + 1, s.2)).2.1
            omega
        · rw [if_neg hb]
          refine ⟨?_, a2, ?_, a4, a5⟩
          · show s.1 ≤ (g (s.1 + 1, s.2)).2.1
            omega
          · show (g (s.1 + 1, s.2)).2.2.2.length + s.1 ≤ s.2.2.length + (g (s.1 + 1, s.2)).2.1
            omega
      by_cases hk : k = 2
      · rw [if_pos hk]
        exact nx
      · rw [if_neg hk]
        obtain ⟨c1, c2, c3, c4, c5⟩ := nx
        have e := rkL_ok (k := k) (tp := tp) hg n (g (s.1 + 1, s.2)).1 _ c2 c4
        obtain ⟨d1, d2, d3, d4, d5⟩ := e
        refine ⟨Nat.le_trans c1 d1, d2, lin3 c3 d3, d4, fun z => ?_⟩
        rw [d5 z]
        by_cases hb : (g (s.1 + 1, s.2)).1 = true
        · exact c5 hb
        · have e0 : (g (s.1 + 1, s.2)).1 = false := Bool.eq_false_iff.mpr hb
          rw [e0] at z
          exfalso
          have e1 : ∀ m s2, rkL g tp to k m false s2 = (false, s2) := fun m s2 => by
            match m with
            | 0 => rfl
            | j + 1 => rw [rkL, if_neg (fun y => by cases y.1)]
          rw [e1] at z
          cases z
    · rw [if_neg hc]
      exact ⟨Nat.le_refl _, h, Nat.le_refl _, h5, fun _ => rfl⟩
theorem thG_ok {g : RdS → Bool × RdS} {tp : Nat → Nat} {to sg : Nat} (hg : ∀ s : RdS, s.1 ≤ to → s.2.1 ≤ 5 → RdL to s (g s)) (s : RdS) (h : s.1 ≤ to) (h5 : s.2.1 ≤ 5) : RdL to s (thG g tp to sg s) := by
  unfold thG
  by_cases hd : isD tp to s.1
  · rw [if_pos hd]
    have e1 : (nmG tp to 3 s.1 0) = nmG tp to 2 (s.1 + 1) (10 * 0 + tp s.1 - 48) := by rw [nmG, if_pos hd]
    have e2 := nmG_le (tp := tp) 2 (s.1 + 1) (10 * 0 + tp s.1 - 48) hd.1
    rw [e1]
    refine ⟨by show s.1 ≤ (nmG tp to 2 (s.1 + 1) (10 * 0 + tp s.1 - 48)).1; omega, e2.2, ?_, h5, fun _ => rfl⟩
    show s.2.2.length + 1 + s.1 ≤ s.2.2.length + (nmG tp to 2 (s.1 + 1) (10 * 0 + tp s.1 - 48)).1
    omega
  · rw [if_neg hd]
    match ha : amg tp to (am_str sg) s.1 with
    | some i =>
      have lt := amg_lt2 ha
      refine ⟨by show s.1 ≤ s.1 + 1; omega, lt, ?_, h5, fun _ => rfl⟩
      show s.2.2.length + 1 + s.1 ≤ s.2.2.length + (s.1 + 1)
      omega
    | none =>
      show RdL to s (if amg tp to (am_str 2) s.1 = none ∨ s.2.1 = 5 then (false, s) else _)
      by_cases hc : amg tp to (am_str 2) s.1 = none ∨ s.2.1 = 5
      · rw [if_pos hc]
        exact ⟨Nat.le_refl _, h, Nat.le_refl _, h5, fun z => by cases z⟩
      · rw [if_neg hc]
        have lt := amg_lt (fun z => hc (Or.inl z))
        obtain ⟨a1, a2, a3, a4, a5⟩ := hg (s.1 + 1, s.2.1 + 1, s.2.2) lt (by show s.2.1 + 1 ≤ 5; have : s.2.1 ≠ 5 := fun z => hc (Or.inr z); omega)
        have b1 : s.1 + 1 ≤ (g (s.1 + 1, s.2.1 + 1, s.2.2)).2.1 := a1
        have b3 : (g (s.1 + 1, s.2.1 + 1, s.2.2)).2.2.2.length + (s.1 + 1) ≤ s.2.2.length + (g (s.1 + 1, s.2.1 + 1, s.2.2)).2.1 := a3
        by_cases hb : (g (s.1 + 1, s.2.1 + 1, s.2.2)).1 = true ∧ ¬ amg tp to (am_str 3) (g (s.1 + 1, s.2.1 + 1, s.2.2)).2.1 = none
        · rw [if_pos hb]
          have lt2 := amg_lt hb.2
          have b5 : (g (s.1 + 1, s.2.1 + 1, s.2.2)).2.2.1 = s.2.1 + 1 := a5 hb.1
          refine ⟨?_, lt2, ?_, ?_, fun _ => ?_⟩
          · show s.1 ≤ (g (s.1 + 1, s.2.1 + 1, s.2.2)).2.1 + 1
            omega
          · show (g (s.1 + 1, s.2.1 + 1, s.2.2)).2.2.2.length + s.1 ≤ s.2.2.length + ((g (s.1 + 1, s.2.1 + 1, s.2.2)).2.1 + 1)
            omega
          · show (g (s.1 + 1, s.2.1 + 1, s.2.2)).2.2.1 - 1 ≤ 5
            omega
          · show (g (s.1 + 1, s.2.1 + 1, s.2.2)).2.2.1 - 1 = s.2.1
            omega
        · rw [if_neg hb]
          refine ⟨?_, a2, ?_, a4, fun z => by cases z⟩
          · show s.1 ≤ (g (s.1 + 1, s.2.1 + 1, s.2.2)).2.1
            omega
          · show (g (s.1 + 1, s.2.1 + 1, s.2.2)).2.2.2.length + s.1 ≤ s.2.2.length + (g (s.1 + 1, s.2.1 + 1, s.2.2)).2.1
            omega
theorem ahG_ok {g h : RdS → Bool × RdS} {tp : Nat → Nat} {to : Nat} (hg : ∀ s : RdS, s.1 ≤ to → s.2.1 ≤ 5 → RdL to s (g s)) (hh : ∀ s : RdS, s.1 ≤ to → s.2.1 ≤ 5 → RdL to s (h s)) (s : RdS) (h1 : s.1 ≤ to) (h5 : s.2.1 ≤ 5) : RdL to s (ahG g h tp to s) := by
  unfold ahG
  match ha : amg tp to (am_str 4) s.1 with
  | none => exact hh s h1 h5
  | some i =>
    have lt := amg_lt2 ha
    obtain ⟨a1, a2, a3, a4, a5⟩ := hg (s.1 + 1, s.2) lt h5
    have b1 : s.1 + 1 ≤ (g (s.1 + 1, s.2)).2.1 := a1
    have b3 : (g (s.1 + 1, s.2)).2.2.2.length + (s.1 + 1) ≤ s.2.2.length + (g (s.1 + 1, s.2)).2.1 := a3
    show RdL to s (if (g (s.1 + 1, s.2)).1 = true then _ else _)
    by_cases hb : (g (s.1 + 1, s.2)).1 = true
    · rw [if_pos hb]
      refine ⟨?_, a2, ?_, a4, fun _ => a5 hb⟩
      · show s.1 ≤ (g (s.1 + 1, s.2)).2.1
        omega
      · show (g (s.1 + 1, s.2)).2.2.2.length + 1 + s.1 ≤ s.2.2.length + (g (s.1 + 1, s.2)).2.1
        omega
    · rw [if_neg hb]
      refine ⟨?_, a2, ?_, a4, a5⟩
      · show s.1 ≤ (g (s.1 + 1, s.2)).2.1
        omega
      · show (g (s.1 + 1, s.2)).2.2.2.length + s.1 ≤ s.2.2.length + (g (s.1 + 1, s.2)).2.1
        omega
theorem rdF_ok {tp : Nat → Nat} {to sg : Nat} : ∀ f k (s : RdS), s.1 ≤ to → s.2.1 ≤ 5 → RdL to s (rdF tp to sg f k s)
  | 0, k, s, h, h5 => ⟨Nat.le_refl _, h, Nat.le_refl _, h5, fun z => by cases z⟩
  | f + 1, k, s, h, h5 => by
    unfold rdF
    by_cases h6 : k = 6
    · rw [if_pos h6]
      exact thG_ok (rdF_ok f 0) s h h5
    · rw [if_neg h6]
      by_cases hk5 : k = 5
      · rw [if_pos hk5]
        exact ahG_ok (rdF_ok f 5) (rdF_ok f 6) s h h5
      · rw [if_neg hk5]
        obtain ⟨a1, a2, a3, a4, a5⟩ := rdF_ok f (k + 1) s h h5
        obtain ⟨c1, c2, c3, c4, c5⟩ := rkL_ok (tp := tp) (k := k) (rdF_ok (sg := sg) f (k + 1)) 60 (rdF tp to sg f (k + 1) s).1 _ a2 a4
        refine ⟨Nat.le_trans a1 c1, c2, by omega, c4, fun z => ?_⟩
        rw [c5 z]
        match hb : (rdF tp to sg f (k + 1) s).1 with
        | true => exact a5 hb
        | false =>
          exfalso
          rw [hb] at z
          have e1 : ∀ m s2, rkL (rdF tp to sg f (k + 1)) tp to k m false s2 = (false, s2) := fun m s2 => by
            match m with
            | 0 => rfl
            | j + 1 => rw [rkL, if_neg (fun y => by cases y.1)]
          rw [e1] at z
          cases z
