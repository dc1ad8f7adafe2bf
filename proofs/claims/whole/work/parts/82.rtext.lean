/-! The class's reading, sign by sign, is the reference's descent. -/
abbrev rn (sg : Nat) (tp : Nat → Nat) (to p : Nat) (s : RSt) : Nat × Option RSt := rdGo (am_str sg) tp (to - p) p s
def LowW (k : Nat) : List Int32 → Prop
  | [] => True
  | x :: _ => x = 2040 ∨ fRank x < k + 1
theorem fdn_all {r : Nat} {W : List Int32} (hW : ∀ k, r = k + 1 → LowW k W) (hr : 1 ≤ r) : ∀ (E D : List Int32), (∀ x, x ∈ E → x ≠ 2040 ∧ r ≤ fRank x) → fdn r D (E ++ W) = (E.reverse ++ D, W)
  | [], D, _ => by
    have h := hW (r - 1) (by omega)
    show fdn r D W = (D, W)
    match W, h with
    | [], _ => rfl
    | x :: t, h =>
      have h : x = 2040 ∨ fRank x < r - 1 + 1 := h
      rw [fdn, if_pos (by
        rcases h with h | h
        · exact Or.inl h
        · exact Or.inr (by omega))]
  | x :: E, D, hE => by
    obtain ⟨h1, h2⟩ := hE x List.mem_cons_self
    have ih := fdn_all hW hr E (x :: D) (fun y hy => hE y (List.mem_cons_of_mem _ hy))
    show fdn r D (x :: (E ++ W)) = _
    rw [fdn, if_neg (fun z => z.elim h1 (by omega)), ih, List.reverse_cons, List.append_assoc]
    rfl
theorem fdn_0 : ∀ (E D : List Int32), (∀ x, x ∈ E → x ≠ 2040) → fdn 0 D E = (E.reverse ++ D, [])
  | [], D, _ => rfl
  | x :: E, D, hE => by
    have ih := fdn_0 E (x :: D) (fun y hy => hE y (List.mem_cons_of_mem _ hy))
    rw [fdn, if_neg (fun z => z.elim (hE x List.mem_cons_self) (Nat.not_lt_zero _)), ih, List.reverse_cons, List.append_assoc]
    rfl
/-- a code of the class's as the reference has it, no two alike -/
def mcd (c : Int32) : Int32 := if c = 2110 then 2126 else if c = 2126 then 9999 else c
theorem mcd_nI {x : Nat} (h : x < 2110) : mcd (nI x) = nI x := by
  unfold mcd
  rw [if_neg (fun z => by
    have : x = 2110 := nI_inj (by omega) (by decide) z
    omega)]
  exact if_neg (fun z => by
    have : x = 2126 := nI_inj (by omega) (by decide) z
    omega)
theorem op_tab : (List.range 5).all (fun k => (List.range 256).all (fun ch => decide (ixN ch (am_str (5 + k)) 0 = none ↔ ¬ fRank (nI (ch + 2000)) = k + 1))) = true := by decide +kernel
theorem op_dig : (List.range 256).all (fun ch => decide ((48 ≤ ch ∧ ch ≤ 57) ∨ ch = 41 → fRank (nI (ch + 2000)) = 0)) = true := by decide +kernel
theorem op_cod : (List.range 256).all (fun ch => decide (fRank (nI (ch + 2000)) ≤ 5 → ¬ fRank (nI (ch + 2000)) = 0 → mcd (nI (ch + 2000)) = nI (ch + 2000) ∧ ¬ nI (ch + 2000) = 2040)) = true := by decide +kernel
theorem op_iff {k ch : Nat} (hk : k ≤ 4) (hc : ch < 256) : ixN ch (am_str (5 + k)) 0 = none ↔ ¬ fRank (nI (ch + 2000)) = k + 1 := of_decide_eq_true (all_range (all_range op_tab (show k < 5 by omega)) hc)
theorem op_dg {ch : Nat} (hc : ch < 256) (h : (48 ≤ ch ∧ ch ≤ 57) ∨ ch = 41) : fRank (nI (ch + 2000)) = 0 := of_decide_eq_true (all_range op_dig hc) h
theorem op_cd {ch : Nat} (hc : ch < 256) (h : fRank (nI (ch + 2000)) ≤ 5) (h0 : ¬ fRank (nI (ch + 2000)) = 0) : mcd (nI (ch + 2000)) = nI (ch + 2000) ∧ ¬ nI (ch + 2000) = 2040 := of_decide_eq_true (all_range op_cod hc) h h0
theorem ixN_mem {ch : Nat} : ∀ (l : List Nat) (k i : Nat), ixN ch l k = some i → ch ∈ l
  | [], k, i, h => by cases h
  | c :: t, k, i, h => by
    unfold ixN at h
    split at h
    · rename_i e
      rw [e]
      exact List.mem_cons_self
    · exact List.mem_cons_of_mem _ (ixN_mem t (k + 1) i h)
/-- one sign in a list of one -/
theorem ix1 {ch c : Nat} : ixN ch [c] 0 = none ↔ ¬ ch = c := by
  unfold ixN
  by_cases h : ch = c
  · rw [if_pos h]
    exact ⟨fun z => (by cases z), fun z => absurd h z⟩
  · rw [if_neg h]
    exact ⟨fun _ => h, fun _ => rfl⟩
section RTX
variable {sg : Nat} {tp : Nat → Nat} {to : Nat}
theorem rn_s {p : Nat} {s s2 : RSt} (hp : p < to) (h : stpR (am_str sg) s (tp p) = some s2) : rn sg tp to p s = rn sg tp to (p + 1) s2 := by
  unfold rn
  rw [show to - p = to - (p + 1) + 1 by omega, rdGo, h]
theorem rn_n {p : Nat} {s : RSt} (hp : p < to) (h : stpR (am_str sg) s (tp p) = none) : rn sg tp to p s = (p, none) := by
  unfold rn
  rw [show to - p = to - (p + 1) + 1 by omega, rdGo, h]
theorem rn_e {s : RSt} : rn sg tp to to s = (to, some s) := by
  unfold rn
  rw [Nat.sub_self]
  rfl
/-- what may come behind: nothing, a bracket's end, or what binds less -/
def Blk (sg : Nat) (tp : Nat → Nat) (to b p : Nat) (s : RSt) : Prop := p < to → stpR (am_str sg) s (tp p) = none ∨ tp p = 41 ∨ (1 ≤ fRank (nI (tp p + 2000)) ∧ fRank (nI (tp p + 2000)) ≤ b)
def BadR (to q : Nat) (r : Nat × Option RSt) : Prop := (q < to ∧ r = (q, none)) ∨ (q = to ∧ ∃ s : RSt, r = (to, some s) ∧ (s.2.2.2.2.2.2 = true ∨ 0 < s.2.2.1))
/-- the class's end of it -/
def OutT (sg : Nat) (tp : Nat → Nat) (to e b p d : Nat) (D W : List Int32) (cm : Nat → Bool) (nm : Int32) (q : Nat) (C : List Int32) : Prop := ∃ (D2 E : List Int32) (cm2 : Nat → Bool) (nm2 : Int32) (dg2 : Nat), rn sg tp to p (D, W, d, cm, nm, 0, true) = rn sg tp to q (D2, E ++ W, d, cm2, nm2, dg2, false) ∧ (∀ x, x ∈ E → x ≠ 2040 ∧ e ≤ fRank x) ∧ (E.reverse ++ fnm D2 nm2 dg2).map mcd = C ∧ (∀ i, i < d → cm2 i = cm i) ∧ (3 ≤ b → cm2 d = cm d) ∧ Blk sg tp to b q (D2, E ++ W, d, cm2, nm2, dg2, false)
def OutR (sg : Nat) (tp : Nat → Nat) (to e b p d : Nat) (D W : List Int32) (cm : Nat → Bool) (nm : Int32) (r : Bool × RdS) : Prop := (r.1 = true → OutT sg tp to e b p d D W cm nm r.2.1 r.2.2.2) ∧ (r.1 = false → BadR to r.2.1 (rn sg tp to p (D, W, d, cm, nm, 0, true)))
theorem stp_b {D W : List Int32} {d : Nat} {cm : Nat → Bool} {nm : Int32} {dg ch : Nat} (hd : ¬ (48 ≤ ch ∧ ch ≤ 57)) : stpR (am_str sg) (D, W, d, cm, nm, dg, false) ch = tkB (D, W, d, cm, nm, dg, false) ch := by
  unfold stpR
  rw [if_neg hd, if_neg Bool.false_ne_true]
theorem blk_b {D W : List Int32} {d : Nat} {cm : Nat → Bool} {nm : Int32} {dg p : Nat} (h : dg = 0 ∨ 3 ≤ dg ∨ ¬ isD tp to p) : Blk sg tp to 5 p (D, W, d, cm, nm, dg, false) := fun hp => by
  by_cases hd : 48 ≤ tp p ∧ tp p ≤ 57
  · refine Or.inl ?_
    unfold stpR tkD
    rw [if_pos hd, if_neg Bool.false_ne_true]
    refine if_pos ?_
    rcases h with h | h | h
    · exact Or.inl h
    · exact Or.inr h
    · exact absurd ⟨hp, hd⟩ h
  · rw [stp_b hd]
    by_cases h41 : tp p = 41
    · exact Or.inr (Or.inl h41)
    · unfold tkB
      rw [if_neg h41]
      by_cases hr : fRank (nI (tp p + 2000)) = 0 ∨ 5 < fRank (nI (tp p + 2000)) ∨ (fRank (nI (tp p + 2000)) = 3 ∧ cm d = true)
      · exact Or.inl (if_pos hr)
      · refine Or.inr (Or.inr ⟨?_, ?_⟩) <;> omega
/-! a number -/
theorem dig_s {D W : List Int32} {d : Nat} {cm : Nat → Bool} {v dg p : Nat} (h : isD tp to p) (h1 : 1 ≤ dg) (h2 : dg < 3) : rn sg tp to p (D, W, d, cm, nI v, dg, false) = rn sg tp to (p + 1) (D, W, d, cm, nI (10 * v + tp p - 48), dg + 1, false) := by
  refine rn_s h.1 ?_
  unfold stpR tkD
  rw [if_pos h.2, if_neg Bool.false_ne_true, if_neg (show ¬ (dg = 0 ∨ 3 ≤ dg) by omega)]
  have e : nI v * 10 + nI (tp p - 48) = nI (10 * v + tp p - 48) := by
    rw [show nI v * 10 = nI (v * 10) from pk_mul v 10, nI_add]
    congr 1
    have := h.2.1
    omega
  show some (D, W, d, cm, nI v * 10 + nI (tp p - 48), dg + 1, false) = _
  rw [e]
theorem dig_go {D W : List Int32} {d : Nat} {cm : Nat → Bool} : ∀ j v p, j ≤ 2 → ∃ dg2, rn sg tp to p (D, W, d, cm, nI v, 3 - j, false) = rn sg tp to (nmG tp to j p v).1 (D, W, d, cm, nI (nmG tp to j p v).2, dg2, false) ∧ 0 < dg2 ∧ Blk sg tp to 5 (nmG tp to j p v).1 (D, W, d, cm, nI (nmG tp to j p v).2, dg2, false)
  | 0, v, p, _ => ⟨3, rfl, by decide, blk_b (Or.inr (Or.inl (Nat.le_refl _)))⟩
  | j + 1, v, p, hj => by
    unfold nmG
    by_cases h : isD tp to p
    · rw [if_pos h]
      obtain ⟨dg2, a, b, c⟩ := dig_go (D := D) (W := W) (d := d) (cm := cm) j (10 * v + tp p - 48) (p + 1) (by omega)
      refine ⟨dg2, ?_, b, c⟩
      rw [dig_s h (by omega) (by omega), show 3 - (j + 1) + 1 = 3 - j by omega]
      exact a
    · rw [if_neg h]
      exact ⟨3 - (j + 1), rfl, by omega, blk_b (Or.inr (Or.inr h))⟩
theorem nmG_lt {v p : Nat} : ∀ j v p, j ≤ 2 → (v + 1) * 10 ^ j ≤ 1000 → (nmG tp to j p v).2 < 1000
  | 0, v, p, _, h => by
    show v < 1000
    rw [Nat.pow_zero, Nat.mul_one] at h
    omega
  | j + 1, v, p, hj, h => by
    unfold nmG
    have e : (v + 1) * 10 ^ (j + 1) = (10 * v + 10) * 10 ^ j := by
      rw [Nat.pow_succ, Nat.mul_comm (10 ^ j) 10, ← Nat.mul_assoc]
      congr 1
      omega
    rw [e] at h
    by_cases hd : isD tp to p
    · rw [if_pos hd]
      have h2 := hd.2
      refine nmG_lt (v := v) (p := p) j (10 * v + tp p - 48) (p + 1) (by omega) (Nat.le_trans (Nat.mul_le_mul_right _ ?_) h)
      omega
    · rw [if_neg hd]
      show v < 1000
      have := Nat.le_trans (Nat.mul_le_mul_left (10 * v + 10) (Nat.one_le_two_pow (n := 0))) (Nat.le_refl _)
      have p1 : 1 ≤ 10 ^ j := Nat.pow_pos (by decide)
      have := Nat.mul_le_mul_left (10 * v + 10) p1
      omega
/-! a thing -/
def sgR (sg : Nat) : Prop := ∀ c, c ∈ am_str sg → c ≠ 33 ∧ c ≠ 45 ∧ c ≠ 40
theorem stp_a {D W : List Int32} {d : Nat} {cm : Nat → Bool} {nm : Int32} {dg ch : Nat} (hd : ¬ (48 ≤ ch ∧ ch ≤ 57)) : stpR (am_str sg) (D, W, d, cm, nm, dg, true) ch = tkA (am_str sg) (D, W, d, cm, nm, dg, true) ch := by
  unfold stpR
  rw [if_neg hd, if_pos rfl]
theorem amg_in {l : List Nat} {p : Nat} (hp : p < to) : amg tp to l p = ixN (tp p) l 0 := if_pos hp
theorem out_th {g : RdS → Bool × RdS} {p d : Nat} {C D W : List Int32} {cm : Nat → Bool} {nm : Int32} (hs : sgR sg) (hp : p ≤ to) (hd : d ≤ 5) (hC : D.map mcd = C) (hu : amg tp to (am_str 4) p = none)
    (hg : ∀ (D2 W2 : List Int32) (cm2 : Nat → Bool) (nm2 : Int32), p < to → d < 5 → D2.map mcd = C → cm2 (d + 1) = false → LowW 0 W2 → OutR sg tp to 1 0 (p + 1) (d + 1) D2 W2 cm2 nm2 (g (p + 1, d + 1, C)))
    (hL : p < to → d < 5 → RdL to (p + 1, d + 1, C) (g (p + 1, d + 1, C))) : OutR sg tp to 7 5 p d D W cm nm (thG g tp to sg (p, d, C)) := by
  by_cases h1 : isD tp to p
  · have e0 : thG g tp to sg (p, d, C) = (true, (nmG tp to 2 (p + 1) (10 * 0 + tp p - 48)).1, d, nI (nmG tp to 2 (p + 1) (10 * 0 + tp p - 48)).2 :: C) := by
      have e1 : nmG tp to 3 p 0 = nmG tp to 2 (p + 1) (10 * 0 + tp p - 48) := by rw [nmG, if_pos h1]
      have e2 : thG g tp to sg (p, d, C) = (true, (nmG tp to 3 p 0).1, d, nI (nmG tp to 3 p 0).2 :: C) := if_pos h1
      rw [e2, e1]
    rw [e0]
    refine ⟨fun _ => ?_, fun z => by cases z⟩
    have st : rn sg tp to p (D, W, d, cm, nm, 0, true) = rn sg tp to (p + 1) (D, W, d, cm, nI (10 * 0 + tp p - 48), 3 - 2, false) := by
      refine rn_s h1.1 ?_
      unfold stpR tkD
      rw [if_pos h1.2, if_pos rfl, show 10 * 0 + tp p - 48 = tp p - 48 by omega]
    obtain ⟨dg2, a, b, c⟩ := dig_go (sg := sg) (tp := tp) (to := to) (D := D) (W := W) (d := d) (cm := cm) 2 (10 * 0 + tp p - 48) (p + 1) (Nat.le_refl _)
    have lt : (nmG tp to 2 (p + 1) (10 * 0 + tp p - 48)).2 < 1000 := nmG_lt (v := 0) (p := 0) 2 _ _ (Nat.le_refl _) (by
      have := h1.2
      rw [show (10 : Nat) ^ 2 = 100 from rfl]
      omega)
    refine ⟨D, [], cm, _, dg2, by rw [st, a]; rfl, fun x hx => (by cases hx), ?_, fun _ _ => rfl, fun _ => rfl, c⟩
    show (fnm D (nI (nmG tp to 2 (p + 1) (10 * 0 + tp p - 48)).2) dg2).map mcd = _
    rw [fnm, if_pos b, List.map_cons, mcd_nI (by omega), hC]
  · have h1b : p < to → ¬ (48 ≤ tp p ∧ tp p ≤ 57) := fun hp z => h1 ⟨hp, z⟩
    have h45 : p < to → ¬ (tp p = 33 ∨ tp p = 45) := fun hp z => by
      rw [amg_in hp] at hu
      have e4 : am_str 4 = [33, 45] := rfl
      rw [e4] at hu
      unfold ixN at hu
      rcases z with z | z
      · rw [if_pos z] at hu
        cases hu
      · rw [if_neg (by omega)] at hu
        rw [ixN, if_pos z] at hu
        cases hu
    have e1 : thG g tp to sg (p, d, C) = (match amg tp to (am_str sg) p with
      | some i => (true, p + 1, d, nI (1000 + i) :: C)
      | none => if amg tp to (am_str 2) p = none ∨ d = 5 then (false, (p, d, C)) else if (g (p + 1, d + 1, C)).1 = true ∧ ¬ amg tp to (am_str 3) (g (p + 1, d + 1, C)).2.1 = none then (true, (g (p + 1, d + 1, C)).2.1 + 1, (g (p + 1, d + 1, C)).2.2.1 - 1, (g (p + 1, d + 1, C)).2.2.2) else (false, (g (p + 1, d + 1, C)).2)) := if_neg h1
    rw [e1]
    match ha : amg tp to (am_str sg) p with
    | some i =>
      show OutR sg tp to 7 5 p d D W cm nm (true, p + 1, d, nI (1000 + i) :: C)
      have lt := amg_lt2 ha
      rw [amg_in lt] at ha
      have hm := hs _ (ixN_mem _ _ _ ha)
      have i12 := amg_i (tp := fun _ => tp p) (to := 1) (p := 0) (l := am_str sg) (by rw [amg_in (by decide)]; exact ha)
      have st : rn sg tp to p (D, W, d, cm, nm, 0, true) = rn sg tp to (p + 1) (nI (1000 + i) :: D, W, d, cm, nm, 0, false) := by
        refine rn_s lt ?_
        rw [stp_a (h1b lt)]
        unfold tkA
        rw [if_neg (by omega), if_neg hm.2.2, ha]
        rfl
      refine ⟨fun _ => ⟨nI (1000 + i) :: D, [], cm, nm, 0, st, fun x hx => (by cases hx), ?_, fun _ _ => rfl, fun _ => rfl, blk_b (Or.inl rfl)⟩, fun z => by cases z⟩
      show (fnm (nI (1000 + i) :: D) nm 0).map mcd = nI (1000 + i) :: C
      have l6 : (am_str sg).length < 1000 := by
        have : ∀ j, (am_str j).length ≤ 6 := fun j => by
          unfold am_str
          split <;> decide
        have := this sg
        omega
      rw [fnm, if_neg (by decide), List.map_cons, mcd_nI (by omega), hC]
    | none =>
      show OutR sg tp to 7 5 p d D W cm nm (if amg tp to (am_str 2) p = none ∨ d = 5 then (false, (p, d, C)) else if (g (p + 1, d + 1, C)).1 = true ∧ ¬ amg tp to (am_str 3) (g (p + 1, d + 1, C)).2.1 = none then (true, (g (p + 1, d + 1, C)).2.1 + 1, (g (p + 1, d + 1, C)).2.2.1 - 1, (g (p + 1, d + 1, C)).2.2.2) else (false, (g (p + 1, d + 1, C)).2))
      by_cases h2 : amg tp to (am_str 2) p = none ∨ d = 5
      · rw [if_pos h2]
        refine ⟨fun z => (by cases z), fun _ => ?_⟩
        show BadR to p _
        by_cases hpt : p < to
        · refine Or.inl ⟨hpt, rn_n hpt ?_⟩
          rw [amg_in hpt] at ha h2
          rw [stp_a (h1b hpt)]
          unfold tkA
          rw [if_neg (h45 hpt)]
          by_cases h40 : tp p = 40
          · rw [if_pos h40]
            refine if_neg ?_
            show ¬ d < 5
            rcases h2 with h2 | h2
            · exact absurd h40 (ix1.mp h2)
            · omega
          · rw [if_neg h40, ha]
            rfl
        · obtain rfl : p = to := by omega
          exact Or.inr ⟨rfl, _, rn_e, Or.inl rfl⟩
      · rw [if_neg h2]
        have lt := amg_lt (fun z => h2 (Or.inl z))
        have d5 : d < 5 := by
          have : d ≠ 5 := fun z => h2 (Or.inr z)
          omega
        have h40 : tp p = 40 := by
          have := fun z => h2 (Or.inl z)
          rw [amg_in lt] at this
          exact Decidable.not_not.mp (fun z => this (ix1.mpr z))
        have st : rn sg tp to p (D, W, d, cm, nm, 0, true) = rn sg tp to (p + 1) (D, 2040 :: W, d + 1, (fun i => if i = d + 1 then false else cm i), nm, 0, true) := by
          refine rn_s lt ?_
          rw [stp_a (h1b lt)]
          unfold tkA
          rw [if_neg (h45 lt), if_pos h40]
          exact if_pos d5
        obtain ⟨o1, o2⟩ := hg D (2040 :: W) (fun i => if i = d + 1 then false else cm i) nm lt d5 hC (if_pos rfl) (Or.inl rfl)
        obtain ⟨l1, l2, -, -, l5⟩ := hL lt d5
        generalize g (p + 1, d + 1, C) = r at *
        by_cases h3 : r.1 = true ∧ ¬ amg tp to (am_str 3) r.2.1 = none
        · rw [if_pos h3]
          refine ⟨fun _ => ?_, fun z => by cases z⟩
          obtain ⟨D2, E, cm2, nm2, dg2, a, b, c, e, f, -⟩ := o1 h3.1
          have lt2 := amg_lt h3.2
          have h41 : tp r.2.1 = 41 := by
            have := h3.2
            rw [amg_in lt2] at this
            exact Decidable.not_not.mp (fun z => this (ix1.mpr z))
          have fd := fdn_all (r := 1) (W := 2040 :: W) (fun _ _ => Or.inl rfl) (Nat.le_refl _) E (fnm D2 nm2 dg2) b
          have st2 : rn sg tp to r.2.1 (D2, E ++ 2040 :: W, d + 1, cm2, nm2, dg2, false) = rn sg tp to (r.2.1 + 1) (E.reverse ++ fnm D2 nm2 dg2, W, d, cm2, nm2, 0, false) := by
            refine rn_s lt2 ?_
            rw [stp_b (by omega)]
            unfold tkB
            rw [if_pos h41, if_neg (show ¬ d + 1 = 0 by omega)]
            show some ((fdn 1 (fnm D2 nm2 dg2) (E ++ 2040 :: W)).1, (fdn 1 (fnm D2 nm2 dg2) (E ++ 2040 :: W)).2.tail, d + 1 - 1, cm2, nm2, 0, false) = _
            rw [fd]
            rfl
          refine ⟨E.reverse ++ fnm D2 nm2 dg2, [], cm2, nm2, 0, by rw [st, a, st2]; rfl, fun x hx => (by cases hx), ?_, fun i hi => ?_, fun _ => ?_, blk_b (Or.inl rfl)⟩
          · show (fnm (E.reverse ++ fnm D2 nm2 dg2) nm2 0).map mcd = r.2.2.2
            rw [fnm, if_neg (by decide)]
            exact c
          · rw [e i (by omega)]
            exact if_neg (by omega)
          · rw [e d (by omega)]
            exact if_neg (by omega)
        · rw [if_neg h3]
          refine ⟨fun z => (by cases z), fun _ => ?_⟩
          rw [st]
          by_cases hr : r.1 = true
          · obtain ⟨D2, E, cm2, nm2, dg2, a, b, c, e, f, bk⟩ := o1 hr
            rw [a]
            show BadR to r.2.1 _
            by_cases hq : r.2.1 < to
            · refine Or.inl ⟨hq, rn_n hq ?_⟩
              rcases bk hq with z | z | z
              · exact z
              · exfalso
                refine h3 ⟨hr, fun y => ?_⟩
                rw [amg_in hq] at y
                exact ix1.mp y z
              · omega
            · have hq2 : r.2.1 = to := by omega
              rw [hq2]
              refine Or.inr ⟨rfl, _, rn_e, Or.inr ?_⟩
              show 0 < d + 1
              omega
          · exact o2 (Bool.eq_false_iff.mpr hr)
/-! what goes ahead -/
theorem out_ah {g h : RdS → Bool × RdS} {p d : Nat} {C D W : List Int32} {cm : Nat → Bool} {nm : Int32} (hp : p ≤ to) (hC : D.map mcd = C)
    (hg : ∀ (D2 W2 : List Int32) (cm2 : Nat → Bool) (nm2 : Int32), p < to → D2.map mcd = C → OutR sg tp to 6 5 (p + 1) d D2 W2 cm2 nm2 (g (p + 1, d, C)))
    (hh : amg tp to (am_str 4) p = none → OutR sg tp to 7 5 p d D W cm nm (h (p, d, C))) : OutR sg tp to 6 5 p d D W cm nm (ahG g h tp to (p, d, C)) := by
  unfold ahG
  match ha : amg tp to (am_str 4) p with
  | none =>
    show OutR sg tp to 6 5 p d D W cm nm (h (p, d, C))
    obtain ⟨o1, o2⟩ := hh ha
    refine ⟨fun z => ?_, o2⟩
    obtain ⟨D2, E, cm2, nm2, dg2, a, b, c⟩ := o1 z
    exact ⟨D2, E, cm2, nm2, dg2, a, fun x hx => ⟨(b x hx).1, by have := (b x hx).2; omega⟩, c⟩
  | some i =>
    show OutR sg tp to 6 5 p d D W cm nm (if (g (p + 1, d, C)).1 = true then (true, (g (p + 1, d, C)).2.1, (g (p + 1, d, C)).2.2.1, (if i = 0 then 2033 else 2126) :: (g (p + 1, d, C)).2.2.2) else g (p + 1, d, C))
    have lt := amg_lt2 ha
    have hi : (tp p = 33 ∧ i = 0) ∨ (tp p = 45 ∧ i = 1) := by
      rw [amg_in lt] at ha
      have e4 : am_str 4 = [33, 45] := rfl
      rw [e4] at ha
      unfold ixN at ha
      by_cases h33 : tp p = 33
      · rw [if_pos h33] at ha
        cases ha
        exact Or.inl ⟨h33, rfl⟩
      · rw [if_neg h33] at ha
        unfold ixN at ha
        by_cases h45 : tp p = 45
        · rw [if_pos h45] at ha
          cases ha
          exact Or.inr ⟨h45, rfl⟩
        · rw [if_neg h45] at ha
          cases ha
    have hu : ∃ u : Int32, (u = (if tp p = 33 then 2033 else 2110)) ∧ mcd u = (if i = 0 then 2033 else 2126) ∧ fRank u = 6 ∧ u ≠ 2040 := by
      rcases hi with ⟨a, rfl⟩ | ⟨a, rfl⟩
      · exact ⟨2033, (if_pos a).symm, by decide, by decide, by decide⟩
      · exact ⟨2110, (if_neg (by omega)).symm, by decide, by decide, by decide⟩
    obtain ⟨u, u1, u2, u3, u4⟩ := hu
    have st : rn sg tp to p (D, W, d, cm, nm, 0, true) = rn sg tp to (p + 1) (D, u :: W, d, cm, nm, 0, true) := by
      refine rn_s lt ?_
      rw [stp_a (by omega)]
      unfold tkA
      rw [if_pos (by omega), ← u1]
    obtain ⟨o1, o2⟩ := hg D (u :: W) cm nm lt hC
    generalize g (p + 1, d, C) = r at *
    by_cases hr : r.1 = true
    · rw [if_pos hr]
      refine ⟨fun _ => ?_, fun z => by cases z⟩
      obtain ⟨D2, E, cm2, nm2, dg2, a, b, c, e, f, bk⟩ := o1 hr
      have ew : E ++ u :: W = (E ++ [u]) ++ W := by rw [List.append_assoc]; rfl
      rw [ew] at a bk
      refine ⟨D2, E ++ [u], cm2, nm2, dg2, by rw [st, a], fun x hx => ?_, ?_, e, f, bk⟩
      · rcases List.mem_append.mp hx with z | z
        · exact b x z
        · rw [List.mem_singleton.mp z]
          exact ⟨u4, by omega⟩
      · rw [List.reverse_append, List.reverse_singleton, List.append_assoc]
        show mcd u :: (E.reverse ++ fnm D2 nm2 dg2).map mcd = _
        rw [c, u2]
    · rw [if_neg hr]
      refine ⟨fun z => absurd z hr, fun z => ?_⟩
      rw [st]
      exact o2 z
/-! by rank -/
theorem rkL_ff {g : RdS → Bool × RdS} {k : Nat} : ∀ n (s : RdS), rkL g tp to k n false s = (false, s)
  | 0, _ => rfl
  | n + 1, s => by rw [rkL, if_neg (fun y => by cases y.1)]
theorem out_lp {g : RdS → Bool × RdS} {k p d : Nat} {D0 W : List Int32} {cm : Nat → Bool} {nm0 : Int32} (hk : k ≤ 4) (hch : ∀ i, i < to → tp i < 256) (hW : LowW k W)
    (hg : ∀ (q : Nat) (C2 D2 W2 : List Int32) (cm2 : Nat → Bool) (nm2 : Int32), p ≤ q → q < to → D2.map mcd = C2 → (k + 1 ≤ 2 → cm2 d = false) → LowW (k + 1) W2 → OutR sg tp to (k + 2) (k + 1) (q + 1) d D2 W2 cm2 nm2 (g (q + 1, d, C2)) ∧ RdL to (q + 1, d, C2) (g (q + 1, d, C2))) :
    ∀ n q (C1 D1 E : List Int32) (cm1 : Nat → Bool) (nm1 : Int32) (dg1 : Nat), to - q < n → p ≤ q → q ≤ to → rn sg tp to p (D0, W, d, cm, nm0, 0, true) = rn sg tp to q (D1, E ++ W, d, cm1, nm1, dg1, false) → (∀ x, x ∈ E → x ≠ 2040 ∧ k + 1 ≤ fRank x) → (E.reverse ++ fnm D1 nm1 dg1).map mcd = C1 → (∀ i, i < d → cm1 i = cm i) → (3 ≤ k → cm1 d = cm d) → (k = 2 → cm1 d = false) → Blk sg tp to (k + 1) q (D1, E ++ W, d, cm1, nm1, dg1, false) → OutR sg tp to (k + 1) k p d D0 W cm nm0 (rkL g tp to k n true (q, d, C1))
  | 0, q, C1, D1, E, cm1, nm1, dg1, hn, _, _, _, _, _, _, _, _, _ => by omega
  | n + 1, q, C1, D1, E, cm1, nm1, dg1, hn, hpq, hq, ha, hb, hc, he, hf, h2, bk => by
    unfold rkL
    show OutR sg tp to (k + 1) k p d D0 W cm nm0 (if true = true ∧ ¬ amg tp to (am_str (opsM k)) q = none then (if k = 2 then ((g (q + 1, d, C1)).1, if (g (q + 1, d, C1)).1 = true then ((g (q + 1, d, C1)).2.1, (g (q + 1, d, C1)).2.2.1, nI (2000 + tp q) :: (g (q + 1, d, C1)).2.2.2) else (g (q + 1, d, C1)).2) else rkL g tp to k n (g (q + 1, d, C1)).1 (if (g (q + 1, d, C1)).1 = true then ((g (q + 1, d, C1)).2.1, (g (q + 1, d, C1)).2.2.1, nI (2000 + tp q) :: (g (q + 1, d, C1)).2.2.2) else (g (q + 1, d, C1)).2)) else (true, (q, d, C1)))
    by_cases ho : amg tp to (am_str (opsM k)) q = none
    · rw [if_neg (fun z => z.2 ho)]
      refine ⟨fun _ => ⟨D1, E, cm1, nm1, dg1, ha, hb, hc, he, hf, fun hq2 => ?_⟩, fun z => by cases z⟩
      rcases bk hq2 with z | z | z
      · exact Or.inl z
      · exact Or.inr (Or.inl z)
      · refine Or.inr (Or.inr ⟨z.1, ?_⟩)
        have z2 : fRank (nI (tp q + 2000)) ≤ k + 1 := z.2
        rw [amg_in hq2] at ho
        have := (op_iff hk (hch q hq2)).mp ho
        show fRank (nI (tp q + 2000)) ≤ k
        omega
    · rw [if_pos ⟨rfl, ho⟩]
      have lt := amg_lt ho
      have rk : fRank (nI (tp q + 2000)) = k + 1 := by
        rw [amg_in lt] at ho
        exact Decidable.not_not.mp (fun z => ho ((op_iff hk (hch q lt)).mpr z))
      obtain ⟨m1, m2⟩ := op_cd (hch q lt) (by omega) (by omega)
      have nd : ¬ (48 ≤ tp q ∧ tp q ≤ 57) := fun z => by
        have := op_dg (hch q lt) (Or.inl z)
        omega
      have n41 : ¬ tp q = 41 := fun z => by
        have := op_dg (hch q lt) (Or.inr z)
        omega
      have n3 : ¬ (fRank (nI (tp q + 2000)) = 0 ∨ 5 < fRank (nI (tp q + 2000)) ∨ (fRank (nI (tp q + 2000)) = 3 ∧ cm1 d = true)) := fun z => by
        rcases z with z | z | z
        · omega
        · omega
        · have k2 : k = 2 := by omega
          rw [h2 k2] at z
          cases z.2
      have fd := fdn_all (r := k + 1) (W := W) (fun j hj => by
        have : j = k := by omega
        rw [this]
        exact hW) (by omega) E (fnm D1 nm1 dg1) hb
      have hcm : ∃ cm2 : Nat → Bool, cm2 = (if fRank (nI (tp q + 2000)) ≤ 3 then (fun i => if i = d then decide (fRank (nI (tp q + 2000)) = 3) else cm1 i) else cm1) ∧ (∀ i, i < d → cm2 i = cm1 i) ∧ (k + 1 ≤ 2 → cm2 d = false) ∧ (k = 2 → cm2 d = true) ∧ (3 ≤ k → cm2 d = cm1 d) := by
        refine ⟨_, rfl, fun i hi => ?_, fun z => ?_, fun z => ?_, fun z => ?_⟩
        · by_cases y : fRank (nI (tp q + 2000)) ≤ 3
          · rw [if_pos y]
            exact if_neg (by omega)
          · rw [if_neg y]
        · rw [if_pos (by omega)]
          show (if d = d then decide (fRank (nI (tp q + 2000)) = 3) else cm1 d) = false
          rw [if_pos rfl]
          exact decide_eq_false (by omega)
        · rw [if_pos (by omega)]
          show (if d = d then decide (fRank (nI (tp q + 2000)) = 3) else cm1 d) = true
          rw [if_pos rfl]
          exact decide_eq_true (by omega)
        · rw [if_neg (by omega)]
      obtain ⟨cm2, c0, c1, c2, c3, c4⟩ := hcm
      have st : rn sg tp to q (D1, E ++ W, d, cm1, nm1, dg1, false) = rn sg tp to (q + 1) (E.reverse ++ fnm D1 nm1 dg1, nI (tp q + 2000) :: W, d, cm2, nm1, 0, true) := by
        refine rn_s lt ?_
        rw [stp_b nd]
        unfold tkB
        rw [if_neg n41]
        show (if fRank (nI (tp q + 2000)) = 0 ∨ 5 < fRank (nI (tp q + 2000)) ∨ (fRank (nI (tp q + 2000)) = 3 ∧ cm1 d = true) then none else some ((fdn (fRank (nI (tp q + 2000))) (fnm D1 nm1 dg1) (E ++ W)).1, nI (tp q + 2000) :: (fdn (fRank (nI (tp q + 2000))) (fnm D1 nm1 dg1) (E ++ W)).2, d, (if fRank (nI (tp q + 2000)) ≤ 3 then (fun i => if i = d then decide (fRank (nI (tp q + 2000)) = 3) else cm1 i) else cm1), nm1, 0, true)) = _
        rw [if_neg n3, ← c0, rk, fd]
      obtain ⟨⟨o1, o2⟩, l1, l2, -, -, l5⟩ := hg q C1 (E.reverse ++ fnm D1 nm1 dg1) (nI (tp q + 2000) :: W) cm2 nm1 hpq lt hc c2 (Or.inr (by omega))
      generalize g (q + 1, d, C1) = r at *
      have l1 : q + 1 ≤ r.2.1 := l1
      by_cases hr : r.1 = true
      · obtain ⟨D3, E3, cm3, nm3, dg3, a3, b3, e3, f3, g3, bk3⟩ := o1 hr
        have ew : E3 ++ nI (tp q + 2000) :: W = (E3 ++ [nI (tp q + 2000)]) ++ W := by rw [List.append_assoc]; rfl
        rw [ew] at a3 bk3
        have rd : r.2.2.1 = d := l5 hr
        have ra : rn sg tp to p (D0, W, d, cm, nm0, 0, true) = rn sg tp to r.2.1 (D3, (E3 ++ [nI (tp q + 2000)]) ++ W, d, cm3, nm3, dg3, false) := by rw [ha, st, a3]
        have rb : ∀ x, x ∈ E3 ++ [nI (tp q + 2000)] → x ≠ 2040 ∧ k + 1 ≤ fRank x := fun x hx => by
          rcases List.mem_append.mp hx with z | z
          · exact ⟨(b3 x z).1, by have := (b3 x z).2; omega⟩
          · rw [List.mem_singleton.mp z]
            exact ⟨m2, by omega⟩
        have rc : ((E3 ++ [nI (tp q + 2000)]).reverse ++ fnm D3 nm3 dg3).map mcd = nI (2000 + tp q) :: r.2.2.2 := by
          rw [List.reverse_append, List.reverse_singleton, List.append_assoc]
          show mcd (nI (tp q + 2000)) :: (E3.reverse ++ fnm D3 nm3 dg3).map mcd = _
          rw [e3, m1, Nat.add_comm (tp q) 2000]
        have re : ∀ i, i < d → cm3 i = cm i := fun i hi => by rw [f3 i hi, c1 i hi, he i hi]
        have rf : 3 ≤ k → cm3 d = cm d := fun z => by rw [g3 (by omega), c4 z, hf z]
        rw [hr, if_pos rfl]
        by_cases k2 : k = 2
        · rw [if_pos k2]
          refine ⟨fun _ => ⟨D3, _, cm3, nm3, dg3, ra, rb, rc, re, rf, fun hq2 => ?_⟩, fun z => by cases z⟩
          have hq2 : r.2.1 < to := hq2
          rcases bk3 hq2 with z | z | z
          · exact Or.inl z
          · exact Or.inr (Or.inl z)
          · by_cases z3 : fRank (nI (tp r.2.1 + 2000)) = 3
            · refine Or.inl ?_
              have nd2 : ¬ (48 ≤ tp r.2.1 ∧ tp r.2.1 ≤ 57) := fun y => by
                have := op_dg (hch r.2.1 hq2) (Or.inl y)
                omega
              have n412 : ¬ tp r.2.1 = 41 := fun y => by
                have := op_dg (hch r.2.1 hq2) (Or.inr y)
                omega
              show stpR (am_str sg) (D3, (E3 ++ [nI (tp q + 2000)]) ++ W, d, cm3, nm3, dg3, false) (tp r.2.1) = none
              rw [stp_b nd2]
              unfold tkB
              rw [if_neg n412]
              refine if_pos (Or.inr (Or.inr ⟨z3, ?_⟩))
              show cm3 d = true
              rw [g3 (by omega), c3 k2]
            · refine Or.inr (Or.inr ⟨z.1, ?_⟩)
              have := z.2
              show fRank (nI (tp r.2.1 + 2000)) ≤ k
              omega
        · rw [if_neg k2, rd]
          exact out_lp hk hch hW hg n r.2.1 _ D3 _ cm3 nm3 dg3 (by omega) (by omega) l2 ra rb rc re rf (fun z => absurd z k2) bk3
      · have hr2 : r.1 = false := Bool.eq_false_iff.mpr hr
        have bd := o2 hr2
        rw [hr2, if_neg Bool.false_ne_true, rkL_ff]
        have e : (if k = 2 then (false, r.2) else (false, r.2)) = (false, r.2) := by split <;> rfl
        rw [e]
        refine ⟨fun z => (by cases z), fun _ => ?_⟩
        rw [ha, st]
        exact bd
theorem low_up {k : Nat} {W : List Int32} (h : LowW k W) : LowW (k + 1) W := by
  match W, h with
  | [], _ => exact trivial
  | x :: t, h =>
    rcases h with h | h
    · exact Or.inl h
    · exact Or.inr (by omega)
/-- the descent and the class's steps, for each rank -/
theorem out_rd (hs : sgR sg) (h40 : to ≤ 40) (hch : ∀ i, i < to → tp i < 256) : ∀ f k p d (C D W : List Int32) (cm : Nat → Bool) (nm : Int32), k ≤ 6 → p ≤ to → d ≤ 5 → 8 * (to - p) + (7 - k) ≤ f → D.map mcd = C → (k ≤ 2 → cm d = false) → (k ≤ 4 → LowW k W) → (k = 6 → amg tp to (am_str 4) p = none) → OutR sg tp to (k + 1) (min k 5) p d D W cm nm (rdF tp to sg f k (p, d, C))
  | 0, k, p, d, C, D, W, cm, nm, hk, _, _, hf, _, _, _, _ => by omega
  | f + 1, k, p, d, C, D, W, cm, nm, hk, hp, hd, hf, hC, hcm, hW, hu => by
    unfold rdF
    by_cases k6 : k = 6
    · subst k6
      rw [if_pos rfl]
      refine out_th hs hp hd hC (hu rfl) (fun D2 W2 cm2 nm2 h1 h2 h3 h4 h5 => ?_) (fun h1 h2 => rdF_ok f 0 _ h1 (by show d + 1 ≤ 5; omega))
      exact out_rd hs h40 hch f 0 (p + 1) (d + 1) C D2 W2 cm2 nm2 (by omega) (by omega) (by omega) (by omega) h3 (fun _ => h4) (fun _ => h5) (fun z => absurd z (by decide))
    · rw [if_neg k6]
      by_cases k5 : k = 5
      · subst k5
        rw [if_pos rfl]
        refine out_ah hp hC (fun D2 W2 cm2 nm2 h1 h2 => ?_) (fun h1 => ?_)
        · exact out_rd hs h40 hch f 5 (p + 1) d C D2 W2 cm2 nm2 (by omega) (by omega) hd (by omega) h2 (fun z => absurd z (by decide)) (fun z => absurd z (by decide)) (fun z => absurd z (by decide))
        · exact out_rd hs h40 hch f 6 p d C D W cm nm (by omega) hp hd (by omega) hC (fun z => absurd z (by decide)) (fun z => absurd z (by decide)) (fun _ => h1)
      · rw [if_neg k5]
        have hk4 : k ≤ 4 := by omega
        have mk : min k 5 = k := by omega
        have mk1 : min (k + 1) 5 = k + 1 := by omega
        have ih := fun p2 (C2 D2 W2 : List Int32) (cm2 : Nat → Bool) (nm2 : Int32) (h1 : p2 ≤ to) (h2 : 8 * (to - p2) + (7 - (k + 1)) ≤ f) (h3 : D2.map mcd = C2) (h4 : k + 1 ≤ 2 → cm2 d = false) (h5 : LowW (k + 1) W2) => out_rd hs h40 hch f (k + 1) p2 d C2 D2 W2 cm2 nm2 (by omega) h1 hd h2 h3 h4 (fun _ => h5) (fun z => by omega)
        rw [mk1] at ih
        rw [mk]
        have first := ih p C D W cm nm hp (by omega) hC (fun z => hcm (by omega)) (low_up (hW hk4))
        obtain ⟨l1, l2, -, -, l5⟩ := rdF_ok (tp := tp) (sg := sg) f (k + 1) (p, d, C) hp hd
        have hg := fun (q : Nat) (C2 D2 W2 : List Int32) (cm2 : Nat → Bool) (nm2 : Int32) (h1 : p ≤ q) (h2 : q < to) (h3 : D2.map mcd = C2) (h4 : k + 1 ≤ 2 → cm2 d = false) (h5 : LowW (k + 1) W2) => (⟨ih (q + 1) C2 D2 W2 cm2 nm2 h2 (by omega) h3 h4 h5, rdF_ok f (k + 1) (q + 1, d, C2) h2 hd⟩ : OutR sg tp to (k + 2) (k + 1) (q + 1) d D2 W2 cm2 nm2 (rdF tp to sg f (k + 1) (q + 1, d, C2)) ∧ RdL to (q + 1, d, C2) (rdF tp to sg f (k + 1) (q + 1, d, C2)))
        have l1 : p ≤ (rdF tp to sg f (k + 1) (p, d, C)).2.1 := l1
        generalize rdF tp to sg f (k + 1) (p, d, C) = r at *
        by_cases hr : r.1 = true
        · obtain ⟨D1, E, cm1, nm1, dg1, a, b, c, e, g, bk⟩ := first.1 hr
          have rd : r.2.2.1 = d := l5 hr
          have er : r.2 = (r.2.1, d, r.2.2.2) := by
            rw [← rd]
          rw [hr, er]
          exact out_lp hk4 hch (hW hk4) hg 60 r.2.1 r.2.2.2 D1 E cm1 nm1 dg1 (by omega) l1 l2 a (fun x hx => ⟨(b x hx).1, by have := (b x hx).2; omega⟩) c e (fun z => g (by omega)) (fun z => by rw [g (by omega), hcm (by omega)]) bk
        · have hr2 : r.1 = false := Bool.eq_false_iff.mpr hr
          rw [hr2, rkL_ff]
          exact ⟨fun z => (by cases z), fun _ => first.2 hr2⟩
end RTX
