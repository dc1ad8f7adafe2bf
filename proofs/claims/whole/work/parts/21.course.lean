/-! A course: the rest of its methods. -/
def trun (p : Nat → Prop) [DecidablePred p] : Nat → Nat
  | 0 => 0
  | n + 1 => if p n then trun p n + 1 else 0
theorem trun_le (p : Nat → Prop) [DecidablePred p] : ∀ n, trun p n ≤ n
  | 0 => Nat.le_refl _
  | n + 1 => by
    have := trun_le p n
    unfold trun
    split <;> omega
theorem trun_all (p : Nat → Prop) [DecidablePred p] : ∀ (j n : Nat), j ≤ n → (∀ i, n - j ≤ i → i < n → p i) → (j = n ∨ ¬ p (n - j - 1)) → trun p n = j
  | j, 0, h, _, _ => by
    have : j = 0 := by omega
    subst this
    rfl
  | 0, n + 1, _, _, h3 => by
    rcases h3 with h3 | h3
    · omega
    · unfold trun
      rw [if_neg (by simpa using h3)]
  | j + 1, n + 1, h1, h2, h3 => by
    unfold trun
    rw [if_pos (h2 n (by omega) (by omega)), trun_all p j n (by omega) (fun i a b => h2 i (by omega) (by omega)) (by
      rcases h3 with h3 | h3
      · exact Or.inl (by omega)
      · exact Or.inr (by rwa [show n - j - 1 = n + 1 - (j + 1) - 1 by omega]))]
/-- the first of those of 0 .. n from which on p always holds; none: -1 -/
def setI (p : Nat → Prop) [DecidablePred p] (n : Nat) : Int32 := if trun p (n + 1) = 0 then -1 else nI (n + 1 - trun p (n + 1))
theorem nI_m1 {n : Nat} (h : 0 < n) : nI n + (-1) = nI (n - 1) := sb_m1 h
theorem ct_X0_settledFrom {d : Nat} {S : am_S} {o nw : Nat} {due : Int32} (hC : IsC S o) (hn : gI S o 0 = nI nw) (hb : nw ≤ 199) : am_CT (d + 2) iX0_settledFrom [.ref o, .int due] S (some (.int (setI (fun m => gI S (o + 1) m = due) nw))) (S) := by
  refine am_CT_in mmX0_settledFrom rfl rfl rfl ?_
  have hk := hC.1
  have loop : ∀ (k : Nat) (j : Nat), (j ≤ nw + 1) → (nw + 1 < j + k) → (∀ i, nw + 1 - j ≤ i → i < nw + 1 → gI S (o + 1) i = due) → am_Ex (am_Call am_MT (d + 1)) mmX0_settledFrom none (fun r1 G1 => r1 = (some (.int (setI (fun m => gI S (o + 1) m = due) nw))) ∧ G1 = am_H (S)) (fun _ _ _ _ _ _ => False) 7 [some (.ref o), some (.int due), some (.int (if j = 0 then -1 else nI (nw + 1 - j))), some (.int (nI (nw + 1 - j) + (-1)))] [] (am_H (S)) 0 0 := by
    intro k
    induction k with
    | zero =>
      intro j h1 h2 h3
      omega
    | succ k ih =>
      intro j h1 h2 h3
      have hz : ∀ jj, jj = j → (jj = nw + 1 ∨ ¬ gI S (o + 1) (nw + 1 - jj - 1) = due) → (if j = 0 then (-1 : Int32) else nI (nw + 1 - j)) = setI (fun m => gI S (o + 1) m = due) nw := by
        intro jj hj hz
        subst hj
        rw [setI, trun_all (fun m => gI S (o + 1) m = due) jj (nw + 1) h1 h3 hz]
      by_cases hjn : j = nw + 1
      · subst hjn
        refine r_iload_n rfl rfl ?_
        refine r_if_lt rfl (fun h8 => ?_) (fun h8 => ?_)
        · rw [hz (nw + 1) rfl (Or.inl rfl)]
          refine r_iload_n rfl rfl ?_
          refine r_iret rfl rfl ?_
          exact ⟨rfl, rfl⟩
        · rw [Nat.sub_self] at h8
          exact absurd (by decide) h8
      · rw [nI_m1 (by omega)]
        have e1 : nw + 1 - j - 1 = nw - j := by omega
        rw [e1]
        refine r_iload_n rfl rfl ?_
        refine r_if_lt rfl (fun h8 => ?_) (fun h8 => ?_)
        · exact absurd h8 (nI_neg (by omega))
        · refine r_aload_n rfl rfl ?_
          refine r_iload_n rfl rfl ?_
          refine r_callV rfl (ct_X0_placeAt hC) rfl rfl hk (by decide) rfl (am_cnt rfl) ?_
          refine r_iload_n rfl rfl ?_
          refine r_icmp_ne rfl (fun h17 => ?_) (fun h17 => ?_)
          · rw [fPlace_nI (by omega)] at h17
            rw [hz j rfl (Or.inr (by rw [e1]; exact h17))]
            refine r_iload_n rfl rfl ?_
            refine r_iret rfl rfl ?_
            exact ⟨rfl, rfl⟩
          · rw [fPlace_nI (by omega)] at h17
            refine r_iload_n rfl rfl ?_
            refine r_istore_n (L2 := [_, _, _, _]) rfl rfl ?_
            refine r_iinc (L2 := [_, _, _, _]) rfl rfl rfl ?_
            refine r_goto rfl ?_
            have e2 := ih (j + 1) (by omega) (by omega) (fun i a b => by
              by_cases hi : i = nw - j
              · rw [hi]; exact h17
              · exact h3 i (by omega) b)
            rw [if_neg (by omega), show nw + 1 - (j + 1) = nw - j by omega] at e2
            exact e2
  refine r_iconst rfl ?_
  refine r_istore_n (L2 := [_, _, _, _]) rfl rfl ?_
  refine r_aload_n rfl rfl ?_
  refine r_getI rfl hk (by decide) (by decide) rfl ?_
  refine r_istore_n (L2 := [_, _, _, _]) rfl rfl ?_
  rw [hn]
  have e2 := loop (nw + 2) 0 (by omega) (by omega) (fun i a b => by omega)
  rw [if_pos rfl, nI_m1 (by omega)] at e2
  exact e2
theorem nI_between {x : Int32} {n : Nat} (h1 : 0 ≤ x) (h2 : x.toNatClampNeg = n) : x = nI n := by
  obtain ⟨j, hj, rfl⟩ := nI_of (Int32.not_lt.mpr h1)
  rw [nI_clamp hj] at h2
  rw [h2]
theorem ct_X0_widest {d : Nat} {S : am_S} {o f t : Nat} {due : Int32} (hC : IsC S o) (hf : f ≤ 200) (ht : t ≤ 199) : am_CT (d + 3) iX0_widest [.ref o, .int (nI f), .int (nI t), .int due] S (some (.int (topI (fun j => absI (gI S (o + 1) j - due)) f (t + 1 - f)))) (S) := by
  refine am_CT_in mmX0_widest rfl rfl rfl ?_
  have hk := hC.1
  have loop : ∀ (k : Nat) (j : Nat), (f + j ≤ t + 1 ∨ j = 0) → (t + 1 < j + k) → am_Ex (am_Call am_MT (d + 2)) mmX0_widest none (fun r1 G1 => r1 = (some (.int (topI (fun j => absI (gI S (o + 1) j - due)) f (t + 1 - f)))) ∧ G1 = am_H (S)) (fun _ _ _ _ _ _ => False) 6 [some (.ref o), some (.int (nI f)), some (.int (nI t)), some (.int due), some (.int (topI (fun j => absI (gI S (o + 1) j - due)) f j)), some (.int (nI (f + j)))] [] (am_H (S)) 0 0 := by
    intro k
    induction k with
    | zero =>
      intro j h1 h2
      omega
    | succ k ih =>
      intro j h1 h2
      refine r_iload rfl rfl ?_
      refine r_iload_n rfl rfl ?_
      refine r_icmp_gt rfl (fun h9 => ?_) (fun h9 => ?_)
      · rw [nI_ltI (by omega) (by omega)] at h9
        obtain rfl : j = t + 1 - f := by omega
        refine r_iload rfl rfl ?_
        refine r_iret rfl rfl ?_
        exact ⟨rfl, rfl⟩
      · rw [nI_ltI (by omega) (by omega)] at h9
        refine r_iload rfl rfl ?_
        refine r_aload_n rfl rfl ?_
        refine r_iload rfl rfl ?_
        refine r_iload_n rfl rfl ?_
        refine r_callV rfl (ct_X0_off hC) rfl rfl hk (by decide) rfl (am_cnt rfl) ?_
        refine r_max rfl (am_cnt rfl) ?_
        refine r_istore (L2 := [_, _, _, _, _, _]) rfl rfl ?_
        refine r_iinc (L2 := [_, _, _, _, _, _]) rfl rfl rfl ?_
        refine r_goto rfl ?_
        rw [fPlace_nI (by omega), nI_1]
        exact ih (j + 1) (by omega) (by omega)
  refine r_iconst rfl ?_
  refine r_istore (L2 := [_, _, _, _, _, _]) rfl rfl ?_
  refine r_iload_n rfl rfl ?_
  refine r_istore (L2 := [_, _, _, _, _, _]) rfl rfl ?_
  exact loop (t + 2) 0 (Or.inr rfl) (by omega)
/-- sign changes of f 0 .. f (n - 1), noughts left out: how many, and the last side -/
def sgn (x : Int32) : Int32 := (x >>> ((31 : Int32) &&& 31)) ||| (((-x).toUInt32 >>> ((31 : Int32).toUInt32 &&& Int32.toUInt32 31)).toInt32)
theorem ct_J6_signum_0f7a4 {d : Nat} {S : am_S} {x : Int32} : am_CT (d + 1) iJ6_signum_0f7a4 [.int x] S (some (.int (sgn x))) (S) := by
  refine am_CT_in mmJ6_signum_0f7a4 rfl rfl rfl ?_
  refine r_iload_n rfl rfl ?_
  refine r_bipush rfl ?_
  refine r_ishr rfl ?_
  refine r_iload_n rfl rfl ?_
  refine r_ineg rfl ?_
  refine r_bipush rfl ?_
  refine r_iushr rfl ?_
  refine r_ior rfl ?_
  refine r_iret rfl rfl ?_
  exact ⟨rfl, rfl⟩
def turnI (f : Nat → Int32) : Nat → Int32 × Int32
  | 0 => (0, 0)
  | n + 1 => ((turnI f n).1 + (if sgn (f n) * (turnI f n).2 < 0 then 1 else 0), if sgn (f n) = 0 then (turnI f n).2 else sgn (f n))
theorem ct_X0_turnsRound {d : Nat} {S : am_S} {o nw : Nat} {due : Int32} (hC : IsC S o) (hn : gI S o 0 = nI nw) (hb : nw ≤ 199) : am_CT (d + 2) iX0_turnsRound [.ref o, .int due] S (some (.int (turnI (fun m => gI S (o + 1) m - due) (nw + 1)).1)) (S) := by
  refine am_CT_in mmX0_turnsRound rfl rfl rfl ?_
  have hk := hC.1
  have loop : ∀ (k : Nat) (j : Nat) (n : Int32) (sd : Int32) (v5 : Option Value), (j ≤ nw + 1) → (nw + 1 < j + k) → ((n, sd) = turnI (fun m => gI S (o + 1) m - due) j) → am_Ex (am_Call am_MT (d + 1)) mmX0_turnsRound none (fun r1 G1 => r1 = (some (.int (turnI (fun m => gI S (o + 1) m - due) (nw + 1)).1)) ∧ G1 = am_H (S)) (fun _ _ _ _ _ _ => False) 7 [some (.ref o), some (.int due), some (.int n), some (.int sd), some (.int (nI j)), v5] [] (am_H (S)) 0 0 := by
    intro k
    induction k with
    | zero =>
      intro j n sd v5 h1 h2 h3
      omega
    | succ k ih =>
      intro j n sd v5 h1 h2 h3
      refine r_iload rfl rfl ?_
      refine r_aload_n rfl rfl ?_
      refine r_getI rfl hk (by decide) (by decide) rfl ?_
      refine r_icmp_gt rfl (fun h13 => ?_) (fun h13 => ?_)
      · rw [hn, nI_ltI (by omega) (by omega)] at h13
        obtain rfl : j = nw + 1 := by omega
        rw [show n = _ from congrArg Prod.fst h3]
        refine r_iload_n rfl rfl ?_
        refine r_iret rfl rfl ?_
        exact ⟨rfl, rfl⟩
      · rw [hn, nI_ltI (by omega) (by omega)] at h13
        refine r_aload_n rfl rfl ?_
        refine r_iload rfl rfl ?_
        refine r_callV rfl (ct_X0_placeAt hC) rfl rfl hk (by decide) rfl (am_cnt rfl) ?_
        refine r_iload_n rfl rfl ?_
        refine r_isub rfl ?_
        refine r_callS rfl (by decide) ct_J6_signum_0f7a4 rfl rfl (am_cnt rfl) ?_
        refine r_istore (L2 := [_, _, _, _, _, _]) rfl rfl ?_
        refine r_iload_n rfl rfl ?_
        refine r_iload rfl rfl ?_
        refine r_iload_n rfl rfl ?_
        refine r_imul rfl ?_
        refine r_if_ge rfl (fun h34 => ?_) (fun h34 => ?_)
        · refine r_iconst rfl ?_
          refine r_iadd rfl ?_
          refine r_istore_n (L2 := [_, _, _, _, _, _]) rfl rfl ?_
          refine r_iload rfl rfl ?_
          refine r_if_ne rfl (fun h46 => ?_) (fun h46 => ?_)
          · refine r_iload rfl rfl ?_
            refine r_istore_n (L2 := [_, _, _, _, _, _]) rfl rfl ?_
            refine r_iinc (L2 := [_, _, _, _, _, _]) rfl rfl rfl ?_
            refine r_goto rfl ?_
            rw [fPlace_nI (by omega)] at h34 h46
            rw [fPlace_nI (by omega), nI_1]
            exact ih (j + 1) _ _ _ (by omega) (by omega) (by rw [turnI, ← h3]; simp only; grind)
          · refine r_iload_n rfl rfl ?_
            refine r_goto rfl ?_
            refine r_istore_n (L2 := [_, _, _, _, _, _]) rfl rfl ?_
            refine r_iinc (L2 := [_, _, _, _, _, _]) rfl rfl rfl ?_
            refine r_goto rfl ?_
            rw [fPlace_nI (by omega)] at h34 h46
            rw [fPlace_nI (by omega), nI_1]
            exact ih (j + 1) _ _ _ (by omega) (by omega) (by rw [turnI, ← h3]; simp only; grind)
        · refine r_iconst rfl ?_
          refine r_goto rfl ?_
          refine r_iadd rfl ?_
          refine r_istore_n (L2 := [_, _, _, _, _, _]) rfl rfl ?_
          refine r_iload rfl rfl ?_
          refine r_if_ne rfl (fun h46 => ?_) (fun h46 => ?_)
          · refine r_iload rfl rfl ?_
            refine r_istore_n (L2 := [_, _, _, _, _, _]) rfl rfl ?_
            refine r_iinc (L2 := [_, _, _, _, _, _]) rfl rfl rfl ?_
            refine r_goto rfl ?_
            rw [fPlace_nI (by omega)] at h34 h46
            rw [fPlace_nI (by omega), nI_1]
            exact ih (j + 1) _ _ _ (by omega) (by omega) (by rw [turnI, ← h3]; simp only; grind)
          · refine r_iload_n rfl rfl ?_
            refine r_goto rfl ?_
            refine r_istore_n (L2 := [_, _, _, _, _, _]) rfl rfl ?_
            refine r_iinc (L2 := [_, _, _, _, _, _]) rfl rfl rfl ?_
            refine r_goto rfl ?_
            rw [fPlace_nI (by omega)] at h34 h46
            rw [fPlace_nI (by omega), nI_1]
            exact ih (j + 1) _ _ _ (by omega) (by omega) (by rw [turnI, ← h3]; simp only; grind)
  refine r_iconst rfl ?_
  refine r_istore_n (L2 := [_, _, _, _, _, _]) rfl rfl ?_
  refine r_iconst rfl ?_
  refine r_istore_n (L2 := [_, _, _, _, _, _]) rfl rfl ?_
  refine r_iconst rfl ?_
  refine r_istore (L2 := [_, _, _, _, _, _]) rfl rfl ?_
  exact loop (nw + 2) 0 _ _ _ (by omega) (by omega) rfl
theorem ct_X0_note {d : Nat} {S : am_S} {o p nw : Nat} {a b c e : Int32} (hC : IsC S o) (hn : gI S o 0 = nI nw) (hb : nw ≤ 199) (hp : p < 6) : am_CT (d + 1) iX0_note [.ref o, .int (nI p), .int a, .int b, .int c, .int e] S (none) (uI (uI (uI (uI S (o + 2) (p * 200 + nw) a) (o + 3) (p * 200 + nw) b) (o + 4) (p * 200 + nw) c) (o + 5) (p * 200 + nw) e) := by
  refine am_CT_in mmX0_note rfl rfl rfl ?_
  obtain ⟨hk, hk1, hk2, hk3, hk4, hk5⟩ := hC
  have e1 : nI p * 200 + gI S o 0 = nI (p * 200 + nw) := by
    rw [hn]
    exact (congrArg (fun z => z + nI nw) (pk_mul p 200)).trans (nI_add _ _)
  have e2 : (nI p * 200 + gI S o 0).toNatClampNeg = p * 200 + nw := by rw [e1, nI_clamp (by omega)]
  have e3 : 0 ≤ nI p * 200 + gI S o 0 := by rw [e1]; exact nI_pos' (by omega)
  have e4 : nI p * 200 + gI S o 0 < Int32.ofNat 1200 := by rw [e1]; exact nI_lt (by omega) (by omega)
  refine r_iload_n rfl rfl ?_
  refine r_sipush rfl ?_
  refine r_imul rfl ?_
  refine r_aload_n rfl rfl ?_
  refine r_getI rfl hk (by decide) (by decide) rfl ?_
  refine r_iadd rfl ?_
  refine r_istore (L2 := [_, _, _, _, _, _, _]) rfl rfl ?_
  refine r_iload rfl rfl ?_
  refine r_if_lt rfl (fun h14 => ?_) (fun h14 => ?_)
  · exact absurd e3 (Int32.not_le.mpr h14)
  · refine r_iload rfl rfl ?_
    refine r_aload_n rfl rfl ?_
    refine r_getO rfl hk (by decide) (by decide) rfl ?_
    refine r_alen rfl hk2 (by decide) ?_
    refine r_icmp_ge rfl (fun h24 => ?_) (fun h24 => ?_)
    · exact absurd e4 (Int32.not_lt.mpr h24)
    · refine r_aload_n rfl rfl ?_
      refine r_getO rfl hk (by decide) (by decide) rfl ?_
      refine r_iload rfl rfl ?_
      refine r_iload_n rfl rfl ?_
      refine r_iast rfl hk2 (by first | decide | assumption) (by first | exact e3 | exact e4) (by first | exact e3 | exact e4) ?_
      refine r_aload_n rfl rfl ?_
      refine r_getO rfl hk (by decide) (by decide) rfl ?_
      refine r_iload rfl rfl ?_
      refine r_iload_n rfl rfl ?_
      refine r_iast rfl hk3 (by first | decide | assumption) (by first | exact e3 | exact e4) (by first | exact e3 | exact e4) ?_
      refine r_aload_n rfl rfl ?_
      refine r_getO rfl hk (by decide) (by decide) rfl ?_
      refine r_iload rfl rfl ?_
      refine r_iload rfl rfl ?_
      refine r_iast rfl hk4 (by first | decide | assumption) (by first | exact e3 | exact e4) (by first | exact e3 | exact e4) ?_
      refine r_aload_n rfl rfl ?_
      refine r_getO rfl hk (by decide) (by decide) rfl ?_
      refine r_iload rfl rfl ?_
      refine r_iload rfl rfl ?_
      refine r_iast rfl hk5 (by first | decide | assumption) (by first | exact e3 | exact e4) (by first | exact e3 | exact e4) ?_
      refine r_vret rfl ?_
      rw [e2]
      exact ⟨rfl, rfl⟩
theorem ct_X0_move {d : Nat} {S : am_S} {o nw : Nat} {v : Int32} (hC : IsC S o) (hn : gI S o 0 = nI nw) (hb : nw < 199) : am_CT (d + 2) iX0_move [.ref o, .int v] S (none) (uI (uI S (o + 1) (nw + 1) (fPut (gI S (o + 1) nw + v) 999)) o 0 (nI (nw + 1))) := by
  refine am_CT_in mmX0_move rfl rfl rfl ?_
  obtain ⟨hk, hk1, hk2, hk3, hk4, hk5⟩ := hC
  have e1 : gI S o 0 + 1 = nI (nw + 1) := by rw [hn, nI_1]
  have e2 : (gI S o 0).toNatClampNeg = nw := by rw [hn, nI_clamp (by omega)]
  have e3 : (gI S o 0 + 1).toNatClampNeg = nw + 1 := by rw [e1, nI_clamp (by omega)]
  have s1 : 0 ≤ gI S o 0 := by rw [hn]; exact nI_pos' (by omega)
  have s2 : gI S o 0 < 200 := by rw [hn]; exact nI_lt (b := 200) (by omega) (by omega)
  have s3 : 0 ≤ gI S o 0 + 1 := by rw [e1]; exact nI_pos' (by omega)
  have s4 : gI S o 0 + 1 < 200 := by rw [e1]; exact nI_lt (b := 200) (by omega) (by omega)
  have s5 : ¬ 199 ≤ gI S o 0 := by rw [hn]; exact nI_ge (b := 199) (by omega) (by omega)
  refine r_aload_n rfl rfl ?_
  refine r_getI rfl hk (by decide) (by decide) rfl ?_
  refine r_if_lt rfl (fun h4 => ?_) (fun h4 => ?_)
  · exact absurd s1 (Int32.not_le.mpr h4)
  · refine r_aload_n rfl rfl ?_
    refine r_getI rfl hk (by decide) (by decide) rfl ?_
    refine r_sipush rfl ?_
    refine r_icmp_ge rfl (fun h14 => ?_) (fun h14 => ?_)
    · exact absurd h14 s5
    · refine r_aload_n rfl rfl ?_
      refine r_getO rfl hk (by decide) (by decide) rfl ?_
      refine r_aload_n rfl rfl ?_
      refine r_getI rfl hk (by decide) (by decide) rfl ?_
      refine r_iconst rfl ?_
      refine r_iadd rfl ?_
      refine r_aload_n rfl rfl ?_
      refine r_getO rfl hk (by decide) (by decide) rfl ?_
      refine r_aload_n rfl rfl ?_
      refine r_getI rfl hk (by decide) (by decide) rfl ?_
      refine r_iald rfl hk1 (by first | decide | assumption) (by first | exact s1 | exact s2 | exact s3 | exact s4) (by first | exact s1 | exact s2 | exact s3 | exact s4) ?_
      refine r_iload_n rfl rfl ?_
      refine r_iadd rfl ?_
      refine r_sipush rfl ?_
      refine r_callS rfl (by decide) ct_X10_putTo rfl rfl (am_cnt rfl) ?_
      refine r_iast rfl hk1 (by first | decide | assumption) (by first | exact s1 | exact s2 | exact s3 | exact s4) (by first | exact s1 | exact s2 | exact s3 | exact s4) ?_
      refine r_aload_n rfl rfl ?_
      refine r_dup rfl rfl ?_
      refine r_getI rfl hk (by decide) (by decide) rfl ?_
      refine r_iconst rfl ?_
      refine r_iadd rfl ?_
      refine r_putI rfl hk (by decide) (by decide) rfl ?_
      refine r_vret rfl ?_
      rw [e2, e3]
      refine ⟨rfl, ?_⟩
      have e5 : gI (uI S (o + 1) (nw + 1) (fPut (gI S (o + 1) nw + v) 999)) o 0 = nI nw := by rw [gI_uI, if_neg (by omega), hn]
      rw [← nI_1, ← e5]
def drawI (r : Int32) : Int32 := r * 1103515245 + 12345
def tenI (r : Int32) : Int32 := (r.toUInt32 >>> ((16 : Int32).toUInt32 &&& Int32.toUInt32 31)).toInt32 - (r.toUInt32 >>> ((16 : Int32).toUInt32 &&& Int32.toUInt32 31)).toInt32 / 10 * 10
theorem ct_X0_drawOfTen {d : Nat} {S : am_S} {o : Nat} (hC : IsC S o) : am_CT (d + 1) iX0_drawOfTen [.ref o] S (some (.int (tenI (drawI (gI S o 2))))) (uI S o 2 (drawI (gI S o 2))) := by
  refine am_CT_in mmX0_drawOfTen rfl rfl rfl ?_
  have hk := hC.1
  refine r_aload_n rfl rfl ?_
  refine r_aload_n rfl rfl ?_
  refine r_getI rfl hk (by decide) (by decide) rfl ?_
  refine r_ldc rfl ?_
  refine r_imul rfl ?_
  refine r_sipush rfl ?_
  refine r_iadd rfl ?_
  refine r_putI rfl hk (by decide) (by decide) rfl ?_
  refine r_aload_n rfl rfl ?_
  refine r_getI rfl hk (by decide) (by decide) rfl ?_
  refine r_bipush rfl ?_
  refine r_iushr rfl ?_
  refine r_bipush rfl ?_
  refine r_irem rfl (by decide) ?_
  refine r_iret rfl rfl ?_
  refine ⟨?_, rfl⟩
  rw [gI_uI, if_pos rfl, if_pos rfl]
  rfl
theorem ct_X0_spoke {d : Nat} {S : am_S} {o : Nat} {p m : Int32} (hC : IsC S o) : am_CT (d + 2) iX0_spoke [.ref o, .int p, .int m] S (some (.int (b01 (¬ fNoted S (o + 3) p m = 0)))) (S) := by
  refine am_CT_in mmX0_spoke rfl rfl rfl ?_
  obtain ⟨hk, hk1, hk2, hk3, hk4, hk5⟩ := hC
  refine r_aload_n rfl rfl ?_
  refine r_aload_n rfl rfl ?_
  refine r_getO rfl hk (by decide) (by decide) rfl ?_
  refine r_iload_n rfl rfl ?_
  refine r_iload_n rfl rfl ?_
  refine r_callV rfl (ct_X0_noted hk3) rfl rfl hk (by decide) rfl (am_cnt rfl) ?_
  refine r_if_eq rfl (fun h10 => ?_) (fun h10 => ?_)
  · refine r_iconst rfl ?_
    refine r_zret rfl rfl (by simp) ?_
    exact ⟨by simp only [b01]; grind, rfl⟩
  · refine r_iconst rfl ?_
    refine r_goto rfl ?_
    refine r_zret rfl rfl (by simp) ?_
    exact ⟨by simp only [b01]; grind, rfl⟩
/-- a course becomes as another one -/
def cpyC (S : am_S) (o f : Nat) : am_S := rI (rI (rI (rI (rI (uI (uI (uI (uI S o 0 (gI S f 0)) o 1 (gI S f 1)) o 2 (gI S f 2)) o 3 (gI S f 3)) (o + 1) (va_cpy (gI S (f + 1)) (gI S (o + 1)) 0 0 200)) (o + 2) (va_cpy (gI S (f + 2)) (gI S (o + 2)) 0 0 1200)) (o + 3) (va_cpy (gI S (f + 3)) (gI S (o + 3)) 0 0 1200)) (o + 4) (va_cpy (gI S (f + 4)) (gI S (o + 4)) 0 0 1200)) (o + 5) (va_cpy (gI S (f + 5)) (gI S (o + 5)) 0 0 1200)
theorem ct_X0_copy {d : Nat} {S : am_S} {o f : Nat} (hC : IsC S o) (hF : IsC S f) (hne : o + 5 < f ∨ f + 5 < o) : am_CT (d + 1) iX0_copy [.ref o, .ref f] S (none) (cpyC S o f) := by
  refine am_CT_in mmX0_copy rfl rfl rfl ?_
  obtain ⟨hk, hk1, hk2, hk3, hk4, hk5⟩ := hC
  obtain ⟨hf, hf1, hf2, hf3, hf4, hf5⟩ := hF
  refine r_aload_n rfl rfl ?_
  refine r_aload_n rfl rfl ?_
  refine r_getI rfl hf (by decide) (by decide) rfl ?_
  refine r_putI rfl hk (by decide) (by decide) rfl ?_
  refine r_aload_n rfl rfl ?_
  refine r_aload_n rfl rfl ?_
  refine r_getI rfl hf (by decide) (by decide) rfl ?_
  refine r_putI rfl hk (by decide) (by decide) rfl ?_
  refine r_aload_n rfl rfl ?_
  refine r_aload_n rfl rfl ?_
  refine r_getI rfl hf (by decide) (by decide) rfl ?_
  refine r_putI rfl hk (by decide) (by decide) rfl ?_
  refine r_aload_n rfl rfl ?_
  refine r_aload_n rfl rfl ?_
  refine r_getI rfl hf (by decide) (by decide) rfl ?_
  refine r_putI rfl hk (by decide) (by decide) rfl ?_
  refine r_aload_n rfl rfl ?_
  refine r_getO rfl hf (by decide) (by decide) rfl ?_
  refine r_iconst rfl ?_
  refine r_aload_n rfl rfl ?_
  refine r_getO rfl hk (by decide) (by decide) rfl ?_
  refine r_iconst rfl ?_
  refine r_aload_n rfl rfl ?_
  refine r_getO rfl hk (by decide) (by decide) rfl ?_
  refine r_alen rfl hk1 (by decide) ?_
  refine r_copyI rfl (am_cnt rfl) hf1 hk1 (by decide) (by decide) (by decide) (by decide) (by decide) ?_
  refine r_aload_n rfl rfl ?_
  refine r_getO rfl hf (by decide) (by decide) rfl ?_
  refine r_iconst rfl ?_
  refine r_aload_n rfl rfl ?_
  refine r_getO rfl hk (by decide) (by decide) rfl ?_
  refine r_iconst rfl ?_
  refine r_aload_n rfl rfl ?_
  refine r_getO rfl hk (by decide) (by decide) rfl ?_
  refine r_alen rfl hk2 (by decide) ?_
  refine r_copyI rfl (am_cnt rfl) hf2 hk2 (by decide) (by decide) (by decide) (by decide) (by decide) ?_
  refine r_aload_n rfl rfl ?_
  refine r_getO rfl hf (by decide) (by decide) rfl ?_
  refine r_iconst rfl ?_
  refine r_aload_n rfl rfl ?_
  refine r_getO rfl hk (by decide) (by decide) rfl ?_
  refine r_iconst rfl ?_
  refine r_aload_n rfl rfl ?_
  refine r_getO rfl hk (by decide) (by decide) rfl ?_
  refine r_alen rfl hk3 (by decide) ?_
  refine r_copyI rfl (am_cnt rfl) hf3 hk3 (by decide) (by decide) (by decide) (by decide) (by decide) ?_
  refine r_aload_n rfl rfl ?_
  refine r_getO rfl hf (by decide) (by decide) rfl ?_
  refine r_iconst rfl ?_
  refine r_aload_n rfl rfl ?_
  refine r_getO rfl hk (by decide) (by decide) rfl ?_
  refine r_iconst rfl ?_
  refine r_aload_n rfl rfl ?_
  refine r_getO rfl hk (by decide) (by decide) rfl ?_
  refine r_alen rfl hk4 (by decide) ?_
  refine r_copyI rfl (am_cnt rfl) hf4 hk4 (by decide) (by decide) (by decide) (by decide) (by decide) ?_
  refine r_aload_n rfl rfl ?_
  refine r_getO rfl hf (by decide) (by decide) rfl ?_
  refine r_iconst rfl ?_
  refine r_aload_n rfl rfl ?_
  refine r_getO rfl hk (by decide) (by decide) rfl ?_
  refine r_iconst rfl ?_
  refine r_aload_n rfl rfl ?_
  refine r_getO rfl hk (by decide) (by decide) rfl ?_
  refine r_alen rfl hk5 (by decide) ?_
  refine r_copyI rfl (am_cnt rfl) hf5 hk5 (by decide) (by decide) (by decide) (by decide) (by decide) ?_
  refine r_vret rfl ?_
  refine ⟨rfl, ?_⟩
  simp (disch := omega) only [cpyC, gI_uI_ne, gI_rI_ne, cl_200, cl_1200, sb_cl0]
