/-! Contracts of which the state behind is told by what holds of it. -/
def am_CE (d mi : Nat) (As : List Value) (S : am_S) (r : Option Value) (P : am_S → Prop) : Prop := am_Call am_MT d mi As (am_H S) (fun r1 G1 => r1 = r ∧ ∃ S2, G1 = am_H S2 ∧ P S2)
section AME
variable {M : am_M} {scr : Option (Nat × (Nat → Int32))} {Q : Option Value → am_G → Prop} {X : am_P} {pc npc a b t u pos pp : Nat} {cv : Int32} {cl : Int64} {L : am_L} {st : List Value} {S : am_S} {nc ns : Nat}
theorem r_callVE {n mi d n1 o : Nat} {As : List Value} {r : Option Value} {P : am_S → Prop} (hk : am_lk (am_mt M) pc = some (pp, .invokevirtual n, npc, mi, n1, 0, u, pos, cv, cl)) (hc : am_CE d mi As S r P) (hst : (st.take n1).reverse = As) (ho : st[n1 - 1]? = some (.ref o)) (hq : am_kn (gR S 0) o = (u, 0)) (hu : u < 12) (hn : Nat.ble n1 st.length = true) (hcat : ((st.drop n1).map fun v => v.category).sum ≤ 8) (k : ∀ S2, P S2 → am_Ex (am_Call am_MT d) M scr Q X npc L (am_psh r (st.drop n1)) (am_H S2) nc ns) : am_Ex (am_Call am_MT d) M scr Q X pc L st (am_H S) nc ns := am_Ex_in (by
  unfold am_step
  rw [hk]
  simp only [am_ins, am_inv, am_rcv]
  rw [ho]
  simp only
  rw [am_H_get hq (by intro z; simp only at z; omega), am_ck_O hu, hst]
  exact ⟨rfl, Nat.le_of_ble_eq_true hn, hcat, _, hc, fun r1 G1 hr => by
    obtain ⟨h1, S2, h2, h3⟩ := hr
    rw [h1, h2]
    exact k S2 h3⟩)
theorem r_callSE {n mi d n1 : Nat} {As : List Value} {r : Option Value} {P : am_S → Prop} (hk : am_lk (am_mt M) pc = some (pp, .invokestatic n, npc, mi, n1, t, u, pos, cv, cl)) (ht : t = 1 ∨ t = 2) (hc : am_CE d mi As S r P) (hst : (st.take n1).reverse = As) (hn : Nat.ble n1 st.length = true) (hcat : ((st.drop n1).map fun v => v.category).sum ≤ 8) (k : ∀ S2, P S2 → am_Ex (am_Call am_MT d) M scr Q X npc L (am_psh r (st.drop n1)) (am_H S2) nc ns) : am_Ex (am_Call am_MT d) M scr Q X pc L st (am_H S) nc ns := am_Ex_in (by
  unfold am_step
  rw [hk]
  rcases ht with rfl | rfl
  all_goals
    simp only [am_ins, am_inv]
    rw [hst]
    exact ⟨Nat.le_of_ble_eq_true hn, hcat, _, hc, fun r1 G1 hr => by
      obtain ⟨h1, S2, h2, h3⟩ := hr
      rw [h1, h2]
      exact k S2 h3⟩)
end AME
theorem am_CE_in {d mi : Nat} {As : List Value} {S : am_S} {r : Option Value} {P : am_S → Prop} (M : am_M) (hM : am_MT mi = some M) (hl : Nat.ble (am_ent As).length (am_mL M) = true) (hv : As.all (fun v => match v with
  | .double _ => false
  | _ => true) = true) (h : am_Ex (am_Call am_MT d) M none (fun r1 G1 => r1 = r ∧ ∃ S2, G1 = am_H S2 ∧ P S2) (fun _ _ _ _ _ _ => False) 0 (am_entL (am_mL M) As) [] (am_H S) 0 0) : am_CE (d + 1) mi As S r P := by
  refine ⟨M, hM, Nat.le_of_ble_eq_true hl, fun v hv1 hc => ?_, h⟩
  have h2 := List.all_eq_true.mp hv v hv1
  cases v with
  | long x => exact ⟨x, rfl⟩
  | double x => cases h2
  | int _ => cases hc
  | ref _ => cases hc
  | null => cases hc
  | _ => cases hc
theorem ce_of {d mi : Nat} {As : List Value} {S S2 : am_S} {r : Option Value} {P : am_S → Prop} (h : am_CT d mi As S r S2) (hp : P S2) (hm : ∀ {Q1 Q2 : Option Value → am_G → Prop}, (∀ r G, Q1 r G → Q2 r G) → am_Call am_MT d mi As (am_H S) Q1 → am_Call am_MT d mi As (am_H S) Q2) : am_CE d mi As S r P := hm (fun r1 G1 z => ⟨z.1, S2, z.2, hp⟩) h
/-! Pulls of a part. -/
/-- the number at a minute -/
def pv (late : Nat) (k x : Int32) (j : Nat) : Int32 := pulG late k x (fun _ => 0) j j
theorem pulG_low {lt : Nat} {k x : Int32} {g : Nat → Int32} : ∀ m j, j ≤ m → pulG lt k x g m j = pulG lt k x g j j
  | 0, j, h => by
    obtain rfl : j = 0 := by omega
    rfl
  | m + 1, j, h => by
    by_cases hj : j = m + 1
    · rw [hj]
    · rw [pulG, pk_un hj, pulG_low m j (by omega)]
theorem pulG_ind {lt : Nat} {k x : Int32} {g : Nat → Int32} : ∀ n j, j ≤ n → pulG lt k x g j j = pv lt k x j
  | 0, j, h => by
    obtain rfl : j = 0 := by omega
    rw [pv, pulG, pulG, pk_us, pk_us]
  | n + 1, j, h => by
    by_cases hj : j = n + 1
    · subst hj
      have e1 := pulG_ind (g := g) (lt := lt) (k := k) (x := x) n n (Nat.le_refl _)
      have e2 := pulG_ind (g := fun _ => 0) n n (Nat.le_refl _) (lt := lt) (k := k) (x := x)
      have e3 : pulG lt k x g n (n - lt) = pulG lt k x (fun _ => 0) n (n - lt) := by
        rw [pulG_low n (n - lt) (by omega), pulG_low n (n - lt) (by omega), pulG_ind n (n - lt) (by omega), pulG_ind n (n - lt) (by omega)]
      rw [pv, pulG, pulG, pk_us, pk_us, e1, e2, e3]
    · exact pulG_ind n j (by omega)
theorem pulG_pv {lt : Nat} {k x : Int32} {g : Nat → Int32} {m j : Nat} (h : j ≤ m) : pulG lt k x g m j = pv lt k x j := by
  rw [pulG_low m j h, pulG_ind j j (Nat.le_refl _)]
theorem topI_congr {f g : Nat → Int32} {a : Nat} : ∀ n, (∀ j, a ≤ j → j < a + n → f j = g j) → topI f a n = topI g a n
  | 0, _ => rfl
  | n + 1, h => by rw [topI, topI, topI_congr n (fun j x y => h j x (by omega)), h (a + n) (by omega) (by omega)]
theorem sumI_congr {f g : Nat → Int32} : ∀ n, (∀ j, j < n → f j = g j) → sumI f n = sumI g n
  | 0, _ => rfl
  | n + 1, h => by rw [sumI, sumI, sumI_congr n (fun j x => h j (by omega)), h n (by omega)]
theorem turnI_congr {f g : Nat → Int32} : ∀ n, (∀ j, j < n → f j = g j) → turnI f n = turnI g n
  | 0, _ => rfl
  | n + 1, h => by rw [turnI, turnI, turnI_congr n (fun j x => h j (by omega)), h n (by omega)]
theorem trun_congr {p q : Nat → Prop} [DecidablePred p] [DecidablePred q] : ∀ n, (∀ j, j < n → (p j ↔ q j)) → trun p n = trun q n
  | 0, _ => rfl
  | n + 1, h => by
    rw [trun, trun, trun_congr n (fun j x => h j (by omega))]
    by_cases hp : p n
    · rw [if_pos hp, if_pos ((h n (by omega)).mp hp)]
    · rw [if_neg hp, if_neg (fun z => hp ((h n (by omega)).mpr z))]
theorem setI_congr {p q : Nat → Prop} [DecidablePred p] [DecidablePred q] {n : Nat} (h : ∀ j, j ≤ n → (p j ↔ q j)) : setI p n = setI q n := by
  unfold setI
  rw [trun_congr (n + 1) (fun j x => h j (by omega))]
def swS (S : am_S) (lt : Nat) (kk x : Int32) (n : Nat) : am_S := rI (uI S 84 1 (nI n)) 85 (pulG lt kk x (gI S 85) n)
theorem swS_n {S : am_S} {lt n : Nat} {kk x : Int32} : gI (swS S lt kk x n) 84 1 = nI n := by rw [swS, gI_rI_ne (by decide), gI_uI, if_pos rfl, if_pos rfl]
theorem swS_v {S : am_S} {lt n j : Nat} {kk x : Int32} (h : j ≤ n) : gI (swS S lt kk x n) 85 j = pv lt kk x j := by rw [swS, gI_rI_eq, pulG_pv h]
def wdI (lt : Nat) (kk x : Int32) (f n : Nat) : Int32 := topI (fun j => absI (pv lt kk x j)) f n
def tnI (lt : Nat) (kk x : Int32) (n : Nat) : Int32 := (turnI (pv lt kk x) (n + 1)).1
def cmI (lt : Nat) (kk x : Int32) (n : Nat) : Int32 := setI (fun m => ¬ 1 < absI (pv lt kk x m)) n
theorem sw_wid {d : Nat} {S : am_S} {lt n f t : Nat} {kk x : Int32} (hn : n ≤ 199) (hf : f ≤ 200) (ht : t ≤ n) : am_CT (d + 1) iX6_widest [.ref 84, .int (nI f), .int (nI t)] (swS S lt kk x n) (some (.int (wdI lt kk x f (t + 1 - f)))) (swS S lt kk x n) := by
  have e := ct_X6_widest (d := d) (S := swS S lt kk x n) (f := f) (t := t) swS_n hn hf ht
  rw [topI_congr (g := fun j => absI (pv lt kk x j)) (t + 1 - f) (fun j a b => by rw [swS_v (by omega)])] at e
  exact e
theorem sw_trn {d : Nat} {S : am_S} {lt n : Nat} {kk x : Int32} (hn : n ≤ 199) : am_CT (d + 2) iX6_turns [.ref 84] (swS S lt kk x n) (some (.int (tnI lt kk x n))) (swS S lt kk x n) := by
  have e := ct_X6_turns (d := d) (S := swS S lt kk x n) swS_n hn
  rw [turnI_congr (g := pv lt kk x) (n + 1) (fun j a => swS_v (by omega))] at e
  exact e
theorem sw_clm {d : Nat} {S : am_S} {lt n : Nat} {kk x : Int32} (hn : n ≤ 199) : am_CT (d + 1) iX6_calmFrom [.ref 84] (swS S lt kk x n) (some (.int (cmI lt kk x n))) (swS S lt kk x n) := by
  have e := ct_X6_calmFrom (d := d) (S := swS S lt kk x n) swS_n hn
  rw [setI_congr (q := fun m => ¬ 1 < absI (pv lt kk x m)) (fun j a => by rw [swS_v (by omega)])] at e
  exact e
theorem ct_X10_pull_no {d : Nat} {S : am_S} {lt kk x n : Int32} (h : ¬ ((0 ≤ lt ∧ lt ≤ 20) ∧ (1 ≤ kk ∧ kk ≤ 20) ∧ (1 ≤ x ∧ x ≤ 999) ∧ (2 ≤ n ∧ n ≤ 199))) : am_CT (d + 5) iX10_pull [.ref 0, .int lt, .int kk, .int x, .int n] S (some (.int (-1))) (S) := by
  refine am_CT_in mmX10_pull rfl rfl rfl ?_
  refine r_iload_n rfl rfl ?_
  refine r_iconst rfl ?_
  refine r_bipush rfl ?_
  refine r_callS rfl (by decide) ct_X10_isWithin rfl rfl (am_cnt rfl) ?_
  refine r_if_eq rfl (fun h7 => ?_) (fun h7 => ?_)
  · refine r_iconst rfl ?_
    refine r_iret rfl rfl ?_
    exact ⟨rfl, rfl⟩
  · refine r_iload_n rfl rfl ?_
    refine r_iconst rfl ?_
    refine r_bipush rfl ?_
    refine r_callS rfl (by decide) ct_X10_isWithin rfl rfl (am_cnt rfl) ?_
    refine r_if_eq rfl (fun h17 => ?_) (fun h17 => ?_)
    · refine r_iconst rfl ?_
      refine r_iret rfl rfl ?_
      exact ⟨rfl, rfl⟩
    · refine r_iload_n rfl rfl ?_
      refine r_iconst rfl ?_
      refine r_sipush rfl ?_
      refine r_callS rfl (by decide) ct_X10_isWithin rfl rfl (am_cnt rfl) ?_
      refine r_if_eq rfl (fun h28 => ?_) (fun h28 => ?_)
      · refine r_iconst rfl ?_
        refine r_iret rfl rfl ?_
        exact ⟨rfl, rfl⟩
      · refine r_iload rfl rfl ?_
        refine r_iconst rfl ?_
        refine r_sipush rfl ?_
        refine r_callS rfl (by decide) ct_X10_isWithin rfl rfl (am_cnt rfl) ?_
        refine r_if_ne rfl (fun h40 => ?_) (fun h40 => ?_)
        · exfalso
          simp only [b01_eq0] at *
          grind
        · refine r_iconst rfl ?_
          refine r_iret rfl rfl ?_
          exact ⟨rfl, rfl⟩
def pulS (S : am_S) (lt : Nat) (kk x : Int32) (n : Nat) : am_S := t3 (swS S lt kk x n) (wdI lt kk x 0 (n / 2)).toInt64 (tnI lt kk x n).toInt64 (cmI lt kk x n).toInt64
theorem ct_X10_pull_ok {d : Nat} {S : am_S} {lt n : Nat} {kk x : Int32} (hl : lt ≤ 20) (hk : 1 ≤ kk ∧ kk ≤ 20) (hx : 1 ≤ x ∧ x ≤ 999) (h2 : 2 ≤ n) (hn : n ≤ 199) : am_CT (d + 5) iX10_pull [.ref 0, .int (nI lt), .int kk, .int x, .int (nI n)] S (some (.int (wdI lt kk x (n / 2) (n + 1 - n / 2)))) (pulS S lt kk x n) := by
  refine am_CT_in mmX10_pull rfl rfl rfl ?_
  have c1 : 0 ≤ nI lt ∧ nI lt ≤ 20 := ⟨nI_pos' (by omega), nI_le (b := 20) hl (by omega)⟩
  have c2 : 2 ≤ nI n ∧ nI n ≤ 199 := ⟨nI_le (a := 2) h2 (by omega), nI_le (b := 199) hn (by omega)⟩
  have e2 : nI n / 2 = nI (n / 2) := pk_div (a := n) (d := 2) (by omega) (by decide) (by decide)
  have e3 : nI (n / 2) - 1 = nI (n / 2 - 1) := pk_sub (b := 1) (by omega)
  have w1 : ∀ {d : Nat}, am_CT (d + 1) iX6_widest [.ref 84, .int 0, .int (nI (n / 2 - 1))] (swS S lt kk x n) (some (.int (wdI lt kk x 0 (n / 2)))) (swS S lt kk x n) := fun {d} => by
    have e := sw_wid (d := d) (S := S) (lt := lt) (kk := kk) (x := x) (f := 0) (t := n / 2 - 1) hn (by omega) (by omega)
    rw [show n / 2 - 1 + 1 - 0 = n / 2 by omega] at e
    exact e
  have g1 : ∀ (T : am_S) (a b c : Int64), gI (t3 T a b c) 84 = gI T 84 ∧ gI (t3 T a b c) 85 = gI T 85 := fun T a b c => ⟨t3_ne (by decide), t3_ne (by decide)⟩
  have w2 : ∀ {d : Nat}, am_CT (d + 1) iX6_widest [.ref 84, .int (nI (n / 2)), .int (nI n)] (pulS S lt kk x n) (some (.int (wdI lt kk x (n / 2) (n + 1 - n / 2)))) (pulS S lt kk x n) := fun {d} => by
    have e := ct_X6_widest (d := d) (S := pulS S lt kk x n) (f := n / 2) (t := n) (ls := n) (by rw [pulS, (g1 _ _ _ _).1, swS_n]) hn (by omega) (by omega)
    rw [topI_congr (g := fun j => absI (pv lt kk x j)) (n + 1 - n / 2) (fun j a b => by rw [pulS, (g1 _ _ _ _).2, swS_v (by omega)])] at e
    exact e
  refine r_iload_n rfl rfl ?_
  refine r_iconst rfl ?_
  refine r_bipush rfl ?_
  refine r_callS rfl (by decide) ct_X10_isWithin rfl rfl (am_cnt rfl) ?_
  refine r_if_eq rfl (fun h7 => ?_) (fun h7 => ?_)
  · exact absurd (c1) (b01_eq0.mp h7)
  · refine r_iload_n rfl rfl ?_
    refine r_iconst rfl ?_
    refine r_bipush rfl ?_
    refine r_callS rfl (by decide) ct_X10_isWithin rfl rfl (am_cnt rfl) ?_
    refine r_if_eq rfl (fun h17 => ?_) (fun h17 => ?_)
    · exact absurd (hk) (b01_eq0.mp h17)
    · refine r_iload_n rfl rfl ?_
      refine r_iconst rfl ?_
      refine r_sipush rfl ?_
      refine r_callS rfl (by decide) ct_X10_isWithin rfl rfl (am_cnt rfl) ?_
      refine r_if_eq rfl (fun h28 => ?_) (fun h28 => ?_)
      · exact absurd (hx) (b01_eq0.mp h28)
      · refine r_iload rfl rfl ?_
        refine r_iconst rfl ?_
        refine r_sipush rfl ?_
        refine r_callS rfl (by decide) ct_X10_isWithin rfl rfl (am_cnt rfl) ?_
        refine r_if_ne rfl (fun h40 => ?_) (fun h40 => ?_)
        · refine r_aload_n rfl rfl ?_
          refine r_getC rfl rfl (by decide) (by decide) rfl ?_
          refine r_iload_n rfl rfl ?_
          refine r_iload_n rfl rfl ?_
          refine r_iload_n rfl rfl ?_
          refine r_iload rfl rfl ?_
          refine r_callV rfl (ct_X6_swing hl hn) rfl rfl rfl (by decide) rfl (am_cnt rfl) ?_
          refine r_iload rfl rfl ?_
          refine r_iconst rfl ?_
          refine r_idiv rfl (by decide) ?_
          rw [e2]
          refine r_istore (L2 := [_, _, _, _, _, _]) rfl rfl ?_
          refine r_aload_n rfl rfl ?_
          refine r_getC rfl rfl (by decide) (by decide) rfl ?_
          refine r_aload_n rfl rfl ?_
          refine r_getC rfl rfl (by decide) (by decide) rfl ?_
          refine r_iconst rfl ?_
          refine r_iload rfl rfl ?_
          refine r_iconst rfl ?_
          refine r_isub rfl ?_
          rw [e3]
          refine r_callV rfl w1 rfl rfl rfl (by decide) rfl (am_cnt rfl) ?_
          refine r_i2l rfl ?_
          refine r_aload_n rfl rfl ?_
          refine r_getC rfl rfl (by decide) (by decide) rfl ?_
          refine r_callV rfl (sw_trn hn) rfl rfl rfl (by decide) rfl (am_cnt rfl) ?_
          refine r_i2l rfl ?_
          refine r_aload_n rfl rfl ?_
          refine r_getC rfl rfl (by decide) (by decide) rfl ?_
          refine r_callV rfl (sw_clm hn) rfl rfl rfl (by decide) rfl (am_cnt rfl) ?_
          refine r_i2l rfl ?_
          refine r_callV rfl ct_X7_tellThree rfl rfl rfl (by decide) rfl (am_cnt rfl) ?_
          refine r_aload_n rfl rfl ?_
          refine r_getC rfl rfl (by decide) (by decide) rfl ?_
          refine r_iload rfl rfl ?_
          refine r_iload rfl rfl ?_
          refine r_callV rfl w2 rfl rfl rfl (by decide) rfl (am_cnt rfl) ?_
          refine r_iret rfl rfl ?_
          exact ⟨rfl, rfl⟩
        · exact absurd (c2) (b01_eq0.mp h40)
theorem ct_X10_edge_no {d : Nat} {S : am_S} {lt : Int32} (h : ¬ (0 ≤ lt ∧ lt ≤ 20)) : am_CT (d + 3) iX10_edge [.ref 0, .int lt] S (some (.int (-1))) (S) := by
  refine am_CT_in mmX10_edge rfl rfl rfl ?_
  refine r_iload_n rfl rfl ?_
  refine r_iconst rfl ?_
  refine r_bipush rfl ?_
  refine r_callS rfl (by decide) ct_X10_isWithin rfl rfl (am_cnt rfl) ?_
  refine r_if_ne rfl (fun h7 => ?_) (fun h7 => ?_)
  · exact (h7 (b01_f (h))).elim
  · refine r_iconst rfl ?_
    refine r_iret rfl rfl ?_
    exact ⟨rfl, rfl⟩
def SwOnly (S T : am_S) : Prop := ∃ z g, T = rI (uI S 84 1 z) 85 g
theorem swOnly_s {S T : am_S} {lt n : Nat} {kk x : Int32} (h : SwOnly S T) : SwOnly S (swS T lt kk x n) := by
  obtain ⟨z, g, rfl⟩ := h
  refine ⟨nI n, pulG lt kk x (gI (rI (uI S 84 1 z) 85 g) 85) n, ?_⟩
  rw [swS, uI_rI_comm _ _ _ _ _ _ (by decide), rI_rI, uI_uI]
theorem swOnly_0 {S : am_S} : SwOnly S S := ⟨gI S 84 1, gI S 85, by rw [uI_same, rI_id]⟩
def edgN (lt : Nat) : Nat := fstF (fun k => 100 < wdI lt (nI k) 100 99 101) 1 20
theorem ct_X10_edge_ok {d : Nat} {S : am_S} {lt : Nat} (hl : lt ≤ 20) : am_CE (d + 3) iX10_edge [.ref 0, .int (nI lt)] S (some (.int (if edgN lt = 21 then -2 else nI (edgN lt)))) (SwOnly S) := by
  refine am_CE_in mmX10_edge rfl rfl rfl ?_
  have c1 : 0 ≤ nI lt ∧ nI lt ≤ 20 := ⟨nI_pos' (by omega), nI_le (b := 20) hl (by omega)⟩
  have loop : ∀ (k : Nat) (j : Nat) (T : am_S), (1 ≤ j ∧ j ≤ 21) → (21 < j + k) → (fstF (fun k => 100 < wdI lt (nI k) 100 99 101) j (21 - j) = edgN lt) → (SwOnly S T) → am_Ex (am_Call am_MT (d + 2)) mmX10_edge none (fun r1 G1 => r1 = (some (.int (if edgN lt = 21 then -2 else nI (edgN lt)))) ∧ ∃ S2, G1 = am_H S2 ∧ (SwOnly S) S2) (fun _ _ _ _ _ _ => False) 14 [some (.ref 0), some (.int (nI lt)), some (.int (nI j))] [] (am_H (T)) 0 0 := by
    intro k
    induction k with
    | zero =>
      intro j T q1 q2 q3 q4
      omega
    | succ k ih =>
      intro j T q1 q2 q3 q4
      have en : j = 21 → edgN lt = 21 := fun h => by rw [← q3, h]; rfl
      have en2 : j ≤ 20 → 100 < wdI lt (nI j) 100 99 101 → edgN lt = j := fun h1 h => by
        rw [← q3, show 21 - j = (20 - j) + 1 by omega, fstF, if_pos h]
      have en3 : j ≤ 20 → ¬ 100 < wdI lt (nI j) 100 99 101 → fstF (fun k => 100 < wdI lt (nI k) 100 99 101) (j + 1) (21 - (j + 1)) = edgN lt := fun h1 h => by
        rw [← q3, show 21 - j = (21 - (j + 1)) + 1 by omega, fstF, if_neg h]
      have w1 : ∀ {d : Nat}, am_CT (d + 1) iX6_widest [.ref 84, .int 99, .int 199] (swS T lt (nI j) 100 199) (some (.int (wdI lt (nI j) 100 99 101))) (swS T lt (nI j) 100 199) := fun {d} => sw_wid (f := 99) (t := 199) (by omega) (by omega) (by omega)
      refine r_iload_n rfl rfl ?_
      refine r_bipush rfl ?_
      refine r_icmp_gt rfl (fun h17 => ?_) (fun h17 => ?_)
      · have hj : j = 21 := by
          rw [show (20 : Int32) = nI 20 from rfl, nI_ltI (by omega) (by omega)] at h17
          omega
        refine r_bipush rfl ?_
        refine r_iret rfl rfl ?_
        rw [en hj, if_pos rfl]
        exact ⟨rfl, _, rfl, q4⟩
      · rw [show (20 : Int32) = nI 20 from rfl, nI_ltI (by omega) (by omega)] at h17
        refine r_aload_n rfl rfl ?_
        refine r_getC rfl rfl (by decide) (by decide) rfl ?_
        refine r_iload_n rfl rfl ?_
        refine r_iload_n rfl rfl ?_
        refine r_bipush rfl ?_
        refine r_sipush rfl ?_
        refine r_callV rfl (ct_X6_swing (n := 199) hl (by omega)) rfl rfl rfl (by decide) rfl (am_cnt rfl) ?_
        refine r_aload_n rfl rfl ?_
        refine r_getC rfl rfl (by decide) (by decide) rfl ?_
        refine r_bipush rfl ?_
        refine r_sipush rfl ?_
        refine r_callV rfl w1 rfl rfl rfl (by decide) rfl (am_cnt rfl) ?_
        refine r_bipush rfl ?_
        refine r_icmp_le rfl (fun h48 => ?_) (fun h48 => ?_)
        · refine r_iinc (L2 := [_, _, _]) rfl rfl rfl ?_
          refine r_goto rfl ?_
          rw [nI_1]
          exact ih (j + 1) _ (by omega) (by omega) (en3 (by omega) (Int32.not_lt.mpr h48)) (swOnly_s q4)
        · refine r_iload_n rfl rfl ?_
          refine r_iret rfl rfl ?_
          rw [en2 (by omega) (Int32.not_le.mp h48), if_neg (by omega)]
          exact ⟨rfl, _, rfl, swOnly_s q4⟩
  refine r_iload_n rfl rfl ?_
  refine r_iconst rfl ?_
  refine r_bipush rfl ?_
  refine r_callS rfl (by decide) ct_X10_isWithin rfl rfl (am_cnt rfl) ?_
  refine r_if_ne rfl (fun h7 => ?_) (fun h7 => ?_)
  · refine r_iconst rfl ?_
    refine r_istore_n (L2 := [_, _, _]) rfl rfl ?_
    exact loop 21 1 S (by omega) (by omega) rfl swOnly_0
  · exact absurd (c1) (b01_eq0.mp h7)
theorem ct_X10_gentle_no {d : Nat} {S : am_S} {lt x : Int32} (h : ¬ ((0 ≤ lt ∧ lt ≤ 20) ∧ (1 ≤ x ∧ x ≤ 999))) : am_CT (d + 3) iX10_gentle [.ref 0, .int lt, .int x] S (some (.int (-1))) (S) := by
  refine am_CT_in mmX10_gentle rfl rfl rfl ?_
  refine r_iload_n rfl rfl ?_
  refine r_iconst rfl ?_
  refine r_bipush rfl ?_
  refine r_callS rfl (by decide) ct_X10_isWithin rfl rfl (am_cnt rfl) ?_
  refine r_if_eq rfl (fun h7 => ?_) (fun h7 => ?_)
  · refine r_iconst rfl ?_
    refine r_iret rfl rfl ?_
    exact ⟨rfl, rfl⟩
  · refine r_iload_n rfl rfl ?_
    refine r_iconst rfl ?_
    refine r_sipush rfl ?_
    refine r_callS rfl (by decide) ct_X10_isWithin rfl rfl (am_cnt rfl) ?_
    refine r_if_ne rfl (fun h18 => ?_) (fun h18 => ?_)
    · exfalso
      simp only [b01_eq0] at *
      grind
    · refine r_iconst rfl ?_
      refine r_iret rfl rfl ?_
      exact ⟨rfl, rfl⟩
/-- best, soonest, of the first n parts -/
def gntI (lt : Nat) (x : Int32) : Nat → Int32 × Int32
  | 0 => (-2, 200)
  | k + 1 => if ¬ cmI lt (nI (k + 1)) x 199 = -1 ∧ cmI lt (nI (k + 1)) x 199 < (gntI lt x k).2 then (nI (k + 1), cmI lt (nI (k + 1)) x 199) else gntI lt x k
def gntP (S : am_S) (b s : Int32) (T : am_S) : Prop := if b = -2 then SwOnly S T else ∃ T1, SwOnly S T1 ∧ T = t1 T1 s.toInt64
theorem ct_X10_gentle_ok {d : Nat} {S : am_S} {lt : Nat} {x : Int32} (hl : lt ≤ 20) (hx : 1 ≤ x ∧ x ≤ 999) : am_CE (d + 3) iX10_gentle [.ref 0, .int (nI lt), .int x] S (some (.int (gntI lt x 20).1)) (gntP S (gntI lt x 20).1 (gntI lt x 20).2) := by
  refine am_CE_in mmX10_gentle rfl rfl rfl ?_
  have c1 : 0 ≤ nI lt ∧ nI lt ≤ 20 := ⟨nI_pos' (by omega), nI_le (b := 20) hl (by omega)⟩
  have loop : ∀ (k : Nat) (j : Nat) (T : am_S) (b : Int32) (s : Int32) (v6 : Option Value), (j ≤ 20) → (20 < j + k) → ((b, s) = gntI lt x j) → (SwOnly S T) → am_Ex (am_Call am_MT (d + 2)) mmX10_gentle none (fun r1 G1 => r1 = (some (.int (gntI lt x 20).1)) ∧ ∃ S2, G1 = am_H S2 ∧ (gntP S (gntI lt x 20).1 (gntI lt x 20).2) S2) (fun _ _ _ _ _ _ => False) 34 [some (.ref 0), some (.int (nI lt)), some (.int x), some (.int b), some (.int s), some (.int (nI (j + 1))), v6] [] (am_H (T)) 0 0 := by
    intro k
    induction k with
    | zero =>
      intro j T b s v6 q1 q2 q3 q4
      omega
    | succ k ih =>
      intro j T b s v6 q1 q2 q3 q4
      have en : j = 20 → (gntI lt x 20).1 = b ∧ (gntI lt x 20).2 = s := fun h => by subst h; rw [← q3]; exact ⟨rfl, rfl⟩
      have nx : gntI lt x (j + 1) = if ¬ cmI lt (nI (j + 1)) x 199 = -1 ∧ cmI lt (nI (j + 1)) x 199 < s then (nI (j + 1), cmI lt (nI (j + 1)) x 199) else (b, s) := by rw [gntI, ← q3]
      refine r_iload rfl rfl ?_
      refine r_bipush rfl ?_
      refine r_icmp_gt rfl (fun h38 => ?_) (fun h38 => ?_)
      · have hj : j = 20 := by
          rw [show (20 : Int32) = nI 20 from rfl, nI_ltI (by omega) (by omega)] at h38
          omega
        rw [(en hj).1, (en hj).2]
        refine r_iload_n rfl rfl ?_
        refine r_bipush rfl ?_
        refine r_icmp_eq rfl (fun h93 => ?_) (fun h93 => ?_)
        · refine r_iload_n rfl rfl ?_
          refine r_iret rfl rfl ?_
          refine ⟨rfl, _, rfl, ?_⟩
          unfold gntP
          first | (rw [if_pos h93]; exact q4) | (rw [if_neg h93]; exact ⟨T, q4, rfl⟩)
        · refine r_aload_n rfl rfl ?_
          refine r_getC rfl rfl (by decide) (by decide) rfl ?_
          refine r_iload rfl rfl ?_
          refine r_i2l rfl ?_
          refine r_callV rfl ct_X7_tellOne rfl rfl rfl (by decide) rfl (am_cnt rfl) ?_
          refine r_iload_n rfl rfl ?_
          refine r_iret rfl rfl ?_
          refine ⟨rfl, _, rfl, ?_⟩
          unfold gntP
          first | (rw [if_pos h93]; exact q4) | (rw [if_neg h93]; exact ⟨T, q4, rfl⟩)
      · rw [show (20 : Int32) = nI 20 from rfl, nI_ltI (by omega) (by omega)] at h38
        refine r_aload_n rfl rfl ?_
        refine r_getC rfl rfl (by decide) (by decide) rfl ?_
        refine r_iload_n rfl rfl ?_
        refine r_iload rfl rfl ?_
        refine r_iload_n rfl rfl ?_
        refine r_sipush rfl ?_
        refine r_callV rfl (ct_X6_swing (n := 199) hl (by omega)) rfl rfl rfl (by decide) rfl (am_cnt rfl) ?_
        refine r_aload_n rfl rfl ?_
        refine r_getC rfl rfl (by decide) (by decide) rfl ?_
        refine r_callV rfl (sw_clm (by omega)) rfl rfl rfl (by decide) rfl (am_cnt rfl) ?_
        refine r_istore (L2 := [_, _, _, _, _, _, _]) rfl rfl ?_
        refine r_iload rfl rfl ?_
        refine r_iconst rfl ?_
        refine r_icmp_eq rfl (fun h67 => ?_) (fun h67 => ?_)
        · rw [if_neg (fun z => z.1 h67)] at nx
          refine r_iinc (L2 := [_, _, _, _, _, _, _]) rfl rfl rfl ?_
          refine r_goto rfl ?_
          rw [nI_1]
          exact ih (j + 1) _ _ _ _ (by omega) (by omega) nx.symm (swOnly_s q4)
        · refine r_iload rfl rfl ?_
          refine r_iload rfl rfl ?_
          refine r_icmp_ge rfl (fun h74 => ?_) (fun h74 => ?_)
          · rw [if_neg (fun z => absurd z.2 (Int32.not_lt.mpr h74))] at nx
            refine r_iinc (L2 := [_, _, _, _, _, _, _]) rfl rfl rfl ?_
            refine r_goto rfl ?_
            rw [nI_1]
            exact ih (j + 1) _ _ _ _ (by omega) (by omega) nx.symm (swOnly_s q4)
          · rw [if_pos ⟨h67, Int32.not_le.mp h74⟩] at nx
            refine r_iload rfl rfl ?_
            refine r_istore_n (L2 := [_, _, _, _, _, _, _]) rfl rfl ?_
            refine r_iload rfl rfl ?_
            refine r_istore (L2 := [_, _, _, _, _, _, _]) rfl rfl ?_
            refine r_iinc (L2 := [_, _, _, _, _, _, _]) rfl rfl rfl ?_
            refine r_goto rfl ?_
            rw [nI_1]
            exact ih (j + 1) _ _ _ _ (by omega) (by omega) nx.symm (swOnly_s q4)
  refine r_iload_n rfl rfl ?_
  refine r_iconst rfl ?_
  refine r_bipush rfl ?_
  refine r_callS rfl (by decide) ct_X10_isWithin rfl rfl (am_cnt rfl) ?_
  refine r_if_eq rfl (fun h7 => ?_) (fun h7 => ?_)
  · exact absurd (c1) (b01_eq0.mp h7)
  · refine r_iload_n rfl rfl ?_
    refine r_iconst rfl ?_
    refine r_sipush rfl ?_
    refine r_callS rfl (by decide) ct_X10_isWithin rfl rfl (am_cnt rfl) ?_
    refine r_if_ne rfl (fun h18 => ?_) (fun h18 => ?_)
    · refine r_bipush rfl ?_
      refine r_istore_n (L2 := [_, _, _, _, _, _, _]) rfl rfl ?_
      refine r_sipush rfl ?_
      refine r_istore (L2 := [_, _, _, _, _, _, _]) rfl rfl ?_
      refine r_iconst rfl ?_
      refine r_istore (L2 := [_, _, _, _, _, _, _]) rfl rfl ?_
      exact loop 21 0 S _ _ none (by omega) (by omega) rfl swOnly_0
    · exact absurd (hx) (b01_eq0.mp h18)
