/-! THE LAW: its rows. -/
section LROWS
variable {C : am_C} {M : am_M} {scr : Option (Nat × (Nat → Int32))} {Q : Option Value → am_G → Prop} {X : am_P} {pc npc a b t u pos pp : Nat} {cv : Int32} {cl : Int64} {L : am_L} {st : List Value} {G : am_G} {S : am_S} {nc ns : Nat}
theorem r_newX {n : Nat} (hk : am_lk (am_mt M) pc = some (pp, .new n, npc, a, b, 1, u, pos, cv, cl)) (k : X pc L st G nc ns) : am_Ex C M scr Q X pc L st G nc ns := am_Ex_in (by
  unfold am_step
  rw [hk]
  exact k)
theorem r_statX {n : Nat} (hk : am_lk (am_mt M) pc = some (pp, .invokestatic n, npc, a, b, 77, u, pos, cv, cl)) (k : X pc L st G nc ns) : am_Ex C M scr Q X pc L st G nc ns := am_Ex_in (by
  unfold am_step
  rw [hk]
  exact k)
theorem r_virtX {n : Nat} (hk : am_lk (am_mt M) pc = some (pp, .invokevirtual n, npc, a, b, 77, u, pos, cv, cl)) (k : X pc L st G nc ns) : am_Ex C M scr Q X pc L st G nc ns := am_Ex_in (by
  unfold am_step
  rw [hk]
  exact k)
theorem r_sld {N : Nat} {xs : Nat → Int32} {i : Int32} (hk : am_lk (am_mt M) pc = some (pp, .iaload, npc, a, b, t, u, pos, cv, cl)) (hv : vp_in i N) (k : am_Ex C M (some (N, xs)) Q X npc L (.int (xs i.toNatClampNeg) :: st) G nc ns) : am_Ex C M (some (N, xs)) Q X pc L (.int i :: .ref 2000000 :: st) G nc ns := am_Ex_in (by
  unfold am_step
  rw [hk]
  exact ⟨rfl, hv, k⟩)
theorem r_slenX {N : Nat} {xs : Nat → Int32} (hk : am_lk (am_mt M) pc = some (pp, .arraylength, npc, a, b, t, u, pos, cv, cl)) (k : am_Ex C M (some (N, xs)) Q X npc L (.int (Int32.ofNat N) :: st) G nc ns) : am_Ex C M (some (N, xs)) Q X pc L (.ref 2000000 :: st) G nc ns := am_Ex_in (by
  unfold am_step
  rw [hk]
  exact ⟨rfl, k⟩)
theorem r_callVX {n mi d n1 o : Nat} {As : List Value} {r : Option Value} {P : am_S → Prop} (hk : am_lk (am_mt M) pc = some (pp, .invokevirtual n, npc, mi, n1, 0, u, pos, cv, cl)) (hc : CX d mi As S r P) (hst : (st.take n1).reverse = As) (ho : st[n1 - 1]? = some (.ref o)) (hq : am_kn (gR S 0) o = (u, 0)) (hu : u < 12) (hn : Nat.ble n1 st.length = true) (hcat : ((st.drop n1).map fun v => v.category).sum ≤ 8) (k : ∀ S2, P S2 → am_Ex (am_Call am_MT d) M scr Q X npc L (am_psh r (st.drop n1)) (am_H S2) nc ns) : am_Ex (am_Call am_MT d) M scr Q X pc L st (am_H S) nc ns := am_Ex_in (by
  unfold am_step
  rw [hk]
  simp only [am_ins, am_inv, am_rcv]
  rw [ho]
  simp only
  rw [am_H_get hq (by intro z; simp only at z; omega), am_ck_O hu, hst]
  obtain ⟨post, h1, h2⟩ := hc
  exact ⟨rfl, Nat.le_of_ble_eq_true hn, hcat, post, h1, fun r1 G1 hr => by
    obtain ⟨e1, S2, e2, e3⟩ := h2 r1 G1 hr
    rw [e1, e2]
    exact k S2 e3⟩)
end LROWS
theorem lg_same {x : Int64} : lg_cmp x x = 0 := by
  unfold lg_cmp
  simp
/-- the law's locals -/
abbrev LL (i : Int32) (o5 o6 o7 : Option Value) : am_L := [some (.ref 2000000), some (.ref 0), some (.ref 97), some (.ref 130), some (.int i), o5, o6, o7]
def ivO (o : Option Value) : Prop := ∀ k, o ≠ some (.ref k)
theorem iv_n : ivO none := fun _ z => by cases z
theorem iv_i {x : Int32} : ivO (some (.int x)) := fun _ z => by cases z
theorem iv_l {x : Int64} : ivO (some (.long x)) := fun _ z => by cases z
theorem iv_wf {o : Option Value} {n : Nat} : ivO o → (match o with
  | none => true
  | some v => am_wfv n v) = true := fun h => by
  cases o with
  | none => rfl
  | some v =>
    cases v with
    | ref k => exact absurd rfl (h k)
    | _ => rfl
theorem LL_wf {S : am_S} {i : Int32} {o5 o6 o7 : Option Value} (h5 : ivO o5) (h6 : ivO o6) (h7 : ivO o7) : am_wfc (am_H S).length (LL i o5 o6 o7) [] = true := by
  have h : ∀ k : Nat, k < 131 → am_wfv (am_H S).length (.ref k) = true := fun k hk => by
    show (decide (k < (am_H S).length) || decide (1000000 ≤ k)) = true
    rw [decide_eq_true (show k < (am_H S).length by rw [am_H_len]; omega)]
    rfl
  have h9 : am_wfv (am_H S).length (.ref 2000000) = true := by
    show (decide (2000000 < (am_H S).length) || decide (1000000 ≤ 2000000)) = true
    rw [decide_eq_true (show 1000000 ≤ 2000000 by omega), Bool.or_true]
  simp only [am_wfc, am_wfL, LL, List.all_cons, List.all_nil, h9, h 0 (by omega), h 97 (by omega), h 130 (by omega), Bool.true_and, Bool.and_true, Bool.and_eq_true]
  exact ⟨rfl, iv_wf h5, iv_wf h6, iv_wf h7⟩
def LwV (N : Nat) (i : Int32) : Prop := vp_in i N ∧ vp_in (i + 1) N ∧ vp_in (i + 2) N ∧ vp_in (i + 3) N ∧ vp_in (i + 4) N ∧ vp_in (i + 5) N
def LwK (scr : Option (Nat × (Nat → Int32))) (Q : Option Value → am_G → Prop) (X : am_P) (i : Int32) (nc ns : Nat) : Prop := ∀ S o5 o6 o7 nc2 ns2, RM S → ivO o5 → ivO o6 → ivO o7 → nc2 ≤ nc + 6 → ns2 ≤ ns + 5009 → am_Ex (am_Call am_MT 750) mmL_law scr Q X 2066 (LL i o5 o6 o7) [] (am_H S) nc2 ns2
/-- behind a helper -/
def HpO {β : Type} (mk : β → Value) (tj : β → Int64) (mi2 : Nat) (as2 : List Value) (S : am_S) (r : Option Value) (G1 : am_G) : Prop := (r = some (.int 0) ∧ ∃ (x : β) (T : am_S), G1 = am_H T ∧ ∃ Q : am_S → Prop, CX 750 mi2 as2 T (some (mk x)) Q ∧ ∀ U, Q U → RM U ∧ gI U 97 0 = 0 ∧ gJ U 130 0 = tj x) ∨ (r = some (.int 1) ∧ G1 = am_H S ∧ ∃ (x : β) (Q : am_S → Prop), CX 750 mi2 as2 S (some (mk x)) Q ∧ ∀ U, Q U → RM U ∧ gI U 97 0 = 1)
/-- what the law hands over at a helper's call: pc, the stack, what is behind it -/
def LwH (scr : Option (Nat × (Nat → Int32))) (Q : Option Value → am_G → Prop) (X : am_P) (pc : Nat) (st : List Value) (S : am_S) (post : Option Value → am_G → Prop) : Prop := ∀ (L : am_L) (nc ns : Nat), am_wfc (am_H S).length L [] = true → nc + 1 ≤ 601024 → ns + 6 ≤ 7293034 → (∀ r G1, post r G1 → am_Ex (am_Call am_MT 750) mmL_law scr Q X (pc + 3) L (am_psh r []) G1 (nc + 1) (ns + 6)) → X pc L st (am_H S) nc ns
/-- at keep's -/
def LwC (scr : Option (Nat × (Nat → Int32))) (Q : Option Value → am_G → Prop) (X : am_P) : Prop := ∀ (L : am_L) (S : am_S) (nc ns : Nat) (v : Int32) (r : Option Value) (P : am_S → Prop), am_wfc (am_H S).length L [] = true → nc + 6 ≤ 601024 → ns + 5009 ≤ 7293034 → CX 750 iX10_keep [.ref 0, .int v] S r P → (∀ T, P T → am_Ex (am_Call am_MT 750) mmL_law scr Q X 1946 L (am_psh r []) (am_H T) (nc + 6) (ns + 5009)) → X 1943 L [.int v, .ref 0] (am_H S) nc ns

