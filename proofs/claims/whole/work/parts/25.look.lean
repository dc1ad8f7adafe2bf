/-! What one looks at. -/
def lateI (x : Int32) : Int32 := if x < 1 then 1 else x
def hearI (S : am_S) (o : Nat) (nr sd : Int32) : Nat → Int32
  | 0 => 0
  | n + 1 => if fBit nr (nI n) then hearI S o nr sd n + fNoted S (o + 3) (nI n) sd else hearI S o nr sd n
/-- a row of 1200 notes at a person and a minute -/
theorem ct_X9_hears {d : Nat} {S : am_S} {o n : Nat} {p : Int32} (hC : IsC S o) (hn : gI S 1 1 = nI n) (hz : n ≤ 6) (hp : hasP S p) : am_CT (d + 2) iX9_hears [.ref 1, .ref o, .int p] S (some (.int (hearI S o (gI S (cP p) 3) (gI S o 0 - lateI (gI S (cP p) 0)) n))) (S) := by
  refine am_CT_in mmX9_hears rfl rfl rfl ?_
  obtain ⟨hk, hk1, hk2, hk3, hk4, hk5⟩ := hC
  have hz6 : gI S 1 1 ≤ 6 := by rw [hn]; exact nI_le (b := 6) hz (by omega)
  have hl : p < 6 := Int32.lt_of_lt_of_le hp.2 hz6
  have hj : p.toNatClampNeg < 6 := cl_lt hp.1 hl (by decide)
  have loop : ∀ (k : Nat) (j : Nat), (j ≤ n) → (n < j + k) → am_Ex (am_Call am_MT (d + 1)) mmX9_hears none (fun r1 G1 => r1 = (some (.int (hearI S o (gI S (cP p) 3) (gI S o 0 - lateI (gI S (cP p) 0)) n))) ∧ G1 = am_H (S)) (fun _ _ _ _ _ _ => False) 21 [some (.ref 1), some (.ref o), some (.int p), some (.int (gI S o 0 - lateI (gI S (cP p) 0))), some (.int (hearI S o (gI S (cP p) 3) (gI S o 0 - lateI (gI S (cP p) 0)) j)), some (.int (nI j))] [] (am_H (S)) 0 0 := by
    intro k
    induction k with
    | zero =>
      intro j h1 h2
      omega
    | succ k ih =>
      intro j h1 h2
      refine r_iload rfl rfl ?_
      refine r_aload_n rfl rfl ?_
      refine r_getI rfl rfl (by decide) (by decide) rfl ?_
      refine r_icmp_ge rfl (fun h27 => ?_) (fun h27 => ?_)
      · rw [hn, nI_leI (by omega) (by omega)] at h27
        obtain rfl : j = n := by omega
        refine r_iload rfl rfl ?_
        refine r_iret rfl rfl ?_
        exact ⟨rfl, rfl⟩
      · rw [hn, nI_leI (by omega) (by omega)] at h27
        refine r_aload_n rfl rfl ?_
        refine r_getC rfl rfl (by decide) (by decide) rfl ?_
        refine r_iload_n rfl rfl ?_
        refine r_aaldP rfl rfl (by first | exact hp.1 | exact hl) (by first | exact hp.1 | exact hl) ?_
        refine r_getI rfl (kn_person hj) (by decide) (by decide) rfl ?_
        refine r_iload rfl rfl ?_
        refine r_callS rfl (by decide) ct_X10_hasBit rfl rfl (am_cnt rfl) ?_
        refine r_if_eq rfl (fun h44 => ?_) (fun h44 => ?_)
        · rw [b01_eq0] at h44
          have e := ih (j + 1) (by omega) (by omega)
          rw [show hearI S o (gI S (cP p) 3) (gI S o 0 - lateI (gI S (cP p) 0)) (j + 1) = _ from if_neg h44] at e
          refine r_iinc (L2 := [_, _, _, _, _, _]) rfl rfl rfl ?_
          refine r_goto rfl ?_
          rw [nI_1]
          exact e
        · rw [b01_eq0] at h44
          have e := ih (j + 1) (by omega) (by omega)
          rw [show hearI S o (gI S (cP p) 3) (gI S o 0 - lateI (gI S (cP p) 0)) (j + 1) = _ from if_pos (Decidable.not_not.mp h44)] at e
          refine r_iload rfl rfl ?_
          refine r_aload_n rfl rfl ?_
          refine r_aload_n rfl rfl ?_
          refine r_getO rfl hk (by decide) (by decide) rfl ?_
          refine r_iload rfl rfl ?_
          refine r_iload_n rfl rfl ?_
          refine r_callV rfl (ct_X0_noted hk3) rfl rfl hk (by decide) rfl (am_cnt rfl) ?_
          refine r_iadd rfl ?_
          refine r_istore (L2 := [_, _, _, _, _, _]) rfl rfl ?_
          refine r_iinc (L2 := [_, _, _, _, _, _]) rfl rfl rfl ?_
          refine r_goto rfl ?_
          rw [nI_1]
          exact e
  refine r_aload_n rfl rfl ?_
  refine r_getI rfl hk (by decide) (by decide) rfl ?_
  refine r_aload_n rfl rfl ?_
  refine r_getC rfl rfl (by decide) (by decide) rfl ?_
  refine r_iload_n rfl rfl ?_
  refine r_aaldP rfl rfl (by first | exact hp.1 | exact hl) (by first | exact hp.1 | exact hl) ?_
  refine r_callV rfl (ct_X4_hearsAfter (kn_person hj)) rfl rfl (kn_person hj) (by decide) rfl (am_cnt rfl) ?_
  refine r_isub rfl ?_
  refine r_istore_n (L2 := [_, _, _, _, _, _]) rfl rfl ?_
  refine r_iconst rfl ?_
  refine r_istore (L2 := [_, _, _, _, _, _]) rfl rfl ?_
  refine r_iconst rfl ?_
  refine r_istore (L2 := [_, _, _, _, _, _]) rfl rfl ?_
  exact loop (n + 1) 0 (by omega) (by omega)
/-- what lies in the row of what is seen -/
def lookG (S : am_S) (o n : Nat) (p : Int32) : Nat → Int32 :=
  upd (upd (upd (upd (upd (upd (gI S 5) 0 (gI S o 0)) 1 (gI S 1 4)) 2 (fPlace S o (gI S o 0 - gI S (cP p) 1))) 3 (fPlace S o (gI S o 0 - gI S (cP p) 1) - fPlace S o (gI S o 0 - gI S (cP p) 1 - 1))) 4 (hearI S o (gI S (cP p) 3) (gI S o 0 - lateI (gI S (cP p) 0)) n)) 5 (fNoted S (o + 2) p (gI S o 0 - 1))
theorem fPlace_r5 {S : am_S} {o : Nat} {g : Nat → Int32} {m : Int32} (h : 5 < o) : fPlace (rI S 5 g) o m = fPlace S o m := by
  unfold fPlace
  rw [gI_rI_ne (by omega), gI_rI_ne (by omega)]
theorem fNoted_r5 {S : am_S} {q : Nat} {g : Nat → Int32} {p m : Int32} (h : 5 < q) : fNoted (rI S 5 g) q p m = fNoted S q p m := by
  unfold fNoted
  rw [gI_rI_ne (by omega)]
theorem hearI_r5 {S : am_S} {o : Nat} {g : Nat → Int32} {nr sd : Int32} (h : 5 < o) : ∀ n, hearI (rI S 5 g) o nr sd n = hearI S o nr sd n
  | 0 => rfl
  | n + 1 => by
    unfold hearI
    rw [hearI_r5 h n, fNoted_r5 (by omega)]
theorem ct_X9_look {d : Nat} {S : am_S} {o n : Nat} {p : Int32} (hC : IsC S o) (ho : 5 < o) (hn : gI S 1 1 = nI n) (hz : n ≤ 6) (hp : hasP S p) : am_CT (d + 3) iX9_look [.ref 1, .ref o, .int p] S (none) (rI S 5 (lookG S o n p)) := by
  refine am_CT_in mmX9_look rfl rfl rfl ?_
  have hC2 := hC
  obtain ⟨hk, hk1, hk2, hk3, hk4, hk5⟩ := hC2
  have hz6 : gI S 1 1 ≤ 6 := by rw [hn]; exact nI_le (b := 6) hz (by omega)
  have hl : p < 6 := Int32.lt_of_lt_of_le hp.2 hz6
  have hj : p.toNatClampNeg < 6 := cl_lt hp.1 hl (by decide)
  have hh : ∀ g, hasP (rI S 5 g) p := fun g => by
    unfold hasP
    rw [gI_rI_ne (by decide)]
    exact hp
  have hn2 : ∀ g, gI (rI S 5 g) 1 1 = nI n := fun g => by rw [gI_rI_ne (by decide), hn]
  have hCr : ∀ g, IsC (rI S 5 g) o := fun g => hC
  refine r_aload_n rfl rfl ?_
  refine r_iload_n rfl rfl ?_
  refine r_callV rfl ct_X9_has rfl rfl rfl (by decide) rfl (am_cnt rfl) ?_
  refine r_if_ne rfl (fun h5 => ?_) (fun h5 => ?_)
  · refine r_aload_n rfl rfl ?_
    refine r_getI rfl hk (by decide) (by decide) rfl ?_
    refine r_istore_n (L2 := [_, _, _, _, _]) rfl rfl ?_
    refine r_iload_n rfl rfl ?_
    refine r_aload_n rfl rfl ?_
    refine r_getC rfl rfl (by decide) (by decide) rfl ?_
    refine r_iload_n rfl rfl ?_
    refine r_aaldP rfl rfl (by first | exact hp.1 | exact hl) (by first | exact hp.1 | exact hl) ?_
    refine r_getI rfl (kn_person hj) (by decide) (by decide) rfl ?_
    refine r_isub rfl ?_
    refine r_istore (L2 := [_, _, _, _, _]) rfl rfl ?_
    refine r_aload_n rfl rfl ?_
    refine r_getC rfl rfl (by decide) (by decide) rfl ?_
    refine r_iconst rfl ?_
    refine r_iload_n rfl rfl ?_
    refine r_iast rfl rfl (by first | decide | assumption) (by decide) (by decide) ?_
    rw [uI_rI]
    refine r_aload_n rfl rfl ?_
    refine r_getC rfl rfl (by decide) (by decide) rfl ?_
    refine r_iconst rfl ?_
    refine r_aload_n rfl rfl ?_
    refine r_getI rfl rfl (by decide) (by decide) rfl ?_
    refine r_iast rfl rfl (by first | decide | assumption) (by decide) (by decide) ?_
    rw [uI_rIs]
    refine r_aload_n rfl rfl ?_
    refine r_getC rfl rfl (by decide) (by decide) rfl ?_
    refine r_iconst rfl ?_
    refine r_aload_n rfl rfl ?_
    refine r_iload rfl rfl ?_
    refine r_callV rfl (ct_X0_placeAt hC) rfl rfl hk (by decide) rfl (am_cnt rfl) ?_
    refine r_iast rfl rfl (by first | decide | assumption) (by decide) (by decide) ?_
    rw [uI_rIs]
    refine r_aload_n rfl rfl ?_
    refine r_getC rfl rfl (by decide) (by decide) rfl ?_
    refine r_iconst rfl ?_
    refine r_aload_n rfl rfl ?_
    refine r_iload rfl rfl ?_
    refine r_callV rfl (ct_X0_placeAt hC) rfl rfl hk (by decide) rfl (am_cnt rfl) ?_
    refine r_aload_n rfl rfl ?_
    refine r_iload rfl rfl ?_
    refine r_iconst rfl ?_
    refine r_isub rfl ?_
    refine r_callV rfl (ct_X0_placeAt hC) rfl rfl hk (by decide) rfl (am_cnt rfl) ?_
    refine r_isub rfl ?_
    refine r_iast rfl rfl (by first | decide | assumption) (by decide) (by decide) ?_
    rw [uI_rIs]
    refine r_aload_n rfl rfl ?_
    refine r_getC rfl rfl (by decide) (by decide) rfl ?_
    refine r_iconst rfl ?_
    refine r_aload_n rfl rfl ?_
    refine r_aload_n rfl rfl ?_
    refine r_iload_n rfl rfl ?_
    refine r_callV rfl (ct_X9_hears (hCr _) (hn2 _) hz (hh _)) rfl rfl rfl (by decide) rfl (am_cnt rfl) ?_
    refine r_iast rfl rfl (by first | decide | assumption) (by decide) (by decide) ?_
    rw [uI_rIs]
    refine r_aload_n rfl rfl ?_
    refine r_getC rfl rfl (by decide) (by decide) rfl ?_
    refine r_iconst rfl ?_
    refine r_aload_n rfl rfl ?_
    refine r_aload_n rfl rfl ?_
    refine r_getO rfl hk (by decide) (by decide) rfl ?_
    refine r_iload_n rfl rfl ?_
    refine r_iload_n rfl rfl ?_
    refine r_iconst rfl ?_
    refine r_isub rfl ?_
    refine r_callV rfl (ct_X0_noted hk2) rfl rfl hk (by decide) rfl (am_cnt rfl) ?_
    refine r_iast rfl rfl (by first | decide | assumption) (by decide) (by decide) ?_
    refine r_vret rfl ?_
    refine ⟨rfl, ?_⟩
    rw [uI_rIs]
    simp (disch := omega) only [cP, fPlace_r5, fNoted_r5, hearI_r5, gI_rI_ne]
    rfl
  · exact absurd hp (b01_eq0.mp h5)
