/-! CONTRACTS: small methods of the class -/
theorem ct_X10_isWithin {d : Nat} {S : am_S} {v l m : Int32} : am_CT (d + 1) iX10_isWithin [.int v, .int l, .int m] S (some (.int (b01 (l ≤ v ∧ v ≤ m)))) S := by
  refine am_CT_in mmX10_isWithin rfl rfl rfl ?_
  refine r_iload_n rfl rfl ?_
  refine r_iload_n rfl rfl ?_
  refine r_icmp_lt rfl (fun h2 => ?_) (fun h2 => ?_)
  · refine r_iconst rfl ?_
    refine r_zret rfl rfl (by simp) ?_
    exact ⟨by grind [b01], rfl⟩
  · refine r_iload_n rfl rfl ?_
    refine r_iload_n rfl rfl ?_
    refine r_icmp_gt rfl (fun h7 => ?_) (fun h7 => ?_)
    · refine r_iconst rfl ?_
      refine r_zret rfl rfl (by simp) ?_
      exact ⟨by grind [b01], rfl⟩
    · refine r_iconst rfl ?_
      refine r_goto rfl ?_
      refine r_zret rfl rfl (by simp) ?_
      exact ⟨by grind [b01], rfl⟩
def fPut (v m : Int32) : Int32 := if v < -m then -m else if m < v then m else v
theorem ct_X10_putTo {d : Nat} {S : am_S} {v m : Int32} : am_CT (d + 1) iX10_putTo [.int v, .int m] S (some (.int (fPut v m))) S := by
  refine am_CT_in mmX10_putTo rfl rfl rfl ?_
  refine r_iload_n rfl rfl ?_
  refine r_iload_n rfl rfl ?_
  refine r_ineg rfl ?_
  refine r_icmp_ge rfl (fun h3 => ?_) (fun h3 => ?_)
  · refine r_iload_n rfl rfl ?_
    refine r_iload_n rfl rfl ?_
    refine r_icmp_le rfl (fun h13 => ?_) (fun h13 => ?_)
    · refine r_iload_n rfl rfl ?_
      refine r_iret rfl rfl ?_
      exact ⟨by grind [fPut], rfl⟩
    · refine r_iload_n rfl rfl ?_
      refine r_goto rfl ?_
      refine r_iret rfl rfl ?_
      exact ⟨by grind [fPut], rfl⟩
  · refine r_iload_n rfl rfl ?_
    refine r_ineg rfl ?_
    refine r_goto rfl ?_
    refine r_iret rfl rfl ?_
    exact ⟨by grind [fPut], rfl⟩
def fWith (w i f : Int32) : Int32 := if f = 0 then w &&& ((1 <<< (i &&& 31)) ^^^ (-1)) else w ||| (1 <<< (i &&& 31))
theorem ct_X10_withBit {d : Nat} {S : am_S} {w i f : Int32} : am_CT (d + 1) iX10_withBit [.int w, .int i, .int f] S (some (.int (fWith w i f))) S := by
  refine am_CT_in mmX10_withBit rfl rfl rfl ?_
  refine r_iload_n rfl rfl ?_
  refine r_if_eq rfl (fun h1 => ?_) (fun h1 => ?_)
  · refine r_iload_n rfl rfl ?_
    refine r_iconst rfl ?_
    refine r_iload_n rfl rfl ?_
    refine r_ishl rfl ?_
    refine r_iconst rfl ?_
    refine r_ixor rfl ?_
    refine r_iand rfl ?_
    refine r_iret rfl rfl ?_
    exact ⟨by simp [fWith, *], rfl⟩
  · refine r_iload_n rfl rfl ?_
    refine r_iconst rfl ?_
    refine r_iload_n rfl rfl ?_
    refine r_ishl rfl ?_
    refine r_ior rfl ?_
    refine r_goto rfl ?_
    refine r_iret rfl rfl ?_
    exact ⟨by simp [fWith, *], rfl⟩
abbrev fBit (w i : Int32) : Prop := ¬ (w >>> (i &&& 31)) &&& 1 = 0
theorem ct_X10_hasBit {d : Nat} {S : am_S} {w i : Int32} : am_CT (d + 1) iX10_hasBit [.int w, .int i] S (some (.int (b01 (fBit w i)))) S := by
  refine am_CT_in mmX10_hasBit rfl rfl rfl ?_
  refine r_iload_n rfl rfl ?_
  refine r_iload_n rfl rfl ?_
  refine r_ishr rfl ?_
  refine r_iconst rfl ?_
  refine r_iand rfl ?_
  refine r_if_eq rfl (fun h5 => ?_) (fun h5 => ?_)
  · refine r_iconst rfl ?_
    refine r_zret rfl rfl (by simp) ?_
    exact ⟨by simp only [b01, fBit]; grind, rfl⟩
  · refine r_iconst rfl ?_
    refine r_goto rfl ?_
    refine r_zret rfl rfl (by simp) ?_
    exact ⟨by simp only [b01, fBit]; grind, rfl⟩
/-! a course: cell o -/
def IsC (S : am_S) (o : Nat) : Prop := am_kn (gR S 0) o = (0, 0) ∧ am_kn (gR S 0) (o + 1) = (20, 200) ∧ am_kn (gR S 0) (o + 2) = (20, 1200) ∧ am_kn (gR S 0) (o + 3) = (20, 1200) ∧ am_kn (gR S 0) (o + 4) = (20, 1200) ∧ am_kn (gR S 0) (o + 5) = (20, 1200)
theorem ct_X0_restart {d : Nat} {S : am_S} {o : Nat} (hC : IsC S o) : am_CT (d + 1) iX0_restart [.ref o] S none (uI (uI S o 0 0) (o + 1) 0 (gI S o 1)) := by
  obtain ⟨hk, hk1, hk2, hk3, hk4, hk5⟩ := hC
  refine am_CT_in mmX0_restart rfl rfl rfl ?_
  refine r_aload_n rfl rfl ?_
  refine r_iconst rfl ?_
  refine r_putI rfl hk (by decide) (by decide) rfl ?_
  refine r_aload_n rfl rfl ?_
  refine r_getO rfl hk (by decide) (by decide) rfl ?_
  refine r_iconst rfl ?_
  refine r_aload_n rfl rfl ?_
  refine r_getI rfl hk (by decide) (by decide) rfl ?_
  refine r_iast rfl hk1 (by first | decide | assumption) (by decide) (by decide) ?_
  refine r_vret rfl ?_
  exact ⟨rfl, by simp [gI_uI, sb_cl0]⟩
def fPlace (S : am_S) (o : Nat) (m : Int32) : Int32 := if m < 0 ∨ 199 < m then gI S o 1 else gI S (o + 1) m.toNatClampNeg
theorem ct_X0_placeAt {d : Nat} {S : am_S} {o : Nat} {m : Int32} (hC : IsC S o) : am_CT (d + 1) iX0_placeAt [.ref o, .int m] S (some (.int (fPlace S o m))) S := by
  obtain ⟨hk, hk1, hk2, hk3, hk4, hk5⟩ := hC
  refine am_CT_in mmX0_placeAt rfl rfl rfl ?_
  refine r_iload_n rfl rfl ?_
  refine r_if_lt rfl (fun h1 => ?_) (fun h1 => ?_)
  · refine r_aload_n rfl rfl ?_
    refine r_getI rfl hk (by decide) (by decide) rfl ?_
    refine r_goto rfl ?_
    refine r_iret rfl rfl ?_
    exact ⟨by grind [fPlace], rfl⟩
  · refine r_iload_n rfl rfl ?_
    refine r_sipush rfl ?_
    refine r_icmp_le rfl (fun h8 => ?_) (fun h8 => ?_)
    · refine r_aload_n rfl rfl ?_
      refine r_getO rfl hk (by decide) (by decide) rfl ?_
      refine r_iload_n rfl rfl ?_
      refine r_iald rfl hk1 (by first | decide | assumption) (by grind) (by grind) ?_
      refine r_iret rfl rfl ?_
      exact ⟨by grind [fPlace], rfl⟩
    · refine r_aload_n rfl rfl ?_
      refine r_getI rfl hk (by decide) (by decide) rfl ?_
      refine r_goto rfl ?_
      refine r_iret rfl rfl ?_
      exact ⟨by grind [fPlace], rfl⟩
def fNoted (S : am_S) (q : Nat) (p m : Int32) : Int32 := if m < 0 ∨ 199 < m ∨ p * 200 + m < 0 ∨ 1200 ≤ p * 200 + m then 0 else gI S q (p * 200 + m).toNatClampNeg
theorem ct_X0_noted {d : Nat} {S : am_S} {o q : Nat} {p m : Int32} (hk : am_kn (gR S 0) q = (20, 1200)) : am_CT (d + 1) iX0_noted [.ref o, .ref q, .int p, .int m] S (some (.int (fNoted S q p m))) S := by
  refine am_CT_in mmX0_noted rfl rfl rfl ?_
  refine r_iload_n rfl rfl ?_
  refine r_sipush rfl ?_
  refine r_imul rfl ?_
  refine r_iload_n rfl rfl ?_
  refine r_iadd rfl ?_
  refine r_istore (L2 := [_, _, _, _, _]) rfl rfl ?_
  refine r_iload_n rfl rfl ?_
  refine r_if_lt rfl (fun h10 => ?_) (fun h10 => ?_)
  · refine r_iconst rfl ?_
    refine r_goto rfl ?_
    refine r_iret rfl rfl ?_
    exact ⟨by grind [fNoted], rfl⟩
  · refine r_iload_n rfl rfl ?_
    refine r_sipush rfl ?_
    refine r_icmp_gt rfl (fun h17 => ?_) (fun h17 => ?_)
    · refine r_iconst rfl ?_
      refine r_goto rfl ?_
      refine r_iret rfl rfl ?_
      exact ⟨by grind [fNoted], rfl⟩
    · refine r_iload rfl rfl ?_
      refine r_if_lt rfl (fun h22 => ?_) (fun h22 => ?_)
      · refine r_iconst rfl ?_
        refine r_goto rfl ?_
        refine r_iret rfl rfl ?_
        exact ⟨by grind [fNoted], rfl⟩
      · refine r_iload rfl rfl ?_
        refine r_aload_n rfl rfl ?_
        refine r_alen rfl hk (by decide) ?_
        refine r_icmp_lt rfl (fun h29 => ?_) (fun h29 => ?_)
        · refine r_aload_n rfl rfl ?_
          refine r_iload rfl rfl ?_
          refine r_iald rfl hk (by first | decide | assumption) (by grind) (by grind) ?_
          refine r_iret rfl rfl ?_
          exact ⟨by grind [fNoted], rfl⟩
        · refine r_iconst rfl ?_
          refine r_goto rfl ?_
          refine r_iret rfl rfl ?_
          exact ⟨by grind [fNoted], rfl⟩
def absI (x : Int32) : Int32 := if 0 ≤ x then x else 0 - x
def maxI (x y : Int32) : Int32 := if x < y then y else x
def sumI (f : Nat → Int32) : Nat → Int32
  | 0 => 0
  | n + 1 => sumI f n + f n
/-- the greatest of f a .. f (a + n - 1) and of 0 -/
def topI (f : Nat → Int32) (a : Nat) : Nat → Int32
  | 0 => 0
  | n + 1 => maxI (topI f a n) (f (a + n))
theorem nI_neg {n : Nat} (h : n < 2147483648) : ¬ nI n < 0 := nI_pos h
theorem nI_gtc {n c : Nat} (h : n ≤ c) (hc : c < 2147483648) : ¬ nI c < nI n := nI_nlt h hc
theorem fPlace_nI {S : am_S} {o j : Nat} (h : j ≤ 199) : fPlace S o (nI j) = gI S (o + 1) j := by
  have h1 : ¬ (nI j < 0 ∨ 199 < nI j) := by
    rintro (z | z)
    · exact nI_pos (by omega) z
    · exact nI_nlt (a := 199) (b := j) h (by omega) z
  rw [fPlace, if_neg h1, nI_clamp (by omega)]
theorem ct_X0_off {d : Nat} {S : am_S} {o : Nat} {m due : Int32} (hC : IsC S o) : am_CT (d + 2) iX0_off [.ref o, .int m, .int due] S (some (.int (absI (fPlace S o m - due)))) S := by
  have hC2 := hC
  obtain ⟨hk, hk1, hk2, hk3, hk4, hk5⟩ := hC2
  refine am_CT_in mmX0_off rfl rfl rfl ?_
  refine r_aload_n rfl rfl ?_
  refine r_iload_n rfl rfl ?_
  refine r_callV rfl (ct_X0_placeAt hC) rfl rfl hk (by decide) rfl (am_cnt rfl) ?_
  refine r_iload_n rfl rfl ?_
  refine r_isub rfl ?_
  refine r_abs rfl (am_cnt rfl) ?_
  refine r_iret rfl rfl ?_
  exact ⟨rfl, rfl⟩
theorem ct_X0_costTo {d : Nat} {S : am_S} {o nw : Nat} {due : Int32} (hC : IsC S o) (hn : gI S o 0 = nI nw) (hb : nw ≤ 199) : am_CT (d + 3) iX0_costTo [.ref o, .int due] S (some (.int (sumI (fun j => absI (gI S (o + 1) (j + 1) - due)) nw))) S := by
  have hk := hC.1
  refine am_CT_in mmX0_costTo rfl rfl rfl ?_
  have loop : ∀ (k j : Nat), j ≤ nw → nw < j + k → am_Ex (am_Call am_MT (d + 2)) mmX0_costTo none (fun r1 G1 => r1 = some (.int (sumI (fun j => absI (gI S (o + 1) (j + 1) - due)) nw)) ∧ G1 = am_H S) (fun _ _ _ _ _ _ => False) 4 [some (.ref o), some (.int due), some (.int (sumI (fun j => absI (gI S (o + 1) (j + 1) - due)) j)), some (.int (nI (j + 1)))] [] (am_H S) 0 0 := by
    intro k
    induction k with
    | zero => intro j h1 h2; omega
    | succ k ih =>
      intro j h1 h2
      refine r_iload_n rfl rfl ?_
      refine r_aload_n rfl rfl ?_
      refine r_getI rfl hk (by decide) (by decide) rfl ?_
      refine r_icmp_gt rfl (fun h9 => ?_) (fun h9 => ?_)
      · rw [hn, nI_ltI (by omega) (by omega)] at h9
        obtain rfl : j = nw := by omega
        refine r_iload_n rfl rfl ?_
        refine r_iret rfl rfl ?_
        exact ⟨rfl, rfl⟩
      · rw [hn, nI_ltI (by omega) (by omega)] at h9
        have hj : j < nw := by omega
        refine r_iload_n rfl rfl ?_
        refine r_aload_n rfl rfl ?_
        refine r_iload_n rfl rfl ?_
        refine r_iload_n rfl rfl ?_
        refine r_callV rfl (ct_X0_off hC) rfl rfl hk (by decide) rfl (am_cnt rfl) ?_
        refine r_iadd rfl ?_
        refine r_istore_n (L2 := [_, _, _, _]) rfl rfl ?_
        refine r_iinc (L2 := [_, _, _, _]) rfl rfl rfl ?_
        refine r_goto rfl ?_
        rw [fPlace_nI (by omega), nI_1]
        exact ih (j + 1) (by omega) (by omega)
  refine r_iconst rfl ?_
  refine r_istore_n (L2 := [_, _, _, _]) rfl rfl ?_
  refine r_iconst rfl ?_
  refine r_istore_n (L2 := [_, _, _, _]) rfl rfl ?_
  exact loop (nw + 1) 0 (by omega) (by omega)
