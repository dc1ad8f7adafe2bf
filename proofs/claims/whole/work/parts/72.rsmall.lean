/-! Joint calls: by, count, place, row, sheet, sign. -/
theorem rm_no {S : am_S} (R : RM S) : RM (uI S 97 0 0) := rm_kn kn_th R
theorem bit_01 (v : Int32) (i j : Nat) (hi : i < 32) (hj : j < 32) : ((1 : Int32) <<< (nI i &&& 31)).toBitVec.getLsbD j = decide (i = j) := by
  rw [and31 hi, Int32.toBitVec_shiftLeft, BitVec.shiftLeft_eq', sm32 i hi, BitVec.getLsbD_shiftLeft]
  show (decide (j < 32) && !decide (j < i) && (1#32).getLsbD (j - i)) = _
  rw [BitVec.getLsbD_one]
  by_cases h : i = j
  · subst h; simp [hi]
  · simp [h]
    omega
theorem ruleBits_b (f : Nat → Int32) : ∀ n, n ≤ 32 → ∀ j, j < 32 → (ruleBits f n).toBitVec.getLsbD j = decide (j < n ∧ ¬ f j ≤ 0)
  | 0, _, j, _ => by
    show (0 : Int32).toBitVec.getLsbD j = _
    have : ¬ (j < 0 ∧ ¬ f j ≤ 0) := by omega
    rw [decide_eq_false this]
    exact BitVec.getLsbD_zero
  | n + 1, h, j, hj => by
    unfold ruleBits
    rw [fwith_b (by omega) hj, ruleBits_b f n (by omega) j hj]
    by_cases z : n = j
    · subst z
      rw [if_pos rfl]
      split
      · rename_i h0
        simp [h0]
      · rename_i h0
        simp [h0]
    · rw [if_neg z]
      congr 1
      apply propext
      constructor
      · intro a; exact ⟨by omega, a.2⟩
      · intro a; exact ⟨by omega, a.2⟩
theorem mBits_b (f : Nat → Int32) : ∀ n, n ≤ 32 → ∀ j, j < 32 → (mBits f n).toBitVec.getLsbD j = decide (j < n ∧ ¬ f j ≤ 0)
  | 0, _, j, _ => by
    show (0 : Int32).toBitVec.getLsbD j = _
    have : ¬ (j < 0 ∧ ¬ f j ≤ 0) := by omega
    rw [decide_eq_false this]
    exact BitVec.getLsbD_zero
  | n + 1, h, j, hj => by
    unfold mBits
    rw [Int32.toBitVec_or, BitVec.getLsbD_or, mBits_b f n (by omega) j hj]
    by_cases z : n = j
    · subst z
      split
      · rename_i h0
        have : ¬ (n < n + 1 ∧ ¬ f n ≤ 0) := fun y => y.2 h0
        rw [decide_eq_false this]
        have : ¬ (n < n ∧ ¬ f n ≤ 0) := by omega
        rw [decide_eq_false this]
        exact BitVec.getLsbD_zero
      · rename_i h0
        rw [bit_01 0 n n hj hj]
        simp [h0]
    · have e2 : (if f n ≤ 0 then (0 : Int32) else 1 <<< (nI n &&& 31)).toBitVec.getLsbD j = false := by
        split
        · exact BitVec.getLsbD_zero
        · rw [bit_01 0 n j (by omega) hj]
          simp [z]
      rw [e2, Bool.or_false]
      congr 1
      apply propext
      constructor
      · intro a; exact ⟨by omega, a.2⟩
      · intro a; exact ⟨by omega, a.2⟩
theorem told_eq {f g : Nat → Int32} (h : ∀ j, j < 12 → f j = g j) : ruleBits f 12 = mBits g 12 := by
  apply bits_ext
  intro j hj
  rw [ruleBits_b f 12 (by decide) j hj, mBits_b g 12 (by decide) j hj]
  congr 1
  apply propext
  constructor
  · intro a; rw [← h j a.1]; exact a
  · intro a; rw [h j a.1]; exact a
theorem jn_count {d : Nat} {S : am_S} (R : RM S) (w : Int32) : Jn (d + 700) iX10_count [.ref 0, .int w] iX11_count [.ref 97, .int w] S := by
  have R0 := R
  obtain ⟨n, nw, c, tl⟩ := R
  by_cases h : w.toInt < 0 ∨ 5 < w.toInt
  · exact jn_no R0 (ct_X10_count_no h) (ct_X11_count_no rfl h)
  · have h0 : 0 ≤ w ∧ w ≤ nI 5 := by
      rw [Int32.le_iff_toInt_le, Int32.le_iff_toInt_le]
      have e0 : (0 : Int32).toInt = 0 := by decide
      have e5 : (nI 5).toInt = 5 := by decide
      omega
    obtain ⟨k, hk, rfl⟩ := in_nI (by decide) h0
    match k, hk with
    | 0, _ =>
      have B : am_CT (d + 700) _ _ _ _ _ := ct_X11_count_0 (S := S) rfl
      have e : gI (uI S 97 0 0) 97 3 = gI S 1 1 := by rw [rc_n1 c, ← rc_n2 c]; (repeat first | rw [gI_un (by omega)] | rw [gI_ua (by omega) (by omega)])
      rw [e] at B
      exact jn_TT ct_X10_count_0 B (rm_no R0)
    | 1, _ =>
      have B : am_CT (d + 700) _ _ _ _ _ := ct_X11_count_1 (S := S) rfl
      have e : gI (uI S 97 0 0) 97 23 = gI S 54 0 := by rw [c.2.2.2.2.1.2.1, ← c.2.2.2.2.1.2.2.1]; (repeat first | rw [gI_un (by omega)] | rw [gI_ua (by omega) (by omega)])
      rw [e] at B
      exact jn_TT ct_X10_count_1 B (rm_no R0)
    | 2, _ =>
      have B : am_CT (d + 700) _ _ _ _ _ := ct_X11_count_2 (S := S) rfl
      have e : mBits (gI (uI S 97 0 0) 105) 12 = ruleBits (fun j => gI S (18 + 3 * j) 1) 12 := (told_eq (fun j hj => by
        obtain ⟨L, a, b⟩ := c.2.2.2.2.2.2.1 j hj
        rw [a, gI_un (by omega), b.1])).symm
      rw [e] at B
      exact jn_TT ct_X10_count_2 B (rm_no R0)
    | 3, _ =>
      have B : am_CT (d + 700) _ _ _ _ _ := ct_X11_count_3 (S := S) rfl
      obtain ⟨da, dn, up, a1, a2, a3, a4, a5, a6, a7, a8⟩ := c.2.2.2.1
      have e : gI (uI S 97 0 0) 97 10 = gI S 1 4 := by rw [a3, ← a4]; (repeat first | rw [gI_un (by omega)] | rw [gI_ua (by omega) (by omega)])
      rw [e] at B
      exact jn_TT ct_X10_count_3 B (rm_no R0)
    | 4, _ =>
      have B : am_CT (d + 700) _ _ _ _ _ := ct_X11_count_4 (S := S) rfl
      obtain ⟨m, b1, b2, b3, b4⟩ := tl
      have e : gI (uI S 97 0 0) 97 1 = gI S 74 1 := by rw [b2, ← b3]; (repeat first | rw [gI_un (by omega)] | rw [gI_ua (by omega) (by omega)])
      rw [e] at B
      exact jn_TT ct_X10_count_4 B (rm_no R0)
    | 5, _ =>
      have B : am_CT (d + 700) _ _ _ _ _ := ct_X11_count_5 (S := S) rfl
      obtain ⟨q, hq, t1, t2, t3⟩ := c.2.2.2.2.2.2.2.2.2.1
      have e : gI (uI S 97 0 0) 97 17 = gI S 67 1 := by rw [t1, ← t2]; (repeat first | rw [gI_un (by omega)] | rw [gI_ua (by omega) (by omega)])
      rw [e] at B
      exact jn_TT ct_X10_count_5 B (rm_no R0)
theorem jn_by {d : Nat} {S : am_S} (R : RM S) (p q m : Int32) : Jn (d + 700) iX10_by [.ref 0, .int p, .int q, .int m] iX11_by [.ref 97, .int p, .int q, .int m] S := by
  have R0 := R
  obtain ⟨n, nw, c, tl⟩ := R
  have z3 : gI (uI S 97 0 0) 97 3 = gI S 97 3 := by (repeat first | rw [gI_un (by omega)] | rw [gI_ua (by omega) (by omega)])
  by_cases h : twoP S p q ∧ 0 ≤ m ∧ m ≤ 199
  · obtain ⟨h1, hm⟩ := h
    have A : am_CT (d + 700) _ _ _ _ _ := ct_X10_by_ok (S := S) (rc_z1 c) h1 hm
    have B : am_CT (d + 700) _ _ _ _ _ := ct_X11_by_ok (S := S) (p := p) (q := q) (m := m) rfl (by rw [z3]; exact rc_z0 c) (by rw [z3]; exact rc_z2 c) (th_twoN.mpr ((rc_two c).mpr h1)) hm
    obtain ⟨i, j, hi, hj, hij, rfl, rfl⟩ := rc_twoN c h1
    have h6 := rc_n6 c
    have ei : (nI i).toNatClampNeg = i := nI_clamp (by omega)
    have ej : (nI j).toNatClampNeg = j := nI_clamp (by omega)
    simp only [cP, ei, ej] at A B
    have e1 : gI (uI S 97 0 0) 99 j = gI S (6 + 2 * j) 0 := by rw [(c.1.2.2.2 j (by omega)).1.1]; (repeat first | rw [gI_un (by omega)] | rw [gI_ua (by omega) (by omega)])
    have e2 : gI (uI S 97 0 0) 102 i = gI S (6 + 2 * i) 3 := by rw [(c.1.2.2.2 i (by omega)).1.2.2.2.1]; (repeat first | rw [gI_un (by omega)] | rw [gI_ua (by omega) (by omega)])
    rw [e1, e2] at B
    exact jn_TT A B (rm_no R0)
  · exact jn_no R0 (ct_X10_by_no h) (ct_X11_by_no rfl (by rw [z3]; exact rc_z0 c) (fun z => h ⟨(rc_two c).mp (th_twoN.mp z.1), z.2⟩))
theorem jn_place {d : Nat} {S : am_S} (R : RM S) (m : Int32) (h : 0 ≤ m ∧ m ≤ gI S 54 0) : Jn0 (d + 700) iX10_place [.ref 0, .int m] iX11_place [.ref 97, .int m] S := by
  have R0 := R
  obtain ⟨n, nw, c, tl⟩ := R
  obtain ⟨b1, b2, b3, b4, b5, b6, b7⟩ := c.2.2.2.2.1
  have A : am_CT (d + 700) _ _ _ _ _ := ct_X10_place_ok (S := S) h
  have z3 : gI (uI S 97 0 0) 97 23 = gI S 54 0 := by rw [b2, ← b3]; (repeat first | rw [gI_un (by omega)] | rw [gI_ua (by omega) (by omega)])
  have B : am_CT (d + 700) _ _ _ _ _ := ct_X11_place_ok (S := S) (m := m) rfl (by rw [z3]; exact h) (by rw [z3, b2]; exact nI_le (b := 199) b1 (by decide))
  rw [b2] at h
  obtain ⟨k, hk, rfl⟩ := in_nI (by omega) h
  have e : gI (uI S 97 0 0) 109 (nI k).toNatClampNeg = fPlace S 54 (nI k) := by
    rw [fPlace_nI (by omega), nI_clamp (by omega), b6 k hk]
    (repeat first | rw [gI_un (by omega)] | rw [gI_ua (by omega) (by omega)])
  rw [e] at B
  exact jn_TT A B ⟨rm_no R0, gI_at⟩
theorem jn_row {d : Nat} {S : am_S} (R : RM S) (i : Int32) (h : 0 ≤ i ∧ i < gI S 74 1) : JnL0 (d + 700) iX10_row [.ref 0, .int i] iX11_row [.ref 97, .int i] S := by
  have R0 := R
  obtain ⟨n, nw, c, tl⟩ := R
  obtain ⟨m, b1, b2, b3, b4⟩ := tl
  have A : am_CT (d + 700) _ _ _ _ _ := ct_X10_row_ok (S := S) h (by rw [b2]; exact nI_le (b := 6) b1 (by decide))
  have z3 : gI (uI S 97 0 0) 97 1 = gI S 74 1 := by rw [b2, ← b3]; (repeat first | rw [gI_un (by omega)] | rw [gI_ua (by omega) (by omega)])
  have B : am_CT (d + 700) _ _ _ _ _ := ct_X11_row_ok (S := S) (i := i) rfl (by rw [z3]; exact h) (by rw [z3, b2]; exact nI_le (b := 16) (by omega) (by decide))
  rw [b2] at h
  have e : gJ (uI S 97 0 0) 98 i.toNatClampNeg = gJ S 75 i.toNatClampNeg := (b4 _ (cl_lt h.1 h.2 (by omega))).symm
  rw [e] at B
  exact jn_TT A B ⟨rm_no R0, gI_at⟩
/-! sheet -/
theorem fEntry_in {k v : Int32} : 0 ≤ fEntry k v ∧ fEntry k v ≤ 20 := by
  unfold fEntry
  generalize (if k = 0 then v.toInt8.toInt32 else if k = 1 then v.toInt16.toInt32 else v) = x
  split
  · decide
  · split
    · decide
    · grind
theorem shV_in {kd n f st : Int32} {j : Nat} : 0 ≤ shV kd n f st j ∧ shV kd n f st j ≤ 20 := by
  unfold shV
  split
  · decide
  · exact fEntry_in
theorem shS_un {S : am_S} {kd n f st : Int32} {o k : Nat} : ∀ z, (∀ j, j < z → o = 6 + 2 * j → k = 0 → False) → gI (shS S kd n f st z) o k = gI S o k
  | 0, _ => rfl
  | z + 1, h => by
    unfold shS
    rw [gI_un (fun a b => h z (by omega) a b), shS_un z (fun j hj => h j (by omega))]
theorem shS_at {S : am_S} {kd n f st : Int32} {j : Nat} : ∀ z, j < z → gI (shS S kd n f st z) (6 + 2 * j) 0 = shV kd n f st j
  | z + 1, h => by
    unfold shS
    by_cases e : j = z
    · rw [gI_ua (by omega) rfl, e]
    · rw [gI_un (by omega), shS_at z (by omega)]
theorem shS_R {S : am_S} {kd n f st : Int32} : ∀ z, (∀ c, gR (shS S kd n f st z) c = gR S c) ∧ ∀ o, gJ (shS S kd n f st z) o = gJ S o
  | 0 => ⟨fun _ => rfl, fun _ => rfl⟩
  | z + 1 => ⟨fun c => (shS_R z).1 c, fun o => (shS_R z).2 o⟩
theorem shM_un {S : am_S} {kd n f st : Int32} {o k : Nat} : ∀ z, (∀ j, j < z → o = 99 → k = j → False) → gI (shM S kd n f st z) o k = gI S o k
  | 0, _ => rfl
  | z + 1, h => by
    unfold shM
    rw [gI_un (fun a b => h z (by omega) a b), shM_un z (fun j hj => h j (by omega))]
theorem shM_at {S : am_S} {kd n f st : Int32} {j : Nat} : ∀ z, j < z → gI (shM S kd n f st z) 99 j = shV kd n f st j
  | z + 1, h => by
    unfold shM
    by_cases e : j = z
    · rw [gI_ua rfl e, e]
    · rw [gI_un (by omega), shM_at z (by omega)]
theorem shM_R {S : am_S} {kd n f st : Int32} : ∀ z, (∀ c, gR (shM S kd n f st z) c = gR S c) ∧ ∀ o, gJ (shM S kd n f st z) o = gJ S o
  | 0 => ⟨fun _ => rfl, fun _ => rfl⟩
  | z + 1 => ⟨fun c => (shM_R z).1 c, fun o => (shM_R z).2 o⟩
theorem jn_sheet {d : Nat} {S : am_S} (R : RM S) (kd m f st : Int32) : Jn (d + 700) iX10_sheet [.ref 0, .int kd, .int m, .int f, .int st] iX11_sheet [.ref 97, .int kd, .int m, .int f, .int st] S := by
  have R0 := R
  obtain ⟨n, nw, c, tl⟩ := R
  have h6 := rc_n6 c
  by_cases h0 : 0 ≤ kd ∧ kd ≤ 3 ∧ m ≤ 6
  · by_cases h1 : 0 ≤ kd ∧ kd < 3 ∧ m < 0
    · exact jn_no R0 (ct_X10_sheet_never h1) (ct_X11_sheet_never rfl h1)
    · have h : 0 ≤ kd ∧ kd ≤ 3 ∧ m ≤ 6 ∧ (kd = 3 ∨ 0 ≤ m) := ⟨h0.1, h0.2.1, h0.2.2, by grind⟩
      have A : am_CT (d + 700) _ _ _ _ _ := ct_X10_sheet_ok (S := S) (f := f) (st := st) (rc_n1 c) h6 h
      have u : gI (uI (shS S kd m f st n) 97 0 0) 97 3 = nI n := by
        rw [gI_un (by omega), shS_un n (by omega)]
        exact rc_n2 c
      have B : am_CT (d + 700) _ _ _ _ _ := ct_X11_sheet_ok (S := shS S kd m f st n) (f := f) (st := st) rfl u h6 h
      have eu : ∀ o k, ¬ (o = 97 ∧ k = 0) → ¬ (o = 99 ∧ k < n) → (∀ j, j < n → o = 6 + 2 * j → k = 0 → False) → gI (shM (uI (shS S kd m f st n) 97 0 0) kd m f st n) o k = gI S o k := fun o k a b e => by
        rw [shM_un n (fun j hj h1 h2 => b ⟨h1, by omega⟩), gI_un (by omega), shS_un n e]
      refine jn_TT A B (rm_ppl (S := S) (fun o k hs hx => ?_) (fun x => ?_) c tl ?_ ?_ (fun o => ?_) ⟨h6, ?_, ?_, fun q hq => ?_⟩ (rNer_c (S := S) (fun k => ?_) c.2.1))
      · unfold scr at hs
        unfold xPpl at hx
        exact eu o k (by omega) (by omega) (fun j hj a b => by omega)
      · rw [(shM_R n).1, gR_uI, (shS_R n).1]
      · exact eu _ _ (by omega) (by omega) (by omega)
      · exact eu _ _ (by omega) (by omega) (by omega)
      · rw [(shM_R n).2, gJ_uI_f, (shS_R n).2]
      · rw [eu _ _ (by omega) (by omega) (by omega)]
        exact rc_n1 c
      · rw [eu _ _ (by omega) (by omega) (by omega)]
        exact rc_n2 c
      · have e := c.1.2.2.2 q hq
        rw [eu (6 + 2 * q) 1 (by omega) (by omega) (by omega), eu (6 + 2 * q) 2 (by omega) (by omega) (by omega), eu (6 + 2 * q) 3 (by omega) (by omega) (by omega), eu (6 + 2 * q) 4 (by omega) (by omega) (by omega), eu 100 q (by omega) (by omega) (by omega), eu 101 q (by omega) (by omega) (by omega), eu 102 q (by omega) (by omega) (by omega), eu 103 q (by omega) (by omega) (by omega)]
        by_cases z : q < n
        · rw [shM_at n z, shM_un n (by omega), gI_un (by omega), shS_at n z]
          exact ⟨⟨rfl, e.1.2⟩, shV_in, e.2.2⟩
        · rw [eu (6 + 2 * q) 0 (by omega) (by omega) (by omega), eu 99 q (by omega) (by omega) (by omega)]
          exact e
      · exact eu _ _ (by omega) (by omega) (by omega)
  · exact jn_no R0 (ct_X10_sheet_no h0) (ct_X11_sheet_no rfl h0)
/-! sign -/
theorem fourI_nI {v : Int32} {j : Nat} : ∃ x, x < 256 ∧ fourI v j = nI x := pk_andE _ (m := 255) 8 (by decide)
theorem jn_sign {d : Nat} {S : am_S} (R : RM S) (v : Int32) : Jn (d + 700) iX10_sign [.ref 0, .int v] iX11_sign [.ref 97, .int v] S := by
  have R0 := R
  obtain ⟨n, nw, c, tl⟩ := R
  obtain ⟨q, hq, t1, t2, t3⟩ := c.2.2.2.2.2.2.2.2.2.1
  by_cases h : q ≤ 56
  · have A : am_CT (d + 700) _ _ _ _ _ := ct_X10_sign_ok (S := S) (v := v) t1 h
    simp only [frS] at A
    generalize hS1 : uI (uI (uI (uI (uI (uI (uI (uI S 68 (q + 0) (fourI v 0)) 67 1 (nI (q + (0 + 1)))) 68 (q + 1) (fourI v 1)) 67 1 (nI (q + (1 + 1)))) 68 (q + 2) (fourI v 2)) 67 1 (nI (q + (2 + 1)))) 68 (q + 3) (fourI v 3)) 67 1 (nI (q + (3 + 1))) = S1 at A
    have B : am_CT (d + 700) _ _ _ _ _ := ct_X11_sign_ok (S := S1) (n := q) (v := v) rfl (by rw [← hS1]; (repeat first | rw [gI_un (by omega)] | rw [gI_ua (by omega) (by omega)]); exact t2) h
    simp only [frM] at B
    subst hS1
    refine jn_TT A B (rm_txt (S := S) (fun o k hs hx => ?_) (fun _ => rfl) c tl ?_ ?_ (fun _ => rfl) ⟨q + 4, by omega, ?_, ?_, fun i hi => ?_⟩)
    · unfold scr at hs
      unfold xTxt at hx
      (repeat first | rw [gI_un (by omega)] | rw [gI_ua (by omega) (by omega)])
    · (repeat first | rw [gI_un (by omega)] | rw [gI_ua (by omega) (by omega)])
    · (repeat first | rw [gI_un (by omega)] | rw [gI_ua (by omega) (by omega)])
    · (repeat first | rw [gI_un (by omega)] | rw [gI_ua (by omega) (by omega)])
    · (repeat first | rw [gI_un (by omega)] | rw [gI_ua (by omega) (by omega)])
    · by_cases z : i < q
      · (repeat first | rw [gI_un (by omega)] | rw [gI_ua (by omega) (by omega)])
        exact t3 i z
      · by_cases z0 : i = q
        · obtain ⟨x, hx, e⟩ := fourI_nI (v := v) (j := 0)
          (repeat first | rw [gI_un (by omega)] | rw [gI_ua (by omega) (by omega)])
          exact ⟨x, hx, e, e⟩
        · by_cases z1 : i = q + 1
          · obtain ⟨x, hx, e⟩ := fourI_nI (v := v) (j := 1)
            (repeat first | rw [gI_un (by omega)] | rw [gI_ua (by omega) (by omega)])
            exact ⟨x, hx, e, e⟩
          · by_cases z2 : i = q + 2
            · obtain ⟨x, hx, e⟩ := fourI_nI (v := v) (j := 2)
              (repeat first | rw [gI_un (by omega)] | rw [gI_ua (by omega) (by omega)])
              exact ⟨x, hx, e, e⟩
            · obtain ⟨x, hx, e⟩ := fourI_nI (v := v) (j := 3)
              have z3 : i = q + 3 := by omega
              (repeat first | rw [gI_un (by omega)] | rw [gI_ua (by omega) (by omega)])
              exact ⟨x, hx, e, e⟩
  · exact jn_no R0 (ct_X10_sign_no t1 (by omega) hq) (ct_X11_sign_no rfl (by (repeat first | rw [gI_un (by omega)] | rw [gI_ua (by omega) (by omega)]); exact t2) (by omega) hq)
