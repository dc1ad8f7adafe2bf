/-! Joint calls: keep, again. -/
theorem cpy_at {S : am_S} {g f : Nat → Int32} {N m : Nat} (h : m < N) : va_cpy f g 0 0 N m = f m := by
  unfold va_cpy
  rw [if_pos ⟨Nat.zero_le _, by omega⟩]
  congr 1
  omega
theorem cpyC_0 {S : am_S} {o f k : Nat} (hk : k < 4) : gI (cpyC S o f) o k = gI S f k := by
  unfold cpyC
  rw [gI_rI_ne (by omega), gI_rI_ne (by omega), gI_rI_ne (by omega), gI_rI_ne (by omega), gI_rI_ne (by omega)]
  have h4 : k = 0 ∨ k = 1 ∨ k = 2 ∨ k = 3 := by omega
  rcases h4 with rfl | rfl | rfl | rfl
  · rw [gI_un (by omega), gI_un (by omega), gI_un (by omega), gI_at]
  · rw [gI_un (by omega), gI_un (by omega), gI_at]
  · rw [gI_un (by omega), gI_at]
  · rw [gI_at]
theorem cpyC_1 {S : am_S} {o f m : Nat} (hm : m < 200) : gI (cpyC S o f) (o + 1) m = gI S (f + 1) m := by
  unfold cpyC
  rw [gI_rI_ne (by omega), gI_rI_ne (by omega), gI_rI_ne (by omega), gI_rI_ne (by omega), gI_rI_eq]
  exact cpy_at (S := S) hm
theorem cpyC_2 {S : am_S} {o f k m : Nat} (hk : k < 4) (hm : m < 1200) : gI (cpyC S o f) (o + 2 + k) m = gI S (f + 2 + k) m := by
  unfold cpyC
  have h4 : k = 0 ∨ k = 1 ∨ k = 2 ∨ k = 3 := by omega
  rcases h4 with rfl | rfl | rfl | rfl
  · rw [Nat.add_zero, Nat.add_zero, gI_rI_ne (by omega), gI_rI_ne (by omega), gI_rI_ne (by omega), gI_rI_eq]
    exact cpy_at (S := S) hm
  · rw [show o + 2 + 1 = o + 3 by omega, show f + 2 + 1 = f + 3 by omega, gI_rI_ne (by omega), gI_rI_ne (by omega), gI_rI_eq]
    exact cpy_at (S := S) hm
  · rw [show o + 2 + 2 = o + 4 by omega, show f + 2 + 2 = f + 4 by omega, gI_rI_ne (by omega), gI_rI_eq]
    exact cpy_at (S := S) hm
  · rw [show o + 2 + 3 = o + 5 by omega, show f + 2 + 3 = f + 5 by omega, gI_rI_eq]
    exact cpy_at (S := S) hm
theorem cpyC_R {S : am_S} {o f : Nat} : (cpyC S o f).2 = S.2 := rfl
theorem rKp1_d {S T : am_S} {n i c : Nat} (h0 : ∀ o k, c ≤ o → o ≤ c + 5 → gI T o k = gI S o k) (h1 : ∀ o, 125 ≤ o → o ≤ 129 → gI T o i = gI S o i) (h2 : ∀ m, m < 5001 → gI T 124 (5001 * i + m) = gI S 124 (5001 * i + m)) (R : rKp1 S n i c) : rKp1 T n i c := by
  obtain ⟨nk, wk, a, b, e, f⟩ := R
  refine ⟨nk, wk, by rw [h1 125 (by omega) (by omega)]; exact a, b, e, ?_⟩
  rw [h0 c 0 (by omega) (by omega), h0 c 1 (by omega) (by omega), h0 c 2 (by omega) (by omega), h0 c 3 (by omega) (by omega), h1 127 (by omega) (by omega), h1 128 (by omega) (by omega), h1 129 (by omega) (by omega), h1 126 (by omega) (by omega)]
  refine ⟨f.1, f.2.1, f.2.2.1, f.2.2.2.1, f.2.2.2.2.1, f.2.2.2.2.2.1, fun m hm => ?_, fun k p m hk hp => ⟨fun x y => ?_, fun x y => ?_⟩⟩
  · rw [h0 (c + 1) m (by omega) (by omega), h2 (4800 + m) (by omega)]
    exact f.2.2.2.2.2.2.1 m hm
  · have := gAt_lt hk hp (show m < 200 by omega)
    rw [h0 (c + 2 + k) _ (by omega) (by omega), h2 _ (by omega)]
    exact (f.2.2.2.2.2.2.2 k p m hk hp).1 x y
  · have := gAt_lt hk hp y
    rw [h0 (c + 2 + k) _ (by omega) (by omega), h2 _ (by omega)]
    exact (f.2.2.2.2.2.2.2 k p m hk hp).2 x y
/-- the class's state behind keep: kept in the r-th course made -/
def KpC (S C : am_S) (r : Nat) : Prop := (∀ o k, o < 131 → gI C o k = gI S o k) ∧ (∀ x o k, x ≠ r → x < gR S 0 → 131 + 6 * x ≤ o → o ≤ 131 + 6 * x + 5 → gI C o k = gI S o k) ∧ (∀ k, k < 3 → gI C (131 + 6 * r) k = gI S 54 k) ∧ gI C (131 + 6 * r) 3 = gI S 1 1 ∧ (∀ m, m < 200 → gI C (131 + 6 * r + 1) m = gI S 55 m) ∧ (∀ k m, k < 4 → m < 1200 → gI C (131 + 6 * r + 2 + k) m = gI S (56 + k) m) ∧ ∀ o k, gJ C o k = gJ S o k
theorem kep_at {X S : am_S} {r : Nat} (h : ∀ o k, o < 131 → gI X o k = gI S o k) (h2 : ∀ x o k, x ≠ r → x < gR S 0 → 131 + 6 * x ≤ o → o ≤ 131 + 6 * x + 5 → gI X o k = gI S o k) (hJ : ∀ o k, gJ X o k = gJ S o k) : KpC S (uI (cpyC X (131 + 6 * r) 54) (131 + 6 * r) 3 (gI X 1 1)) r := by
  refine ⟨fun o k ho => ?_, fun x o k hx hx2 h3 h4 => ?_, fun k hk => ?_, ?_, fun m hm => ?_, fun k m hk hm => ?_, fun o k => ?_⟩
  · rw [gI_un (by omega), cpyC_ne (by omega)]
    exact h o k ho
  · rw [gI_un (by omega), cpyC_ne (by omega)]
    exact h2 x o k hx hx2 h3 h4
  · rw [gI_un (by omega), cpyC_0 (by omega), h 54 k (by omega)]
  · rw [gI_at, h 1 1 (by omega)]
  · rw [gI_un (by omega), cpyC_1 hm]
    exact h 55 m (by omega)
  · rw [gI_un (by omega), cpyC_2 hk hm]
    exact h (56 + k) m (by omega)
  · exact hJ o k
theorem rc_Rf {S : am_S} {n nw : Nat} (R : RC S n nw) : RfOk S := by
  obtain ⟨k1, k2, k3⟩ := R.2.2.2.2.2.1
  obtain ⟨h1, h2⟩ := R.2.2.2.2.2.2.2.2.2.2
  have a := (k3 0 (by decide)).1
  have b := (k3 1 (by decide)).1
  have c := (k3 2 (by decide)).1
  refine ⟨?_, ⟨a, b, c⟩, ?_, ?_, h2⟩
  · rw [k1]
    unfold rCnt
    repeat' split
    all_goals omega
  · rcases h1 with h1 | h1 <;> omega
  · rcases h1 with h1 | h1 <;> omega
theorem kep_rm {S C U : am_S} {i r : Nat} (R : RM S) (hi : i < 3) (hC : KpC S C r) (hr : r < gR C 0) (h0 : gR S 0 ≤ gR C 0) (hi2 : gR C (1 + i) = r + 1) (hx : ∀ a, a < 3 → a ≠ i → gR C (1 + a) = gR S (1 + a) ∧ gR S (1 + a) ≠ r + 1) (hn : gR C 0 = rCnt C) (h4 : ∀ c, 4 ≤ c → gR C c = gR S c)
    (u1 : ∀ o, o ≠ 124 → gI U o = gI (kpM (uI C 97 0 0) i) o) (u2 : ∀ o, gJ U o = gJ (uI C 97 0 0) o) (u3 : ∀ c, gR U c = gR (uI C 97 0 0) c) (u4 : ∀ m, gI U 124 m = if 5001 * i ≤ m ∧ m < 5001 * i + 5001 then kvM (uI C 97 0 0) (m - 5001 * i) else gI (uI C 97 0 0) 124 m) : RM U := by
  obtain ⟨n, nw, c, tl⟩ := R
  have h6 := rc_n6 c
  have hw := rc_nw c
  obtain ⟨c1, c2, c3, c4, c5, c6, c7⟩ := hC
  have uR : ∀ x, gR U x = gR C x := fun x => u3 x
  have lo : ∀ o k, o ≠ 124 → (o < 125 ∨ 129 < o) → o ≠ 97 → gI U o k = gI C o k := fun o k a b e => by rw [u1 o a, kpM_ne b, gI_un (fun z _ => e z)]
  have l97 : ∀ k, k ≠ 0 → gI U 97 k = gI S 97 k := fun k hk => by rw [u1 97 (by decide), kpM_ne (by decide), gI_un (fun _ z => hk z), c1 97 k (by decide)]
  have in4 : ∀ m, m < 5001 → gI U 124 (5001 * i + m) = kvM (uI C 97 0 0) m := fun m hm => by
    rw [u4, if_pos ⟨by omega, by omega⟩, show 5001 * i + m - 5001 * i = m by omega]
  obtain ⟨k1, k2, k3⟩ := c.2.2.2.2.2.1
  refine ⟨n, nw, rc_kpt (S := S) (fun o k hs hk => ?_) c ⟨?_, fun a b ha hb hab => ?_, fun a ha => ?_⟩ ?_, rTld_c (S := S) ?_ ?_ (fun j => ?_) (fun j => ?_) tl⟩
  · unfold xKpt at hk
    by_cases z : o = 97
    · subst z
      exact l97 k (fun z => hs (by unfold scr; omega))
    · rw [lo o k (by omega) (by omega) z, c1 o k (by omega)]
  · unfold rCnt
    rw [uR, uR, uR, uR]
    exact hn
  · rw [uR, uR]
    by_cases za : a = i
    · subst za
      rw [hi2, (hx b hb (fun z => hab z.symm)).1]
      intro z
      exact absurd z.symm (hx b hb (fun z => hab z.symm)).2
    · by_cases zb : b = i
      · subst zb
        rw [hi2, (hx a ha hab).1]
        intro z
        exact absurd z (hx a ha hab).2
      · rw [(hx a ha za).1, (hx b hb zb).1]
        exact k2 a b ha hb hab
  · rw [uR, uR]
    by_cases za : a = i
    · subst za
      rw [hi2]
      refine ⟨by omega, Or.inr ⟨r, rfl, n, nw, ?_, Nat.le_refl _, hw, ?_, ?_, ?_, ?_, ?_, ?_, fun m hm => ?_, fun k p m hk hp => ⟨fun x y => ?_, fun x y => ?_⟩⟩⟩
      · rw [u1 125 (by decide), kpM, gI_un (by omega), gI_un (by omega), gI_un (by omega), gI_un (by omega), gI_at]
        decide
      · rw [lo _ _ (by omega) (by omega) (by omega), c3 0 (by decide)]
        exact rc_w1 c
      · rw [u1 127 (by decide), kpM, gI_un (by omega), gI_un (by omega), gI_at, gI_un (by omega), c1 97 23 (by decide)]
        exact rc_w2 c
      · rw [lo _ _ (by omega) (by omega) (by omega), c3 1 (by decide), u1 128 (by decide), kpM, gI_un (by omega), gI_at, gI_un (by omega), c1 97 9 (by decide)]
        exact c.2.2.2.2.1.2.2.2.1
      · rw [lo _ _ (by omega) (by omega) (by omega), c3 2 (by decide), u1 129 (by decide), kpM, gI_at, gI_un (by omega), c1 97 24 (by decide)]
        exact c.2.2.2.2.1.2.2.2.2.1
      · rw [lo _ _ (by omega) (by omega) (by omega), c4]
        exact rc_n1 c
      · rw [u1 126 (by decide), kpM, gI_un (by omega), gI_un (by omega), gI_un (by omega), gI_at, gI_un (by omega), c1 97 3 (by decide)]
        exact rc_n2 c
      · rw [lo _ _ (by omega) (by omega) (by omega), c5 m (by omega), in4 (4800 + m) (by omega), kvM, if_neg (by omega), show 4800 + m - 4800 = m by omega, gI_un (by omega), c1 109 m (by decide)]
        exact (rc_plc c hm).symm
      · have := gAt_lt hk hp (show m < 200 by omega)
        rw [lo _ _ (by omega) (by omega) (by omega), c6 k _ hk (by omega), in4 _ (by omega), kvM, if_pos (by omega), gI_un (by omega), c1 110 _ (by decide)]
        exact (rc_did c hk x y).symm
      · have := gAt_lt hk hp y
        rw [lo _ _ (by omega) (by omega) (by omega), c6 k _ hk (by omega), in4 _ (by omega), kvM, if_pos (by omega), gI_un (by omega), c1 110 _ (by decide)]
        exact (c.2.2.2.2.1.2.2.2.2.2.2 k p m hk hp).2 x y
    · obtain ⟨e1, e2⟩ := hx a ha za
      obtain ⟨f1, f2⟩ := k3 a ha
      rw [e1]
      refine ⟨by omega, ?_⟩
      have g125 : ∀ o, 125 ≤ o → o ≤ 129 → gI U o a = gI S o a := fun o h1 h2 => by
        rw [u1 o (by omega), kpM, gI_un (fun _ z => za z), gI_un (fun _ z => za z), gI_un (fun _ z => za z), gI_un (fun _ z => za z), gI_un (fun _ z => za z), gI_un (by omega), c1 o a (by omega)]
      rcases f2 with ⟨f2, f3⟩ | ⟨x, f2, f3⟩
      · exact Or.inl ⟨f2, by rw [g125 125 (by omega) (by omega), f3]⟩
      · refine Or.inr ⟨x, f2, rKp1_d (S := S) (fun o k h1 h2 => ?_) g125 (fun m hm => ?_) f3⟩
        · rw [lo _ _ (by omega) (by omega) (by omega)]
          exact c2 x o k (by omega) (by omega) h1 h2
        · rw [u4, if_neg (by omega), gI_un (by omega), c1 124 _ (by decide)]
  · have e := c.2.2.2.2.2.2.2.2.2.2
    refine rRef_c (S := S) (fun x hx4 => ?_) e
    rw [uR, h4 x hx4]
  · rw [lo 74 1 (by decide) (by decide) (by decide), c1 74 1 (by decide)]
  · exact l97 1 (by decide)
  · rw [u2]
    exact c7 75 j
  · rw [u2]
    exact c7 98 j
theorem jn_keep {d : Nat} {S : am_S} (R : RM S) (i : Int32) : Jn (d + 700) iX10_keep [.ref 0, .int i] iX11_keep [.ref 97, .int i] S := by
  have R0 := R
  obtain ⟨n, nw, c, tl⟩ := R
  by_cases h : 0 ≤ i ∧ i < 3
  · obtain ⟨i, hi, rfl⟩ : ∃ k, k < 3 ∧ i = nI k := ⟨i.toNatClampNeg, cl_lt (n := 3) h.1 h.2 (by decide), nI_cl h.1⟩
    obtain ⟨k1, k2, k3⟩ := c.2.2.2.2.2.1
    obtain ⟨f1, f2⟩ := k3 i hi
    rcases f2 with ⟨f2, f3⟩ | ⟨r, f2, f3⟩
    · have A : am_CT (d + 700) _ _ _ _ _ := ct_X10_keep_new (rc_Rf c) hi f2
      have kc : KpC S (kepS (uR (newC S) (1 + i) (gR S 0 + 1)) (131 + 6 * gR S 0)) (gR S 0) := kep_at (X := uR (newC S) (1 + i) (gR S 0 + 1)) (fun o k ho => by
        rw [gI_uR, newC_I (by omega)]) (fun x o k _ hx h1 h2 => by
        rw [gI_uR, newC_I (by omega)]) (fun _ _ => rfl)
      have eR : ∀ x, gR (kepS (uR (newC S) (1 + i) (gR S 0 + 1)) (131 + 6 * gR S 0)) x = if x = 1 + i then gR S 0 + 1 else if x = 0 then gR S 0 + 1 else gR S x := fun x => rfl
      generalize kepS (uR (newC S) (1 + i) (gR S 0 + 1)) (131 + 6 * gR S 0) = C at A kc eR
      have B : am_CE (d + 700) _ _ _ _ _ := ct_X11_keep_ok (S := C) rfl hi
      refine jn_TE A B (fun U hU => ?_)
      obtain ⟨u1, u2, u3, u4⟩ := hU
      have e0 : gR C 0 = gR S 0 + 1 := by rw [eR, if_neg (by omega), if_pos rfl]
      have ei : gR C (1 + i) = gR S 0 + 1 := by rw [eR, if_pos rfl]
      have ea : ∀ a, a < 3 → a ≠ i → gR C (1 + a) = gR S (1 + a) := fun a ha hai => by rw [eR, if_neg (by omega), if_neg (by omega)]
      refine kep_rm R0 hi kc (by omega) (by omega) ei (fun a ha hai => ⟨ea a ha hai, ?_⟩) ?_ (fun x hx => by rw [eR, if_neg (by omega), if_neg (by omega)]) u1 u2 u3 u4
      · have := (k3 a ha).1
        omega
      · rw [e0, k1]
        unfold rCnt
        have h3 : i = 0 ∨ i = 1 ∨ i = 2 := by omega
        rcases h3 with rfl | rfl | rfl
        · have x0 : gR C 1 = gR S 0 + 1 := ei
          have x1 : gR C 2 = gR S 2 := ea 1 (by decide) (by decide)
          have x2 : gR C 3 = gR S 3 := ea 2 (by decide) (by decide)
          have x3 : gR S 1 = 0 := f2
          rw [x0, x1, x2, x3, if_pos rfl, if_neg (show ¬ gR S 0 + 1 = 0 by omega)]
          omega
        · have x0 : gR C 2 = gR S 0 + 1 := ei
          have x1 : gR C 1 = gR S 1 := ea 0 (by decide) (by decide)
          have x2 : gR C 3 = gR S 3 := ea 2 (by decide) (by decide)
          have x3 : gR S 2 = 0 := f2
          rw [x0, x1, x2, x3, if_pos rfl, if_neg (show ¬ gR S 0 + 1 = 0 by omega)]
          omega
        · have x0 : gR C 3 = gR S 0 + 1 := ei
          have x1 : gR C 1 = gR S 1 := ea 0 (by decide) (by decide)
          have x2 : gR C 2 = gR S 2 := ea 1 (by decide) (by decide)
          have x3 : gR S 3 = 0 := f2
          rw [x0, x1, x2, x3, if_pos rfl, if_neg (show ¬ gR S 0 + 1 = 0 by omega)]
    · have A : am_CT (d + 700) _ _ _ _ _ := ct_X10_keep_old hi f2 (by omega)
      have kc : KpC S (kepS S (131 + 6 * r)) r := kep_at (X := S) (fun _ _ _ => rfl) (fun _ _ _ _ _ _ _ => rfl) (fun _ _ => rfl)
      have eR : ∀ x, gR (kepS S (131 + 6 * r)) x = gR S x := fun x => rfl
      generalize kepS S (131 + 6 * r) = C at A kc eR
      have B : am_CE (d + 700) _ _ _ _ _ := ct_X11_keep_ok (S := C) rfl hi
      refine jn_TE A B (fun U hU => ?_)
      obtain ⟨u1, u2, u3, u4⟩ := hU
      refine kep_rm R0 hi kc (by rw [eR]; omega) (by rw [eR]; omega) (by rw [eR, f2]) (fun a ha hai => ⟨eR _, fun z => ?_⟩) ?_ (fun x _ => eR x) u1 u2 u3 u4
      · have := k2 a i ha hi hai (by rw [z, f2])
        omega
      · unfold rCnt
        rw [eR, eR, eR, eR]
        exact k1
  · exact jn_no R0 (ct_X10_keep_no (by
      by_cases z : 0 ≤ i
      · exact Or.inr (Int32.not_lt.mp (fun y => h ⟨z, y⟩))
      · exact Or.inl (Int32.not_le.mp z))) (ct_X11_keep_no rfl h)
theorem rc_crs2 {S T : am_S} {n nw nw2 : Nat} (h : ∀ o k, ¬ scr o k → ¬ xCrs o k → o ≠ 54 → gI T o k = gI S o k) (hr : ∀ c, gR T c = gR S c) (R : RC S n nw) (gCrs : rCrs T n nw2) : RC T n nw2 := by
  obtain ⟨r1, r2, r3, r4, r5, r6, r7, r8, r9, r10, r11⟩ := R
  refine ⟨rPpl_c (fun o k z => h o k ?_ ?_ ?_) r1, rNer_c (fun k => h 102 k ?_ ?_ ?_) r2, rFog_c (fun o k z => h o k ?_ ?_ ?_) r3, rBem_c (fun o k z => h o k ?_ ?_ ?_) r4, gCrs, rKpt_c (fun o k z => h o k ?_ ?_ ?_) (fun c _ => hr c) r6, rFrm_c (fun o k z => h o k ?_ ?_ ?_) r7, rPay_c (fun o k z => h o k ?_ ?_ ?_) r8, rIdl_c (fun o k z => h o k ?_ ?_ ?_) r9, rTxt_c (fun o k z => h o k ?_ ?_ ?_) r10, rRef_c (fun c _ => hr c) r11⟩
  · unfold xPpl at z; unfold scr; omega
  · unfold xPpl at z; unfold xCrs; omega
  · unfold xPpl at z; omega
  · unfold scr; omega
  · unfold xCrs; omega
  · omega
  · unfold xFog at z; unfold scr; omega
  · unfold xFog at z; unfold xCrs; omega
  · unfold xFog at z; omega
  · unfold xBem at z; unfold scr; omega
  · unfold xBem at z; unfold xCrs; omega
  · unfold xBem at z; omega
  · unfold xKpt at z; unfold scr; omega
  · unfold xKpt at z; unfold xCrs; omega
  · unfold xKpt at z; omega
  · unfold xFrm at z; unfold scr; omega
  · unfold xFrm at z; unfold xCrs; omega
  · unfold xFrm at z; omega
  · unfold xPay at z; unfold scr; omega
  · unfold xPay at z; unfold xCrs; omega
  · unfold xPay at z; omega
  · unfold xIdl at z; unfold scr; omega
  · unfold xIdl at z; unfold xCrs; omega
  · unfold xIdl at z; omega
  · unfold xTxt at z; unfold scr; omega
  · unfold xTxt at z; unfold xCrs; omega
  · unfold xTxt at z; omega
theorem jn_again {d : Nat} {S : am_S} (R : RM S) (i : Int32) : Jn (d + 700) iX10_again [.ref 0, .int i] iX11_again [.ref 97, .int i] S := by
  have R0 := R
  obtain ⟨n, nw, c, tl⟩ := R
  have h6 := rc_n6 c
  by_cases h : 0 ≤ i ∧ i < 3
  · obtain ⟨i, hi, rfl⟩ : ∃ k, k < 3 ∧ i = nI k := ⟨i.toNatClampNeg, cl_lt (n := 3) h.1 h.2 (by decide), nI_cl h.1⟩
    have ei : (nI i).toNatClampNeg = i := nI_clamp (by omega)
    obtain ⟨k1, k2, k3⟩ := c.2.2.2.2.2.1
    obtain ⟨f1, f2⟩ := k3 i hi
    have t125 : gI (uI S 97 0 0) 125 i = gI S 125 i := gI_un (by omega)
    have t126 : gI (uI S 97 0 0) 126 i = gI S 126 i := gI_un (by omega)
    rcases f2 with ⟨f2, f3⟩ | ⟨r, f2, nk, wk, g1, g2, g3, g4, g5, g6, g7, g8, g9, g10, g11⟩
    · exact jn_no R0 (ct_X10_again_none hi f2) (ct_X11_again_no rfl (fun z => by
        have := z.2.2.1
        rw [ei, t125] at this
        exact this f3))
    · by_cases e : nk = n
      · subst e
        have A : am_CT (d + 700) _ _ _ _ _ := ct_X10_again_ok hi f2 (show r < gR S 0 by omega) (by rw [g8, rc_n1 c])
        have cn : ∀ o k, (o < 54 ∨ 59 < o) → gI (cpyC S 54 (131 + 6 * r)) o k = gI S o k := fun o k ho => by rw [cpyC_ne (by omega)]
        have cR : ∀ x, gR (cpyC S 54 (131 + 6 * r)) x = gR S x := fun x => rfl
        have cJ : ∀ o k, gJ (cpyC S 54 (131 + 6 * r)) o k = gJ S o k := fun o k => rfl
        have c0 : ∀ k, k < 3 → gI (cpyC S 54 (131 + 6 * r)) 54 k = gI S (131 + 6 * r) k := fun k hk => cpyC_0 (by omega)
        have c1 : ∀ m, m < 200 → gI (cpyC S 54 (131 + 6 * r)) 55 m = gI S (131 + 6 * r + 1) m := fun m hm => cpyC_1 (o := 54) hm
        have c2 : ∀ k m, k < 4 → m < 1200 → gI (cpyC S 54 (131 + 6 * r)) (56 + k) m = gI S (131 + 6 * r + 2 + k) m := fun k m hk hm => cpyC_2 (o := 54) hk hm
        generalize cpyC S 54 (131 + 6 * r) = C at A cn cR cJ c0 c1 c2
        have q : ∀ o k, o ≠ 97 → (o < 54 ∨ 59 < o) → gI (uI C 97 0 0) o k = gI S o k := fun o k h1 h2 => by rw [gI_un (fun z _ => h1 z), cn o k h2]
        have B : am_CE (d + 700) _ _ _ _ _ := ct_X11_again_ok (S := C) rfl hi (by rw [q 125 i (by decide) (by decide)]; exact g1) (by rw [q 126 i (by decide) (by decide), th_z3, cn 97 3 (by decide), g9, rc_n2 c])
        refine jn_TE A B (fun U hU => ?_)
        obtain ⟨u1, u2, u3, u4, u5⟩ := hU
        have l : ∀ o k, o ≠ 97 → o ≠ 109 → o ≠ 110 → gI U o k = gI C o k := fun o k h1 h2 h3 => by rw [u1 o h2 h3, gI_un (fun z _ => h1 z), gI_un (fun z _ => h1 z), gI_un (fun z _ => h1 z), gI_un (fun z _ => h1 z)]
        have l97 : ∀ k, k ≠ 0 → k ≠ 9 → k ≠ 23 → k ≠ 24 → gI U 97 k = gI S 97 k := fun k h0 h1 h2 h3 => by rw [u1 97 (by decide) (by decide), gI_un (fun _ z => h3 z), gI_un (fun _ z => h1 z), gI_un (fun _ z => h2 z), gI_un (fun _ z => h0 z), cn 97 k (by decide)]
        refine ⟨nk, wk, rc_crs2 (S := S) (fun o k hs hx h54 => ?_) (fun x => ?_) c ⟨g3, ?_, ?_, ?_, ?_, fun m hm => ?_, fun k p m hk hp => ⟨fun x y => ?_, fun x y => ?_⟩⟩, rTld_c (S := S) ?_ ?_ (fun j => ?_) (fun j => ?_) tl⟩
        · unfold xCrs at hx
          unfold scr at hs
          by_cases z : o = 97
          · subst z
            exact l97 k (by omega) (by omega) (by omega) (by omega)
          · rw [l o k z (by omega) (by omega), cn o k (by omega)]
        · rw [u3]
          exact cR x
        · rw [l 54 0 (by decide) (by decide) (by decide), c0 0 (by decide), g4]
        · rw [u1 97 (by decide) (by decide), gI_un (by omega), gI_un (by omega), gI_at, q 127 i (by decide) (by decide), g5]
        · rw [l 54 1 (by decide) (by decide) (by decide), c0 1 (by decide), u1 97 (by decide) (by decide), gI_un (by omega), gI_at, q 128 i (by decide) (by decide), g6]
        · rw [l 54 2 (by decide) (by decide) (by decide), c0 2 (by decide), u1 97 (by decide) (by decide), gI_at, q 129 i (by decide) (by decide), g7]
        · rw [l 55 m (by decide) (by decide) (by decide), c1 m (by omega), u5, if_pos (by omega), q 124 _ (by decide) (by decide)]
          exact g10 m hm
        · have := gAt_lt hk hp (show m < 200 by omega)
          rw [l (56 + k) _ (by omega) (by omega) (by omega), c2 k _ hk (by omega), u4, if_pos (by omega), q 124 _ (by decide) (by decide)]
          exact (g11 k p m hk hp).1 x y
        · have := gAt_lt hk hp y
          rw [l (56 + k) _ (by omega) (by omega) (by omega), c2 k _ hk (by omega), u4, if_pos (by omega), q 124 _ (by decide) (by decide)]
          exact (g11 k p m hk hp).2 x y
        · rw [l 74 1 (by decide) (by decide) (by decide), cn 74 1 (by decide)]
        · exact l97 1 (by decide) (by decide) (by decide) (by decide)
        · rw [u2]
          exact cJ 75 j
        · rw [u2]
          exact cJ 98 j
      · have ne : ¬ nI nk = nI n := fun z => e (nI_inj (by omega) (by omega) z)
        refine jn_no R0 (ct_X10_again_few hi f2 (show r < gR S 0 by omega) (by rw [g8, rc_n1 c]; exact ne)) (ct_X11_again_no rfl (fun z => ?_))
        have := z.2.2.2
        rw [ei, t126, th_z3, g9, rc_n2 c] at this
        exact ne this
  · exact jn_no R0 (ct_X10_again_no (by
      by_cases z : 0 ≤ i
      · exact Or.inr (Int32.not_lt.mp (fun y => h ⟨z, y⟩))
      · exact Or.inl (Int32.not_le.mp z))) (ct_X11_again_no rfl (fun z => h ⟨z.1, z.2.1⟩))
