/-! The best rules for both; by turns. -/
def FrM (S T : am_S) : Prop := (∀ o, (o < 92 ∨ 95 < o) → gI T o = gI S o) ∧ (∀ o, gJ T o = gJ S o) ∧ (∀ c, gR T c = gR S c)
theorem frM_0 {S : am_S} : FrM S S := ⟨fun _ _ => rfl, fun _ => rfl, fun _ => rfl⟩
theorem frM_uI {S T : am_S} {o k : Nat} {x : Int32} (h : FrM S T) (ho : 92 ≤ o ∧ o ≤ 95) : FrM S (uI T o k x) := ⟨fun a ha => by rw [gI_uI_ne (by omega), h.1 a ha], fun a => by rw [gJ_uI_f, h.2.1 a], fun c => by rw [gR_uI, h.2.2]⟩
theorem frM_rI {S T : am_S} {o : Nat} {g : Nat → Int32} (h : FrM S T) (ho : 92 ≤ o ∧ o ≤ 95) : FrM S (rI T o g) := ⟨fun a ha => by rw [gI_rI_ne (by omega), h.1 a ha], fun a => by rw [gJ_rI_f, h.2.1 a], fun c => by rw [gR_rI, h.2.2]⟩
theorem frM_t {S T U : am_S} (h : FrM S T) (h2 : FrM T U) : FrM S U := ⟨fun a ha => by rw [h2.1 a ha, h.1 a ha], fun a => by rw [h2.2.1 a, h.2.1 a], fun c => by rw [h2.2.2, h.2.2]⟩
theorem mw_fr {m : Pay} {S T : am_S} (h : FrM S T) (hM : MW m S) : MW m T := fun i j a b hi hj ha hb => by rw [h.1 87 (by decide), h.1 91 (by decide)]; exact hM i j a b hi hj ha hb
theorem mw_rI {m : Pay} {S : am_S} {c : Nat} {g : Nat → Int32} (hM : MW m S) (hc : c = 92 ∨ c = 93) : MW m (rI S c g) := fun i j a b hi hj ha hb => by rw [gI_rI_ne (by omega), gI_rI_ne (by omega)]; exact hM i j a b hi hj ha hb
theorem rw_rI {S : am_S} {c e : Nat} {g : Nat → Int32} {x : Nat → Nat} (h : RW S c x) (hne : c ≠ e) : RW (rI S e g) c x := fun i hi => by rw [gI_rI_ne hne]; exact h i hi
theorem okZ_of {z : Int} (h : -3000000000000 ≤ z ∧ z ≤ 3000000000000) : okZ z := by unfold okZ; omega
theorem br1_ok {m : Pay} {y : Nat → Nat} (hB : Bd m) (hy : ∀ i, i < 3 → y i < 3) {s t : Nat} (hs : s < 3) (ht : t < 3) : -660000000000 ≤ br1 m y s t ∧ br1 m y s t ≤ 660000000000 := by
  have a := hB s 0 t (y 0) hs (by omega) ht (hy 0 (by omega))
  have b := hB s 1 t (y 1) hs (by omega) ht (hy 1 (by omega))
  have c := hB s 2 t (y 2) hs (by omega) ht (hy 2 (by omega))
  simp only [br1, sumZ]
  omega
theorem br2_ok {m : Pay} {x : Nat → Nat} (hB : Bd m) (hx : ∀ i, i < 3 → x i < 3) {s t : Nat} (hs : s < 3) (ht : t < 3) : -660000000000 ≤ br2 m x s t ∧ br2 m x s t ≤ 660000000000 := by
  have a := hB 0 s (x 0) t (by omega) hs (hx 0 (by omega)) ht
  have b := hB 1 s (x 1) t (by omega) hs (hx 1 (by omega)) ht
  have c := hB 2 s (x 2) t (by omega) hs (hx 2 (by omega)) ht
  simp only [br2, sumZ]
  omega
theorem sm_e1 (m : Pay) (x y : Nat → Nat) : smZ m x y = br1 m y 0 (x 0) + br1 m y 1 (x 1) + br1 m y 2 (x 2) := by
  simp only [smZ, br1, sumZ]
  omega
theorem sm_e2 (m : Pay) (x y : Nat → Nat) : smZ m x y = br2 m x 0 (y 0) + br2 m x 1 (y 1) + br2 m x 2 (y 2) := by
  simp only [smZ, br2, sumZ]
  omega
theorem sm_ok {m : Pay} {x y : Nat → Nat} (hB : Bd m) (hx : ∀ i, i < 3 → x i < 3) (hy : ∀ i, i < 3 → y i < 3) : okZ (smZ m x y) := by
  have a := br1_ok hB hy (s := 0) (by omega) (hx 0 (by omega))
  have b := br1_ok hB hy (s := 1) (by omega) (hx 1 (by omega))
  have c := br1_ok hB hy (s := 2) (by omega) (hx 2 (by omega))
  rw [sm_e1]
  refine okZ_of ?_
  omega
def ru (k i : Nat) : Nat := if i = 0 then k / 9 else if i = 1 then k / 3 % 3 else k % 3
theorem ru_lt {k : Nat} (h : k < 27) : ∀ i, i < 3 → ru k i < 3 := fun i _ => by
  unfold ru
  split
  · omega
  · split <;> omega
def bo (m : Pay) (k j : Nat) : Nat := bth (br2 m (ru k) j) 0
theorem bo_lt {m : Pay} {k : Nat} : ∀ j, j < 3 → bo m k j < 3 := fun j _ => bth_lt _ (by omega)
def pbv (m : Pay) (k : Nat) : Int := smZ m (ru k) (bo m k)
theorem pbv_ok {m : Pay} (hB : Bd m) {k : Nat} (h : k < 27) : okZ (pbv m k) := sm_ok hB (ru_lt h) bo_lt
def pbI (m : Pay) : Nat → Nat
  | 0 => 0
  | n + 1 => if pbv m (pbI m n) < pbv m (n + 1) then n + 1 else pbI m n
theorem pbI_le (m : Pay) : ∀ n, pbI m n ≤ n
  | 0 => Nat.le_refl _
  | n + 1 => by
    unfold pbI
    have := pbI_le m n
    split <;> omega
def mst (m : Pay) (r : Nat) : Int := if r = 0 then 0 else pbv m (pbI m (r - 1))
theorem ct_X3_playBest {d : Nat} {S : am_S} {m : Pay} (hM : MW m S) (hB : Bd m) : am_CE (d + 4) iX3_playBest [.ref 86] S (some (.long (iJ (pbv m (pbI m 26))))) (fun T => FrM S T ∧ ∀ a, a < 3 → gI T 94 a = nI (ru (pbI m 26) a) ∧ gI T 95 a = nI (bo m (pbI m 26) a)) := by
  refine am_CE_in mmX3_playBest rfl rfl rfl ?_
  have loop : ∀ (k : Nat) (r : Nat) (T : am_S) (v4 : Option Value) (v5 : Option Value), (r ≤ 27) → (27 < r + k) → (FrM S T) → (1 ≤ r → ∀ a, a < 3 → gI T 94 a = nI (ru (pbI m (r - 1)) a) ∧ gI T 95 a = nI (bo m (pbI m (r - 1)) a)) → am_Ex (am_Call am_MT (d + 3)) mmX3_playBest none (fun r1 G1 => r1 = (some (.long (iJ (pbv m (pbI m 26))))) ∧ ∃ S2, G1 = am_H S2 ∧ (fun T => FrM S T ∧ ∀ a, a < 3 → gI T 94 a = nI (ru (pbI m 26) a) ∧ gI T 95 a = nI (bo m (pbI m 26) a)) S2) (fun _ _ _ _ _ _ => False) 4 [some (.ref 86), some (.long (iJ (mst m r))), none, some (.int (nI r)), v4, v5] [] (am_H (T)) 0 0 := by
    intro k
    induction k with
    | zero =>
      intro r T v4 v5 q1 q2 f1 f2
      omega
    | succ k ih =>
      intro r T v4 v5 q1 q2 f1 f2
      have d9 : nI r / 9 = nI (r / 9) := pk_div (d := 9) (by omega) (by decide) (by decide)
      have d3 : nI r / 3 = nI (r / 3) := pk_div (d := 3) (by omega) (by decide) (by decide)
      have m3 : nI r - nI r / 3 * 3 = nI (r % 3) := pk_rem (d := 3) (by omega) (by decide) (by decide)
      have m33 : nI (r / 3) - nI (r / 3) / 3 * 3 = nI (r / 3 % 3) := pk_rem (d := 3) (by omega) (by decide) (by decide)
      have loop2 : ∀ (k2 : Nat) (j : Nat) (U : am_S) (v5 : Option Value), (r < 27) → (j ≤ 3) → (3 < j + k2) → (FrM S U) → (RW U 92 (ru r)) → (∀ a, a < j → gI U 93 a = nI (bo m r a)) → (1 ≤ r → ∀ a, a < 3 → gI U 94 a = nI (ru (pbI m (r - 1)) a) ∧ gI U 95 a = nI (bo m (pbI m (r - 1)) a)) → am_Ex (am_Call am_MT (d + 3)) mmX3_playBest none (fun r1 G1 => r1 = (some (.long (iJ (pbv m (pbI m 26))))) ∧ ∃ S2, G1 = am_H S2 ∧ (fun T => FrM S T ∧ ∀ a, a < 3 → gI T 94 a = nI (ru (pbI m 26) a) ∧ gI T 95 a = nI (bo m (pbI m 26) a)) S2) (fun _ _ _ _ _ _ => False) 43 [some (.ref 86), some (.long (iJ (mst m r))), none, some (.int (nI r)), some (.int (nI j)), v5] [] (am_H (U)) 0 0 := by
        intro k2
        induction k2 with
        | zero =>
          intro j U v5 q0 p1 p2 g1 g2 g3 g4
          omega
        | succ k2 ih2 =>
          intro j U v5 q0 p1 p2 g1 g2 g3 g4
          have bj : (nI j).toNatClampNeg = j := nI_clamp (by omega)
          have s1 : 0 ≤ nI j := nI_pos' (by omega)
          have hbr : j < 3 → ∀ {d : Nat} t, t < 3 → am_CT (d + 2) iX3_brings [.ref 86, .int 0, .int (nI j), .int (nI t)] U (some (.long (iJ (br2 m (ru r) j t)))) U := fun hj {d} t ht => ct_X3_brings_other (mw_fr g1 hM) g2 hj ht
          have mx : 1 ≤ r → mst m r = pbv m (pbI m (r - 1)) := fun h => if_neg (by omega)
          have mn : mst m (r + 1) = pbv m (pbI m r) := if_neg (by omega)
          have pn : 1 ≤ r → pbI m r = if pbv m (pbI m (r - 1)) < pbv m r then r else pbI m (r - 1) := fun h => by
            obtain ⟨i, rfl⟩ : ∃ i, r = i + 1 := ⟨r - 1, by omega⟩
            rfl
          have po := pbv_ok hB q0
          have pq : 1 ≤ r → okZ (pbv m (pbI m (r - 1))) := fun h => pbv_ok hB (by have := pbI_le m (r - 1); omega)
          have cl3 : (3 : Int32).toNatClampNeg = 3 := by decide
          have fin : j = 3 → pbI m r = r → ∀ a, a < 3 → gI (rI (rI U 94 (va_cpy (gI U 92) (gI U 94) (0 : Int32).toNatClampNeg (0 : Int32).toNatClampNeg (3 : Int32).toNatClampNeg)) 95 (va_cpy (gI (rI U 94 (va_cpy (gI U 92) (gI U 94) (0 : Int32).toNatClampNeg (0 : Int32).toNatClampNeg (3 : Int32).toNatClampNeg)) 93) (gI (rI U 94 (va_cpy (gI U 92) (gI U 94) (0 : Int32).toNatClampNeg (0 : Int32).toNatClampNeg (3 : Int32).toNatClampNeg)) 95) (0 : Int32).toNatClampNeg (0 : Int32).toNatClampNeg (3 : Int32).toNatClampNeg)) 94 a = nI (ru (pbI m r) a) ∧ gI (rI (rI U 94 (va_cpy (gI U 92) (gI U 94) (0 : Int32).toNatClampNeg (0 : Int32).toNatClampNeg (3 : Int32).toNatClampNeg)) 95 (va_cpy (gI (rI U 94 (va_cpy (gI U 92) (gI U 94) (0 : Int32).toNatClampNeg (0 : Int32).toNatClampNeg (3 : Int32).toNatClampNeg)) 93) (gI (rI U 94 (va_cpy (gI U 92) (gI U 94) (0 : Int32).toNatClampNeg (0 : Int32).toNatClampNeg (3 : Int32).toNatClampNeg)) 95) (0 : Int32).toNatClampNeg (0 : Int32).toNatClampNeg (3 : Int32).toNatClampNeg)) 95 a = nI (bo m (pbI m r) a) := fun hj hp a ha => by
            rw [gI_rI_ne (by decide), gI_rI_eq, gI_rI_eq, gI_rI_ne (by decide), cl3, show (0 : Int32).toNatClampNeg = 0 from rfl, pk_cpy_in (by omega) (by omega), pk_cpy_in (by omega) (by omega), hp, show 0 + (a - 0) = a by omega, (g2 a ha).1, g3 a (by omega)]
            exact ⟨rfl, rfl⟩
          refine r_iload rfl rfl ?_
          refine r_iconst rfl ?_
          refine r_icmp_ge rfl (fun h46 => ?_) (fun h46 => ?_)
          · have hj : j = 3 := by
              rw [show (3 : Int32) = nI 3 from rfl, nI_leI (by omega) (by omega)] at h46
              omega
            have hy : RW U 93 (bo m r) := fun a ha => ⟨g3 a (by omega), bo_lt a ha⟩
            refine r_aload_n rfl rfl ?_
            refine r_callV rfl (ct_X3_sum (mw_fr g1 hM) g2 hy) rfl rfl rfl (by decide) rfl (am_cnt rfl) ?_
            refine r_lstore (L2 := [_, _, _, _, _, _]) rfl rfl ?_
            refine r_iload_n rfl rfl ?_
            refine r_if_eq rfl (fun h77 => ?_) (fun h77 => ?_)
            · have hr : r = 0 := nI_inj (b := 0) (by omega) (by omega) h77
              have hp : pbI m r = r := by rw [hr]; rfl
              refine r_lload rfl rfl ?_
              refine r_lstore_n (L2 := [_, _, _, _, _, _]) rfl rfl ?_
              refine r_aload_n rfl rfl ?_
              refine r_getC rfl rfl (by decide) (by decide) rfl ?_
              refine r_iconst rfl ?_
              refine r_aload_n rfl rfl ?_
              refine r_getC rfl rfl (by decide) (by decide) rfl ?_
              refine r_iconst rfl ?_
              refine r_iconst rfl ?_
              refine r_copyI rfl (am_cnt rfl) rfl rfl (by decide) (by decide) (by decide) (by decide) (by decide) ?_
              refine r_aload_n rfl rfl ?_
              refine r_getC rfl rfl (by decide) (by decide) rfl ?_
              refine r_iconst rfl ?_
              refine r_aload_n rfl rfl ?_
              refine r_getC rfl rfl (by decide) (by decide) rfl ?_
              refine r_iconst rfl ?_
              refine r_iconst rfl ?_
              refine r_copyI rfl (am_cnt rfl) rfl rfl (by decide) (by decide) (by decide) (by decide) (by decide) ?_
              refine r_iinc (L2 := [_, _, _, _, _, _]) rfl rfl rfl ?_
              refine r_goto rfl ?_
              rw [nI_1]
              first
                | (have e := ih (r + 1) _ (some (.long (iJ (pbv m r)))) none (by omega) (by omega) (frM_rI (frM_rI g1 (by decide)) (by decide)) (fun _ => fin hj hp)
                   rw [mn, hp] at e
                   exact e)
                | (have e := ih (r + 1) U (some (.long (iJ (pbv m r)))) none (by omega) (by omega) g1 (fun _ => by rw [show r + 1 - 1 = r by omega, hp]; exact g4 hr)
                   rw [mn, hp, ← mx hr] at e
                   exact e)
            · have hr : 1 ≤ r := by
                apply Decidable.byContradiction
                intro z
                exact h77 (by rw [show r = 0 by omega]; rfl)
              refine r_lload rfl rfl ?_
              refine r_lload_n rfl rfl ?_
              refine r_lcmp rfl ?_
              refine r_if_le rfl (fun h84 => ?_) (fun h84 => ?_)
              · rw [mx hr, lc_le, show smZ m (ru r) (bo m r) = pbv m r from rfl, iJ_le po (pq hr)] at h84
                have h84b : ¬ pbv m (pbI m (r - 1)) < pbv m r := Int.not_lt.mpr h84
                have hp := pn hr
                rw [if_neg h84b] at hp
                refine r_iinc (L2 := [_, _, _, _, _, _]) rfl rfl rfl ?_
                refine r_goto rfl ?_
                rw [nI_1]
                first
                  | (have e := ih (r + 1) _ (some (.long (iJ (pbv m r)))) none (by omega) (by omega) (frM_rI (frM_rI g1 (by decide)) (by decide)) (fun _ => fin hj hp)
                     rw [mn, hp] at e
                     exact e)
                  | (have e := ih (r + 1) U (some (.long (iJ (pbv m r)))) none (by omega) (by omega) g1 (fun _ => by rw [show r + 1 - 1 = r by omega, hp]; exact g4 hr)
                     rw [mn, hp, ← mx hr] at e
                     exact e)
              · rw [mx hr, lc_le, show smZ m (ru r) (bo m r) = pbv m r from rfl, iJ_le po (pq hr)] at h84
                have h84b : pbv m (pbI m (r - 1)) < pbv m r := Int.not_le.mp h84
                have hp := pn hr
                rw [if_pos h84b] at hp
                refine r_lload rfl rfl ?_
                refine r_lstore_n (L2 := [_, _, _, _, _, _]) rfl rfl ?_
                refine r_aload_n rfl rfl ?_
                refine r_getC rfl rfl (by decide) (by decide) rfl ?_
                refine r_iconst rfl ?_
                refine r_aload_n rfl rfl ?_
                refine r_getC rfl rfl (by decide) (by decide) rfl ?_
                refine r_iconst rfl ?_
                refine r_iconst rfl ?_
                refine r_copyI rfl (am_cnt rfl) rfl rfl (by decide) (by decide) (by decide) (by decide) (by decide) ?_
                refine r_aload_n rfl rfl ?_
                refine r_getC rfl rfl (by decide) (by decide) rfl ?_
                refine r_iconst rfl ?_
                refine r_aload_n rfl rfl ?_
                refine r_getC rfl rfl (by decide) (by decide) rfl ?_
                refine r_iconst rfl ?_
                refine r_iconst rfl ?_
                refine r_copyI rfl (am_cnt rfl) rfl rfl (by decide) (by decide) (by decide) (by decide) (by decide) ?_
                refine r_iinc (L2 := [_, _, _, _, _, _]) rfl rfl rfl ?_
                refine r_goto rfl ?_
                rw [nI_1]
                first
                  | (have e := ih (r + 1) _ (some (.long (iJ (pbv m r)))) none (by omega) (by omega) (frM_rI (frM_rI g1 (by decide)) (by decide)) (fun _ => fin hj hp)
                     rw [mn, hp] at e
                     exact e)
                  | (have e := ih (r + 1) U (some (.long (iJ (pbv m r)))) none (by omega) (by omega) g1 (fun _ => by rw [show r + 1 - 1 = r by omega, hp]; exact g4 hr)
                     rw [mn, hp, ← mx hr] at e
                     exact e)
          · have hj : j < 3 := by
              rw [show (3 : Int32) = nI 3 from rfl, nI_leI (by omega) (by omega)] at h46
              omega
            have s2 : nI j < Int32.ofNat 3 := nI_lt (by omega) (by omega)
            refine r_aload_n rfl rfl ?_
            refine r_getC rfl rfl (by decide) (by decide) rfl ?_
            refine r_iload rfl rfl ?_
            refine r_aload_n rfl rfl ?_
            refine r_iconst rfl ?_
            refine r_iload rfl rfl ?_
            refine r_iconst rfl ?_
            refine r_callV rfl (ct_X3_bestThing (a := 0) (hbr hj) (fun t ht => okZ_of (by have := br2_ok hB (fun i hi => (g2 i hi).2) hj ht; omega)) (by omega)) rfl rfl rfl (by decide) rfl (am_cnt rfl) ?_
            refine r_iast rfl rfl (by first | decide | assumption) (by first | exact s1 | exact s2) (by first | exact s1 | exact s2) ?_
            refine r_iinc (L2 := [_, _, _, _, _, _]) rfl rfl rfl ?_
            refine r_goto rfl ?_
            rw [bj, nI_1]
            refine ih2 (j + 1) _ _ q0 (by omega) (by omega) (frM_uI g1 (by decide)) (fun a ha => by rw [gI_uI_ne (by decide)]; exact g2 a ha) (fun a ha => ?_) (fun h a ha => by rw [gI_uI_ne (by decide), gI_uI_ne (by decide)]; exact g4 h a ha)
            rw [gI_uI, if_pos rfl]
            by_cases haj : a = j
            · rw [if_pos haj, haj]
              rfl
            · rw [if_neg haj]
              exact g3 a (by omega)
      refine r_iload_n rfl rfl ?_
      refine r_bipush rfl ?_
      refine r_icmp_ge rfl (fun h7 => ?_) (fun h7 => ?_)
      · have hr : r = 27 := by
          rw [show (27 : Int32) = nI 27 from rfl, nI_leI (by omega) (by omega)] at h7
          omega
        subst hr
        refine r_lload_n rfl rfl ?_
        refine r_lret rfl ?_
        exact ⟨rfl, _, rfl, f1, f2 (by omega)⟩
      · have hr : r < 27 := by
          rw [show (27 : Int32) = nI 27 from rfl, nI_leI (by omega) (by omega)] at h7
          omega
        refine r_aload_n rfl rfl ?_
        refine r_getC rfl rfl (by decide) (by decide) rfl ?_
        refine r_iconst rfl ?_
        refine r_iload_n rfl rfl ?_
        refine r_bipush rfl ?_
        refine r_idiv rfl (by decide) ?_
        rw [d9]
        refine r_iast rfl rfl (by first | decide | assumption) (by decide) (by decide) ?_
        refine r_aload_n rfl rfl ?_
        refine r_getC rfl rfl (by decide) (by decide) rfl ?_
        refine r_iconst rfl ?_
        refine r_iload_n rfl rfl ?_
        refine r_iconst rfl ?_
        refine r_idiv rfl (by decide) ?_
        rw [d3]
        refine r_iconst rfl ?_
        refine r_irem rfl (by decide) ?_
        rw [m33]
        refine r_iast rfl rfl (by first | decide | assumption) (by decide) (by decide) ?_
        refine r_aload_n rfl rfl ?_
        refine r_getC rfl rfl (by decide) (by decide) rfl ?_
        refine r_iconst rfl ?_
        refine r_iload_n rfl rfl ?_
        refine r_iconst rfl ?_
        refine r_irem rfl (by decide) ?_
        rw [m3]
        refine r_iast rfl rfl (by first | decide | assumption) (by decide) (by decide) ?_
        refine r_iconst rfl ?_
        refine r_istore (L2 := [_, _, _, _, _, _]) rfl rfl ?_
        refine loop2 4 0 _ v5 hr (by omega) (by omega) (frM_uI (frM_uI (frM_uI f1 (by decide)) (by decide)) (by decide)) (fun a ha => ⟨?_, ru_lt hr a ha⟩) (fun a ha => by omega) (fun h a ha => by rw [gI_uI_ne (by decide), gI_uI_ne (by decide), gI_uI_ne (by decide), gI_uI_ne (by decide), gI_uI_ne (by decide), gI_uI_ne (by decide)]; exact f2 h a ha)
        match a, ha with
        | 0, _ => rfl
        | 1, _ => rfl
        | 2, _ => rfl
  refine r_lconst rfl ?_
  refine r_lstore_n (L2 := [_, _, _, _, _, _]) rfl rfl ?_
  refine r_iconst rfl ?_
  refine r_istore_n (L2 := [_, _, _, _, _, _]) rfl rfl ?_
  exact loop 28 0 S none none (by omega) (by omega) frM_0 (fun h => by omega)
