/-! Rules tried out by the reference. -/
def FrT (S T : am_S) : Prop := (∀ o, o ≠ 97 → o ≠ 106 → o ≠ 108 → o ≠ 109 → o ≠ 110 → o ≠ 111 → o ≠ 112 → o ≠ 113 → gI T o = gI S o) ∧ (∀ k, k ≠ 30 → k ≠ 31 → k ≠ 32 → gI T 97 k = gI S 97 k) ∧ (∀ a, a < 201 → gI T 109 a = gI S 109 a) ∧ (∀ a, a < 4800 → gI T 110 a = gI S 110 a) ∧ (∀ a, gI T 111 a = gI S 111 a) ∧ (∀ o, gJ T o = gJ S o) ∧ ∀ c, gR T c = gR S c
theorem frT_0 {S : am_S} : FrT S S := ⟨fun _ _ _ _ _ _ _ _ _ => rfl, fun _ _ _ _ => rfl, fun _ _ => rfl, fun _ _ => rfl, fun _ => rfl, fun _ => rfl, fun _ => rfl⟩
theorem frT_t {S T U : am_S} (h : FrT S T) (h2 : FrT T U) : FrT S U := ⟨fun o a b c e f g i j => by rw [h2.1 o a b c e f g i j, h.1 o a b c e f g i j], fun k a b c => by rw [h2.2.1 k a b c, h.2.1 k a b c], fun a ha => by rw [h2.2.2.1 a ha, h.2.2.1 a ha], fun a ha => by rw [h2.2.2.2.1 a ha, h.2.2.2.1 a ha], fun a => by rw [h2.2.2.2.2.1 a, h.2.2.2.2.1 a], fun o => by rw [h2.2.2.2.2.2.1 o, h.2.2.2.2.2.1 o], fun c => by rw [h2.2.2.2.2.2.2 c, h.2.2.2.2.2.2 c]⟩
theorem frT_cfg {S T : am_S} {n nw : Nat} {lt st th dg : Nat → Nat} {fs : Nat → Nat → Int32} {fz : Nat → Nat} (h : FrT S T) (hC : MCfg S n nw lt st th dg fs fz) : MCfg T n nw lt st th dg fs fz := mcfg_fr hC ⟨h.2.1 3 (by decide) (by decide) (by decide), h.2.1 23 (by decide) (by decide) (by decide)⟩ (fun o ho => by
  by_cases h111 : o = 111
  · rw [h111]; exact funext h.2.2.2.2.1
  · exact h.1 o (by omega) (by omega) (by omega) (by omega) (by omega) (by omega) (by omega) (by omega))
theorem ct_X11_putsBy {d : Nat} {S : am_S} : am_CE (d + 1) iX11_putsBy [.ref 97] S (none) (fun T => (∀ o, o ≠ 97 → o ≠ 112 → o ≠ 113 → gI T o = gI S o) ∧ (∀ k, k ≠ 30 → k ≠ 31 → gI T 97 k = gI S 97 k) ∧ (∀ o, gJ T o = gJ S o) ∧ (∀ c, gR T c = gR S c) ∧ (∀ a, a < 4800 → gI T 112 a = gI S 110 a) ∧ (∀ a, a < 201 → gI T 113 a = gI S 109 a) ∧ gI T 97 30 = gI S 97 23 ∧ gI T 97 31 = gI S 97 24) := by
  refine am_CE_in mmX11_putsBy rfl rfl rfl ?_
  have loop2 : ∀ (k2 : Nat) (j : Nat) (T : am_S), (j ≤ 201) → (201 < j + k2) → ((∀ o, o ≠ 112 → o ≠ 113 → gI T o = gI S o) ∧ (∀ o, gJ T o = gJ S o) ∧ (∀ c, gR T c = gR S c)) → (∀ a, a < 4800 → gI T 112 a = gI S 110 a) → (∀ a, a < j → gI T 113 a = gI S 109 a) → am_Ex (am_Call am_MT (d + 0)) mmX11_putsBy none (fun r1 G1 => r1 = (none) ∧ ∃ S2, G1 = am_H S2 ∧ (fun T => (∀ o, o ≠ 97 → o ≠ 112 → o ≠ 113 → gI T o = gI S o) ∧ (∀ k, k ≠ 30 → k ≠ 31 → gI T 97 k = gI S 97 k) ∧ (∀ o, gJ T o = gJ S o) ∧ (∀ c, gR T c = gR S c) ∧ (∀ a, a < 4800 → gI T 112 a = gI S 110 a) ∧ (∀ a, a < 201 → gI T 113 a = gI S 109 a) ∧ gI T 97 30 = gI S 97 23 ∧ gI T 97 31 = gI S 97 24) S2) (fun _ _ _ _ _ _ => False) 31 [some (.ref 97), some (.int (nI j))] [] (am_H (T)) 0 0 := by
    intro k2
    induction k2 with
    | zero =>
      intro j T q1 q2 f1 f2 f3
      omega
    | succ k2 ih2 =>
      intro j T q1 q2 f1 f2 f3
      have b1 : (nI j).toNatClampNeg = j := nI_clamp (by omega)
      have s1 : 0 ≤ nI j := nI_pos' (by omega)
      have t97 : gI T 97 = gI S 97 := f1.1 97 (by decide) (by decide)
      refine r_iload_n rfl rfl ?_
      refine r_sipush rfl ?_
      refine r_icmp_gt rfl (fun h35 => ?_) (fun h35 => ?_)
      · have hj : j = 201 := by
          rw [show (200 : Int32) = nI 200 from rfl, nI_ltI (by omega) (by omega)] at h35
          omega
        refine r_aload_n rfl rfl ?_
        refine r_aload_n rfl rfl ?_
        refine r_getI rfl rfl (by decide) (by decide) rfl ?_
        refine r_putI rfl rfl (by decide) (by decide) rfl ?_
        refine r_aload_n rfl rfl ?_
        refine r_aload_n rfl rfl ?_
        refine r_getI rfl rfl (by decide) (by decide) rfl ?_
        refine r_putI rfl rfl (by decide) (by decide) rfl ?_
        refine r_vret rfl ?_
        refine ⟨rfl, _, rfl, fun o a b c => ?_, fun k a b => ?_, f1.2.1, f1.2.2, fun a ha => ?_, fun a ha => ?_, ?_, ?_⟩
        · rw [gI_uI_ne a, gI_uI_ne a, f1.1 o b c]
        · rw [gI_uI, if_pos rfl, if_neg b, gI_uI, if_pos rfl, if_neg a, t97]
        · rw [gI_uI_ne (by decide), gI_uI_ne (by decide), f2 a ha]
        · rw [gI_uI_ne (by decide), gI_uI_ne (by decide), f3 a (by omega)]
        · simp [gI_uI, t97]
        · simp [gI_uI, t97]
      · rw [show (200 : Int32) = nI 200 from rfl, nI_ltI (by omega) (by omega)] at h35
        have s2 : nI j < Int32.ofNat 201 := nI_lt (by omega) (by omega)
        refine r_aload_n rfl rfl ?_
        refine r_getC rfl rfl (by decide) (by decide) rfl ?_
        refine r_iload_n rfl rfl ?_
        refine r_aload_n rfl rfl ?_
        refine r_getC rfl rfl (by decide) (by decide) rfl ?_
        refine r_iload_n rfl rfl ?_
        refine r_iald rfl rfl (by first | decide | assumption) (by first | exact s1 | exact s2) (by first | exact s1 | exact s2) ?_
        refine r_iast rfl rfl (by first | decide | assumption) (by first | exact s1 | exact s2) (by first | exact s1 | exact s2) ?_
        refine r_iinc (L2 := [_, _]) rfl rfl rfl ?_
        refine r_goto rfl ?_
        rw [b1, nI_1]
        refine ih2 (j + 1) _ (by omega) (by omega) ⟨fun o a b => by rw [gI_uI_ne b, f1.1 o a b], f1.2.1, f1.2.2⟩ (fun a ha => by rw [gI_uI_ne (by decide), f2 a ha]) (fun a ha => ?_)
        rw [gI_uI, if_pos rfl]
        by_cases h : a = j
        · rw [if_pos h, f1.1 109 (by decide) (by decide), h]
        · rw [if_neg h, f3 a (by omega)]
  have loop : ∀ (k : Nat) (j : Nat) (T : am_S), (j ≤ 4800) → (4800 < j + k) → ((∀ o, o ≠ 112 → gI T o = gI S o) ∧ (∀ o, gJ T o = gJ S o) ∧ (∀ c, gR T c = gR S c)) → (∀ a, a < j → gI T 112 a = gI S 110 a) → am_Ex (am_Call am_MT (d + 0)) mmX11_putsBy none (fun r1 G1 => r1 = (none) ∧ ∃ S2, G1 = am_H S2 ∧ (fun T => (∀ o, o ≠ 97 → o ≠ 112 → o ≠ 113 → gI T o = gI S o) ∧ (∀ k, k ≠ 30 → k ≠ 31 → gI T 97 k = gI S 97 k) ∧ (∀ o, gJ T o = gJ S o) ∧ (∀ c, gR T c = gR S c) ∧ (∀ a, a < 4800 → gI T 112 a = gI S 110 a) ∧ (∀ a, a < 201 → gI T 113 a = gI S 109 a) ∧ gI T 97 30 = gI S 97 23 ∧ gI T 97 31 = gI S 97 24) S2) (fun _ _ _ _ _ _ => False) 2 [some (.ref 97), some (.int (nI j))] [] (am_H (T)) 0 0 := by
    intro k
    induction k with
    | zero =>
      intro j T q1 q2 f1 f2
      omega
    | succ k ih =>
      intro j T q1 q2 f1 f2
      have b1 : (nI j).toNatClampNeg = j := nI_clamp (by omega)
      have s1 : 0 ≤ nI j := nI_pos' (by omega)
      refine r_iload_n rfl rfl ?_
      refine r_aload_n rfl rfl ?_
      refine r_getC rfl rfl (by decide) (by decide) rfl ?_
      refine r_alen rfl rfl (by decide) ?_
      refine r_icmp_ge rfl (fun h8 => ?_) (fun h8 => ?_)
      · have hj : j = 4800 := by
          rw [show Int32.ofNat 4800 = nI 4800 from rfl, nI_leI (by omega) (by omega)] at h8
          omega
        refine r_iconst rfl ?_
        refine r_istore_n (L2 := [_, _]) rfl rfl ?_
        exact loop2 202 0 T (by omega) (by omega) ⟨fun o a _ => f1.1 o a, f1.2.1, f1.2.2⟩ (fun a ha => f2 a (by omega)) (fun a ha => by omega)
      · rw [show Int32.ofNat 4800 = nI 4800 from rfl, nI_leI (by omega) (by omega)] at h8
        have s2 : nI j < Int32.ofNat 4800 := nI_lt (by omega) (by omega)
        refine r_aload_n rfl rfl ?_
        refine r_getC rfl rfl (by decide) (by decide) rfl ?_
        refine r_iload_n rfl rfl ?_
        refine r_aload_n rfl rfl ?_
        refine r_getC rfl rfl (by decide) (by decide) rfl ?_
        refine r_iload_n rfl rfl ?_
        refine r_iald rfl rfl (by first | decide | assumption) (by first | exact s1 | exact s2) (by first | exact s1 | exact s2) ?_
        refine r_iast rfl rfl (by first | decide | assumption) (by first | exact s1 | exact s2) (by first | exact s1 | exact s2) ?_
        refine r_iinc (L2 := [_, _]) rfl rfl rfl ?_
        refine r_goto rfl ?_
        rw [b1, nI_1]
        refine ih (j + 1) _ (by omega) (by omega) ⟨fun o a => by rw [gI_uI_ne a, f1.1 o a], f1.2.1, f1.2.2⟩ (fun a ha => ?_)
        rw [gI_uI, if_pos rfl]
        by_cases h : a = j
        · rw [if_pos h, f1.1 110 (by decide), h]
        · rw [if_neg h, f2 a (by omega)]
  refine r_iconst rfl ?_
  refine r_istore_n (L2 := [_, _]) rfl rfl ?_
  exact loop 4801 0 S (by omega) (by omega) ⟨fun _ _ => rfl, fun _ => rfl, fun _ => rfl⟩ (fun a ha => by omega)
theorem ct_X11_takesBack {d : Nat} {S : am_S} : am_CE (d + 1) iX11_takesBack [.ref 97] S (none) (fun T => (∀ o, o ≠ 97 → o ≠ 109 → o ≠ 110 → gI T o = gI S o) ∧ (∀ k, k ≠ 23 → k ≠ 24 → gI T 97 k = gI S 97 k) ∧ (∀ o, gJ T o = gJ S o) ∧ (∀ c, gR T c = gR S c) ∧ (∀ a, a < 4800 → gI T 110 a = gI S 112 a) ∧ (∀ a, a < 201 → gI T 109 a = gI S 113 a) ∧ gI T 97 23 = gI S 97 30 ∧ gI T 97 24 = gI S 97 31) := by
  refine am_CE_in mmX11_takesBack rfl rfl rfl ?_
  have loop2 : ∀ (k2 : Nat) (j : Nat) (T : am_S), (j ≤ 201) → (201 < j + k2) → ((∀ o, o ≠ 109 → o ≠ 110 → gI T o = gI S o) ∧ (∀ o, gJ T o = gJ S o) ∧ (∀ c, gR T c = gR S c)) → (∀ a, a < 4800 → gI T 110 a = gI S 112 a) → (∀ a, a < j → gI T 109 a = gI S 113 a) → am_Ex (am_Call am_MT (d + 0)) mmX11_takesBack none (fun r1 G1 => r1 = (none) ∧ ∃ S2, G1 = am_H S2 ∧ (fun T => (∀ o, o ≠ 97 → o ≠ 109 → o ≠ 110 → gI T o = gI S o) ∧ (∀ k, k ≠ 23 → k ≠ 24 → gI T 97 k = gI S 97 k) ∧ (∀ o, gJ T o = gJ S o) ∧ (∀ c, gR T c = gR S c) ∧ (∀ a, a < 4800 → gI T 110 a = gI S 112 a) ∧ (∀ a, a < 201 → gI T 109 a = gI S 113 a) ∧ gI T 97 23 = gI S 97 30 ∧ gI T 97 24 = gI S 97 31) S2) (fun _ _ _ _ _ _ => False) 31 [some (.ref 97), some (.int (nI j))] [] (am_H (T)) 0 0 := by
    intro k2
    induction k2 with
    | zero =>
      intro j T q1 q2 f1 f2 f3
      omega
    | succ k2 ih2 =>
      intro j T q1 q2 f1 f2 f3
      have b1 : (nI j).toNatClampNeg = j := nI_clamp (by omega)
      have s1 : 0 ≤ nI j := nI_pos' (by omega)
      have t97 : gI T 97 = gI S 97 := f1.1 97 (by decide) (by decide)
      refine r_iload_n rfl rfl ?_
      refine r_sipush rfl ?_
      refine r_icmp_gt rfl (fun h35 => ?_) (fun h35 => ?_)
      · have hj : j = 201 := by
          rw [show (200 : Int32) = nI 200 from rfl, nI_ltI (by omega) (by omega)] at h35
          omega
        refine r_aload_n rfl rfl ?_
        refine r_aload_n rfl rfl ?_
        refine r_getI rfl rfl (by decide) (by decide) rfl ?_
        refine r_putI rfl rfl (by decide) (by decide) rfl ?_
        refine r_aload_n rfl rfl ?_
        refine r_aload_n rfl rfl ?_
        refine r_getI rfl rfl (by decide) (by decide) rfl ?_
        refine r_putI rfl rfl (by decide) (by decide) rfl ?_
        refine r_vret rfl ?_
        refine ⟨rfl, _, rfl, fun o a b c => ?_, fun k a b => ?_, f1.2.1, f1.2.2, fun a ha => ?_, fun a ha => ?_, ?_, ?_⟩
        · rw [gI_uI_ne a, gI_uI_ne a, f1.1 o b c]
        · rw [gI_uI, if_pos rfl, if_neg b, gI_uI, if_pos rfl, if_neg a, t97]
        · rw [gI_uI_ne (by decide), gI_uI_ne (by decide), f2 a ha]
        · rw [gI_uI_ne (by decide), gI_uI_ne (by decide), f3 a (by omega)]
        · simp [gI_uI, t97]
        · simp [gI_uI, t97]
      · rw [show (200 : Int32) = nI 200 from rfl, nI_ltI (by omega) (by omega)] at h35
        have s2 : nI j < Int32.ofNat 201 := nI_lt (by omega) (by omega)
        refine r_aload_n rfl rfl ?_
        refine r_getC rfl rfl (by decide) (by decide) rfl ?_
        refine r_iload_n rfl rfl ?_
        refine r_aload_n rfl rfl ?_
        refine r_getC rfl rfl (by decide) (by decide) rfl ?_
        refine r_iload_n rfl rfl ?_
        refine r_iald rfl rfl (by first | decide | assumption) (by first | exact s1 | exact s2) (by first | exact s1 | exact s2) ?_
        refine r_iast rfl rfl (by first | decide | assumption) (by first | exact s1 | exact s2) (by first | exact s1 | exact s2) ?_
        refine r_iinc (L2 := [_, _]) rfl rfl rfl ?_
        refine r_goto rfl ?_
        rw [b1, nI_1]
        refine ih2 (j + 1) _ (by omega) (by omega) ⟨fun o a b => by rw [gI_uI_ne a, f1.1 o a b], f1.2.1, f1.2.2⟩ (fun a ha => by rw [gI_uI_ne (by decide), f2 a ha]) (fun a ha => ?_)
        rw [gI_uI, if_pos rfl]
        by_cases h : a = j
        · rw [if_pos h, f1.1 113 (by decide) (by decide), h]
        · rw [if_neg h, f3 a (by omega)]
  have loop : ∀ (k : Nat) (j : Nat) (T : am_S), (j ≤ 4800) → (4800 < j + k) → ((∀ o, o ≠ 110 → gI T o = gI S o) ∧ (∀ o, gJ T o = gJ S o) ∧ (∀ c, gR T c = gR S c)) → (∀ a, a < j → gI T 110 a = gI S 112 a) → am_Ex (am_Call am_MT (d + 0)) mmX11_takesBack none (fun r1 G1 => r1 = (none) ∧ ∃ S2, G1 = am_H S2 ∧ (fun T => (∀ o, o ≠ 97 → o ≠ 109 → o ≠ 110 → gI T o = gI S o) ∧ (∀ k, k ≠ 23 → k ≠ 24 → gI T 97 k = gI S 97 k) ∧ (∀ o, gJ T o = gJ S o) ∧ (∀ c, gR T c = gR S c) ∧ (∀ a, a < 4800 → gI T 110 a = gI S 112 a) ∧ (∀ a, a < 201 → gI T 109 a = gI S 113 a) ∧ gI T 97 23 = gI S 97 30 ∧ gI T 97 24 = gI S 97 31) S2) (fun _ _ _ _ _ _ => False) 2 [some (.ref 97), some (.int (nI j))] [] (am_H (T)) 0 0 := by
    intro k
    induction k with
    | zero =>
      intro j T q1 q2 f1 f2
      omega
    | succ k ih =>
      intro j T q1 q2 f1 f2
      have b1 : (nI j).toNatClampNeg = j := nI_clamp (by omega)
      have s1 : 0 ≤ nI j := nI_pos' (by omega)
      refine r_iload_n rfl rfl ?_
      refine r_aload_n rfl rfl ?_
      refine r_getC rfl rfl (by decide) (by decide) rfl ?_
      refine r_alen rfl rfl (by decide) ?_
      refine r_icmp_ge rfl (fun h8 => ?_) (fun h8 => ?_)
      · have hj : j = 4800 := by
          rw [show Int32.ofNat 4800 = nI 4800 from rfl, nI_leI (by omega) (by omega)] at h8
          omega
        refine r_iconst rfl ?_
        refine r_istore_n (L2 := [_, _]) rfl rfl ?_
        exact loop2 202 0 T (by omega) (by omega) ⟨fun o _ a => f1.1 o a, f1.2.1, f1.2.2⟩ (fun a ha => f2 a (by omega)) (fun a ha => by omega)
      · rw [show Int32.ofNat 4800 = nI 4800 from rfl, nI_leI (by omega) (by omega)] at h8
        have s2 : nI j < Int32.ofNat 4800 := nI_lt (by omega) (by omega)
        refine r_aload_n rfl rfl ?_
        refine r_getC rfl rfl (by decide) (by decide) rfl ?_
        refine r_iload_n rfl rfl ?_
        refine r_aload_n rfl rfl ?_
        refine r_getC rfl rfl (by decide) (by decide) rfl ?_
        refine r_iload_n rfl rfl ?_
        refine r_iald rfl rfl (by first | decide | assumption) (by first | exact s1 | exact s2) (by first | exact s1 | exact s2) ?_
        refine r_iast rfl rfl (by first | decide | assumption) (by first | exact s1 | exact s2) (by first | exact s1 | exact s2) ?_
        refine r_iinc (L2 := [_, _]) rfl rfl rfl ?_
        refine r_goto rfl ?_
        rw [b1, nI_1]
        refine ih (j + 1) _ (by omega) (by omega) ⟨fun o a => by rw [gI_uI_ne a, f1.1 o a], f1.2.1, f1.2.2⟩ (fun a ha => ?_)
        rw [gI_uI, if_pos rfl]
        by_cases h : a = j
        · rw [if_pos h, f1.1 112 (by decide), h]
        · rw [if_neg h, f2 a (by omega)]
  refine r_iconst rfl ?_
  refine r_istore_n (L2 := [_, _]) rfl rfl ?_
  exact loop 4801 0 S (by omega) (by omega) ⟨fun _ _ => rfl, fun _ => rfl, fun _ => rfl⟩ (fun a ha => by omega)
/-- a state in which the reference begins to try -/
def BegB (S : am_S) (sd : Int32) (B : am_S) : Prop := (∀ o, (o = 99 ∨ o = 100 ∨ o = 101 ∨ o = 102 ∨ o = 104 ∨ o = 105) → gI B o = gI S o) ∧ (∀ k, (k = 3 ∨ k = 9 ∨ k = 10 ∨ k = 11 ∨ k = 12) → gI B 97 k = gI S 97 k) ∧ gI B 97 23 = 0 ∧ gI B 97 24 = sd ∧ gI B 109 0 = gI S 97 9 ∧ ∀ a, a < 4800 → gI B 110 a = 0
def CostIs (S : am_S) (n : Nat) (dg : Nat → Nat) (fs : Nat → Nat → Int32) (fz : Nat → Nat) (sd : Int32) (m : Nat) (x y : Int32) : Prop := ∀ B U, BegB S sd B → PasM n 0 dg fs fz B m U → sumI (fun j => offM U (j + 1)) m = x ∧ gI U 109 m = y
theorem begB_of {S T : am_S} {sd : Int32} {B : am_S} (h : BegB T sd B) (ho : ∀ o, (o = 99 ∨ o = 100 ∨ o = 101 ∨ o = 102 ∨ o = 104 ∨ o = 105) → gI T o = gI S o) (hk : ∀ k, (k = 3 ∨ k = 9 ∨ k = 10 ∨ k = 11 ∨ k = 12) → gI T 97 k = gI S 97 k) : BegB S sd B := by
  obtain ⟨a, b, c, e, f, g⟩ := h
  exact ⟨fun o h => by rw [a o h, ho o h], fun k h => by rw [b k h, hk k h], c, e, by rw [f, hk 9 (by decide)], g⟩
theorem ct_X11_costs {d : Nat} {S : am_S} {n nw m : Nat} {lt st th dg : Nat → Nat} {fs : Nat → Nat → Int32} {fz : Nat → Nat} {sd x y : Int32} (hC : MCfg S n nw lt st th dg fs fz) (hm : m ≤ 199) (hx : CostIs S n dg fs fz sd m x y) : am_CE (d + 7) iX11_costs [.ref 97, .int (nI m), .int sd] S (some (.int x)) (fun T => FrT S T ∧ gI T 97 32 = y) := by
  refine am_CE_in mmX11_costs rfl rfl rfl ?_
  have mk : ∀ A : am_S, ((∀ o, o ≠ 97 → o ≠ 112 → o ≠ 113 → gI A o = gI S o) ∧ (∀ k, k ≠ 30 → k ≠ 31 → gI A 97 k = gI S 97 k) ∧ (∀ o, gJ A o = gJ S o) ∧ (∀ c, gR A c = gR S c) ∧ (∀ a, a < 4800 → gI A 112 a = gI S 110 a) ∧ (∀ a, a < 201 → gI A 113 a = gI S 109 a) ∧ gI A 97 30 = gI S 97 23 ∧ gI A 97 31 = gI S 97 24) → BegB S sd (uI (begM A) 97 24 sd) ∧ MCfg (uI (begM A) 97 24 sd) n 0 lt st th dg fs fz := fun A hA => by
    obtain ⟨a1, a2, a3, a4, a5, a6, a7, a8⟩ := hA
    have o1 : ∀ o, o ≠ 97 → o ≠ 109 → o ≠ 110 → gI (uI (begM A) 97 24 sd) o = gI A o := fun o x y z => by rw [gI_uI_ne x, begM, gI_rI_ne z, gI_uI_ne y, gI_uI_ne x]
    have k1 : ∀ k, k ≠ 23 → k ≠ 24 → gI (uI (begM A) 97 24 sd) 97 k = gI A 97 k := fun k x y => by rw [gI_uI, if_pos rfl, if_neg y, begM, gI_rI_ne (by decide), gI_uI_ne (by decide), gI_uI, if_pos rfl, if_neg x]
    have k23 : gI (uI (begM A) 97 24 sd) 97 23 = 0 := by rw [gI_uI, if_pos rfl, if_neg (by decide), begM, gI_rI_ne (by decide), gI_uI_ne (by decide), gI_uI, if_pos rfl, if_pos rfl]
    refine ⟨⟨fun o ho => ?_, fun k hk => ?_, k23, ?_, ?_, fun a ha => ?_⟩, ?_⟩
    · rw [o1 o (by omega) (by omega) (by omega), a1 o (by omega) (by omega) (by omega)]
    · rw [k1 k (by omega) (by omega), a2 k (by omega) (by omega)]
    · rw [gI_uI, if_pos rfl, if_pos rfl]
    · rw [gI_uI_ne (by decide), begM, gI_rI_ne (by decide), gI_uI, if_pos rfl, if_pos rfl, a2 9 (by decide) (by decide)]
    · rw [gI_uI_ne (by decide), begM, gI_rI_eq, if_pos ha]
    · obtain ⟨c1, c2, c3, c4, c5, c6⟩ := hC
      refine ⟨by rw [k1 3 (by decide) (by decide), a2 3 (by decide) (by decide), c1], c2, k23, fun p hp => ?_, fun p hp => ?_, fun i hi => ?_⟩
      · rw [o1 99 (by decide) (by decide) (by decide), o1 100 (by decide) (by decide) (by decide), o1 101 (by decide) (by decide) (by decide), a1 99 (by decide) (by decide) (by decide), a1 100 (by decide) (by decide) (by decide), a1 101 (by decide) (by decide) (by decide)]
        exact c4 p hp
      · rw [o1 111 (by decide) (by decide) (by decide), a1 111 (by decide) (by decide) (by decide)]
        exact c5 p hp
      · have := c6 i hi
        unfold FmOk at this ⊢
        rw [o1 105 (by decide) (by decide) (by decide), o1 104 (by decide) (by decide) (by decide), a1 105 (by decide) (by decide) (by decide), a1 104 (by decide) (by decide) (by decide)]
        exact this
  have loop : ∀ (k : Nat) (i : Nat) (A : am_S) (U : am_S), (i ≤ m) → (m < i + k) → ((∀ o, o ≠ 97 → o ≠ 112 → o ≠ 113 → gI A o = gI S o) ∧ (∀ k, k ≠ 30 → k ≠ 31 → gI A 97 k = gI S 97 k) ∧ (∀ o, gJ A o = gJ S o) ∧ (∀ c, gR A c = gR S c) ∧ (∀ a, a < 4800 → gI A 112 a = gI S 110 a) ∧ (∀ a, a < 201 → gI A 113 a = gI S 109 a) ∧ gI A 97 30 = gI S 97 23 ∧ gI A 97 31 = gI S 97 24) → (PasM n 0 dg fs fz (uI (begM A) 97 24 sd) i U) → am_Ex (am_Call am_MT (d + 6)) mmX11_costs none (fun r1 G1 => r1 = (some (.int x)) ∧ ∃ S2, G1 = am_H S2 ∧ (fun T => FrT S T ∧ gI T 97 32 = y) S2) (fun _ _ _ _ _ _ => False) 15 [some (.ref 97), some (.int (nI m)), some (.int sd), some (.int (nI i))] [] (am_H (U)) 0 0 := by
    intro k
    induction k with
    | zero =>
      intro i A U q1 q2 g1 f1
      omega
    | succ k ih =>
      intro i A U q1 q2 g1 f1
      have mA := mk A g1
      have cu := pasM_cfg mA.2 i U f1
      rw [Nat.zero_add] at cu
      have u23 : gI U 97 23 = nI i := cu.2.2.1
      by_cases hi : i = m
      · subst hi
        have w1 : nI i ≤ nI i := nI_le (by omega) (by omega)
        have fr := pasM_fr i U f1
        have hv := hx _ U mA.1 f1
        have b1 : (nI i).toNatClampNeg = i := nI_clamp (by omega)
        have s1 : 0 ≤ nI i := nI_pos' (by omega)
        have s2 : nI i < Int32.ofNat 201 := nI_lt (by omega) (by omega)
        have cn : ∀ {d : Nat}, am_CT (d + 1) iX11_costNow [.ref 97] U (some (.int x)) U := fun {d} => by
          have e := ct_X11_costNow (d := d) (S := U) u23 (by omega)
          rw [hv.1] at e
          exact e
        have fin : ∀ z V : am_S, z = uI U 97 32 y → ((∀ o, o ≠ 97 → o ≠ 109 → o ≠ 110 → gI V o = gI z o) ∧ (∀ k, k ≠ 23 → k ≠ 24 → gI V 97 k = gI z 97 k) ∧ (∀ o, gJ V o = gJ z o) ∧ (∀ c, gR V c = gR z c) ∧ (∀ a, a < 4800 → gI V 110 a = gI z 112 a) ∧ (∀ a, a < 201 → gI V 109 a = gI z 113 a) ∧ gI V 97 23 = gI z 97 30 ∧ gI V 97 24 = gI z 97 31) → FrT S V ∧ gI V 97 32 = y := fun z V hz hV => by
          obtain ⟨a1, a2, a3, a4, a5, a6, a7, a8⟩ := g1
          obtain ⟨v1, v2, v3, v4, v5, v6, v7, v8⟩ := hV
          have bo : ∀ o, o ≠ 97 → o ≠ 106 → o ≠ 108 → o ≠ 109 → o ≠ 110 → gI z o = gI A o := fun o x y w u v => by rw [hz, gI_uI_ne x, fr.1 o x y w u v, gI_uI_ne x, begM, gI_rI_ne v, gI_uI_ne u, gI_uI_ne x]
          have bk : ∀ k, k ≠ 23 → k ≠ 24 → k ≠ 32 → gI z 97 k = gI A 97 k := fun k x y w => by rw [hz, gI_uI, if_pos rfl, if_neg w, fr.2.1 k x y, gI_uI, if_pos rfl, if_neg y, begM, gI_rI_ne (by decide), gI_uI_ne (by decide), gI_uI, if_pos rfl, if_neg x]
          refine ⟨⟨fun o b c e f g h i j => ?_, fun k b c e => ?_, fun a ha => ?_, fun a ha => ?_, fun a => ?_, fun o => ?_, fun c => ?_⟩, ?_⟩
          · rw [v1 o b f g, bo o b c e f g, a1 o b i j]
          · by_cases h23 : k = 23
            · rw [h23, v7, bk 30 (by decide) (by decide) (by decide), a7]
            · by_cases h24 : k = 24
              · rw [h24, v8, bk 31 (by decide) (by decide) (by decide), a8]
              · rw [v2 k h23 h24, bk k h23 h24 e, a2 k b c]
          · rw [v6 a ha, bo 113 (by decide) (by decide) (by decide) (by decide) (by decide), a6 a ha]
          · rw [v5 a ha, bo 112 (by decide) (by decide) (by decide) (by decide) (by decide), a5 a ha]
          · rw [v1 111 (by decide) (by decide) (by decide), bo 111 (by decide) (by decide) (by decide) (by decide) (by decide), a1 111 (by decide) (by decide) (by decide)]
          · rw [v3, hz, gJ_uI_f, fr.2.2.1 o, gJ_uI_f]
            exact a3 o
          · rw [v4, hz, gR_uI, fr.2.2.2 c, gR_uI]
            exact a4 c
          · rw [v2 32 (by decide) (by decide), hz, gI_uI, if_pos rfl, if_pos rfl]
        refine r_iload_n rfl rfl ?_
        refine r_iload_n rfl rfl ?_
        refine r_icmp_ge rfl (fun h17 => ?_) (fun h17 => ?_)
        · refine r_aload_n rfl rfl ?_
          refine r_callV rfl cn rfl rfl rfl (by decide) rfl (am_cnt rfl) ?_
          refine r_istore_n (L2 := [_, _, _, _]) rfl rfl ?_
          refine r_aload_n rfl rfl ?_
          refine r_aload_n rfl rfl ?_
          refine r_getC rfl rfl (by decide) (by decide) rfl ?_
          refine r_aload_n rfl rfl ?_
          refine r_getI rfl rfl (by decide) (by decide) rfl ?_
          rw [u23]
          refine r_iald rfl rfl (by first | decide | assumption) (by first | exact s1 | exact s2) (by first | exact s1 | exact s2) ?_
          rw [b1, hv.2]
          refine r_putI rfl rfl (by decide) (by decide) rfl ?_
          refine r_aload_n rfl rfl ?_
          refine r_callVE rfl ct_X11_takesBack rfl rfl rfl (by decide) rfl (am_cnt rfl) (fun V hV => ?_)
          refine r_iload_n rfl rfl ?_
          refine r_iret rfl rfl ?_
          exact ⟨rfl, _, rfl, fin _ V rfl hV⟩
        · exact absurd w1 h17
      · have w1 : ¬ nI m ≤ nI i := Int32.not_le.mpr (nI_lt (by omega) (by omega))
        refine r_iload_n rfl rfl ?_
        refine r_iload_n rfl rfl ?_
        refine r_icmp_ge rfl (fun h17 => ?_) (fun h17 => ?_)
        · exact absurd h17 w1
        · refine r_aload_n rfl rfl ?_
          refine r_callVE rfl (ct_X11_passes cu (by omega)) rfl rfl rfl (by decide) rfl (am_cnt rfl) (fun V hV => ?_)
          refine r_iinc (L2 := [_, _, _, _]) rfl rfl rfl ?_
          refine r_goto rfl ?_
          rw [nI_1]
          exact ih (i + 1) A V (by omega) (by omega) g1 ⟨U, f1, by rw [Nat.zero_add]; exact hV⟩
  refine r_aload_n rfl rfl ?_
  refine r_callVE rfl ct_X11_putsBy rfl rfl rfl (by decide) rfl (am_cnt rfl) (fun A hA => ?_)
  refine r_aload_n rfl rfl ?_
  refine r_callV rfl ct_X11_begins rfl rfl rfl (by decide) rfl (am_cnt rfl) ?_
  refine r_aload_n rfl rfl ?_
  refine r_iload_n rfl rfl ?_
  refine r_putI rfl rfl (by decide) (by decide) rfl ?_
  refine r_iconst rfl ?_
  refine r_istore_n (L2 := [_, _, _, _]) rfl rfl ?_
  exact loop (m + 1) 0 A _ (by omega) (by omega) hA rfl
