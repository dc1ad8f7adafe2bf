/-! Joint calls: says, soon, know, crier, deaf, warn. -/
theorem rc_nr {S : am_S} {n nw : Nat} (R : RC S n nw) {p : Nat} (hp : p < 6) : gI S (6 + 2 * p) 3 = gI S 102 p := (R.1.2.2.2 p hp).1.2.2.2.1
theorem rc_se {S : am_S} {n nw : Nat} (R : RC S n nw) {p : Nat} (hp : p < 6) : gI S (6 + 2 * p) 4 = gI S 103 p := (R.1.2.2.2 p hp).1.2.2.2.2
theorem rc_WN {S : am_S} {n nw : Nat} (R : RC S n nw) : WN S n := ⟨rc_n6 R, fun v q hv hq h => by
  unfold nearP at h ⊢
  rw [rc_nr R hv] at h
  rw [rc_nr R hq]
  exact R.2.1 v q hv hq h⟩
theorem rc_WL {S : am_S} {n nw : Nat} (R : RC S n nw) : WL (ltS S) (thS S) := fun p hp => by
  obtain ⟨a, b, -, -, e, f⟩ := rc_PM R p hp
  exact ⟨b, f⟩
theorem rc_WE {S T : am_S} {n nw : Nat} (R : RC S n nw) (k : Kp S T) : WE S T := fun v q hv hq => by
  unfold nearP nrM
  rw [rc_nr R hv, k.1 102 v (by unfold scr; omega)]
theorem rc_pm {S T : am_S} {n nw : Nat} (R : RC S n nw) (k : Kp S T) : PM T (ltS S) (stS S) (thS S) := by
  have e := rc_PM (rc_k k R)
  rw [(lt_k k).1, (lt_k k).2.1, (lt_k k).2.2] at e
  exact e
theorem rc_mn {S T : am_S} {n nw a b : Nat} (R : RC S n nw) (k : Kp S T) (ha : a < n) (hb : b < n) (h : a ≠ b) : mnV T (ltS S) (thS S) n a b = (bstW S (ltS S) (thS S) a b 4).1 := mnV_bst (rc_WN R) (rc_WL R) hb (rc_WE R k) (by have := rc_n6 R; omega) h
theorem bst_le6 {S : am_S} {n nw a b : Nat} (R : RC S n nw) (hb : b < n) : (bstW S (ltS S) (thS S) a b 4).1 ≤ 1000000 := (bstN_le (fun k => fewN S (ltS S) (thS S) b k a) (fun k => fewN_le (rc_WL R b (by have := rc_n6 R; omega)).1 k a) 4).1
theorem nI_n2 {x : Nat} (h : x < 2147483648) : ¬ nI x = -2 := fun z => by
  have := nI_pos' (n := x) (by omega)
  rw [z] at this
  exact absurd this (by decide)
theorem minuV_2 {S : am_S} {lt th : Nat → Nat} {a b : Nat} : minuV S lt th a b = -2 ↔ ¬ (bstW S lt th a b 4).1 < 1000000 := by
  unfold minuV
  by_cases h : (bstW S lt th a b 4).1 < 1000000
  · rw [if_neg (by omega)]
    exact ⟨fun z => absurd z (nI_n2 (by omega)), fun z => absurd h z⟩
  · rw [if_pos (by omega)]
    exact ⟨fun _ => h, fun _ => rfl⟩
theorem minuV_1 {S : am_S} {lt th : Nat → Nat} {a b : Nat} (h : (bstW S lt th a b 4).1 < 1000000) : minuV S lt th a b = nI (bstW S lt th a b 4).1 := by
  unfold minuV
  rw [if_neg (by omega)]
theorem kn_min {S : am_S} {lt th : Nat → Nat} {a b k : Nat} : Kn S (minuS S lt th a b k) := ⟨(kp_r (fun k => by unfold scr; omega)).t (kp_u (by unfold scr; omega)), by rw [minuS, gI_uI_ne (by decide), gI_rI_ne (by decide)], by rw [minuS, gI_uI_ne (by decide), gI_rI_ne (by decide)], fun _ => rfl, fun _ => rfl⟩
theorem kn_frW {S T : am_S} (h : FrW S T) : Kn S T := ⟨⟨fun o k hs => by rw [h.1 o (by unfold scr at hs; omega)], h.2.2⟩, by rw [h.1 74 (by omega)], by rw [h.1 97 (by omega)], fun j => by rw [h.2.1], fun j => by rw [h.2.1]⟩
theorem kp_telS {S : am_S} {lt th : Nat → Nat} {a b : Nat} : ∀ j, Kp S (telS S lt th a b j)
  | 0 => (kn_min.1.t (kp_r (fun k => by unfold scr; omega))).t kp_t0
  | j + 1 => (kp_telS j).t kp_tAdd
theorem tC_telS {S : am_S} {lt th : Nat → Nat} {a b : Nat} : ∀ j, tC (telS S lt th a b j) j (fun i => (nI (atN S lt th a b (bstP S lt th a b) (i + 1))).toInt64)
  | 0 => tC_0
  | j + 1 => tC_a (tC_telS j) rfl
theorem th_z3 {S : am_S} {v : Int32} : gI (uI S 97 0 v) 97 3 = gI S 97 3 := gI_un (by omega)
theorem jn_says {d : Nat} {S : am_S} (R : RM S) (p q : Int32) : Jn (d + 700) iX10_says [.ref 0, .int p, .int q] iX11_says [.ref 97, .int p, .int q] S := by
  have R0 := R
  obtain ⟨n, nw, c, tl⟩ := R
  have h6 := rc_n6 c
  by_cases h : twoP S p q
  · obtain ⟨i, j, hi, hj, hij, rfl, rfl⟩ := rc_twoN c h
    have A : am_CT (d + 700) _ _ _ _ _ := ct_X10_says_ok (rc_n1 c) h6 (rc_Pp c) hi hj hij
    by_cases e : (bstW S (ltS S) (thS S) i j 4).1 < 1000000
    · rw [if_neg (fun z => minuV_2.mp z e), minuV_1 e] at A
      have hW := wb_bst (rc_WN c) hj (by omega) hij e
      generalize hC : telS S (ltS S) (thS S) i j (bstP S (ltS S) (thS S) i j) = C at A
      have k0 : Kp S C := by rw [← hC]; exact kp_telS _
      have k1 : Kp S (uI C 97 0 0) := k0.t kp_th
      have c2 := rc_k k1 c
      have hF : ∀ a, a < 6 → farR (uI C 97 0 0) (ltS S) (thS S) j n n a = wX S (ltS S) (thS S) j a := fun a ha => farR_X (rc_WN c) (rc_WL c) hj (rc_WE c k1) ha
      have en := at_end (rc_WN c) (rc_WL c) hj (rc_WE c k1) hF (by omega) hij hW
      obtain ⟨-, hk, -⟩ := wX_wb (rc_WN c) (rc_WL c) hj (by omega) hij hW
      have hm := rc_mn c k1 hi hj hij
      have B : am_CE (d + 700) _ _ _ _ _ := ct_X11_says_ok (S := C) rfl rfl (rc_pm c k1) (rc_n2 c2) h6 hi hj hij (by rw [hm]; omega) ⟨by omega, by omega⟩ en.1 en.2
      rw [hm] at B
      refine jn_TE A B (fun U hU => ?_)
      obtain ⟨T1, hT1, rfl⟩ := hU
      rw [Nat.add_sub_cancel]
      refine rm_t (m := (bstW S (ltS S) (thS S) i j 4).2) R0 (by omega) k0 (by rw [← hC]; exact tC_telS _) ((kp_th.t (kn_frW hT1).1).t (kp_elL _)) ((kc_th.t (kn_frW hT1).c).t (kc_elL _)) (tM_e (tM_L _) (fun x hx => ?_))
      have := (at_eq (rc_WN c) (rc_WL c) hj (rc_WE c k1) hF (by omega) hij hW (x + 1) (by omega)).1
      unfold wyL
      rw [← this]
      rfl
    · rw [if_pos (minuV_2.mpr e), minuV_2.mpr e] at A
      have k1 : Kp S (uI (minuS S (ltS S) (thS S) i j 4) 97 0 0) := kn_min.1.t kp_th
      have c2 := rc_k k1 c
      have hm := rc_mn c k1 hi hj hij
      have hb := bst_le6 (a := i) c hj
      have B : am_CE (d + 700) _ _ _ _ _ := ct_X11_says_un (S := minuS S (ltS S) (thS S) i j 4) rfl (rc_pm c k1) (rc_n2 c2) h6 hi hj hij (by rw [hm]; omega)
      exact jn_TE A B (fun U hU => rm_kn ((kn_min.t kn_th).t (kn_frW hU)) R0)
  · exact jn_no R0 (ct_X10_says_no h) (ct_X11_says_no rfl (by rw [th_z3]; exact rc_z0 c) (fun z => h ((rc_two c).mp (th_twoN.mp z))))
theorem kn_both {S : am_S} {lt th : Nat → Nat} {a b : Nat} : Kn S (bothS S lt th a b) := kn_min.t kn_min
theorem rc_sees {S T : am_S} {n nw : Nat} (R : RC S n nw) (k : Kp S T) {v q : Nat} (hv : v < 6) : seM T v q ↔ seesP S v q := by
  unfold seM seesP
  rw [rc_se R hv, k.1 103 v (by unfold scr; omega)]
theorem b01_64 {P : Prop} [Decidable P] : (b01 P).toInt64 = if P then 1 else 0 := by
  unfold b01
  split <;> rfl
theorem if_cg {α : Type} {P Q : Prop} [Decidable P] [Decidable Q] {a b : α} (h : P ↔ Q) : (if P then a else b) = (if Q then a else b) := by
  by_cases z : P
  · rw [if_pos z, if_pos (h.mp z)]
  · rw [if_neg z, if_neg (fun y => z (h.mpr y))]
theorem jn_soon {d : Nat} {S : am_S} (R : RM S) (p q : Int32) : Jn (d + 700) iX10_soon [.ref 0, .int p, .int q] iX11_soon [.ref 97, .int p, .int q] S := by
  have R0 := R
  obtain ⟨n, nw, c, tl⟩ := R
  have h6 := rc_n6 c
  by_cases h : twoP S p q
  · obtain ⟨i, j, hi, hj, hij, rfl, rfl⟩ := rc_twoN c h
    have A : am_CT (d + 700) _ _ _ _ _ := ct_X10_soon_ok (rc_n1 c) h6 (rc_Pp c) hi hj hij
    have bl1 := bst_le6 (a := i) c hj
    have bl2 := bst_le6 (a := j) c hi
    have th9 := (rc_WL c j (by omega)).2
    have eS : ∀ T, Kp S T → snM T (ltS S) (thS S) n i j = soonV S (ltS S) (thS S) i j := fun T k => by
      unfold snM soonV sbM
      rw [rc_mn c k hi hj hij, rc_mn c k hj hi (fun z => hij z.symm)]
      have sb : (if seM T i j then 0 else (bstW S (ltS S) (thS S) j i 4).1) = (if seesP S i j then 0 else (bstW S (ltS S) (thS S) j i 4).1) := if_cg (rc_sees c k (by omega))
      rw [sb]
      have eq : (minuV S (ltS S) (thS S) i j = -2 ∨ (¬ seesP S i j ∧ minuV S (ltS S) (thS S) j i = -2)) ↔ ((bstW S (ltS S) (thS S) i j 4).1 = 1000000 ∨ (if seesP S i j then 0 else (bstW S (ltS S) (thS S) j i 4).1) = 1000000) := by
        rw [minuV_2, minuV_2]
        by_cases z : seesP S i j
        · rw [if_pos z]
          constructor
          · rintro (y | y)
            · exact Or.inl (by omega)
            · exact absurd z y.1
          · rintro (y | y)
            · exact Or.inl (by omega)
            · omega
        · rw [if_neg z]
          constructor
          · rintro (y | y)
            · exact Or.inl (by omega)
            · exact Or.inr (by omega)
          · rintro (y | y)
            · exact Or.inl (by omega)
            · exact Or.inr ⟨z, by omega⟩
      by_cases z : (bstW S (ltS S) (thS S) i j 4).1 = 1000000 ∨ (if seesP S i j then 0 else (bstW S (ltS S) (thS S) j i 4).1) = 1000000
      · rw [if_pos z, if_pos (eq.mpr z)]
      · rw [if_neg z, if_neg (fun y => z (eq.mp y)), minuV_1 (by omega)]
        by_cases s : seesP S i j
        · rw [if_pos s, if_pos s, nI_add, Nat.add_zero]
          grind
        · rw [if_neg s] at z
          rw [if_neg s, if_neg s, minuV_1 (by omega), nI_add, nI_add]
    by_cases e : minuV S (ltS S) (thS S) i j = -2 ∨ (¬ seesP S i j ∧ minuV S (ltS S) (thS S) j i = -2)
    · have e2 : soonV S (ltS S) (thS S) i j = -2 := if_pos e
      rw [if_pos e] at A
      have k1 : Kn S (uI (bothS S (ltS S) (thS S) i j) 97 0 0) := kn_both.t kn_th
      have B : am_CE (d + 700) _ _ _ _ _ := ct_X11_soon_ok (S := bothS S (ltS S) (thS S) i j) rfl (rc_pm c k1.1) (rc_n2 (rc_k k1.1 c)) h6 hi hj hij
      rw [eS _ k1.1] at B
      refine jn_TE A B (fun U hU => ?_)
      obtain ⟨U1, hU1, hU⟩ := hU
      rw [if_pos e2] at hU
      rw [hU]
      exact rm_kn (k1.t (kn_frW hU1)) R0
    · rw [if_neg e] at A
      have e2 : ¬ soonV S (ltS S) (thS S) i j = -2 := by
        rw [← eS S Kp.r]
        unfold snM
        have e3 : ¬ soonV S (ltS S) (thS S) i j = -2 ∨ True := Or.inr trivial
        have x1 : ¬ minuV S (ltS S) (thS S) i j = -2 := fun z => e (Or.inl z)
        rw [minuV_2] at x1
        have x2 : sbM S (ltS S) (thS S) n i j < 1000000 := by
          unfold sbM
          rw [rc_mn c Kp.r hj hi (fun z => hij z.symm)]
          by_cases s : seM S i j
          · rw [if_pos s]; omega
          · rw [if_neg s]
            have x3 : ¬ minuV S (ltS S) (thS S) j i = -2 := fun z => e (Or.inr ⟨fun y => s ((rc_sees c Kp.r (by omega)).mpr y), z⟩)
            rw [minuV_2] at x3
            omega
        rw [rc_mn c Kp.r hi hj hij, if_neg (by omega)]
        exact nI_n2 (by omega)
      generalize hC : t1 (bothS S (ltS S) (thS S) i j) (if seesP S i j then 1 else 0) = C at A
      have k0 : Kp S C := by rw [← hC]; exact kn_both.1.t kp_t1
      have k1 : Kp S (uI C 97 0 0) := k0.t kp_th
      have B : am_CE (d + 700) _ _ _ _ _ := ct_X11_soon_ok (S := C) rfl (rc_pm c k1) (rc_n2 (rc_k k1 c)) h6 hi hj hij
      rw [eS _ k1] at B
      refine jn_TE A B (fun U hU => ?_)
      obtain ⟨U1, hU1, hU⟩ := hU
      rw [if_neg e2, b01_64, if_cg (rc_sees c k1 (by omega))] at hU
      rw [hU]
      exact rm_1 R0 (C := C) k0 (by rw [← hC]; exact tC_1) (kp_th.t (kn_frW hU1).1) (kc_th.t (kn_frW hU1).c)
  · exact jn_no R0 (ct_X10_soon_no h) (ct_X11_soon_no rfl (by rw [th_z3]; exact rc_z0 c) (fun z => h ((rc_two c).mp (th_twoN.mp z))))
/-! If word comes there it comes back. -/
def rchW (S : am_S) (lt th : Nat → Nat) (t v : Nat) : Prop := v = t ∨ ∃ k, fewN S lt th t k v < 1000000
theorem rch_pre {S : am_S} {lt th : Nat → Nat} {n t v q : Nat} (hN : WN S n) (hB : WL lt th) (ht : t < n) (hv : v < 6) (hq : q < 6) (h : nearP S q v) (hr : rchW S lt th t v) : rchW S lt th t q := by
  have hn := hN.1
  refine Or.inr ?_
  by_cases e : v = t
  · subst e
    refine ⟨0, ?_⟩
    have e0 : fewN S lt th v 0 q = lt v := if_pos (hN.2 q v hq hv h).2.2.2
    have := (hB v hv).1
    omega
  · rcases hr with hr | ⟨k, hk⟩
    · exact absurd hr e
    · obtain ⟨c, k2, hW⟩ := wb_ex hk
      obtain ⟨-, h1, h2⟩ := wX_wb hN hB ht hv e hW
      have u := few_up (S := S) (lt := lt) (th := th) (last := t) (k := k2) h hv
      have := hB v hv
      rw [hW.2.1] at u
      exact ⟨k2 + 1, by omega⟩
theorem rch_all {S : am_S} {lt th : Nat → Nat} {n last : Nat} (hN : WN S n) (hB : WL lt th) (hl : last < n) : ∀ k v, v < 6 → fewN S lt th last k v < 1000000 → ∀ t, t < n → rchW S lt th t v → rchW S lt th t last
  | 0, v, hv, h, t, ht, hr => by
    have hn := hN.1
    unfold fewN at h
    by_cases e : nearP S last v
    · exact rch_pre hN hB ht hv (by omega) e hr
    · rw [if_neg e] at h
      omega
  | k + 1, v, hv, h, t, ht, hr => by
    obtain ⟨q, hq, a, b, e⟩ := few_dn h
    exact rch_all hN hB hl k q hq e t ht (rch_pre hN hB ht hv hq (hN.2 v q hv hq a).2.2.2 hr)
theorem bst_sym {S : am_S} {lt th : Nat → Nat} {n a b : Nat} (hN : WN S n) (hB : WL lt th) (ha : a < n) (hb : b < n) (hab : a ≠ b) (h : (bstW S lt th a b 4).1 < 1000000) : (bstW S lt th b a 4).1 < 1000000 := by
  have hn := hN.1
  have hW := wb_bst hN hb (by omega) hab h
  have r := rch_all hN hB hb _ a (by omega) (by rw [hW.2.1]; exact hW.1) a ha (Or.inl rfl)
  apply Decidable.byContradiction
  intro z
  rcases r with r | ⟨k, hk⟩
  · exact hab r.symm
  · exact wb_inf hN ha (by omega) (fun y => hab y.symm) z k hk
theorem jn_know {d : Nat} {S : am_S} (R : RM S) (p q m : Int32) : Jn (d + 700) iX10_know [.ref 0, .int p, .int q, .int m] iX11_know [.ref 97, .int p, .int q, .int m] S := by
  have R0 := R
  obtain ⟨n, nw, c, tl⟩ := R
  have h6 := rc_n6 c
  by_cases h : twoP S p q ∧ 0 ≤ m ∧ m ≤ 199
  · obtain ⟨h, hm⟩ := h
    obtain ⟨i, j, hi, hj, hij, rfl, rfl⟩ := rc_twoN c h
    obtain ⟨m, hm2, rfl⟩ := in_nI (m := 199) (by decide) hm
    by_cases s : seesP S i j ∧ seesP S j i
    · have A : am_CT (d + 700) _ _ _ _ _ := ct_X10_know_all (rc_n1 c) h6 hi hj hij hm2 s
      have B : am_CT (d + 700) _ _ _ _ _ := ct_X11_know_see (S := S) rfl (rc_n2 (rc_k kp_th c)) h6 hi hj hij hm ⟨(rc_sees c kp_th (by omega)).mpr s.1, (rc_sees c kp_th (by omega)).mpr s.2⟩
      exact jn_TT A B (rm_no R0)
    · have A : am_CT (d + 700) _ _ _ _ _ := ct_X10_know_ok (rc_n1 c) h6 (rc_Pp c) hi hj hij hm2 s
      have k1 : Kn S (uI (bothS S (ltS S) (thS S) i j) 97 0 0) := kn_both.t kn_th
      have B : am_CE (d + 700) _ _ _ _ _ := ct_X11_know_ok (S := bothS S (ltS S) (thS S) i j) rfl (rc_pm c k1.1) (rc_n2 (rc_k k1.1 c)) h6 hi hj hij hm2 (fun z => s ⟨(rc_sees c k1.1 (by omega)).mp z.1, (rc_sees c k1.1 (by omega)).mp z.2⟩)
      have bl1 := bst_le6 (a := i) c hj
      have bl2 := bst_le6 (a := j) c hi
      have sy1 := bst_sym (rc_WN c) (rc_WL c) hi hj hij
      have sy2 := bst_sym (rc_WN c) (rc_WL c) hj hi (fun z => hij z.symm)
      rw [rc_mn c k1.1 hi hj hij, rc_mn c k1.1 hj hi (fun z => hij z.symm)] at B
      have e : knowV S (ltS S) (thS S) i j m = nI (knM (bstW S (ltS S) (thS S) i j 4).1 (bstW S (ltS S) (thS S) j i 4).1 (thS S i) (thS S j) m 99 0 0) := by
        unfold knowV
        by_cases z : (bstW S (ltS S) (thS S) i j 4).1 < 1000000
        · have z2 := sy1 z
          rw [if_neg (fun y => y.elim (fun u => minuV_2.mp u z) (fun u => minuV_2.mp u z2)), know_eq (by omega) (by omega)]
        · rw [if_pos (Or.inl (minuV_2.mpr z))]
          have e1 : (bstW S (ltS S) (thS S) i j 4).1 = 1000000 := by omega
          rw [e1]
          unfold knM knT
          rw [if_pos rfl, if_pos rfl, if_pos (by omega)]
          rfl
      rw [← e] at B
      exact jn_TE A B (fun U hU => rm_kn (k1.t (kn_frW hU)) R0)
  · exact jn_no R0 (ct_X10_know_no h) (ct_X11_know_no rfl (by rw [th_z3]; exact rc_z0 c) (fun z => h ⟨(rc_two c).mp (th_twoN.mp z.1), z.2⟩))
theorem jn_warn {d : Nat} {S : am_S} (R : RM S) (p q w s b : Int32) : Jn (d + 700) iX10_warn [.ref 0, .int p, .int q, .int w, .int s, .int b] iX11_warn [.ref 97, .int p, .int q, .int w, .int s, .int b] S := by
  have R0 := R
  obtain ⟨n, nw, c, tl⟩ := R
  have h6 := rc_n6 c
  by_cases h : twoP S p q ∧ (1 ≤ w ∧ w ≤ 9999) ∧ (1 ≤ s ∧ s ≤ 99) ∧ (1 ≤ b ∧ b ≤ 99)
  · obtain ⟨h, hw, hs, hb⟩ := h
    obtain ⟨i, j, hi, hj, hij, rfl, rfl⟩ := rc_twoN c h
    obtain ⟨w, hw2, rfl⟩ := in_nI (v := w) (m := 9999) (by decide) ⟨by have := hw.1; grind, hw.2⟩
    obtain ⟨s, hs2, rfl⟩ := in_nI (v := s) (m := 99) (by decide) ⟨by have := hs.1; grind, hs.2⟩
    obtain ⟨b, hb2, rfl⟩ := in_nI (v := b) (m := 99) (by decide) ⟨by have := hb.1; grind, hb.2⟩
    have hw1 : 1 ≤ w := (nI_leI (a := 1) (by decide) (by omega)).mp hw.1
    have hs1 : 1 ≤ s := (nI_leI (a := 1) (by decide) (by omega)).mp hs.1
    have hb1 : 1 ≤ b := (nI_leI (a := 1) (by decide) (by omega)).mp hb.1
    have A : am_CT (d + 700) _ _ _ _ _ := ct_X10_warn_ok (rc_n1 c) h6 (rc_Pp c) hi hj hij hw1 hw2 hs1 hs2 hb1 hb2
    have k1 : Kn S (uI (minuS S (ltS S) (thS S) j i 4) 97 0 0) := kn_min.t kn_th
    have B : am_CE (d + 700) _ _ _ _ _ := ct_X11_warn_ok (S := minuS S (ltS S) (thS S) j i 4) rfl (rc_pm c k1.1) (rc_n2 (rc_k k1.1 c)) h6 hi hj hij hw1 hw2 hs1 hs2 hb1 hb2
    have bl := bst_le6 (a := j) c hi
    have e : wrM (uI (minuS S (ltS S) (thS S) j i 4) 97 0 0) (ltS S) (thS S) n i j w s b = warnV S (ltS S) (thS S) i j w s b := by
      unfold wrM warnV
      rw [rc_mn c k1.1 hj hi (fun z => hij z.symm)]
      refine if_cg ?_
      rw [minuV_2]
      generalize (w - 1 - slwN s b s) / s = x
      omega
    rw [e] at B
    exact jn_TE A B (fun U hU => rm_kn (k1.t (kn_frW hU)) R0)
  · exact jn_no R0 (ct_X10_warn_no h) (ct_X11_warn_no rfl (by rw [th_z3]; exact rc_z0 c) (fun z => h ⟨(rc_two c).mp (th_twoN.mp z.1), z.2⟩))
theorem kn_dfX {S : am_S} {lt th : Nat → Nat} {p : Nat} : ∀ j, Kn S (dfX S lt th p j).1
  | 0 => Kn.r
  | j + 1 => by
    unfold dfX
    split
    · exact kn_dfX j
    · exact (kn_dfX j).t kn_min
theorem df_eq {S T : am_S} {n nw p : Nat} (R : RC S n nw) (k : Kp S T) (hp : p < n) : ∀ j, j ≤ n → dfM T (ltS S) (thS S) n p j = (dfX S (ltS S) (thS S) p j).2
  | 0, _ => rfl
  | j + 1, hj => by
    have ih := df_eq R k hp j (by omega)
    have bl := bst_le6 (a := j) R hp
    unfold dfM dfX
    rw [ih]
    by_cases e : j = p
    · rw [if_neg (fun z => z.1 e), if_pos e]
      exact Int32.or_zero
    · have hm : mnM (farR T (ltS S) (thS S) p n n) j = (bstW S (ltS S) (thS S) j p 4).1 := rc_mn R k (by omega) hp e
      rw [if_neg e, hm]
      by_cases z : (bstW S (ltS S) (thS S) j p 4).1 < 1000000
      · rw [if_neg (by omega)]
        show _ = (if minuV S (ltS S) (thS S) j p = -2 then fWith (dfX S (ltS S) (thS S) p j).2 (nI j) 1 else (dfX S (ltS S) (thS S) p j).2)
        rw [if_neg (fun y => minuV_2.mp y z)]
        exact Int32.or_zero
      · rw [if_pos ⟨e, by omega⟩]
        show _ = (if minuV S (ltS S) (thS S) j p = -2 then fWith (dfX S (ltS S) (thS S) p j).2 (nI j) 1 else (dfX S (ltS S) (thS S) p j).2)
        rw [if_pos (minuV_2.mpr z)]
        exact (if_neg (by decide)).symm
theorem jn_deaf {d : Nat} {S : am_S} (R : RM S) (p : Int32) : Jn (d + 700) iX10_deaf [.ref 0, .int p] iX11_deaf [.ref 97, .int p] S := by
  have R0 := R
  obtain ⟨n, nw, c, tl⟩ := R
  have h6 := rc_n6 c
  by_cases h : hasP S p
  · obtain ⟨i, hi, rfl⟩ := rc_hasN c h
    have A : am_CT (d + 700) _ _ _ _ _ := ct_X10_deaf_ok (rc_n1 c) h6 (rc_Pp c) hi
    have k1 : Kn S (uI (dfX S (ltS S) (thS S) i n).1 97 0 0) := (kn_dfX n).t kn_th
    have B : am_CE (d + 700) _ _ _ _ _ := ct_X11_deaf_ok (S := (dfX S (ltS S) (thS S) i n).1) rfl (rc_pm c k1.1) (rc_n2 (rc_k k1.1 c)) h6 hi
    rw [df_eq c k1.1 hi n (Nat.le_refl _)] at B
    exact jn_TE A B (fun U hU => rm_kn (k1.t (kn_frW hU)) R0)
  · exact jn_no R0 (ct_X10_deaf_no h) (ct_X11_deaf_no rfl (by rw [th_z3]; exact rc_z0 c) (fun z => h ((rc_has c).mp (th_hasN.mp z))))
theorem kn_hbX {S : am_S} {lt th : Nat → Nat} {p : Nat} : ∀ j, Kn S (hbX S lt th p j).1
  | 0 => Kn.r
  | j + 1 => by
    unfold hbX
    split
    · exact kn_hbX j
    · exact (kn_hbX j).t kn_min
theorem kn_crX {S : am_S} {lt th : Nat → Nat} {n : Nat} : ∀ j, Kn S (crX S lt th n j).1
  | 0 => Kn.r
  | j + 1 => by
    unfold crX
    exact (kn_crX j).t (kn_hbX n)
theorem hb_ws {S W T : am_S} {n nw one : Nat} (R : RC S n nw) (k : Kp S T) (h1 : one < n) (hW : ∀ o, o < 18 → gI W o = gI S o) : ∀ j, j ≤ n → (hbX W (ltS S) (thS S) one j).2 = if wsM T (ltS S) (thS S) n one j < 1000000 then nI (wsM T (ltS S) (thS S) n one j) else -2
  | 0, _ => by
    rw [hbX, wsM, if_pos (by decide)]
    rfl
  | j + 1, hj => by
    have h6 := rc_n6 R
    have ih := hb_ws R k h1 hW j (by omega)
    unfold hbX wsM
    by_cases e : j = one
    · rw [if_pos (Or.inr e), if_pos e]
      exact ih
    · have hm : mnM (farR T (ltS S) (thS S) j n n) one = (bstW S (ltS S) (thS S) one j 4).1 := rc_mn R k h1 (by omega) (fun z => e z.symm)
      rw [if_neg e, hm]
      generalize wsM T (ltS S) (thS S) n one j = x at *
      by_cases z : x < 1000000
      · rw [if_pos z] at ih
        rw [ih, if_neg (fun y => y.elim (fun u => nI_n2 (by omega) u) e)]
        show (if minuV W (ltS S) (thS S) one j = -2 then (-2 : Int32) else maxI (nI x) (minuV W (ltS S) (thS S) one j)) = _
        rw [minuV_congr hW (by omega) (by omega)]
        by_cases y : (bstW S (ltS S) (thS S) one j 4).1 < 1000000
        · rw [if_neg (fun u => minuV_2.mp u y), minuV_1 y, if_pos (by omega)]
          unfold maxI
          exact max_nI (by omega) (by omega)
        · rw [if_pos (minuV_2.mpr y), if_neg (by omega)]
      · rw [if_neg z] at ih
        rw [if_pos (Or.inl ih), ih, if_neg (by omega)]
theorem cr_eq {S T : am_S} {n nw : Nat} (R : RC S n nw) (k : Kp S T) : ∀ i, i ≤ n → (crX S (ltS S) (thS S) n i).2 = (crA (crM T (ltS S) (thS S) n i).1, nI (crM T (ltS S) (thS S) n i).2)
  | 0, _ => rfl
  | i + 1, hi => by
    have h6 := rc_n6 R
    have ih := cr_eq R k i (by omega)
    have hb := hb_ws (one := i) R k (by omega) (fun o ho => crX_ne (S := S) (lt := ltS S) (th := thS S) (n := n) (a := o) (by omega) (by omega) i) n (Nat.le_refl _)
    have wl := wsM_le (S := T) (lt := ltS S) (th := thS S) (n := n) (one := i) n
    have cl := crM_le (S := T) (lt := ltS S) (th := thS S) (n := n) i
    unfold crX crM
    show (if ¬ (hbX (crX S (ltS S) (thS S) n i).1 (ltS S) (thS S) i n).2 = -2 ∧ ((crX S (ltS S) (thS S) n i).2.1 = -2 ∨ (hbX (crX S (ltS S) (thS S) n i).1 (ltS S) (thS S) i n).2 < (crX S (ltS S) (thS S) n i).2.2) then (nI i, (hbX (crX S (ltS S) (thS S) n i).1 (ltS S) (thS S) i n).2) else (crX S (ltS S) (thS S) n i).2) = _
    rw [hb, ih]
    generalize wsM T (ltS S) (thS S) n i n = x at *
    generalize crM T (ltS S) (thS S) n i = y at *
    show (if ¬ (if x < 1000000 then nI x else -2) = -2 ∧ (crA y.1 = -2 ∨ (if x < 1000000 then nI x else -2) < nI y.2) then (nI i, (if x < 1000000 then nI x else -2)) else (crA y.1, nI y.2)) = _
    have ca : crA y.1 = -2 ↔ y.1 = none := by
      constructor
      · intro z
        cases hy : y.1 with
        | none => rfl
        | some a =>
          rw [hy] at z
          have := cl.2 a hy
          exact absurd z (nI_n2 (by omega))
      · intro z
        rw [z]
        rfl
    by_cases z : x < 1000000
    · rw [if_pos z]
      have cw : (crA y.1 = -2 ∨ nI x < nI y.2) ↔ (y.1 = none ∨ x < y.2) := by rw [ca, nI_ltI (by omega) (by omega)]
      by_cases w : y.1 = none ∨ x < y.2
      · rw [if_pos ⟨nI_n2 (by omega), cw.mpr w⟩, if_pos ⟨z, w⟩]
        rfl
      · rw [if_neg (fun u => w (cw.mp u.2)), if_neg (fun u => w u.2)]
    · rw [if_neg z, if_neg (fun u => u.1 rfl), if_neg (fun u => z u.1)]
theorem jn_crier {d : Nat} {S : am_S} (R : RM S) : Jn (d + 700) iX10_crier [.ref 0] iX11_crier [.ref 97] S := by
  have R0 := R
  obtain ⟨n, nw, c, tl⟩ := R
  have h6 := rc_n6 c
  by_cases h : 2 ≤ n
  · have A : am_CT (d + 700) _ _ _ _ _ := ct_X10_crier_ok (rc_n1 c) h6 (rc_Pp c) h
    have ka := kn_crX (S := S) (lt := ltS S) (th := thS S) (n := n) n
    have cl : ∀ T, (∀ x, (crM T (ltS S) (thS S) n n).1 = some x → x < n) := fun T => (crM_le (S := T) (lt := ltS S) (th := thS S) (n := n) n).2
    have ce := cr_eq c (Kp.r (S := S)) n (Nat.le_refl _)
    by_cases e : (crM S (ltS S) (thS S) n n).1 = none
    · have e1 : (crX S (ltS S) (thS S) n n).2.1 = -2 := by rw [ce, e]; rfl
      rw [if_pos e1] at A
      have k1 : Kn S (uI (crX S (ltS S) (thS S) n n).1 97 0 0) := ka.t kn_th
      have B : am_CE (d + 700) _ _ _ _ _ := ct_X11_crier_ok (S := (crX S (ltS S) (thS S) n n).1) rfl (rc_pm c k1.1) (rc_n2 (rc_k k1.1 c)) h6 h
      have ce2 := cr_eq c k1.1 n (Nat.le_refl _)
      have e2 : crA (crM (uI (crX S (ltS S) (thS S) n n).1 97 0 0) (ltS S) (thS S) n n).1 = -2 := by rw [← e1, ce2]
      have e3 : (crM (uI (crX S (ltS S) (thS S) n n).1 97 0 0) (ltS S) (thS S) n n).1 = none := by
        cases hy : (crM (uI (crX S (ltS S) (thS S) n n).1 97 0 0) (ltS S) (thS S) n n).1 with
        | none => rfl
        | some a =>
          rw [hy] at e2
          have := cl _ a hy
          exact absurd e2 (nI_n2 (by omega))
      rw [e2] at B
      rw [e1] at A
      refine jn_TE A B (fun U hU => ?_)
      obtain ⟨U1, hU1, hU⟩ := hU
      rw [if_pos e3] at hU
      rw [hU]
      exact rm_kn (k1.t (kn_frW hU1)) R0
    · have e1 : ¬ (crX S (ltS S) (thS S) n n).2.1 = -2 := by
        rw [ce]
        cases hy : (crM S (ltS S) (thS S) n n).1 with
        | none => exact absurd hy e
        | some a =>
          have := cl _ a hy
          exact nI_n2 (by omega)
      rw [if_neg e1] at A
      generalize hC : t1 (crX S (ltS S) (thS S) n n).1 (crX S (ltS S) (thS S) n n).2.2.toInt64 = C at A
      have k0 : Kp S C := by rw [← hC]; exact ka.1.t kp_t1
      have k1 : Kp S (uI C 97 0 0) := k0.t kp_th
      have B : am_CE (d + 700) _ _ _ _ _ := ct_X11_crier_ok (S := C) rfl (rc_pm c k1) (rc_n2 (rc_k k1 c)) h6 h
      have ce2 := cr_eq c k1 n (Nat.le_refl _)
      have e2 : crA (crM (uI C 97 0 0) (ltS S) (thS S) n n).1 = (crX S (ltS S) (thS S) n n).2.1 := by rw [ce2]
      have e4 : nI (crM (uI C 97 0 0) (ltS S) (thS S) n n).2 = (crX S (ltS S) (thS S) n n).2.2 := by rw [ce2]
      have e3 : ¬ (crM (uI C 97 0 0) (ltS S) (thS S) n n).1 = none := fun z => by
        rw [z] at e2
        exact e1 e2.symm
      rw [e2] at B
      refine jn_TE A B (fun U hU => ?_)
      obtain ⟨U1, hU1, hU⟩ := hU
      rw [if_neg e3, e4] at hU
      rw [hU]
      exact rm_1 R0 (C := C) k0 (by rw [← hC]; exact tC_1) (kp_th.t (kn_frW hU1).1) (kc_th.t (kn_frW hU1).c)
  · have h1 : gI S 1 1 < 2 := by rw [rc_n1 c]; exact nI_lt (b := 2) (by omega) (by decide)
    refine jn_no R0 (ct_X10_crier_no h1) (ct_X11_crier_no rfl ?_)
    rw [th_z3, rc_n2 c]
    exact nI_lt (b := 2) (by omega) (by decide)
