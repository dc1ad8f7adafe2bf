/-! The relation behind a change of one part. -/
theorem rc_ppl {S T : am_S} {n nw : Nat} (h : ∀ o k, ¬ scr o k → ¬ xPpl o k → gI T o k = gI S o k) (hr : ∀ c, gR T c = gR S c) (R : RC S n nw) (gPpl : rPpl T n) (gNer : rNer T n) : RC T n nw := by
  obtain ⟨r1, r2, r3, r4, r5, r6, r7, r8, r9, r10, r11⟩ := R
  refine ⟨gPpl, gNer, rFog_c (fun o k z => h o k ?_ ?_) r3, rBem_c (fun o k z => h o k ?_ ?_) r4, rCrs_c (fun o k z => h o k ?_ ?_) r5, rKpt_c (fun o k z => h o k ?_ ?_) (fun c _ => hr c) r6, rFrm_c (fun o k z => h o k ?_ ?_) r7, rPay_c (fun o k z => h o k ?_ ?_) r8, rIdl_c (fun o k z => h o k ?_ ?_) r9, rTxt_c (fun o k z => h o k ?_ ?_) r10, rRef_c (fun c _ => hr c) r11⟩
  · unfold xFog at z; unfold scr; omega
  · unfold xFog at z; unfold xPpl; omega
  · unfold xBem at z; unfold scr; omega
  · unfold xBem at z; unfold xPpl; omega
  · unfold xCrs at z; unfold scr; omega
  · unfold xCrs at z; unfold xPpl; omega
  · unfold xKpt at z; unfold scr; omega
  · unfold xKpt at z; unfold xPpl; omega
  · unfold xFrm at z; unfold scr; omega
  · unfold xFrm at z; unfold xPpl; omega
  · unfold xPay at z; unfold scr; omega
  · unfold xPay at z; unfold xPpl; omega
  · unfold xIdl at z; unfold scr; omega
  · unfold xIdl at z; unfold xPpl; omega
  · unfold xTxt at z; unfold scr; omega
  · unfold xTxt at z; unfold xPpl; omega
theorem rc_fog {S T : am_S} {n nw : Nat} (h : ∀ o k, ¬ scr o k → ¬ xFog o → gI T o k = gI S o k) (hr : ∀ c, gR T c = gR S c) (R : RC S n nw) (gFog : rFog T n) : RC T n nw := by
  obtain ⟨r1, r2, r3, r4, r5, r6, r7, r8, r9, r10, r11⟩ := R
  refine ⟨rPpl_c (fun o k z => h o k ?_ ?_) r1, rNer_c (fun k => h 102 k ?_ ?_) r2, gFog, rBem_c (fun o k z => h o k ?_ ?_) r4, rCrs_c (fun o k z => h o k ?_ ?_) r5, rKpt_c (fun o k z => h o k ?_ ?_) (fun c _ => hr c) r6, rFrm_c (fun o k z => h o k ?_ ?_) r7, rPay_c (fun o k z => h o k ?_ ?_) r8, rIdl_c (fun o k z => h o k ?_ ?_) r9, rTxt_c (fun o k z => h o k ?_ ?_) r10, rRef_c (fun c _ => hr c) r11⟩
  · unfold xPpl at z; unfold scr; omega
  · unfold xPpl at z; unfold xFog; omega
  · unfold scr; omega
  · unfold xFog; omega
  · unfold xBem at z; unfold scr; omega
  · unfold xBem at z; unfold xFog; omega
  · unfold xCrs at z; unfold scr; omega
  · unfold xCrs at z; unfold xFog; omega
  · unfold xKpt at z; unfold scr; omega
  · unfold xKpt at z; unfold xFog; omega
  · unfold xFrm at z; unfold scr; omega
  · unfold xFrm at z; unfold xFog; omega
  · unfold xPay at z; unfold scr; omega
  · unfold xPay at z; unfold xFog; omega
  · unfold xIdl at z; unfold scr; omega
  · unfold xIdl at z; unfold xFog; omega
  · unfold xTxt at z; unfold scr; omega
  · unfold xTxt at z; unfold xFog; omega
theorem rc_bem {S T : am_S} {n nw : Nat} (h : ∀ o k, ¬ scr o k → ¬ xBem o k → gI T o k = gI S o k) (hr : ∀ c, gR T c = gR S c) (R : RC S n nw) (gBem : rBem T) : RC T n nw := by
  obtain ⟨r1, r2, r3, r4, r5, r6, r7, r8, r9, r10, r11⟩ := R
  refine ⟨rPpl_c (fun o k z => h o k ?_ ?_) r1, rNer_c (fun k => h 102 k ?_ ?_) r2, rFog_c (fun o k z => h o k ?_ ?_) r3, gBem, rCrs_c (fun o k z => h o k ?_ ?_) r5, rKpt_c (fun o k z => h o k ?_ ?_) (fun c _ => hr c) r6, rFrm_c (fun o k z => h o k ?_ ?_) r7, rPay_c (fun o k z => h o k ?_ ?_) r8, rIdl_c (fun o k z => h o k ?_ ?_) r9, rTxt_c (fun o k z => h o k ?_ ?_) r10, rRef_c (fun c _ => hr c) r11⟩
  · unfold xPpl at z; unfold scr; omega
  · unfold xPpl at z; unfold xBem; omega
  · unfold scr; omega
  · unfold xBem; omega
  · unfold xFog at z; unfold scr; omega
  · unfold xFog at z; unfold xBem; omega
  · unfold xCrs at z; unfold scr; omega
  · unfold xCrs at z; unfold xBem; omega
  · unfold xKpt at z; unfold scr; omega
  · unfold xKpt at z; unfold xBem; omega
  · unfold xFrm at z; unfold scr; omega
  · unfold xFrm at z; unfold xBem; omega
  · unfold xPay at z; unfold scr; omega
  · unfold xPay at z; unfold xBem; omega
  · unfold xIdl at z; unfold scr; omega
  · unfold xIdl at z; unfold xBem; omega
  · unfold xTxt at z; unfold scr; omega
  · unfold xTxt at z; unfold xBem; omega
theorem rc_crs {S T : am_S} {n nw nw2 : Nat} (h : ∀ o k, ¬ scr o k → ¬ xCrs o k → gI T o k = gI S o k) (hr : ∀ c, gR T c = gR S c) (R : RC S n nw) (gCrs : rCrs T n nw2) : RC T n nw2 := by
  obtain ⟨r1, r2, r3, r4, r5, r6, r7, r8, r9, r10, r11⟩ := R
  refine ⟨rPpl_c (fun o k z => h o k ?_ ?_) r1, rNer_c (fun k => h 102 k ?_ ?_) r2, rFog_c (fun o k z => h o k ?_ ?_) r3, rBem_c (fun o k z => h o k ?_ ?_) r4, gCrs, rKpt_c (fun o k z => h o k ?_ ?_) (fun c _ => hr c) r6, rFrm_c (fun o k z => h o k ?_ ?_) r7, rPay_c (fun o k z => h o k ?_ ?_) r8, rIdl_c (fun o k z => h o k ?_ ?_) r9, rTxt_c (fun o k z => h o k ?_ ?_) r10, rRef_c (fun c _ => hr c) r11⟩
  · unfold xPpl at z; unfold scr; omega
  · unfold xPpl at z; unfold xCrs; omega
  · unfold scr; omega
  · unfold xCrs; omega
  · unfold xFog at z; unfold scr; omega
  · unfold xFog at z; unfold xCrs; omega
  · unfold xBem at z; unfold scr; omega
  · unfold xBem at z; unfold xCrs; omega
  · unfold xKpt at z; unfold scr; omega
  · unfold xKpt at z; unfold xCrs; omega
  · unfold xFrm at z; unfold scr; omega
  · unfold xFrm at z; unfold xCrs; omega
  · unfold xPay at z; unfold scr; omega
  · unfold xPay at z; unfold xCrs; omega
  · unfold xIdl at z; unfold scr; omega
  · unfold xIdl at z; unfold xCrs; omega
  · unfold xTxt at z; unfold scr; omega
  · unfold xTxt at z; unfold xCrs; omega
theorem rc_kpt {S T : am_S} {n nw : Nat} (h : ∀ o k, ¬ scr o k → ¬ xKpt o → gI T o k = gI S o k) (R : RC S n nw) (gKpt : rKpt T n) (gRef : rRef T) : RC T n nw := by
  obtain ⟨r1, r2, r3, r4, r5, r6, r7, r8, r9, r10, r11⟩ := R
  refine ⟨rPpl_c (fun o k z => h o k ?_ ?_) r1, rNer_c (fun k => h 102 k ?_ ?_) r2, rFog_c (fun o k z => h o k ?_ ?_) r3, rBem_c (fun o k z => h o k ?_ ?_) r4, rCrs_c (fun o k z => h o k ?_ ?_) r5, gKpt, rFrm_c (fun o k z => h o k ?_ ?_) r7, rPay_c (fun o k z => h o k ?_ ?_) r8, rIdl_c (fun o k z => h o k ?_ ?_) r9, rTxt_c (fun o k z => h o k ?_ ?_) r10, gRef⟩
  · unfold xPpl at z; unfold scr; omega
  · unfold xPpl at z; unfold xKpt; omega
  · unfold scr; omega
  · unfold xKpt; omega
  · unfold xFog at z; unfold scr; omega
  · unfold xFog at z; unfold xKpt; omega
  · unfold xBem at z; unfold scr; omega
  · unfold xBem at z; unfold xKpt; omega
  · unfold xCrs at z; unfold scr; omega
  · unfold xCrs at z; unfold xKpt; omega
  · unfold xFrm at z; unfold scr; omega
  · unfold xFrm at z; unfold xKpt; omega
  · unfold xPay at z; unfold scr; omega
  · unfold xPay at z; unfold xKpt; omega
  · unfold xIdl at z; unfold scr; omega
  · unfold xIdl at z; unfold xKpt; omega
  · unfold xTxt at z; unfold scr; omega
  · unfold xTxt at z; unfold xKpt; omega
theorem rc_frm {S T : am_S} {n nw : Nat} (h : ∀ o k, ¬ scr o k → ¬ xFrm o k → ¬ xTxt o k → gI T o k = gI S o k) (hr : ∀ c, gR T c = gR S c) (R : RC S n nw) (gFrm : rFrm T) (gTxt : rTxt T) : RC T n nw := by
  obtain ⟨r1, r2, r3, r4, r5, r6, r7, r8, r9, r10, r11⟩ := R
  refine ⟨rPpl_c (fun o k z => h o k ?_ ?_ ?_) r1, rNer_c (fun k => h 102 k ?_ ?_ ?_) r2, rFog_c (fun o k z => h o k ?_ ?_ ?_) r3, rBem_c (fun o k z => h o k ?_ ?_ ?_) r4, rCrs_c (fun o k z => h o k ?_ ?_ ?_) r5, rKpt_c (fun o k z => h o k ?_ ?_ ?_) (fun c _ => hr c) r6, gFrm, rPay_c (fun o k z => h o k ?_ ?_ ?_) r8, rIdl_c (fun o k z => h o k ?_ ?_ ?_) r9, gTxt, rRef_c (fun c _ => hr c) r11⟩
  · unfold xPpl at z; unfold scr; omega
  · unfold xPpl at z; unfold xFrm; omega
  · unfold xPpl at z; unfold xTxt; omega
  · unfold scr; omega
  · unfold xFrm; omega
  · unfold xTxt; omega
  · unfold xFog at z; unfold scr; omega
  · unfold xFog at z; unfold xFrm; omega
  · unfold xFog at z; unfold xTxt; omega
  · unfold xBem at z; unfold scr; omega
  · unfold xBem at z; unfold xFrm; omega
  · unfold xBem at z; unfold xTxt; omega
  · unfold xCrs at z; unfold scr; omega
  · unfold xCrs at z; unfold xFrm; omega
  · unfold xCrs at z; unfold xTxt; omega
  · unfold xKpt at z; unfold scr; omega
  · unfold xKpt at z; unfold xFrm; omega
  · unfold xKpt at z; unfold xTxt; omega
  · unfold xPay at z; unfold scr; omega
  · unfold xPay at z; unfold xFrm; omega
  · unfold xPay at z; unfold xTxt; omega
  · unfold xIdl at z; unfold scr; omega
  · unfold xIdl at z; unfold xFrm; omega
  · unfold xIdl at z; unfold xTxt; omega
theorem rc_pay {S T : am_S} {n nw : Nat} (h : ∀ o k, ¬ scr o k → ¬ xPay o k → ¬ xTxt o k → gI T o k = gI S o k) (hr : ∀ c, gR T c = gR S c) (R : RC S n nw) (gPay : rPay T) (gTxt : rTxt T) : RC T n nw := by
  obtain ⟨r1, r2, r3, r4, r5, r6, r7, r8, r9, r10, r11⟩ := R
  refine ⟨rPpl_c (fun o k z => h o k ?_ ?_ ?_) r1, rNer_c (fun k => h 102 k ?_ ?_ ?_) r2, rFog_c (fun o k z => h o k ?_ ?_ ?_) r3, rBem_c (fun o k z => h o k ?_ ?_ ?_) r4, rCrs_c (fun o k z => h o k ?_ ?_ ?_) r5, rKpt_c (fun o k z => h o k ?_ ?_ ?_) (fun c _ => hr c) r6, rFrm_c (fun o k z => h o k ?_ ?_ ?_) r7, gPay, rIdl_c (fun o k z => h o k ?_ ?_ ?_) r9, gTxt, rRef_c (fun c _ => hr c) r11⟩
  · unfold xPpl at z; unfold scr; omega
  · unfold xPpl at z; unfold xPay; omega
  · unfold xPpl at z; unfold xTxt; omega
  · unfold scr; omega
  · unfold xPay; omega
  · unfold xTxt; omega
  · unfold xFog at z; unfold scr; omega
  · unfold xFog at z; unfold xPay; omega
  · unfold xFog at z; unfold xTxt; omega
  · unfold xBem at z; unfold scr; omega
  · unfold xBem at z; unfold xPay; omega
  · unfold xBem at z; unfold xTxt; omega
  · unfold xCrs at z; unfold scr; omega
  · unfold xCrs at z; unfold xPay; omega
  · unfold xCrs at z; unfold xTxt; omega
  · unfold xKpt at z; unfold scr; omega
  · unfold xKpt at z; unfold xPay; omega
  · unfold xKpt at z; unfold xTxt; omega
  · unfold xFrm at z; unfold scr; omega
  · unfold xFrm at z; unfold xPay; omega
  · unfold xFrm at z; unfold xTxt; omega
  · unfold xIdl at z; unfold scr; omega
  · unfold xIdl at z; unfold xPay; omega
  · unfold xIdl at z; unfold xTxt; omega
theorem rc_txt {S T : am_S} {n nw : Nat} (h : ∀ o k, ¬ scr o k → ¬ xTxt o k → gI T o k = gI S o k) (hr : ∀ c, gR T c = gR S c) (R : RC S n nw) (gTxt : rTxt T) : RC T n nw := by
  obtain ⟨r1, r2, r3, r4, r5, r6, r7, r8, r9, r10, r11⟩ := R
  refine ⟨rPpl_c (fun o k z => h o k ?_ ?_) r1, rNer_c (fun k => h 102 k ?_ ?_) r2, rFog_c (fun o k z => h o k ?_ ?_) r3, rBem_c (fun o k z => h o k ?_ ?_) r4, rCrs_c (fun o k z => h o k ?_ ?_) r5, rKpt_c (fun o k z => h o k ?_ ?_) (fun c _ => hr c) r6, rFrm_c (fun o k z => h o k ?_ ?_) r7, rPay_c (fun o k z => h o k ?_ ?_) r8, rIdl_c (fun o k z => h o k ?_ ?_) r9, gTxt, rRef_c (fun c _ => hr c) r11⟩
  · unfold xPpl at z; unfold scr; omega
  · unfold xPpl at z; unfold xTxt; omega
  · unfold scr; omega
  · unfold xTxt; omega
  · unfold xFog at z; unfold scr; omega
  · unfold xFog at z; unfold xTxt; omega
  · unfold xBem at z; unfold scr; omega
  · unfold xBem at z; unfold xTxt; omega
  · unfold xCrs at z; unfold scr; omega
  · unfold xCrs at z; unfold xTxt; omega
  · unfold xKpt at z; unfold scr; omega
  · unfold xKpt at z; unfold xTxt; omega
  · unfold xFrm at z; unfold scr; omega
  · unfold xFrm at z; unfold xTxt; omega
  · unfold xPay at z; unfold scr; omega
  · unfold xPay at z; unfold xTxt; omega
  · unfold xIdl at z; unfold scr; omega
  · unfold xIdl at z; unfold xTxt; omega
theorem gI_un {S : am_S} {a b o k : Nat} {v : Int32} (h : o = a → k = b → False) : gI (uI S a b v) o k = gI S o k := by
  rw [gI_uI]
  split
  · split
    · exact (h (by assumption) (by assumption)).elim
    · rfl
  · rfl
theorem gI_at {S : am_S} {a b : Nat} {v : Int32} : gI (uI S a b v) a b = v := by rw [gI_uI, if_pos rfl, if_pos rfl]
theorem gI_ua {S : am_S} {a b o k : Nat} {v : Int32} (h1 : o = a) (h2 : k = b) : gI (uI S a b v) o k = v := by rw [gI_uI, if_pos h1, if_pos h2]
/-! Who is one of people, on both sides. -/
theorem rc_n1 {S : am_S} {n nw : Nat} (R : RC S n nw) : gI S 1 1 = nI n := R.1.2.1
theorem rc_n2 {S : am_S} {n nw : Nat} (R : RC S n nw) : gI S 97 3 = nI n := R.1.2.2.1
theorem rc_n6 {S : am_S} {n nw : Nat} (R : RC S n nw) : n ≤ 6 := R.1.1
theorem rc_z1 {S : am_S} {n nw : Nat} (R : RC S n nw) : gI S 1 1 ≤ 6 := by rw [rc_n1 R]; exact nI_le (rc_n6 R) (by decide)
theorem rc_z2 {S : am_S} {n nw : Nat} (R : RC S n nw) : gI S 97 3 ≤ 6 := by rw [rc_n2 R]; exact nI_le (rc_n6 R) (by decide)
theorem rc_z0 {S : am_S} {n nw : Nat} (R : RC S n nw) : 0 ≤ gI S 97 3 := zM (rc_n2 R) (rc_n6 R)
theorem rc_has {S : am_S} {n nw : Nat} {p : Int32} (R : RC S n nw) : hasM S p ↔ hasP S p := by
  unfold hasM hasP
  rw [rc_n1 R, rc_n2 R]
theorem rc_two {S : am_S} {n nw : Nat} {p q : Int32} (R : RC S n nw) : twoM S p q ↔ twoP S p q := by
  unfold twoM twoP
  rw [rc_has R, rc_has R]
theorem rc_hasN {S : am_S} {n nw : Nat} {p : Int32} (R : RC S n nw) (h : hasP S p) : ∃ j, j < n ∧ p = nI j := by
  have h6 := rc_n6 R
  refine ⟨p.toNatClampNeg, ?_, nI_cl h.1⟩
  have h2 := h.2
  rw [rc_n1 R] at h2
  exact cl_lt h.1 h2 (by omega)
theorem rc_twoN {S : am_S} {n nw : Nat} {p q : Int32} (R : RC S n nw) (h : twoP S p q) : ∃ i j, i < n ∧ j < n ∧ i ≠ j ∧ p = nI i ∧ q = nI j := by
  obtain ⟨i, hi, rfl⟩ := rc_hasN R h.1
  obtain ⟨j, hj, rfl⟩ := rc_hasN R h.2.1
  exact ⟨i, j, hi, hj, fun z => h.2.2 (by rw [z]), rfl, rfl⟩
def ltS (S : am_S) (p : Nat) : Nat := (gI S 99 p).toNatClampNeg
def stS (S : am_S) (p : Nat) : Nat := (gI S 100 p).toNatClampNeg
def thS (S : am_S) (p : Nat) : Nat := (gI S 101 p).toNatClampNeg
theorem rc_PM {S : am_S} {n nw : Nat} (R : RC S n nw) : PM S (ltS S) (stS S) (thS S) := fun p hp => by
  obtain ⟨-, a, b, c⟩ := R.1.2.2.2 p hp
  have e1 := nI_cl a.1
  have e2 := nI_cl b.1
  have e3 := nI_cl c.1
  have f1 : ltS S p < 21 := cl_lt a.1 (by have := a.2; grind) (by decide)
  have f2 : stS S p < 21 := cl_lt b.1 (by have := b.2; grind) (by decide)
  have f3 : thS S p < 10 := cl_lt c.1 (by have := c.2; grind) (by decide)
  exact ⟨e1, by omega, e2, by omega, e3, by omega⟩
theorem rc_Pp {S : am_S} {n nw : Nat} (R : RC S n nw) : PplOk (ltS S) (thS S) S := fun p hp => by
  obtain ⟨a, b, -, -, e, f⟩ := rc_PM R p hp
  obtain ⟨g, -⟩ := R.1.2.2.2 p hp
  exact ⟨g.1.trans a, b, g.2.2.1.trans e, f⟩
theorem lt_k {S T : am_S} (h : Kp S T) : ltS T = ltS S ∧ stS T = stS S ∧ thS T = thS S := by
  refine ⟨funext fun p => ?_, funext fun p => ?_, funext fun p => ?_⟩
  · unfold ltS; rw [h.1 99 p (by unfold scr; omega)]
  · unfold stS; rw [h.1 100 p (by unfold scr; omega)]
  · unfold thS; rw [h.1 101 p (by unfold scr; omega)]
/-! What is told, on both sides. -/
theorem kp_th {S : am_S} {v : Int32} : Kp S (uI S 97 0 v) := kn_th.1
theorem kp_u {S : am_S} {a b : Nat} {v : Int32} (h : scr a b) : Kp S (uI S a b v) := ⟨fun o k hs => gI_un (fun z1 z2 => hs (by rw [z1, z2]; exact h)), fun _ => rfl⟩
theorem kp_uJ {S : am_S} {a b : Nat} {v : Int64} : Kp S (uJ S a b v) := ⟨fun _ _ _ => rfl, fun _ => rfl⟩
theorem kp_rJ {S : am_S} {a : Nat} {g : Nat → Int64} : Kp S (rJ S a g) := ⟨fun _ _ _ => rfl, fun _ => rfl⟩
theorem kp_r {S : am_S} {a : Nat} {g : Nat → Int32} (h : ∀ k, scr a k) : Kp S (rI S a g) := ⟨fun o k hs => by
  rw [gI_rI, if_neg (fun z => hs (by rw [z]; exact h k))], fun _ => rfl⟩
theorem kp_tAdd {S : am_S} {v : Int64} {n : Nat} : Kp S (tAdd S v n) := kp_uJ.t (kp_u (by unfold scr; omega))
theorem kp_t0 {S : am_S} {v : Int32} : Kp S (uI S 74 1 v) := kp_u (by unfold scr; omega)
theorem kp_e0 {S : am_S} {v : Int32} : Kp S (uI S 97 1 v) := kp_u (by unfold scr; omega)
theorem kp_t1 {S : am_S} {a : Int64} : Kp S (t1 S a) := kp_t0.t kp_tAdd
theorem kp_t2 {S : am_S} {a b : Int64} : Kp S (t2 S a b) := kp_t1.t kp_tAdd
theorem kp_t3 {S : am_S} {a b c : Int64} : Kp S (t3 S a b c) := kp_t2.t kp_tAdd
theorem kp_eAdd {S : am_S} {v : Int64} {n : Nat} : Kp S (eAdd S v n) := kp_uJ.t (kp_u (by unfold scr; omega))
theorem kp_e1 {S : am_S} {a : Int64} : Kp S (e1 S a) := kp_e0.t kp_eAdd
theorem kp_e2 {S : am_S} {a b : Int64} : Kp S (e2 S a b) := kp_e1.t kp_eAdd
theorem kp_e3 {S : am_S} {a b c : Int64} : Kp S (e3 S a b c) := kp_e2.t kp_eAdd
/-- the class has told n numbers f -/
def tC (S : am_S) (n : Nat) (f : Nat → Int64) : Prop := gI S 74 1 = nI n ∧ ∀ j, j < n → gJ S 75 j = f j
def tM (S : am_S) (n : Nat) (f : Nat → Int64) : Prop := gI S 97 1 = nI n ∧ ∀ j, j < n → gJ S 98 j = f j
theorem tld_of {S : am_S} {n : Nat} {f : Nat → Int64} (h6 : n ≤ 6) (h1 : tC S n f) (h2 : tM S n f) : rTld S := ⟨n, h6, h1.1, h2.1, fun j hj => by rw [h1.2 j hj, h2.2 j hj]⟩
theorem tC_k {S T : am_S} {n : Nat} {f : Nat → Int64} (h1 : gI T 74 1 = gI S 74 1) (h2 : ∀ j, gJ T 75 j = gJ S 75 j) (h : tC S n f) : tC T n f := ⟨by rw [h1, h.1], fun j hj => by rw [h2, h.2 j hj]⟩
theorem tC_0 {S : am_S} {f : Nat → Int64} : tC (uI S 74 1 0) 0 f := ⟨gI_at, fun j hj => absurd hj (Nat.not_lt_zero j)⟩
theorem tC_a {S : am_S} {n : Nat} {f : Nat → Int64} {v : Int64} (h : tC S n f) (hv : f n = v) : tC (tAdd S v n) (n + 1) f := ⟨gI_at, fun j hj => by
  show gJ (uJ S 75 n v) 75 j = f j
  rw [gJ_uJ, if_pos rfl]
  split
  · rename_i e; rw [e, hv]
  · exact h.2 j (by omega)⟩
theorem tM_0 {S : am_S} {f : Nat → Int64} : tM (uI S 97 1 0) 0 f := ⟨gI_at, fun j hj => absurd hj (Nat.not_lt_zero j)⟩
theorem tM_a {S : am_S} {n : Nat} {f : Nat → Int64} {v : Int64} (h : tM S n f) (hv : f n = v) : tM (eAdd S v n) (n + 1) f := ⟨gI_at, fun j hj => by
  show gJ (uJ S 98 n v) 98 j = f j
  rw [gJ_uJ, if_pos rfl]
  split
  · rename_i e; rw [e, hv]
  · exact h.2 j (by omega)⟩
def f1 (a : Int64) : Nat → Int64 := fun _ => a
def f2 (a b : Int64) : Nat → Int64 := fun j => if j = 0 then a else b
def f3 (a b c : Int64) : Nat → Int64 := fun j => if j = 0 then a else if j = 1 then b else c
theorem tC_1 {S : am_S} {a : Int64} : tC (t1 S a) 1 (f1 a) := tC_a tC_0 rfl
theorem tC_2 {S : am_S} {a b : Int64} : tC (t2 S a b) 2 (f2 a b) := tC_a (tC_a tC_0 rfl) rfl
theorem tC_3 {S : am_S} {a b c : Int64} : tC (t3 S a b c) 3 (f3 a b c) := tC_a (tC_a (tC_a tC_0 rfl) rfl) rfl
theorem tM_1 {S : am_S} {a : Int64} : tM (e1 S a) 1 (f1 a) := tM_a tM_0 rfl
theorem tM_2 {S : am_S} {a b : Int64} : tM (e2 S a b) 2 (f2 a b) := tM_a (tM_a tM_0 rfl) rfl
theorem tM_3 {S : am_S} {a b c : Int64} : tM (e3 S a b c) 3 (f3 a b c) := tM_a (tM_a (tM_a tM_0 rfl) rfl) rfl
/-- the class's numbers told stay -/
def Kc (S T : am_S) : Prop := gI T 74 1 = gI S 74 1 ∧ ∀ j, gJ T 75 j = gJ S 75 j
theorem Kc.t {S T U : am_S} (h : Kc S T) (h2 : Kc T U) : Kc S U := ⟨by rw [h2.1, h.1], fun j => by rw [h2.2, h.2]⟩
theorem kc_th {S : am_S} {v : Int32} : Kc S (uI S 97 0 v) := ⟨gI_un (by omega), fun _ => rfl⟩
theorem kc_e0 {S : am_S} {v : Int32} : Kc S (uI S 97 1 v) := ⟨gI_un (by omega), fun _ => rfl⟩
theorem kc_eAdd {S : am_S} {v : Int64} {n : Nat} : Kc S (eAdd S v n) := ⟨gI_un (by omega), fun j => by
  show gJ (uJ S 98 n v) 75 j = _
  rw [gJ_uJ, if_neg (by decide)]⟩
theorem kc_e1 {S : am_S} {a : Int64} : Kc S (e1 S a) := kc_e0.t kc_eAdd
theorem kc_e2 {S : am_S} {a b : Int64} : Kc S (e2 S a b) := kc_e1.t kc_eAdd
theorem kc_e3 {S : am_S} {a b c : Int64} : Kc S (e3 S a b c) := kc_e2.t kc_eAdd
theorem rm_1 {S C T : am_S} {a : Int64} (R : RM S) (h1 : Kp S C) (hC : tC C 1 (f1 a)) (h2 : Kp C T) (h3 : Kc C T) : RM (e1 T a) := by
  obtain ⟨n, nw, a, b⟩ := R
  exact ⟨n, nw, rc_k ((h1.t h2).t kp_e1) a, tld_of (by decide) (tC_k (h3.t kc_e1).1 (h3.t kc_e1).2 hC) tM_1⟩
theorem rm_2 {S C T : am_S} {a b : Int64} (R : RM S) (h1 : Kp S C) (hC : tC C 2 (f2 a b)) (h2 : Kp C T) (h3 : Kc C T) : RM (e2 T a b) := by
  obtain ⟨n, nw, a, b⟩ := R
  exact ⟨n, nw, rc_k ((h1.t h2).t kp_e2) a, tld_of (by decide) (tC_k (h3.t kc_e2).1 (h3.t kc_e2).2 hC) tM_2⟩
theorem rm_3 {S C T : am_S} {a b c : Int64} (R : RM S) (h1 : Kp S C) (hC : tC C 3 (f3 a b c)) (h2 : Kp C T) (h3 : Kc C T) : RM (e3 T a b c) := by
  obtain ⟨n, nw, a, b⟩ := R
  exact ⟨n, nw, rc_k ((h1.t h2).t kp_e3) a, tld_of (by decide) (tC_k (h3.t kc_e3).1 (h3.t kc_e3).2 hC) tM_3⟩
