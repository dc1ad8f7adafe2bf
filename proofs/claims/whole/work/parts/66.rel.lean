/-! THE RELATION of class and reference, on one state of all cells. -/
def rPpl (S : am_S) (n : Nat) : Prop := n ≤ 6 ∧ gI S 1 1 = nI n ∧ gI S 97 3 = nI n ∧ ∀ p, p < 6 → (gI S (6 + 2 * p) 0 = gI S 99 p ∧ gI S (6 + 2 * p) 1 = gI S 100 p ∧ gI S (6 + 2 * p) 2 = gI S 101 p ∧ gI S (6 + 2 * p) 3 = gI S 102 p ∧ gI S (6 + 2 * p) 4 = gI S 103 p) ∧ (0 ≤ gI S 99 p ∧ gI S 99 p ≤ 20) ∧ (0 ≤ gI S 100 p ∧ gI S 100 p ≤ 20) ∧ (0 ≤ gI S 101 p ∧ gI S 101 p ≤ 9)
def rNer (S : am_S) (n : Nat) : Prop := ∀ p q, p < 6 → q < 6 → fBit (gI S 102 p) (nI q) → p < n ∧ q < n ∧ p ≠ q ∧ fBit (gI S 102 q) (nI p)
def rFog (S : am_S) (n : Nat) : Prop := ∀ p, p < 6 → (p < n → ∃ a b c : Nat, a + b + c ≤ 10 ∧ gI S 121 p = nI a ∧ gI S 122 p = nI b ∧ gI S 123 p = nI c ∧ gI S (6 + 2 * p + 1) 0 = nI a ∧ gI S (6 + 2 * p + 1) 1 = nI b ∧ gI S (6 + 2 * p + 1) 2 = nI c ∧ gI S (6 + 2 * p + 1) 3 = nI (10 - a - b - c)) ∧ (n ≤ p → gI S 122 p = 0 ∧ gI S 123 p = 0 ∧ gI S (6 + 2 * p + 1) 0 = 10 ∧ gI S (6 + 2 * p + 1) 1 = 0 ∧ gI S (6 + 2 * p + 1) 2 = 0 ∧ gI S (6 + 2 * p + 1) 3 = 0)
def rBem (S : am_S) : Prop := ∃ da dn up : Nat, da ≤ 198 ∧ dn + up ≤ 10 ∧ gI S 1 4 = nI da - 99 ∧ gI S 97 10 = nI da - 99 ∧ gI S 1 5 = nI dn ∧ gI S 97 11 = nI dn ∧ gI S 1 6 = nI up ∧ gI S 97 12 = nI up
def rCrs (S : am_S) (n nw : Nat) : Prop := nw ≤ 199 ∧ gI S 54 0 = nI nw ∧ gI S 97 23 = nI nw ∧ gI S 54 1 = gI S 97 9 ∧ gI S 54 2 = gI S 97 24 ∧ (∀ m, m ≤ nw → gI S 55 m = gI S 109 m) ∧ ∀ k p m, k < 4 → p < 6 → (p < n → m < nw → gI S (56 + k) (p * 200 + m) = gI S 110 (gAt k p m)) ∧ (n ≤ p → m < 200 → gI S (56 + k) (p * 200 + m) = 0 ∧ gI S 110 (gAt k p m) = 0)
def rCnt (S : am_S) : Nat := (if gR S 1 = 0 then 0 else 1) + (if gR S 2 = 0 then 0 else 1) + (if gR S 3 = 0 then 0 else 1)
/-- what is kept under a number, at the course's cells from c on -/
def rKp1 (S : am_S) (n i c : Nat) : Prop := ∃ nk wk, ¬ gI S 125 i = 0 ∧ nk ≤ n ∧ wk ≤ 199 ∧ gI S c 0 = nI wk ∧ gI S 127 i = nI wk ∧ gI S c 1 = gI S 128 i ∧ gI S c 2 = gI S 129 i ∧ gI S c 3 = nI nk ∧ gI S 126 i = nI nk ∧ (∀ m, m ≤ wk → gI S (c + 1) m = gI S 124 (5001 * i + (4800 + m))) ∧ ∀ k p m, k < 4 → p < 6 → (p < nk → m < wk → gI S (c + 2 + k) (p * 200 + m) = gI S 124 (5001 * i + gAt k p m)) ∧ (nk ≤ p → m < 200 → gI S (c + 2 + k) (p * 200 + m) = 0 ∧ gI S 124 (5001 * i + gAt k p m) = 0)
def rKpt (S : am_S) (n : Nat) : Prop := gR S 0 = rCnt S ∧ (∀ i j, i < 3 → j < 3 → i ≠ j → gR S (1 + i) = gR S (1 + j) → gR S (1 + i) = 0) ∧ ∀ i, i < 3 → gR S (1 + i) ≤ gR S 0 ∧ ((gR S (1 + i) = 0 ∧ gI S 125 i = 0) ∨ ∃ r, gR S (1 + i) = r + 1 ∧ rKp1 S n i (131 + 6 * r))
def rFrm (S : am_S) : Prop := ∀ i, i < 12 → ∃ L, gI S (18 + 3 * i) 1 = nI L ∧ FmOk S i (gI S (18 + 3 * i + 1)) L 6
def rPay (S : am_S) : Prop := (∃ L, gI S 88 1 = nI L ∧ FmOk S 12 (gI S 89) L 4 ∧ ∀ i j a b, i < 3 → j < 3 → a < 3 → b < 3 → gI S 91 ((i * 3 + j) * 9 + a * 3 + b) = fVal (gI S 89) (q4 i j a b) 4 (fun _ => 0) L) ∧ ∀ k, k < 9 → gI S 87 k = gI S 119 k ∧ 0 ≤ gI S 119 k ∧ gI S 119 k ≤ 99
def rIdl (S : am_S) : Prop := ∀ p, p < 6 → gI S 4 p = nI (2 * p) ∧ gI S 111 p = -1
def rTxt (S : am_S) : Prop := ∃ n, n ≤ 60 ∧ gI S 67 1 = nI n ∧ gI S 97 17 = nI n ∧ ∀ i, i < n → ∃ c, c < 256 ∧ gI S 68 i = nI c ∧ gI S 107 i = nI c
def rTld (S : am_S) : Prop := ∃ n, n ≤ 6 ∧ gI S 74 1 = nI n ∧ gI S 97 1 = nI n ∧ ∀ j, j < n → gJ S 75 j = gJ S 98 j
def rRef (S : am_S) : Prop := HopeOk S ∧ (gR S 6 = 0 ∨ 1000000 < gR S 6)
def RC (S : am_S) (n nw : Nat) : Prop := rPpl S n ∧ rNer S n ∧ rFog S n ∧ rBem S ∧ rCrs S n nw ∧ rKpt S n ∧ rFrm S ∧ rPay S ∧ rIdl S ∧ rTxt S ∧ rRef S
def RM (S : am_S) : Prop := ∃ n nw, RC S n nw ∧ rTld S
/-! What each part reads. -/
def xPpl (o k : Nat) : Prop := (o = 1 ∧ k = 1) ∨ (o = 97 ∧ k = 3) ∨ (6 ≤ o ∧ o < 18 ∧ o % 2 = 0 ∧ k < 5) ∨ (99 ≤ o ∧ o ≤ 103)
def xFog (o : Nat) : Prop := (6 ≤ o ∧ o < 18 ∧ o % 2 = 1) ∨ (121 ≤ o ∧ o ≤ 123)
def xBem (o k : Nat) : Prop := (o = 1 ∧ 4 ≤ k ∧ k ≤ 6) ∨ (o = 97 ∧ 10 ≤ k ∧ k ≤ 12)
def xCrs (o k : Nat) : Prop := (o = 54 ∧ k < 3) ∨ (55 ≤ o ∧ o ≤ 59) ∨ (o = 97 ∧ (k = 9 ∨ k = 23 ∨ k = 24)) ∨ (o = 109 ∧ k < 201) ∨ (o = 110 ∧ k < 4800)
def xKpt (o : Nat) : Prop := (124 ≤ o ∧ o ≤ 129) ∨ 131 ≤ o
def xFrm (o k : Nat) : Prop := (18 ≤ o ∧ o < 54 ∧ o % 3 ≠ 2) ∨ (o = 104 ∧ k < 576) ∨ (o = 105 ∧ k < 12)
def xPay (o k : Nat) : Prop := o = 87 ∨ (o = 88 ∧ k = 1) ∨ o = 89 ∨ o = 91 ∨ o = 119 ∨ (o = 104 ∧ 576 ≤ k ∧ k < 624) ∨ (o = 105 ∧ k = 12)
def xIdl (o : Nat) : Prop := o = 4 ∨ o = 111
def xTxt (o k : Nat) : Prop := (o = 67 ∧ k = 1) ∨ o = 68 ∨ (o = 97 ∧ k = 17) ∨ o = 107
def scr (o k : Nat) : Prop := o = 5 ∨ (18 ≤ o ∧ o < 54 ∧ o % 3 = 2) ∨ (60 ≤ o ∧ o ≤ 65) ∨ (o = 67 ∧ k ≠ 1) ∨ (69 ≤ o ∧ o ≤ 86) ∨ o = 90 ∨ (92 ≤ o ∧ o ≤ 96) ∨ (o = 97 ∧ (k < 3 ∨ (18 ≤ k ∧ k ≤ 22) ∨ 25 ≤ k)) ∨ o = 98 ∨ (o = 104 ∧ 624 ≤ k) ∨ (o = 105 ∧ 13 ≤ k) ∨ o = 106 ∨ o = 108 ∨ (112 ≤ o ∧ o ≤ 118) ∨ o = 120 ∨ o = 130 ∨ (o = 109 ∧ 201 ≤ k) ∨ (o = 110 ∧ 4800 ≤ k)
theorem rPpl_c {S T : am_S} {n : Nat} (h : ∀ o k, xPpl o k → gI T o k = gI S o k) (R : rPpl S n) : rPpl T n := by
  obtain ⟨a, b, c, e⟩ := R
  refine ⟨a, by rw [h 1 1 (by unfold xPpl; omega), b], by rw [h 97 3 (by unfold xPpl; omega), c], fun p hp => ?_⟩
  rw [h (6 + 2 * p) 0 (by unfold xPpl; omega), h (6 + 2 * p) 1 (by unfold xPpl; omega), h (6 + 2 * p) 2 (by unfold xPpl; omega), h (6 + 2 * p) 3 (by unfold xPpl; omega), h (6 + 2 * p) 4 (by unfold xPpl; omega), h 99 p (by unfold xPpl; omega), h 100 p (by unfold xPpl; omega), h 101 p (by unfold xPpl; omega), h 102 p (by unfold xPpl; omega), h 103 p (by unfold xPpl; omega)]
  exact e p hp
theorem rNer_c {S T : am_S} {n : Nat} (h : ∀ k, gI T 102 k = gI S 102 k) (R : rNer S n) : rNer T n := fun p q hp hq hb => by
  rw [h] at hb ⊢
  exact R p q hp hq hb
theorem rFog_c {S T : am_S} {n : Nat} (h : ∀ o k, xFog o → gI T o k = gI S o k) (R : rFog S n) : rFog T n := fun p hp => by
  rw [h (6 + 2 * p + 1) 0 (by unfold xFog; omega), h (6 + 2 * p + 1) 1 (by unfold xFog; omega), h (6 + 2 * p + 1) 2 (by unfold xFog; omega), h (6 + 2 * p + 1) 3 (by unfold xFog; omega), h 121 p (by unfold xFog; omega), h 122 p (by unfold xFog; omega), h 123 p (by unfold xFog; omega)]
  exact R p hp
theorem rBem_c {S T : am_S} (h : ∀ o k, xBem o k → gI T o k = gI S o k) (R : rBem S) : rBem T := by
  obtain ⟨da, dn, up, R⟩ := R
  refine ⟨da, dn, up, ?_⟩
  rw [h 1 4 (by unfold xBem; omega), h 1 5 (by unfold xBem; omega), h 1 6 (by unfold xBem; omega), h 97 10 (by unfold xBem; omega), h 97 11 (by unfold xBem; omega), h 97 12 (by unfold xBem; omega)]
  exact R
theorem gAt_lt {k p m : Nat} (hk : k < 4) (hp : p < 6) (hm : m < 200) : gAt k p m < 4800 := by unfold gAt; omega
theorem rCrs_c {S T : am_S} {n nw : Nat} (h : ∀ o k, xCrs o k → gI T o k = gI S o k) (R : rCrs S n nw) : rCrs T n nw := by
  obtain ⟨a, b, c, d, e, f, g⟩ := R
  refine ⟨a, by rw [h 54 0 (by unfold xCrs; omega), b], by rw [h 97 23 (by unfold xCrs; omega), c], by rw [h 54 1 (by unfold xCrs; omega), h 97 9 (by unfold xCrs; omega), d], by rw [h 54 2 (by unfold xCrs; omega), h 97 24 (by unfold xCrs; omega), e], fun m hm => by rw [h 55 m (by unfold xCrs; omega), h 109 m (by unfold xCrs; omega), f m hm], fun k p m hk hp => ⟨fun hn hm => ?_, fun hn hm => ?_⟩⟩
  · have := gAt_lt hk hp (m := m) (by omega)
    rw [h (56 + k) _ (by unfold xCrs; omega), h 110 _ (by unfold xCrs; omega), (g k p m hk hp).1 hn hm]
  · have := gAt_lt hk hp hm
    rw [h (56 + k) _ (by unfold xCrs; omega), h 110 _ (by unfold xCrs; omega)]
    exact (g k p m hk hp).2 hn hm
theorem rKp1_c {S T : am_S} {n i c : Nat} (hc : 131 ≤ c) (h : ∀ o k, xKpt o → gI T o k = gI S o k) (R : rKp1 S n i c) : rKp1 T n i c := by
  obtain ⟨nk, wk, a, b, e, f⟩ := R
  refine ⟨nk, wk, by rw [h 125 i (by unfold xKpt; omega)]; exact a, b, e, ?_⟩
  rw [h c 0 (by unfold xKpt; omega), h c 1 (by unfold xKpt; omega), h c 2 (by unfold xKpt; omega), h c 3 (by unfold xKpt; omega), h 127 i (by unfold xKpt; omega), h 128 i (by unfold xKpt; omega), h 129 i (by unfold xKpt; omega), h 126 i (by unfold xKpt; omega)]
  refine ⟨f.1, f.2.1, f.2.2.1, f.2.2.2.1, f.2.2.2.2.1, f.2.2.2.2.2.1, fun m hm => ?_, fun k p m hk hp => ?_⟩
  · rw [h (c + 1) m (by unfold xKpt; omega), h 124 _ (by unfold xKpt; omega)]
    exact f.2.2.2.2.2.2.1 m hm
  · rw [h (c + 2 + k) _ (by unfold xKpt; omega), h 124 _ (by unfold xKpt; omega)]
    exact f.2.2.2.2.2.2.2 k p m hk hp
theorem rKpt_c {S T : am_S} {n : Nat} (h : ∀ o k, xKpt o → gI T o k = gI S o k) (hr : ∀ c, c < 4 → gR T c = gR S c) (R : rKpt S n) : rKpt T n := by
  unfold rKpt rCnt at R ⊢
  rw [hr 0 (by omega), hr 1 (by omega), hr 2 (by omega), hr 3 (by omega)]
  refine ⟨R.1, fun i j hi hj => ?_, fun i hi => ?_⟩
  · rw [hr (1 + i) (by omega), hr (1 + j) (by omega)]
    exact R.2.1 i j hi hj
  · rw [hr (1 + i) (by omega), h 125 i (by unfold xKpt; omega)]
    refine ⟨(R.2.2 i hi).1, ?_⟩
    rcases (R.2.2 i hi).2 with z | ⟨r, z1, z2⟩
    · exact Or.inl z
    · exact Or.inr ⟨r, z1, rKp1_c (by omega) h z2⟩
theorem FmOk_c {S T : am_S} {i L w : Nat} {cs ct : Nat → Int32} (h5 : gI T 105 i = gI S 105 i) (h4 : ∀ j, j < 48 → gI T 104 (48 * i + j) = gI S 104 (48 * i + j)) (hc : ∀ j, ct j = cs j) (R : FmOk S i cs L w) : FmOk T i ct L w := by
  have : ct = cs := funext hc
  subst this
  obtain ⟨a, b, c⟩ := R
  have := c.1
  exact ⟨by rw [h5, a], fun j hj => by rw [h4 j (by omega), b j hj], c⟩
theorem rFrm_c {S T : am_S} (h : ∀ o k, xFrm o k → gI T o k = gI S o k) (R : rFrm S) : rFrm T := fun i hi => by
  obtain ⟨L, a, b⟩ := R i hi
  refine ⟨L, by rw [h (18 + 3 * i) 1 (by unfold xFrm; omega), a], FmOk_c (h 105 i (by unfold xFrm; omega)) (fun j hj => h 104 _ (by unfold xFrm; omega)) (fun j => h _ j (by unfold xFrm; omega)) b⟩
theorem rPay_c {S T : am_S} (h : ∀ o k, xPay o k → gI T o k = gI S o k) (R : rPay S) : rPay T := by
  obtain ⟨⟨L, a, b, c⟩, e⟩ := R
  have e89 : gI T 89 = gI S 89 := funext fun k => h 89 k (by unfold xPay; omega)
  refine ⟨⟨L, by rw [h 88 1 (by unfold xPay; omega), a], FmOk_c (h 105 12 (by unfold xPay; omega)) (fun j hj => h 104 _ (by unfold xPay; omega)) (fun j => h 89 j (by unfold xPay; omega)) b, fun i j x y hi hj hx hy => ?_⟩, fun k hk => ?_⟩
  · rw [h 91 _ (by unfold xPay; omega), e89]
    exact c i j x y hi hj hx hy
  · rw [h 87 k (by unfold xPay; omega), h 119 k (by unfold xPay; omega)]
    exact e k hk
theorem rIdl_c {S T : am_S} (h : ∀ o k, xIdl o → gI T o k = gI S o k) (R : rIdl S) : rIdl T := fun p hp => by
  rw [h 4 p (by unfold xIdl; omega), h 111 p (by unfold xIdl; omega)]
  exact R p hp
theorem rTxt_c {S T : am_S} (h : ∀ o k, xTxt o k → gI T o k = gI S o k) (R : rTxt S) : rTxt T := by
  obtain ⟨n, a, b, c, e⟩ := R
  refine ⟨n, a, by rw [h 67 1 (by unfold xTxt; omega), b], by rw [h 97 17 (by unfold xTxt; omega), c], fun i hi => ?_⟩
  rw [h 68 i (by unfold xTxt; omega), h 107 i (by unfold xTxt; omega)]
  exact e i hi
theorem rRef_c {S T : am_S} (h : ∀ c, 4 ≤ c → gR T c = gR S c) (R : rRef S) : rRef T := by
  unfold rRef HopeOk at R ⊢
  rw [h 4 (by omega), h 5 (by omega), h 6 (by omega)]
  exact R
/-- T is as S but for what nobody rests on -/
def Kp (S T : am_S) : Prop := (∀ o k, ¬ scr o k → gI T o k = gI S o k) ∧ ∀ c, gR T c = gR S c
theorem Kp.t {S T U : am_S} (h : Kp S T) (h2 : Kp T U) : Kp S U := ⟨fun o k hs => by rw [h2.1 o k hs, h.1 o k hs], fun c => by rw [h2.2, h.2]⟩
theorem Kp.r {S : am_S} : Kp S S := ⟨fun _ _ _ => rfl, fun _ => rfl⟩
theorem rc_c {S T : am_S} {n nw : Nat} (h : ∀ o k, ¬ scr o k → gI T o k = gI S o k) (hr : ∀ c, c < 4 → gR T c = gR S c) (h4 : rRef T) (R : RC S n nw) : RC T n nw := by
  obtain ⟨r1, r2, r3, r4, r5, r6, r7, r8, r9, r10, r11⟩ := R
  refine ⟨rPpl_c (fun o k z => h o k ?_) r1, rNer_c (fun k => h 102 k ?_) r2, rFog_c (fun o k z => h o k ?_) r3, rBem_c (fun o k z => h o k ?_) r4, rCrs_c (fun o k z => h o k ?_) r5, rKpt_c (fun o k z => h o k ?_) hr r6, rFrm_c (fun o k z => h o k ?_) r7, rPay_c (fun o k z => h o k ?_) r8, rIdl_c (fun o k z => h o k ?_) r9, rTxt_c (fun o k z => h o k ?_) r10, h4⟩
  · unfold xPpl at z; unfold scr; omega
  · unfold scr; omega
  · unfold xFog at z; unfold scr; omega
  · unfold xBem at z; unfold scr; omega
  · unfold xCrs at z; unfold scr; omega
  · unfold xKpt at z; unfold scr; omega
  · unfold xFrm at z; unfold scr; omega
  · unfold xPay at z; unfold scr; omega
  · unfold xIdl at z; unfold scr; omega
  · unfold xTxt at z; unfold scr; omega
theorem rc_k {S T : am_S} {n nw : Nat} (h : Kp S T) (R : RC S n nw) : RC T n nw := rc_c h.1 (fun c _ => h.2 c) (rRef_c (fun c _ => h.2 c) R.2.2.2.2.2.2.2.2.2.2) R
theorem rTld_c {S T : am_S} (h1 : gI T 74 1 = gI S 74 1) (h2 : gI T 97 1 = gI S 97 1) (h3 : ∀ j, gJ T 75 j = gJ S 75 j) (h4 : ∀ j, gJ T 98 j = gJ S 98 j) (R : rTld S) : rTld T := by
  obtain ⟨n, a, b, c, e⟩ := R
  exact ⟨n, a, by rw [h1, b], by rw [h2, c], fun j hj => by rw [h3, h4, e j hj]⟩
/-- and the numbers told are as they were -/
def Kn (S T : am_S) : Prop := Kp S T ∧ gI T 74 1 = gI S 74 1 ∧ gI T 97 1 = gI S 97 1 ∧ (∀ j, gJ T 75 j = gJ S 75 j) ∧ ∀ j, gJ T 98 j = gJ S 98 j
theorem Kn.t {S T U : am_S} (h : Kn S T) (h2 : Kn T U) : Kn S U := ⟨h.1.t h2.1, by rw [h2.2.1, h.2.1], by rw [h2.2.2.1, h.2.2.1], fun j => by rw [h2.2.2.2.1, h.2.2.2.1], fun j => by rw [h2.2.2.2.2, h.2.2.2.2]⟩
theorem Kn.r {S : am_S} : Kn S S := ⟨Kp.r, rfl, rfl, fun _ => rfl, fun _ => rfl⟩
theorem rm_kn {S T : am_S} (h : Kn S T) (R : RM S) : RM T := by
  obtain ⟨n, nw, a, b⟩ := R
  exact ⟨n, nw, rc_k h.1 a, rTld_c h.2.1 h.2.2.1 h.2.2.2.1 h.2.2.2.2 b⟩
theorem kn_th {S : am_S} {v : Int32} : Kn S (uI S 97 0 v) := ⟨⟨fun o k h => by
  rw [gI_uI]
  split
  · split
    · exfalso; apply h; unfold scr; omega
    · rfl
  · rfl, fun _ => rfl⟩, by rw [gI_uI_ne (by decide)], by rw [gI_uI, if_pos rfl, if_neg (by decide)], fun _ => rfl, fun _ => rfl⟩
/-! Joint calls. -/
def CX (d mi : Nat) (As : List Value) (S : am_S) (r : Option Value) (P : am_S → Prop) : Prop := ∃ post : Option Value → am_G → Prop, am_Call am_MT d mi As (am_H S) post ∧ ∀ r1 G1, post r1 G1 → r1 = r ∧ ∃ T, G1 = am_H T ∧ P T
theorem cx_T {d mi : Nat} {As : List Value} {S S2 : am_S} {r : Option Value} (h : am_CT d mi As S r S2) : CX d mi As S r (fun T => T = S2) := ⟨_, h, fun _ _ z => ⟨z.1, S2, z.2, rfl⟩⟩
theorem cx_E {d mi : Nat} {As : List Value} {S : am_S} {r : Option Value} {P : am_S → Prop} (h : am_CE d mi As S r P) : CX d mi As S r P := ⟨_, h, fun _ _ z => z⟩
/-- a call of the class and the same of the reference behind it: one answer of one kind, and F holds behind both -/
def JnG {β : Type} (mk : β → Value) (F : am_S → Prop) (d mi1 : Nat) (as1 : List Value) (mi2 : Nat) (as2 : List Value) (S : am_S) : Prop := ∃ (x : β) (P : am_S → Prop), CX d mi1 as1 S (some (mk x)) P ∧ ∀ T, P T → ∃ Q : am_S → Prop, CX d mi2 as2 T (some (mk x)) Q ∧ ∀ U, Q U → F U
def RM0 (U : am_S) : Prop := RM U ∧ gI U 97 0 = 0
abbrev Jn (d mi1 : Nat) (as1 : List Value) (mi2 : Nat) (as2 : List Value) (S : am_S) : Prop := JnG Value.int RM d mi1 as1 mi2 as2 S
abbrev JnL (d mi1 : Nat) (as1 : List Value) (mi2 : Nat) (as2 : List Value) (S : am_S) : Prop := JnG Value.long RM d mi1 as1 mi2 as2 S
abbrev Jn0 (d mi1 : Nat) (as1 : List Value) (mi2 : Nat) (as2 : List Value) (S : am_S) : Prop := JnG Value.int RM0 d mi1 as1 mi2 as2 S
abbrev JnL0 (d mi1 : Nat) (as1 : List Value) (mi2 : Nat) (as2 : List Value) (S : am_S) : Prop := JnG Value.long RM0 d mi1 as1 mi2 as2 S
theorem jn_TT {β : Type} {mk : β → Value} {F : am_S → Prop} {d mi1 mi2 : Nat} {as1 as2 : List Value} {S T U : am_S} {x : β} (h1 : am_CT d mi1 as1 S (some (mk x)) T) (h2 : am_CT d mi2 as2 T (some (mk x)) U) (hU : F U) : JnG mk F d mi1 as1 mi2 as2 S := ⟨x, _, cx_T h1, fun V hV => by subst hV; exact ⟨_, cx_T h2, fun W hW => by subst hW; exact hU⟩⟩
theorem jn_TE {β : Type} {mk : β → Value} {F : am_S → Prop} {d mi1 mi2 : Nat} {as1 as2 : List Value} {S T : am_S} {x : β} {Q : am_S → Prop} (h1 : am_CT d mi1 as1 S (some (mk x)) T) (h2 : am_CE d mi2 as2 T (some (mk x)) Q) (hU : ∀ U, Q U → F U) : JnG mk F d mi1 as1 mi2 as2 S := ⟨x, _, cx_T h1, fun V hV => by subst hV; exact ⟨_, cx_E h2, hU⟩⟩
theorem jn_EE {β : Type} {mk : β → Value} {F : am_S → Prop} {d mi1 mi2 : Nat} {as1 as2 : List Value} {S : am_S} {x : β} {P : am_S → Prop} (h1 : am_CE d mi1 as1 S (some (mk x)) P) (h2 : ∀ T, P T → ∃ Q : am_S → Prop, am_CE d mi2 as2 T (some (mk x)) Q ∧ ∀ U, Q U → F U) : JnG mk F d mi1 as1 mi2 as2 S := ⟨x, P, cx_E h1, fun T hT => by
  obtain ⟨Q, a, b⟩ := h2 T hT
  exact ⟨Q, cx_E a, b⟩⟩
theorem jn_ET {β : Type} {mk : β → Value} {F : am_S → Prop} {d mi1 mi2 : Nat} {as1 as2 : List Value} {S : am_S} {x : β} {P : am_S → Prop} (h1 : am_CE d mi1 as1 S (some (mk x)) P) (h2 : ∀ T, P T → ∃ U, am_CT d mi2 as2 T (some (mk x)) U ∧ F U) : JnG mk F d mi1 as1 mi2 as2 S := ⟨x, P, cx_E h1, fun T hT => by
  obtain ⟨U, a, b⟩ := h2 T hT
  exact ⟨_, cx_T a, fun W hW => by subst hW; exact b⟩⟩
/-- refused by both: nothing changes -/
theorem jn_no {β : Type} {mk : β → Value} {d mi1 mi2 : Nat} {as1 as2 : List Value} {S : am_S} {x : β} (R : RM S) (h1 : am_CT d mi1 as1 S (some (mk x)) S) (h2 : am_CT d mi2 as2 S (some (mk x)) (uI S 97 0 0)) : JnG mk RM d mi1 as1 mi2 as2 S := jn_TT h1 h2 (rm_kn kn_th R)
