/-! Expressions worked out: codes 104, stack 106, signs 108. -/
/-- a code of the class's as the reference has it -/
def mcode (c : Int32) : Int32 := if c = 2110 then 2126 else c
abbrev unC (c : Int32) : Prop := c = 2110 ∨ c = 2033
abbrev binC (c : Int32) : Prop := c = 2124 ∨ c = 2038 ∨ c = 2060 ∨ c = 2061 ∨ c = 2062 ∨ c = 2043 ∨ c = 2045 ∨ c = 2042 ∨ c = 2047
def hgt (cs : Nat → Int32) : Nat → Nat
  | 0 => 0
  | n + 1 => if cs n < 2000 then hgt cs n + 1 else if unC (cs n) then hgt cs n else hgt cs n - 1
theorem hgt_le (cs : Nat → Int32) : ∀ n, hgt cs n ≤ n
  | 0 => Nat.le_refl _
  | n + 1 => by
    have := hgt_le cs n
    unfold hgt
    split
    · omega
    · split <;> omega
/-- an expression that goes through, over w signs -/
def WF (w : Nat) (cs : Nat → Int32) (L : Nat) : Prop := L ≤ 40 ∧ (∀ n, n < L → (cs n < 2000 → (∃ k, k < 1000 ∧ cs n = nI k) ∨ ∃ i, i < w ∧ cs n = nI (1000 + i)) ∧ (¬ cs n < 2000 → (unC (cs n) ∧ 1 ≤ hgt cs n) ∨ (¬ unC (cs n) ∧ binC (cs n) ∧ 2 ≤ hgt cs n))) ∧ (L = 0 ∨ hgt cs L = 1)
theorem reck_neg {g : Nat → Int32} {t : Nat} (h1 : 1 ≤ t) (h2 : t ≤ 40) : fReck g t 2110 = (upd g (t - 1) (-g (t - 1)), t) := by
  rw [fReck, if_neg (by omega), if_pos rfl]
theorem reck_not {g : Nat → Int32} {t : Nat} (h1 : 1 ≤ t) (h2 : t ≤ 40) : fReck g t 2033 = (upd g (t - 1) (b01 (g (t - 1) = 0)), t) := by
  rw [fReck, if_neg (by omega), if_neg (by decide), if_pos rfl]
theorem reck_bin {g : Nat → Int32} {t : Nat} {c : Int32} (h1 : 2 ≤ t) (h2 : t ≤ 40) (hu : ¬ unC c) : fReck g t c = (upd g (t - 2) (fJoin (c - 2000) (g (t - 2)) (g (t - 1))), t - 1) := by
  rw [fReck, if_neg (by omega), if_neg (fun z => hu (Or.inl z)), if_neg (fun z => hu (Or.inr z)), if_neg (by omega)]
theorem wf_hgt {w L : Nat} {cs sg g : Nat → Int32} (h : WF w cs L) : ∀ n, n ≤ L → (fEv cs sg w g n).2 = hgt cs n
  | 0, _ => rfl
  | n + 1, hn => by
    have e := wf_hgt (sg := sg) (g := g) h n (by omega)
    have hl := hgt_le cs n
    have h40 := h.1
    obtain ⟨w1, w2⟩ := h.2.1 n (by omega)
    unfold fEv hgt
    by_cases hc : cs n < 2000
    · rw [if_pos hc, if_pos hc, e, if_pos (by omega)]
    · rw [if_neg hc, if_neg hc, e]
      rcases w2 hc with ⟨hu, h1⟩ | ⟨hu, hb, h2⟩
      · rw [if_pos hu, fReck, if_neg (by omega)]
        rcases hu with hu | hu
        · rw [if_pos hu]
        · rw [if_neg (by rw [hu]; decide), if_pos hu]
      · rw [if_neg hu, fReck, if_neg (by omega), if_neg (fun z => hu (Or.inl z)), if_neg (fun z => hu (Or.inr z)), if_neg (by omega)]
/-- the stack that was doesn't matter -/
theorem fEv_ind {w L : Nat} {cs sg sg2 g g2 : Nat → Int32} (h : WF w cs L) (hs : ∀ i, i < w → sg i = sg2 i) (hw : w ≤ 1000) : ∀ n, n ≤ L → ∀ i, i < hgt cs n → (fEv cs sg w g n).1 i = (fEv cs sg2 w g2 n).1 i
  | 0, _, i, hi => absurd hi (Nat.not_lt_zero i)
  | n + 1, hn, i, hi => by
    have ih := fEv_ind (g := g) (g2 := g2) h hs hw n (by omega)
    have e1 := wf_hgt (sg := sg) (g := g) h n (by omega)
    have e2 := wf_hgt (sg := sg2) (g := g2) h n (by omega)
    have hl := hgt_le cs n
    have h40 := h.1
    obtain ⟨w1, w2⟩ := h.2.1 n (by omega)
    unfold hgt at hi
    unfold fEv
    by_cases hc : cs n < 2000
    · rw [if_pos hc] at hi
      rw [if_pos hc, if_pos hc, e1, e2, if_pos (by omega), if_pos (by omega)]
      show upd _ _ _ i = upd _ _ _ i
      by_cases hi2 : i = hgt cs n
      · rw [hi2, pk_us, pk_us]
        rcases w1 hc with ⟨k, hk, hck⟩ | ⟨j, hj, hcj⟩
        · have : cs n - 1000 < 0 := by rw [hck]; exact pk_sneg (b := 1000) (by omega) hk
          rw [fThing, fThing, if_pos this, if_pos this]
        · have e : cs n - 1000 = nI j := by rw [hcj, ← nI_add]; show 1000 + nI j - 1000 = nI j; grind
          rw [fThing, fThing, e, if_neg (nI_pos (by omega)), if_neg (nI_pos (by omega)), show Int32.ofNat w = nI w from rfl, if_pos (nI_lt hj (by omega)), if_pos (nI_lt hj (by omega)), nI_clamp (by omega), hs j hj]
      · rw [pk_un hi2, pk_un hi2]
        exact ih i (by omega)
    · rw [if_neg hc] at hi
      rw [if_neg hc, if_neg hc, e1, e2]
      rcases w2 hc with ⟨hu, h1⟩ | ⟨hu, hb, h2⟩
      · rw [if_pos hu] at hi
        have it := ih (hgt cs n - 1) (by omega)
        rcases hu with hu | hu
        · rw [hu, reck_neg h1 (by omega), reck_neg h1 (by omega)]
          show upd _ _ _ i = upd _ _ _ i
          by_cases hi2 : i = hgt cs n - 1
          · rw [hi2, pk_us, pk_us, it]
          · rw [pk_un hi2, pk_un hi2]
            exact ih i hi
        · rw [hu, reck_not h1 (by omega), reck_not h1 (by omega)]
          show upd _ _ _ i = upd _ _ _ i
          by_cases hi2 : i = hgt cs n - 1
          · rw [hi2, pk_us, pk_us, it]
          · rw [pk_un hi2, pk_un hi2]
            exact ih i hi
      · rw [if_neg hu] at hi
        rw [reck_bin h2 (by omega) hu, reck_bin h2 (by omega) hu]
        show upd _ _ _ i = upd _ _ _ i
        by_cases hi2 : i = hgt cs n - 2
        · rw [hi2, pk_us, pk_us, ih (hgt cs n - 2) (by omega), ih (hgt cs n - 1) (by omega)]
        · rw [pk_un hi2, pk_un hi2]
          exact ih i (by omega)
theorem fVal_ind {w L : Nat} {cs sg sg2 g g2 : Nat → Int32} (h : WF w cs L) (hs : ∀ i, i < w → sg i = sg2 i) (hw : w ≤ 1000) : fVal cs sg w g L = fVal cs sg2 w g2 L := by
  unfold fVal
  rw [wf_hgt h L (Nat.le_refl _), wf_hgt h L (Nat.le_refl _)]
  rcases h.2.2 with h0 | h1
  · rw [h0]
    rfl
  · rw [if_pos h1, if_pos h1]
    exact fEv_ind h hs hw L (Nat.le_refl _) 0 (by omega)
theorem ct_X11_acted {d : Nat} {S : am_S} {op x y : Int32} (hb : binC (op + 2000)) : am_CT (d + 2) iX11_acted [.int op, .int x, .int y] S (some (.int (fJoin op x y))) (S) := by
  refine am_CT_in mmX11_acted rfl rfl rfl ?_
  have key : op = 124 ∨ op = 38 ∨ op = 60 ∨ op = 61 ∨ op = 62 ∨ op = 43 ∨ op = 45 ∨ op = 42 ∨ op = 47 := by
    unfold binC at hb
    grind
  refine r_iload_n rfl rfl ?_
  rcases key with rfl | rfl | rfl | rfl | rfl | rfl | rfl | rfl | rfl
  · refine r_tableOut rfl (by decide) rfl (tgt := 199) ?_
    refine r_iload_n rfl rfl ?_
    refine r_if_ne rfl (fun h200 => ?_) (fun h200 => ?_)
    · refine r_iconst rfl ?_
      refine r_goto rfl ?_
      refine r_callS rfl (by decide) (ct_X11_flag (by simp)) rfl rfl (am_cnt rfl) ?_
      refine r_iret rfl rfl ?_
      exact ⟨by simp only [fJoin, b01]; grind, rfl⟩
    · refine r_iload_n rfl rfl ?_
      refine r_if_eq rfl (fun h204 => ?_) (fun h204 => ?_)
      · refine r_iconst rfl ?_
        refine r_callS rfl (by decide) (ct_X11_flag (by simp)) rfl rfl (am_cnt rfl) ?_
        refine r_iret rfl rfl ?_
        exact ⟨by simp only [fJoin, b01]; grind, rfl⟩
      · refine r_iconst rfl ?_
        refine r_goto rfl ?_
        refine r_callS rfl (by decide) (ct_X11_flag (by simp)) rfl rfl (am_cnt rfl) ?_
        refine r_iret rfl rfl ?_
        exact ⟨by simp only [fJoin, b01]; grind, rfl⟩
  · refine r_tableIn rfl (by decide) (by decide) rfl rfl (tgt := 182) ?_
    refine r_iload_n rfl rfl ?_
    refine r_if_eq rfl (fun h183 => ?_) (fun h183 => ?_)
    · refine r_iconst rfl ?_
      refine r_callS rfl (by decide) (ct_X11_flag (by simp)) rfl rfl (am_cnt rfl) ?_
      refine r_iret rfl rfl ?_
      exact ⟨by simp only [fJoin, b01]; grind, rfl⟩
    · refine r_iload_n rfl rfl ?_
      refine r_if_eq rfl (fun h187 => ?_) (fun h187 => ?_)
      · refine r_iconst rfl ?_
        refine r_callS rfl (by decide) (ct_X11_flag (by simp)) rfl rfl (am_cnt rfl) ?_
        refine r_iret rfl rfl ?_
        exact ⟨by simp only [fJoin, b01]; grind, rfl⟩
      · refine r_iconst rfl ?_
        refine r_goto rfl ?_
        refine r_callS rfl (by decide) (ct_X11_flag (by simp)) rfl rfl (am_cnt rfl) ?_
        refine r_iret rfl rfl ?_
        exact ⟨by simp only [fJoin, b01]; grind, rfl⟩
  · refine r_tableIn rfl (by decide) (by decide) rfl rfl (tgt := 140) ?_
    refine r_iload_n rfl rfl ?_
    refine r_iload_n rfl rfl ?_
    refine r_icmp_ge rfl (fun h142 => ?_) (fun h142 => ?_)
    · refine r_iconst rfl ?_
      refine r_callS rfl (by decide) (ct_X11_flag (by simp)) rfl rfl (am_cnt rfl) ?_
      refine r_iret rfl rfl ?_
      exact ⟨by simp only [fJoin, b01]; grind, rfl⟩
    · refine r_iconst rfl ?_
      refine r_goto rfl ?_
      refine r_callS rfl (by decide) (ct_X11_flag (by simp)) rfl rfl (am_cnt rfl) ?_
      refine r_iret rfl rfl ?_
      exact ⟨by simp only [fJoin, b01]; grind, rfl⟩
  · refine r_tableIn rfl (by decide) (by decide) rfl rfl (tgt := 168) ?_
    refine r_iload_n rfl rfl ?_
    refine r_iload_n rfl rfl ?_
    refine r_icmp_ne rfl (fun h170 => ?_) (fun h170 => ?_)
    · refine r_iconst rfl ?_
      refine r_callS rfl (by decide) (ct_X11_flag (by simp)) rfl rfl (am_cnt rfl) ?_
      refine r_iret rfl rfl ?_
      exact ⟨by simp only [fJoin, b01]; grind, rfl⟩
    · refine r_iconst rfl ?_
      refine r_goto rfl ?_
      refine r_callS rfl (by decide) (ct_X11_flag (by simp)) rfl rfl (am_cnt rfl) ?_
      refine r_iret rfl rfl ?_
      exact ⟨by simp only [fJoin, b01]; grind, rfl⟩
  · refine r_tableIn rfl (by decide) (by decide) rfl rfl (tgt := 154) ?_
    refine r_iload_n rfl rfl ?_
    refine r_iload_n rfl rfl ?_
    refine r_icmp_le rfl (fun h156 => ?_) (fun h156 => ?_)
    · refine r_iconst rfl ?_
      refine r_callS rfl (by decide) (ct_X11_flag (by simp)) rfl rfl (am_cnt rfl) ?_
      refine r_iret rfl rfl ?_
      exact ⟨by simp only [fJoin, b01]; grind, rfl⟩
    · refine r_iconst rfl ?_
      refine r_goto rfl ?_
      refine r_callS rfl (by decide) (ct_X11_flag (by simp)) rfl rfl (am_cnt rfl) ?_
      refine r_iret rfl rfl ?_
      exact ⟨by simp only [fJoin, b01]; grind, rfl⟩
  · refine r_tableIn rfl (by decide) (by decide) rfl rfl (tgt := 116) ?_
    refine r_iload_n rfl rfl ?_
    refine r_iload_n rfl rfl ?_
    refine r_iadd rfl ?_
    refine r_iret rfl rfl ?_
    exact ⟨by simp only [fJoin, b01]; grind, rfl⟩
  · refine r_tableIn rfl (by decide) (by decide) rfl rfl (tgt := 120) ?_
    refine r_iload_n rfl rfl ?_
    refine r_iload_n rfl rfl ?_
    refine r_isub rfl ?_
    refine r_iret rfl rfl ?_
    exact ⟨by simp only [fJoin, b01]; grind, rfl⟩
  · refine r_tableIn rfl (by decide) (by decide) rfl rfl (tgt := 124) ?_
    refine r_iload_n rfl rfl ?_
    refine r_iload_n rfl rfl ?_
    refine r_imul rfl ?_
    refine r_iret rfl rfl ?_
    exact ⟨by simp only [fJoin, b01]; grind, rfl⟩
  · refine r_tableIn rfl (by decide) (by decide) rfl rfl (tgt := 128) ?_
    refine r_iload_n rfl rfl ?_
    refine r_if_ne rfl (fun h129 => ?_) (fun h129 => ?_)
    · refine r_iload_n rfl rfl ?_
      refine r_iload_n rfl rfl ?_
      refine r_idiv rfl (by assumption) ?_
      refine r_iret rfl rfl ?_
      exact ⟨by simp only [fJoin, b01]; grind, rfl⟩
    · refine r_iconst rfl ?_
      refine r_goto rfl ?_
      refine r_iret rfl rfl ?_
      exact ⟨by simp only [fJoin, b01]; grind, rfl⟩
