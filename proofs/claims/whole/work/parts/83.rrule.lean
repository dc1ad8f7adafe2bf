/-! Joint calls: rule, pays. -/
def hgM : List Int32 → Nat
  | [] => 0
  | x :: t => if x < 2000 then hgM t + 1 else if x = 2126 ∨ x = 2033 then hgM t else hgM t - 1
def okM (w : Nat) : List Int32 → Prop
  | [] => True
  | x :: t => okM w t ∧ ((∃ k, k < 1000 ∧ x = nI k) ∨ (∃ i, i < w ∧ x = nI (1000 + i)) ∨ ((x = 2126 ∨ x = 2033) ∧ 1 ≤ hgM t) ∨ (binC x ∧ 2 ≤ hgM t))
theorem op_bin : (List.range 5).all (fun k => (List.range 256).all (fun ch => decide (¬ ixN ch (am_str (5 + k)) 0 = none → binC (nI (2000 + ch)) ∧ ¬ nI (2000 + ch) < 2000 ∧ ¬ (nI (2000 + ch) = 2126 ∨ nI (2000 + ch) = 2033)))) = true := by decide +kernel
theorem op_bn {k ch : Nat} (hk : k ≤ 4) (hc : ch < 256) (h : ¬ ixN ch (am_str (5 + k)) 0 = none) : binC (nI (2000 + ch)) ∧ ¬ nI (2000 + ch) < 2000 ∧ ¬ (nI (2000 + ch) = 2126 ∨ nI (2000 + ch) = 2033) := of_decide_eq_true (all_range (all_range op_bin (show k < 5 by omega)) hc) h
theorem nI_2000 {x : Nat} (h : x < 2000) : nI x < 2000 := nI_lt (b := 2000) h (by decide)
section OKM
variable {sg : Nat} {tp : Nat → Nat} {to w : Nat}
def GkM (to w : Nat) (g : RdS → Bool × RdS) : Prop := ∀ s : RdS, s.1 ≤ to → s.2.1 ≤ 5 → okM w s.2.2 → (g s).1 = true → okM w (g s).2.2.2 ∧ hgM (g s).2.2.2 = hgM s.2.2 + 1
theorem th_okM {g : RdS → Bool × RdS} (hw : (am_str sg).length = w) (hw6 : w ≤ 6) (hg : GkM to w g) (s : RdS) (h1 : s.1 ≤ to) (h5 : s.2.1 ≤ 5) (ho : okM w s.2.2) (hr : (thG g tp to sg s).1 = true) : okM w (thG g tp to sg s).2.2.2 ∧ hgM (thG g tp to sg s).2.2.2 = hgM s.2.2 + 1 := by
  by_cases hd : isD tp to s.1
  · have e : thG g tp to sg s = (true, (nmG tp to 3 s.1 0).1, s.2.1, nI (nmG tp to 3 s.1 0).2 :: s.2.2) := if_pos hd
    rw [e]
    have e1 : nmG tp to 3 s.1 0 = nmG tp to 2 (s.1 + 1) (10 * 0 + tp s.1 - 48) := by rw [nmG, if_pos hd]
    have lt : (nmG tp to 3 s.1 0).2 < 1000 := by
      rw [e1]
      refine nmG_lt (v := 0) (p := 0) 2 _ _ (Nat.le_refl _) ?_
      have := hd.2
      rw [show (10 : Nat) ^ 2 = 100 from rfl]
      omega
    refine ⟨⟨ho, Or.inl ⟨_, lt, rfl⟩⟩, ?_⟩
    exact if_pos (nI_2000 (by omega))
  · have e : thG g tp to sg s = (match amg tp to (am_str sg) s.1 with
      | some i => (true, s.1 + 1, s.2.1, nI (1000 + i) :: s.2.2)
      | none => if amg tp to (am_str 2) s.1 = none ∨ s.2.1 = 5 then (false, s) else if (g (s.1 + 1, s.2.1 + 1, s.2.2)).1 = true ∧ ¬ amg tp to (am_str 3) (g (s.1 + 1, s.2.1 + 1, s.2.2)).2.1 = none then (true, (g (s.1 + 1, s.2.1 + 1, s.2.2)).2.1 + 1, (g (s.1 + 1, s.2.1 + 1, s.2.2)).2.2.1 - 1, (g (s.1 + 1, s.2.1 + 1, s.2.2)).2.2.2) else (false, (g (s.1 + 1, s.2.1 + 1, s.2.2)).2)) := if_neg hd
    rw [e] at hr ⊢
    match ha : amg tp to (am_str sg) s.1 with
    | some i =>
      show okM w (nI (1000 + i) :: s.2.2) ∧ hgM (nI (1000 + i) :: s.2.2) = hgM s.2.2 + 1
      have hi := amg_i ha
      exact ⟨⟨ho, Or.inr (Or.inl ⟨i, by omega, rfl⟩)⟩, if_pos (nI_2000 (by omega))⟩
    | none =>
      rw [ha] at hr
      have hr : (if amg tp to (am_str 2) s.1 = none ∨ s.2.1 = 5 then (false, s) else if (g (s.1 + 1, s.2.1 + 1, s.2.2)).1 = true ∧ ¬ amg tp to (am_str 3) (g (s.1 + 1, s.2.1 + 1, s.2.2)).2.1 = none then (true, (g (s.1 + 1, s.2.1 + 1, s.2.2)).2.1 + 1, (g (s.1 + 1, s.2.1 + 1, s.2.2)).2.2.1 - 1, (g (s.1 + 1, s.2.1 + 1, s.2.2)).2.2.2) else (false, (g (s.1 + 1, s.2.1 + 1, s.2.2)).2)).1 = true := hr
      show okM w (if amg tp to (am_str 2) s.1 = none ∨ s.2.1 = 5 then (false, s) else if (g (s.1 + 1, s.2.1 + 1, s.2.2)).1 = true ∧ ¬ amg tp to (am_str 3) (g (s.1 + 1, s.2.1 + 1, s.2.2)).2.1 = none then (true, (g (s.1 + 1, s.2.1 + 1, s.2.2)).2.1 + 1, (g (s.1 + 1, s.2.1 + 1, s.2.2)).2.2.1 - 1, (g (s.1 + 1, s.2.1 + 1, s.2.2)).2.2.2) else (false, (g (s.1 + 1, s.2.1 + 1, s.2.2)).2)).2.2.2 ∧ hgM (if amg tp to (am_str 2) s.1 = none ∨ s.2.1 = 5 then (false, s) else if (g (s.1 + 1, s.2.1 + 1, s.2.2)).1 = true ∧ ¬ amg tp to (am_str 3) (g (s.1 + 1, s.2.1 + 1, s.2.2)).2.1 = none then (true, (g (s.1 + 1, s.2.1 + 1, s.2.2)).2.1 + 1, (g (s.1 + 1, s.2.1 + 1, s.2.2)).2.2.1 - 1, (g (s.1 + 1, s.2.1 + 1, s.2.2)).2.2.2) else (false, (g (s.1 + 1, s.2.1 + 1, s.2.2)).2)).2.2.2 = hgM s.2.2 + 1
      by_cases h2 : amg tp to (am_str 2) s.1 = none ∨ s.2.1 = 5
      · rw [if_pos h2] at hr
        cases hr
      · rw [if_neg h2] at hr ⊢
        have lt := amg_lt (fun z => h2 (Or.inl z))
        have g1 := hg (s.1 + 1, s.2.1 + 1, s.2.2) lt (by
          show s.2.1 + 1 ≤ 5
          have : s.2.1 ≠ 5 := fun z => h2 (Or.inr z)
          omega) ho
        generalize g (s.1 + 1, s.2.1 + 1, s.2.2) = r at *
        by_cases h3 : r.1 = true ∧ ¬ amg tp to (am_str 3) r.2.1 = none
        · rw [if_pos h3]
          exact g1 h3.1
        · rw [if_neg h3] at hr
          cases hr
theorem ah_okM {g h : RdS → Bool × RdS} (hg : GkM to w g) (hh : GkM to w h) (s : RdS) (h1 : s.1 ≤ to) (h5 : s.2.1 ≤ 5) (ho : okM w s.2.2) (hr : (ahG g h tp to s).1 = true) : okM w (ahG g h tp to s).2.2.2 ∧ hgM (ahG g h tp to s).2.2.2 = hgM s.2.2 + 1 := by
  unfold ahG at hr ⊢
  match ha : amg tp to (am_str 4) s.1 with
  | none =>
    rw [ha] at hr
    exact hh s h1 h5 ho hr
  | some i =>
    rw [ha] at hr
    have hr : (if (g (s.1 + 1, s.2)).1 = true then (true, (g (s.1 + 1, s.2)).2.1, (g (s.1 + 1, s.2)).2.2.1, (if i = 0 then 2033 else 2126) :: (g (s.1 + 1, s.2)).2.2.2) else g (s.1 + 1, s.2)).1 = true := hr
    show okM w (if (g (s.1 + 1, s.2)).1 = true then (true, (g (s.1 + 1, s.2)).2.1, (g (s.1 + 1, s.2)).2.2.1, (if i = 0 then 2033 else 2126) :: (g (s.1 + 1, s.2)).2.2.2) else g (s.1 + 1, s.2)).2.2.2 ∧ hgM (if (g (s.1 + 1, s.2)).1 = true then (true, (g (s.1 + 1, s.2)).2.1, (g (s.1 + 1, s.2)).2.2.1, (if i = 0 then 2033 else 2126) :: (g (s.1 + 1, s.2)).2.2.2) else g (s.1 + 1, s.2)).2.2.2 = hgM s.2.2 + 1
    have lt := amg_lt2 ha
    have g1 := hg (s.1 + 1, s.2) lt h5 ho
    generalize g (s.1 + 1, s.2) = r at *
    by_cases h3 : r.1 = true
    · rw [if_pos h3]
      obtain ⟨a, b⟩ := g1 h3
      have b : hgM r.2.2.2 = hgM s.2.2 + 1 := b
      have hx : ∃ x : Int32, x = (if i = 0 then 2033 else 2126) ∧ (x = 2126 ∨ x = 2033) ∧ ¬ x < 2000 := by
        by_cases z : i = 0
        · exact ⟨2033, (if_pos z).symm, Or.inr rfl, by decide⟩
        · exact ⟨2126, (if_neg z).symm, Or.inl rfl, by decide⟩
      obtain ⟨x, x1, x2, x3⟩ := hx
      rw [← x1]
      refine ⟨⟨a, Or.inr (Or.inr (Or.inl ⟨x2, by omega⟩))⟩, ?_⟩
      show hgM (x :: r.2.2.2) = _
      rw [hgM, if_neg x3, if_pos x2, b]
    · rw [if_neg h3] at hr
      exact absurd hr h3
theorem rk_okM {g : RdS → Bool × RdS} {k : Nat} (hk : k ≤ 4) (hch : ∀ i, i < to → tp i < 256) (hg : GkM to w g) (hL : ∀ s : RdS, s.1 ≤ to → s.2.1 ≤ 5 → RdL to s (g s)) : ∀ n b (s : RdS), s.1 ≤ to → s.2.1 ≤ 5 → okM w s.2.2 → 1 ≤ hgM s.2.2 → (rkL g tp to k n b s).1 = true → okM w (rkL g tp to k n b s).2.2.2 ∧ hgM (rkL g tp to k n b s).2.2.2 = hgM s.2.2
  | 0, b, s, _, _, ho, _, _ => ⟨ho, rfl⟩
  | n + 1, b, s, h1, h5, ho, h2, hr => by
    unfold rkL at hr ⊢
    by_cases hc : b = true ∧ ¬ amg tp to (am_str (opsM k)) s.1 = none
    · rw [if_pos hc] at hr ⊢
      have lt := amg_lt hc.2
      have g1 := hg (s.1 + 1, s.2) lt h5 ho
      obtain ⟨l1, l2, -, l4, l5⟩ := hL (s.1 + 1, s.2) lt h5
      have bn := op_bn hk (hch _ lt) (fun z => hc.2 (by rw [amg_in lt]; exact z))
      generalize g (s.1 + 1, s.2) = r at *
      by_cases h3 : r.1 = true
      · obtain ⟨a, b⟩ := g1 h3
        have b : hgM r.2.2.2 = hgM s.2.2 + 1 := b
        rw [h3, if_pos rfl] at hr ⊢
        have hh : hgM (nI (2000 + tp s.1) :: r.2.2.2) = hgM s.2.2 := by
          rw [hgM, if_neg bn.2.1, if_neg bn.2.2, b]
          omega
        have ok : okM w (nI (2000 + tp s.1) :: r.2.2.2) := ⟨a, Or.inr (Or.inr (Or.inr ⟨bn.1, by omega⟩))⟩
        by_cases k2 : k = 2
        · rw [if_pos k2]
          exact ⟨ok, hh⟩
        · rw [if_neg k2] at hr ⊢
          obtain ⟨x, y⟩ := rk_okM hk hch hg hL n true (r.2.1, r.2.2.1, nI (2000 + tp s.1) :: r.2.2.2) l2 l4 ok (by rw [hh]; exact h2) hr
          exact ⟨x, by rw [y, hh]⟩
      · have h4 : r.1 = false := Bool.eq_false_iff.mpr h3
        rw [h4, if_neg Bool.false_ne_true, rkL_ff] at hr
        exfalso
        by_cases k2 : k = 2
        · rw [if_pos k2] at hr
          cases hr
        · rw [if_neg k2] at hr
          cases hr
    · rw [if_neg hc]
      exact ⟨ho, rfl⟩
theorem rd_okM (hw : (am_str sg).length = w) (hw6 : w ≤ 6) (hch : ∀ i, i < to → tp i < 256) : ∀ f k, k ≤ 6 → GkM to w (rdF tp to sg f k)
  | 0, k, _, s, _, _, _, hr => by cases hr
  | f + 1, k, hk, s, h1, h5, ho, hr => by
    unfold rdF at hr ⊢
    by_cases k6 : k = 6
    · rw [if_pos k6] at hr ⊢
      exact th_okM hw hw6 (rd_okM hw hw6 hch f 0 (by decide)) s h1 h5 ho hr
    · rw [if_neg k6] at hr ⊢
      by_cases k5 : k = 5
      · rw [if_pos k5] at hr ⊢
        exact ah_okM (rd_okM hw hw6 hch f 5 (by decide)) (rd_okM hw hw6 hch f 6 (by decide)) s h1 h5 ho hr
      · rw [if_neg k5] at hr ⊢
        have g1 := rd_okM hw hw6 hch f (k + 1) (by omega) s h1 h5 ho
        obtain ⟨l1, l2, -, l4, -⟩ := rdF_ok (tp := tp) (sg := sg) f (k + 1) s h1 h5
        have gk := rd_okM hw hw6 hch f (k + 1) (by omega)
        have gl := rdF_ok (tp := tp) (to := to) (sg := sg) f (k + 1)
        by_cases h3 : (rdF tp to sg f (k + 1) s).1 = true
        · obtain ⟨a, b⟩ := g1 h3
          obtain ⟨x, y⟩ := rk_okM (by omega) hch gk gl 60 _ _ l2 l4 a (by omega) hr
          exact ⟨x, by rw [y, b]⟩
        · have h4 : (rdF tp to sg f (k + 1) s).1 = false := Bool.eq_false_iff.mpr h3
          rw [h4, rkL_ff] at hr
          cases hr
end OKM
theorem mcd_cs {x y : Int32} (h : mcd x = y) (h1 : y ≠ 2126) (h2 : y ≠ 9999) : x = y ∧ mcd x = mcode x := by
  unfold mcd at h
  by_cases a : x = 2110
  · rw [if_pos a] at h
    exact absurd h.symm h1
  · rw [if_neg a] at h
    by_cases b : x = 2126
    · rw [if_pos b] at h
      exact absurd h.symm h2
    · rw [if_neg b] at h
      refine ⟨h, ?_⟩
      unfold mcd mcode
      rw [if_neg a, if_neg b, if_neg a]
theorem nI_far {k a : Nat} (hk : k < 2000) (ha : 2000 ≤ a ∧ a < 10000) : nI k ≠ nI a := fun z => by
  have : k = a := nI_inj (by omega) (by omega) z
  omega
theorem wf_of {w : Nat} (hw : w ≤ 6) : ∀ (l : List Int32) (cs : Nat → Int32), Stk cs l → okM w (l.map mcd) → hgt cs l.length = hgM (l.map mcd) ∧ (∀ n, n < l.length → (cs n < 2000 → (∃ k, k < 1000 ∧ cs n = nI k) ∨ ∃ i, i < w ∧ cs n = nI (1000 + i)) ∧ (¬ cs n < 2000 → (unC (cs n) ∧ 1 ≤ hgt cs n) ∨ (¬ unC (cs n) ∧ binC (cs n) ∧ 2 ≤ hgt cs n))) ∧ ∀ x, x ∈ l → mcd x = mcode x
  | [], cs, _, _ => ⟨rfl, fun n hn => absurd hn (Nat.not_lt_zero n), fun x hx => by cases hx⟩
  | x :: t, cs, hs, ho => by
    obtain ⟨o1, o2⟩ := ho
    have ex := stk_top hs
    obtain ⟨i1, i2, i3⟩ := wf_of hw t cs (stk_pop hs) o1
    have key : mcd x = mcode x ∧ (if x < 2000 then hgM (t.map mcd) + 1 else if unC x then hgM (t.map mcd) else hgM (t.map mcd) - 1) = hgM ((x :: t).map mcd) ∧ (x < 2000 → (∃ k, k < 1000 ∧ x = nI k) ∨ ∃ i, i < w ∧ x = nI (1000 + i)) ∧ (¬ x < 2000 → (unC x ∧ 1 ≤ hgM (t.map mcd)) ∨ (¬ unC x ∧ binC x ∧ 2 ≤ hgM (t.map mcd))) := by
      have hm : hgM ((x :: t).map mcd) = if mcd x < 2000 then hgM (t.map mcd) + 1 else if mcd x = 2126 ∨ mcd x = 2033 then hgM (t.map mcd) else hgM (t.map mcd) - 1 := rfl
      rw [hm]
      rcases o2 with ⟨k, k1, k2⟩ | ⟨k, k1, k2⟩ | ⟨k1, k2⟩ | ⟨k1, k2⟩
      · obtain ⟨e1, e2⟩ := mcd_cs k2 (nI_far (a := 2126) (by omega) (by decide)) (nI_far (a := 9999) (by omega) (by decide))
        have lt : x < 2000 := by rw [e1]; exact nI_2000 (by omega)
        refine ⟨e2, ?_, fun _ => Or.inl ⟨k, k1, e1⟩, fun z => absurd lt z⟩
        rw [k2, ← e1, if_pos lt, if_pos lt]
      · obtain ⟨e1, e2⟩ := mcd_cs k2 (nI_far (a := 2126) (by omega) (by decide)) (nI_far (a := 9999) (by omega) (by decide))
        have lt : x < 2000 := by rw [e1]; exact nI_2000 (by omega)
        refine ⟨e2, ?_, fun _ => Or.inr ⟨k, k1, e1⟩, fun z => absurd lt z⟩
        rw [k2, ← e1, if_pos lt, if_pos lt]
      · have hx : x = 2110 ∨ x = 2033 := by
          rcases k1 with k1 | k1
          · unfold mcd at k1
            by_cases a : x = 2110
            · exact Or.inl a
            · rw [if_neg a] at k1
              by_cases b : x = 2126
              · rw [if_pos b] at k1
                exact absurd k1 (by decide)
              · rw [if_neg b] at k1
                exact absurd k1 b
          · exact Or.inr (mcd_cs k1 (by decide) (by decide)).1
        rcases hx with rfl | rfl
        · exact ⟨by decide, rfl, fun z => absurd z (by decide), fun _ => Or.inl ⟨Or.inl rfl, k2⟩⟩
        · exact ⟨by decide, rfl, fun z => absurd z (by decide), fun _ => Or.inl ⟨Or.inr rfl, k2⟩⟩
      · have n1 : mcd x ≠ 2126 := fun z => by
          rw [z] at k1
          exact absurd k1 (by decide)
        have n2 : mcd x ≠ 9999 := fun z => by
          rw [z] at k1
          exact absurd k1 (by decide)
        obtain ⟨e1, e2⟩ := mcd_cs rfl n1 n2
        rw [← e1] at k1
        have nu : ¬ unC x := by
          rcases k1 with rfl | rfl | rfl | rfl | rfl | rfl | rfl | rfl | rfl <;> decide
        have nl : ¬ x < 2000 := by
          rcases k1 with rfl | rfl | rfl | rfl | rfl | rfl | rfl | rfl | rfl <;> decide
        have nm : ¬ (x = 2126 ∨ x = 2033) := by
          rcases k1 with rfl | rfl | rfl | rfl | rfl | rfl | rfl | rfl | rfl <;> decide
        refine ⟨e2, ?_, fun z => absurd z nl, fun _ => Or.inr ⟨nu, k1, k2⟩⟩
        rw [← e1, if_neg nl, if_neg nl, if_neg nu, if_neg nm]
    obtain ⟨y1, y2, y3, y4⟩ := key
    refine ⟨?_, fun n hn => ?_, fun z hz => ?_⟩
    · show hgt cs (t.length + 1) = _
      rw [hgt, ex, i1, y2]
    · by_cases z : n = t.length
      · rw [z, ex, i1]
        exact ⟨y3, y4⟩
      · rw [List.length_cons] at hn
        exact i2 n (by omega)
    · rcases List.mem_cons.mp hz with z | z
      · rw [z]
        exact y1
      · exact i3 _ z
