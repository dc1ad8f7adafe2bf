/-! THE PICTURE: how a list of cells lies in the heap, at addresses ad, and what a step's table must have for its words. -/
def am_cv (ad : Nat → Nat) (v : Value) : Value := match v with
  | .ref k => .ref (ad k)
  | w => w
def am_ce (dA : Nat → ClassId) (ad : Nat → Nat) (e : am_E) : va_E := match e with
  | .inl (t, n, f) => .inl (dA t, n, .inl f)
  | .inr (.inl (n, f)) => .inl (dA 1, n, .inr (.inl f))
  | .inr (.inr (.inl (t, l))) => .inl (dA t, l.length, .inr (.inr (.inr (.inr (fun j => (l.getD j none).map ad)))))
  | .inr (.inr (.inr (ci, fs))) => .inr (ci, fs.map (am_cv ad))
def am_cw (dA : Nat → ClassId) (ad : Nat → Nat) (G : am_G) : va_W := G.mapIdx (fun k e => (ad k, am_ce dA ad e))
theorem am_cw_get {dA : Nat → ClassId} {ad : Nat → Nat} {G : am_G} {q : Nat} {e : am_E} (h : G[q]? = some e) : (am_cw dA ad G)[q]? = some (ad q, am_ce dA ad e) := by
  simp [am_cw, List.getElem?_mapIdx, h]
theorem am_cw_set {dA : Nat → ClassId} {ad : Nat → Nat} {G : am_G} {q : Nat} {e : am_E} : (am_cw dA ad G).set q (ad q, am_ce dA ad e) = am_cw dA ad (G.set q e) := by
  apply List.ext_getElem?
  intro i
  simp only [am_cw, List.getElem?_mapIdx, List.getElem?_set, List.length_mapIdx]
  by_cases h : q = i
  · subst h
    by_cases h2 : q < G.length <;> simp [h2]
  · simp [h]
theorem am_cw_push {dA : Nat → ClassId} {ad : Nat → Nat} {G : am_G} {e : am_E} : am_cw dA ad (G ++ [e]) = am_cw dA ad G ++ [(ad G.length, am_ce dA ad e)] := by
  simp [am_cw, List.mapIdx_append]
theorem am_cv_ad {n : Nat} {ad ad1 : Nat → Nat} (h : ∀ k : Nat, k < n ∨ 1000000 ≤ k → ad1 k = ad k) {v : Value} (hv : am_wfv n v = true) : am_cv ad1 v = am_cv ad v := by
  cases v with
  | ref k =>
    simp only [am_wfv, Bool.or_eq_true, decide_eq_true_eq] at hv
    simp only [am_cv, h k hv]
  | _ => rfl
theorem am_ce_ad {n : Nat} {dA : Nat → ClassId} {ad ad1 : Nat → Nat} (h : ∀ k : Nat, k < n ∨ 1000000 ≤ k → ad1 k = ad k) {e : am_E} (he : am_wfE n e = true) : am_ce dA ad1 e = am_ce dA ad e := by
  match e, he with
  | .inl (t, n, f), _ => rfl
  | .inr (.inl (n, f)), _ => rfl
  | .inr (.inr (.inl (t, l))), he =>
    have hz : ∀ j : Nat, (l.getD j none).map ad1 = (l.getD j none).map ad := by
      intro j
      rw [List.getD_eq_getElem?_getD]
      cases hj : l[j]? with
      | none => rfl
      | some o =>
        cases o with
        | none => rfl
        | some k =>
          have h2 := List.all_eq_true.mp he (some k) (List.mem_of_getElem? hj)
          simp only [Bool.or_eq_true, decide_eq_true_eq] at h2
          simp [h k h2]
    simp only [am_ce]
    congr 7
    funext j
    exact hz j
  | .inr (.inr (.inr (ci, fs))), he =>
    simp only [am_ce]
    congr 2
    exact List.map_congr_left fun v hv => am_cv_ad h (List.all_eq_true.mp he v hv)
theorem am_cw_ad {dA : Nat → ClassId} {ad ad1 : Nat → Nat} {G : am_G} {n : Nat} (h : ∀ k : Nat, k < n ∨ 1000000 ≤ k → ad1 k = ad k) (hn : G.length ≤ n) (hG : G.all (am_wfE n) = true) : am_cw dA ad1 G = am_cw dA ad G := by
  apply List.ext_getElem?
  intro i
  simp only [am_cw, List.getElem?_mapIdx]
  cases hi : G[i]? with
  | none => rfl
  | some e =>
    have h1 : i < G.length := (List.getElem?_eq_some_iff.mp hi).1
    simp only [Option.map_some, h i (Or.inl (Nat.lt_of_lt_of_le h1 hn)), am_ce_ad h (List.all_eq_true.mp hG e (List.mem_of_getElem? hi))]
/-- the locals -/
def am_lv (L : am_L) (ad : Nat → Nat) : List (Nat × Value) := (L.mapIdx (fun i o => o.map (fun v => (i, am_cv ad v)))).filterMap id
theorem am_lv_mem {L : am_L} {ad : Nat → Nat} {q : Nat × Value} : q ∈ am_lv L ad ↔ ∃ v, L[q.1]? = some (some v) ∧ q.2 = am_cv ad v := by
  simp only [am_lv, List.mem_filterMap, id]
  constructor
  · rintro ⟨o, ho, rfl⟩
    obtain ⟨i, hi⟩ := List.getElem?_of_mem ho
    rw [List.getElem?_mapIdx] at hi
    cases hL : L[i]? with
    | none => rw [hL] at hi; cases hi
    | some o =>
      rw [hL] at hi
      cases o with
      | none => cases hi
      | some v =>
        cases hi
        exact ⟨v, hL, rfl⟩
  · rintro ⟨v, h1, h2⟩
    refine ⟨some q, ?_, rfl⟩
    apply List.mem_of_getElem? (i := q.1)
    rw [List.getElem?_mapIdx, h1]
    simp only [Option.map_some, ← h2]
def am_LH (ls : Array Slot) (nL : Nat) (L : am_L) (ad : Nat → Nat) : Prop := L.length = nL ∧ lv_has ls nL (am_lv L ad)
theorem am_LH_at {ls : Array Slot} {nL : Nat} {L : am_L} {ad : Nat → Nat} (h : am_LH ls nL L ad) {i : Nat} {v : Value} (hi : L[i]? = some (some v)) : ls[i]? = some (.val (am_cv ad v)) := h.2.2.2 (i, am_cv ad v) (am_lv_mem.mpr ⟨v, hi, rfl⟩)
theorem am_LH_sub {ls : Array Slot} {nL : Nat} {l l2 : List (Nat × Value)} (h : lv_has ls nL l) (hs : ∀ q ∈ l2, q ∈ l) : lv_has ls nL l2 := ⟨h.1, h.2.1, fun q hq => h.2.2 q (hs q hq)⟩
theorem am_cat (ad : Nat → Nat) (v : Value) : (am_cv ad v).category = v.category := by cases v <;> rfl
theorem am_clr_len (L : am_L) (i : Nat) : (am_clr L i).length = L.length := by
  unfold am_clr
  split
  · rfl
  · split <;> simp
theorem am_clr_get {L : am_L} {i k : Nat} {v : Value} (h : (am_clr L i)[k]? = some (some v)) : L[k]? = some (some v) ∧ ¬ (k + 1 = i ∧ ∃ x, v = .long x) := by
  unfold am_clr at h
  split at h
  · exact ⟨h, fun z => by omega⟩
  · rename_i j
    split at h
    · rename_i x hx
      rw [List.getElem?_set] at h
      split at h
      · split at h <;> cases h
      · rename_i hn
        exact ⟨h, fun z => hn (by omega)⟩
    · rename_i hx
      refine ⟨h, fun z => ?_⟩
      obtain ⟨z1, x, rfl⟩ := z
      have : k = j := by omega
      subst this
      exact hx x h
def am_nod (L : am_L) : Prop := ∀ (i : Nat) (v : Value), L[i]? = some (some v) → v.category = 2 → ∃ x, v = .long x
theorem am_st1_LH {ls : Array Slot} {nL i : Nat} {L : am_L} {ad : Nat → Nat} {v : Value} (hd : am_nod L) (hL : L.length = nL) (h : lv_has ls nL ((i, am_cv ad v) :: (am_lv L ad).filter (fun q => !(q.1 == i) && !(q.1 + 1 == i && q.2.category == 2)))) : am_LH ls nL (am_st1 L i v) ad := by
  refine ⟨by simp [am_st1, am_clr_len, hL], am_LH_sub h fun q hq => ?_⟩
  obtain ⟨w, h1, h2⟩ := am_lv_mem.mp hq
  unfold am_st1 at h1
  rw [List.getElem?_set] at h1
  split at h1
  · rename_i he
    split at h1
    · cases h1
      exact List.mem_cons.mpr (Or.inl (Prod.ext he.symm h2))
    · cases h1
  · rename_i hne
    obtain ⟨a1, a2⟩ := am_clr_get h1
    refine List.mem_cons.mpr (Or.inr (List.mem_filter.mpr ⟨am_lv_mem.mpr ⟨w, a1, h2⟩, ?_⟩))
    have n1 : ¬ q.1 = i := fun z => hne z.symm
    by_cases b : q.1 + 1 = i
    · have n2 : ¬ q.2.category = 2 := by
        rw [h2, am_cat]
        intro z
        exact a2 ⟨b, hd _ _ a1 z⟩
      simp [n1, n2]
    · simp [n1, b]
theorem am_st2_LH {ls : Array Slot} {nL i : Nat} {L : am_L} {ad : Nat → Nat} {v : Value} (hd : am_nod L) (hL : L.length = nL) (h : lv_has ls nL ((i, am_cv ad v) :: (am_lv L ad).filter (fun q => !(q.1 == i) && (!(q.1 == i + 1) && !(q.1 + 1 == i && q.2.category == 2))))) : am_LH ls nL (am_st2 L i v) ad := by
  refine ⟨by simp [am_st2, am_clr_len, hL], am_LH_sub h fun q hq => ?_⟩
  obtain ⟨w, h1, h2⟩ := am_lv_mem.mp hq
  unfold am_st2 at h1
  rw [List.getElem?_set] at h1
  split at h1
  · split at h1 <;> cases h1
  · rename_i hne2
    rw [List.getElem?_set] at h1
    split at h1
    · rename_i he
      split at h1
      · cases h1
        exact List.mem_cons.mpr (Or.inl (Prod.ext he.symm h2))
      · cases h1
    · rename_i hne
      obtain ⟨a1, a2⟩ := am_clr_get h1
      refine List.mem_cons.mpr (Or.inr (List.mem_filter.mpr ⟨am_lv_mem.mpr ⟨w, a1, h2⟩, ?_⟩))
      have n1 : ¬ q.1 = i := fun z => hne z.symm
      have n3 : ¬ q.1 = i + 1 := fun z => hne2 z.symm
      by_cases b : q.1 + 1 = i
      · have n2 : ¬ q.2.category = 2 := by
          rw [h2, am_cat]
          intro z
          exact a2 ⟨b, hd _ _ a1 z⟩
        simp [n1, n2, n3]
      · simp [n1, n3, b]
theorem am_nod_clr {L : am_L} {i : Nat} (h : am_nod L) : am_nod (am_clr L i) := fun k v hk hc => h k v (am_clr_get hk).1 hc
theorem am_nod_set {L : am_L} {i : Nat} {o : Option Value} (h : am_nod L) (ho : ∀ v, o = some v → v.category = 2 → ∃ x, v = .long x) : am_nod (L.set i o) := by
  intro k v hk hc
  rw [List.getElem?_set] at hk
  split at hk
  · split at hk
    · exact ho v (Option.some.inj hk) hc
    · cases hk
  · exact h k v hk hc
theorem am_nod_st1 {L : am_L} {i : Nat} {v : Value} (h : am_nod L) (hv : v.category = 1) : am_nod (am_st1 L i v) := am_nod_set (am_nod_clr h) (fun w hw hc => by cases hw; omega)
theorem am_nod_st2 {L : am_L} {i : Nat} {x : Int64} (h : am_nod L) : am_nod (am_st2 L i (.long x)) := am_nod_set (am_nod_set (am_nod_clr h) (fun w hw _ => ⟨x, (Option.some.inj hw).symm⟩)) (fun w hw _ => by cases hw)
