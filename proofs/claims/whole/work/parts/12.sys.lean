/-! THE SYSTEM'S STATE: numbers by cell and place; its cells. -/
/-- ints (fields and rows), longs, what refers where (0: how many courses are kept; 1..3: kept 0..2, one more than which, 0 none; 4, 5: hope, hopeNext; 6: signs) -/
abbrev am_S : Type := (Nat → Nat → Int32) × ((Nat → Nat → Int64) × (Nat → Nat))
def gI (S : am_S) (o k : Nat) : Int32 := S.1 o k
def gJ (S : am_S) (o k : Nat) : Int64 := S.2.1 o k
def gR (S : am_S) (c : Nat) : Nat := S.2.2 c
def am_up2 {α : Type} (f : Nat → Nat → α) (o k : Nat) (v : α) : Nat → Nat → α := fun a b => if a = o then (if b = k then v else f a b) else f a b
def am_upr {α : Type} (f : Nat → Nat → α) (o : Nat) (g : Nat → α) : Nat → Nat → α := fun a b => if a = o then g b else f a b
def uI (S : am_S) (o k : Nat) (v : Int32) : am_S := (am_up2 S.1 o k v, S.2)
def uJ (S : am_S) (o k : Nat) (v : Int64) : am_S := (S.1, am_up2 S.2.1 o k v, S.2.2)
/-- a whole row -/
def rI (S : am_S) (o : Nat) (g : Nat → Int32) : am_S := (am_upr S.1 o g, S.2)
def rJ (S : am_S) (o : Nat) (g : Nat → Int64) : am_S := (S.1, am_upr S.2.1 o g, S.2.2)
def uR (S : am_S) (c v : Nat) : am_S := (S.1, S.2.1, fun a => if a = c then v else S.2.2 a)
/-- each cell: its kind (below 12 an object of that class; 20 ints, 21 longs, 22 truths, 23 .. 25 references), its length -/
def am_kl : List (Nat × Nat) := [(10, 0), (9, 0), (23, 6), (24, 12), (20, 6), (20, 6), (4, 0), (20, 4), (4, 0), (20, 4), (4, 0), (20, 4), (4, 0), (20, 4), (4, 0), (20, 4), (4, 0), (20, 4), (1, 0), (20, 40), (20, 40), (1, 0), (20, 40), (20, 40), (1, 0), (20, 40), (20, 40), (1, 0), (20, 40), (20, 40), (1, 0), (20, 40), (20, 40), (1, 0), (20, 40), (20, 40), (1, 0), (20, 40), (20, 40), (1, 0), (20, 40), (20, 40), (1, 0), (20, 40), (20, 40), (1, 0), (20, 40), (20, 40), (1, 0), (20, 40), (20, 40), (1, 0), (20, 40), (20, 40), (0, 0), (20, 200), (20, 1200), (20, 1200), (20, 1200), (20, 1200), (0, 0), (20, 200), (20, 1200), (20, 1200), (20, 1200), (20, 1200), (25, 3), (5, 0), (20, 60), (1, 0), (20, 40), (20, 40), (20, 40), (22, 6), (7, 0), (21, 6), (8, 0), (20, 30), (20, 4), (2, 0), (21, 11), (21, 61), (21, 61), (21, 61), (6, 0), (20, 200), (3, 0), (20, 9), (1, 0), (20, 40), (20, 40), (20, 81), (20, 3), (20, 3), (20, 3), (20, 3), (20, 4), (11, 0), (21, 16), (20, 6), (20, 6), (20, 6), (20, 6), (20, 6), (20, 672), (20, 14), (20, 48), (20, 60), (20, 6), (20, 201), (20, 4800), (20, 6), (20, 4800), (20, 201), (21, 241), (21, 241), (21, 13), (21, 13), (20, 200), (20, 9), (20, 6), (20, 6), (20, 6), (20, 6), (20, 15003), (22, 3), (20, 3), (20, 3), (20, 3), (20, 3), (21, 1)]
def am_kn (m o : Nat) : Nat × Nat :=
  bif Nat.blt o 131 then am_kl.getD o (99, 0) else bif Nat.blt o (131 + 6 * m) then (match (o - 131) % 6 with
    | 0 => (0, 0)
    | 1 => (20, 200)
    | _ => (20, 1200)) else (99, 0)
/-- a field: 0 a number; 1 refers to a cell c; 2 to the c-th behind its own; 3 as gR c; 4 as gR c, 0 null -/
def am_fkl (ci : Nat) : List (Nat × Nat) := match ci with
  | 0 => [(0, 0), (0, 0), (0, 0), (0, 0), (2, 1), (2, 2), (2, 3), (2, 4), (2, 5)]
  | 1 => [(2, 1), (0, 0), (2, 2)]
  | 2 => [(1, 80), (1, 81), (1, 82), (1, 83), (0, 0)]
  | 3 => [(1, 87), (1, 88), (1, 91), (1, 92), (1, 93), (1, 94), (1, 95), (1, 96)]
  | 4 => [(0, 0), (0, 0), (0, 0), (0, 0), (0, 0), (2, 1)]
  | 5 => [(1, 68), (0, 0), (1, 69), (1, 72), (0, 0), (1, 73), (0, 0), (0, 0), (0, 0), (0, 0)]
  | 6 => [(1, 85), (0, 0)]
  | 7 => [(1, 75), (0, 0)]
  | 8 => [(1, 77), (1, 78), (0, 0)]
  | 9 => [(1, 2), (0, 0), (1, 3), (1, 4), (0, 0), (0, 0), (0, 0), (1, 5)]
  | 10 => [(1, 1), (1, 54), (1, 60), (1, 66), (1, 67), (1, 74), (1, 76), (1, 79), (1, 84), (1, 86)]
  | _ => [(0, 0), (0, 0), (1, 98), (0, 0), (1, 99), (1, 100), (1, 101), (1, 102), (1, 103), (0, 0), (0, 0), (0, 0), (0, 0), (1, 104), (1, 105), (1, 106), (1, 107), (0, 0), (0, 0), (0, 0), (0, 0), (4, 6), (1, 108), (0, 0), (0, 0), (1, 109), (1, 110), (1, 111), (1, 112), (1, 113), (0, 0), (0, 0), (0, 0), (3, 4), (3, 5), (1, 116), (1, 117), (0, 0), (1, 118), (1, 119), (0, 0), (0, 0), (0, 0), (0, 0), (1, 120), (1, 121), (1, 122), (1, 123), (1, 124), (1, 125), (1, 126), (1, 127), (1, 128), (1, 129)]
def am_fk (ci k : Nat) : Nat × Nat := (am_fkl ci).getD k (0, 0)
def am_fv (S : am_S) (ci o k : Nat) : Value := match am_fk ci k with
  | (0, _) => .int (gI S o k)
  | (1, c) => .ref c
  | (2, c) => .ref (o + c)
  | (3, c) => .ref (gR S c)
  | (_, c) => match gR S c with
    | 0 => .null
    | n + 1 => .ref (n + 1)
def am_kr (n : Nat) : Option Nat := match n with
  | 0 => none
  | n + 1 => some (131 + 6 * n)
def am_ck (S : am_S) (o : Nat) (q : Nat × Nat) : am_E := match q with
  | (20, n) => .inl (0, n, gI S o)
  | (21, n) => .inr (.inl (n, gJ S o))
  | (22, n) => .inl (2, n, gI S o)
  | (23, _) => .inr (.inr (.inl (3, [some 6, some 8, some 10, some 12, some 14, some 16])))
  | (24, _) => .inr (.inr (.inl (4, [some 18, some 21, some 24, some 27, some 30, some 33, some 36, some 39, some 42, some 45, some 48, some 51])))
  | (25, _) => .inr (.inr (.inl (5, [am_kr (gR S 1), am_kr (gR S 2), am_kr (gR S 3)])))
  | (ci, _) => .inr (.inr (.inr (ci, (List.range (am_fkl ci).length).map (am_fv S ci o))))
def am_H (S : am_S) : am_G := (List.range (131 + 6 * gR S 0)).map (fun o => am_ck S o (am_kn (gR S 0) o))
theorem am_kn_lt {m o : Nat} {q : Nat × Nat} (h : am_kn m o = q) (hq : q.1 ≠ 99) : o < 131 + 6 * m := by
  unfold am_kn at h
  cases h1 : Nat.blt o 131 with
  | true =>
    have := Nat.blt_eq.mp h1
    omega
  | false =>
    rw [h1] at h
    cases h2 : Nat.blt o (131 + 6 * m) with
    | true => exact Nat.blt_eq.mp h2
    | false =>
      rw [h2] at h
      exact absurd (by rw [← h]; rfl) hq
theorem am_H_get {S : am_S} {o : Nat} {q : Nat × Nat} (h : am_kn (gR S 0) o = q) (hq : q.1 ≠ 99) : (am_H S)[o]? = some (am_ck S o q) := by
  have hlt := am_kn_lt h hq
  simp only [am_H, List.getElem?_map, List.getElem?_range hlt, Option.map_some, h]
theorem am_H_ext {S S2 : am_S} {o : Nat} {e : am_E} (h0 : gR S2 0 = gR S 0) (h1 : am_ck S2 o (am_kn (gR S 0) o) = e) (h2 : ∀ a, a ≠ o → am_ck S2 a (am_kn (gR S 0) a) = am_ck S a (am_kn (gR S 0) a)) : (am_H S).set o e = am_H S2 := by
  apply List.ext_getElem?
  intro i
  simp only [am_H, List.getElem?_set, List.getElem?_map, List.length_map, List.length_range, h0]
  by_cases hi : o = i
  · subst hi
    rw [if_pos rfl]
    by_cases hl : o < 131 + 6 * gR S 0
    · rw [if_pos hl, List.getElem?_range hl, Option.map_some, h1]
    · rw [if_neg hl]
      have : (List.range (131 + 6 * gR S 0))[o]? = none := by simp; omega
      rw [this]
      rfl
  · rw [if_neg hi]
    by_cases hl : i < 131 + 6 * gR S 0
    · rw [List.getElem?_range hl, Option.map_some, Option.map_some, h2 i (fun z => hi z.symm)]
    · have : (List.range (131 + 6 * gR S 0))[i]? = none := by simp; omega
      rw [this]
      rfl
theorem am_fv_o {S S2 : am_S} {ci o : Nat} (h1 : ∀ k, gI S2 o k = gI S o k) (h2 : ∀ c, gR S2 c = gR S c) (k : Nat) : am_fv S2 ci o k = am_fv S ci o k := by
  unfold am_fv
  split <;> simp only [h1, h2]
theorem am_ck_o {S S2 : am_S} {o : Nat} (h1 : ∀ k, gI S2 o k = gI S o k) (h2 : ∀ c, gR S2 c = gR S c) (h3 : ∀ k, gJ S2 o k = gJ S o k) (q : Nat × Nat) : am_ck S2 o q = am_ck S o q := by
  have e1 : gI S2 o = gI S o := funext h1
  have e3 : gJ S2 o = gJ S o := funext h3
  have e4 : am_fv S2 = am_fv S ∨ True := Or.inr trivial
  unfold am_ck
  split <;> first | rfl | simp only [e1] | simp only [e3] | simp only [h2] | skip
  · have e5 : ∀ ci, am_fv S2 ci o = am_fv S ci o := fun ci => funext fun k => am_fv_o h1 h2 k
    rw [e5]
theorem gI_uI (S : am_S) (o k : Nat) (v : Int32) (a b : Nat) : gI (uI S o k v) a b = if a = o then (if b = k then v else gI S a b) else gI S a b := rfl
theorem gI_rI (S : am_S) (o : Nat) (g : Nat → Int32) (a b : Nat) : gI (rI S o g) a b = if a = o then g b else gI S a b := rfl
theorem gJ_uJ (S : am_S) (o k : Nat) (v : Int64) (a b : Nat) : gJ (uJ S o k v) a b = if a = o then (if b = k then v else gJ S a b) else gJ S a b := rfl
theorem gJ_rJ (S : am_S) (o : Nat) (g : Nat → Int64) (a b : Nat) : gJ (rJ S o g) a b = if a = o then g b else gJ S a b := rfl
theorem gJ_uI (S : am_S) (o k : Nat) (v : Int32) (a b : Nat) : gJ (uI S o k v) a b = gJ S a b := rfl
theorem gI_uJ (S : am_S) (o k : Nat) (v : Int64) (a b : Nat) : gI (uJ S o k v) a b = gI S a b := rfl
theorem gR_uI (S : am_S) (o k : Nat) (v : Int32) (c : Nat) : gR (uI S o k v) c = gR S c := rfl
theorem gR_uJ (S : am_S) (o k : Nat) (v : Int64) (c : Nat) : gR (uJ S o k v) c = gR S c := rfl
theorem gR_rI (S : am_S) (o : Nat) (g : Nat → Int32) (c : Nat) : gR (rI S o g) c = gR S c := rfl
theorem gJ_rI (S : am_S) (o : Nat) (g : Nat → Int32) (a b : Nat) : gJ (rI S o g) a b = gJ S a b := rfl
theorem gI_rJ (S : am_S) (o : Nat) (g : Nat → Int64) (a b : Nat) : gI (rJ S o g) a b = gI S a b := rfl
/-- an int field is written -/
theorem am_H_putI {S : am_S} {o ci b : Nat} {x : Int32} (h : am_kn (gR S 0) o = (ci, 0)) (hci : ci < 12) (hb : am_fk ci b = (0, 0)) : (am_H S).set o (.inr (.inr (.inr (ci, ((List.range (am_fkl ci).length).map (am_fv S ci o)).set b (.int x))))) = am_H (uI S o b x) := by
  refine am_H_ext rfl ?_ (fun a ha => am_ck_o (S := S) (S2 := uI S o b x) (fun k => by rw [gI_uI, if_neg ha]) (fun _ => rfl) (fun _ => rfl) _)
  rw [h]
  have e : ∀ k, am_fv (uI S o b x) ci o k = if k = b then .int x else am_fv S ci o k := by
    intro k
    by_cases hk : k = b
    · subst hk
      rw [if_pos rfl]
      unfold am_fv
      rw [hb]
      show Value.int (gI (uI S o k x) o k) = _
      rw [gI_uI, if_pos rfl, if_pos rfl]
    · rw [if_neg hk]
      unfold am_fv
      split <;> first | rfl | (rw [gI_uI, if_pos rfl, if_neg hk])
  have e2 : ((List.range (am_fkl ci).length).map (am_fv S ci o)).set b (.int x) = (List.range (am_fkl ci).length).map (am_fv (uI S o b x) ci o) := by
    apply List.ext_getElem?
    intro i
    simp only [List.getElem?_set, List.getElem?_map, List.length_map, List.length_range]
    by_cases hi : i < (am_fkl ci).length
    · rw [List.getElem?_range hi]
      simp only [Option.map_some, e]
      by_cases hib : b = i
      · subst hib
        simp [hi]
      · have : ¬ i = b := fun z => hib z.symm
        simp [hib, this]
    · have hn : (List.range (am_fkl ci).length)[i]? = none := by simp; omega
      rw [hn]
      simp only [Option.map_none]
      split
      · split
        · omega
        · rfl
      · rfl
  rw [e2]
  match ci, hci with
  | 0, _ => rfl
  | 1, _ => rfl
  | 2, _ => rfl
  | 3, _ => rfl
  | 4, _ => rfl
  | 5, _ => rfl
  | 6, _ => rfl
  | 7, _ => rfl
  | 8, _ => rfl
  | 9, _ => rfl
  | 10, _ => rfl
  | 11, _ => rfl
theorem am_H_putA {S : am_S} {o n i t : Nat} {x : Int32} (h : am_kn (gR S 0) o = (20 + t, n)) (ht : t = 0 ∨ t = 2) : (am_H S).set o (.inl (t, n, upd (gI S o) i x)) = am_H (uI S o i x) := by
  refine am_H_ext rfl ?_ (fun a ha => am_ck_o (S := S) (S2 := uI S o i x) (fun k => by rw [gI_uI, if_neg ha]) (fun _ => rfl) (fun _ => rfl) _)
  rw [h]
  have e : gI (uI S o i x) o = upd (gI S o) i x := by
    funext j
    rw [gI_uI, if_pos rfl]
    rfl
  rcases ht with rfl | rfl
  · show Sum.inl (0, n, gI (uI S o i x) o) = _
    rw [e]
  · show Sum.inl (2, n, gI (uI S o i x) o) = _
    rw [e]
theorem am_H_putJ {S : am_S} {o n i : Nat} {x : Int64} (h : am_kn (gR S 0) o = (21, n)) : (am_H S).set o (.inr (.inl (n, vp_updL (gJ S o) i x))) = am_H (uJ S o i x) := by
  refine am_H_ext rfl ?_ (fun a ha => am_ck_o (S := S) (S2 := uJ S o i x) (fun k => rfl) (fun _ => rfl) (fun k => by rw [gJ_uJ, if_neg ha]) _)
  rw [h]
  have e : gJ (uJ S o i x) o = vp_updL (gJ S o) i x := by
    funext j
    rw [gJ_uJ, if_pos rfl]
    rfl
  show Sum.inr (Sum.inl (n, gJ (uJ S o i x) o)) = _
  rw [e]
theorem am_H_rowI {S : am_S} {o n : Nat} {g : Nat → Int32} (h : am_kn (gR S 0) o = (20, n)) : (am_H S).set o (.inl (0, n, g)) = am_H (rI S o g) := by
  refine am_H_ext rfl ?_ (fun a ha => am_ck_o (S := S) (S2 := rI S o g) (fun k => by rw [gI_rI, if_neg ha]) (fun _ => rfl) (fun _ => rfl) _)
  rw [h]
  have e : gI (rI S o g) o = g := by
    funext j
    rw [gI_rI, if_pos rfl]
  show Sum.inl (0, n, gI (rI S o g) o) = _
  rw [e]
theorem am_H_rowJ {S : am_S} {o n : Nat} {g : Nat → Int64} (h : am_kn (gR S 0) o = (21, n)) : (am_H S).set o (.inr (.inl (n, g))) = am_H (rJ S o g) := by
  refine am_H_ext rfl ?_ (fun a ha => am_ck_o (S := S) (S2 := rJ S o g) (fun k => rfl) (fun _ => rfl) (fun k => by rw [gJ_rJ, if_neg ha]) _)
  rw [h]
  have e : gJ (rJ S o g) o = g := by
    funext j
    rw [gJ_rJ, if_pos rfl]
  show Sum.inr (Sum.inl (n, gJ (rJ S o g) o)) = _
  rw [e]
