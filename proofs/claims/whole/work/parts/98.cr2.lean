/-! The cells that the law makes first. -/
def cr_G00 : cr_G := [
  .inr (.inr (.inr (10, [.ref 1, .ref 54, .ref 60, .ref 66, .ref 67, .ref 74, .ref 76, .ref 79, .ref 84, .ref 86]))),
  .inr (.inr (.inr (9, [.ref 2, .int 0, .ref 3, .ref 4, .int 0, .int 0, .int 0, .ref 5]))),
  .inr (.inr (.inl (3, [some 6, some 8, some 10, some 12, some 14, some 16]))),
  .inr (.inr (.inl (4, [some 18, some 21, some 24, some 27, some 30, some 33, some 36, some 39, some 42, some 45, some 48, some 51]))),
  .inl (0, 6, [(5, 10), (4, 8), (3, 6), (2, 4), (1, 2), (0, 0)]),
  .inl (0, 6, []),
  .inr (.inr (.inr (4, [.int 0, .int 0, .int 0, .int 0, .int 0, .ref 7]))),
  .inl (0, 4, [(3, 0), (2, 0), (1, 0), (0, 10)]),
  .inr (.inr (.inr (4, [.int 0, .int 0, .int 0, .int 0, .int 0, .ref 9]))),
  .inl (0, 4, [(3, 0), (2, 0), (1, 0), (0, 10)]),
  .inr (.inr (.inr (4, [.int 0, .int 0, .int 0, .int 0, .int 0, .ref 11]))),
  .inl (0, 4, [(3, 0), (2, 0), (1, 0), (0, 10)])]
def cr_G01 : cr_G := [
  .inr (.inr (.inr (4, [.int 0, .int 0, .int 0, .int 0, .int 0, .ref 13]))),
  .inl (0, 4, [(3, 0), (2, 0), (1, 0), (0, 10)]),
  .inr (.inr (.inr (4, [.int 0, .int 0, .int 0, .int 0, .int 0, .ref 15]))),
  .inl (0, 4, [(3, 0), (2, 0), (1, 0), (0, 10)]),
  .inr (.inr (.inr (4, [.int 0, .int 0, .int 0, .int 0, .int 0, .ref 17]))),
  .inl (0, 4, [(3, 0), (2, 0), (1, 0), (0, 10)]),
  .inr (.inr (.inr (1, [.ref 19, .int 0, .ref 20]))),
  .inl (0, 40, []),
  .inl (0, 40, []),
  .inr (.inr (.inr (1, [.ref 22, .int 0, .ref 23]))),
  .inl (0, 40, []),
  .inl (0, 40, [])]
def cr_G02 : cr_G := [
  .inr (.inr (.inr (1, [.ref 25, .int 0, .ref 26]))),
  .inl (0, 40, []),
  .inl (0, 40, []),
  .inr (.inr (.inr (1, [.ref 28, .int 0, .ref 29]))),
  .inl (0, 40, []),
  .inl (0, 40, []),
  .inr (.inr (.inr (1, [.ref 31, .int 0, .ref 32]))),
  .inl (0, 40, []),
  .inl (0, 40, []),
  .inr (.inr (.inr (1, [.ref 34, .int 0, .ref 35]))),
  .inl (0, 40, []),
  .inl (0, 40, [])]
def cr_G03 : cr_G := [
  .inr (.inr (.inr (1, [.ref 37, .int 0, .ref 38]))),
  .inl (0, 40, []),
  .inl (0, 40, []),
  .inr (.inr (.inr (1, [.ref 40, .int 0, .ref 41]))),
  .inl (0, 40, []),
  .inl (0, 40, []),
  .inr (.inr (.inr (1, [.ref 43, .int 0, .ref 44]))),
  .inl (0, 40, []),
  .inl (0, 40, []),
  .inr (.inr (.inr (1, [.ref 46, .int 0, .ref 47]))),
  .inl (0, 40, []),
  .inl (0, 40, [])]
def cr_G04 : cr_G := [
  .inr (.inr (.inr (1, [.ref 49, .int 0, .ref 50]))),
  .inl (0, 40, []),
  .inl (0, 40, []),
  .inr (.inr (.inr (1, [.ref 52, .int 0, .ref 53]))),
  .inl (0, 40, []),
  .inl (0, 40, []),
  .inr (.inr (.inr (0, [.int 0, .int 0, .int 1, .int 0, .ref 55, .ref 56, .ref 57, .ref 58, .ref 59]))),
  .inl (0, 200, []),
  .inl (0, 1200, []),
  .inl (0, 1200, []),
  .inl (0, 1200, []),
  .inl (0, 1200, [])]
def cr_G05 : cr_G := [
  .inr (.inr (.inr (0, [.int 0, .int 0, .int 1, .int 0, .ref 61, .ref 62, .ref 63, .ref 64, .ref 65]))),
  .inl (0, 200, []),
  .inl (0, 1200, []),
  .inl (0, 1200, []),
  .inl (0, 1200, []),
  .inl (0, 1200, []),
  .inr (.inr (.inl (5, [none, none, none]))),
  .inr (.inr (.inr (5, [.ref 68, .int 0, .ref 69, .ref 72, .int 0, .ref 73, .int 0, .int 0, .int 0, .int 0]))),
  .inl (0, 60, []),
  .inr (.inr (.inr (1, [.ref 70, .int 0, .ref 71]))),
  .inl (0, 40, []),
  .inl (0, 40, [])]
def cr_G06 : cr_G := [
  .inl (0, 40, []),
  .inl (2, 6, []),
  .inr (.inr (.inr (7, [.ref 75, .int 0]))),
  .inr (.inl 6),
  .inr (.inr (.inr (8, [.ref 77, .ref 78, .int 0]))),
  .inl (0, 30, []),
  .inl (0, 4, []),
  .inr (.inr (.inr (2, [.ref 80, .ref 81, .ref 82, .ref 83, .int 0]))),
  .inr (.inl 11),
  .inr (.inl 61),
  .inr (.inl 61),
  .inr (.inl 61)]
def cr_G07 : cr_G := [
  .inr (.inr (.inr (6, [.ref 85, .int 0]))),
  .inl (0, 200, []),
  .inr (.inr (.inr (3, [.ref 87, .ref 88, .ref 91, .ref 92, .ref 93, .ref 94, .ref 95, .ref 96]))),
  .inl (0, 9, [(8, 1), (7, 1), (6, 1), (5, 1), (4, 1), (3, 1), (2, 1), (1, 1), (0, 1)]),
  .inr (.inr (.inr (1, [.ref 89, .int 0, .ref 90]))),
  .inl (0, 40, []),
  .inl (0, 40, []),
  .inl (0, 81, []),
  .inl (0, 3, []),
  .inl (0, 3, []),
  .inl (0, 3, []),
  .inl (0, 3, [])]
def cr_G08 : cr_G := [
  .inl (0, 4, []),
  .inr (.inr (.inr (11, [.int 0, .int 0, .ref 98, .int 0, .ref 99, .ref 100, .ref 101, .ref 102, .ref 103, .int 0, .int 0, .int 0, .int 0, .ref 104, .ref 105, .ref 106, .ref 107, .int 0, .int 0, .int 0, .int 0, .null, .ref 108, .int 0, .int 1, .ref 109, .ref 110, .ref 111, .ref 112, .ref 113, .int 0, .int 0, .int 0, .ref 114, .ref 115, .ref 116, .ref 117, .int 0, .ref 118, .ref 119, .int 0, .int 0, .int 0, .int 0, .ref 120, .ref 121, .ref 122, .ref 123, .ref 124, .ref 125, .ref 126, .ref 127, .ref 128, .ref 129]))),
  .inr (.inl 16),
  .inl (0, 6, []),
  .inl (0, 6, []),
  .inl (0, 6, []),
  .inl (0, 6, []),
  .inl (0, 6, []),
  .inl (0, 672, []),
  .inl (0, 14, []),
  .inl (0, 48, []),
  .inl (0, 60, [])]
def cr_G09 : cr_G := [
  .inl (0, 6, []),
  .inl (0, 201, []),
  .inl (0, 4800, []),
  .inl (0, 6, [(5, -1), (4, -1), (3, -1), (2, -1), (1, -1), (0, -1)]),
  .inl (0, 4800, []),
  .inl (0, 201, []),
  .inr (.inl 241),
  .inr (.inl 241),
  .inr (.inl 13),
  .inr (.inl 13),
  .inl (0, 200, []),
  .inl (0, 9, [(8, 1), (7, 1), (6, 1), (5, 1), (4, 1), (3, 1), (2, 1), (1, 1), (0, 1)])]
def cr_G010 : cr_G := [
  .inl (0, 6, []),
  .inl (0, 6, []),
  .inl (0, 6, []),
  .inl (0, 6, []),
  .inl (0, 15003, []),
  .inl (2, 3, []),
  .inl (0, 3, []),
  .inl (0, 3, []),
  .inl (0, 3, []),
  .inl (0, 3, []),
  .inr (.inl 1)]
def cr_G0 : cr_G := cr_G00 ++ cr_G01 ++ cr_G02 ++ cr_G03 ++ cr_G04 ++ cr_G05 ++ cr_G06 ++ cr_G07 ++ cr_G08 ++ cr_G09 ++ cr_G010
def cr_s0 : cr_S := (0, am_entL 8 [.ref 2000000], [], [], 0, 0)
def cr_lq {α : Type} (f : α → α → Bool) : List α → List α → Bool
  | [], [] => true
  | a :: l, b :: m => f a b && cr_lq f l m
  | _, _ => false
theorem cr_lq_ok {α : Type} {f : α → α → Bool} (hf : ∀ a b, f a b = true → a = b) : ∀ l m : List α, cr_lq f l m = true → l = m
  | [], [], _ => rfl
  | a :: l, b :: m, h => by
    simp only [cr_lq, Bool.and_eq_true] at h
    rw [hf a b h.1, cr_lq_ok hf l m h.2]
  | [], _ :: _, h => by cases h
  | _ :: _, [], h => by cases h
def cr_ve (a b : Value) : Bool := match a, b with
  | .int x, .int y => decide (x = y)
  | .ref x, .ref y => decide (x = y)
  | .null, .null => true
  | _, _ => false
theorem cr_ve_ok (a b : Value) (h : cr_ve a b = true) : a = b := by
  unfold cr_ve at h
  split at h
  · rw [of_decide_eq_true h]
  · rw [of_decide_eq_true h]
  · rfl
  · cases h
def cr_oe (a b : Option Value) : Bool := match a, b with
  | none, none => true
  | some x, some y => cr_ve x y
  | _, _ => false
theorem cr_oe_ok (a b : Option Value) (h : cr_oe a b = true) : a = b := by
  unfold cr_oe at h
  split at h
  · rfl
  · rw [cr_ve_ok _ _ h]
  · cases h
def cr_ee (a b : cr_E) : Bool := match a, b with
  | .inl p, .inl q => decide (p = q)
  | .inr (.inl p), .inr (.inl q) => decide (p = q)
  | .inr (.inr (.inl p)), .inr (.inr (.inl q)) => decide (p = q)
  | .inr (.inr (.inr (c, fs))), .inr (.inr (.inr (d, gs))) => decide (c = d) && cr_lq cr_ve fs gs
  | _, _ => false
theorem cr_ee_ok (a b : cr_E) (h : cr_ee a b = true) : a = b := by
  unfold cr_ee at h
  split at h
  · rw [of_decide_eq_true h]
  · rw [of_decide_eq_true h]
  · rw [of_decide_eq_true h]
  · simp only [Bool.and_eq_true] at h
    rw [of_decide_eq_true h.1, cr_lq_ok cr_ve_ok _ _ h.2]
  · cases h
def cr_same (x : Option cr_S) : Bool := match x with
  | some (pc, L, st, G, nc, ns) => decide (pc = 23) && cr_lq cr_oe L (LL 0 none none none) && cr_lq cr_ve st [] && cr_lq cr_ee G cr_G0 && decide (nc = 131) && decide (ns = 38635)
  | none => false
theorem cr_run : cr_same (cr_go (cr_call am_MT 6) mmL_law 23 40 cr_s0) = true := by decide +kernel
theorem cr_run2 : cr_go (cr_call am_MT 6) mmL_law 23 40 cr_s0 = some (23, LL 0 none none none, [], cr_G0, 131, 38635) := by
  have h := cr_run
  unfold cr_same at h
  split at h
  · rename_i e
    simp only [Bool.and_eq_true, decide_eq_true_eq] at h
    obtain ⟨⟨⟨⟨⟨rfl, h1⟩, h2⟩, h3⟩, rfl⟩, rfl⟩ := h
    rw [e, cr_lq_ok cr_oe_ok _ _ h1, cr_lq_ok cr_ve_ok _ _ h2, cr_lq_ok cr_ee_ok _ _ h3]
  · cases h
def cr_gi (o k : Nat) : Int32 := match cr_G0[o]? with
  | some (.inl (_, _, us)) => cr_fn us k
  | some (.inr (.inr (.inr (_, fs)))) => (match fs[k]? with
    | some (.int x) => x
    | _ => 0)
  | _ => 0
/-- the state at first -/
def am_S0 : am_S := (cr_gi, fun _ _ => 0, fun c => if c = 4 then 114 else if c = 5 then 115 else 0)
set_option maxRecDepth 1000000 in
theorem cr_H : am_H am_S0 = cr_G0.map cr_den := rfl
theorem law_makes {scr : Option (Nat × (Nat → Int32))} {Q : Option Value → am_G → Prop} {X : am_P} (k : am_Ex (am_Call am_MT 750) mmL_law scr Q X 23 (LL 0 none none none) [] (am_H am_S0) 131 38635) : am_Ex (am_Call am_MT 750) mmL_law scr Q X 0 (am_entL 8 [.ref 2000000]) [] [] 0 0 := cr_go_ok (cr_call_ok 6 750 (by decide)) 40 cr_s0 _ cr_run2 (by
  show am_Ex (am_Call am_MT 750) mmL_law scr Q X 23 (LL 0 none none none) [] (cr_G0.map cr_den) 131 38635
  rw [← cr_H]
  exact k)
