/-! Chances: the class's cases are the reference's. -/
theorem ansI_casM {A S : am_S} {one other : Nat} {m : Int32} (h1 : one < 6) (h2 : other < 6) (hp : ∀ p, p < 6 → gI A (6 + 2 * p) 0 = gI S 99 p ∧ gI A (6 + 2 * p) 2 = gI S 101 p) (hf : ∀ p i, p < 6 → i < 4 → gI A (6 + 2 * p + 1) i = fgM S p i) : ansI A one other m = casM S one other m := by
  unfold ansI casM
  refine sumI_congr 4 (fun i hi => sumI_congr 4 (fun j hj => ?_))
  rw [(hp other h2).1, (hp other h2).2, (hp one h1).1, hf other i h2 hi, hf one j h1 hj]
theorem fstF_congr {p q : Nat → Prop} [DecidablePred p] [DecidablePred q] (h : ∀ a, p a ↔ q a) : ∀ f a, fstF p a f = fstF q a f
  | 0, _ => rfl
  | f + 1, a => by
    unfold fstF
    by_cases hp : p a
    · rw [if_pos hp, if_pos ((h a).mp hp)]
    · rw [if_neg hp, if_neg (fun z => hp ((h a).mpr z)), fstF_congr h f (a + 1)]
theorem sure_eq {A S : am_S} {one other : Nat} {w : Int32} (h : ∀ m, ansI A one other m = casM S one other m) : sureN A one other w = sureM S one other w := by
  unfold sureN sureM
  exact fstF_congr (fun a => by rw [h]) 199 0
