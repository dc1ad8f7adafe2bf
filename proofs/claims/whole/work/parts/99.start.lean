/-! The law from its entry. -/
theorem arr_T {ty : FieldType} {args : Array Value} {s : State} (h : (Jvm.Cond.arrayClass ty).before args s = true) : ∃ cA, ArrOfT s cA ty ∧ s.vm.findClass ("[" ++ ty.toString) = some cA := by
  simp only [Cond.before, Cond.holds, Cond.value] at h
  cases hf : s.vm.findClass ("[" ++ ty.toString) with
  | none => simp [hf] at h
  | some cA =>
    cases hk : s.vm.classes[cA]? with
    | none => simp [hf, hk] at h
    | some kA =>
      cases hkd : kA.kind with
      | array comp t =>
        simp [hf, hk, hkd] at h
        subst h
        exact ⟨cA, fun N z => ⟨(fun k h => by cases h), kA, hk, comp, hkd⟩, rfl⟩
      | _ => simp [hf, hk, hkd] at h
theorem arr_O {C : String} {args : Array Value} {s : State} (h : (Jvm.Cond.arrayOver (.object C)).before args s = true) : ∃ cA, ArrOfT s cA (.object C) ∧ va_RA s cA (.object C) := by
  obtain ⟨comp, cA, kA, h1, h2, h3, h4, h5⟩ := Cond.arrayOver_spec h
  exact ⟨cA, fun N z => ⟨(fun k h => by cases h), kA, h3, comp, h4⟩, kA, comp, h3, h4, h1, h5⟩
theorem zs_in {C : String} {T : u_T} {N : Nat} {ps : List Nat} (h : ∀ j, j < N → lw_tbl[ps.getD j 0]? = some (u_lay C T j)) : ∀ w ∈ u_ws C T N, w ∈ lw_tbl := fun w hw => by
  obtain ⟨k, hk, rfl⟩ := List.mem_map.mp hw
  exact List.mem_of_getElem? (h k (List.mem_range.mp hk))
theorem zs_v0 : ∀ j, j < 9 → lw_tbl[([230, 232, 234, 236, 238, 240, 242, 244, 246] : List Nat).getD j 0]? = some (u_lay RX0 TX0 j) := by decide +kernel
theorem zs_w0 : ∀ w ∈ u_ws RX0 TX0 9, w ∈ lw_tbl := zs_in zs_v0
theorem zs_v1 : ∀ j, j < 3 → lw_tbl[([161, 163, 165] : List Nat).getD j 0]? = some (u_lay RX1 TX1 j) := by decide +kernel
theorem zs_w1 : ∀ w ∈ u_ws RX1 TX1 3, w ∈ lw_tbl := zs_in zs_v1
theorem zs_v2 : ∀ j, j < 5 → lw_tbl[([337, 339, 341, 343, 345] : List Nat).getD j 0]? = some (u_lay RX2 TX2 j) := by decide +kernel
theorem zs_w2 : ∀ w ∈ u_ws RX2 TX2 5, w ∈ lw_tbl := zs_in zs_v2
theorem zs_v3 : ∀ j, j < 8 → lw_tbl[([383, 385, 387, 389, 391, 393, 395, 397] : List Nat).getD j 0]? = some (u_lay RX3 TX3 j) := by decide +kernel
theorem zs_w3 : ∀ w ∈ u_ws RX3 TX3 8, w ∈ lw_tbl := zs_in zs_v3
theorem zs_v4 : ∀ j, j < 6 → lw_tbl[([137, 139, 141, 143, 145, 147] : List Nat).getD j 0]? = some (u_lay RX4 TX4 j) := by decide +kernel
theorem zs_w4 : ∀ w ∈ u_ws RX4 TX4 6, w ∈ lw_tbl := zs_in zs_v4
theorem zs_v5 : ∀ j, j < 10 → lw_tbl[([269, 271, 273, 275, 277, 279, 281, 283, 285, 287] : List Nat).getD j 0]? = some (u_lay RX5 TX5 j) := by decide +kernel
theorem zs_w5 : ∀ w ∈ u_ws RX5 TX5 10, w ∈ lw_tbl := zs_in zs_v5
theorem zs_v6 : ∀ j, j < 2 → lw_tbl[([356, 358] : List Nat).getD j 0]? = some (u_lay RX6 TX6 j) := by decide +kernel
theorem zs_w6 : ∀ w ∈ u_ws RX6 TX6 2, w ∈ lw_tbl := zs_in zs_v6
theorem zs_v7 : ∀ j, j < 2 → lw_tbl[([301, 303] : List Nat).getD j 0]? = some (u_lay RX7 TX7 j) := by decide +kernel
theorem zs_w7 : ∀ w ∈ u_ws RX7 TX7 2, w ∈ lw_tbl := zs_in zs_v7
theorem zs_v8 : ∀ j, j < 3 → lw_tbl[([318, 320, 322] : List Nat).getD j 0]? = some (u_lay RX8 TX8 j) := by decide +kernel
theorem zs_w8 : ∀ w ∈ u_ws RX8 TX8 3, w ∈ lw_tbl := zs_in zs_v8
theorem zs_v9 : ∀ j, j < 8 → lw_tbl[([187, 189, 191, 193, 195, 197, 199, 201] : List Nat).getD j 0]? = some (u_lay RX9 TX9 j) := by decide +kernel
theorem zs_w9 : ∀ w ∈ u_ws RX9 TX9 8, w ∈ lw_tbl := zs_in zs_v9
theorem zs_v10 : ∀ j, j < 10 → lw_tbl[([410, 412, 414, 416, 418, 420, 422, 424, 426, 428] : List Nat).getD j 0]? = some (u_lay RX10 TX10 j) := by decide +kernel
theorem zs_w10 : ∀ w ∈ u_ws RX10 TX10 10, w ∈ lw_tbl := zs_in zs_v10
theorem zs_v11 : ∀ j, j < 54 → lw_tbl[([1715, 1717, 1719, 1721, 1723, 1725, 1727, 1729, 1731, 1733, 1735, 1737, 1739, 1741, 1743, 1745, 1747, 1749, 1751, 1753, 1755, 1757, 1759, 1761, 1763, 1765, 1767, 1769, 1771, 1773, 1775, 1777, 1779, 1781, 1783, 1785, 1787, 1789, 1791, 1793, 1795, 1797, 1799, 1801, 1803, 1805, 1807, 1809, 1811, 1813, 1815, 1817, 1819, 1821] : List Nat).getD j 0]? = some (u_lay RX11 TX11 j) := by decide +kernel
theorem zs_w11 : ∀ w ∈ u_ws RX11 TX11 54, w ∈ lw_tbl := zs_in zs_v11
theorem zs_K {s : State} {args : Array Value} (hts : ∀ w ∈ lw_tbl, w.before args s = true) : ∃ (dC : Nat → ClassId) (dI : Nat → Nat → Nat) (dA : Nat → ClassId), va_K (dC, dI) vwCl (am_ty dA) s := by
  obtain ⟨c0, i0, h0⟩ := u_known (C := RX0) (T := TX0) (N := 9) (n := 9) hts zs_w0 (hts (.instantiable RX0 9) (List.mem_of_getElem? (i := 205) (by decide +kernel)))
  obtain ⟨c1, i1, h1⟩ := u_known (C := RX1) (T := TX1) (N := 3) (n := 3) hts zs_w1 (hts (.instantiable RX1 3) (List.mem_of_getElem? (i := 151) (by decide +kernel)))
  obtain ⟨c2, i2, h2⟩ := u_known (C := RX2) (T := TX2) (N := 5) (n := 5) hts zs_w2 (hts (.instantiable RX2 5) (List.mem_of_getElem? (i := 326) (by decide +kernel)))
  obtain ⟨c3, i3, h3⟩ := u_known (C := RX3) (T := TX3) (N := 8) (n := 8) hts zs_w3 (hts (.instantiable RX3 8) (List.mem_of_getElem? (i := 362) (by decide +kernel)))
  obtain ⟨c4, i4, h4⟩ := u_known (C := RX4) (T := TX4) (N := 6) (n := 6) hts zs_w4 (hts (.instantiable RX4 6) (List.mem_of_getElem? (i := 118) (by decide +kernel)))
  obtain ⟨c5, i5, h5⟩ := u_known (C := RX5) (T := TX5) (N := 10) (n := 10) hts zs_w5 (hts (.instantiable RX5 10) (List.mem_of_getElem? (i := 251) (by decide +kernel)))
  obtain ⟨c6, i6, h6⟩ := u_known (C := RX6) (T := TX6) (N := 2) (n := 2) hts zs_w6 (hts (.instantiable RX6 2) (List.mem_of_getElem? (i := 349) (by decide +kernel)))
  obtain ⟨c7, i7, h7⟩ := u_known (C := RX7) (T := TX7) (N := 2) (n := 2) hts zs_w7 (hts (.instantiable RX7 2) (List.mem_of_getElem? (i := 292) (by decide +kernel)))
  obtain ⟨c8, i8, h8⟩ := u_known (C := RX8) (T := TX8) (N := 3) (n := 3) hts zs_w8 (hts (.instantiable RX8 3) (List.mem_of_getElem? (i := 308) (by decide +kernel)))
  obtain ⟨c9, i9, h9⟩ := u_known (C := RX9) (T := TX9) (N := 8) (n := 8) hts zs_w9 (hts (.instantiable RX9 8) (List.mem_of_getElem? (i := 109) (by decide +kernel)))
  obtain ⟨c10, i10, h10⟩ := u_known (C := RX10) (T := TX10) (N := 10) (n := 10) hts zs_w10 (hts (.instantiable RX10 10) (List.mem_of_getElem? (i := 101) (by decide +kernel)))
  obtain ⟨c11, i11, h11⟩ := u_known (C := RX11) (T := TX11) (N := 54) (n := 54) hts zs_w11 (hts (.instantiable RX11 54) (List.mem_of_getElem? (i := 1205) (by decide +kernel)))
  obtain ⟨a0, e0, f0⟩ := arr_T (hts (.arrayClass .int) (List.mem_of_getElem? (i := 150) (by decide +kernel)))
  obtain ⟨a1, e1, f1⟩ := arr_T (hts (.arrayClass .long) (List.mem_of_getElem? (i := 306) (by decide +kernel)))
  obtain ⟨a2, e2, f2⟩ := arr_T (hts (.arrayClass .boolean) (List.mem_of_getElem? (i := 290) (by decide +kernel)))
  obtain ⟨a3, e3⟩ := arr_O (hts (.arrayOver (.object RX4)) (List.mem_of_getElem? (i := 115) (by decide +kernel)))
  obtain ⟨a4, e4⟩ := arr_O (hts (.arrayOver (.object RX1)) (List.mem_of_getElem? (i := 117) (by decide +kernel)))
  obtain ⟨a5, e5⟩ := arr_O (hts (.arrayOver (.object RX0)) (List.mem_of_getElem? (i := 249) (by decide +kernel)))
  refine ⟨(fun k => match k with | 0 => c0 | 1 => c1 | 2 => c2 | 3 => c3 | 4 => c4 | 5 => c5 | 6 => c6 | 7 => c7 | 8 => c8 | 9 => c9 | 10 => c10 | _ => c11), (fun k => match k with | 0 => i0 | 1 => i1 | 2 => i2 | 3 => i3 | 4 => i4 | 5 => i5 | 6 => i6 | 7 => i7 | 8 => i8 | 9 => i9 | 10 => i10 | _ => i11), (fun k => match k with | 0 => a0 | 1 => a1 | 2 => a2 | 3 => a3 | 4 => a4 | _ => a5), fun k q hq => ?_, fun k q hq => ?_⟩
  · match k, hq with
    | 0, hq => cases hq; exact h0
    | 1, hq => cases hq; exact h1
    | 2, hq => cases hq; exact h2
    | 3, hq => cases hq; exact h3
    | 4, hq => cases hq; exact h4
    | 5, hq => cases hq; exact h5
    | 6, hq => cases hq; exact h6
    | 7, hq => cases hq; exact h7
    | 8, hq => cases hq; exact h8
    | 9, hq => cases hq; exact h9
    | 10, hq => cases hq; exact h10
    | 11, hq => cases hq; exact h11
    | k + 12, hq => simp [vwCl] at hq
  · match k, hq with
    | 0, hq => cases hq; exact ⟨e0, f0⟩
    | 1, hq => cases hq; exact ⟨e1, f1⟩
    | 2, hq => cases hq; exact ⟨e2, f2⟩
    | 3, hq => cases hq; exact e3
    | 4, hq => cases hq; exact e4
    | 5, hq => cases hq; exact e5
    | k + 6, hq => simp [am_ty] at hq
theorem zs_nest : ∀ w ∈ am_nest, w.onTables = true ∧ w ∈ lw_tbl := fun w hw => by
  obtain ⟨h1, h2⟩ := List.mem_filter.mp hw
  refine ⟨?_, h1⟩
  cases w <;> first | rfl | exact nomatch (show (false : Bool) = true from h2)
theorem zs_KX {s : State} {args : Array Value} (hts : ∀ w ∈ lw_tbl, w.before args s = true) : am_KX s := ⟨fun w hw => va_Nw.of (zs_nest w hw).1 (hts w (zs_nest w hw).2), va_AO.of (hts (.arrayOver (.object RX4)) (List.mem_of_getElem? (i := 115) (by decide +kernel))), va_AO.of (hts (.arrayOver (.object RX1)) (List.mem_of_getElem? (i := 117) (by decide +kernel))), va_AO.of (hts (.arrayOver (.object RX0)) (List.mem_of_getElem? (i := 249) (by decide +kernel)))⟩
abbrev zs_F : List Jvm.Cond := flatC (Jvm.Cond.and given_1 narrow_1)
def zs_t (i : Nat) : Term := match am_sk i with
  | some (own, k) => .string own k
  | none => .arg 0
abbrev zs_L : List Nat := (List.range 10).map (fun i => (am_str i).length)
abbrev zs_B : List (List Int32) := (List.range 10).map (fun i => (am_str i).map nI)
theorem zs_1 : ∀ i, i < 10 → zs_L.getD i 0 < 2 ^ 31 := by decide +kernel
theorem zs_2p : ∀ i, i < 12 → zs_F[([65, 75, 105, 114, 96, 124, 135, 147, 162, 177, 84, 193] : List Nat).getD i 0]? = some (Jvm.Cond.exactly (zs_t i) "java/lang/String") := by decide +kernel
theorem zs_2 : ∀ i, i < 12 → Jvm.Cond.exactly (zs_t i) "java/lang/String" ∈ zs_F := fun i hi => List.mem_of_getElem? (zs_2p i hi)
theorem zs_3p : ∀ i, i < 10 → zs_F[([66, 76, 106, 115, 97, 125, 136, 148, 163, 178] : List Nat).getD i 0]? = some (Jvm.Cond.eq (.field (zs_t i) "java/lang/String" "coder" "B") (.int 0)) := by decide +kernel
theorem zs_3 : ∀ i, i < 10 → Jvm.Cond.eq (.field (zs_t i) "java/lang/String" "coder" "B") (.int 0) ∈ zs_F := fun i hi => List.mem_of_getElem? (zs_3p i hi)
theorem zs_4p : ∀ i, i < 10 → zs_F[([67, 77, 107, 116, 98, 126, 137, 149, 164, 179] : List Nat).getD i 0]? = some (Jvm.Cond.arrayOf (.field (zs_t i) "java/lang/String" "value" "[B") .byte) := by decide +kernel
theorem zs_4 : ∀ i, i < 10 → Jvm.Cond.arrayOf (.field (zs_t i) "java/lang/String" "value" "[B") .byte ∈ zs_F := fun i hi => List.mem_of_getElem? (zs_4p i hi)
theorem zs_5p : ∀ i, i < 10 → zs_F[([68, 78, 108, 117, 99, 127, 138, 150, 165, 180] : List Nat).getD i 0]? = some (Jvm.Cond.eq (.length (.field (zs_t i) "java/lang/String" "value" "[B")) (.int (Int32.ofNat (zs_L.getD i 0)))) := by decide +kernel
theorem zs_5 : ∀ i, i < 10 → Jvm.Cond.eq (.length (.field (zs_t i) "java/lang/String" "value" "[B")) (.int (Int32.ofNat (zs_L.getD i 0))) ∈ zs_F := fun i hi => List.mem_of_getElem? (zs_5p i hi)
theorem zs_6p : ∀ i, i < 10 → ∀ j, j < zs_L.getD i 0 → zs_F[(([[69, 70, 71, 72, 73, 74], [79, 80, 81, 82], [109], [118], [100, 101], [128], [139], [151, 152, 153], [166, 167], [181, 182]] : List (List Nat)).getD i []).getD j 0]? = some (Jvm.Cond.eq (.elem (.field (zs_t i) "java/lang/String" "value" "[B") (.int (Int32.ofNat j))) (.int ((zs_B.getD i []).getD j 0))) := by decide +kernel
theorem zs_6 : ∀ i, i < 10 → ∀ j, j < zs_L.getD i 0 → Jvm.Cond.eq (.elem (.field (zs_t i) "java/lang/String" "value" "[B") (.int (Int32.ofNat j))) (.int ((zs_B.getD i []).getD j 0)) ∈ zs_F := fun i hi j hj => List.mem_of_getElem? (zs_6p i hi j hj)
theorem zs_7p : ∀ i, i < 10 → ∀ j, j < 10 → i ≠ j → zs_F[([0, 83, 110, 119, 102, 129, 140, 154, 168, 183, 83, 0, 111, 120, 103, 130, 141, 155, 169, 184, 110, 111, 0, 123, 113, 133, 144, 158, 172, 187, 119, 120, 123, 0, 122, 134, 145, 159, 173, 188, 102, 103, 113, 122, 0, 132, 143, 157, 171, 186, 129, 130, 133, 134, 132, 0, 146, 160, 174, 189, 140, 141, 144, 145, 143, 146, 0, 161, 175, 190, 154, 155, 158, 159, 157, 160, 161, 0, 176, 191, 168, 169, 172, 173, 171, 174, 175, 176, 0, 192, 183, 184, 187, 188, 186, 189, 190, 191, 192, 0] : List Nat).getD (10 * i + j) 0]? = some (Jvm.Cond.not (Jvm.Cond.eq (zs_t i) (zs_t j))) ∨ zs_F[([0, 83, 110, 119, 102, 129, 140, 154, 168, 183, 83, 0, 111, 120, 103, 130, 141, 155, 169, 184, 110, 111, 0, 123, 113, 133, 144, 158, 172, 187, 119, 120, 123, 0, 122, 134, 145, 159, 173, 188, 102, 103, 113, 122, 0, 132, 143, 157, 171, 186, 129, 130, 133, 134, 132, 0, 146, 160, 174, 189, 140, 141, 144, 145, 143, 146, 0, 161, 175, 190, 154, 155, 158, 159, 157, 160, 161, 0, 176, 191, 168, 169, 172, 173, 171, 174, 175, 176, 0, 192, 183, 184, 187, 188, 186, 189, 190, 191, 192, 0] : List Nat).getD (10 * i + j) 0]? = some (Jvm.Cond.not (Jvm.Cond.eq (zs_t j) (zs_t i))) := by decide +kernel
theorem zs_7 : ∀ i, i < 10 → ∀ j, j < 10 → i ≠ j → Jvm.Cond.not (Jvm.Cond.eq (zs_t i) (zs_t j)) ∈ zs_F ∨ Jvm.Cond.not (Jvm.Cond.eq (zs_t j) (zs_t i)) ∈ zs_F := fun i hi j hj hij => (zs_7p i hi j hj hij).imp List.mem_of_getElem? List.mem_of_getElem?
theorem zs_8p : ∀ i, i < 2 → zs_F[([94, 202] : List Nat).getD i 0]? = some (Jvm.Cond.eq (zs_t i) (zs_t (i + 10))) := by decide +kernel
theorem zs_8 : ∀ i, i < 2 → Jvm.Cond.eq (zs_t i) (zs_t (i + 10)) ∈ zs_F := fun i hi => List.mem_of_getElem? (zs_8p i hi)
theorem zs_ref {s : State} {args : Array Value} {t1 t2 : Term} {a1 a2 : Nat} (h : (Jvm.Cond.eq t1 t2).before args s = true) (h1 : t1.eval args s none [] s = some (.ref a1)) (h2 : t2.eval args s none [] s = some (.ref a2)) : a2 = a1 := by
  simp only [Cond.before, Cond.holds, Cond.value, h1, h2] at h
  simp at h
  exact h.symm
def zs_ad (b : Nat) (adK : Nat → Nat) (k : Nat) : Nat := if k = 2000000 then b else if k < 1000010 then adK (k - 1000000) else adK (k - 1000010)
def zs_x (i : Nat) : String := match i with
  | 0 => "tyxvha"
  | 1 => "ijab"
  | 2 => "("
  | 3 => ")"
  | 4 => "!-"
  | 5 => "|"
  | 6 => "&"
  | 7 => "<>="
  | 8 => "+-"
  | 9 => "*/"
  | 10 => "tyxvha"
  | _ => "ijab"
theorem zs_S {s : State} {b : Nat} {args : Array Value} (hts : ∀ w ∈ lw_tbl, w.before args s = true) (hgv : (Jvm.Cond.and given_1 narrow_1).before args s = true) : ∃ adK : Nat → Nat, am_SX (zs_ad b adK) (fun q => s.heap.size ≤ q) s s.heap := by
  have hs : ∀ c ∈ zs_F, c.before args s = true := flat_of_before _ hgv
  have hA : ∀ a : Nat, a < s.heap.size → ¬ (fun q => s.heap.size ≤ q) a := fun a h => Nat.not_le.mpr h
  obtain ⟨adK, adV, h1, h2⟩ := vk_Sof (args := args) (s := s) (N := 10) (tm := zs_t) (len := zs_L) (byt := zs_B) (A := fun q => s.heap.size ≤ q) zs_1 (fun i hi => hs _ (zs_2 i (by omega))) (fun i hi => hs _ (zs_3 i hi)) (fun i hi => hs _ (zs_4 i hi)) (fun i hi => hs _ (zs_5 i hi)) (fun i hi j hj => hs _ (zs_6 i hi j hj)) (fun i j hi hj hij => (zs_7 i hi j hj hij).imp (hs _) (hs _)) hA
  have h3 : ∀ i, i < 2 → (zs_t (i + 10)).eval args s none [] s = some (.ref (adK i)) := fun i hi => by
    obtain ⟨a, c, cA, kA, q1, -⟩ := Cond.exactly_spec (args := args) (first := s) (o := none) (s := s) (idx := []) (t := zs_t (i + 10)) (cls := "java/lang/String") (hs _ (zs_2 (i + 10) (by omega)))
    rw [q1, zs_ref (hs _ (zs_8 i hi)) (h2 i (by omega)) q1]
  have e1 : ∀ i, i < 10 → zs_ad b adK (1000000 + i) = adK i := fun i hi => by
    unfold zs_ad
    rw [if_neg (by omega), if_pos (by omega), Nat.add_sub_cancel_left]
  have e2 : ∀ i, i < 2 → zs_ad b adK (1000010 + i) = adK i := fun i hi => by
    unfold zs_ad
    rw [if_neg (by omega), if_neg (by omega), Nat.add_sub_cancel_left]
  refine ⟨adK, ⟨adV, ⟨fun i hi => ?_, fun i j hi hj hij => h1.2 i j hi hj ?_⟩⟩, fun i hi => by rw [e1 i (by omega), e2 i hi], fun i own k hk => ⟨zs_x i, ?_⟩, va_Zof (hts (.laysStatic "java/lang/String" "COMPACT_STRINGS" "Z") (List.mem_of_getElem? (i := 534) (by decide +kernel))) (hts (.initialized "java/lang/String") (List.mem_of_getElem? (i := 89) (by decide +kernel))) (va_eqi (hs (.eq (.static "java/lang/String" "COMPACT_STRINGS" "Z") (.int 1)) (List.mem_of_getElem? (i := 4) (by decide +kernel)))) hA, va_Zqof (hts (.laysStatic "jdk/internal/util/Preconditions" "SIOOBE_FORMATTER" "Ljava/util/function/BiFunction;") (List.mem_of_getElem? (i := 575) (by decide +kernel))) (hts (.initialized "jdk/internal/util/Preconditions") (List.mem_of_getElem? (i := 92) (by decide +kernel))) (hs (.isRef (.static "jdk/internal/util/Preconditions" "SIOOBE_FORMATTER" "Ljava/util/function/BiFunction;")) (List.mem_of_getElem? (i := 5) (by decide +kernel))) hA⟩
  · show _ ∧ _
    simp only [e1 i hi]
    exact h1.1 i hi
  · have hij : zs_ad b adK (1000000 + i) = zs_ad b adK (1000000 + j) := hij
    rw [e1 i hi, e1 j hj] at hij
    exact hij
  · match i, hk with
    | 0, hk => cases hk; exact vk_R.of (hts (.stringRef RX10 141 (zs_x 0)) (List.mem_of_getElem? (i := 489) (by decide +kernel))) (by rw [e1 0 (by decide)]; exact h2 0 (by decide))
    | 1, hk => cases hk; exact vk_R.of (hts (.stringRef RX10 281 (zs_x 1)) (List.mem_of_getElem? (i := 923) (by decide +kernel))) (by rw [e1 1 (by decide)]; exact h2 1 (by decide))
    | 2, hk => cases hk; exact vk_R.of (hts (.stringRef RX11 155 (zs_x 2)) (List.mem_of_getElem? (i := 1303) (by decide +kernel))) (by rw [e1 2 (by decide)]; exact h2 2 (by decide))
    | 3, hk => cases hk; exact vk_R.of (hts (.stringRef RX11 163 (zs_x 3)) (List.mem_of_getElem? (i := 1304) (by decide +kernel))) (by rw [e1 3 (by decide)]; exact h2 3 (by decide))
    | 4, hk => cases hk; exact vk_R.of (hts (.stringRef RX11 165 (zs_x 4)) (List.mem_of_getElem? (i := 1263) (by decide +kernel))) (by rw [e1 4 (by decide)]; exact h2 4 (by decide))
    | 5, hk => cases hk; exact vk_R.of (hts (.stringRef RX11 173 (zs_x 5)) (List.mem_of_getElem? (i := 1305) (by decide +kernel))) (by rw [e1 5 (by decide)]; exact h2 5 (by decide))
    | 6, hk => cases hk; exact vk_R.of (hts (.stringRef RX11 175 (zs_x 6)) (List.mem_of_getElem? (i := 1306) (by decide +kernel))) (by rw [e1 6 (by decide)]; exact h2 6 (by decide))
    | 7, hk => cases hk; exact vk_R.of (hts (.stringRef RX11 177 (zs_x 7)) (List.mem_of_getElem? (i := 1307) (by decide +kernel))) (by rw [e1 7 (by decide)]; exact h2 7 (by decide))
    | 8, hk => cases hk; exact vk_R.of (hts (.stringRef RX11 179 (zs_x 8)) (List.mem_of_getElem? (i := 1308) (by decide +kernel))) (by rw [e1 8 (by decide)]; exact h2 8 (by decide))
    | 9, hk => cases hk; exact vk_R.of (hts (.stringRef RX11 181 (zs_x 9)) (List.mem_of_getElem? (i := 1309) (by decide +kernel))) (by rw [e1 9 (by decide)]; exact h2 9 (by decide))
    | 10, hk => cases hk; exact vk_R.of (hts (.stringRef RX11 185 (zs_x 10)) (List.mem_of_getElem? (i := 1250) (by decide +kernel))) (by rw [show 1000000 + 10 = 1000010 + 0 from rfl, e2 0 (by decide)]; exact h3 0 (by decide))
    | 11, hk => cases hk; exact vk_R.of (hts (.stringRef RX11 191 (zs_x 11)) (List.mem_of_getElem? (i := 1314) (by decide +kernel))) (by rw [show 1000000 + 11 = 1000010 + 1 from rfl, e2 1 (by decide)]; exact h3 1 (by decide))
    | i + 12, hk => cases hk
theorem zs_Z {s : State} {args : Array Value} (hts : ∀ w ∈ lw_tbl, w.before args s = true) (hgv : (Jvm.Cond.and given_1 narrow_1).before args s = true) : xZ (fun q => s.heap.size ≤ q) s s.heap := by
  have hs : ∀ c ∈ zs_F, c.before args s = true := flat_of_before _ hgv
  have hA : ∀ a : Nat, a < s.heap.size → ¬ (fun q => s.heap.size ≤ q) a := fun a h => Nat.not_le.mpr h
  have hB : ∀ w ∈ xB, w ∈ lw_tbl := fun w hw => by
    simp only [xB, List.mem_cons, List.not_mem_nil, or_false] at hw
    rcases hw with rfl | rfl | rfl | rfl
    · exact List.mem_of_getElem? (i := 1095) (by decide +kernel)
    · exact List.mem_of_getElem? (i := 1096) (by decide +kernel)
    · exact List.mem_of_getElem? (i := 1098) (by decide +kernel)
    · exact List.mem_of_getElem? (i := 1100) (by decide +kernel)
  exact ⟨vx_Zqof (hts (.laysStatic "java/lang/Throwable" "UNASSIGNED_STACK" "[Ljava/lang/StackTraceElement;") (List.mem_of_getElem? (i := 1120) (by decide +kernel))) (hts (.initialized "java/lang/Throwable") (List.mem_of_getElem? (i := 95) (by decide +kernel))) (hs (.isRef (.static "java/lang/Throwable" "UNASSIGNED_STACK" "[Ljava/lang/StackTraceElement;")) (List.mem_of_getElem? (i := 9) (by decide +kernel))) hA, vx_Zqof (hts (.laysStatic "java/lang/Throwable" "SUPPRESSED_SENTINEL" "Ljava/util/List;") (List.mem_of_getElem? (i := 1122) (by decide +kernel))) (hts (.initialized "java/lang/Throwable") (List.mem_of_getElem? (i := 95) (by decide +kernel))) (hs (.isRef (.static "java/lang/Throwable" "SUPPRESSED_SENTINEL" "Ljava/util/List;")) (List.mem_of_getElem? (i := 10) (by decide +kernel))) hA, fun w hw => va_Nw.of (xB_tab w hw) (hts w (hB w hw))⟩
