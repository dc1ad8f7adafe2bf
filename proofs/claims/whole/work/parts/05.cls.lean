/-! the classes: their fields' words, types and names -/
theorem am_cl0 : ∀ w ∈ u_ws RX0 TX0 9, w ∈ am_U := by
  have h : u_ws RX0 TX0 9 = ([230, 232, 234, 236, 238, 240, 242, 244, 246] : List Nat).filterMap (fun i => lw_tbl[i]?) := by decide +kernel
  have h2 : (u_ws RX0 TX0 9).all goodWord = true := by decide +kernel
  intro w hw
  have hg := List.all_eq_true.mp h2 w hw
  rw [h] at hw
  obtain ⟨j, -, hj⟩ := List.mem_filterMap.mp hw
  exact List.mem_filter.mpr ⟨List.mem_of_getElem? hj, hg⟩
theorem am_cl1 : ∀ w ∈ u_ws RX1 TX1 3, w ∈ am_U := by
  have h : u_ws RX1 TX1 3 = ([161, 163, 165] : List Nat).filterMap (fun i => lw_tbl[i]?) := by decide +kernel
  have h2 : (u_ws RX1 TX1 3).all goodWord = true := by decide +kernel
  intro w hw
  have hg := List.all_eq_true.mp h2 w hw
  rw [h] at hw
  obtain ⟨j, -, hj⟩ := List.mem_filterMap.mp hw
  exact List.mem_filter.mpr ⟨List.mem_of_getElem? hj, hg⟩
theorem am_cl2 : ∀ w ∈ u_ws RX2 TX2 5, w ∈ am_U := by
  have h : u_ws RX2 TX2 5 = ([337, 339, 341, 343, 345] : List Nat).filterMap (fun i => lw_tbl[i]?) := by decide +kernel
  have h2 : (u_ws RX2 TX2 5).all goodWord = true := by decide +kernel
  intro w hw
  have hg := List.all_eq_true.mp h2 w hw
  rw [h] at hw
  obtain ⟨j, -, hj⟩ := List.mem_filterMap.mp hw
  exact List.mem_filter.mpr ⟨List.mem_of_getElem? hj, hg⟩
theorem am_cl3 : ∀ w ∈ u_ws RX3 TX3 8, w ∈ am_U := by
  have h : u_ws RX3 TX3 8 = ([383, 385, 387, 389, 391, 393, 395, 397] : List Nat).filterMap (fun i => lw_tbl[i]?) := by decide +kernel
  have h2 : (u_ws RX3 TX3 8).all goodWord = true := by decide +kernel
  intro w hw
  have hg := List.all_eq_true.mp h2 w hw
  rw [h] at hw
  obtain ⟨j, -, hj⟩ := List.mem_filterMap.mp hw
  exact List.mem_filter.mpr ⟨List.mem_of_getElem? hj, hg⟩
theorem am_cl4 : ∀ w ∈ u_ws RX4 TX4 6, w ∈ am_U := by
  have h : u_ws RX4 TX4 6 = ([137, 139, 141, 143, 145, 147] : List Nat).filterMap (fun i => lw_tbl[i]?) := by decide +kernel
  have h2 : (u_ws RX4 TX4 6).all goodWord = true := by decide +kernel
  intro w hw
  have hg := List.all_eq_true.mp h2 w hw
  rw [h] at hw
  obtain ⟨j, -, hj⟩ := List.mem_filterMap.mp hw
  exact List.mem_filter.mpr ⟨List.mem_of_getElem? hj, hg⟩
theorem am_cl5 : ∀ w ∈ u_ws RX5 TX5 10, w ∈ am_U := by
  have h : u_ws RX5 TX5 10 = ([269, 271, 273, 275, 277, 279, 281, 283, 285, 287] : List Nat).filterMap (fun i => lw_tbl[i]?) := by decide +kernel
  have h2 : (u_ws RX5 TX5 10).all goodWord = true := by decide +kernel
  intro w hw
  have hg := List.all_eq_true.mp h2 w hw
  rw [h] at hw
  obtain ⟨j, -, hj⟩ := List.mem_filterMap.mp hw
  exact List.mem_filter.mpr ⟨List.mem_of_getElem? hj, hg⟩
theorem am_cl6 : ∀ w ∈ u_ws RX6 TX6 2, w ∈ am_U := by
  have h : u_ws RX6 TX6 2 = ([356, 358] : List Nat).filterMap (fun i => lw_tbl[i]?) := by decide +kernel
  have h2 : (u_ws RX6 TX6 2).all goodWord = true := by decide +kernel
  intro w hw
  have hg := List.all_eq_true.mp h2 w hw
  rw [h] at hw
  obtain ⟨j, -, hj⟩ := List.mem_filterMap.mp hw
  exact List.mem_filter.mpr ⟨List.mem_of_getElem? hj, hg⟩
theorem am_cl7 : ∀ w ∈ u_ws RX7 TX7 2, w ∈ am_U := by
  have h : u_ws RX7 TX7 2 = ([301, 303] : List Nat).filterMap (fun i => lw_tbl[i]?) := by decide +kernel
  have h2 : (u_ws RX7 TX7 2).all goodWord = true := by decide +kernel
  intro w hw
  have hg := List.all_eq_true.mp h2 w hw
  rw [h] at hw
  obtain ⟨j, -, hj⟩ := List.mem_filterMap.mp hw
  exact List.mem_filter.mpr ⟨List.mem_of_getElem? hj, hg⟩
theorem am_cl8 : ∀ w ∈ u_ws RX8 TX8 3, w ∈ am_U := by
  have h : u_ws RX8 TX8 3 = ([318, 320, 322] : List Nat).filterMap (fun i => lw_tbl[i]?) := by decide +kernel
  have h2 : (u_ws RX8 TX8 3).all goodWord = true := by decide +kernel
  intro w hw
  have hg := List.all_eq_true.mp h2 w hw
  rw [h] at hw
  obtain ⟨j, -, hj⟩ := List.mem_filterMap.mp hw
  exact List.mem_filter.mpr ⟨List.mem_of_getElem? hj, hg⟩
theorem am_cl9 : ∀ w ∈ u_ws RX9 TX9 8, w ∈ am_U := by
  have h : u_ws RX9 TX9 8 = ([187, 189, 191, 193, 195, 197, 199, 201] : List Nat).filterMap (fun i => lw_tbl[i]?) := by decide +kernel
  have h2 : (u_ws RX9 TX9 8).all goodWord = true := by decide +kernel
  intro w hw
  have hg := List.all_eq_true.mp h2 w hw
  rw [h] at hw
  obtain ⟨j, -, hj⟩ := List.mem_filterMap.mp hw
  exact List.mem_filter.mpr ⟨List.mem_of_getElem? hj, hg⟩
theorem am_cl10 : ∀ w ∈ u_ws RX10 TX10 10, w ∈ am_U := by
  have h : u_ws RX10 TX10 10 = ([410, 412, 414, 416, 418, 420, 422, 424, 426, 428] : List Nat).filterMap (fun i => lw_tbl[i]?) := by decide +kernel
  have h2 : (u_ws RX10 TX10 10).all goodWord = true := by decide +kernel
  intro w hw
  have hg := List.all_eq_true.mp h2 w hw
  rw [h] at hw
  obtain ⟨j, -, hj⟩ := List.mem_filterMap.mp hw
  exact List.mem_filter.mpr ⟨List.mem_of_getElem? hj, hg⟩
theorem am_cl11 : ∀ w ∈ u_ws RX11 TX11 54, w ∈ am_U := by
  have h : u_ws RX11 TX11 54 = ([1715, 1717, 1719, 1721, 1723, 1725, 1727, 1729, 1731, 1733, 1735, 1737, 1739, 1741, 1743, 1745, 1747, 1749, 1751, 1753, 1755, 1757, 1759, 1761, 1763, 1765, 1767, 1769, 1771, 1773, 1775, 1777, 1779, 1781, 1783, 1785, 1787, 1789, 1791, 1793, 1795, 1797, 1799, 1801, 1803, 1805, 1807, 1809, 1811, 1813, 1815, 1817, 1819, 1821] : List Nat).filterMap (fun i => lw_tbl[i]?) := by decide +kernel
  have h2 : (u_ws RX11 TX11 54).all goodWord = true := by decide +kernel
  intro w hw
  have hg := List.all_eq_true.mp h2 w hw
  rw [h] at hw
  obtain ⟨j, -, hj⟩ := List.mem_filterMap.mp hw
  exact List.mem_filter.mpr ⟨List.mem_of_getElem? hj, hg⟩
theorem am_cls_ok {a : Nat} {C : String} {T : u_T} {N : Nat} (h : vwCl[a]? = some (C, T, N)) : (∀ w ∈ u_ws C T N, w ∈ am_U) ∧ ∃ ty : Nat → FieldType, (∀ k, k < N → parseFieldDescriptor (T k).2.2.1 = some (ty k)) ∧ (∀ x, x < N → ∀ y, y < N → x ≠ y → (T x).2.1 ≠ (T y).2.1) ∧ (∀ j, j < N → defaultValue (ty j) = vp_V (am_dfl a) j) := by
  match a, h with
  | 0, h => cases h; exact ⟨am_cl0, tyX0, tyX0_ok, nmX0, by decide +kernel⟩
  | 1, h => cases h; exact ⟨am_cl1, tyX1, tyX1_ok, nmX1, by decide +kernel⟩
  | 2, h => cases h; exact ⟨am_cl2, tyX2, tyX2_ok, nmX2, by decide +kernel⟩
  | 3, h => cases h; exact ⟨am_cl3, tyX3, tyX3_ok, nmX3, by decide +kernel⟩
  | 4, h => cases h; exact ⟨am_cl4, tyX4, tyX4_ok, nmX4, by decide +kernel⟩
  | 5, h => cases h; exact ⟨am_cl5, tyX5, tyX5_ok, nmX5, by decide +kernel⟩
  | 6, h => cases h; exact ⟨am_cl6, tyX6, tyX6_ok, nmX6, by decide +kernel⟩
  | 7, h => cases h; exact ⟨am_cl7, tyX7, tyX7_ok, nmX7, by decide +kernel⟩
  | 8, h => cases h; exact ⟨am_cl8, tyX8, tyX8_ok, nmX8, by decide +kernel⟩
  | 9, h => cases h; exact ⟨am_cl9, tyX9, tyX9_ok, nmX9, by decide +kernel⟩
  | 10, h => cases h; exact ⟨am_cl10, tyX10, tyX10_ok, nmX10, by decide +kernel⟩
  | 11, h => cases h; exact ⟨am_cl11, tyX11, tyX11_ok, nmX11, by decide +kernel⟩
  | n + 12, h => simp at h
theorem am_cls_ini {a : Nat} {C : String} {T : u_T} {N : Nat} (h : vwCl[a]? = some (C, T, N)) : Jvm.Cond.initialized C ∈ am_U := by
  match a, h with
  | 0, h => cases h; exact am_at_U (pos := 80) (by decide +kernel) rfl
  | 1, h => cases h; exact am_at_U (pos := 79) (by decide +kernel) rfl
  | 2, h => cases h; exact am_at_U (pos := 84) (by decide +kernel) rfl
  | 3, h => cases h; exact am_at_U (pos := 86) (by decide +kernel) rfl
  | 4, h => cases h; exact am_at_U (pos := 78) (by decide +kernel) rfl
  | 5, h => cases h; exact am_at_U (pos := 81) (by decide +kernel) rfl
  | 6, h => cases h; exact am_at_U (pos := 85) (by decide +kernel) rfl
  | 7, h => cases h; exact am_at_U (pos := 82) (by decide +kernel) rfl
  | 8, h => cases h; exact am_at_U (pos := 83) (by decide +kernel) rfl
  | 9, h => cases h; exact am_at_U (pos := 77) (by decide +kernel) rfl
  | 10, h => cases h; exact am_at_U (pos := 76) (by decide +kernel) rfl
  | 11, h => cases h; exact am_at_U (pos := 87) (by decide +kernel) rfl
  | n + 12, h => simp at h
theorem am_w_an : Jvm.Cond.native arraycopyName ∈ am_U := am_at_U (pos := 635) (by decide +kernel) rfl
theorem am_w_as : Jvm.Cond.static arraycopyName ∈ am_U := am_at_U (pos := 634) (by decide +kernel) rfl
theorem am_w_ai : Jvm.Cond.initialized "java/lang/System" ∈ am_U := am_at_U (pos := 94) (by decide +kernel) rfl
theorem am_w_oi : Jvm.Cond.instanceMethod Lib.objectInit ∈ am_U := am_at_U (pos := 106) (by decide +kernel) rfl
theorem am_w_oc : Jvm.Cond.code Lib.objectInit ⟨#[0xb1]⟩ 1 none ∈ am_U := am_at_U (pos := 107) (by decide +kernel) rfl
theorem am_w_mi : Jvm.Cond.initialized "java/lang/Math" ∈ am_U := am_at_U (pos := 88) (by decide +kernel) rfl
theorem am_w_maxs : Jvm.Cond.static Lib.Math.max.name ∈ am_U := am_at_U (pos := 550) (by decide +kernel) rfl
theorem am_w_maxc : Jvm.Cond.code Lib.Math.max.name Lib.Math.max.code 2 (some .int) ∈ am_U := am_at_U (pos := 551) (by decide +kernel) rfl
theorem am_w_mins : Jvm.Cond.static Lib.Math.min.name ∈ am_U := am_at_U (pos := 499) (by decide +kernel) rfl
theorem am_w_minc : Jvm.Cond.code Lib.Math.min.name Lib.Math.min.code 2 (some .int) ∈ am_U := am_at_U (pos := 500) (by decide +kernel) rfl
theorem am_w_abss : Jvm.Cond.static Lib.Math.abs.name ∈ am_U := am_at_U (pos := 662) (by decide +kernel) rfl
theorem am_w_absc : Jvm.Cond.code Lib.Math.abs.name Lib.Math.abs.code 1 (some .int) ∈ am_U := am_at_U (pos := 663) (by decide +kernel) rfl
theorem am_w_maxls : Jvm.Cond.static Lib.MathLoose.max_long.x ∈ am_U := am_at_U (pos := 988) (by decide +kernel) rfl
theorem am_w_maxlc : Jvm.Cond.code Lib.MathLoose.max_long.x Lib.MathLoose.max_long.code 4 (some .long) ∈ am_U := am_at_U (pos := 989) (by decide +kernel) rfl
theorem am_w_absls : Jvm.Cond.static Lib.MathLoose.abs_long.x ∈ am_U := am_at_U (pos := 875) (by decide +kernel) rfl
theorem am_w_abslc : Jvm.Cond.code Lib.MathLoose.abs_long.x Lib.MathLoose.abs_long.code 2 (some .long) ∈ am_U := am_at_U (pos := 876) (by decide +kernel) rfl
