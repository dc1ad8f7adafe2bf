theorem okX10_does : am_okM mmX10_does = true ∧ am_okT am_MT mmX10_does = true := ⟨by decide +kernel, by decide +kernel⟩
theorem okX10_go : am_okM mmX10_go = true ∧ am_okT am_MT mmX10_go = true := ⟨by decide +kernel, by decide +kernel⟩
theorem okX10_place : am_okM mmX10_place = true ∧ am_okT am_MT mmX10_place = true := ⟨by decide +kernel, by decide +kernel⟩
theorem okX10_was : am_okM mmX10_was = true ∧ am_okT am_MT mmX10_was = true := ⟨by decide +kernel, by decide +kernel⟩
theorem okX10_row : am_okM mmX10_row = true ∧ am_okT am_MT mmX10_row = true := ⟨by decide +kernel, by decide +kernel⟩
