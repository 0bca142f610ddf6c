/-! words of the tables, by program -/
abbrev mX10_item : MD := (yX10_item, cX10_item, 5, (some .int))
theorem mw_X10_466 : MW RX10 466 mX10_narrow 2 := ⟨Wd_of (List.mem_of_getElem? (i := 1626) (by decide +kernel)) rfl, Wd_of (List.mem_of_getElem? (i := 92) (by decide +kernel)) rfl, Wd_of (List.mem_of_getElem? (i := 1629) (by decide +kernel)) rfl, ⟨by decide, by decide, by decide +kernel⟩, by decide⟩
theorem mv_X10_narrow : MV mX10_narrow := ⟨Wd_of (List.mem_of_getElem? (i := 1628) (by decide +kernel)) rfl, Wd_of (List.mem_of_getElem? (i := 80) (by decide +kernel)) rfl⟩
abbrev mX10_read : MD := (yX10_read, cX10_read, 3, (some .long))
abbrev mX10_shift : MD := (yX10_shift, cX10_shift, 7, (some .int))
theorem fw_X10_264 : FW RX10 264 10 83 2 := ⟨RX10, TX10, 84, rfl, by decide, inWd10, Wd_of (List.mem_of_getElem? (i := 1089) (by decide +kernel)) rfl, rfl⟩
