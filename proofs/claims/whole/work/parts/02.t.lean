theorem zz_len : lw_tbl.length = 2300 := by decide +kernel
theorem zz_bad : ((lw_tbl.filter (fun w => !goodWord w)).length, (lw_tbl.filter (fun w => !goodWord w)).map (fun w => toString (repr w))) = (0, []) := by rfl
