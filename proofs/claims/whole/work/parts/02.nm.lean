theorem zz_probe1 : lw_tbl[1500]? = lw_tbl[1500]? := rfl
theorem zz_probe2 : lw_tbl.length = 2328 := by decide +kernel
