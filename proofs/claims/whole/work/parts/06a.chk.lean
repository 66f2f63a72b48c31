/-! The tables are checked. -/
theorem qx_ck0 : ((List.range 20).all fun i => qx_okM (0 + i)) = true := by decide +kernel
theorem qx_ck20 : ((List.range 20).all fun i => qx_okM (20 + i)) = true := by decide +kernel
theorem qx_ck40 : ((List.range 20).all fun i => qx_okM (40 + i)) = true := by decide +kernel
theorem qx_ck60 : ((List.range 20).all fun i => qx_okM (60 + i)) = true := by decide +kernel
theorem qx_ck80 : ((List.range 20).all fun i => qx_okM (80 + i)) = true := by decide +kernel
