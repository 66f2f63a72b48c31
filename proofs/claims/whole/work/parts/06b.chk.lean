/-! The tables are checked. -/
theorem qx_ck100 : ((List.range 20).all fun i => qx_okM (100 + i)) = true := by decide +kernel
theorem qx_ck120 : ((List.range 20).all fun i => qx_okM (120 + i)) = true := by decide +kernel
theorem qx_ck140 : ((List.range 20).all fun i => qx_okM (140 + i)) = true := by decide +kernel
theorem qx_ck160 : ((List.range 20).all fun i => qx_okM (160 + i)) = true := by decide +kernel
theorem qx_ck180 : ((List.range 20).all fun i => qx_okM (180 + i)) = true := by decide +kernel
