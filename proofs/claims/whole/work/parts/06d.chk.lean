/-! The tables are checked. -/
theorem qx_ck300 : ((List.range 20).all fun i => qx_okM (300 + i)) = true := by decide +kernel
theorem qx_ck320 : ((List.range 20).all fun i => qx_okM (320 + i)) = true := by decide +kernel
theorem qx_ck340 : ((List.range 20).all fun i => qx_okM (340 + i)) = true := by decide +kernel
theorem qx_ck360 : ((List.range 20).all fun i => qx_okM (360 + i)) = true := by decide +kernel
theorem qx_ck380 : ((List.range 14).all fun i => qx_okM (380 + i)) = true := by decide +kernel
