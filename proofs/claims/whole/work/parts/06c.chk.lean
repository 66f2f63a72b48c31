/-! The tables are checked. -/
theorem qx_ck200 : ((List.range 20).all fun i => qx_okM (200 + i)) = true := by decide +kernel
theorem qx_ck220 : ((List.range 20).all fun i => qx_okM (220 + i)) = true := by decide +kernel
theorem qx_ck240 : ((List.range 20).all fun i => qx_okM (240 + i)) = true := by decide +kernel
theorem qx_ck260 : ((List.range 20).all fun i => qx_okM (260 + i)) = true := by decide +kernel
theorem qx_ck280 : ((List.range 20).all fun i => qx_okM (280 + i)) = true := by decide +kernel
