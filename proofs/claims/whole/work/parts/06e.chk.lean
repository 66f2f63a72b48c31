/-! The law's rows, and the handlers. -/
theorem qx_cl0 : qk_law_0.all (qx_okE RL cL_law) = true := by decide +kernel
theorem qx_cl1 : qk_law_1.all (qx_okE RL cL_law) = true := by decide +kernel
theorem qx_cl2 : qk_law_2.all (qx_okE RL cL_law) = true := by decide +kernel
theorem qx_cl3 : qk_law_3.all (qx_okE RL cL_law) = true := by decide +kernel
theorem qx_cl4 : qk_law_4.all (qx_okE RL cL_law) = true := by decide +kernel
theorem qx_cl5 : qk_law_5.all (qx_okE RL cL_law) = true := by decide +kernel
theorem qx_cl6 : qk_law_6.all (qx_okE RL cL_law) = true := by decide +kernel
theorem qx_cl7 : qk_law_7.all (qx_okE RL cL_law) = true := by decide +kernel
theorem qx_cl8 : qk_law_8.all (qx_okE RL cL_law) = true := by decide +kernel
theorem qx_cl9 : qk_law_9.all (qx_okE RL cL_law) = true := by decide +kernel
theorem qx_cl10 : qk_law_10.all (qx_okE RL cL_law) = true := by decide +kernel
theorem qx_cl11 : qk_law_11.all (qx_okE RL cL_law) = true := by decide +kernel
theorem qx_cl12 : qk_law_12.all (qx_okE RL cL_law) = true := by decide +kernel
theorem qx_cl13 : qk_law_13.all (qx_okE RL cL_law) = true := by decide +kernel
theorem qx_cl14 : qk_law_14.all (qx_okE RL cL_law) = true := by decide +kernel
theorem qx_cl15 : qk_law_15.all (qx_okE RL cL_law) = true := by decide +kernel
theorem qx_cl16 : qk_law_16.all (qx_okE RL cL_law) = true := by decide +kernel
theorem qx_cl17 : qk_law_17.all (qx_okE RL cL_law) = true := by decide +kernel
theorem qx_cl18 : qk_law_18.all (qx_okE RL cL_law) = true := by decide +kernel
theorem qx_cl19 : qk_law_19.all (qx_okE RL cL_law) = true := by decide +kernel
theorem qx_cl20 : qk_law_20.all (qx_okE RL cL_law) = true := by decide +kernel
theorem qx_cl21 : qk_law_21.all (qx_okE RL cL_law) = true := by decide +kernel
theorem qx_ckH : ((List.range 395).all qx_okH) = true := by decide +kernel
