theorem vy_17 : x_okY (x_mt 17) = true := show x_okY m_X2_append = true from x_cY rfl (by decide +kernel)
theorem v_18_0 : x_oks 18 0 21 = true := by decide +kernel
theorem vy_18 : x_okY (x_mt 18) = true := show x_okY m_X2_oldest = true from x_cY rfl (by decide +kernel)
theorem v_19_0 : x_oks 19 0 35 = true := by decide +kernel
theorem vy_19 : x_okY (x_mt 19) = true := show x_okY m_X2_removeOldest = true from x_cY rfl (by decide +kernel)
theorem v_20_0 : x_oks 20 0 21 = true := by decide +kernel
theorem vy_20 : x_okY (x_mt 20) = true := show x_okY m_X2_wrapped = true from x_cY rfl (by decide +kernel)
theorem v_21_0 : x_oks 21 0 50 = true := by decide +kernel
theorem vy_21 : x_okY (x_mt 21) = true := show x_okY m_X3_init = true from x_cY rfl (by decide +kernel)
theorem v_22_0 : x_oks 22 0 60 = true := by decide +kernel
theorem v_22_60 : x_oks 22 60 20 = true := by decide +kernel
theorem vy_22 : x_okY (x_mt 22) = true := show x_okY m_X3_copyAllElse = true from x_cY rfl (by decide +kernel)
theorem v_23_0 : x_oks 23 0 60 = true := by decide +kernel
theorem v_23_60 : x_oks 23 60 60 = true := by decide +kernel
theorem v_23_120 : x_oks 23 120 60 = true := by decide +kernel
theorem v_23_180 : x_oks 23 180 17 = true := by decide +kernel
theorem vy_23 : x_okY (x_mt 23) = true := show x_okY m_X3_answer = true from x_cY rfl (by decide +kernel)
theorem v_24_0 : x_oks 24 0 60 = true := by decide +kernel
theorem v_24_60 : x_oks 24 60 41 = true := by decide +kernel
theorem vy_24 : x_okY (x_mt 24) = true := show x_okY m_X3_receive = true from x_cY rfl (by decide +kernel)
theorem v_25_0 : x_oks 25 0 23 = true := by decide +kernel
theorem vy_25 : x_okY (x_mt 25) = true := show x_okY m_X3_isAwake = true from x_cY rfl (by decide +kernel)
theorem v_26_0 : x_oks 26 0 15 = true := by decide +kernel
theorem vy_26 : x_okY (x_mt 26) = true := show x_okY m_X3_wanted = true from x_cY rfl (by decide +kernel)
theorem v_27_0 : x_oks 27 0 25 = true := by decide +kernel
theorem vy_27 : x_okY (x_mt 27) = true := show x_okY m_X3_isInterrupted = true from x_cY rfl (by decide +kernel)
theorem v_28_0 : x_oks 28 0 60 = true := by decide +kernel
theorem v_28_60 : x_oks 28 60 15 = true := by decide +kernel
theorem vy_28 : x_okY (x_mt 28) = true := show x_okY m_X3_wouldPutOut = true from x_cY rfl (by decide +kernel)
theorem v_29_0 : x_oks 29 0 60 = true := by decide +kernel
theorem v_29_60 : x_oks 29 60 40 = true := by decide +kernel
theorem vy_29 : x_okY (x_mt 29) = true := show x_okY m_X3_makeStep = true from x_cY rfl (by decide +kernel)
theorem v_30_0 : x_oks 30 0 60 = true := by decide +kernel
theorem v_30_60 : x_oks 30 60 1 = true := by decide +kernel
theorem vy_30 : x_okY (x_mt 30) = true := show x_okY m_X3_trap = true from x_cY rfl (by decide +kernel)
theorem v_31_0 : x_oks 31 0 7 = true := by decide +kernel
theorem vy_31 : x_okY (x_mt 31) = true := show x_okY m_X3_noInstruction = true from x_cY rfl (by decide +kernel)
theorem v_32_0 : x_oks 32 0 8 = true := by decide +kernel
theorem vy_32 : x_okY (x_mt 32) = true := show x_okY m_X3_f = true from x_cY rfl (by decide +kernel)
theorem v_33_0 : x_oks 33 0 5 = true := by decide +kernel
theorem vy_33 : x_okY (x_mt 33) = true := show x_okY m_X3_g = true from x_cY rfl (by decide +kernel)
theorem v_34_0 : x_oks 34 0 8 = true := by decide +kernel
theorem vy_34 : x_okY (x_mt 34) = true := show x_okY m_X3_numberA = true from x_cY rfl (by decide +kernel)
theorem v_35_0 : x_oks 35 0 10 = true := by decide +kernel
theorem vy_35 : x_okY (x_mt 35) = true := show x_okY m_X3_a = true from x_cY rfl (by decide +kernel)
