theorem v_213_0 : x_oks 213 0 11 = true := by decide +kernel
theorem v_214_0 : x_oks 214 0 11 = true := by decide +kernel
theorem v_215_0 : x_oks 215 0 38 = true := by decide +kernel
theorem vy_215 : x_okY (x_mt 215) = true := show x_okY m_J7_checkLength_df160 = true from x_cY rfl (by decide +kernel)
theorem v_216_0 : x_oks 216 0 25 = true := by decide +kernel
theorem vy_216 : x_okY (x_mt 216) = true := show x_okY m_J7_copyOfRange_39247 = true from x_cY rfl (by decide +kernel)
theorem v_217_0 : x_oks 217 0 33 = true := by decide +kernel
theorem vy_217 : x_okY (x_mt 217) = true := show x_okY m_J7_copyOfRangeByte_39247 = true from x_cY rfl (by decide +kernel)
theorem v_218_0 : x_oks 218 0 14 = true := by decide +kernel
theorem vy_218 : x_okY (x_mt 218) = true := show x_okY m_L_cell = true from x_cY rfl (by decide +kernel)
theorem v_219_0 : x_oks 219 0 60 = true := by decide +kernel
theorem v_219_60 : x_oks 219 60 60 = true := by decide +kernel
theorem v_219_120 : x_oks 219 120 60 = true := by decide +kernel
theorem v_219_180 : x_oks 219 180 60 = true := by decide +kernel
theorem v_219_240 : x_oks 219 240 60 = true := by decide +kernel
theorem v_219_300 : x_oks 219 300 60 = true := by decide +kernel
theorem v_219_360 : x_oks 219 360 60 = true := by decide +kernel
theorem v_219_420 : x_oks 219 420 60 = true := by decide +kernel
theorem v_219_480 : x_oks 219 480 60 = true := by decide +kernel
theorem v_219_540 : x_oks 219 540 60 = true := by decide +kernel
theorem v_219_600 : x_oks 219 600 60 = true := by decide +kernel
theorem v_219_660 : x_oks 219 660 60 = true := by decide +kernel
theorem v_219_720 : x_oks 219 720 38 = true := by decide +kernel
