theorem v_0_0 : x_oks 0 0 43 = true := by decide +kernel
theorem vy_0 : x_okY (x_mt 0) = true := show x_okY m_X0_init = true from x_cY rfl (by decide +kernel)
theorem v_1_0 : x_oks 1 0 18 = true := by decide +kernel
theorem vy_1 : x_okY (x_mt 1) = true := show x_okY m_X0_hasWord = true from x_cY rfl (by decide +kernel)
theorem v_2_0 : x_oks 2 0 24 = true := by decide +kernel
theorem vy_2 : x_okY (x_mt 2) = true := show x_okY m_X0_putsOut = true from x_cY rfl (by decide +kernel)
theorem v_3_0 : x_oks 3 0 60 = true := by decide +kernel
theorem v_3_60 : x_oks 3 60 33 = true := by decide +kernel
theorem vy_3 : x_okY (x_mt 3) = true := show x_okY m_X0_pending = true from x_cY rfl (by decide +kernel)
theorem v_4_0 : x_oks 4 0 60 = true := by decide +kernel
theorem v_4_60 : x_oks 4 60 60 = true := by decide +kernel
theorem v_4_120 : x_oks 4 120 17 = true := by decide +kernel
theorem vy_4 : x_okY (x_mt 4) = true := show x_okY m_X0_readWord = true from x_cY rfl (by decide +kernel)
theorem v_5_0 : x_oks 5 0 60 = true := by decide +kernel
theorem v_5_60 : x_oks 5 60 60 = true := by decide +kernel
theorem v_5_120 : x_oks 5 120 37 = true := by decide +kernel
theorem vy_5 : x_okY (x_mt 5) = true := show x_okY m_X0_writeWord = true from x_cY rfl (by decide +kernel)
theorem v_6_0 : x_oks 6 0 28 = true := by decide +kernel
theorem vy_6 : x_okY (x_mt 6) = true := show x_okY m_X0_putOutByte = true from x_cY rfl (by decide +kernel)
theorem v_7_0 : x_oks 7 0 60 = true := by decide +kernel
theorem v_7_60 : x_oks 7 60 16 = true := by decide +kernel
theorem vy_7 : x_okY (x_mt 7) = true := show x_okY m_X0_putOutPacket = true from x_cY rfl (by decide +kernel)
theorem v_8_0 : x_oks 8 0 60 = true := by decide +kernel
theorem v_8_60 : x_oks 8 60 60 = true := by decide +kernel
theorem v_8_120 : x_oks 8 120 34 = true := by decide +kernel
theorem vy_8 : x_okY (x_mt 8) = true := show x_okY m_X0_writeDisk = true from x_cY rfl (by decide +kernel)
theorem v_9_0 : x_oks 9 0 55 = true := by decide +kernel
theorem vy_9 : x_okY (x_mt 9) = true := show x_okY m_X0_receivePacket = true from x_cY rfl (by decide +kernel)
theorem v_10_0 : x_oks 10 0 60 = true := by decide +kernel
theorem v_10_60 : x_oks 10 60 5 = true := by decide +kernel
theorem vy_10 : x_okY (x_mt 10) = true := show x_okY m_X0_finishOperation = true from x_cY rfl (by decide +kernel)
theorem v_11_0 : x_oks 11 0 60 = true := by decide +kernel
theorem v_11_60 : x_oks 11 60 19 = true := by decide +kernel
theorem vy_11 : x_okY (x_mt 11) = true := show x_okY m_X0_copyFrom = true from x_cY rfl (by decide +kernel)
theorem v_12_0 : x_oks 12 0 20 = true := by decide +kernel
theorem vy_12 : x_okY (x_mt 12) = true := show x_okY m_X1_init = true from x_cY rfl (by decide +kernel)
theorem v_13_0 : x_oks 13 0 17 = true := by decide +kernel
theorem vy_13 : x_okY (x_mt 13) = true := show x_okY m_X2_init = true from x_cY rfl (by decide +kernel)
theorem v_14_0 : x_oks 14 0 13 = true := by decide +kernel
theorem vy_14 : x_okY (x_mt 14) = true := show x_okY m_X2_isEmpty = true from x_cY rfl (by decide +kernel)
theorem v_15_0 : x_oks 15 0 18 = true := by decide +kernel
theorem vy_15 : x_okY (x_mt 15) = true := show x_okY m_X2_isFull = true from x_cY rfl (by decide +kernel)
theorem v_16_0 : x_oks 16 0 11 = true := by decide +kernel
theorem vy_16 : x_okY (x_mt 16) = true := show x_okY m_X2_empty = true from x_cY rfl (by decide +kernel)
theorem v_17_0 : x_oks 17 0 37 = true := by decide +kernel
