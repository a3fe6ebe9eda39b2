theorem vy_71 : x_okY (x_mt 71) = true := show x_okY m_X5_halfAt = true from x_cY rfl (by decide +kernel)
theorem v_72_0 : x_oks 72 0 55 = true := by decide +kernel
theorem vy_72 : x_okY (x_mt 72) = true := show x_okY m_X5_wordAt = true from x_cY rfl (by decide +kernel)
theorem v_73_0 : x_oks 73 0 47 = true := by decide +kernel
theorem vy_73 : x_okY (x_mt 73) = true := show x_okY m_X5_write = true from x_cY rfl (by decide +kernel)
theorem v_74_0 : x_oks 74 0 46 = true := by decide +kernel
theorem vy_74 : x_okY (x_mt 74) = true := show x_okY m_X5_writeBytes = true from x_cY rfl (by decide +kernel)
theorem v_75_0 : x_oks 75 0 21 = true := by decide +kernel
theorem vy_75 : x_okY (x_mt 75) = true := show x_okY m_X5_writeAll = true from x_cY rfl (by decide +kernel)
theorem v_76_0 : x_oks 76 0 25 = true := by decide +kernel
theorem vy_76 : x_okY (x_mt 76) = true := show x_okY m_X5_allToSend = true from x_cY rfl (by decide +kernel)
theorem v_77_0 : x_oks 77 0 30 = true := by decide +kernel
theorem vy_77 : x_okY (x_mt 77) = true := show x_okY m_X5_leastToSend = true from x_cY rfl (by decide +kernel)
theorem v_78_0 : x_oks 78 0 38 = true := by decide +kernel
theorem vy_78 : x_okY (x_mt 78) = true := show x_okY m_X5_countToSend = true from x_cY rfl (by decide +kernel)
theorem v_79_0 : x_oks 79 0 32 = true := by decide +kernel
theorem vy_79 : x_okY (x_mt 79) = true := show x_okY m_X5_sendPage = true from x_cY rfl (by decide +kernel)
theorem v_80_0 : x_oks 80 0 13 = true := by decide +kernel
theorem vy_80 : x_okY (x_mt 80) = true := show x_okY m_X6_init = true from x_cY rfl (by decide +kernel)
theorem v_81_0 : x_oks 81 0 43 = true := by decide +kernel
theorem vy_81 : x_okY (x_mt 81) = true := show x_okY m_X6_copyFrom = true from x_cY rfl (by decide +kernel)
theorem v_82_0 : x_oks 82 0 13 = true := by decide +kernel
theorem vy_82 : x_okY (x_mt 82) = true := show x_okY m_X7_init = true from x_cY rfl (by decide +kernel)
theorem v_83_0 : x_oks 83 0 35 = true := by decide +kernel
theorem vy_83 : x_okY (x_mt 83) = true := show x_okY m_X7_copyFrom = true from x_cY rfl (by decide +kernel)
theorem v_84_0 : x_oks 84 0 14 = true := by decide +kernel
theorem vy_84 : x_okY (x_mt 84) = true := show x_okY m_X8_init = true from x_cY rfl (by decide +kernel)
theorem v_85_0 : x_oks 85 0 31 = true := by decide +kernel
theorem vy_85 : x_okY (x_mt 85) = true := show x_okY m_X8_append = true from x_cY rfl (by decide +kernel)
theorem v_86_0 : x_oks 86 0 23 = true := by decide +kernel
theorem vy_86 : x_okY (x_mt 86) = true := show x_okY m_X8_at = true from x_cY rfl (by decide +kernel)
theorem v_87_0 : x_oks 87 0 54 = true := by decide +kernel
theorem vy_87 : x_okY (x_mt 87) = true := show x_okY m_X9_init = true from x_cY rfl (by decide +kernel)
theorem v_88_0 : x_oks 88 0 17 = true := by decide +kernel
theorem vy_88 : x_okY (x_mt 88) = true := show x_okY m_X9_testAndSet = true from x_cY rfl (by decide +kernel)
theorem v_89_0 : x_oks 89 0 58 = true := by decide +kernel
theorem vy_89 : x_okY (x_mt 89) = true := show x_okY m_X9_append = true from x_cY rfl (by decide +kernel)
theorem v_90_0 : x_oks 90 0 21 = true := by decide +kernel
theorem vy_90 : x_okY (x_mt 90) = true := show x_okY m_X9_oldest = true from x_cY rfl (by decide +kernel)
theorem v_91_0 : x_oks 91 0 60 = true := by decide +kernel
theorem v_91_60 : x_oks 91 60 23 = true := by decide +kernel
theorem vy_91 : x_okY (x_mt 91) = true := show x_okY m_X9_carryOutOldest = true from x_cY rfl (by decide +kernel)
theorem v_92_0 : x_oks 92 0 29 = true := by decide +kernel
theorem vy_92 : x_okY (x_mt 92) = true := show x_okY m_X10_init = true from x_cY rfl (by decide +kernel)
theorem v_93_0 : x_oks 93 0 15 = true := by decide +kernel
