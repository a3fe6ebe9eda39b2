theorem v_131_60 : x_oks 131 60 6 = true := by decide +kernel
theorem vy_131 : x_okY (x_mt 131) = true := show x_okY m_X11_mayStep = true from x_cY rfl (by decide +kernel)
theorem v_132_0 : x_oks 132 0 60 = true := by decide +kernel
theorem v_132_60 : x_oks 132 60 12 = true := by decide +kernel
theorem vy_132 : x_okY (x_mt 132) = true := show x_okY m_X11_handOn = true from x_cY rfl (by decide +kernel)
theorem v_133_0 : x_oks 133 0 60 = true := by decide +kernel
theorem v_133_60 : x_oks 133 60 16 = true := by decide +kernel
theorem vy_133 : x_okY (x_mt 133) = true := show x_okY m_X11_takeEntries = true from x_cY rfl (by decide +kernel)
theorem v_134_0 : x_oks 134 0 46 = true := by decide +kernel
theorem vy_134 : x_okY (x_mt 134) = true := show x_okY m_X11_takeOver = true from x_cY rfl (by decide +kernel)
theorem v_135_0 : x_oks 135 0 60 = true := by decide +kernel
theorem v_135_60 : x_oks 135 60 22 = true := by decide +kernel
theorem vy_135 : x_okY (x_mt 135) = true := show x_okY m_X11_goLiveIfAllIsTaken = true from x_cY rfl (by decide +kernel)
theorem v_136_0 : x_oks 136 0 35 = true := by decide +kernel
theorem vy_136 : x_okY (x_mt 136) = true := show x_okY m_X11_leaveAll = true from x_cY rfl (by decide +kernel)
theorem v_137_0 : x_oks 137 0 60 = true := by decide +kernel
theorem v_137_60 : x_oks 137 60 37 = true := by decide +kernel
theorem vy_137 : x_okY (x_mt 137) = true := show x_okY m_X11_leave = true from x_cY rfl (by decide +kernel)
theorem v_138_0 : x_oks 138 0 60 = true := by decide +kernel
theorem v_138_60 : x_oks 138 60 18 = true := by decide +kernel
theorem vy_138 : x_okY (x_mt 138) = true := show x_okY m_X11_makePair = true from x_cY rfl (by decide +kernel)
theorem v_139_0 : x_oks 139 0 25 = true := by decide +kernel
theorem vy_139 : x_okY (x_mt 139) = true := show x_okY m_X11_forgetPair = true from x_cY rfl (by decide +kernel)
theorem v_140_0 : x_oks 140 0 60 = true := by decide +kernel
theorem v_140_60 : x_oks 140 60 60 = true := by decide +kernel
theorem v_140_120 : x_oks 140 120 60 = true := by decide +kernel
theorem v_140_180 : x_oks 140 180 60 = true := by decide +kernel
theorem v_140_240 : x_oks 140 240 60 = true := by decide +kernel
theorem v_140_300 : x_oks 140 300 60 = true := by decide +kernel
theorem v_140_360 : x_oks 140 360 60 = true := by decide +kernel
theorem v_140_420 : x_oks 140 420 60 = true := by decide +kernel
theorem v_140_480 : x_oks 140 480 60 = true := by decide +kernel
theorem v_140_540 : x_oks 140 540 42 = true := by decide +kernel
theorem vy_140 : x_okY (x_mt 140) = true := show x_okY m_X12_init = true from x_cY rfl (by decide +kernel)
theorem v_141_0 : x_oks 141 0 31 = true := by decide +kernel
theorem vy_141 : x_okY (x_mt 141) = true := show x_okY m_X12_outer = true from x_cY rfl (by decide +kernel)
theorem v_142_0 : x_oks 142 0 20 = true := by decide +kernel
theorem vy_142 : x_okY (x_mt 142) = true := show x_okY m_X12_isIn = true from x_cY rfl (by decide +kernel)
theorem v_143_0 : x_oks 143 0 34 = true := by decide +kernel
theorem vy_143 : x_okY (x_mt 143) = true := show x_okY m_X12_write = true from x_cY rfl (by decide +kernel)
theorem v_144_0 : x_oks 144 0 17 = true := by decide +kernel
theorem vy_144 : x_okY (x_mt 144) = true := show x_okY m_X12_read = true from x_cY rfl (by decide +kernel)
theorem v_145_0 : x_oks 145 0 43 = true := by decide +kernel
theorem vy_145 : x_okY (x_mt 145) = true := show x_okY m_X12_word = true from x_cY rfl (by decide +kernel)
theorem v_146_0 : x_oks 146 0 60 = true := by decide +kernel
