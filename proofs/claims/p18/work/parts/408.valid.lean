theorem v_146_60 : x_oks 146 60 34 = true := by decide +kernel
theorem vy_146 : x_okY (x_mt 146) = true := show x_okY m_X12_pending = true from x_cY rfl (by decide +kernel)
theorem v_147_0 : x_oks 147 0 12 = true := by decide +kernel
theorem vy_147 : x_okY (x_mt 147) = true := show x_okY m_X12_control = true from x_cY rfl (by decide +kernel)
theorem v_148_0 : x_oks 148 0 55 = true := by decide +kernel
theorem vy_148 : x_okY (x_mt 148) = true := show x_okY m_X12_controlTo = true from x_cY rfl (by decide +kernel)
theorem v_149_0 : x_oks 149 0 57 = true := by decide +kernel
theorem vy_149 : x_okY (x_mt 149) = true := show x_okY m_X12_trap = true from x_cY rfl (by decide +kernel)
theorem v_150_0 : x_oks 150 0 17 = true := by decide +kernel
theorem vy_150 : x_okY (x_mt 150) = true := show x_okY m_X12_set = true from x_cY rfl (by decide +kernel)
theorem v_151_0 : x_oks 151 0 12 = true := by decide +kernel
theorem vy_151 : x_okY (x_mt 151) = true := show x_okY m_X12_get = true from x_cY rfl (by decide +kernel)
theorem v_152_0 : x_oks 152 0 60 = true := by decide +kernel
theorem v_152_60 : x_oks 152 60 60 = true := by decide +kernel
theorem v_152_120 : x_oks 152 120 60 = true := by decide +kernel
theorem v_152_180 : x_oks 152 180 3 = true := by decide +kernel
theorem vy_152 : x_okY (x_mt 152) = true := show x_okY m_X12_step = true from x_cY rfl (by decide +kernel)
theorem v_153_0 : x_oks 153 0 60 = true := by decide +kernel
theorem v_153_60 : x_oks 153 60 45 = true := by decide +kernel
theorem vy_153 : x_okY (x_mt 153) = true := show x_okY m_X12_isOut = true from x_cY rfl (by decide +kernel)
theorem v_154_0 : x_oks 154 0 60 = true := by decide +kernel
theorem v_154_60 : x_oks 154 60 60 = true := by decide +kernel
theorem v_154_120 : x_oks 154 120 60 = true := by decide +kernel
theorem v_154_180 : x_oks 154 180 60 = true := by decide +kernel
theorem v_154_240 : x_oks 154 240 60 = true := by decide +kernel
theorem v_154_300 : x_oks 154 300 60 = true := by decide +kernel
theorem v_154_360 : x_oks 154 360 43 = true := by decide +kernel
theorem vy_154 : x_okY (x_mt 154) = true := show x_okY m_X12_carryOut = true from x_cY rfl (by decide +kernel)
theorem v_155_0 : x_oks 155 0 18 = true := by decide +kernel
theorem vy_155 : x_okY (x_mt 155) = true := show x_okY m_X12_goesOn = true from x_cY rfl (by decide +kernel)
theorem v_156_0 : x_oks 156 0 36 = true := by decide +kernel
theorem vy_156 : x_okY (x_mt 156) = true := show x_okY m_X12_jumps = true from x_cY rfl (by decide +kernel)
theorem v_157_0 : x_oks 157 0 17 = true := by decide +kernel
theorem vy_157 : x_okY (x_mt 157) = true := show x_okY m_X12_isBelow = true from x_cY rfl (by decide +kernel)
theorem v_158_0 : x_oks 158 0 60 = true := by decide +kernel
theorem v_158_60 : x_oks 158 60 60 = true := by decide +kernel
theorem v_158_120 : x_oks 158 120 60 = true := by decide +kernel
theorem v_158_180 : x_oks 158 180 4 = true := by decide +kernel
theorem vy_158 : x_okY (x_mt 158) = true := show x_okY m_X12_branch = true from x_cY rfl (by decide +kernel)
theorem v_159_0 : x_oks 159 0 26 = true := by decide +kernel
theorem vy_159 : x_okY (x_mt 159) = true := show x_okY m_X12_isDevice = true from x_cY rfl (by decide +kernel)
theorem v_160_0 : x_oks 160 0 60 = true := by decide +kernel
theorem v_160_60 : x_oks 160 60 60 = true := by decide +kernel
theorem v_160_120 : x_oks 160 120 60 = true := by decide +kernel
theorem v_160_180 : x_oks 160 180 56 = true := by decide +kernel
