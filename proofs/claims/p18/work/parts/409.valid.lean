theorem vy_160 : x_okY (x_mt 160) = true := show x_okY m_X12_loads = true from x_cY rfl (by decide +kernel)
theorem v_161_0 : x_oks 161 0 60 = true := by decide +kernel
theorem v_161_60 : x_oks 161 60 60 = true := by decide +kernel
theorem v_161_120 : x_oks 161 120 60 = true := by decide +kernel
theorem v_161_180 : x_oks 161 180 2 = true := by decide +kernel
theorem vy_161 : x_okY (x_mt 161) = true := show x_okY m_X12_stores = true from x_cY rfl (by decide +kernel)
theorem v_162_0 : x_oks 162 0 60 = true := by decide +kernel
theorem v_162_60 : x_oks 162 60 60 = true := by decide +kernel
theorem v_162_120 : x_oks 162 120 60 = true := by decide +kernel
theorem v_162_180 : x_oks 162 180 60 = true := by decide +kernel
theorem v_162_240 : x_oks 162 240 54 = true := by decide +kernel
theorem vy_162 : x_okY (x_mt 162) = true := show x_okY m_X12_reckons = true from x_cY rfl (by decide +kernel)
theorem v_163_0 : x_oks 163 0 60 = true := by decide +kernel
theorem v_163_60 : x_oks 163 60 58 = true := by decide +kernel
theorem vy_163 : x_okY (x_mt 163) = true := show x_okY m_X12_system = true from x_cY rfl (by decide +kernel)
theorem v_164_0 : x_oks 164 0 60 = true := by decide +kernel
theorem v_164_60 : x_oks 164 60 60 = true := by decide +kernel
theorem v_164_120 : x_oks 164 120 60 = true := by decide +kernel
theorem v_164_180 : x_oks 164 180 60 = true := by decide +kernel
theorem v_164_240 : x_oks 164 240 60 = true := by decide +kernel
theorem v_164_300 : x_oks 164 300 16 = true := by decide +kernel
theorem vy_164 : x_okY (x_mt 164) = true := show x_okY m_X12_register = true from x_cY rfl (by decide +kernel)
theorem v_165_0 : x_oks 165 0 60 = true := by decide +kernel
theorem v_165_60 : x_oks 165 60 60 = true := by decide +kernel
theorem v_165_120 : x_oks 165 120 43 = true := by decide +kernel
theorem vy_165 : x_okY (x_mt 165) = true := show x_okY m_X12_readDevice = true from x_cY rfl (by decide +kernel)
theorem v_166_0 : x_oks 166 0 60 = true := by decide +kernel
theorem v_166_60 : x_oks 166 60 15 = true := by decide +kernel
theorem vy_166 : x_okY (x_mt 166) = true := show x_okY m_X12_takeKey = true from x_cY rfl (by decide +kernel)
theorem v_167_0 : x_oks 167 0 60 = true := by decide +kernel
theorem v_167_60 : x_oks 167 60 60 = true := by decide +kernel
theorem v_167_120 : x_oks 167 120 60 = true := by decide +kernel
theorem v_167_180 : x_oks 167 180 60 = true := by decide +kernel
theorem v_167_240 : x_oks 167 240 30 = true := by decide +kernel
theorem vy_167 : x_okY (x_mt 167) = true := show x_okY m_X12_writeDevice = true from x_cY rfl (by decide +kernel)
theorem v_168_0 : x_oks 168 0 16 = true := by decide +kernel
theorem vy_168 : x_okY (x_mt 168) = true := show x_okY m_X12_slotOf = true from x_cY rfl (by decide +kernel)
theorem v_169_0 : x_oks 169 0 60 = true := by decide +kernel
theorem v_169_60 : x_oks 169 60 18 = true := by decide +kernel
theorem vy_169 : x_okY (x_mt 169) = true := show x_okY m_X12_puts = true from x_cY rfl (by decide +kernel)
theorem v_170_0 : x_oks 170 0 60 = true := by decide +kernel
theorem v_170_60 : x_oks 170 60 60 = true := by decide +kernel
theorem v_170_120 : x_oks 170 120 60 = true := by decide +kernel
theorem v_170_180 : x_oks 170 180 33 = true := by decide +kernel
theorem vy_170 : x_okY (x_mt 170) = true := show x_okY m_X12_asks = true from x_cY rfl (by decide +kernel)
