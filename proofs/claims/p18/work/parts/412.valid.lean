theorem vy_199 : x_okY (x_mt 199) = true := show x_okY m_X12_protect = true from x_cY rfl (by decide +kernel)
theorem v_200_0 : x_oks 200 0 60 = true := by decide +kernel
theorem v_200_60 : x_oks 200 60 60 = true := by decide +kernel
theorem v_200_120 : x_oks 200 120 60 = true := by decide +kernel
theorem v_200_180 : x_oks 200 180 60 = true := by decide +kernel
theorem v_200_240 : x_oks 200 240 20 = true := by decide +kernel
theorem vy_200 : x_okY (x_mt 200) = true := show x_okY m_X12_transfer = true from x_cY rfl (by decide +kernel)
theorem v_201_0 : x_oks 201 0 60 = true := by decide +kernel
theorem v_201_60 : x_oks 201 60 60 = true := by decide +kernel
theorem v_201_120 : x_oks 201 120 60 = true := by decide +kernel
theorem v_201_180 : x_oks 201 180 60 = true := by decide +kernel
theorem v_201_240 : x_oks 201 240 60 = true := by decide +kernel
theorem v_201_300 : x_oks 201 300 60 = true := by decide +kernel
theorem v_201_360 : x_oks 201 360 56 = true := by decide +kernel
theorem vy_201 : x_okY (x_mt 201) = true := show x_okY m_X12_copy = true from x_cY rfl (by decide +kernel)
theorem v_202_0 : x_oks 202 0 60 = true := by decide +kernel
theorem v_202_60 : x_oks 202 60 30 = true := by decide +kernel
theorem vy_202 : x_okY (x_mt 202) = true := show x_okY m_X12_crash = true from x_cY rfl (by decide +kernel)
theorem v_203_0 : x_oks 203 0 60 = true := by decide +kernel
theorem v_203_60 : x_oks 203 60 11 = true := by decide +kernel
theorem vy_203 : x_okY (x_mt 203) = true := show x_okY m_X12_repair = true from x_cY rfl (by decide +kernel)
theorem v_204_0 : x_oks 204 0 36 = true := by decide +kernel
theorem vy_204 : x_okY (x_mt 204) = true := show x_okY m_X12_hasGuest = true from x_cY rfl (by decide +kernel)
theorem v_205_0 : x_oks 205 0 60 = true := by decide +kernel
theorem v_205_60 : x_oks 205 60 60 = true := by decide +kernel
theorem v_205_120 : x_oks 205 120 37 = true := by decide +kernel
theorem vy_205 : x_okY (x_mt 205) = true := show x_okY m_X12_host = true from x_cY rfl (by decide +kernel)
theorem v_206_0 : x_oks 206 0 37 = true := by decide +kernel
theorem vy_206 : x_okY (x_mt 206) = true := show x_okY m_X12_waiting = true from x_cY rfl (by decide +kernel)
theorem v_207_0 : x_oks 207 0 60 = true := by decide +kernel
theorem v_207_60 : x_oks 207 60 60 = true := by decide +kernel
theorem v_207_120 : x_oks 207 120 60 = true := by decide +kernel
theorem v_207_180 : x_oks 207 180 60 = true := by decide +kernel
theorem v_207_240 : x_oks 207 240 15 = true := by decide +kernel
theorem vy_207 : x_okY (x_mt 207) = true := show x_okY m_X12_about = true from x_cY rfl (by decide +kernel)
theorem v_208_0 : x_oks 208 0 54 = true := by decide +kernel
theorem vy_208 : x_okY (x_mt 208) = true := show x_okY m_X12_memory = true from x_cY rfl (by decide +kernel)
theorem v_209_0 : x_oks 209 0 56 = true := by decide +kernel
theorem vy_209 : x_okY (x_mt 209) = true := show x_okY m_X12_block = true from x_cY rfl (by decide +kernel)
theorem v_210_0 : x_oks 210 0 28 = true := by decide +kernel
theorem vy_210 : x_okY (x_mt 210) = true := show x_okY m_X12_out = true from x_cY rfl (by decide +kernel)
theorem v_211_0 : x_oks 211 0 20 = true := by decide +kernel
theorem vy_211 : x_okY (x_mt 211) = true := show x_okY m_J6_compare_7cf53 = true from x_cY rfl (by decide +kernel)
theorem v_212_0 : x_oks 212 0 12 = true := by decide +kernel
theorem vy_212 : x_okY (x_mt 212) = true := show x_okY m_J6_compareUnsigned_7cf53 = true from x_cY rfl (by decide +kernel)
