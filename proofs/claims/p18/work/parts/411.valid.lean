theorem v_185_0 : x_oks 185 0 60 = true := by decide +kernel
theorem v_185_60 : x_oks 185 60 60 = true := by decide +kernel
theorem v_185_120 : x_oks 185 120 18 = true := by decide +kernel
theorem vy_185 : x_okY (x_mt 185) = true := show x_okY m_X12_run = true from x_cY rfl (by decide +kernel)
theorem v_186_0 : x_oks 186 0 58 = true := by decide +kernel
theorem vy_186 : x_okY (x_mt 186) = true := show x_okY m_X12_put = true from x_cY rfl (by decide +kernel)
theorem v_187_0 : x_oks 187 0 55 = true := by decide +kernel
theorem vy_187 : x_okY (x_mt 187) = true := show x_okY m_X12_boot = true from x_cY rfl (by decide +kernel)
theorem v_188_0 : x_oks 188 0 39 = true := by decide +kernel
theorem vy_188 : x_okY (x_mt 188) = true := show x_okY m_X12_live = true from x_cY rfl (by decide +kernel)
theorem v_189_0 : x_oks 189 0 47 = true := by decide +kernel
theorem vy_189 : x_okY (x_mt 189) = true := show x_okY m_X12_key = true from x_cY rfl (by decide +kernel)
theorem v_190_0 : x_oks 190 0 60 = true := by decide +kernel
theorem v_190_60 : x_oks 190 60 60 = true := by decide +kernel
theorem v_190_120 : x_oks 190 120 5 = true := by decide +kernel
theorem vy_190 : x_okY (x_mt 190) = true := show x_okY m_X12_packet = true from x_cY rfl (by decide +kernel)
theorem v_191_0 : x_oks 191 0 31 = true := by decide +kernel
theorem vy_191 : x_okY (x_mt 191) = true := show x_okY m_X12_tick = true from x_cY rfl (by decide +kernel)
theorem v_192_0 : x_oks 192 0 60 = true := by decide +kernel
theorem v_192_60 : x_oks 192 60 60 = true := by decide +kernel
theorem v_192_120 : x_oks 192 120 60 = true := by decide +kernel
theorem v_192_180 : x_oks 192 180 59 = true := by decide +kernel
theorem vy_192 : x_okY (x_mt 192) = true := show x_okY m_X12_disk = true from x_cY rfl (by decide +kernel)
theorem v_193_0 : x_oks 193 0 60 = true := by decide +kernel
theorem v_193_60 : x_oks 193 60 1 = true := by decide +kernel
theorem vy_193 : x_okY (x_mt 193) = true := show x_okY m_X12_liveOf = true from x_cY rfl (by decide +kernel)
theorem v_194_0 : x_oks 194 0 60 = true := by decide +kernel
theorem v_194_60 : x_oks 194 60 60 = true := by decide +kernel
theorem v_194_120 : x_oks 194 120 40 = true := by decide +kernel
theorem vy_194 : x_okY (x_mt 194) = true := show x_okY m_X12_deliver = true from x_cY rfl (by decide +kernel)
theorem v_195_0 : x_oks 195 0 60 = true := by decide +kernel
theorem v_195_60 : x_oks 195 60 60 = true := by decide +kernel
theorem v_195_120 : x_oks 195 120 23 = true := by decide +kernel
theorem vy_195 : x_okY (x_mt 195) = true := show x_okY m_X12_ack = true from x_cY rfl (by decide +kernel)
theorem v_196_0 : x_oks 196 0 22 = true := by decide +kernel
theorem vy_196 : x_okY (x_mt 196) = true := show x_okY m_X12_noChannel = true from x_cY rfl (by decide +kernel)
theorem v_197_0 : x_oks 197 0 18 = true := by decide +kernel
theorem vy_197 : x_okY (x_mt 197) = true := show x_okY m_X12_halt = true from x_cY rfl (by decide +kernel)
theorem v_198_0 : x_oks 198 0 60 = true := by decide +kernel
theorem v_198_60 : x_oks 198 60 60 = true := by decide +kernel
theorem v_198_120 : x_oks 198 120 48 = true := by decide +kernel
theorem vy_198 : x_okY (x_mt 198) = true := show x_okY m_X12_suspect = true from x_cY rfl (by decide +kernel)
theorem v_199_0 : x_oks 199 0 60 = true := by decide +kernel
theorem v_199_60 : x_oks 199 60 60 = true := by decide +kernel
theorem v_199_120 : x_oks 199 120 20 = true := by decide +kernel
