theorem v_171_0 : x_oks 171 0 60 = true := by decide +kernel
theorem v_171_60 : x_oks 171 60 60 = true := by decide +kernel
theorem v_171_120 : x_oks 171 120 52 = true := by decide +kernel
theorem vy_171 : x_okY (x_mt 171) = true := show x_okY m_X12_receives = true from x_cY rfl (by decide +kernel)
theorem v_172_0 : x_oks 172 0 60 = true := by decide +kernel
theorem v_172_60 : x_oks 172 60 60 = true := by decide +kernel
theorem v_172_120 : x_oks 172 120 60 = true := by decide +kernel
theorem v_172_180 : x_oks 172 180 60 = true := by decide +kernel
theorem v_172_240 : x_oks 172 240 2 = true := by decide +kernel
theorem vy_172 : x_okY (x_mt 172) = true := show x_okY m_X12_event = true from x_cY rfl (by decide +kernel)
theorem v_173_0 : x_oks 173 0 60 = true := by decide +kernel
theorem v_173_60 : x_oks 173 60 29 = true := by decide +kernel
theorem vy_173 : x_okY (x_mt 173) = true := show x_okY m_X12_entry = true from x_cY rfl (by decide +kernel)
theorem v_174_0 : x_oks 174 0 13 = true := by decide +kernel
theorem vy_174 : x_okY (x_mt 174) = true := show x_okY m_X12_log = true from x_cY rfl (by decide +kernel)
theorem v_175_0 : x_oks 175 0 55 = true := by decide +kernel
theorem vy_175 : x_okY (x_mt 175) = true := show x_okY m_X12_sends = true from x_cY rfl (by decide +kernel)
theorem v_176_0 : x_oks 176 0 60 = true := by decide +kernel
theorem v_176_60 : x_oks 176 60 27 = true := by decide +kernel
theorem vy_176 : x_okY (x_mt 176) = true := show x_okY m_X12_comes = true from x_cY rfl (by decide +kernel)
theorem v_177_0 : x_oks 177 0 60 = true := by decide +kernel
theorem v_177_60 : x_oks 177 60 60 = true := by decide +kernel
theorem v_177_120 : x_oks 177 120 34 = true := by decide +kernel
theorem vy_177 : x_okY (x_mt 177) = true := show x_okY m_X12_leave = true from x_cY rfl (by decide +kernel)
theorem v_178_0 : x_oks 178 0 56 = true := by decide +kernel
theorem vy_178 : x_okY (x_mt 178) = true := show x_okY m_X12_operation = true from x_cY rfl (by decide +kernel)
theorem v_179_0 : x_oks 179 0 60 = true := by decide +kernel
theorem v_179_60 : x_oks 179 60 60 = true := by decide +kernel
theorem v_179_120 : x_oks 179 120 14 = true := by decide +kernel
theorem vy_179 : x_okY (x_mt 179) = true := show x_okY m_X12_drop = true from x_cY rfl (by decide +kernel)
theorem v_180_0 : x_oks 180 0 18 = true := by decide +kernel
theorem vy_180 : x_okY (x_mt 180) = true := show x_okY m_X12_leaveAll = true from x_cY rfl (by decide +kernel)
theorem v_181_0 : x_oks 181 0 60 = true := by decide +kernel
theorem v_181_60 : x_oks 181 60 60 = true := by decide +kernel
theorem v_181_120 : x_oks 181 120 35 = true := by decide +kernel
theorem vy_181 : x_okY (x_mt 181) = true := show x_okY m_X12_goLive = true from x_cY rfl (by decide +kernel)
theorem v_182_0 : x_oks 182 0 60 = true := by decide +kernel
theorem v_182_60 : x_oks 182 60 60 = true := by decide +kernel
theorem v_182_120 : x_oks 182 120 60 = true := by decide +kernel
theorem v_182_180 : x_oks 182 180 11 = true := by decide +kernel
theorem vy_182 : x_okY (x_mt 182) = true := show x_okY m_X12_takes = true from x_cY rfl (by decide +kernel)
theorem v_183_0 : x_oks 183 0 18 = true := by decide +kernel
theorem vy_183 : x_okY (x_mt 183) = true := show x_okY m_X12_isHost = true from x_cY rfl (by decide +kernel)
theorem v_184_0 : x_oks 184 0 27 = true := by decide +kernel
theorem vy_184 : x_okY (x_mt 184) = true := show x_okY m_X12_isFrozen = true from x_cY rfl (by decide +kernel)
