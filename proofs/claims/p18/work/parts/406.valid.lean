theorem vy_111 : x_okY (x_mt 111) = true := show x_okY m_X11_ack = true from x_cY rfl (by decide +kernel)
theorem v_112_0 : x_oks 112 0 60 = true := by decide +kernel
theorem v_112_60 : x_oks 112 60 28 = true := by decide +kernel
theorem vy_112 : x_okY (x_mt 112) = true := show x_okY m_X11_suspect = true from x_cY rfl (by decide +kernel)
theorem v_113_0 : x_oks 113 0 60 = true := by decide +kernel
theorem v_113_60 : x_oks 113 60 4 = true := by decide +kernel
theorem vy_113 : x_okY (x_mt 113) = true := show x_okY m_X11_protect = true from x_cY rfl (by decide +kernel)
theorem v_114_0 : x_oks 114 0 60 = true := by decide +kernel
theorem v_114_60 : x_oks 114 60 15 = true := by decide +kernel
theorem vy_114 : x_okY (x_mt 114) = true := show x_okY m_X11_transfer = true from x_cY rfl (by decide +kernel)
theorem v_115_0 : x_oks 115 0 51 = true := by decide +kernel
theorem vy_115 : x_okY (x_mt 115) = true := show x_okY m_X11_crash = true from x_cY rfl (by decide +kernel)
theorem v_116_0 : x_oks 116 0 48 = true := by decide +kernel
theorem vy_116 : x_okY (x_mt 116) = true := show x_okY m_X11_repair = true from x_cY rfl (by decide +kernel)
theorem v_117_0 : x_oks 117 0 60 = true := by decide +kernel
theorem v_117_60 : x_oks 117 60 47 = true := by decide +kernel
theorem vy_117 : x_okY (x_mt 117) = true := show x_okY m_X11_host = true from x_cY rfl (by decide +kernel)
theorem v_118_0 : x_oks 118 0 46 = true := by decide +kernel
theorem vy_118 : x_okY (x_mt 118) = true := show x_okY m_X11_memory = true from x_cY rfl (by decide +kernel)
theorem v_119_0 : x_oks 119 0 55 = true := by decide +kernel
theorem vy_119 : x_okY (x_mt 119) = true := show x_okY m_X11_block = true from x_cY rfl (by decide +kernel)
theorem v_120_0 : x_oks 120 0 9 = true := by decide +kernel
theorem vy_120 : x_okY (x_mt 120) = true := show x_okY m_X11_out = true from x_cY rfl (by decide +kernel)
theorem v_121_0 : x_oks 121 0 10 = true := by decide +kernel
theorem vy_121 : x_okY (x_mt 121) = true := show x_okY m_X11_within = true from x_cY rfl (by decide +kernel)
theorem v_122_0 : x_oks 122 0 24 = true := by decide +kernel
theorem vy_122 : x_okY (x_mt 122) = true := show x_okY m_X11_hostAt = true from x_cY rfl (by decide +kernel)
theorem v_123_0 : x_oks 123 0 51 = true := by decide +kernel
theorem vy_123 : x_okY (x_mt 123) = true := show x_okY m_X11_heardHost = true from x_cY rfl (by decide +kernel)
theorem v_124_0 : x_oks 124 0 47 = true := by decide +kernel
theorem vy_124 : x_okY (x_mt 124) = true := show x_okY m_X11_onlyLive = true from x_cY rfl (by decide +kernel)
theorem v_125_0 : x_oks 125 0 39 = true := by decide +kernel
theorem vy_125 : x_okY (x_mt 125) = true := show x_okY m_X11_receiving = true from x_cY rfl (by decide +kernel)
theorem v_126_0 : x_oks 126 0 32 = true := by decide +kernel
theorem vy_126 : x_okY (x_mt 126) = true := show x_okY m_X11_pagesToSend = true from x_cY rfl (by decide +kernel)
theorem v_127_0 : x_oks 127 0 24 = true := by decide +kernel
theorem vy_127 : x_okY (x_mt 127) = true := show x_okY m_X11_hasRoom = true from x_cY rfl (by decide +kernel)
theorem v_128_0 : x_oks 128 0 41 = true := by decide +kernel
theorem vy_128 : x_okY (x_mt 128) = true := show x_okY m_X11_bring = true from x_cY rfl (by decide +kernel)
theorem v_129_0 : x_oks 129 0 26 = true := by decide +kernel
theorem vy_129 : x_okY (x_mt 129) = true := show x_okY m_X11_intoChannel = true from x_cY rfl (by decide +kernel)
theorem v_130_0 : x_oks 130 0 60 = true := by decide +kernel
theorem v_130_60 : x_oks 130 60 57 = true := by decide +kernel
theorem vy_130 : x_okY (x_mt 130) = true := show x_okY m_X11_advances = true from x_cY rfl (by decide +kernel)
theorem v_131_0 : x_oks 131 0 60 = true := by decide +kernel
