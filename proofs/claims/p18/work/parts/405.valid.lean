theorem vy_93 : x_okY (x_mt 93) = true := show x_okY m_X10_keysFull = true from x_cY rfl (by decide +kernel)
theorem v_94_0 : x_oks 94 0 14 = true := by decide +kernel
theorem vy_94 : x_okY (x_mt 94) = true := show x_okY m_X10_packetsFull = true from x_cY rfl (by decide +kernel)
theorem v_95_0 : x_oks 95 0 36 = true := by decide +kernel
theorem vy_95 : x_okY (x_mt 95) = true := show x_okY m_X10_appendKey = true from x_cY rfl (by decide +kernel)
theorem v_96_0 : x_oks 96 0 44 = true := by decide +kernel
theorem vy_96 : x_okY (x_mt 96) = true := show x_okY m_X10_takeKey = true from x_cY rfl (by decide +kernel)
theorem v_97_0 : x_oks 97 0 60 = true := by decide +kernel
theorem v_97_60 : x_oks 97 60 5 = true := by decide +kernel
theorem vy_97 : x_okY (x_mt 97) = true := show x_okY m_X10_appendPacket = true from x_cY rfl (by decide +kernel)
theorem v_98_0 : x_oks 98 0 21 = true := by decide +kernel
theorem vy_98 : x_okY (x_mt 98) = true := show x_okY m_X10_packetLength = true from x_cY rfl (by decide +kernel)
theorem v_99_0 : x_oks 99 0 8 = true := by decide +kernel
theorem vy_99 : x_okY (x_mt 99) = true := show x_okY m_X10_packetStart = true from x_cY rfl (by decide +kernel)
theorem v_100_0 : x_oks 100 0 30 = true := by decide +kernel
theorem vy_100 : x_okY (x_mt 100) = true := show x_okY m_X10_dropPacket = true from x_cY rfl (by decide +kernel)
theorem v_101_0 : x_oks 101 0 60 = true := by decide +kernel
theorem v_101_60 : x_oks 101 60 27 = true := by decide +kernel
theorem vy_101 : x_okY (x_mt 101) = true := show x_okY m_X10_copyFrom = true from x_cY rfl (by decide +kernel)
theorem v_102_0 : x_oks 102 0 60 = true := by decide +kernel
theorem v_102_60 : x_oks 102 60 60 = true := by decide +kernel
theorem v_102_120 : x_oks 102 120 35 = true := by decide +kernel
theorem vy_102 : x_okY (x_mt 102) = true := show x_okY m_X11_init = true from x_cY rfl (by decide +kernel)
theorem v_103_0 : x_oks 103 0 54 = true := by decide +kernel
theorem vy_103 : x_okY (x_mt 103) = true := show x_okY m_X11_put = true from x_cY rfl (by decide +kernel)
theorem v_104_0 : x_oks 104 0 42 = true := by decide +kernel
theorem vy_104 : x_okY (x_mt 104) = true := show x_okY m_X11_boot = true from x_cY rfl (by decide +kernel)
theorem v_105_0 : x_oks 105 0 49 = true := by decide +kernel
theorem vy_105 : x_okY (x_mt 105) = true := show x_okY m_X11_run = true from x_cY rfl (by decide +kernel)
theorem v_106_0 : x_oks 106 0 56 = true := by decide +kernel
theorem vy_106 : x_okY (x_mt 106) = true := show x_okY m_X11_key = true from x_cY rfl (by decide +kernel)
theorem v_107_0 : x_oks 107 0 60 = true := by decide +kernel
theorem v_107_60 : x_oks 107 60 60 = true := by decide +kernel
theorem v_107_120 : x_oks 107 120 26 = true := by decide +kernel
theorem vy_107 : x_okY (x_mt 107) = true := show x_okY m_X11_packet = true from x_cY rfl (by decide +kernel)
theorem v_108_0 : x_oks 108 0 36 = true := by decide +kernel
theorem vy_108 : x_okY (x_mt 108) = true := show x_okY m_X11_tick = true from x_cY rfl (by decide +kernel)
theorem v_109_0 : x_oks 109 0 60 = true := by decide +kernel
theorem v_109_60 : x_oks 109 60 51 = true := by decide +kernel
theorem vy_109 : x_okY (x_mt 109) = true := show x_okY m_X11_disk = true from x_cY rfl (by decide +kernel)
theorem v_110_0 : x_oks 110 0 60 = true := by decide +kernel
theorem v_110_60 : x_oks 110 60 5 = true := by decide +kernel
theorem vy_110 : x_okY (x_mt 110) = true := show x_okY m_X11_deliver = true from x_cY rfl (by decide +kernel)
theorem v_111_0 : x_oks 111 0 60 = true := by decide +kernel
theorem v_111_60 : x_oks 111 60 23 = true := by decide +kernel
