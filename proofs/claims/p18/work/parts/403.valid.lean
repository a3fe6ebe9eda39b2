theorem vy_51 : x_okY (x_mt 51) = true := show x_okY m_X3_computed = true from x_cY rfl (by decide +kernel)
theorem v_52_0 : x_oks 52 0 60 = true := by decide +kernel
theorem v_52_60 : x_oks 52 60 37 = true := by decide +kernel
theorem vy_52 : x_okY (x_mt 52) = true := show x_okY m_X3_carryOutWhole = true from x_cY rfl (by decide +kernel)
theorem v_53_0 : x_oks 53 0 50 = true := by decide +kernel
theorem vy_53 : x_okY (x_mt 53) = true := show x_okY m_X3_returnFromTrap = true from x_cY rfl (by decide +kernel)
theorem v_54_0 : x_oks 54 0 60 = true := by decide +kernel
theorem v_54_60 : x_oks 54 60 60 = true := by decide +kernel
theorem v_54_120 : x_oks 54 120 31 = true := by decide +kernel
theorem vy_54 : x_okY (x_mt 54) = true := show x_okY m_X3_useControl = true from x_cY rfl (by decide +kernel)
theorem v_55_0 : x_oks 55 0 60 = true := by decide +kernel
theorem v_55_60 : x_oks 55 60 58 = true := by decide +kernel
theorem vy_55 : x_okY (x_mt 55) = true := show x_okY m_X3_whichControl = true from x_cY rfl (by decide +kernel)
theorem v_56_0 : x_oks 56 0 54 = true := by decide +kernel
theorem vy_56 : x_okY (x_mt 56) = true := show x_okY m_X3_controlValue = true from x_cY rfl (by decide +kernel)
theorem v_57_0 : x_oks 57 0 60 = true := by decide +kernel
theorem v_57_60 : x_oks 57 60 15 = true := by decide +kernel
theorem vy_57 : x_okY (x_mt 57) = true := show x_okY m_X4_init = true from x_cY rfl (by decide +kernel)
theorem v_58_0 : x_oks 58 0 30 = true := by decide +kernel
theorem vy_58 : x_okY (x_mt 58) = true := show x_okY m_X4_hasGuest = true from x_cY rfl (by decide +kernel)
theorem v_59_0 : x_oks 59 0 21 = true := by decide +kernel
theorem vy_59 : x_okY (x_mt 59) = true := show x_okY m_X4_leavePair = true from x_cY rfl (by decide +kernel)
theorem v_60_0 : x_oks 60 0 35 = true := by decide +kernel
theorem vy_60 : x_okY (x_mt 60) = true := show x_okY m_X4_stop = true from x_cY rfl (by decide +kernel)
theorem v_61_0 : x_oks 61 0 13 = true := by decide +kernel
theorem vy_61 : x_okY (x_mt 61) = true := show x_okY m_X4_left = true from x_cY rfl (by decide +kernel)
theorem v_62_0 : x_oks 62 0 32 = true := by decide +kernel
theorem vy_62 : x_okY (x_mt 62) = true := show x_okY m_X4_keep = true from x_cY rfl (by decide +kernel)
theorem v_63_0 : x_oks 63 0 15 = true := by decide +kernel
theorem vy_63 : x_okY (x_mt 63) = true := show x_okY m_X4_keptAt = true from x_cY rfl (by decide +kernel)
theorem v_64_0 : x_oks 64 0 17 = true := by decide +kernel
theorem vy_64 : x_okY (x_mt 64) = true := show x_okY m_X4_oldestKept = true from x_cY rfl (by decide +kernel)
theorem v_65_0 : x_oks 65 0 34 = true := by decide +kernel
theorem vy_65 : x_okY (x_mt 65) = true := show x_okY m_X4_dropKept = true from x_cY rfl (by decide +kernel)
theorem v_66_0 : x_oks 66 0 32 = true := by decide +kernel
theorem vy_66 : x_okY (x_mt 66) = true := show x_okY m_X4_keepsOperation = true from x_cY rfl (by decide +kernel)
theorem v_67_0 : x_oks 67 0 51 = true := by decide +kernel
theorem vy_67 : x_okY (x_mt 67) = true := show x_okY m_X4_answer = true from x_cY rfl (by decide +kernel)
theorem v_68_0 : x_oks 68 0 23 = true := by decide +kernel
theorem vy_68 : x_okY (x_mt 68) = true := show x_okY m_X5_init = true from x_cY rfl (by decide +kernel)
theorem v_69_0 : x_oks 69 0 25 = true := by decide +kernel
theorem vy_69 : x_okY (x_mt 69) = true := show x_okY m_X5_holds = true from x_cY rfl (by decide +kernel)
theorem v_70_0 : x_oks 70 0 11 = true := by decide +kernel
theorem vy_70 : x_okY (x_mt 70) = true := show x_okY m_X5_byteAt = true from x_cY rfl (by decide +kernel)
theorem v_71_0 : x_oks 71 0 27 = true := by decide +kernel
