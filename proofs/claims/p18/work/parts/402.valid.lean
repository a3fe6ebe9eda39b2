theorem v_36_0 : x_oks 36 0 13 = true := by decide +kernel
theorem vy_36 : x_okY (x_mt 36) = true := show x_okY m_X3_b = true from x_cY rfl (by decide +kernel)
theorem v_37_0 : x_oks 37 0 15 = true := by decide +kernel
theorem vy_37 : x_okY (x_mt 37) = true := show x_okY m_X3_storeOffset = true from x_cY rfl (by decide +kernel)
theorem v_38_0 : x_oks 38 0 31 = true := by decide +kernel
theorem vy_38 : x_okY (x_mt 38) = true := show x_okY m_X3_jumpOffset = true from x_cY rfl (by decide +kernel)
theorem v_39_0 : x_oks 39 0 33 = true := by decide +kernel
theorem vy_39 : x_okY (x_mt 39) = true := show x_okY m_X3_branchOffset = true from x_cY rfl (by decide +kernel)
theorem v_40_0 : x_oks 40 0 60 = true := by decide +kernel
theorem v_40_60 : x_oks 40 60 60 = true := by decide +kernel
theorem v_40_120 : x_oks 40 120 60 = true := by decide +kernel
theorem v_40_180 : x_oks 40 180 60 = true := by decide +kernel
theorem v_40_240 : x_oks 40 240 4 = true := by decide +kernel
theorem vy_40 : x_okY (x_mt 40) = true := show x_okY m_X3_carryOut = true from x_cY rfl (by decide +kernel)
theorem v_41_0 : x_oks 41 0 20 = true := by decide +kernel
theorem vy_41 : x_okY (x_mt 41) = true := show x_okY m_X3_setD = true from x_cY rfl (by decide +kernel)
theorem v_42_0 : x_oks 42 0 17 = true := by decide +kernel
theorem vy_42 : x_okY (x_mt 42) = true := show x_okY m_X3_answerAndGoOn = true from x_cY rfl (by decide +kernel)
theorem v_43_0 : x_oks 43 0 30 = true := by decide +kernel
theorem vy_43 : x_okY (x_mt 43) = true := show x_okY m_X3_jump = true from x_cY rfl (by decide +kernel)
theorem v_44_0 : x_oks 44 0 32 = true := by decide +kernel
theorem vy_44 : x_okY (x_mt 44) = true := show x_okY m_X3_jumpToRegister = true from x_cY rfl (by decide +kernel)
theorem v_45_0 : x_oks 45 0 60 = true := by decide +kernel
theorem v_45_60 : x_oks 45 60 60 = true := by decide +kernel
theorem v_45_120 : x_oks 45 120 35 = true := by decide +kernel
theorem vy_45 : x_okY (x_mt 45) = true := show x_okY m_X3_branch = true from x_cY rfl (by decide +kernel)
theorem v_46_0 : x_oks 46 0 60 = true := by decide +kernel
theorem v_46_60 : x_oks 46 60 60 = true := by decide +kernel
theorem v_46_120 : x_oks 46 120 3 = true := by decide +kernel
theorem vy_46 : x_okY (x_mt 46) = true := show x_okY m_X3_load = true from x_cY rfl (by decide +kernel)
theorem v_47_0 : x_oks 47 0 60 = true := by decide +kernel
theorem v_47_60 : x_oks 47 60 23 = true := by decide +kernel
theorem vy_47 : x_okY (x_mt 47) = true := show x_okY m_X3_loaded = true from x_cY rfl (by decide +kernel)
theorem v_48_0 : x_oks 48 0 60 = true := by decide +kernel
theorem v_48_60 : x_oks 48 60 60 = true := by decide +kernel
theorem v_48_120 : x_oks 48 120 22 = true := by decide +kernel
theorem vy_48 : x_okY (x_mt 48) = true := show x_okY m_X3_store = true from x_cY rfl (by decide +kernel)
theorem v_49_0 : x_oks 49 0 60 = true := by decide +kernel
theorem v_49_60 : x_oks 49 60 15 = true := by decide +kernel
theorem vy_49 : x_okY (x_mt 49) = true := show x_okY m_X3_computeWithNumber = true from x_cY rfl (by decide +kernel)
theorem v_50_0 : x_oks 50 0 60 = true := by decide +kernel
theorem v_50_60 : x_oks 50 60 6 = true := by decide +kernel
theorem vy_50 : x_okY (x_mt 50) = true := show x_okY m_X3_computeWithRegister = true from x_cY rfl (by decide +kernel)
theorem v_51_0 : x_oks 51 0 60 = true := by decide +kernel
theorem v_51_60 : x_oks 51 60 53 = true := by decide +kernel
