theorem vm_0 : x_okm (x_mt 0) = true := by
  refine x_oksum (show (x_mt 0).2.2.2.2.2.2.2.1.2.2.2.2 = 43 from rfl) (fun pc hpc => ?_)
  exact x_oksat v_0_0 (by omega) (by omega)
theorem vm_1 : x_okm (x_mt 1) = true := by
  refine x_oksum (show (x_mt 1).2.2.2.2.2.2.2.1.2.2.2.2 = 18 from rfl) (fun pc hpc => ?_)
  exact x_oksat v_1_0 (by omega) (by omega)
theorem vm_2 : x_okm (x_mt 2) = true := by
  refine x_oksum (show (x_mt 2).2.2.2.2.2.2.2.1.2.2.2.2 = 24 from rfl) (fun pc hpc => ?_)
  exact x_oksat v_2_0 (by omega) (by omega)
theorem vm_3 : x_okm (x_mt 3) = true := by
  refine x_oksum (show (x_mt 3).2.2.2.2.2.2.2.1.2.2.2.2 = 93 from rfl) (fun pc hpc => ?_)
  by_cases h0 : pc < 60
  · exact x_oksat v_3_0 (by omega) (by omega)
  exact x_oksat v_3_60 (by omega) (by omega)
theorem vm_4 : x_okm (x_mt 4) = true := by
  refine x_oksum (show (x_mt 4).2.2.2.2.2.2.2.1.2.2.2.2 = 137 from rfl) (fun pc hpc => ?_)
  by_cases h0 : pc < 60
  · exact x_oksat v_4_0 (by omega) (by omega)
  by_cases h1 : pc < 120
  · exact x_oksat v_4_60 (by omega) (by omega)
  exact x_oksat v_4_120 (by omega) (by omega)
theorem vm_5 : x_okm (x_mt 5) = true := by
  refine x_oksum (show (x_mt 5).2.2.2.2.2.2.2.1.2.2.2.2 = 157 from rfl) (fun pc hpc => ?_)
  by_cases h0 : pc < 60
  · exact x_oksat v_5_0 (by omega) (by omega)
  by_cases h1 : pc < 120
  · exact x_oksat v_5_60 (by omega) (by omega)
  exact x_oksat v_5_120 (by omega) (by omega)
theorem vm_6 : x_okm (x_mt 6) = true := by
  refine x_oksum (show (x_mt 6).2.2.2.2.2.2.2.1.2.2.2.2 = 28 from rfl) (fun pc hpc => ?_)
  exact x_oksat v_6_0 (by omega) (by omega)
theorem vm_7 : x_okm (x_mt 7) = true := by
  refine x_oksum (show (x_mt 7).2.2.2.2.2.2.2.1.2.2.2.2 = 76 from rfl) (fun pc hpc => ?_)
  by_cases h0 : pc < 60
  · exact x_oksat v_7_0 (by omega) (by omega)
  exact x_oksat v_7_60 (by omega) (by omega)
theorem vm_8 : x_okm (x_mt 8) = true := by
  refine x_oksum (show (x_mt 8).2.2.2.2.2.2.2.1.2.2.2.2 = 154 from rfl) (fun pc hpc => ?_)
  by_cases h0 : pc < 60
  · exact x_oksat v_8_0 (by omega) (by omega)
  by_cases h1 : pc < 120
  · exact x_oksat v_8_60 (by omega) (by omega)
  exact x_oksat v_8_120 (by omega) (by omega)
theorem vm_9 : x_okm (x_mt 9) = true := by
  refine x_oksum (show (x_mt 9).2.2.2.2.2.2.2.1.2.2.2.2 = 55 from rfl) (fun pc hpc => ?_)
  exact x_oksat v_9_0 (by omega) (by omega)
theorem vm_10 : x_okm (x_mt 10) = true := by
  refine x_oksum (show (x_mt 10).2.2.2.2.2.2.2.1.2.2.2.2 = 65 from rfl) (fun pc hpc => ?_)
  by_cases h0 : pc < 60
  · exact x_oksat v_10_0 (by omega) (by omega)
  exact x_oksat v_10_60 (by omega) (by omega)
theorem vm_11 : x_okm (x_mt 11) = true := by
  refine x_oksum (show (x_mt 11).2.2.2.2.2.2.2.1.2.2.2.2 = 79 from rfl) (fun pc hpc => ?_)
  by_cases h0 : pc < 60
  · exact x_oksat v_11_0 (by omega) (by omega)
  exact x_oksat v_11_60 (by omega) (by omega)
theorem vm_12 : x_okm (x_mt 12) = true := by
  refine x_oksum (show (x_mt 12).2.2.2.2.2.2.2.1.2.2.2.2 = 20 from rfl) (fun pc hpc => ?_)
  exact x_oksat v_12_0 (by omega) (by omega)
theorem vm_13 : x_okm (x_mt 13) = true := by
  refine x_oksum (show (x_mt 13).2.2.2.2.2.2.2.1.2.2.2.2 = 17 from rfl) (fun pc hpc => ?_)
  exact x_oksat v_13_0 (by omega) (by omega)
theorem vm_14 : x_okm (x_mt 14) = true := by
  refine x_oksum (show (x_mt 14).2.2.2.2.2.2.2.1.2.2.2.2 = 13 from rfl) (fun pc hpc => ?_)
  exact x_oksat v_14_0 (by omega) (by omega)
theorem vm_15 : x_okm (x_mt 15) = true := by
  refine x_oksum (show (x_mt 15).2.2.2.2.2.2.2.1.2.2.2.2 = 18 from rfl) (fun pc hpc => ?_)
  exact x_oksat v_15_0 (by omega) (by omega)
theorem vm_16 : x_okm (x_mt 16) = true := by
  refine x_oksum (show (x_mt 16).2.2.2.2.2.2.2.1.2.2.2.2 = 11 from rfl) (fun pc hpc => ?_)
  exact x_oksat v_16_0 (by omega) (by omega)
theorem vm_17 : x_okm (x_mt 17) = true := by
  refine x_oksum (show (x_mt 17).2.2.2.2.2.2.2.1.2.2.2.2 = 37 from rfl) (fun pc hpc => ?_)
  exact x_oksat v_17_0 (by omega) (by omega)
theorem vm_18 : x_okm (x_mt 18) = true := by
  refine x_oksum (show (x_mt 18).2.2.2.2.2.2.2.1.2.2.2.2 = 21 from rfl) (fun pc hpc => ?_)
  exact x_oksat v_18_0 (by omega) (by omega)
theorem vm_19 : x_okm (x_mt 19) = true := by
  refine x_oksum (show (x_mt 19).2.2.2.2.2.2.2.1.2.2.2.2 = 35 from rfl) (fun pc hpc => ?_)
  exact x_oksat v_19_0 (by omega) (by omega)
theorem vm_20 : x_okm (x_mt 20) = true := by
  refine x_oksum (show (x_mt 20).2.2.2.2.2.2.2.1.2.2.2.2 = 21 from rfl) (fun pc hpc => ?_)
  exact x_oksat v_20_0 (by omega) (by omega)
theorem vm_21 : x_okm (x_mt 21) = true := by
  refine x_oksum (show (x_mt 21).2.2.2.2.2.2.2.1.2.2.2.2 = 50 from rfl) (fun pc hpc => ?_)
  exact x_oksat v_21_0 (by omega) (by omega)
theorem vm_22 : x_okm (x_mt 22) = true := by
  refine x_oksum (show (x_mt 22).2.2.2.2.2.2.2.1.2.2.2.2 = 80 from rfl) (fun pc hpc => ?_)
  by_cases h0 : pc < 60
  · exact x_oksat v_22_0 (by omega) (by omega)
  exact x_oksat v_22_60 (by omega) (by omega)
theorem vm_23 : x_okm (x_mt 23) = true := by
  refine x_oksum (show (x_mt 23).2.2.2.2.2.2.2.1.2.2.2.2 = 197 from rfl) (fun pc hpc => ?_)
  by_cases h0 : pc < 60
  · exact x_oksat v_23_0 (by omega) (by omega)
  by_cases h1 : pc < 120
  · exact x_oksat v_23_60 (by omega) (by omega)
  by_cases h2 : pc < 180
  · exact x_oksat v_23_120 (by omega) (by omega)
  exact x_oksat v_23_180 (by omega) (by omega)
theorem vm_24 : x_okm (x_mt 24) = true := by
  refine x_oksum (show (x_mt 24).2.2.2.2.2.2.2.1.2.2.2.2 = 101 from rfl) (fun pc hpc => ?_)
  by_cases h0 : pc < 60
  · exact x_oksat v_24_0 (by omega) (by omega)
  exact x_oksat v_24_60 (by omega) (by omega)
theorem vm_25 : x_okm (x_mt 25) = true := by
  refine x_oksum (show (x_mt 25).2.2.2.2.2.2.2.1.2.2.2.2 = 23 from rfl) (fun pc hpc => ?_)
  exact x_oksat v_25_0 (by omega) (by omega)
theorem vm_26 : x_okm (x_mt 26) = true := by
  refine x_oksum (show (x_mt 26).2.2.2.2.2.2.2.1.2.2.2.2 = 15 from rfl) (fun pc hpc => ?_)
  exact x_oksat v_26_0 (by omega) (by omega)
theorem vm_27 : x_okm (x_mt 27) = true := by
  refine x_oksum (show (x_mt 27).2.2.2.2.2.2.2.1.2.2.2.2 = 25 from rfl) (fun pc hpc => ?_)
  exact x_oksat v_27_0 (by omega) (by omega)
theorem vm_28 : x_okm (x_mt 28) = true := by
  refine x_oksum (show (x_mt 28).2.2.2.2.2.2.2.1.2.2.2.2 = 75 from rfl) (fun pc hpc => ?_)
  by_cases h0 : pc < 60
  · exact x_oksat v_28_0 (by omega) (by omega)
  exact x_oksat v_28_60 (by omega) (by omega)
theorem vm_29 : x_okm (x_mt 29) = true := by
  refine x_oksum (show (x_mt 29).2.2.2.2.2.2.2.1.2.2.2.2 = 100 from rfl) (fun pc hpc => ?_)
  by_cases h0 : pc < 60
  · exact x_oksat v_29_0 (by omega) (by omega)
  exact x_oksat v_29_60 (by omega) (by omega)
theorem vm_30 : x_okm (x_mt 30) = true := by
  refine x_oksum (show (x_mt 30).2.2.2.2.2.2.2.1.2.2.2.2 = 61 from rfl) (fun pc hpc => ?_)
  by_cases h0 : pc < 60
  · exact x_oksat v_30_0 (by omega) (by omega)
  exact x_oksat v_30_60 (by omega) (by omega)
theorem vm_31 : x_okm (x_mt 31) = true := by
  refine x_oksum (show (x_mt 31).2.2.2.2.2.2.2.1.2.2.2.2 = 7 from rfl) (fun pc hpc => ?_)
  exact x_oksat v_31_0 (by omega) (by omega)
theorem vm_32 : x_okm (x_mt 32) = true := by
  refine x_oksum (show (x_mt 32).2.2.2.2.2.2.2.1.2.2.2.2 = 8 from rfl) (fun pc hpc => ?_)
  exact x_oksat v_32_0 (by omega) (by omega)
theorem vm_33 : x_okm (x_mt 33) = true := by
  refine x_oksum (show (x_mt 33).2.2.2.2.2.2.2.1.2.2.2.2 = 5 from rfl) (fun pc hpc => ?_)
  exact x_oksat v_33_0 (by omega) (by omega)
theorem vm_34 : x_okm (x_mt 34) = true := by
  refine x_oksum (show (x_mt 34).2.2.2.2.2.2.2.1.2.2.2.2 = 8 from rfl) (fun pc hpc => ?_)
  exact x_oksat v_34_0 (by omega) (by omega)
theorem vm_35 : x_okm (x_mt 35) = true := by
  refine x_oksum (show (x_mt 35).2.2.2.2.2.2.2.1.2.2.2.2 = 10 from rfl) (fun pc hpc => ?_)
  exact x_oksat v_35_0 (by omega) (by omega)
theorem vm_36 : x_okm (x_mt 36) = true := by
  refine x_oksum (show (x_mt 36).2.2.2.2.2.2.2.1.2.2.2.2 = 13 from rfl) (fun pc hpc => ?_)
  exact x_oksat v_36_0 (by omega) (by omega)
theorem vm_37 : x_okm (x_mt 37) = true := by
  refine x_oksum (show (x_mt 37).2.2.2.2.2.2.2.1.2.2.2.2 = 15 from rfl) (fun pc hpc => ?_)
  exact x_oksat v_37_0 (by omega) (by omega)
theorem vm_38 : x_okm (x_mt 38) = true := by
  refine x_oksum (show (x_mt 38).2.2.2.2.2.2.2.1.2.2.2.2 = 31 from rfl) (fun pc hpc => ?_)
  exact x_oksat v_38_0 (by omega) (by omega)
theorem vm_39 : x_okm (x_mt 39) = true := by
  refine x_oksum (show (x_mt 39).2.2.2.2.2.2.2.1.2.2.2.2 = 33 from rfl) (fun pc hpc => ?_)
  exact x_oksat v_39_0 (by omega) (by omega)
theorem vm_40 : x_okm (x_mt 40) = true := by
  refine x_oksum (show (x_mt 40).2.2.2.2.2.2.2.1.2.2.2.2 = 244 from rfl) (fun pc hpc => ?_)
  by_cases h0 : pc < 60
  · exact x_oksat v_40_0 (by omega) (by omega)
  by_cases h1 : pc < 120
  · exact x_oksat v_40_60 (by omega) (by omega)
  by_cases h2 : pc < 180
  · exact x_oksat v_40_120 (by omega) (by omega)
  by_cases h3 : pc < 240
  · exact x_oksat v_40_180 (by omega) (by omega)
  exact x_oksat v_40_240 (by omega) (by omega)
theorem vm_41 : x_okm (x_mt 41) = true := by
  refine x_oksum (show (x_mt 41).2.2.2.2.2.2.2.1.2.2.2.2 = 20 from rfl) (fun pc hpc => ?_)
  exact x_oksat v_41_0 (by omega) (by omega)
theorem vm_42 : x_okm (x_mt 42) = true := by
  refine x_oksum (show (x_mt 42).2.2.2.2.2.2.2.1.2.2.2.2 = 17 from rfl) (fun pc hpc => ?_)
  exact x_oksat v_42_0 (by omega) (by omega)
theorem vm_43 : x_okm (x_mt 43) = true := by
  refine x_oksum (show (x_mt 43).2.2.2.2.2.2.2.1.2.2.2.2 = 30 from rfl) (fun pc hpc => ?_)
  exact x_oksat v_43_0 (by omega) (by omega)
theorem vm_44 : x_okm (x_mt 44) = true := by
  refine x_oksum (show (x_mt 44).2.2.2.2.2.2.2.1.2.2.2.2 = 32 from rfl) (fun pc hpc => ?_)
  exact x_oksat v_44_0 (by omega) (by omega)
theorem vm_45 : x_okm (x_mt 45) = true := by
  refine x_oksum (show (x_mt 45).2.2.2.2.2.2.2.1.2.2.2.2 = 155 from rfl) (fun pc hpc => ?_)
  by_cases h0 : pc < 60
  · exact x_oksat v_45_0 (by omega) (by omega)
  by_cases h1 : pc < 120
  · exact x_oksat v_45_60 (by omega) (by omega)
  exact x_oksat v_45_120 (by omega) (by omega)
theorem vm_46 : x_okm (x_mt 46) = true := by
  refine x_oksum (show (x_mt 46).2.2.2.2.2.2.2.1.2.2.2.2 = 123 from rfl) (fun pc hpc => ?_)
  by_cases h0 : pc < 60
  · exact x_oksat v_46_0 (by omega) (by omega)
  by_cases h1 : pc < 120
  · exact x_oksat v_46_60 (by omega) (by omega)
  exact x_oksat v_46_120 (by omega) (by omega)
theorem vm_47 : x_okm (x_mt 47) = true := by
  refine x_oksum (show (x_mt 47).2.2.2.2.2.2.2.1.2.2.2.2 = 83 from rfl) (fun pc hpc => ?_)
  by_cases h0 : pc < 60
  · exact x_oksat v_47_0 (by omega) (by omega)
  exact x_oksat v_47_60 (by omega) (by omega)
theorem vm_48 : x_okm (x_mt 48) = true := by
  refine x_oksum (show (x_mt 48).2.2.2.2.2.2.2.1.2.2.2.2 = 142 from rfl) (fun pc hpc => ?_)
  by_cases h0 : pc < 60
  · exact x_oksat v_48_0 (by omega) (by omega)
  by_cases h1 : pc < 120
  · exact x_oksat v_48_60 (by omega) (by omega)
  exact x_oksat v_48_120 (by omega) (by omega)
theorem vm_49 : x_okm (x_mt 49) = true := by
  refine x_oksum (show (x_mt 49).2.2.2.2.2.2.2.1.2.2.2.2 = 75 from rfl) (fun pc hpc => ?_)
  by_cases h0 : pc < 60
  · exact x_oksat v_49_0 (by omega) (by omega)
  exact x_oksat v_49_60 (by omega) (by omega)
theorem vm_50 : x_okm (x_mt 50) = true := by
  refine x_oksum (show (x_mt 50).2.2.2.2.2.2.2.1.2.2.2.2 = 66 from rfl) (fun pc hpc => ?_)
  by_cases h0 : pc < 60
  · exact x_oksat v_50_0 (by omega) (by omega)
  exact x_oksat v_50_60 (by omega) (by omega)
theorem vm_51 : x_okm (x_mt 51) = true := by
  refine x_oksum (show (x_mt 51).2.2.2.2.2.2.2.1.2.2.2.2 = 113 from rfl) (fun pc hpc => ?_)
  by_cases h0 : pc < 60
  · exact x_oksat v_51_0 (by omega) (by omega)
  exact x_oksat v_51_60 (by omega) (by omega)
theorem vm_52 : x_okm (x_mt 52) = true := by
  refine x_oksum (show (x_mt 52).2.2.2.2.2.2.2.1.2.2.2.2 = 97 from rfl) (fun pc hpc => ?_)
  by_cases h0 : pc < 60
  · exact x_oksat v_52_0 (by omega) (by omega)
  exact x_oksat v_52_60 (by omega) (by omega)
theorem vm_53 : x_okm (x_mt 53) = true := by
  refine x_oksum (show (x_mt 53).2.2.2.2.2.2.2.1.2.2.2.2 = 50 from rfl) (fun pc hpc => ?_)
  exact x_oksat v_53_0 (by omega) (by omega)
theorem vm_54 : x_okm (x_mt 54) = true := by
  refine x_oksum (show (x_mt 54).2.2.2.2.2.2.2.1.2.2.2.2 = 151 from rfl) (fun pc hpc => ?_)
  by_cases h0 : pc < 60
  · exact x_oksat v_54_0 (by omega) (by omega)
  by_cases h1 : pc < 120
  · exact x_oksat v_54_60 (by omega) (by omega)
  exact x_oksat v_54_120 (by omega) (by omega)
theorem vm_55 : x_okm (x_mt 55) = true := by
  refine x_oksum (show (x_mt 55).2.2.2.2.2.2.2.1.2.2.2.2 = 118 from rfl) (fun pc hpc => ?_)
  by_cases h0 : pc < 60
  · exact x_oksat v_55_0 (by omega) (by omega)
  exact x_oksat v_55_60 (by omega) (by omega)
theorem vm_56 : x_okm (x_mt 56) = true := by
  refine x_oksum (show (x_mt 56).2.2.2.2.2.2.2.1.2.2.2.2 = 54 from rfl) (fun pc hpc => ?_)
  exact x_oksat v_56_0 (by omega) (by omega)
theorem vm_57 : x_okm (x_mt 57) = true := by
  refine x_oksum (show (x_mt 57).2.2.2.2.2.2.2.1.2.2.2.2 = 75 from rfl) (fun pc hpc => ?_)
  by_cases h0 : pc < 60
  · exact x_oksat v_57_0 (by omega) (by omega)
  exact x_oksat v_57_60 (by omega) (by omega)
theorem vm_58 : x_okm (x_mt 58) = true := by
  refine x_oksum (show (x_mt 58).2.2.2.2.2.2.2.1.2.2.2.2 = 30 from rfl) (fun pc hpc => ?_)
  exact x_oksat v_58_0 (by omega) (by omega)
theorem vm_59 : x_okm (x_mt 59) = true := by
  refine x_oksum (show (x_mt 59).2.2.2.2.2.2.2.1.2.2.2.2 = 21 from rfl) (fun pc hpc => ?_)
  exact x_oksat v_59_0 (by omega) (by omega)
theorem vm_60 : x_okm (x_mt 60) = true := by
  refine x_oksum (show (x_mt 60).2.2.2.2.2.2.2.1.2.2.2.2 = 35 from rfl) (fun pc hpc => ?_)
  exact x_oksat v_60_0 (by omega) (by omega)
theorem vm_61 : x_okm (x_mt 61) = true := by
  refine x_oksum (show (x_mt 61).2.2.2.2.2.2.2.1.2.2.2.2 = 13 from rfl) (fun pc hpc => ?_)
  exact x_oksat v_61_0 (by omega) (by omega)
theorem vm_62 : x_okm (x_mt 62) = true := by
  refine x_oksum (show (x_mt 62).2.2.2.2.2.2.2.1.2.2.2.2 = 32 from rfl) (fun pc hpc => ?_)
  exact x_oksat v_62_0 (by omega) (by omega)
theorem vm_63 : x_okm (x_mt 63) = true := by
  refine x_oksum (show (x_mt 63).2.2.2.2.2.2.2.1.2.2.2.2 = 15 from rfl) (fun pc hpc => ?_)
  exact x_oksat v_63_0 (by omega) (by omega)
theorem vm_64 : x_okm (x_mt 64) = true := by
  refine x_oksum (show (x_mt 64).2.2.2.2.2.2.2.1.2.2.2.2 = 17 from rfl) (fun pc hpc => ?_)
  exact x_oksat v_64_0 (by omega) (by omega)
theorem vm_65 : x_okm (x_mt 65) = true := by
  refine x_oksum (show (x_mt 65).2.2.2.2.2.2.2.1.2.2.2.2 = 34 from rfl) (fun pc hpc => ?_)
  exact x_oksat v_65_0 (by omega) (by omega)
theorem vm_66 : x_okm (x_mt 66) = true := by
  refine x_oksum (show (x_mt 66).2.2.2.2.2.2.2.1.2.2.2.2 = 32 from rfl) (fun pc hpc => ?_)
  exact x_oksat v_66_0 (by omega) (by omega)
theorem vm_67 : x_okm (x_mt 67) = true := by
  refine x_oksum (show (x_mt 67).2.2.2.2.2.2.2.1.2.2.2.2 = 51 from rfl) (fun pc hpc => ?_)
  exact x_oksat v_67_0 (by omega) (by omega)
theorem vm_68 : x_okm (x_mt 68) = true := by
  refine x_oksum (show (x_mt 68).2.2.2.2.2.2.2.1.2.2.2.2 = 23 from rfl) (fun pc hpc => ?_)
  exact x_oksat v_68_0 (by omega) (by omega)
theorem vm_69 : x_okm (x_mt 69) = true := by
  refine x_oksum (show (x_mt 69).2.2.2.2.2.2.2.1.2.2.2.2 = 25 from rfl) (fun pc hpc => ?_)
  exact x_oksat v_69_0 (by omega) (by omega)
theorem vm_70 : x_okm (x_mt 70) = true := by
  refine x_oksum (show (x_mt 70).2.2.2.2.2.2.2.1.2.2.2.2 = 11 from rfl) (fun pc hpc => ?_)
  exact x_oksat v_70_0 (by omega) (by omega)
theorem vm_71 : x_okm (x_mt 71) = true := by
  refine x_oksum (show (x_mt 71).2.2.2.2.2.2.2.1.2.2.2.2 = 27 from rfl) (fun pc hpc => ?_)
  exact x_oksat v_71_0 (by omega) (by omega)
theorem vm_72 : x_okm (x_mt 72) = true := by
  refine x_oksum (show (x_mt 72).2.2.2.2.2.2.2.1.2.2.2.2 = 55 from rfl) (fun pc hpc => ?_)
  exact x_oksat v_72_0 (by omega) (by omega)
theorem vm_73 : x_okm (x_mt 73) = true := by
  refine x_oksum (show (x_mt 73).2.2.2.2.2.2.2.1.2.2.2.2 = 47 from rfl) (fun pc hpc => ?_)
  exact x_oksat v_73_0 (by omega) (by omega)
theorem vm_74 : x_okm (x_mt 74) = true := by
  refine x_oksum (show (x_mt 74).2.2.2.2.2.2.2.1.2.2.2.2 = 46 from rfl) (fun pc hpc => ?_)
  exact x_oksat v_74_0 (by omega) (by omega)
theorem vm_75 : x_okm (x_mt 75) = true := by
  refine x_oksum (show (x_mt 75).2.2.2.2.2.2.2.1.2.2.2.2 = 21 from rfl) (fun pc hpc => ?_)
  exact x_oksat v_75_0 (by omega) (by omega)
theorem vm_76 : x_okm (x_mt 76) = true := by
  refine x_oksum (show (x_mt 76).2.2.2.2.2.2.2.1.2.2.2.2 = 25 from rfl) (fun pc hpc => ?_)
  exact x_oksat v_76_0 (by omega) (by omega)
theorem vm_77 : x_okm (x_mt 77) = true := by
  refine x_oksum (show (x_mt 77).2.2.2.2.2.2.2.1.2.2.2.2 = 30 from rfl) (fun pc hpc => ?_)
  exact x_oksat v_77_0 (by omega) (by omega)
theorem vm_78 : x_okm (x_mt 78) = true := by
  refine x_oksum (show (x_mt 78).2.2.2.2.2.2.2.1.2.2.2.2 = 38 from rfl) (fun pc hpc => ?_)
  exact x_oksat v_78_0 (by omega) (by omega)
theorem vm_79 : x_okm (x_mt 79) = true := by
  refine x_oksum (show (x_mt 79).2.2.2.2.2.2.2.1.2.2.2.2 = 32 from rfl) (fun pc hpc => ?_)
  exact x_oksat v_79_0 (by omega) (by omega)
theorem vm_80 : x_okm (x_mt 80) = true := by
  refine x_oksum (show (x_mt 80).2.2.2.2.2.2.2.1.2.2.2.2 = 13 from rfl) (fun pc hpc => ?_)
  exact x_oksat v_80_0 (by omega) (by omega)
theorem vm_81 : x_okm (x_mt 81) = true := by
  refine x_oksum (show (x_mt 81).2.2.2.2.2.2.2.1.2.2.2.2 = 43 from rfl) (fun pc hpc => ?_)
  exact x_oksat v_81_0 (by omega) (by omega)
theorem vm_82 : x_okm (x_mt 82) = true := by
  refine x_oksum (show (x_mt 82).2.2.2.2.2.2.2.1.2.2.2.2 = 13 from rfl) (fun pc hpc => ?_)
  exact x_oksat v_82_0 (by omega) (by omega)
theorem vm_83 : x_okm (x_mt 83) = true := by
  refine x_oksum (show (x_mt 83).2.2.2.2.2.2.2.1.2.2.2.2 = 35 from rfl) (fun pc hpc => ?_)
  exact x_oksat v_83_0 (by omega) (by omega)
theorem vm_84 : x_okm (x_mt 84) = true := by
  refine x_oksum (show (x_mt 84).2.2.2.2.2.2.2.1.2.2.2.2 = 14 from rfl) (fun pc hpc => ?_)
  exact x_oksat v_84_0 (by omega) (by omega)
theorem vm_85 : x_okm (x_mt 85) = true := by
  refine x_oksum (show (x_mt 85).2.2.2.2.2.2.2.1.2.2.2.2 = 31 from rfl) (fun pc hpc => ?_)
  exact x_oksat v_85_0 (by omega) (by omega)
theorem vm_86 : x_okm (x_mt 86) = true := by
  refine x_oksum (show (x_mt 86).2.2.2.2.2.2.2.1.2.2.2.2 = 23 from rfl) (fun pc hpc => ?_)
  exact x_oksat v_86_0 (by omega) (by omega)
theorem vm_87 : x_okm (x_mt 87) = true := by
  refine x_oksum (show (x_mt 87).2.2.2.2.2.2.2.1.2.2.2.2 = 54 from rfl) (fun pc hpc => ?_)
  exact x_oksat v_87_0 (by omega) (by omega)
theorem vm_88 : x_okm (x_mt 88) = true := by
  refine x_oksum (show (x_mt 88).2.2.2.2.2.2.2.1.2.2.2.2 = 17 from rfl) (fun pc hpc => ?_)
  exact x_oksat v_88_0 (by omega) (by omega)
theorem vm_89 : x_okm (x_mt 89) = true := by
  refine x_oksum (show (x_mt 89).2.2.2.2.2.2.2.1.2.2.2.2 = 58 from rfl) (fun pc hpc => ?_)
  exact x_oksat v_89_0 (by omega) (by omega)
theorem vm_90 : x_okm (x_mt 90) = true := by
  refine x_oksum (show (x_mt 90).2.2.2.2.2.2.2.1.2.2.2.2 = 21 from rfl) (fun pc hpc => ?_)
  exact x_oksat v_90_0 (by omega) (by omega)
theorem vm_91 : x_okm (x_mt 91) = true := by
  refine x_oksum (show (x_mt 91).2.2.2.2.2.2.2.1.2.2.2.2 = 83 from rfl) (fun pc hpc => ?_)
  by_cases h0 : pc < 60
  · exact x_oksat v_91_0 (by omega) (by omega)
  exact x_oksat v_91_60 (by omega) (by omega)
theorem vm_92 : x_okm (x_mt 92) = true := by
  refine x_oksum (show (x_mt 92).2.2.2.2.2.2.2.1.2.2.2.2 = 29 from rfl) (fun pc hpc => ?_)
  exact x_oksat v_92_0 (by omega) (by omega)
theorem vm_93 : x_okm (x_mt 93) = true := by
  refine x_oksum (show (x_mt 93).2.2.2.2.2.2.2.1.2.2.2.2 = 15 from rfl) (fun pc hpc => ?_)
  exact x_oksat v_93_0 (by omega) (by omega)
theorem vm_94 : x_okm (x_mt 94) = true := by
  refine x_oksum (show (x_mt 94).2.2.2.2.2.2.2.1.2.2.2.2 = 14 from rfl) (fun pc hpc => ?_)
  exact x_oksat v_94_0 (by omega) (by omega)
theorem vm_95 : x_okm (x_mt 95) = true := by
  refine x_oksum (show (x_mt 95).2.2.2.2.2.2.2.1.2.2.2.2 = 36 from rfl) (fun pc hpc => ?_)
  exact x_oksat v_95_0 (by omega) (by omega)
theorem vm_96 : x_okm (x_mt 96) = true := by
  refine x_oksum (show (x_mt 96).2.2.2.2.2.2.2.1.2.2.2.2 = 44 from rfl) (fun pc hpc => ?_)
  exact x_oksat v_96_0 (by omega) (by omega)
theorem vm_97 : x_okm (x_mt 97) = true := by
  refine x_oksum (show (x_mt 97).2.2.2.2.2.2.2.1.2.2.2.2 = 65 from rfl) (fun pc hpc => ?_)
  by_cases h0 : pc < 60
  · exact x_oksat v_97_0 (by omega) (by omega)
  exact x_oksat v_97_60 (by omega) (by omega)
theorem vm_98 : x_okm (x_mt 98) = true := by
  refine x_oksum (show (x_mt 98).2.2.2.2.2.2.2.1.2.2.2.2 = 21 from rfl) (fun pc hpc => ?_)
  exact x_oksat v_98_0 (by omega) (by omega)
theorem vm_99 : x_okm (x_mt 99) = true := by
  refine x_oksum (show (x_mt 99).2.2.2.2.2.2.2.1.2.2.2.2 = 8 from rfl) (fun pc hpc => ?_)
  exact x_oksat v_99_0 (by omega) (by omega)
theorem vm_100 : x_okm (x_mt 100) = true := by
  refine x_oksum (show (x_mt 100).2.2.2.2.2.2.2.1.2.2.2.2 = 30 from rfl) (fun pc hpc => ?_)
  exact x_oksat v_100_0 (by omega) (by omega)
theorem vm_101 : x_okm (x_mt 101) = true := by
  refine x_oksum (show (x_mt 101).2.2.2.2.2.2.2.1.2.2.2.2 = 87 from rfl) (fun pc hpc => ?_)
  by_cases h0 : pc < 60
  · exact x_oksat v_101_0 (by omega) (by omega)
  exact x_oksat v_101_60 (by omega) (by omega)
theorem vm_102 : x_okm (x_mt 102) = true := by
  refine x_oksum (show (x_mt 102).2.2.2.2.2.2.2.1.2.2.2.2 = 155 from rfl) (fun pc hpc => ?_)
  by_cases h0 : pc < 60
  · exact x_oksat v_102_0 (by omega) (by omega)
  by_cases h1 : pc < 120
  · exact x_oksat v_102_60 (by omega) (by omega)
  exact x_oksat v_102_120 (by omega) (by omega)
theorem vm_103 : x_okm (x_mt 103) = true := by
  refine x_oksum (show (x_mt 103).2.2.2.2.2.2.2.1.2.2.2.2 = 54 from rfl) (fun pc hpc => ?_)
  exact x_oksat v_103_0 (by omega) (by omega)
theorem vm_104 : x_okm (x_mt 104) = true := by
  refine x_oksum (show (x_mt 104).2.2.2.2.2.2.2.1.2.2.2.2 = 42 from rfl) (fun pc hpc => ?_)
  exact x_oksat v_104_0 (by omega) (by omega)
theorem vm_105 : x_okm (x_mt 105) = true := by
  refine x_oksum (show (x_mt 105).2.2.2.2.2.2.2.1.2.2.2.2 = 49 from rfl) (fun pc hpc => ?_)
  exact x_oksat v_105_0 (by omega) (by omega)
theorem vm_106 : x_okm (x_mt 106) = true := by
  refine x_oksum (show (x_mt 106).2.2.2.2.2.2.2.1.2.2.2.2 = 56 from rfl) (fun pc hpc => ?_)
  exact x_oksat v_106_0 (by omega) (by omega)
theorem vm_107 : x_okm (x_mt 107) = true := by
  refine x_oksum (show (x_mt 107).2.2.2.2.2.2.2.1.2.2.2.2 = 146 from rfl) (fun pc hpc => ?_)
  by_cases h0 : pc < 60
  · exact x_oksat v_107_0 (by omega) (by omega)
  by_cases h1 : pc < 120
  · exact x_oksat v_107_60 (by omega) (by omega)
  exact x_oksat v_107_120 (by omega) (by omega)
theorem vm_108 : x_okm (x_mt 108) = true := by
  refine x_oksum (show (x_mt 108).2.2.2.2.2.2.2.1.2.2.2.2 = 36 from rfl) (fun pc hpc => ?_)
  exact x_oksat v_108_0 (by omega) (by omega)
theorem vm_109 : x_okm (x_mt 109) = true := by
  refine x_oksum (show (x_mt 109).2.2.2.2.2.2.2.1.2.2.2.2 = 111 from rfl) (fun pc hpc => ?_)
  by_cases h0 : pc < 60
  · exact x_oksat v_109_0 (by omega) (by omega)
  exact x_oksat v_109_60 (by omega) (by omega)
theorem vm_110 : x_okm (x_mt 110) = true := by
  refine x_oksum (show (x_mt 110).2.2.2.2.2.2.2.1.2.2.2.2 = 65 from rfl) (fun pc hpc => ?_)
  by_cases h0 : pc < 60
  · exact x_oksat v_110_0 (by omega) (by omega)
  exact x_oksat v_110_60 (by omega) (by omega)
theorem vm_111 : x_okm (x_mt 111) = true := by
  refine x_oksum (show (x_mt 111).2.2.2.2.2.2.2.1.2.2.2.2 = 83 from rfl) (fun pc hpc => ?_)
  by_cases h0 : pc < 60
  · exact x_oksat v_111_0 (by omega) (by omega)
  exact x_oksat v_111_60 (by omega) (by omega)
theorem vm_112 : x_okm (x_mt 112) = true := by
  refine x_oksum (show (x_mt 112).2.2.2.2.2.2.2.1.2.2.2.2 = 88 from rfl) (fun pc hpc => ?_)
  by_cases h0 : pc < 60
  · exact x_oksat v_112_0 (by omega) (by omega)
  exact x_oksat v_112_60 (by omega) (by omega)
theorem vm_113 : x_okm (x_mt 113) = true := by
  refine x_oksum (show (x_mt 113).2.2.2.2.2.2.2.1.2.2.2.2 = 64 from rfl) (fun pc hpc => ?_)
  by_cases h0 : pc < 60
  · exact x_oksat v_113_0 (by omega) (by omega)
  exact x_oksat v_113_60 (by omega) (by omega)
theorem vm_114 : x_okm (x_mt 114) = true := by
  refine x_oksum (show (x_mt 114).2.2.2.2.2.2.2.1.2.2.2.2 = 75 from rfl) (fun pc hpc => ?_)
  by_cases h0 : pc < 60
  · exact x_oksat v_114_0 (by omega) (by omega)
  exact x_oksat v_114_60 (by omega) (by omega)
theorem vm_115 : x_okm (x_mt 115) = true := by
  refine x_oksum (show (x_mt 115).2.2.2.2.2.2.2.1.2.2.2.2 = 51 from rfl) (fun pc hpc => ?_)
  exact x_oksat v_115_0 (by omega) (by omega)
theorem vm_116 : x_okm (x_mt 116) = true := by
  refine x_oksum (show (x_mt 116).2.2.2.2.2.2.2.1.2.2.2.2 = 48 from rfl) (fun pc hpc => ?_)
  exact x_oksat v_116_0 (by omega) (by omega)
theorem vm_117 : x_okm (x_mt 117) = true := by
  refine x_oksum (show (x_mt 117).2.2.2.2.2.2.2.1.2.2.2.2 = 107 from rfl) (fun pc hpc => ?_)
  by_cases h0 : pc < 60
  · exact x_oksat v_117_0 (by omega) (by omega)
  exact x_oksat v_117_60 (by omega) (by omega)
theorem vm_118 : x_okm (x_mt 118) = true := by
  refine x_oksum (show (x_mt 118).2.2.2.2.2.2.2.1.2.2.2.2 = 46 from rfl) (fun pc hpc => ?_)
  exact x_oksat v_118_0 (by omega) (by omega)
theorem vm_119 : x_okm (x_mt 119) = true := by
  refine x_oksum (show (x_mt 119).2.2.2.2.2.2.2.1.2.2.2.2 = 55 from rfl) (fun pc hpc => ?_)
  exact x_oksat v_119_0 (by omega) (by omega)
theorem vm_120 : x_okm (x_mt 120) = true := by
  refine x_oksum (show (x_mt 120).2.2.2.2.2.2.2.1.2.2.2.2 = 9 from rfl) (fun pc hpc => ?_)
  exact x_oksat v_120_0 (by omega) (by omega)
theorem vm_121 : x_okm (x_mt 121) = true := by
  refine x_oksum (show (x_mt 121).2.2.2.2.2.2.2.1.2.2.2.2 = 10 from rfl) (fun pc hpc => ?_)
  exact x_oksat v_121_0 (by omega) (by omega)
theorem vm_122 : x_okm (x_mt 122) = true := by
  refine x_oksum (show (x_mt 122).2.2.2.2.2.2.2.1.2.2.2.2 = 24 from rfl) (fun pc hpc => ?_)
  exact x_oksat v_122_0 (by omega) (by omega)
theorem vm_123 : x_okm (x_mt 123) = true := by
  refine x_oksum (show (x_mt 123).2.2.2.2.2.2.2.1.2.2.2.2 = 51 from rfl) (fun pc hpc => ?_)
  exact x_oksat v_123_0 (by omega) (by omega)
theorem vm_124 : x_okm (x_mt 124) = true := by
  refine x_oksum (show (x_mt 124).2.2.2.2.2.2.2.1.2.2.2.2 = 47 from rfl) (fun pc hpc => ?_)
  exact x_oksat v_124_0 (by omega) (by omega)
theorem vm_125 : x_okm (x_mt 125) = true := by
  refine x_oksum (show (x_mt 125).2.2.2.2.2.2.2.1.2.2.2.2 = 39 from rfl) (fun pc hpc => ?_)
  exact x_oksat v_125_0 (by omega) (by omega)
theorem vm_126 : x_okm (x_mt 126) = true := by
  refine x_oksum (show (x_mt 126).2.2.2.2.2.2.2.1.2.2.2.2 = 32 from rfl) (fun pc hpc => ?_)
  exact x_oksat v_126_0 (by omega) (by omega)
theorem vm_127 : x_okm (x_mt 127) = true := by
  refine x_oksum (show (x_mt 127).2.2.2.2.2.2.2.1.2.2.2.2 = 24 from rfl) (fun pc hpc => ?_)
  exact x_oksat v_127_0 (by omega) (by omega)
theorem vm_128 : x_okm (x_mt 128) = true := by
  refine x_oksum (show (x_mt 128).2.2.2.2.2.2.2.1.2.2.2.2 = 41 from rfl) (fun pc hpc => ?_)
  exact x_oksat v_128_0 (by omega) (by omega)
theorem vm_129 : x_okm (x_mt 129) = true := by
  refine x_oksum (show (x_mt 129).2.2.2.2.2.2.2.1.2.2.2.2 = 26 from rfl) (fun pc hpc => ?_)
  exact x_oksat v_129_0 (by omega) (by omega)
theorem vm_130 : x_okm (x_mt 130) = true := by
  refine x_oksum (show (x_mt 130).2.2.2.2.2.2.2.1.2.2.2.2 = 117 from rfl) (fun pc hpc => ?_)
  by_cases h0 : pc < 60
  · exact x_oksat v_130_0 (by omega) (by omega)
  exact x_oksat v_130_60 (by omega) (by omega)
theorem vm_131 : x_okm (x_mt 131) = true := by
  refine x_oksum (show (x_mt 131).2.2.2.2.2.2.2.1.2.2.2.2 = 66 from rfl) (fun pc hpc => ?_)
  by_cases h0 : pc < 60
  · exact x_oksat v_131_0 (by omega) (by omega)
  exact x_oksat v_131_60 (by omega) (by omega)
theorem vm_132 : x_okm (x_mt 132) = true := by
  refine x_oksum (show (x_mt 132).2.2.2.2.2.2.2.1.2.2.2.2 = 72 from rfl) (fun pc hpc => ?_)
  by_cases h0 : pc < 60
  · exact x_oksat v_132_0 (by omega) (by omega)
  exact x_oksat v_132_60 (by omega) (by omega)
theorem vm_133 : x_okm (x_mt 133) = true := by
  refine x_oksum (show (x_mt 133).2.2.2.2.2.2.2.1.2.2.2.2 = 76 from rfl) (fun pc hpc => ?_)
  by_cases h0 : pc < 60
  · exact x_oksat v_133_0 (by omega) (by omega)
  exact x_oksat v_133_60 (by omega) (by omega)
theorem vm_134 : x_okm (x_mt 134) = true := by
  refine x_oksum (show (x_mt 134).2.2.2.2.2.2.2.1.2.2.2.2 = 46 from rfl) (fun pc hpc => ?_)
  exact x_oksat v_134_0 (by omega) (by omega)
theorem vm_135 : x_okm (x_mt 135) = true := by
  refine x_oksum (show (x_mt 135).2.2.2.2.2.2.2.1.2.2.2.2 = 82 from rfl) (fun pc hpc => ?_)
  by_cases h0 : pc < 60
  · exact x_oksat v_135_0 (by omega) (by omega)
  exact x_oksat v_135_60 (by omega) (by omega)
theorem vm_136 : x_okm (x_mt 136) = true := by
  refine x_oksum (show (x_mt 136).2.2.2.2.2.2.2.1.2.2.2.2 = 35 from rfl) (fun pc hpc => ?_)
  exact x_oksat v_136_0 (by omega) (by omega)
theorem vm_137 : x_okm (x_mt 137) = true := by
  refine x_oksum (show (x_mt 137).2.2.2.2.2.2.2.1.2.2.2.2 = 97 from rfl) (fun pc hpc => ?_)
  by_cases h0 : pc < 60
  · exact x_oksat v_137_0 (by omega) (by omega)
  exact x_oksat v_137_60 (by omega) (by omega)
theorem vm_138 : x_okm (x_mt 138) = true := by
  refine x_oksum (show (x_mt 138).2.2.2.2.2.2.2.1.2.2.2.2 = 78 from rfl) (fun pc hpc => ?_)
  by_cases h0 : pc < 60
  · exact x_oksat v_138_0 (by omega) (by omega)
  exact x_oksat v_138_60 (by omega) (by omega)
theorem vm_139 : x_okm (x_mt 139) = true := by
  refine x_oksum (show (x_mt 139).2.2.2.2.2.2.2.1.2.2.2.2 = 25 from rfl) (fun pc hpc => ?_)
  exact x_oksat v_139_0 (by omega) (by omega)
theorem vm_140 : x_okm (x_mt 140) = true := by
  refine x_oksum (show (x_mt 140).2.2.2.2.2.2.2.1.2.2.2.2 = 582 from rfl) (fun pc hpc => ?_)
  by_cases h0 : pc < 60
  · exact x_oksat v_140_0 (by omega) (by omega)
  by_cases h1 : pc < 120
  · exact x_oksat v_140_60 (by omega) (by omega)
  by_cases h2 : pc < 180
  · exact x_oksat v_140_120 (by omega) (by omega)
  by_cases h3 : pc < 240
  · exact x_oksat v_140_180 (by omega) (by omega)
  by_cases h4 : pc < 300
  · exact x_oksat v_140_240 (by omega) (by omega)
  by_cases h5 : pc < 360
  · exact x_oksat v_140_300 (by omega) (by omega)
  by_cases h6 : pc < 420
  · exact x_oksat v_140_360 (by omega) (by omega)
  by_cases h7 : pc < 480
  · exact x_oksat v_140_420 (by omega) (by omega)
  by_cases h8 : pc < 540
  · exact x_oksat v_140_480 (by omega) (by omega)
  exact x_oksat v_140_540 (by omega) (by omega)
theorem vm_141 : x_okm (x_mt 141) = true := by
  refine x_oksum (show (x_mt 141).2.2.2.2.2.2.2.1.2.2.2.2 = 31 from rfl) (fun pc hpc => ?_)
  exact x_oksat v_141_0 (by omega) (by omega)
theorem vm_142 : x_okm (x_mt 142) = true := by
  refine x_oksum (show (x_mt 142).2.2.2.2.2.2.2.1.2.2.2.2 = 20 from rfl) (fun pc hpc => ?_)
  exact x_oksat v_142_0 (by omega) (by omega)
theorem vm_143 : x_okm (x_mt 143) = true := by
  refine x_oksum (show (x_mt 143).2.2.2.2.2.2.2.1.2.2.2.2 = 34 from rfl) (fun pc hpc => ?_)
  exact x_oksat v_143_0 (by omega) (by omega)
theorem vm_144 : x_okm (x_mt 144) = true := by
  refine x_oksum (show (x_mt 144).2.2.2.2.2.2.2.1.2.2.2.2 = 17 from rfl) (fun pc hpc => ?_)
  exact x_oksat v_144_0 (by omega) (by omega)
theorem vm_145 : x_okm (x_mt 145) = true := by
  refine x_oksum (show (x_mt 145).2.2.2.2.2.2.2.1.2.2.2.2 = 43 from rfl) (fun pc hpc => ?_)
  exact x_oksat v_145_0 (by omega) (by omega)
theorem vm_146 : x_okm (x_mt 146) = true := by
  refine x_oksum (show (x_mt 146).2.2.2.2.2.2.2.1.2.2.2.2 = 94 from rfl) (fun pc hpc => ?_)
  by_cases h0 : pc < 60
  · exact x_oksat v_146_0 (by omega) (by omega)
  exact x_oksat v_146_60 (by omega) (by omega)
theorem vm_147 : x_okm (x_mt 147) = true := by
  refine x_oksum (show (x_mt 147).2.2.2.2.2.2.2.1.2.2.2.2 = 12 from rfl) (fun pc hpc => ?_)
  exact x_oksat v_147_0 (by omega) (by omega)
theorem vm_148 : x_okm (x_mt 148) = true := by
  refine x_oksum (show (x_mt 148).2.2.2.2.2.2.2.1.2.2.2.2 = 55 from rfl) (fun pc hpc => ?_)
  exact x_oksat v_148_0 (by omega) (by omega)
theorem vm_149 : x_okm (x_mt 149) = true := by
  refine x_oksum (show (x_mt 149).2.2.2.2.2.2.2.1.2.2.2.2 = 57 from rfl) (fun pc hpc => ?_)
  exact x_oksat v_149_0 (by omega) (by omega)
theorem vm_150 : x_okm (x_mt 150) = true := by
  refine x_oksum (show (x_mt 150).2.2.2.2.2.2.2.1.2.2.2.2 = 17 from rfl) (fun pc hpc => ?_)
  exact x_oksat v_150_0 (by omega) (by omega)
theorem vm_151 : x_okm (x_mt 151) = true := by
  refine x_oksum (show (x_mt 151).2.2.2.2.2.2.2.1.2.2.2.2 = 12 from rfl) (fun pc hpc => ?_)
  exact x_oksat v_151_0 (by omega) (by omega)
theorem vm_152 : x_okm (x_mt 152) = true := by
  refine x_oksum (show (x_mt 152).2.2.2.2.2.2.2.1.2.2.2.2 = 183 from rfl) (fun pc hpc => ?_)
  by_cases h0 : pc < 60
  · exact x_oksat v_152_0 (by omega) (by omega)
  by_cases h1 : pc < 120
  · exact x_oksat v_152_60 (by omega) (by omega)
  by_cases h2 : pc < 180
  · exact x_oksat v_152_120 (by omega) (by omega)
  exact x_oksat v_152_180 (by omega) (by omega)
theorem vm_153 : x_okm (x_mt 153) = true := by
  refine x_oksum (show (x_mt 153).2.2.2.2.2.2.2.1.2.2.2.2 = 105 from rfl) (fun pc hpc => ?_)
  by_cases h0 : pc < 60
  · exact x_oksat v_153_0 (by omega) (by omega)
  exact x_oksat v_153_60 (by omega) (by omega)
theorem vm_154 : x_okm (x_mt 154) = true := by
  refine x_oksum (show (x_mt 154).2.2.2.2.2.2.2.1.2.2.2.2 = 403 from rfl) (fun pc hpc => ?_)
  by_cases h0 : pc < 60
  · exact x_oksat v_154_0 (by omega) (by omega)
  by_cases h1 : pc < 120
  · exact x_oksat v_154_60 (by omega) (by omega)
  by_cases h2 : pc < 180
  · exact x_oksat v_154_120 (by omega) (by omega)
  by_cases h3 : pc < 240
  · exact x_oksat v_154_180 (by omega) (by omega)
  by_cases h4 : pc < 300
  · exact x_oksat v_154_240 (by omega) (by omega)
  by_cases h5 : pc < 360
  · exact x_oksat v_154_300 (by omega) (by omega)
  exact x_oksat v_154_360 (by omega) (by omega)
theorem vm_155 : x_okm (x_mt 155) = true := by
  refine x_oksum (show (x_mt 155).2.2.2.2.2.2.2.1.2.2.2.2 = 18 from rfl) (fun pc hpc => ?_)
  exact x_oksat v_155_0 (by omega) (by omega)
theorem vm_156 : x_okm (x_mt 156) = true := by
  refine x_oksum (show (x_mt 156).2.2.2.2.2.2.2.1.2.2.2.2 = 36 from rfl) (fun pc hpc => ?_)
  exact x_oksat v_156_0 (by omega) (by omega)
theorem vm_157 : x_okm (x_mt 157) = true := by
  refine x_oksum (show (x_mt 157).2.2.2.2.2.2.2.1.2.2.2.2 = 17 from rfl) (fun pc hpc => ?_)
  exact x_oksat v_157_0 (by omega) (by omega)
theorem vm_158 : x_okm (x_mt 158) = true := by
  refine x_oksum (show (x_mt 158).2.2.2.2.2.2.2.1.2.2.2.2 = 184 from rfl) (fun pc hpc => ?_)
  by_cases h0 : pc < 60
  · exact x_oksat v_158_0 (by omega) (by omega)
  by_cases h1 : pc < 120
  · exact x_oksat v_158_60 (by omega) (by omega)
  by_cases h2 : pc < 180
  · exact x_oksat v_158_120 (by omega) (by omega)
  exact x_oksat v_158_180 (by omega) (by omega)
theorem vm_159 : x_okm (x_mt 159) = true := by
  refine x_oksum (show (x_mt 159).2.2.2.2.2.2.2.1.2.2.2.2 = 26 from rfl) (fun pc hpc => ?_)
  exact x_oksat v_159_0 (by omega) (by omega)
theorem vm_160 : x_okm (x_mt 160) = true := by
  refine x_oksum (show (x_mt 160).2.2.2.2.2.2.2.1.2.2.2.2 = 236 from rfl) (fun pc hpc => ?_)
  by_cases h0 : pc < 60
  · exact x_oksat v_160_0 (by omega) (by omega)
  by_cases h1 : pc < 120
  · exact x_oksat v_160_60 (by omega) (by omega)
  by_cases h2 : pc < 180
  · exact x_oksat v_160_120 (by omega) (by omega)
  exact x_oksat v_160_180 (by omega) (by omega)
theorem vm_161 : x_okm (x_mt 161) = true := by
  refine x_oksum (show (x_mt 161).2.2.2.2.2.2.2.1.2.2.2.2 = 182 from rfl) (fun pc hpc => ?_)
  by_cases h0 : pc < 60
  · exact x_oksat v_161_0 (by omega) (by omega)
  by_cases h1 : pc < 120
  · exact x_oksat v_161_60 (by omega) (by omega)
  by_cases h2 : pc < 180
  · exact x_oksat v_161_120 (by omega) (by omega)
  exact x_oksat v_161_180 (by omega) (by omega)
theorem vm_162 : x_okm (x_mt 162) = true := by
  refine x_oksum (show (x_mt 162).2.2.2.2.2.2.2.1.2.2.2.2 = 294 from rfl) (fun pc hpc => ?_)
  by_cases h0 : pc < 60
  · exact x_oksat v_162_0 (by omega) (by omega)
  by_cases h1 : pc < 120
  · exact x_oksat v_162_60 (by omega) (by omega)
  by_cases h2 : pc < 180
  · exact x_oksat v_162_120 (by omega) (by omega)
  by_cases h3 : pc < 240
  · exact x_oksat v_162_180 (by omega) (by omega)
  exact x_oksat v_162_240 (by omega) (by omega)
theorem vm_163 : x_okm (x_mt 163) = true := by
  refine x_oksum (show (x_mt 163).2.2.2.2.2.2.2.1.2.2.2.2 = 118 from rfl) (fun pc hpc => ?_)
  by_cases h0 : pc < 60
  · exact x_oksat v_163_0 (by omega) (by omega)
  exact x_oksat v_163_60 (by omega) (by omega)
theorem vm_164 : x_okm (x_mt 164) = true := by
  refine x_oksum (show (x_mt 164).2.2.2.2.2.2.2.1.2.2.2.2 = 316 from rfl) (fun pc hpc => ?_)
  by_cases h0 : pc < 60
  · exact x_oksat v_164_0 (by omega) (by omega)
  by_cases h1 : pc < 120
  · exact x_oksat v_164_60 (by omega) (by omega)
  by_cases h2 : pc < 180
  · exact x_oksat v_164_120 (by omega) (by omega)
  by_cases h3 : pc < 240
  · exact x_oksat v_164_180 (by omega) (by omega)
  by_cases h4 : pc < 300
  · exact x_oksat v_164_240 (by omega) (by omega)
  exact x_oksat v_164_300 (by omega) (by omega)
theorem vm_165 : x_okm (x_mt 165) = true := by
  refine x_oksum (show (x_mt 165).2.2.2.2.2.2.2.1.2.2.2.2 = 163 from rfl) (fun pc hpc => ?_)
  by_cases h0 : pc < 60
  · exact x_oksat v_165_0 (by omega) (by omega)
  by_cases h1 : pc < 120
  · exact x_oksat v_165_60 (by omega) (by omega)
  exact x_oksat v_165_120 (by omega) (by omega)
theorem vm_166 : x_okm (x_mt 166) = true := by
  refine x_oksum (show (x_mt 166).2.2.2.2.2.2.2.1.2.2.2.2 = 75 from rfl) (fun pc hpc => ?_)
  by_cases h0 : pc < 60
  · exact x_oksat v_166_0 (by omega) (by omega)
  exact x_oksat v_166_60 (by omega) (by omega)
theorem vm_167 : x_okm (x_mt 167) = true := by
  refine x_oksum (show (x_mt 167).2.2.2.2.2.2.2.1.2.2.2.2 = 270 from rfl) (fun pc hpc => ?_)
  by_cases h0 : pc < 60
  · exact x_oksat v_167_0 (by omega) (by omega)
  by_cases h1 : pc < 120
  · exact x_oksat v_167_60 (by omega) (by omega)
  by_cases h2 : pc < 180
  · exact x_oksat v_167_120 (by omega) (by omega)
  by_cases h3 : pc < 240
  · exact x_oksat v_167_180 (by omega) (by omega)
  exact x_oksat v_167_240 (by omega) (by omega)
theorem vm_168 : x_okm (x_mt 168) = true := by
  refine x_oksum (show (x_mt 168).2.2.2.2.2.2.2.1.2.2.2.2 = 16 from rfl) (fun pc hpc => ?_)
  exact x_oksat v_168_0 (by omega) (by omega)
theorem vm_169 : x_okm (x_mt 169) = true := by
  refine x_oksum (show (x_mt 169).2.2.2.2.2.2.2.1.2.2.2.2 = 78 from rfl) (fun pc hpc => ?_)
  by_cases h0 : pc < 60
  · exact x_oksat v_169_0 (by omega) (by omega)
  exact x_oksat v_169_60 (by omega) (by omega)
theorem vm_170 : x_okm (x_mt 170) = true := by
  refine x_oksum (show (x_mt 170).2.2.2.2.2.2.2.1.2.2.2.2 = 213 from rfl) (fun pc hpc => ?_)
  by_cases h0 : pc < 60
  · exact x_oksat v_170_0 (by omega) (by omega)
  by_cases h1 : pc < 120
  · exact x_oksat v_170_60 (by omega) (by omega)
  by_cases h2 : pc < 180
  · exact x_oksat v_170_120 (by omega) (by omega)
  exact x_oksat v_170_180 (by omega) (by omega)
theorem vm_171 : x_okm (x_mt 171) = true := by
  refine x_oksum (show (x_mt 171).2.2.2.2.2.2.2.1.2.2.2.2 = 172 from rfl) (fun pc hpc => ?_)
  by_cases h0 : pc < 60
  · exact x_oksat v_171_0 (by omega) (by omega)
  by_cases h1 : pc < 120
  · exact x_oksat v_171_60 (by omega) (by omega)
  exact x_oksat v_171_120 (by omega) (by omega)
theorem vm_172 : x_okm (x_mt 172) = true := by
  refine x_oksum (show (x_mt 172).2.2.2.2.2.2.2.1.2.2.2.2 = 242 from rfl) (fun pc hpc => ?_)
  by_cases h0 : pc < 60
  · exact x_oksat v_172_0 (by omega) (by omega)
  by_cases h1 : pc < 120
  · exact x_oksat v_172_60 (by omega) (by omega)
  by_cases h2 : pc < 180
  · exact x_oksat v_172_120 (by omega) (by omega)
  by_cases h3 : pc < 240
  · exact x_oksat v_172_180 (by omega) (by omega)
  exact x_oksat v_172_240 (by omega) (by omega)
theorem vm_173 : x_okm (x_mt 173) = true := by
  refine x_oksum (show (x_mt 173).2.2.2.2.2.2.2.1.2.2.2.2 = 89 from rfl) (fun pc hpc => ?_)
  by_cases h0 : pc < 60
  · exact x_oksat v_173_0 (by omega) (by omega)
  exact x_oksat v_173_60 (by omega) (by omega)
theorem vm_174 : x_okm (x_mt 174) = true := by
  refine x_oksum (show (x_mt 174).2.2.2.2.2.2.2.1.2.2.2.2 = 13 from rfl) (fun pc hpc => ?_)
  exact x_oksat v_174_0 (by omega) (by omega)
theorem vm_175 : x_okm (x_mt 175) = true := by
  refine x_oksum (show (x_mt 175).2.2.2.2.2.2.2.1.2.2.2.2 = 55 from rfl) (fun pc hpc => ?_)
  exact x_oksat v_175_0 (by omega) (by omega)
theorem vm_176 : x_okm (x_mt 176) = true := by
  refine x_oksum (show (x_mt 176).2.2.2.2.2.2.2.1.2.2.2.2 = 87 from rfl) (fun pc hpc => ?_)
  by_cases h0 : pc < 60
  · exact x_oksat v_176_0 (by omega) (by omega)
  exact x_oksat v_176_60 (by omega) (by omega)
theorem vm_177 : x_okm (x_mt 177) = true := by
  refine x_oksum (show (x_mt 177).2.2.2.2.2.2.2.1.2.2.2.2 = 154 from rfl) (fun pc hpc => ?_)
  by_cases h0 : pc < 60
  · exact x_oksat v_177_0 (by omega) (by omega)
  by_cases h1 : pc < 120
  · exact x_oksat v_177_60 (by omega) (by omega)
  exact x_oksat v_177_120 (by omega) (by omega)
theorem vm_178 : x_okm (x_mt 178) = true := by
  refine x_oksum (show (x_mt 178).2.2.2.2.2.2.2.1.2.2.2.2 = 56 from rfl) (fun pc hpc => ?_)
  exact x_oksat v_178_0 (by omega) (by omega)
theorem vm_179 : x_okm (x_mt 179) = true := by
  refine x_oksum (show (x_mt 179).2.2.2.2.2.2.2.1.2.2.2.2 = 134 from rfl) (fun pc hpc => ?_)
  by_cases h0 : pc < 60
  · exact x_oksat v_179_0 (by omega) (by omega)
  by_cases h1 : pc < 120
  · exact x_oksat v_179_60 (by omega) (by omega)
  exact x_oksat v_179_120 (by omega) (by omega)
theorem vm_180 : x_okm (x_mt 180) = true := by
  refine x_oksum (show (x_mt 180).2.2.2.2.2.2.2.1.2.2.2.2 = 18 from rfl) (fun pc hpc => ?_)
  exact x_oksat v_180_0 (by omega) (by omega)
theorem vm_181 : x_okm (x_mt 181) = true := by
  refine x_oksum (show (x_mt 181).2.2.2.2.2.2.2.1.2.2.2.2 = 155 from rfl) (fun pc hpc => ?_)
  by_cases h0 : pc < 60
  · exact x_oksat v_181_0 (by omega) (by omega)
  by_cases h1 : pc < 120
  · exact x_oksat v_181_60 (by omega) (by omega)
  exact x_oksat v_181_120 (by omega) (by omega)
theorem vm_182 : x_okm (x_mt 182) = true := by
  refine x_oksum (show (x_mt 182).2.2.2.2.2.2.2.1.2.2.2.2 = 191 from rfl) (fun pc hpc => ?_)
  by_cases h0 : pc < 60
  · exact x_oksat v_182_0 (by omega) (by omega)
  by_cases h1 : pc < 120
  · exact x_oksat v_182_60 (by omega) (by omega)
  by_cases h2 : pc < 180
  · exact x_oksat v_182_120 (by omega) (by omega)
  exact x_oksat v_182_180 (by omega) (by omega)
theorem vm_183 : x_okm (x_mt 183) = true := by
  refine x_oksum (show (x_mt 183).2.2.2.2.2.2.2.1.2.2.2.2 = 18 from rfl) (fun pc hpc => ?_)
  exact x_oksat v_183_0 (by omega) (by omega)
theorem vm_184 : x_okm (x_mt 184) = true := by
  refine x_oksum (show (x_mt 184).2.2.2.2.2.2.2.1.2.2.2.2 = 27 from rfl) (fun pc hpc => ?_)
  exact x_oksat v_184_0 (by omega) (by omega)
theorem vm_185 : x_okm (x_mt 185) = true := by
  refine x_oksum (show (x_mt 185).2.2.2.2.2.2.2.1.2.2.2.2 = 138 from rfl) (fun pc hpc => ?_)
  by_cases h0 : pc < 60
  · exact x_oksat v_185_0 (by omega) (by omega)
  by_cases h1 : pc < 120
  · exact x_oksat v_185_60 (by omega) (by omega)
  exact x_oksat v_185_120 (by omega) (by omega)
theorem vm_186 : x_okm (x_mt 186) = true := by
  refine x_oksum (show (x_mt 186).2.2.2.2.2.2.2.1.2.2.2.2 = 58 from rfl) (fun pc hpc => ?_)
  exact x_oksat v_186_0 (by omega) (by omega)
theorem vm_187 : x_okm (x_mt 187) = true := by
  refine x_oksum (show (x_mt 187).2.2.2.2.2.2.2.1.2.2.2.2 = 55 from rfl) (fun pc hpc => ?_)
  exact x_oksat v_187_0 (by omega) (by omega)
theorem vm_188 : x_okm (x_mt 188) = true := by
  refine x_oksum (show (x_mt 188).2.2.2.2.2.2.2.1.2.2.2.2 = 39 from rfl) (fun pc hpc => ?_)
  exact x_oksat v_188_0 (by omega) (by omega)
theorem vm_189 : x_okm (x_mt 189) = true := by
  refine x_oksum (show (x_mt 189).2.2.2.2.2.2.2.1.2.2.2.2 = 47 from rfl) (fun pc hpc => ?_)
  exact x_oksat v_189_0 (by omega) (by omega)
theorem vm_190 : x_okm (x_mt 190) = true := by
  refine x_oksum (show (x_mt 190).2.2.2.2.2.2.2.1.2.2.2.2 = 125 from rfl) (fun pc hpc => ?_)
  by_cases h0 : pc < 60
  · exact x_oksat v_190_0 (by omega) (by omega)
  by_cases h1 : pc < 120
  · exact x_oksat v_190_60 (by omega) (by omega)
  exact x_oksat v_190_120 (by omega) (by omega)
theorem vm_191 : x_okm (x_mt 191) = true := by
  refine x_oksum (show (x_mt 191).2.2.2.2.2.2.2.1.2.2.2.2 = 31 from rfl) (fun pc hpc => ?_)
  exact x_oksat v_191_0 (by omega) (by omega)
theorem vm_192 : x_okm (x_mt 192) = true := by
  refine x_oksum (show (x_mt 192).2.2.2.2.2.2.2.1.2.2.2.2 = 239 from rfl) (fun pc hpc => ?_)
  by_cases h0 : pc < 60
  · exact x_oksat v_192_0 (by omega) (by omega)
  by_cases h1 : pc < 120
  · exact x_oksat v_192_60 (by omega) (by omega)
  by_cases h2 : pc < 180
  · exact x_oksat v_192_120 (by omega) (by omega)
  exact x_oksat v_192_180 (by omega) (by omega)
theorem vm_193 : x_okm (x_mt 193) = true := by
  refine x_oksum (show (x_mt 193).2.2.2.2.2.2.2.1.2.2.2.2 = 61 from rfl) (fun pc hpc => ?_)
  by_cases h0 : pc < 60
  · exact x_oksat v_193_0 (by omega) (by omega)
  exact x_oksat v_193_60 (by omega) (by omega)
theorem vm_194 : x_okm (x_mt 194) = true := by
  refine x_oksum (show (x_mt 194).2.2.2.2.2.2.2.1.2.2.2.2 = 160 from rfl) (fun pc hpc => ?_)
  by_cases h0 : pc < 60
  · exact x_oksat v_194_0 (by omega) (by omega)
  by_cases h1 : pc < 120
  · exact x_oksat v_194_60 (by omega) (by omega)
  exact x_oksat v_194_120 (by omega) (by omega)
theorem vm_195 : x_okm (x_mt 195) = true := by
  refine x_oksum (show (x_mt 195).2.2.2.2.2.2.2.1.2.2.2.2 = 143 from rfl) (fun pc hpc => ?_)
  by_cases h0 : pc < 60
  · exact x_oksat v_195_0 (by omega) (by omega)
  by_cases h1 : pc < 120
  · exact x_oksat v_195_60 (by omega) (by omega)
  exact x_oksat v_195_120 (by omega) (by omega)
theorem vm_196 : x_okm (x_mt 196) = true := by
  refine x_oksum (show (x_mt 196).2.2.2.2.2.2.2.1.2.2.2.2 = 22 from rfl) (fun pc hpc => ?_)
  exact x_oksat v_196_0 (by omega) (by omega)
theorem vm_197 : x_okm (x_mt 197) = true := by
  refine x_oksum (show (x_mt 197).2.2.2.2.2.2.2.1.2.2.2.2 = 18 from rfl) (fun pc hpc => ?_)
  exact x_oksat v_197_0 (by omega) (by omega)
theorem vm_198 : x_okm (x_mt 198) = true := by
  refine x_oksum (show (x_mt 198).2.2.2.2.2.2.2.1.2.2.2.2 = 168 from rfl) (fun pc hpc => ?_)
  by_cases h0 : pc < 60
  · exact x_oksat v_198_0 (by omega) (by omega)
  by_cases h1 : pc < 120
  · exact x_oksat v_198_60 (by omega) (by omega)
  exact x_oksat v_198_120 (by omega) (by omega)
theorem vm_199 : x_okm (x_mt 199) = true := by
  refine x_oksum (show (x_mt 199).2.2.2.2.2.2.2.1.2.2.2.2 = 140 from rfl) (fun pc hpc => ?_)
  by_cases h0 : pc < 60
  · exact x_oksat v_199_0 (by omega) (by omega)
  by_cases h1 : pc < 120
  · exact x_oksat v_199_60 (by omega) (by omega)
  exact x_oksat v_199_120 (by omega) (by omega)
theorem vm_200 : x_okm (x_mt 200) = true := by
  refine x_oksum (show (x_mt 200).2.2.2.2.2.2.2.1.2.2.2.2 = 260 from rfl) (fun pc hpc => ?_)
  by_cases h0 : pc < 60
  · exact x_oksat v_200_0 (by omega) (by omega)
  by_cases h1 : pc < 120
  · exact x_oksat v_200_60 (by omega) (by omega)
  by_cases h2 : pc < 180
  · exact x_oksat v_200_120 (by omega) (by omega)
  by_cases h3 : pc < 240
  · exact x_oksat v_200_180 (by omega) (by omega)
  exact x_oksat v_200_240 (by omega) (by omega)
theorem vm_201 : x_okm (x_mt 201) = true := by
  refine x_oksum (show (x_mt 201).2.2.2.2.2.2.2.1.2.2.2.2 = 416 from rfl) (fun pc hpc => ?_)
  by_cases h0 : pc < 60
  · exact x_oksat v_201_0 (by omega) (by omega)
  by_cases h1 : pc < 120
  · exact x_oksat v_201_60 (by omega) (by omega)
  by_cases h2 : pc < 180
  · exact x_oksat v_201_120 (by omega) (by omega)
  by_cases h3 : pc < 240
  · exact x_oksat v_201_180 (by omega) (by omega)
  by_cases h4 : pc < 300
  · exact x_oksat v_201_240 (by omega) (by omega)
  by_cases h5 : pc < 360
  · exact x_oksat v_201_300 (by omega) (by omega)
  exact x_oksat v_201_360 (by omega) (by omega)
theorem vm_202 : x_okm (x_mt 202) = true := by
  refine x_oksum (show (x_mt 202).2.2.2.2.2.2.2.1.2.2.2.2 = 90 from rfl) (fun pc hpc => ?_)
  by_cases h0 : pc < 60
  · exact x_oksat v_202_0 (by omega) (by omega)
  exact x_oksat v_202_60 (by omega) (by omega)
theorem vm_203 : x_okm (x_mt 203) = true := by
  refine x_oksum (show (x_mt 203).2.2.2.2.2.2.2.1.2.2.2.2 = 71 from rfl) (fun pc hpc => ?_)
  by_cases h0 : pc < 60
  · exact x_oksat v_203_0 (by omega) (by omega)
  exact x_oksat v_203_60 (by omega) (by omega)
theorem vm_204 : x_okm (x_mt 204) = true := by
  refine x_oksum (show (x_mt 204).2.2.2.2.2.2.2.1.2.2.2.2 = 36 from rfl) (fun pc hpc => ?_)
  exact x_oksat v_204_0 (by omega) (by omega)
theorem vm_205 : x_okm (x_mt 205) = true := by
  refine x_oksum (show (x_mt 205).2.2.2.2.2.2.2.1.2.2.2.2 = 157 from rfl) (fun pc hpc => ?_)
  by_cases h0 : pc < 60
  · exact x_oksat v_205_0 (by omega) (by omega)
  by_cases h1 : pc < 120
  · exact x_oksat v_205_60 (by omega) (by omega)
  exact x_oksat v_205_120 (by omega) (by omega)
theorem vm_206 : x_okm (x_mt 206) = true := by
  refine x_oksum (show (x_mt 206).2.2.2.2.2.2.2.1.2.2.2.2 = 37 from rfl) (fun pc hpc => ?_)
  exact x_oksat v_206_0 (by omega) (by omega)
theorem vm_207 : x_okm (x_mt 207) = true := by
  refine x_oksum (show (x_mt 207).2.2.2.2.2.2.2.1.2.2.2.2 = 255 from rfl) (fun pc hpc => ?_)
  by_cases h0 : pc < 60
  · exact x_oksat v_207_0 (by omega) (by omega)
  by_cases h1 : pc < 120
  · exact x_oksat v_207_60 (by omega) (by omega)
  by_cases h2 : pc < 180
  · exact x_oksat v_207_120 (by omega) (by omega)
  by_cases h3 : pc < 240
  · exact x_oksat v_207_180 (by omega) (by omega)
  exact x_oksat v_207_240 (by omega) (by omega)
theorem vm_208 : x_okm (x_mt 208) = true := by
  refine x_oksum (show (x_mt 208).2.2.2.2.2.2.2.1.2.2.2.2 = 54 from rfl) (fun pc hpc => ?_)
  exact x_oksat v_208_0 (by omega) (by omega)
theorem vm_209 : x_okm (x_mt 209) = true := by
  refine x_oksum (show (x_mt 209).2.2.2.2.2.2.2.1.2.2.2.2 = 56 from rfl) (fun pc hpc => ?_)
  exact x_oksat v_209_0 (by omega) (by omega)
theorem vm_210 : x_okm (x_mt 210) = true := by
  refine x_oksum (show (x_mt 210).2.2.2.2.2.2.2.1.2.2.2.2 = 28 from rfl) (fun pc hpc => ?_)
  exact x_oksat v_210_0 (by omega) (by omega)
theorem vm_211 : x_okm (x_mt 211) = true := by
  refine x_oksum (show (x_mt 211).2.2.2.2.2.2.2.1.2.2.2.2 = 20 from rfl) (fun pc hpc => ?_)
  exact x_oksat v_211_0 (by omega) (by omega)
theorem vm_212 : x_okm (x_mt 212) = true := by
  refine x_oksum (show (x_mt 212).2.2.2.2.2.2.2.1.2.2.2.2 = 12 from rfl) (fun pc hpc => ?_)
  exact x_oksat v_212_0 (by omega) (by omega)
theorem vm_213 : x_okm (x_mt 213) = true := by
  refine x_oksum (show (x_mt 213).2.2.2.2.2.2.2.1.2.2.2.2 = 11 from rfl) (fun pc hpc => ?_)
  exact x_oksat v_213_0 (by omega) (by omega)
theorem vm_214 : x_okm (x_mt 214) = true := by
  refine x_oksum (show (x_mt 214).2.2.2.2.2.2.2.1.2.2.2.2 = 11 from rfl) (fun pc hpc => ?_)
  exact x_oksat v_214_0 (by omega) (by omega)
theorem vm_215 : x_okm (x_mt 215) = true := by
  refine x_oksum (show (x_mt 215).2.2.2.2.2.2.2.1.2.2.2.2 = 38 from rfl) (fun pc hpc => ?_)
  exact x_oksat v_215_0 (by omega) (by omega)
theorem vm_216 : x_okm (x_mt 216) = true := by
  refine x_oksum (show (x_mt 216).2.2.2.2.2.2.2.1.2.2.2.2 = 25 from rfl) (fun pc hpc => ?_)
  exact x_oksat v_216_0 (by omega) (by omega)
theorem vm_217 : x_okm (x_mt 217) = true := by
  refine x_oksum (show (x_mt 217).2.2.2.2.2.2.2.1.2.2.2.2 = 33 from rfl) (fun pc hpc => ?_)
  exact x_oksat v_217_0 (by omega) (by omega)
theorem vm_218 : x_okm (x_mt 218) = true := by
  refine x_oksum (show (x_mt 218).2.2.2.2.2.2.2.1.2.2.2.2 = 14 from rfl) (fun pc hpc => ?_)
  exact x_oksat v_218_0 (by omega) (by omega)
theorem vm_219 : x_okm (x_mt 219) = true := by
  refine x_oksum (show (x_mt 219).2.2.2.2.2.2.2.1.2.2.2.2 = 758 from rfl) (fun pc hpc => ?_)
  by_cases h0 : pc < 60
  · exact x_oksat v_219_0 (by omega) (by omega)
  by_cases h1 : pc < 120
  · exact x_oksat v_219_60 (by omega) (by omega)
  by_cases h2 : pc < 180
  · exact x_oksat v_219_120 (by omega) (by omega)
  by_cases h3 : pc < 240
  · exact x_oksat v_219_180 (by omega) (by omega)
  by_cases h4 : pc < 300
  · exact x_oksat v_219_240 (by omega) (by omega)
  by_cases h5 : pc < 360
  · exact x_oksat v_219_300 (by omega) (by omega)
  by_cases h6 : pc < 420
  · exact x_oksat v_219_360 (by omega) (by omega)
  by_cases h7 : pc < 480
  · exact x_oksat v_219_420 (by omega) (by omega)
  by_cases h8 : pc < 540
  · exact x_oksat v_219_480 (by omega) (by omega)
  by_cases h9 : pc < 600
  · exact x_oksat v_219_540 (by omega) (by omega)
  by_cases h10 : pc < 660
  · exact x_oksat v_219_600 (by omega) (by omega)
  by_cases h11 : pc < 720
  · exact x_oksat v_219_660 (by omega) (by omega)
  exact x_oksat v_219_720 (by omega) (by omega)
theorem x_v2a : ∀ M, M < 220 → x_okm (x_mt M) = true := by
  intro M hM
  by_cases h0_220 : M < 110
  · skip
    by_cases h0_110 : M < 55
    · skip
      by_cases h0_55 : M < 27
      · skip
        by_cases h0_27 : M < 13
        · skip
          by_cases h0_13 : M < 6
          · skip
            by_cases h0_6 : M < 3
            · skip
              by_cases h0_3 : M < 1
              · skip
                have e : M = 0 := by omega
                subst e
                exact vm_0
              · skip
                by_cases h1_3 : M < 2
                · skip
                  have e : M = 1 := by omega
                  subst e
                  exact vm_1
                · skip
                  have e : M = 2 := by omega
                  subst e
                  exact vm_2
            · skip
              by_cases h3_6 : M < 4
              · skip
                have e : M = 3 := by omega
                subst e
                exact vm_3
              · skip
                by_cases h4_6 : M < 5
                · skip
                  have e : M = 4 := by omega
                  subst e
                  exact vm_4
                · skip
                  have e : M = 5 := by omega
                  subst e
                  exact vm_5
          · skip
            by_cases h6_13 : M < 9
            · skip
              by_cases h6_9 : M < 7
              · skip
                have e : M = 6 := by omega
                subst e
                exact vm_6
              · skip
                by_cases h7_9 : M < 8
                · skip
                  have e : M = 7 := by omega
                  subst e
                  exact vm_7
                · skip
                  have e : M = 8 := by omega
                  subst e
                  exact vm_8
            · skip
              by_cases h9_13 : M < 11
              · skip
                by_cases h9_11 : M < 10
                · skip
                  have e : M = 9 := by omega
                  subst e
                  exact vm_9
                · skip
                  have e : M = 10 := by omega
                  subst e
                  exact vm_10
              · skip
                by_cases h11_13 : M < 12
                · skip
                  have e : M = 11 := by omega
                  subst e
                  exact vm_11
                · skip
                  have e : M = 12 := by omega
                  subst e
                  exact vm_12
        · skip
          by_cases h13_27 : M < 20
          · skip
            by_cases h13_20 : M < 16
            · skip
              by_cases h13_16 : M < 14
              · skip
                have e : M = 13 := by omega
                subst e
                exact vm_13
              · skip
                by_cases h14_16 : M < 15
                · skip
                  have e : M = 14 := by omega
                  subst e
                  exact vm_14
                · skip
                  have e : M = 15 := by omega
                  subst e
                  exact vm_15
            · skip
              by_cases h16_20 : M < 18
              · skip
                by_cases h16_18 : M < 17
                · skip
                  have e : M = 16 := by omega
                  subst e
                  exact vm_16
                · skip
                  have e : M = 17 := by omega
                  subst e
                  exact vm_17
              · skip
                by_cases h18_20 : M < 19
                · skip
                  have e : M = 18 := by omega
                  subst e
                  exact vm_18
                · skip
                  have e : M = 19 := by omega
                  subst e
                  exact vm_19
          · skip
            by_cases h20_27 : M < 23
            · skip
              by_cases h20_23 : M < 21
              · skip
                have e : M = 20 := by omega
                subst e
                exact vm_20
              · skip
                by_cases h21_23 : M < 22
                · skip
                  have e : M = 21 := by omega
                  subst e
                  exact vm_21
                · skip
                  have e : M = 22 := by omega
                  subst e
                  exact vm_22
            · skip
              by_cases h23_27 : M < 25
              · skip
                by_cases h23_25 : M < 24
                · skip
                  have e : M = 23 := by omega
                  subst e
                  exact vm_23
                · skip
                  have e : M = 24 := by omega
                  subst e
                  exact vm_24
              · skip
                by_cases h25_27 : M < 26
                · skip
                  have e : M = 25 := by omega
                  subst e
                  exact vm_25
                · skip
                  have e : M = 26 := by omega
                  subst e
                  exact vm_26
      · skip
        by_cases h27_55 : M < 41
        · skip
          by_cases h27_41 : M < 34
          · skip
            by_cases h27_34 : M < 30
            · skip
              by_cases h27_30 : M < 28
              · skip
                have e : M = 27 := by omega
                subst e
                exact vm_27
              · skip
                by_cases h28_30 : M < 29
                · skip
                  have e : M = 28 := by omega
                  subst e
                  exact vm_28
                · skip
                  have e : M = 29 := by omega
                  subst e
                  exact vm_29
            · skip
              by_cases h30_34 : M < 32
              · skip
                by_cases h30_32 : M < 31
                · skip
                  have e : M = 30 := by omega
                  subst e
                  exact vm_30
                · skip
                  have e : M = 31 := by omega
                  subst e
                  exact vm_31
              · skip
                by_cases h32_34 : M < 33
                · skip
                  have e : M = 32 := by omega
                  subst e
                  exact vm_32
                · skip
                  have e : M = 33 := by omega
                  subst e
                  exact vm_33
          · skip
            by_cases h34_41 : M < 37
            · skip
              by_cases h34_37 : M < 35
              · skip
                have e : M = 34 := by omega
                subst e
                exact vm_34
              · skip
                by_cases h35_37 : M < 36
                · skip
                  have e : M = 35 := by omega
                  subst e
                  exact vm_35
                · skip
                  have e : M = 36 := by omega
                  subst e
                  exact vm_36
            · skip
              by_cases h37_41 : M < 39
              · skip
                by_cases h37_39 : M < 38
                · skip
                  have e : M = 37 := by omega
                  subst e
                  exact vm_37
                · skip
                  have e : M = 38 := by omega
                  subst e
                  exact vm_38
              · skip
                by_cases h39_41 : M < 40
                · skip
                  have e : M = 39 := by omega
                  subst e
                  exact vm_39
                · skip
                  have e : M = 40 := by omega
                  subst e
                  exact vm_40
        · skip
          by_cases h41_55 : M < 48
          · skip
            by_cases h41_48 : M < 44
            · skip
              by_cases h41_44 : M < 42
              · skip
                have e : M = 41 := by omega
                subst e
                exact vm_41
              · skip
                by_cases h42_44 : M < 43
                · skip
                  have e : M = 42 := by omega
                  subst e
                  exact vm_42
                · skip
                  have e : M = 43 := by omega
                  subst e
                  exact vm_43
            · skip
              by_cases h44_48 : M < 46
              · skip
                by_cases h44_46 : M < 45
                · skip
                  have e : M = 44 := by omega
                  subst e
                  exact vm_44
                · skip
                  have e : M = 45 := by omega
                  subst e
                  exact vm_45
              · skip
                by_cases h46_48 : M < 47
                · skip
                  have e : M = 46 := by omega
                  subst e
                  exact vm_46
                · skip
                  have e : M = 47 := by omega
                  subst e
                  exact vm_47
          · skip
            by_cases h48_55 : M < 51
            · skip
              by_cases h48_51 : M < 49
              · skip
                have e : M = 48 := by omega
                subst e
                exact vm_48
              · skip
                by_cases h49_51 : M < 50
                · skip
                  have e : M = 49 := by omega
                  subst e
                  exact vm_49
                · skip
                  have e : M = 50 := by omega
                  subst e
                  exact vm_50
            · skip
              by_cases h51_55 : M < 53
              · skip
                by_cases h51_53 : M < 52
                · skip
                  have e : M = 51 := by omega
                  subst e
                  exact vm_51
                · skip
                  have e : M = 52 := by omega
                  subst e
                  exact vm_52
              · skip
                by_cases h53_55 : M < 54
                · skip
                  have e : M = 53 := by omega
                  subst e
                  exact vm_53
                · skip
                  have e : M = 54 := by omega
                  subst e
                  exact vm_54
    · skip
      by_cases h55_110 : M < 82
      · skip
        by_cases h55_82 : M < 68
        · skip
          by_cases h55_68 : M < 61
          · skip
            by_cases h55_61 : M < 58
            · skip
              by_cases h55_58 : M < 56
              · skip
                have e : M = 55 := by omega
                subst e
                exact vm_55
              · skip
                by_cases h56_58 : M < 57
                · skip
                  have e : M = 56 := by omega
                  subst e
                  exact vm_56
                · skip
                  have e : M = 57 := by omega
                  subst e
                  exact vm_57
            · skip
              by_cases h58_61 : M < 59
              · skip
                have e : M = 58 := by omega
                subst e
                exact vm_58
              · skip
                by_cases h59_61 : M < 60
                · skip
                  have e : M = 59 := by omega
                  subst e
                  exact vm_59
                · skip
                  have e : M = 60 := by omega
                  subst e
                  exact vm_60
          · skip
            by_cases h61_68 : M < 64
            · skip
              by_cases h61_64 : M < 62
              · skip
                have e : M = 61 := by omega
                subst e
                exact vm_61
              · skip
                by_cases h62_64 : M < 63
                · skip
                  have e : M = 62 := by omega
                  subst e
                  exact vm_62
                · skip
                  have e : M = 63 := by omega
                  subst e
                  exact vm_63
            · skip
              by_cases h64_68 : M < 66
              · skip
                by_cases h64_66 : M < 65
                · skip
                  have e : M = 64 := by omega
                  subst e
                  exact vm_64
                · skip
                  have e : M = 65 := by omega
                  subst e
                  exact vm_65
              · skip
                by_cases h66_68 : M < 67
                · skip
                  have e : M = 66 := by omega
                  subst e
                  exact vm_66
                · skip
                  have e : M = 67 := by omega
                  subst e
                  exact vm_67
        · skip
          by_cases h68_82 : M < 75
          · skip
            by_cases h68_75 : M < 71
            · skip
              by_cases h68_71 : M < 69
              · skip
                have e : M = 68 := by omega
                subst e
                exact vm_68
              · skip
                by_cases h69_71 : M < 70
                · skip
                  have e : M = 69 := by omega
                  subst e
                  exact vm_69
                · skip
                  have e : M = 70 := by omega
                  subst e
                  exact vm_70
            · skip
              by_cases h71_75 : M < 73
              · skip
                by_cases h71_73 : M < 72
                · skip
                  have e : M = 71 := by omega
                  subst e
                  exact vm_71
                · skip
                  have e : M = 72 := by omega
                  subst e
                  exact vm_72
              · skip
                by_cases h73_75 : M < 74
                · skip
                  have e : M = 73 := by omega
                  subst e
                  exact vm_73
                · skip
                  have e : M = 74 := by omega
                  subst e
                  exact vm_74
          · skip
            by_cases h75_82 : M < 78
            · skip
              by_cases h75_78 : M < 76
              · skip
                have e : M = 75 := by omega
                subst e
                exact vm_75
              · skip
                by_cases h76_78 : M < 77
                · skip
                  have e : M = 76 := by omega
                  subst e
                  exact vm_76
                · skip
                  have e : M = 77 := by omega
                  subst e
                  exact vm_77
            · skip
              by_cases h78_82 : M < 80
              · skip
                by_cases h78_80 : M < 79
                · skip
                  have e : M = 78 := by omega
                  subst e
                  exact vm_78
                · skip
                  have e : M = 79 := by omega
                  subst e
                  exact vm_79
              · skip
                by_cases h80_82 : M < 81
                · skip
                  have e : M = 80 := by omega
                  subst e
                  exact vm_80
                · skip
                  have e : M = 81 := by omega
                  subst e
                  exact vm_81
      · skip
        by_cases h82_110 : M < 96
        · skip
          by_cases h82_96 : M < 89
          · skip
            by_cases h82_89 : M < 85
            · skip
              by_cases h82_85 : M < 83
              · skip
                have e : M = 82 := by omega
                subst e
                exact vm_82
              · skip
                by_cases h83_85 : M < 84
                · skip
                  have e : M = 83 := by omega
                  subst e
                  exact vm_83
                · skip
                  have e : M = 84 := by omega
                  subst e
                  exact vm_84
            · skip
              by_cases h85_89 : M < 87
              · skip
                by_cases h85_87 : M < 86
                · skip
                  have e : M = 85 := by omega
                  subst e
                  exact vm_85
                · skip
                  have e : M = 86 := by omega
                  subst e
                  exact vm_86
              · skip
                by_cases h87_89 : M < 88
                · skip
                  have e : M = 87 := by omega
                  subst e
                  exact vm_87
                · skip
                  have e : M = 88 := by omega
                  subst e
                  exact vm_88
          · skip
            by_cases h89_96 : M < 92
            · skip
              by_cases h89_92 : M < 90
              · skip
                have e : M = 89 := by omega
                subst e
                exact vm_89
              · skip
                by_cases h90_92 : M < 91
                · skip
                  have e : M = 90 := by omega
                  subst e
                  exact vm_90
                · skip
                  have e : M = 91 := by omega
                  subst e
                  exact vm_91
            · skip
              by_cases h92_96 : M < 94
              · skip
                by_cases h92_94 : M < 93
                · skip
                  have e : M = 92 := by omega
                  subst e
                  exact vm_92
                · skip
                  have e : M = 93 := by omega
                  subst e
                  exact vm_93
              · skip
                by_cases h94_96 : M < 95
                · skip
                  have e : M = 94 := by omega
                  subst e
                  exact vm_94
                · skip
                  have e : M = 95 := by omega
                  subst e
                  exact vm_95
        · skip
          by_cases h96_110 : M < 103
          · skip
            by_cases h96_103 : M < 99
            · skip
              by_cases h96_99 : M < 97
              · skip
                have e : M = 96 := by omega
                subst e
                exact vm_96
              · skip
                by_cases h97_99 : M < 98
                · skip
                  have e : M = 97 := by omega
                  subst e
                  exact vm_97
                · skip
                  have e : M = 98 := by omega
                  subst e
                  exact vm_98
            · skip
              by_cases h99_103 : M < 101
              · skip
                by_cases h99_101 : M < 100
                · skip
                  have e : M = 99 := by omega
                  subst e
                  exact vm_99
                · skip
                  have e : M = 100 := by omega
                  subst e
                  exact vm_100
              · skip
                by_cases h101_103 : M < 102
                · skip
                  have e : M = 101 := by omega
                  subst e
                  exact vm_101
                · skip
                  have e : M = 102 := by omega
                  subst e
                  exact vm_102
          · skip
            by_cases h103_110 : M < 106
            · skip
              by_cases h103_106 : M < 104
              · skip
                have e : M = 103 := by omega
                subst e
                exact vm_103
              · skip
                by_cases h104_106 : M < 105
                · skip
                  have e : M = 104 := by omega
                  subst e
                  exact vm_104
                · skip
                  have e : M = 105 := by omega
                  subst e
                  exact vm_105
            · skip
              by_cases h106_110 : M < 108
              · skip
                by_cases h106_108 : M < 107
                · skip
                  have e : M = 106 := by omega
                  subst e
                  exact vm_106
                · skip
                  have e : M = 107 := by omega
                  subst e
                  exact vm_107
              · skip
                by_cases h108_110 : M < 109
                · skip
                  have e : M = 108 := by omega
                  subst e
                  exact vm_108
                · skip
                  have e : M = 109 := by omega
                  subst e
                  exact vm_109
  · skip
    by_cases h110_220 : M < 165
    · skip
      by_cases h110_165 : M < 137
      · skip
        by_cases h110_137 : M < 123
        · skip
          by_cases h110_123 : M < 116
          · skip
            by_cases h110_116 : M < 113
            · skip
              by_cases h110_113 : M < 111
              · skip
                have e : M = 110 := by omega
                subst e
                exact vm_110
              · skip
                by_cases h111_113 : M < 112
                · skip
                  have e : M = 111 := by omega
                  subst e
                  exact vm_111
                · skip
                  have e : M = 112 := by omega
                  subst e
                  exact vm_112
            · skip
              by_cases h113_116 : M < 114
              · skip
                have e : M = 113 := by omega
                subst e
                exact vm_113
              · skip
                by_cases h114_116 : M < 115
                · skip
                  have e : M = 114 := by omega
                  subst e
                  exact vm_114
                · skip
                  have e : M = 115 := by omega
                  subst e
                  exact vm_115
          · skip
            by_cases h116_123 : M < 119
            · skip
              by_cases h116_119 : M < 117
              · skip
                have e : M = 116 := by omega
                subst e
                exact vm_116
              · skip
                by_cases h117_119 : M < 118
                · skip
                  have e : M = 117 := by omega
                  subst e
                  exact vm_117
                · skip
                  have e : M = 118 := by omega
                  subst e
                  exact vm_118
            · skip
              by_cases h119_123 : M < 121
              · skip
                by_cases h119_121 : M < 120
                · skip
                  have e : M = 119 := by omega
                  subst e
                  exact vm_119
                · skip
                  have e : M = 120 := by omega
                  subst e
                  exact vm_120
              · skip
                by_cases h121_123 : M < 122
                · skip
                  have e : M = 121 := by omega
                  subst e
                  exact vm_121
                · skip
                  have e : M = 122 := by omega
                  subst e
                  exact vm_122
        · skip
          by_cases h123_137 : M < 130
          · skip
            by_cases h123_130 : M < 126
            · skip
              by_cases h123_126 : M < 124
              · skip
                have e : M = 123 := by omega
                subst e
                exact vm_123
              · skip
                by_cases h124_126 : M < 125
                · skip
                  have e : M = 124 := by omega
                  subst e
                  exact vm_124
                · skip
                  have e : M = 125 := by omega
                  subst e
                  exact vm_125
            · skip
              by_cases h126_130 : M < 128
              · skip
                by_cases h126_128 : M < 127
                · skip
                  have e : M = 126 := by omega
                  subst e
                  exact vm_126
                · skip
                  have e : M = 127 := by omega
                  subst e
                  exact vm_127
              · skip
                by_cases h128_130 : M < 129
                · skip
                  have e : M = 128 := by omega
                  subst e
                  exact vm_128
                · skip
                  have e : M = 129 := by omega
                  subst e
                  exact vm_129
          · skip
            by_cases h130_137 : M < 133
            · skip
              by_cases h130_133 : M < 131
              · skip
                have e : M = 130 := by omega
                subst e
                exact vm_130
              · skip
                by_cases h131_133 : M < 132
                · skip
                  have e : M = 131 := by omega
                  subst e
                  exact vm_131
                · skip
                  have e : M = 132 := by omega
                  subst e
                  exact vm_132
            · skip
              by_cases h133_137 : M < 135
              · skip
                by_cases h133_135 : M < 134
                · skip
                  have e : M = 133 := by omega
                  subst e
                  exact vm_133
                · skip
                  have e : M = 134 := by omega
                  subst e
                  exact vm_134
              · skip
                by_cases h135_137 : M < 136
                · skip
                  have e : M = 135 := by omega
                  subst e
                  exact vm_135
                · skip
                  have e : M = 136 := by omega
                  subst e
                  exact vm_136
      · skip
        by_cases h137_165 : M < 151
        · skip
          by_cases h137_151 : M < 144
          · skip
            by_cases h137_144 : M < 140
            · skip
              by_cases h137_140 : M < 138
              · skip
                have e : M = 137 := by omega
                subst e
                exact vm_137
              · skip
                by_cases h138_140 : M < 139
                · skip
                  have e : M = 138 := by omega
                  subst e
                  exact vm_138
                · skip
                  have e : M = 139 := by omega
                  subst e
                  exact vm_139
            · skip
              by_cases h140_144 : M < 142
              · skip
                by_cases h140_142 : M < 141
                · skip
                  have e : M = 140 := by omega
                  subst e
                  exact vm_140
                · skip
                  have e : M = 141 := by omega
                  subst e
                  exact vm_141
              · skip
                by_cases h142_144 : M < 143
                · skip
                  have e : M = 142 := by omega
                  subst e
                  exact vm_142
                · skip
                  have e : M = 143 := by omega
                  subst e
                  exact vm_143
          · skip
            by_cases h144_151 : M < 147
            · skip
              by_cases h144_147 : M < 145
              · skip
                have e : M = 144 := by omega
                subst e
                exact vm_144
              · skip
                by_cases h145_147 : M < 146
                · skip
                  have e : M = 145 := by omega
                  subst e
                  exact vm_145
                · skip
                  have e : M = 146 := by omega
                  subst e
                  exact vm_146
            · skip
              by_cases h147_151 : M < 149
              · skip
                by_cases h147_149 : M < 148
                · skip
                  have e : M = 147 := by omega
                  subst e
                  exact vm_147
                · skip
                  have e : M = 148 := by omega
                  subst e
                  exact vm_148
              · skip
                by_cases h149_151 : M < 150
                · skip
                  have e : M = 149 := by omega
                  subst e
                  exact vm_149
                · skip
                  have e : M = 150 := by omega
                  subst e
                  exact vm_150
        · skip
          by_cases h151_165 : M < 158
          · skip
            by_cases h151_158 : M < 154
            · skip
              by_cases h151_154 : M < 152
              · skip
                have e : M = 151 := by omega
                subst e
                exact vm_151
              · skip
                by_cases h152_154 : M < 153
                · skip
                  have e : M = 152 := by omega
                  subst e
                  exact vm_152
                · skip
                  have e : M = 153 := by omega
                  subst e
                  exact vm_153
            · skip
              by_cases h154_158 : M < 156
              · skip
                by_cases h154_156 : M < 155
                · skip
                  have e : M = 154 := by omega
                  subst e
                  exact vm_154
                · skip
                  have e : M = 155 := by omega
                  subst e
                  exact vm_155
              · skip
                by_cases h156_158 : M < 157
                · skip
                  have e : M = 156 := by omega
                  subst e
                  exact vm_156
                · skip
                  have e : M = 157 := by omega
                  subst e
                  exact vm_157
          · skip
            by_cases h158_165 : M < 161
            · skip
              by_cases h158_161 : M < 159
              · skip
                have e : M = 158 := by omega
                subst e
                exact vm_158
              · skip
                by_cases h159_161 : M < 160
                · skip
                  have e : M = 159 := by omega
                  subst e
                  exact vm_159
                · skip
                  have e : M = 160 := by omega
                  subst e
                  exact vm_160
            · skip
              by_cases h161_165 : M < 163
              · skip
                by_cases h161_163 : M < 162
                · skip
                  have e : M = 161 := by omega
                  subst e
                  exact vm_161
                · skip
                  have e : M = 162 := by omega
                  subst e
                  exact vm_162
              · skip
                by_cases h163_165 : M < 164
                · skip
                  have e : M = 163 := by omega
                  subst e
                  exact vm_163
                · skip
                  have e : M = 164 := by omega
                  subst e
                  exact vm_164
    · skip
      by_cases h165_220 : M < 192
      · skip
        by_cases h165_192 : M < 178
        · skip
          by_cases h165_178 : M < 171
          · skip
            by_cases h165_171 : M < 168
            · skip
              by_cases h165_168 : M < 166
              · skip
                have e : M = 165 := by omega
                subst e
                exact vm_165
              · skip
                by_cases h166_168 : M < 167
                · skip
                  have e : M = 166 := by omega
                  subst e
                  exact vm_166
                · skip
                  have e : M = 167 := by omega
                  subst e
                  exact vm_167
            · skip
              by_cases h168_171 : M < 169
              · skip
                have e : M = 168 := by omega
                subst e
                exact vm_168
              · skip
                by_cases h169_171 : M < 170
                · skip
                  have e : M = 169 := by omega
                  subst e
                  exact vm_169
                · skip
                  have e : M = 170 := by omega
                  subst e
                  exact vm_170
          · skip
            by_cases h171_178 : M < 174
            · skip
              by_cases h171_174 : M < 172
              · skip
                have e : M = 171 := by omega
                subst e
                exact vm_171
              · skip
                by_cases h172_174 : M < 173
                · skip
                  have e : M = 172 := by omega
                  subst e
                  exact vm_172
                · skip
                  have e : M = 173 := by omega
                  subst e
                  exact vm_173
            · skip
              by_cases h174_178 : M < 176
              · skip
                by_cases h174_176 : M < 175
                · skip
                  have e : M = 174 := by omega
                  subst e
                  exact vm_174
                · skip
                  have e : M = 175 := by omega
                  subst e
                  exact vm_175
              · skip
                by_cases h176_178 : M < 177
                · skip
                  have e : M = 176 := by omega
                  subst e
                  exact vm_176
                · skip
                  have e : M = 177 := by omega
                  subst e
                  exact vm_177
        · skip
          by_cases h178_192 : M < 185
          · skip
            by_cases h178_185 : M < 181
            · skip
              by_cases h178_181 : M < 179
              · skip
                have e : M = 178 := by omega
                subst e
                exact vm_178
              · skip
                by_cases h179_181 : M < 180
                · skip
                  have e : M = 179 := by omega
                  subst e
                  exact vm_179
                · skip
                  have e : M = 180 := by omega
                  subst e
                  exact vm_180
            · skip
              by_cases h181_185 : M < 183
              · skip
                by_cases h181_183 : M < 182
                · skip
                  have e : M = 181 := by omega
                  subst e
                  exact vm_181
                · skip
                  have e : M = 182 := by omega
                  subst e
                  exact vm_182
              · skip
                by_cases h183_185 : M < 184
                · skip
                  have e : M = 183 := by omega
                  subst e
                  exact vm_183
                · skip
                  have e : M = 184 := by omega
                  subst e
                  exact vm_184
          · skip
            by_cases h185_192 : M < 188
            · skip
              by_cases h185_188 : M < 186
              · skip
                have e : M = 185 := by omega
                subst e
                exact vm_185
              · skip
                by_cases h186_188 : M < 187
                · skip
                  have e : M = 186 := by omega
                  subst e
                  exact vm_186
                · skip
                  have e : M = 187 := by omega
                  subst e
                  exact vm_187
            · skip
              by_cases h188_192 : M < 190
              · skip
                by_cases h188_190 : M < 189
                · skip
                  have e : M = 188 := by omega
                  subst e
                  exact vm_188
                · skip
                  have e : M = 189 := by omega
                  subst e
                  exact vm_189
              · skip
                by_cases h190_192 : M < 191
                · skip
                  have e : M = 190 := by omega
                  subst e
                  exact vm_190
                · skip
                  have e : M = 191 := by omega
                  subst e
                  exact vm_191
      · skip
        by_cases h192_220 : M < 206
        · skip
          by_cases h192_206 : M < 199
          · skip
            by_cases h192_199 : M < 195
            · skip
              by_cases h192_195 : M < 193
              · skip
                have e : M = 192 := by omega
                subst e
                exact vm_192
              · skip
                by_cases h193_195 : M < 194
                · skip
                  have e : M = 193 := by omega
                  subst e
                  exact vm_193
                · skip
                  have e : M = 194 := by omega
                  subst e
                  exact vm_194
            · skip
              by_cases h195_199 : M < 197
              · skip
                by_cases h195_197 : M < 196
                · skip
                  have e : M = 195 := by omega
                  subst e
                  exact vm_195
                · skip
                  have e : M = 196 := by omega
                  subst e
                  exact vm_196
              · skip
                by_cases h197_199 : M < 198
                · skip
                  have e : M = 197 := by omega
                  subst e
                  exact vm_197
                · skip
                  have e : M = 198 := by omega
                  subst e
                  exact vm_198
          · skip
            by_cases h199_206 : M < 202
            · skip
              by_cases h199_202 : M < 200
              · skip
                have e : M = 199 := by omega
                subst e
                exact vm_199
              · skip
                by_cases h200_202 : M < 201
                · skip
                  have e : M = 200 := by omega
                  subst e
                  exact vm_200
                · skip
                  have e : M = 201 := by omega
                  subst e
                  exact vm_201
            · skip
              by_cases h202_206 : M < 204
              · skip
                by_cases h202_204 : M < 203
                · skip
                  have e : M = 202 := by omega
                  subst e
                  exact vm_202
                · skip
                  have e : M = 203 := by omega
                  subst e
                  exact vm_203
              · skip
                by_cases h204_206 : M < 205
                · skip
                  have e : M = 204 := by omega
                  subst e
                  exact vm_204
                · skip
                  have e : M = 205 := by omega
                  subst e
                  exact vm_205
        · skip
          by_cases h206_220 : M < 213
          · skip
            by_cases h206_213 : M < 209
            · skip
              by_cases h206_209 : M < 207
              · skip
                have e : M = 206 := by omega
                subst e
                exact vm_206
              · skip
                by_cases h207_209 : M < 208
                · skip
                  have e : M = 207 := by omega
                  subst e
                  exact vm_207
                · skip
                  have e : M = 208 := by omega
                  subst e
                  exact vm_208
            · skip
              by_cases h209_213 : M < 211
              · skip
                by_cases h209_211 : M < 210
                · skip
                  have e : M = 209 := by omega
                  subst e
                  exact vm_209
                · skip
                  have e : M = 210 := by omega
                  subst e
                  exact vm_210
              · skip
                by_cases h211_213 : M < 212
                · skip
                  have e : M = 211 := by omega
                  subst e
                  exact vm_211
                · skip
                  have e : M = 212 := by omega
                  subst e
                  exact vm_212
          · skip
            by_cases h213_220 : M < 216
            · skip
              by_cases h213_216 : M < 214
              · skip
                have e : M = 213 := by omega
                subst e
                exact vm_213
              · skip
                by_cases h214_216 : M < 215
                · skip
                  have e : M = 214 := by omega
                  subst e
                  exact vm_214
                · skip
                  have e : M = 215 := by omega
                  subst e
                  exact vm_215
            · skip
              by_cases h216_220 : M < 218
              · skip
                by_cases h216_218 : M < 217
                · skip
                  have e : M = 216 := by omega
                  subst e
                  exact vm_216
                · skip
                  have e : M = 217 := by omega
                  subst e
                  exact vm_217
              · skip
                by_cases h218_220 : M < 219
                · skip
                  have e : M = 218 := by omega
                  subst e
                  exact vm_218
                · skip
                  have e : M = 219 := by omega
                  subst e
                  exact vm_219
theorem x_vY {M : Nat} (hc : x_cal M = true) : x_okY (x_mt M) = true := by
  have hM : M < 220 := by
    simp only [x_cal, Bool.and_eq_true] at hc
    exact Nat.le_of_ble_eq_true hc.1.1.1
  by_cases h0_220 : M < 110
  · skip
    by_cases h0_110 : M < 55
    · skip
      by_cases h0_55 : M < 27
      · skip
        by_cases h0_27 : M < 13
        · skip
          by_cases h0_13 : M < 6
          · skip
            by_cases h0_6 : M < 3
            · skip
              by_cases h0_3 : M < 1
              · skip
                have e : M = 0 := by omega
                subst e
                exact vy_0
              · skip
                by_cases h1_3 : M < 2
                · skip
                  have e : M = 1 := by omega
                  subst e
                  exact vy_1
                · skip
                  have e : M = 2 := by omega
                  subst e
                  exact vy_2
            · skip
              by_cases h3_6 : M < 4
              · skip
                have e : M = 3 := by omega
                subst e
                exact vy_3
              · skip
                by_cases h4_6 : M < 5
                · skip
                  have e : M = 4 := by omega
                  subst e
                  exact vy_4
                · skip
                  have e : M = 5 := by omega
                  subst e
                  exact vy_5
          · skip
            by_cases h6_13 : M < 9
            · skip
              by_cases h6_9 : M < 7
              · skip
                have e : M = 6 := by omega
                subst e
                exact vy_6
              · skip
                by_cases h7_9 : M < 8
                · skip
                  have e : M = 7 := by omega
                  subst e
                  exact vy_7
                · skip
                  have e : M = 8 := by omega
                  subst e
                  exact vy_8
            · skip
              by_cases h9_13 : M < 11
              · skip
                by_cases h9_11 : M < 10
                · skip
                  have e : M = 9 := by omega
                  subst e
                  exact vy_9
                · skip
                  have e : M = 10 := by omega
                  subst e
                  exact vy_10
              · skip
                by_cases h11_13 : M < 12
                · skip
                  have e : M = 11 := by omega
                  subst e
                  exact vy_11
                · skip
                  have e : M = 12 := by omega
                  subst e
                  exact vy_12
        · skip
          by_cases h13_27 : M < 20
          · skip
            by_cases h13_20 : M < 16
            · skip
              by_cases h13_16 : M < 14
              · skip
                have e : M = 13 := by omega
                subst e
                exact vy_13
              · skip
                by_cases h14_16 : M < 15
                · skip
                  have e : M = 14 := by omega
                  subst e
                  exact vy_14
                · skip
                  have e : M = 15 := by omega
                  subst e
                  exact vy_15
            · skip
              by_cases h16_20 : M < 18
              · skip
                by_cases h16_18 : M < 17
                · skip
                  have e : M = 16 := by omega
                  subst e
                  exact vy_16
                · skip
                  have e : M = 17 := by omega
                  subst e
                  exact vy_17
              · skip
                by_cases h18_20 : M < 19
                · skip
                  have e : M = 18 := by omega
                  subst e
                  exact vy_18
                · skip
                  have e : M = 19 := by omega
                  subst e
                  exact vy_19
          · skip
            by_cases h20_27 : M < 23
            · skip
              by_cases h20_23 : M < 21
              · skip
                have e : M = 20 := by omega
                subst e
                exact vy_20
              · skip
                by_cases h21_23 : M < 22
                · skip
                  have e : M = 21 := by omega
                  subst e
                  exact vy_21
                · skip
                  have e : M = 22 := by omega
                  subst e
                  exact vy_22
            · skip
              by_cases h23_27 : M < 25
              · skip
                by_cases h23_25 : M < 24
                · skip
                  have e : M = 23 := by omega
                  subst e
                  exact vy_23
                · skip
                  have e : M = 24 := by omega
                  subst e
                  exact vy_24
              · skip
                by_cases h25_27 : M < 26
                · skip
                  have e : M = 25 := by omega
                  subst e
                  exact vy_25
                · skip
                  have e : M = 26 := by omega
                  subst e
                  exact vy_26
      · skip
        by_cases h27_55 : M < 41
        · skip
          by_cases h27_41 : M < 34
          · skip
            by_cases h27_34 : M < 30
            · skip
              by_cases h27_30 : M < 28
              · skip
                have e : M = 27 := by omega
                subst e
                exact vy_27
              · skip
                by_cases h28_30 : M < 29
                · skip
                  have e : M = 28 := by omega
                  subst e
                  exact vy_28
                · skip
                  have e : M = 29 := by omega
                  subst e
                  exact vy_29
            · skip
              by_cases h30_34 : M < 32
              · skip
                by_cases h30_32 : M < 31
                · skip
                  have e : M = 30 := by omega
                  subst e
                  exact vy_30
                · skip
                  have e : M = 31 := by omega
                  subst e
                  exact vy_31
              · skip
                by_cases h32_34 : M < 33
                · skip
                  have e : M = 32 := by omega
                  subst e
                  exact vy_32
                · skip
                  have e : M = 33 := by omega
                  subst e
                  exact vy_33
          · skip
            by_cases h34_41 : M < 37
            · skip
              by_cases h34_37 : M < 35
              · skip
                have e : M = 34 := by omega
                subst e
                exact vy_34
              · skip
                by_cases h35_37 : M < 36
                · skip
                  have e : M = 35 := by omega
                  subst e
                  exact vy_35
                · skip
                  have e : M = 36 := by omega
                  subst e
                  exact vy_36
            · skip
              by_cases h37_41 : M < 39
              · skip
                by_cases h37_39 : M < 38
                · skip
                  have e : M = 37 := by omega
                  subst e
                  exact vy_37
                · skip
                  have e : M = 38 := by omega
                  subst e
                  exact vy_38
              · skip
                by_cases h39_41 : M < 40
                · skip
                  have e : M = 39 := by omega
                  subst e
                  exact vy_39
                · skip
                  have e : M = 40 := by omega
                  subst e
                  exact vy_40
        · skip
          by_cases h41_55 : M < 48
          · skip
            by_cases h41_48 : M < 44
            · skip
              by_cases h41_44 : M < 42
              · skip
                have e : M = 41 := by omega
                subst e
                exact vy_41
              · skip
                by_cases h42_44 : M < 43
                · skip
                  have e : M = 42 := by omega
                  subst e
                  exact vy_42
                · skip
                  have e : M = 43 := by omega
                  subst e
                  exact vy_43
            · skip
              by_cases h44_48 : M < 46
              · skip
                by_cases h44_46 : M < 45
                · skip
                  have e : M = 44 := by omega
                  subst e
                  exact vy_44
                · skip
                  have e : M = 45 := by omega
                  subst e
                  exact vy_45
              · skip
                by_cases h46_48 : M < 47
                · skip
                  have e : M = 46 := by omega
                  subst e
                  exact vy_46
                · skip
                  have e : M = 47 := by omega
                  subst e
                  exact vy_47
          · skip
            by_cases h48_55 : M < 51
            · skip
              by_cases h48_51 : M < 49
              · skip
                have e : M = 48 := by omega
                subst e
                exact vy_48
              · skip
                by_cases h49_51 : M < 50
                · skip
                  have e : M = 49 := by omega
                  subst e
                  exact vy_49
                · skip
                  have e : M = 50 := by omega
                  subst e
                  exact vy_50
            · skip
              by_cases h51_55 : M < 53
              · skip
                by_cases h51_53 : M < 52
                · skip
                  have e : M = 51 := by omega
                  subst e
                  exact vy_51
                · skip
                  have e : M = 52 := by omega
                  subst e
                  exact vy_52
              · skip
                by_cases h53_55 : M < 54
                · skip
                  have e : M = 53 := by omega
                  subst e
                  exact vy_53
                · skip
                  have e : M = 54 := by omega
                  subst e
                  exact vy_54
    · skip
      by_cases h55_110 : M < 82
      · skip
        by_cases h55_82 : M < 68
        · skip
          by_cases h55_68 : M < 61
          · skip
            by_cases h55_61 : M < 58
            · skip
              by_cases h55_58 : M < 56
              · skip
                have e : M = 55 := by omega
                subst e
                exact vy_55
              · skip
                by_cases h56_58 : M < 57
                · skip
                  have e : M = 56 := by omega
                  subst e
                  exact vy_56
                · skip
                  have e : M = 57 := by omega
                  subst e
                  exact vy_57
            · skip
              by_cases h58_61 : M < 59
              · skip
                have e : M = 58 := by omega
                subst e
                exact vy_58
              · skip
                by_cases h59_61 : M < 60
                · skip
                  have e : M = 59 := by omega
                  subst e
                  exact vy_59
                · skip
                  have e : M = 60 := by omega
                  subst e
                  exact vy_60
          · skip
            by_cases h61_68 : M < 64
            · skip
              by_cases h61_64 : M < 62
              · skip
                have e : M = 61 := by omega
                subst e
                exact vy_61
              · skip
                by_cases h62_64 : M < 63
                · skip
                  have e : M = 62 := by omega
                  subst e
                  exact vy_62
                · skip
                  have e : M = 63 := by omega
                  subst e
                  exact vy_63
            · skip
              by_cases h64_68 : M < 66
              · skip
                by_cases h64_66 : M < 65
                · skip
                  have e : M = 64 := by omega
                  subst e
                  exact vy_64
                · skip
                  have e : M = 65 := by omega
                  subst e
                  exact vy_65
              · skip
                by_cases h66_68 : M < 67
                · skip
                  have e : M = 66 := by omega
                  subst e
                  exact vy_66
                · skip
                  have e : M = 67 := by omega
                  subst e
                  exact vy_67
        · skip
          by_cases h68_82 : M < 75
          · skip
            by_cases h68_75 : M < 71
            · skip
              by_cases h68_71 : M < 69
              · skip
                have e : M = 68 := by omega
                subst e
                exact vy_68
              · skip
                by_cases h69_71 : M < 70
                · skip
                  have e : M = 69 := by omega
                  subst e
                  exact vy_69
                · skip
                  have e : M = 70 := by omega
                  subst e
                  exact vy_70
            · skip
              by_cases h71_75 : M < 73
              · skip
                by_cases h71_73 : M < 72
                · skip
                  have e : M = 71 := by omega
                  subst e
                  exact vy_71
                · skip
                  have e : M = 72 := by omega
                  subst e
                  exact vy_72
              · skip
                by_cases h73_75 : M < 74
                · skip
                  have e : M = 73 := by omega
                  subst e
                  exact vy_73
                · skip
                  have e : M = 74 := by omega
                  subst e
                  exact vy_74
          · skip
            by_cases h75_82 : M < 78
            · skip
              by_cases h75_78 : M < 76
              · skip
                have e : M = 75 := by omega
                subst e
                exact vy_75
              · skip
                by_cases h76_78 : M < 77
                · skip
                  have e : M = 76 := by omega
                  subst e
                  exact vy_76
                · skip
                  have e : M = 77 := by omega
                  subst e
                  exact vy_77
            · skip
              by_cases h78_82 : M < 80
              · skip
                by_cases h78_80 : M < 79
                · skip
                  have e : M = 78 := by omega
                  subst e
                  exact vy_78
                · skip
                  have e : M = 79 := by omega
                  subst e
                  exact vy_79
              · skip
                by_cases h80_82 : M < 81
                · skip
                  have e : M = 80 := by omega
                  subst e
                  exact vy_80
                · skip
                  have e : M = 81 := by omega
                  subst e
                  exact vy_81
      · skip
        by_cases h82_110 : M < 96
        · skip
          by_cases h82_96 : M < 89
          · skip
            by_cases h82_89 : M < 85
            · skip
              by_cases h82_85 : M < 83
              · skip
                have e : M = 82 := by omega
                subst e
                exact vy_82
              · skip
                by_cases h83_85 : M < 84
                · skip
                  have e : M = 83 := by omega
                  subst e
                  exact vy_83
                · skip
                  have e : M = 84 := by omega
                  subst e
                  exact vy_84
            · skip
              by_cases h85_89 : M < 87
              · skip
                by_cases h85_87 : M < 86
                · skip
                  have e : M = 85 := by omega
                  subst e
                  exact vy_85
                · skip
                  have e : M = 86 := by omega
                  subst e
                  exact vy_86
              · skip
                by_cases h87_89 : M < 88
                · skip
                  have e : M = 87 := by omega
                  subst e
                  exact vy_87
                · skip
                  have e : M = 88 := by omega
                  subst e
                  exact vy_88
          · skip
            by_cases h89_96 : M < 92
            · skip
              by_cases h89_92 : M < 90
              · skip
                have e : M = 89 := by omega
                subst e
                exact vy_89
              · skip
                by_cases h90_92 : M < 91
                · skip
                  have e : M = 90 := by omega
                  subst e
                  exact vy_90
                · skip
                  have e : M = 91 := by omega
                  subst e
                  exact vy_91
            · skip
              by_cases h92_96 : M < 94
              · skip
                by_cases h92_94 : M < 93
                · skip
                  have e : M = 92 := by omega
                  subst e
                  exact vy_92
                · skip
                  have e : M = 93 := by omega
                  subst e
                  exact vy_93
              · skip
                by_cases h94_96 : M < 95
                · skip
                  have e : M = 94 := by omega
                  subst e
                  exact vy_94
                · skip
                  have e : M = 95 := by omega
                  subst e
                  exact vy_95
        · skip
          by_cases h96_110 : M < 103
          · skip
            by_cases h96_103 : M < 99
            · skip
              by_cases h96_99 : M < 97
              · skip
                have e : M = 96 := by omega
                subst e
                exact vy_96
              · skip
                by_cases h97_99 : M < 98
                · skip
                  have e : M = 97 := by omega
                  subst e
                  exact vy_97
                · skip
                  have e : M = 98 := by omega
                  subst e
                  exact vy_98
            · skip
              by_cases h99_103 : M < 101
              · skip
                by_cases h99_101 : M < 100
                · skip
                  have e : M = 99 := by omega
                  subst e
                  exact vy_99
                · skip
                  have e : M = 100 := by omega
                  subst e
                  exact vy_100
              · skip
                by_cases h101_103 : M < 102
                · skip
                  have e : M = 101 := by omega
                  subst e
                  exact vy_101
                · skip
                  have e : M = 102 := by omega
                  subst e
                  exact vy_102
          · skip
            by_cases h103_110 : M < 106
            · skip
              by_cases h103_106 : M < 104
              · skip
                have e : M = 103 := by omega
                subst e
                exact vy_103
              · skip
                by_cases h104_106 : M < 105
                · skip
                  have e : M = 104 := by omega
                  subst e
                  exact vy_104
                · skip
                  have e : M = 105 := by omega
                  subst e
                  exact vy_105
            · skip
              by_cases h106_110 : M < 108
              · skip
                by_cases h106_108 : M < 107
                · skip
                  have e : M = 106 := by omega
                  subst e
                  exact vy_106
                · skip
                  have e : M = 107 := by omega
                  subst e
                  exact vy_107
              · skip
                by_cases h108_110 : M < 109
                · skip
                  have e : M = 108 := by omega
                  subst e
                  exact vy_108
                · skip
                  have e : M = 109 := by omega
                  subst e
                  exact vy_109
  · skip
    by_cases h110_220 : M < 165
    · skip
      by_cases h110_165 : M < 137
      · skip
        by_cases h110_137 : M < 123
        · skip
          by_cases h110_123 : M < 116
          · skip
            by_cases h110_116 : M < 113
            · skip
              by_cases h110_113 : M < 111
              · skip
                have e : M = 110 := by omega
                subst e
                exact vy_110
              · skip
                by_cases h111_113 : M < 112
                · skip
                  have e : M = 111 := by omega
                  subst e
                  exact vy_111
                · skip
                  have e : M = 112 := by omega
                  subst e
                  exact vy_112
            · skip
              by_cases h113_116 : M < 114
              · skip
                have e : M = 113 := by omega
                subst e
                exact vy_113
              · skip
                by_cases h114_116 : M < 115
                · skip
                  have e : M = 114 := by omega
                  subst e
                  exact vy_114
                · skip
                  have e : M = 115 := by omega
                  subst e
                  exact vy_115
          · skip
            by_cases h116_123 : M < 119
            · skip
              by_cases h116_119 : M < 117
              · skip
                have e : M = 116 := by omega
                subst e
                exact vy_116
              · skip
                by_cases h117_119 : M < 118
                · skip
                  have e : M = 117 := by omega
                  subst e
                  exact vy_117
                · skip
                  have e : M = 118 := by omega
                  subst e
                  exact vy_118
            · skip
              by_cases h119_123 : M < 121
              · skip
                by_cases h119_121 : M < 120
                · skip
                  have e : M = 119 := by omega
                  subst e
                  exact vy_119
                · skip
                  have e : M = 120 := by omega
                  subst e
                  exact vy_120
              · skip
                by_cases h121_123 : M < 122
                · skip
                  have e : M = 121 := by omega
                  subst e
                  exact vy_121
                · skip
                  have e : M = 122 := by omega
                  subst e
                  exact vy_122
        · skip
          by_cases h123_137 : M < 130
          · skip
            by_cases h123_130 : M < 126
            · skip
              by_cases h123_126 : M < 124
              · skip
                have e : M = 123 := by omega
                subst e
                exact vy_123
              · skip
                by_cases h124_126 : M < 125
                · skip
                  have e : M = 124 := by omega
                  subst e
                  exact vy_124
                · skip
                  have e : M = 125 := by omega
                  subst e
                  exact vy_125
            · skip
              by_cases h126_130 : M < 128
              · skip
                by_cases h126_128 : M < 127
                · skip
                  have e : M = 126 := by omega
                  subst e
                  exact vy_126
                · skip
                  have e : M = 127 := by omega
                  subst e
                  exact vy_127
              · skip
                by_cases h128_130 : M < 129
                · skip
                  have e : M = 128 := by omega
                  subst e
                  exact vy_128
                · skip
                  have e : M = 129 := by omega
                  subst e
                  exact vy_129
          · skip
            by_cases h130_137 : M < 133
            · skip
              by_cases h130_133 : M < 131
              · skip
                have e : M = 130 := by omega
                subst e
                exact vy_130
              · skip
                by_cases h131_133 : M < 132
                · skip
                  have e : M = 131 := by omega
                  subst e
                  exact vy_131
                · skip
                  have e : M = 132 := by omega
                  subst e
                  exact vy_132
            · skip
              by_cases h133_137 : M < 135
              · skip
                by_cases h133_135 : M < 134
                · skip
                  have e : M = 133 := by omega
                  subst e
                  exact vy_133
                · skip
                  have e : M = 134 := by omega
                  subst e
                  exact vy_134
              · skip
                by_cases h135_137 : M < 136
                · skip
                  have e : M = 135 := by omega
                  subst e
                  exact vy_135
                · skip
                  have e : M = 136 := by omega
                  subst e
                  exact vy_136
      · skip
        by_cases h137_165 : M < 151
        · skip
          by_cases h137_151 : M < 144
          · skip
            by_cases h137_144 : M < 140
            · skip
              by_cases h137_140 : M < 138
              · skip
                have e : M = 137 := by omega
                subst e
                exact vy_137
              · skip
                by_cases h138_140 : M < 139
                · skip
                  have e : M = 138 := by omega
                  subst e
                  exact vy_138
                · skip
                  have e : M = 139 := by omega
                  subst e
                  exact vy_139
            · skip
              by_cases h140_144 : M < 142
              · skip
                by_cases h140_142 : M < 141
                · skip
                  have e : M = 140 := by omega
                  subst e
                  exact vy_140
                · skip
                  have e : M = 141 := by omega
                  subst e
                  exact vy_141
              · skip
                by_cases h142_144 : M < 143
                · skip
                  have e : M = 142 := by omega
                  subst e
                  exact vy_142
                · skip
                  have e : M = 143 := by omega
                  subst e
                  exact vy_143
          · skip
            by_cases h144_151 : M < 147
            · skip
              by_cases h144_147 : M < 145
              · skip
                have e : M = 144 := by omega
                subst e
                exact vy_144
              · skip
                by_cases h145_147 : M < 146
                · skip
                  have e : M = 145 := by omega
                  subst e
                  exact vy_145
                · skip
                  have e : M = 146 := by omega
                  subst e
                  exact vy_146
            · skip
              by_cases h147_151 : M < 149
              · skip
                by_cases h147_149 : M < 148
                · skip
                  have e : M = 147 := by omega
                  subst e
                  exact vy_147
                · skip
                  have e : M = 148 := by omega
                  subst e
                  exact vy_148
              · skip
                by_cases h149_151 : M < 150
                · skip
                  have e : M = 149 := by omega
                  subst e
                  exact vy_149
                · skip
                  have e : M = 150 := by omega
                  subst e
                  exact vy_150
        · skip
          by_cases h151_165 : M < 158
          · skip
            by_cases h151_158 : M < 154
            · skip
              by_cases h151_154 : M < 152
              · skip
                have e : M = 151 := by omega
                subst e
                exact vy_151
              · skip
                by_cases h152_154 : M < 153
                · skip
                  have e : M = 152 := by omega
                  subst e
                  exact vy_152
                · skip
                  have e : M = 153 := by omega
                  subst e
                  exact vy_153
            · skip
              by_cases h154_158 : M < 156
              · skip
                by_cases h154_156 : M < 155
                · skip
                  have e : M = 154 := by omega
                  subst e
                  exact vy_154
                · skip
                  have e : M = 155 := by omega
                  subst e
                  exact vy_155
              · skip
                by_cases h156_158 : M < 157
                · skip
                  have e : M = 156 := by omega
                  subst e
                  exact vy_156
                · skip
                  have e : M = 157 := by omega
                  subst e
                  exact vy_157
          · skip
            by_cases h158_165 : M < 161
            · skip
              by_cases h158_161 : M < 159
              · skip
                have e : M = 158 := by omega
                subst e
                exact vy_158
              · skip
                by_cases h159_161 : M < 160
                · skip
                  have e : M = 159 := by omega
                  subst e
                  exact vy_159
                · skip
                  have e : M = 160 := by omega
                  subst e
                  exact vy_160
            · skip
              by_cases h161_165 : M < 163
              · skip
                by_cases h161_163 : M < 162
                · skip
                  have e : M = 161 := by omega
                  subst e
                  exact vy_161
                · skip
                  have e : M = 162 := by omega
                  subst e
                  exact vy_162
              · skip
                by_cases h163_165 : M < 164
                · skip
                  have e : M = 163 := by omega
                  subst e
                  exact vy_163
                · skip
                  have e : M = 164 := by omega
                  subst e
                  exact vy_164
    · skip
      by_cases h165_220 : M < 192
      · skip
        by_cases h165_192 : M < 178
        · skip
          by_cases h165_178 : M < 171
          · skip
            by_cases h165_171 : M < 168
            · skip
              by_cases h165_168 : M < 166
              · skip
                have e : M = 165 := by omega
                subst e
                exact vy_165
              · skip
                by_cases h166_168 : M < 167
                · skip
                  have e : M = 166 := by omega
                  subst e
                  exact vy_166
                · skip
                  have e : M = 167 := by omega
                  subst e
                  exact vy_167
            · skip
              by_cases h168_171 : M < 169
              · skip
                have e : M = 168 := by omega
                subst e
                exact vy_168
              · skip
                by_cases h169_171 : M < 170
                · skip
                  have e : M = 169 := by omega
                  subst e
                  exact vy_169
                · skip
                  have e : M = 170 := by omega
                  subst e
                  exact vy_170
          · skip
            by_cases h171_178 : M < 174
            · skip
              by_cases h171_174 : M < 172
              · skip
                have e : M = 171 := by omega
                subst e
                exact vy_171
              · skip
                by_cases h172_174 : M < 173
                · skip
                  have e : M = 172 := by omega
                  subst e
                  exact vy_172
                · skip
                  have e : M = 173 := by omega
                  subst e
                  exact vy_173
            · skip
              by_cases h174_178 : M < 176
              · skip
                by_cases h174_176 : M < 175
                · skip
                  have e : M = 174 := by omega
                  subst e
                  exact vy_174
                · skip
                  have e : M = 175 := by omega
                  subst e
                  exact vy_175
              · skip
                by_cases h176_178 : M < 177
                · skip
                  have e : M = 176 := by omega
                  subst e
                  exact vy_176
                · skip
                  have e : M = 177 := by omega
                  subst e
                  exact vy_177
        · skip
          by_cases h178_192 : M < 185
          · skip
            by_cases h178_185 : M < 181
            · skip
              by_cases h178_181 : M < 179
              · skip
                have e : M = 178 := by omega
                subst e
                exact vy_178
              · skip
                by_cases h179_181 : M < 180
                · skip
                  have e : M = 179 := by omega
                  subst e
                  exact vy_179
                · skip
                  have e : M = 180 := by omega
                  subst e
                  exact vy_180
            · skip
              by_cases h181_185 : M < 183
              · skip
                by_cases h181_183 : M < 182
                · skip
                  have e : M = 181 := by omega
                  subst e
                  exact vy_181
                · skip
                  have e : M = 182 := by omega
                  subst e
                  exact vy_182
              · skip
                by_cases h183_185 : M < 184
                · skip
                  have e : M = 183 := by omega
                  subst e
                  exact vy_183
                · skip
                  have e : M = 184 := by omega
                  subst e
                  exact vy_184
          · skip
            by_cases h185_192 : M < 188
            · skip
              by_cases h185_188 : M < 186
              · skip
                have e : M = 185 := by omega
                subst e
                exact vy_185
              · skip
                by_cases h186_188 : M < 187
                · skip
                  have e : M = 186 := by omega
                  subst e
                  exact vy_186
                · skip
                  have e : M = 187 := by omega
                  subst e
                  exact vy_187
            · skip
              by_cases h188_192 : M < 190
              · skip
                by_cases h188_190 : M < 189
                · skip
                  have e : M = 188 := by omega
                  subst e
                  exact vy_188
                · skip
                  have e : M = 189 := by omega
                  subst e
                  exact vy_189
              · skip
                by_cases h190_192 : M < 191
                · skip
                  have e : M = 190 := by omega
                  subst e
                  exact vy_190
                · skip
                  have e : M = 191 := by omega
                  subst e
                  exact vy_191
      · skip
        by_cases h192_220 : M < 206
        · skip
          by_cases h192_206 : M < 199
          · skip
            by_cases h192_199 : M < 195
            · skip
              by_cases h192_195 : M < 193
              · skip
                have e : M = 192 := by omega
                subst e
                exact vy_192
              · skip
                by_cases h193_195 : M < 194
                · skip
                  have e : M = 193 := by omega
                  subst e
                  exact vy_193
                · skip
                  have e : M = 194 := by omega
                  subst e
                  exact vy_194
            · skip
              by_cases h195_199 : M < 197
              · skip
                by_cases h195_197 : M < 196
                · skip
                  have e : M = 195 := by omega
                  subst e
                  exact vy_195
                · skip
                  have e : M = 196 := by omega
                  subst e
                  exact vy_196
              · skip
                by_cases h197_199 : M < 198
                · skip
                  have e : M = 197 := by omega
                  subst e
                  exact vy_197
                · skip
                  have e : M = 198 := by omega
                  subst e
                  exact vy_198
          · skip
            by_cases h199_206 : M < 202
            · skip
              by_cases h199_202 : M < 200
              · skip
                have e : M = 199 := by omega
                subst e
                exact vy_199
              · skip
                by_cases h200_202 : M < 201
                · skip
                  have e : M = 200 := by omega
                  subst e
                  exact vy_200
                · skip
                  have e : M = 201 := by omega
                  subst e
                  exact vy_201
            · skip
              by_cases h202_206 : M < 204
              · skip
                by_cases h202_204 : M < 203
                · skip
                  have e : M = 202 := by omega
                  subst e
                  exact vy_202
                · skip
                  have e : M = 203 := by omega
                  subst e
                  exact vy_203
              · skip
                by_cases h204_206 : M < 205
                · skip
                  have e : M = 204 := by omega
                  subst e
                  exact vy_204
                · skip
                  have e : M = 205 := by omega
                  subst e
                  exact vy_205
        · skip
          by_cases h206_220 : M < 213
          · skip
            by_cases h206_213 : M < 209
            · skip
              by_cases h206_209 : M < 207
              · skip
                have e : M = 206 := by omega
                subst e
                exact vy_206
              · skip
                by_cases h207_209 : M < 208
                · skip
                  have e : M = 207 := by omega
                  subst e
                  exact vy_207
                · skip
                  have e : M = 208 := by omega
                  subst e
                  exact vy_208
            · skip
              by_cases h209_213 : M < 211
              · skip
                by_cases h209_211 : M < 210
                · skip
                  have e : M = 209 := by omega
                  subst e
                  exact vy_209
                · skip
                  have e : M = 210 := by omega
                  subst e
                  exact vy_210
              · skip
                by_cases h211_213 : M < 212
                · skip
                  have e : M = 211 := by omega
                  subst e
                  exact vy_211
                · skip
                  have e : M = 212 := by omega
                  subst e
                  exact vy_212
          · skip
            by_cases h213_220 : M < 216
            · skip
              by_cases h213_216 : M < 214
              · skip
                have e : M = 213 := by omega
                subst e
                exact absurd hc (by decide)
              · skip
                by_cases h214_216 : M < 215
                · skip
                  have e : M = 214 := by omega
                  subst e
                  exact absurd hc (by decide)
                · skip
                  have e : M = 215 := by omega
                  subst e
                  exact vy_215
            · skip
              by_cases h216_220 : M < 218
              · skip
                by_cases h216_218 : M < 217
                · skip
                  have e : M = 216 := by omega
                  subst e
                  exact vy_216
                · skip
                  have e : M = 217 := by omega
                  subst e
                  exact vy_217
              · skip
                by_cases h218_220 : M < 219
                · skip
                  have e : M = 218 := by omega
                  subst e
                  exact vy_218
                · skip
                  have e : M = 219 := by omega
                  subst e
                  exact absurd hc (by decide)
theorem x_v2 (M : Nat) : x_okm (x_mt M) = true := by
  by_cases h : M < 220
  · exact x_v2a M h
  · have hb : Nat.ble M 219 = false := by
      cases hh : Nat.ble M 219 with
      | false => rfl
      | true => exact absurd (Nat.le_of_ble_eq_true hh) (by omega)
    have h0 : x_mt M = x_mt 0 := by
      show cond (Nat.ble M 219) _ _ = _
      rw [hb]
      rfl
    rw [h0]
    exact x_v2a 0 (by omega)
theorem x_val {M pc : Nat} {e : xI} (h1 : pc < (x_mt M).2.2.2.2.2.2.2.1.2.2.2.2) (h : (x_mt M).2.2.2.2.2.2.2.2 pc = some e) : x_ok (x_mt M) pc e = true := by
  have h2 := List.all_eq_true.mp (x_v2 M) pc (List.mem_range.mpr h1)
  rw [h] at h2
  exact h2
