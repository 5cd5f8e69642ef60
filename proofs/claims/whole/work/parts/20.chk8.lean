/-! printed: the blocks are the code's -/
theorem ck_L_law_0 : (((t_L_law.drop 0).take 15).all (mm_bok q_L_law)) = true := by decide +kernel
theorem ck_L_law_1 : (((t_L_law.drop 15).take 18).all (mm_bok q_L_law)) = true := by decide +kernel
theorem ck_L_law_2 : (((t_L_law.drop 33).take 18).all (mm_bok q_L_law)) = true := by decide +kernel
theorem ck_L_law_3 : (((t_L_law.drop 51).take 20).all (mm_bok q_L_law)) = true := by decide +kernel
theorem ck_L_law_4 : (((t_L_law.drop 71).take 20).all (mm_bok q_L_law)) = true := by decide +kernel
theorem ck_L_law_5 : (((t_L_law.drop 91).take 24).all (mm_bok q_L_law)) = true := by decide +kernel
theorem ck_L_law_6 : (((t_L_law.drop 115).take 20).all (mm_bok q_L_law)) = true := by decide +kernel
theorem ck_L_law_7 : (((t_L_law.drop 135).take 15).all (mm_bok q_L_law)) = true := by decide +kernel
theorem ck_L_law_8 : (((t_L_law.drop 150).take 16).all (mm_bok q_L_law)) = true := by decide +kernel
theorem ck_L_law_9 : (((t_L_law.drop 166).take 25).all (mm_bok q_L_law)) = true := by decide +kernel
theorem ck_L_law : (t_L_law.all (mm_bok q_L_law)) = true := mm_all0 (mm_alld (b := 15) ck_L_law_0 (mm_alld (b := 33) ck_L_law_1 (mm_alld (b := 51) ck_L_law_2 (mm_alld (b := 71) ck_L_law_3 (mm_alld (b := 91) ck_L_law_4 (mm_alld (b := 115) ck_L_law_5 (mm_alld (b := 135) ck_L_law_6 (mm_alld (b := 150) ck_L_law_7 (mm_alld (b := 166) ck_L_law_8 (mm_alld (b := 191) ck_L_law_9 (mm_alle (by decide +kernel))))))))))))
