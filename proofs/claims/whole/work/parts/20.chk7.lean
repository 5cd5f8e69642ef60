/-! printed: the blocks are the code's -/
theorem ck_M_ask : (t_M_ask.all (mm_bok q_M_ask)) = true := by decide +kernel
theorem ck_M_gaps : (t_M_gaps.all (mm_bok q_M_gaps)) = true := by decide +kernel
theorem ck_M_parts : (t_M_parts.all (mm_bok q_M_parts)) = true := by decide +kernel
theorem ck_M_tell : (t_M_tell.all (mm_bok q_M_tell)) = true := by decide +kernel
theorem ck_M_check : (t_M_check.all (mm_bok q_M_check)) = true := by decide +kernel
theorem ck_M_keep : (t_M_keep.all (mm_bok q_M_keep)) = true := by decide +kernel
theorem ck_M_back : (t_M_back.all (mm_bok q_M_back)) = true := by decide +kernel
theorem ck_M_pathsShut : (t_M_pathsShut.all (mm_bok q_M_pathsShut)) = true := by decide +kernel
theorem ck_M_mendsWaiting : (t_M_mendsWaiting.all (mm_bok q_M_mendsWaiting)) = true := by decide +kernel
theorem ck_M_count : (t_M_count.all (mm_bok q_M_count)) = true := by decide +kernel
