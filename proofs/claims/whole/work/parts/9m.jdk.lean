/-! The JDK's own methods over the class's String constants. -/
theorem jb {n : Nat} {w : Cond} (h : decide (tables_1[n]? = some w) = true) (hg : goodWord w = true) : w ∈ mm_big := mm_big_of (mm_mem_tab h) hg
def jy_len : MethodName := ⟨"java/lang/String", "length", "()I"⟩
def jw_len : Cond := .code jy_len prog_17_method_54_code 1 (some .int)
theorem jc_len : jw_len ∈ mm_big := jb (n := 724) (by decide +kernel) rfl
theorem ji_len : Cond.instanceMethod jy_len ∈ mm_big := jb (n := 722) (by decide +kernel) rfl
theorem jl_len : Cond.selects "java/lang/String" jy_len jy_len ∈ mm_big := jb (n := 723) (by decide +kernel) rfl
theorem jd_len_0 : decode prog_17_method_54_code 0 = .ok (.aload_n 0, 1) := by decide +kernel
theorem jd_len_1 : decode prog_17_method_54_code 1 = .ok (.getfield 9, 3) := by decide +kernel
theorem jd_len_4 : decode prog_17_method_54_code 4 = .ok (.arraylength, 1) := by decide +kernel
theorem jd_len_5 : decode prog_17_method_54_code 5 = .ok (.aload_n 0, 1) := by decide +kernel
theorem jd_len_6 : decode prog_17_method_54_code 6 = .ok (.invokevirtual 335, 3) := by decide +kernel
theorem jd_len_9 : decode prog_17_method_54_code 9 = .ok (.ishr, 1) := by decide +kernel
theorem jd_len_10 : decode prog_17_method_54_code 10 = .ok (.ireturn, 1) := by decide +kernel
def jy_cod : MethodName := ⟨"java/lang/String", "coder", "()B"⟩
def jw_cod : Cond := .code jy_cod prog_17_method_152_code 1 (some .byte)
theorem jc_cod : jw_cod ∈ mm_big := jb (n := 728) (by decide +kernel) rfl
theorem ji_cod : Cond.instanceMethod jy_cod ∈ mm_big := jb (n := 726) (by decide +kernel) rfl
theorem jl_cod : Cond.selects "java/lang/String" jy_cod jy_cod ∈ mm_big := jb (n := 727) (by decide +kernel) rfl
theorem jd_cod_0 : decode prog_17_method_152_code 0 = .ok (.getstatic 38, 3) := by decide +kernel
theorem jd_cod_3 : decode prog_17_method_152_code 3 = .ok (.ifCond .eq 10, 3) := by decide +kernel
theorem jd_cod_6 : decode prog_17_method_152_code 6 = .ok (.aload_n 0, 1) := by decide +kernel
theorem jd_cod_7 : decode prog_17_method_152_code 7 = .ok (.getfield 15, 3) := by decide +kernel
theorem jd_cod_10 : decode prog_17_method_152_code 10 = .ok (.goto 4, 3) := by decide +kernel
theorem jd_cod_13 : decode prog_17_method_152_code 13 = .ok (.iconst 1, 1) := by decide +kernel
theorem jd_cod_14 : decode prog_17_method_152_code 14 = .ok (.ireturn, 1) := by decide +kernel
def jy_cha : MethodName := ⟨"java/lang/String", "charAt", "(I)C"⟩
def jw_cha : Cond := .code jy_cha prog_17_method_56_code 2 (some .char)
theorem jc_cha : jw_cha ∈ mm_big := jb (n := 734) (by decide +kernel) rfl
theorem ji_cha : Cond.instanceMethod jy_cha ∈ mm_big := jb (n := 732) (by decide +kernel) rfl
theorem jl_cha : Cond.selects "java/lang/String" jy_cha jy_cha ∈ mm_big := jb (n := 733) (by decide +kernel) rfl
theorem jd_cha_0 : decode prog_17_method_56_code 0 = .ok (.aload_n 0, 1) := by decide +kernel
theorem jd_cha_1 : decode prog_17_method_56_code 1 = .ok (.invokevirtual 492, 3) := by decide +kernel
theorem jd_cha_4 : decode prog_17_method_56_code 4 = .ok (.ifCond .eq 12, 3) := by decide +kernel
theorem jd_cha_7 : decode prog_17_method_56_code 7 = .ok (.aload_n 0, 1) := by decide +kernel
theorem jd_cha_8 : decode prog_17_method_56_code 8 = .ok (.getfield 9, 3) := by decide +kernel
theorem jd_cha_11 : decode prog_17_method_56_code 11 = .ok (.iload_n 1, 1) := by decide +kernel
theorem jd_cha_12 : decode prog_17_method_56_code 12 = .ok (.invokestatic 495, 3) := by decide +kernel
theorem jd_cha_15 : decode prog_17_method_56_code 15 = .ok (.ireturn, 1) := by decide +kernel
theorem jd_cha_16 : decode prog_17_method_56_code 16 = .ok (.aload_n 0, 1) := by decide +kernel
theorem jd_cha_17 : decode prog_17_method_56_code 17 = .ok (.getfield 9, 3) := by decide +kernel
theorem jd_cha_20 : decode prog_17_method_56_code 20 = .ok (.iload_n 1, 1) := by decide +kernel
theorem jd_cha_21 : decode prog_17_method_56_code 21 = .ok (.invokestatic 498, 3) := by decide +kernel
theorem jd_cha_24 : decode prog_17_method_56_code 24 = .ok (.ireturn, 1) := by decide +kernel
def jy_lat : MethodName := ⟨"java/lang/String", "isLatin1", "()Z"⟩
def jw_lat : Cond := .code jy_lat prog_17_method_154_code 1 (some .boolean)
theorem jc_lat : jw_lat ∈ mm_big := jb (n := 738) (by decide +kernel) rfl
theorem ji_lat : Cond.instanceMethod jy_lat ∈ mm_big := jb (n := 736) (by decide +kernel) rfl
theorem jl_lat : Cond.selects "java/lang/String" jy_lat jy_lat ∈ mm_big := jb (n := 737) (by decide +kernel) rfl
theorem jd_lat_0 : decode prog_17_method_154_code 0 = .ok (.getstatic 38, 3) := by decide +kernel
theorem jd_lat_3 : decode prog_17_method_154_code 3 = .ok (.ifCond .eq 14, 3) := by decide +kernel
theorem jd_lat_6 : decode prog_17_method_154_code 6 = .ok (.aload_n 0, 1) := by decide +kernel
theorem jd_lat_7 : decode prog_17_method_154_code 7 = .ok (.getfield 15, 3) := by decide +kernel
theorem jd_lat_10 : decode prog_17_method_154_code 10 = .ok (.ifCond .ne 7, 3) := by decide +kernel
theorem jd_lat_13 : decode prog_17_method_154_code 13 = .ok (.iconst 1, 1) := by decide +kernel
theorem jd_lat_14 : decode prog_17_method_154_code 14 = .ok (.goto 4, 3) := by decide +kernel
theorem jd_lat_17 : decode prog_17_method_154_code 17 = .ok (.iconst 0, 1) := by decide +kernel
theorem jd_lat_18 : decode prog_17_method_154_code 18 = .ok (.ireturn, 1) := by decide +kernel
def jy_lch : MethodName := ⟨"java/lang/StringLatin1", "charAt", "([BI)C"⟩
def jw_lch : Cond := .code jy_lch prog_18_method_2_code 2 (some .char)
theorem jc_lch : jw_lch ∈ mm_big := jb (n := 741) (by decide +kernel) rfl
theorem js_lch : Cond.static jy_lch ∈ mm_big := jb (n := 740) (by decide +kernel) rfl
theorem jd_lch_0 : decode prog_18_method_2_code 0 = .ok (.iload_n 1, 1) := by decide +kernel
theorem jd_lch_1 : decode prog_18_method_2_code 1 = .ok (.aload_n 0, 1) := by decide +kernel
theorem jd_lch_2 : decode prog_18_method_2_code 2 = .ok (.arraylength, 1) := by decide +kernel
theorem jd_lch_3 : decode prog_18_method_2_code 3 = .ok (.invokestatic 9, 3) := by decide +kernel
theorem jd_lch_6 : decode prog_18_method_2_code 6 = .ok (.aload_n 0, 1) := by decide +kernel
theorem jd_lch_7 : decode prog_18_method_2_code 7 = .ok (.iload_n 1, 1) := by decide +kernel
theorem jd_lch_8 : decode prog_18_method_2_code 8 = .ok (.baload, 1) := by decide +kernel
theorem jd_lch_9 : decode prog_18_method_2_code 9 = .ok (.sipush 255, 3) := by decide +kernel
theorem jd_lch_12 : decode prog_18_method_2_code 12 = .ok (.iand, 1) := by decide +kernel
theorem jd_lch_13 : decode prog_18_method_2_code 13 = .ok (.i2c, 1) := by decide +kernel
theorem jd_lch_14 : decode prog_18_method_2_code 14 = .ok (.ireturn, 1) := by decide +kernel
def jy_cki : MethodName := ⟨"java/lang/String", "checkIndex", "(II)V"⟩
def jw_cki : Cond := .code jy_cki prog_17_method_155_code 2 none
theorem jc_cki : jw_cki ∈ mm_big := jb (n := 744) (by decide +kernel) rfl
theorem js_cki : Cond.static jy_cki ∈ mm_big := jb (n := 743) (by decide +kernel) rfl
theorem jd_cki_0 : decode prog_17_method_155_code 0 = .ok (.iload_n 0, 1) := by decide +kernel
theorem jd_cki_1 : decode prog_17_method_155_code 1 = .ok (.iload_n 1, 1) := by decide +kernel
theorem jd_cki_2 : decode prog_17_method_155_code 2 = .ok (.getstatic 1053, 3) := by decide +kernel
theorem jd_cki_5 : decode prog_17_method_155_code 5 = .ok (.invokestatic 1059, 3) := by decide +kernel
theorem jd_cki_8 : decode prog_17_method_155_code 8 = .ok (.pop, 1) := by decide +kernel
theorem jd_cki_9 : decode prog_17_method_155_code 9 = .ok (.return_, 1) := by decide +kernel
def jy_pci : MethodName := ⟨"jdk/internal/util/Preconditions", "checkIndex", "(IILjava/util/function/BiFunction;)I"⟩
def jw_pci : Cond := .code jy_pci prog_21_method_11_code 3 (some .int)
theorem jc_pci : jw_pci ∈ mm_big := jb (n := 749) (by decide +kernel) rfl
theorem js_pci : Cond.static jy_pci ∈ mm_big := jb (n := 748) (by decide +kernel) rfl
theorem jd_pci_0 : decode prog_21_method_11_code 0 = .ok (.iload_n 0, 1) := by decide +kernel
theorem jd_pci_1 : decode prog_21_method_11_code 1 = .ok (.ifCond .lt 8, 3) := by decide +kernel
theorem jd_pci_4 : decode prog_21_method_11_code 4 = .ok (.iload_n 0, 1) := by decide +kernel
theorem jd_pci_5 : decode prog_21_method_11_code 5 = .ok (.iload_n 1, 1) := by decide +kernel
theorem jd_pci_6 : decode prog_21_method_11_code 6 = .ok (.if_icmp .lt 10, 3) := by decide +kernel
theorem jd_pci_9 : decode prog_21_method_11_code 9 = .ok (.aload_n 2, 1) := by decide +kernel
theorem jd_pci_10 : decode prog_21_method_11_code 10 = .ok (.iload_n 0, 1) := by decide +kernel
theorem jd_pci_11 : decode prog_21_method_11_code 11 = .ok (.iload_n 1, 1) := by decide +kernel
theorem jd_pci_12 : decode prog_21_method_11_code 12 = .ok (.invokestatic 95, 3) := by decide +kernel
theorem jd_pci_15 : decode prog_21_method_11_code 15 = .ok (.athrow, 1) := by decide +kernel
theorem jd_pci_16 : decode prog_21_method_11_code 16 = .ok (.iload_n 0, 1) := by decide +kernel
theorem jd_pci_17 : decode prog_21_method_11_code 17 = .ok (.ireturn, 1) := by decide +kernel
def jy_ix1 : MethodName := ⟨"java/lang/String", "indexOf", "(I)I"⟩
def jw_ix1 : Cond := .code jy_ix1 prog_17_method_79_code 2 (some .int)
theorem jc_ix1 : jw_ix1 ∈ mm_big := jb (n := 819) (by decide +kernel) rfl
theorem ji_ix1 : Cond.instanceMethod jy_ix1 ∈ mm_big := jb (n := 817) (by decide +kernel) rfl
theorem jl_ix1 : Cond.selects "java/lang/String" jy_ix1 jy_ix1 ∈ mm_big := jb (n := 818) (by decide +kernel) rfl
theorem jd_ix1_0 : decode prog_17_method_79_code 0 = .ok (.aload_n 0, 1) := by decide +kernel
theorem jd_ix1_1 : decode prog_17_method_79_code 1 = .ok (.iload_n 1, 1) := by decide +kernel
theorem jd_ix1_2 : decode prog_17_method_79_code 2 = .ok (.iconst 0, 1) := by decide +kernel
theorem jd_ix1_3 : decode prog_17_method_79_code 3 = .ok (.invokevirtual 633, 3) := by decide +kernel
theorem jd_ix1_6 : decode prog_17_method_79_code 6 = .ok (.ireturn, 1) := by decide +kernel
def jy_ix2 : MethodName := ⟨"java/lang/String", "indexOf", "(II)I"⟩
def jw_ix2 : Cond := .code jy_ix2 prog_17_method_80_code 3 (some .int)
theorem jc_ix2 : jw_ix2 ∈ mm_big := jb (n := 823) (by decide +kernel) rfl
theorem ji_ix2 : Cond.instanceMethod jy_ix2 ∈ mm_big := jb (n := 821) (by decide +kernel) rfl
theorem jl_ix2 : Cond.selects "java/lang/String" jy_ix2 jy_ix2 ∈ mm_big := jb (n := 822) (by decide +kernel) rfl
theorem jd_ix2_0 : decode prog_17_method_80_code 0 = .ok (.aload_n 0, 1) := by decide +kernel
theorem jd_ix2_1 : decode prog_17_method_80_code 1 = .ok (.invokevirtual 492, 3) := by decide +kernel
theorem jd_ix2_4 : decode prog_17_method_80_code 4 = .ok (.ifCond .eq 19, 3) := by decide +kernel
theorem jd_ix2_7 : decode prog_17_method_80_code 7 = .ok (.aload_n 0, 1) := by decide +kernel
theorem jd_ix2_8 : decode prog_17_method_80_code 8 = .ok (.getfield 9, 3) := by decide +kernel
theorem jd_ix2_11 : decode prog_17_method_80_code 11 = .ok (.iload_n 1, 1) := by decide +kernel
theorem jd_ix2_12 : decode prog_17_method_80_code 12 = .ok (.iload_n 2, 1) := by decide +kernel
theorem jd_ix2_13 : decode prog_17_method_80_code 13 = .ok (.aload_n 0, 1) := by decide +kernel
theorem jd_ix2_14 : decode prog_17_method_80_code 14 = .ok (.invokevirtual 505, 3) := by decide +kernel
theorem jd_ix2_17 : decode prog_17_method_80_code 17 = .ok (.invokestatic 637, 3) := by decide +kernel
theorem jd_ix2_20 : decode prog_17_method_80_code 20 = .ok (.goto 16, 3) := by decide +kernel
theorem jd_ix2_23 : decode prog_17_method_80_code 23 = .ok (.aload_n 0, 1) := by decide +kernel
theorem jd_ix2_24 : decode prog_17_method_80_code 24 = .ok (.getfield 9, 3) := by decide +kernel
theorem jd_ix2_27 : decode prog_17_method_80_code 27 = .ok (.iload_n 1, 1) := by decide +kernel
theorem jd_ix2_28 : decode prog_17_method_80_code 28 = .ok (.iload_n 2, 1) := by decide +kernel
theorem jd_ix2_29 : decode prog_17_method_80_code 29 = .ok (.aload_n 0, 1) := by decide +kernel
theorem jd_ix2_30 : decode prog_17_method_80_code 30 = .ok (.invokevirtual 505, 3) := by decide +kernel
theorem jd_ix2_33 : decode prog_17_method_80_code 33 = .ok (.invokestatic 640, 3) := by decide +kernel
theorem jd_ix2_36 : decode prog_17_method_80_code 36 = .ok (.ireturn, 1) := by decide +kernel
def jy_lix : MethodName := ⟨"java/lang/StringLatin1", "indexOf", "([BIII)I"⟩
def jw_lix : Cond := .code jy_lix prog_18_method_22_code 4 (some .int)
theorem jc_lix : jw_lix ∈ mm_big := jb (n := 827) (by decide +kernel) rfl
theorem js_lix : Cond.static jy_lix ∈ mm_big := jb (n := 826) (by decide +kernel) rfl
theorem jd_lix_0 : decode prog_18_method_22_code 0 = .ok (.iload_n 1, 1) := by decide +kernel
theorem jd_lix_1 : decode prog_18_method_22_code 1 = .ok (.invokestatic 88, 3) := by decide +kernel
theorem jd_lix_4 : decode prog_18_method_22_code 4 = .ok (.ifCond .ne 5, 3) := by decide +kernel
theorem jd_lix_7 : decode prog_18_method_22_code 7 = .ok (.iconst (-1), 1) := by decide +kernel
theorem jd_lix_8 : decode prog_18_method_22_code 8 = .ok (.ireturn, 1) := by decide +kernel
theorem jd_lix_9 : decode prog_18_method_22_code 9 = .ok (.iload_n 2, 1) := by decide +kernel
theorem jd_lix_10 : decode prog_18_method_22_code 10 = .ok (.iconst 0, 1) := by decide +kernel
theorem jd_lix_11 : decode prog_18_method_22_code 11 = .ok (.invokestatic 92, 3) := by decide +kernel
theorem jd_lix_14 : decode prog_18_method_22_code 14 = .ok (.istore_n 2, 1) := by decide +kernel
theorem jd_lix_15 : decode prog_18_method_22_code 15 = .ok (.iload_n 3, 1) := by decide +kernel
theorem jd_lix_16 : decode prog_18_method_22_code 16 = .ok (.aload_n 0, 1) := by decide +kernel
theorem jd_lix_17 : decode prog_18_method_22_code 17 = .ok (.arraylength, 1) := by decide +kernel
theorem jd_lix_18 : decode prog_18_method_22_code 18 = .ok (.invokestatic 38, 3) := by decide +kernel
theorem jd_lix_21 : decode prog_18_method_22_code 21 = .ok (.istore_n 3, 1) := by decide +kernel
theorem jd_lix_22 : decode prog_18_method_22_code 22 = .ok (.iload_n 2, 1) := by decide +kernel
theorem jd_lix_23 : decode prog_18_method_22_code 23 = .ok (.iload_n 3, 1) := by decide +kernel
theorem jd_lix_24 : decode prog_18_method_22_code 24 = .ok (.if_icmp .lt 5, 3) := by decide +kernel
theorem jd_lix_27 : decode prog_18_method_22_code 27 = .ok (.iconst (-1), 1) := by decide +kernel
theorem jd_lix_28 : decode prog_18_method_22_code 28 = .ok (.ireturn, 1) := by decide +kernel
theorem jd_lix_29 : decode prog_18_method_22_code 29 = .ok (.aload_n 0, 1) := by decide +kernel
theorem jd_lix_30 : decode prog_18_method_22_code 30 = .ok (.iload_n 1, 1) := by decide +kernel
theorem jd_lix_31 : decode prog_18_method_22_code 31 = .ok (.iload_n 2, 1) := by decide +kernel
theorem jd_lix_32 : decode prog_18_method_22_code 32 = .ok (.iload_n 3, 1) := by decide +kernel
theorem jd_lix_33 : decode prog_18_method_22_code 33 = .ok (.invokestatic 95, 3) := by decide +kernel
theorem jd_lix_36 : decode prog_18_method_22_code 36 = .ok (.ireturn, 1) := by decide +kernel
def jy_enc : MethodName := ⟨"java/lang/StringLatin1", "canEncode", "(I)Z"⟩
def jw_enc : Cond := .code jy_enc prog_18_method_4_code 1 (some .boolean)
theorem jc_enc : jw_enc ∈ mm_big := jb (n := 830) (by decide +kernel) rfl
theorem js_enc : Cond.static jy_enc ∈ mm_big := jb (n := 829) (by decide +kernel) rfl
theorem jd_enc_0 : decode prog_18_method_4_code 0 = .ok (.iload_n 0, 1) := by decide +kernel
theorem jd_enc_1 : decode prog_18_method_4_code 1 = .ok (.ifCond .lt 14, 3) := by decide +kernel
theorem jd_enc_4 : decode prog_18_method_4_code 4 = .ok (.iload_n 0, 1) := by decide +kernel
theorem jd_enc_5 : decode prog_18_method_4_code 5 = .ok (.sipush 255, 3) := by decide +kernel
theorem jd_enc_8 : decode prog_18_method_4_code 8 = .ok (.if_icmp .gt 7, 3) := by decide +kernel
theorem jd_enc_11 : decode prog_18_method_4_code 11 = .ok (.iconst 1, 1) := by decide +kernel
theorem jd_enc_12 : decode prog_18_method_4_code 12 = .ok (.goto 4, 3) := by decide +kernel
theorem jd_enc_15 : decode prog_18_method_4_code 15 = .ok (.iconst 0, 1) := by decide +kernel
theorem jd_enc_16 : decode prog_18_method_4_code 16 = .ok (.ireturn, 1) := by decide +kernel
def jy_ich : MethodName := ⟨"java/lang/StringLatin1", "indexOfChar", "([BIII)I"⟩
def jw_ich : Cond := .code jy_ich prog_18_method_23_code 6 (some .int)
theorem jc_ich : jw_ich ∈ mm_big := jb (n := 835) (by decide +kernel) rfl
theorem js_ich : Cond.static jy_ich ∈ mm_big := jb (n := 834) (by decide +kernel) rfl
theorem jd_ich_0 : decode prog_18_method_23_code 0 = .ok (.iload_n 1, 1) := by decide +kernel
theorem jd_ich_1 : decode prog_18_method_23_code 1 = .ok (.i2b, 1) := by decide +kernel
theorem jd_ich_2 : decode prog_18_method_23_code 2 = .ok (.istore 4, 2) := by decide +kernel
theorem jd_ich_4 : decode prog_18_method_23_code 4 = .ok (.iload_n 2, 1) := by decide +kernel
theorem jd_ich_5 : decode prog_18_method_23_code 5 = .ok (.istore 5, 2) := by decide +kernel
theorem jd_ich_7 : decode prog_18_method_23_code 7 = .ok (.iload 5, 2) := by decide +kernel
theorem jd_ich_9 : decode prog_18_method_23_code 9 = .ok (.iload_n 3, 1) := by decide +kernel
theorem jd_ich_10 : decode prog_18_method_23_code 10 = .ok (.if_icmp .ge 21, 3) := by decide +kernel
theorem jd_ich_13 : decode prog_18_method_23_code 13 = .ok (.aload_n 0, 1) := by decide +kernel
theorem jd_ich_14 : decode prog_18_method_23_code 14 = .ok (.iload 5, 2) := by decide +kernel
theorem jd_ich_16 : decode prog_18_method_23_code 16 = .ok (.baload, 1) := by decide +kernel
theorem jd_ich_17 : decode prog_18_method_23_code 17 = .ok (.iload 4, 2) := by decide +kernel
theorem jd_ich_19 : decode prog_18_method_23_code 19 = .ok (.if_icmp .ne 6, 3) := by decide +kernel
theorem jd_ich_22 : decode prog_18_method_23_code 22 = .ok (.iload 5, 2) := by decide +kernel
theorem jd_ich_24 : decode prog_18_method_23_code 24 = .ok (.ireturn, 1) := by decide +kernel
theorem jd_ich_25 : decode prog_18_method_23_code 25 = .ok (.iinc 5 1, 3) := by decide +kernel
theorem jd_ich_28 : decode prog_18_method_23_code 28 = .ok (.goto (-21), 3) := by decide +kernel
theorem jd_ich_31 : decode prog_18_method_23_code 31 = .ok (.iconst (-1), 1) := by decide +kernel
theorem jd_ich_32 : decode prog_18_method_23_code 32 = .ok (.ireturn, 1) := by decide +kernel
theorem jx_cod_l : (Cond.methodLink "java/lang/String" 335 jy_cod) ∈ mm_big := jb (n := 725) (by decide +kernel) rfl
theorem jx_cs_f : (Cond.fieldLink "java/lang/String" 38 "java/lang/String" "COMPACT_STRINGS" "Z") ∈ mm_big := jb (n := 729) (by decide +kernel) rfl
theorem jx_lat_l : (Cond.methodLink "java/lang/String" 492 jy_lat) ∈ mm_big := jb (n := 735) (by decide +kernel) rfl
theorem jx_lch_l : (Cond.methodLink "java/lang/String" 495 jy_lch) ∈ mm_big := jb (n := 739) (by decide +kernel) rfl
theorem jx_cki_l : (Cond.methodLink "java/lang/StringLatin1" 9 jy_cki) ∈ mm_big := jb (n := 742) (by decide +kernel) rfl
theorem jx_fm_f : (Cond.fieldLink "java/lang/String" 1053 "jdk/internal/util/Preconditions" "SIOOBE_FORMATTER" "Ljava/util/function/BiFunction;") ∈ mm_big := jb (n := 745) (by decide +kernel) rfl
theorem jx_pci_l : (Cond.methodLink "java/lang/String" 1059 jy_pci) ∈ mm_big := jb (n := 747) (by decide +kernel) rfl
theorem jx_ix2_l : (Cond.methodLink "java/lang/String" 633 jy_ix2) ∈ mm_big := jb (n := 820) (by decide +kernel) rfl
theorem jx_len_l : (Cond.methodLink "java/lang/String" 505 jy_len) ∈ mm_big := jb (n := 824) (by decide +kernel) rfl
theorem jx_lix_l : (Cond.methodLink "java/lang/String" 637 jy_lix) ∈ mm_big := jb (n := 825) (by decide +kernel) rfl
theorem jx_enc_l : (Cond.methodLink "java/lang/StringLatin1" 88 jy_enc) ∈ mm_big := jb (n := 828) (by decide +kernel) rfl
theorem jx_max_l : (Cond.methodLink "java/lang/StringLatin1" 92 Lib.Math.max.name) ∈ mm_big := jb (n := 831) (by decide +kernel) rfl
theorem jx_min_l : (Cond.methodLink "java/lang/StringLatin1" 38 Lib.Math.min.name) ∈ mm_big := jb (n := 832) (by decide +kernel) rfl
theorem jx_ich_l : (Cond.methodLink "java/lang/StringLatin1" 95 jy_ich) ∈ mm_big := jb (n := 833) (by decide +kernel) rfl
theorem jx_val_f : (Cond.fieldLink "java/lang/String" 9 "java/lang/String" "value" "[B") ∈ mm_big := jb (n := 1720) (by decide +kernel) rfl
theorem jx_cdr_f : (Cond.fieldLink "java/lang/String" 15 "java/lang/String" "coder" "B") ∈ mm_big := jb (n := 1721) (by decide +kernel) rfl
theorem jx_s_i : (Cond.initialized "java/lang/String") ∈ mm_big := jb (n := 16) (by decide +kernel) rfl
theorem jx_l_i : (Cond.initialized "java/lang/StringLatin1") ∈ mm_big := jb (n := 17) (by decide +kernel) rfl
theorem jx_p_i : (Cond.initialized "jdk/internal/util/Preconditions") ∈ mm_big := jb (n := 18) (by decide +kernel) rfl
def jF : Nat → Prop := fun _ => False
def jA (base : Nat) : Nat → Prop := fun q => base ≤ q
theorem jS_w {A B : Nat → Prop} {H0 H : Heap} {locs : List Loc} (h : va_S A H0 H locs) (hAB : ∀ q, A q → B q) : va_S B H0 H locs := ⟨h.1, fun q h1 h2 => h.2.1 q h1 (fun z => h2 (hAB q z)), fun l hl => hAB _ (h.2.2 l hl)⟩
/-- what the methods of a String constant, and of an array of bytes, stand on -/
def jP (base : Nat) (sa : Nat → Nat) (U : State) : Prop := mm_ss base sa U U.heap
def jT (base : Nat) (sa : Nat → Nat) (t N : Nat) (f : Nat → Int32) (U : State) : Prop := mm_ss base sa U U.heap ∧ va_T .byte t N (fun j => .int (f j)) (fun q => base ≤ q) U U.heap
theorem jP_b {base : Nat} {sa : Nat → Nat} {av : List Value} : FrameBlind (va_Pc av (jP base sa)) := fun a U g mk q => ⟨q.1, mm_ss_mv (u := U) (U := U.calling g mk a) (Vm.Alike.refl U.vm) q.2⟩
theorem jT_b {base : Nat} {sa : Nat → Nat} {t N : Nat} {f : Nat → Int32} {av : List Value} : FrameBlind (va_Pc av (jT base sa t N f)) := fun a U g mk q => ⟨q.1, mm_ss_mv (u := U) (U := U.calling g mk a) (Vm.Alike.refl U.vm) q.2.1, va_T.moved (u := U) (U := U.calling g mk a) (Vm.Alike.refl U.vm) q.2.2⟩
/-- an answer, and nothing changed -/
def jQ (r0 : Int32) : Array Value → State → Outcome → State → Prop := va_Qi (fun (r : Int32) (_ : Unit) => r = r0) (fun _ _ => True) jF
def jV : Array Value → State → Outcome → State → Prop := va_Qv (fun (_ : Unit) => True) (fun _ _ => True) jF
theorem jQ_ok {r0 : Int32} {a : Array Value} {s t : State} {H : Heap} {locs : List Loc} (hS : va_S jF s.heap H locs) (ht : t.heap = H) : jQ r0 a s (.returned (some (.int r0))) t := ⟨⟨r0, (), rfl, rfl, trivial⟩, hS.F ht⟩
theorem jV_ok {a : Array Value} {s t : State} {H : Heap} {locs : List Loc} (hS : va_S jF s.heap H locs) (ht : t.heap = H) : jV a s (.returned none) t := ⟨⟨(), rfl, trivial, trivial⟩, hS.F ht⟩
def jr (f lo : Nat) : Room := { frames := f, cells := 0, slots := 0, locals := lo }
theorem jgood {w : Cond} (h : w ∈ mm_big) : GoodIn mm_big (w :: mm_big) := by
  intro v hv
  rcases List.mem_cons.mp hv with e | e
  · rw [e]; exact ⟨h, good_of_word (List.mem_filter.mp h).2⟩
  · exact ⟨e, good_of_word (List.mem_filter.mp e).2⟩
section JD
variable {p : Program} {l : Launch} {e : Env} {R : Room} {s : State} {m : MethodId} {args : Array Value} {below : List Frame} {meth : Method} {c : Code} {Q : State → Prop} {H : Heap} {locs : List Loc} {cells slots : Nat}
variable {cc : ByteArray} {pc nL : Nat} {ls : Array Slot} {rest As : List Value} {own : String} {y : MethodName} {code2 : ByteArray} {maxL f lo idx n b : Nat} {ret : Option FieldType} {r0 : Int32} {JP : State → Prop} {A0 : Nat → Prop}
/-- a call on a String that answers an int -/
theorem j_virt (S : CallFix p m c cc nL s args mm_big own) (hM : Met l y (Cond.code y code2 maxL ret :: mm_big) (jr f lo) (va_Pc (.ref b :: As) JP) (jQ r0) 0 0 jF) (wc : Cond.code y code2 maxL ret ∈ mm_big) (wi : Cond.instanceMethod y ∈ mm_big) (we : Cond.selects "java/lang/String" y y ∈ mm_big) (wl : Cond.methodLink own idx y ∈ mm_big) (hd : y.cls = "java/lang/String" ∧ (parseMethodDescriptor y.desc).map (fun d => d.parameters.length) = some n) (hR : f + 1 ≤ R.frames ∧ 8 + (maxL + 11) + lo ≤ R.locals) (hbl : FrameBlind (va_Pc (.ref b :: As) JP)) (hrc : ∃ cell : Cell, H[b]? = some cell ∧ cell.vm.isStatics = false ∧ s.vm.findClass "java/lang/String" = some cell.cls) (hp : ∀ U : State, U.heap = H → s.WarmedH U.vm → JP U) (hS : va_S A0 s.heap H locs) (hn : As.length = n) (hsz : ls.size = nL) (hrm : (rest.map fun v => v.category).sum ≤ 8) (hdg : decode cc pc = .ok (.invokevirtual idx, 3)) (hc : cells ≤ R.cells ∧ slots ≤ R.slots)
    (kk : ∀ (H1 : Heap) (locs1 : List Loc), H.size ≤ H1.size → (∀ q : Nat, q < H.size → H1[q]? = H[q]?) → va_S A0 s.heap H1 locs1 → W p l e R s m args below meth c H1 locs1 cells slots Q (F0 m (pc + 3) ls (.int r0 :: rest))) : W p l e R s m args below meth c H locs cells slots Q (F0 m pc ls (As.reverse ++ .ref b :: rest)) := by
  obtain ⟨hx, hb, hml, hown, hts⟩ := id S
  have hini : (Cond.initialized y.cls).before args s = true := by rw [hd.1]; exact hts _ jx_s_i
  have nh : y.cls ≠ "java/lang/invoke/MethodHandle" ∧ y.cls ≠ "java/lang/invoke/VarHandle" := by rw [hd.1]; decide
  refine va_calli (va_runV (g := F0 m pc ls (As.reverse ++ .ref b :: rest)) (As := As) (b := b) (rest := rest) (C := "java/lang/String") (n := n) S hM ⟨callB_of n hts (jgood wc) rfl rfl rfl hini (hts _ wl) ⟨nh.1, nh.2, hd.2⟩ hR, hts _ wi, hts _ we⟩ ⟨hbl, hrc, fun U hU hW => ⟨rfl, hp U hU hW⟩⟩ rfl hn hsz rfl (lv_room hrm) hdg hc) hS (fun q _ h => h.elim) (fun q h => h.elim) (fun r u t H1 locs1 ht hvm hpp hB hz hk hS1 => ?_)
  have hr : r = r0 := hpp
  rw [hr]
  exact kk H1 locs1 hz (fun q hq => hk q hq (fun z => z)) hS1
/-- a static call that answers an int -/
theorem j_stat (S : CallFix p m c cc nL s args mm_big own) (hM : Met l y (Cond.code y code2 maxL ret :: mm_big) (jr f lo) (va_Pc As JP) (jQ r0) 0 0 jF) (wc : Cond.code y code2 maxL ret ∈ mm_big) (wi : Cond.static y ∈ mm_big) (wn : Cond.initialized y.cls ∈ mm_big) (wl : Cond.methodLink own idx y ∈ mm_big) (hd : (y.cls ≠ "java/lang/invoke/MethodHandle" ∧ y.cls ≠ "java/lang/invoke/VarHandle") ∧ (parseMethodDescriptor y.desc).map (fun d => d.parameters.length) = some n) (hR : f + 1 ≤ R.frames ∧ 8 + (maxL + 11) + lo ≤ R.locals) (hbl : FrameBlind (va_Pc As JP)) (hp : ∀ U : State, U.heap = H → s.WarmedH U.vm → JP U) (hS : va_S A0 s.heap H locs) (hn : As.length = n) (hsz : ls.size = nL) (hrm : (rest.map fun v => v.category).sum ≤ 8) (hdg : decode cc pc = .ok (.invokestatic idx, 3)) (hc : cells ≤ R.cells ∧ slots ≤ R.slots)
    (kk : ∀ (H1 : Heap) (locs1 : List Loc), H.size ≤ H1.size → (∀ q : Nat, q < H.size → H1[q]? = H[q]?) → va_S A0 s.heap H1 locs1 → W p l e R s m args below meth c H1 locs1 cells slots Q (F0 m (pc + 3) ls (.int r0 :: rest))) : W p l e R s m args below meth c H locs cells slots Q (F0 m pc ls (As.reverse ++ rest)) := by
  obtain ⟨hx, hb, hml, hown, hts⟩ := id S
  refine va_calli (va_runS (g := F0 m pc ls (As.reverse ++ rest)) (As := As) (rest := rest) (n := n) S hM ⟨callB_of n hts (jgood wc) rfl rfl rfl (hts _ wn) (hts _ wl) ⟨hd.1.1, hd.1.2, hd.2⟩ hR, hts _ wi⟩ ⟨hbl, fun U hU hW => ⟨rfl, hp U hU hW⟩⟩ rfl hn hsz rfl (lv_room hrm) hdg hc) hS (fun q _ h => h.elim) (fun q h => h.elim) (fun r u t H1 locs1 ht hvm hpp hB hz hk hS1 => ?_)
  have hr : r = r0 := hpp
  rw [hr]
  exact kk H1 locs1 hz (fun q hq => hk q hq (fun z => z)) hS1
/-- a static call that answers nothing -/
theorem j_void (S : CallFix p m c cc nL s args mm_big own) (hM : Met l y (Cond.code y code2 maxL ret :: mm_big) (jr f lo) (va_Pc As JP) jV 0 0 jF) (wc : Cond.code y code2 maxL ret ∈ mm_big) (wi : Cond.static y ∈ mm_big) (wn : Cond.initialized y.cls ∈ mm_big) (wl : Cond.methodLink own idx y ∈ mm_big) (hd : (y.cls ≠ "java/lang/invoke/MethodHandle" ∧ y.cls ≠ "java/lang/invoke/VarHandle") ∧ (parseMethodDescriptor y.desc).map (fun d => d.parameters.length) = some n) (hR : f + 1 ≤ R.frames ∧ 8 + (maxL + 11) + lo ≤ R.locals) (hbl : FrameBlind (va_Pc As JP)) (hp : ∀ U : State, U.heap = H → s.WarmedH U.vm → JP U) (hS : va_S A0 s.heap H locs) (hn : As.length = n) (hsz : ls.size = nL) (hrm : (rest.map fun v => v.category).sum ≤ 8) (hdg : decode cc pc = .ok (.invokestatic idx, 3)) (hc : cells ≤ R.cells ∧ slots ≤ R.slots)
    (kk : ∀ (H1 : Heap) (locs1 : List Loc), H.size ≤ H1.size → (∀ q : Nat, q < H.size → H1[q]? = H[q]?) → va_S A0 s.heap H1 locs1 → W p l e R s m args below meth c H1 locs1 cells slots Q (F0 m (pc + 3) ls rest)) : W p l e R s m args below meth c H locs cells slots Q (F0 m pc ls (As.reverse ++ rest)) := by
  obtain ⟨hx, hb, hml, hown, hts⟩ := id S
  refine va_callv (va_runS (g := F0 m pc ls (As.reverse ++ rest)) (As := As) (rest := rest) (n := n) S hM ⟨callB_of n hts (jgood wc) rfl rfl rfl (hts _ wn) (hts _ wl) ⟨hd.1.1, hd.1.2, hd.2⟩ hR, hts _ wi⟩ ⟨hbl, fun U hU hW => ⟨rfl, hp U hU hW⟩⟩ rfl hn hsz rfl (lv_room hrm) hdg hc) hS (fun q _ h => h.elim) (fun q h => h.elim) (fun u t H1 locs1 ht hvm hpp hB hz hk hS1 => ?_)
  exact kk H1 locs1 hz (fun q hq => hk q hq (fun z => z)) hS1
end JD
theorem jm_cod (l : Launch) (base i : Nat) (sa : Nat → Nat) (hi : i < 8) : Met l jy_cod (jw_cod :: mm_big) (jr 0 0) (va_Pc [.ref (sa i)] (jP base sa)) (jQ 0) 0 0 jF := by
  refine Met.ofW (cc := prog_17_method_152_code) (maxL := 1) (ret := (some .byte)) (by decide) rfl ?_
  intro p e s m args below meth c s₁ B hml hv
  obtain ⟨rfl, hss⟩ := hv
  have hx := B.exec
  have hb := B.bytes
  have hr := B.returns
  have hts0 := atoms_spec (ws := jw_cod :: mm_big) B.pre
  have hts : ∀ w ∈ mm_big, w.before ([.ref (sa i)] : List Value).toArray s = true := fun w hw => hts0 w (List.mem_cons_of_mem _ hw)
  have hown : s.vm.findClass "java/lang/String" = some m.cls := findClass_of_methodNamed B.named
  have hlk := B.notSynchronized
  have hS0 : va_S jF s.heap s.heap [] := va_S.rf
  have hl := lv_entry ([.ref (sa i)]) (n := 1) (Nat.le_of_ble_eq_true rfl)
  rw [lg_entry_eq]
  generalize (lg_sl ([.ref (sa i)]) ++ List.replicate (1 - (lg_sl ([.ref (sa i)])).length) Slot.unset).toArray = ls at hl ⊢
  have hl : lv_has ls 1 [(0, .ref (sa i))] := hl
  obtain ⟨⟨sv, hv⟩, hz, -⟩ := id hss
  have hS : va_S (fun q => base ≤ q) s.heap s.heap [] := jS_w hS0 (fun q h => h.elim)
  refine va_gets hx hb hz hS hown (hts _ jx_cs_f) (fun _ h => h) jd_cod_0 ?_
  refine lv_if_eq hx hb jd_cod_3 (tgt := 13) (by decide) (fun h => absurd h (by decide)) (fun _ => ?_)
  refine lv_aload_n hx hb jd_cod_6 rfl (lv_at hl 0 rfl) ?_
  refine vk_getf hx hb (hv.1 i hi).2.1 hS hown (hts _ jx_cdr_f) (fun _ h => h) jd_cod_7 ?_
  refine lv_goto hx hb jd_cod_10 (tgt := 14) (by decide) ?_
  exact W.zret (v := 0) hx hb hr (by decide) (fun t ht _ => jQ_ok hS0 ht) hS0.2.2 jd_cod_14
theorem jm_lat (l : Launch) (base i : Nat) (sa : Nat → Nat) (hi : i < 8) : Met l jy_lat (jw_lat :: mm_big) (jr 0 0) (va_Pc [.ref (sa i)] (jP base sa)) (jQ 1) 0 0 jF := by
  refine Met.ofW (cc := prog_17_method_154_code) (maxL := 1) (ret := (some .boolean)) (by decide) rfl ?_
  intro p e s m args below meth c s₁ B hml hv
  obtain ⟨rfl, hss⟩ := hv
  have hx := B.exec
  have hb := B.bytes
  have hr := B.returns
  have hts0 := atoms_spec (ws := jw_lat :: mm_big) B.pre
  have hts : ∀ w ∈ mm_big, w.before ([.ref (sa i)] : List Value).toArray s = true := fun w hw => hts0 w (List.mem_cons_of_mem _ hw)
  have hown : s.vm.findClass "java/lang/String" = some m.cls := findClass_of_methodNamed B.named
  have hlk := B.notSynchronized
  have hS0 : va_S jF s.heap s.heap [] := va_S.rf
  have hl := lv_entry ([.ref (sa i)]) (n := 1) (Nat.le_of_ble_eq_true rfl)
  rw [lg_entry_eq]
  generalize (lg_sl ([.ref (sa i)]) ++ List.replicate (1 - (lg_sl ([.ref (sa i)])).length) Slot.unset).toArray = ls at hl ⊢
  have hl : lv_has ls 1 [(0, .ref (sa i))] := hl
  obtain ⟨⟨sv, hv⟩, hz, -⟩ := id hss
  have hS : va_S (fun q => base ≤ q) s.heap s.heap [] := jS_w hS0 (fun q h => h.elim)
  refine va_gets hx hb hz hS hown (hts _ jx_cs_f) (fun _ h => h) jd_lat_0 ?_
  refine lv_if_eq hx hb jd_lat_3 (tgt := 17) (by decide) (fun h => absurd h (by decide)) (fun _ => ?_)
  refine lv_aload_n hx hb jd_lat_6 rfl (lv_at hl 0 rfl) ?_
  refine vk_getf hx hb (hv.1 i hi).2.1 hS hown (hts _ jx_cdr_f) (fun _ h => h) jd_lat_7 ?_
  refine lv_if_ne hx hb jd_lat_10 (tgt := 17) (by decide) (fun h => absurd rfl h) (fun _ => ?_)
  refine lv_iconst (v := 1) hx hb jd_lat_13 (by decide) ?_
  refine lv_goto hx hb jd_lat_14 (tgt := 18) (by decide) ?_
  exact W.zret (v := 1) hx hb hr (by decide) (fun t ht _ => jQ_ok hS0 ht) hS0.2.2 jd_lat_18
def jlen (i : Nat) : Nat := [5, 4, 5, 4, 3, 3, 3, 3].getD i 0
theorem jlen_b : ∀ i, i < 8 → jlen i ≤ 5 ∧ 3 ≤ jlen i := by decide
theorem j_shr : ∀ i, i < 8 → nI (jlen i) >>> ((0 : Int32) &&& 31) = nI (jlen i) := by decide
theorem jm_len (l : Launch) (base i : Nat) (sa : Nat → Nat) (hi : i < 8) : Met l jy_len (jw_len :: mm_big) (jr 1 20) (va_Pc [.ref (sa i)] (jP base sa)) (jQ (nI (jlen i))) 0 0 jF := by
  refine Met.ofW (cc := prog_17_method_54_code) (maxL := 1) (ret := (some .int)) (by decide) rfl ?_
  intro p e s m args below meth c s₁ B hml hv
  obtain ⟨rfl, hss⟩ := hv
  have hx := B.exec
  have hb := B.bytes
  have hr := B.returns
  have hts0 := atoms_spec (ws := jw_len :: mm_big) B.pre
  have hts : ∀ w ∈ mm_big, w.before ([.ref (sa i)] : List Value).toArray s = true := fun w hw => hts0 w (List.mem_cons_of_mem _ hw)
  have hown : s.vm.findClass "java/lang/String" = some m.cls := findClass_of_methodNamed B.named
  have hlk := B.notSynchronized
  have hS0 : va_S jF s.heap s.heap [] := va_S.rf
  have hl := lv_entry ([.ref (sa i)]) (n := 1) (Nat.le_of_ble_eq_true rfl)
  rw [lg_entry_eq]
  generalize (lg_sl ([.ref (sa i)]) ++ List.replicate (1 - (lg_sl ([.ref (sa i)])).length) Slot.unset).toArray = ls at hl ⊢
  have hl : lv_has ls 1 [(0, .ref (sa i))] := hl
  obtain ⟨⟨sv, hv⟩, hz, -⟩ := id hss
  have hS : va_S (fun q => base ≤ q) s.heap s.heap [] := jS_w hS0 (fun q h => h.elim)
  refine lv_aload_n hx hb jd_len_0 rfl (lv_at hl 0 rfl) ?_
  refine vk_getf hx hb (hv.1 i hi).2.2.1 hS hown (hts _ jx_val_f) (fun _ h => h) jd_len_1 ?_
  refine va_tlen (v := nI (jlen i)) hx hb (hv.1 i hi).2.2.2 hS rfl jd_len_4 ?_
  refine lv_aload_n hx hb jd_len_5 rfl (lv_at hl 0 rfl) ?_
  refine j_virt (n := 0) (As := []) (b := sa i) (rest := [.int (nI (jlen i))]) ⟨hx, hb, hml, hown, hts⟩ (jm_cod l base i sa hi) jc_cod ji_cod jl_cod jx_cod_l ⟨rfl, by decide +kernel⟩ ⟨Nat.le_of_ble_eq_true rfl, Nat.le_of_ble_eq_true rfl⟩ jP_b (vk_recv hv hi hS) (fun U hU hW => by unfold jP; rw [hU]; exact mm_ss_mv hW.alike hss) hS0 rfl hl.1 (Nat.le_of_ble_eq_true rfl) jd_len_6 ⟨Nat.zero_le _, Nat.zero_le _⟩ (fun H1 locs1 hz1 hk1 hS1 => ?_)
  refine lv_ishr hx hb jd_len_9 ?_
  rw [j_shr i hi]
  exact W.iret (v := nI (jlen i)) hx hb hr (fun t ht _ => jQ_ok hS1 ht) hS1.2.2 jd_len_10
theorem jm_pciN (l : Launch) (base : Nat) (sa : Nat → Nat) (a b : Nat) (hab : a < b) (hb5 : b ≤ 5) : Met l jy_pci (jw_pci :: mm_big) (jr 0 0) (va_Pc [.int (nI a), .int (nI b), .null] (jP base sa)) (jQ (nI a)) 0 0 jF := by
  refine Met.ofW (cc := prog_21_method_11_code) (maxL := 3) (ret := (some .int)) (by decide) rfl ?_
  intro p e s m args below meth c s₁ B hml hv
  obtain ⟨rfl, hss⟩ := hv
  have hx := B.exec
  have hb := B.bytes
  have hr := B.returns
  have hts0 := atoms_spec (ws := jw_pci :: mm_big) B.pre
  have hts : ∀ w ∈ mm_big, w.before ([.int (nI a), .int (nI b), .null] : List Value).toArray s = true := fun w hw => hts0 w (List.mem_cons_of_mem _ hw)
  have hown : s.vm.findClass "jdk/internal/util/Preconditions" = some m.cls := findClass_of_methodNamed B.named
  have hlk := B.notSynchronized
  have hS0 : va_S jF s.heap s.heap [] := va_S.rf
  have hl := lv_entry ([.int (nI a), .int (nI b), .null]) (n := 3) (Nat.le_of_ble_eq_true rfl)
  rw [lg_entry_eq]
  generalize (lg_sl ([.int (nI a), .int (nI b), .null]) ++ List.replicate (3 - (lg_sl ([.int (nI a), .int (nI b), .null])).length) Slot.unset).toArray = ls at hl ⊢
  have hl : lv_has ls 3 [(0, .int (nI a)), (1, .int (nI b)), (2, .null)] := hl
  refine lv_iload_n hx hb jd_pci_0 rfl (lv_at hl 0 rfl) ?_
  refine lv_if_lt hx hb jd_pci_1 (tgt := 9) (by decide) (fun h => absurd h (by rw [show (0 : Int32) = nI 0 from rfl, nlt (by omega) (by omega)]; omega)) (fun _ => ?_)
  refine lv_iload_n hx hb jd_pci_4 rfl (lv_at hl 0 rfl) ?_
  refine lv_iload_n hx hb jd_pci_5 rfl (lv_at hl 1 rfl) ?_
  refine lv_icmp_lt hx hb jd_pci_6 (tgt := 16) (by decide) (fun _ => ?_) (fun h => absurd (show nI a < nI b by rw [nlt (by omega) (by omega)]; exact hab) h)
  refine lv_iload_n hx hb jd_pci_16 rfl (lv_at hl 0 rfl) ?_
  exact W.iret (v := nI a) hx hb hr (fun t ht _ => jQ_ok hS0 ht) hS0.2.2 jd_pci_17
theorem jm_pciR (l : Launch) (base : Nat) (sa : Nat → Nat) (a b t0 : Nat) (hab : a < b) (hb5 : b ≤ 5) : Met l jy_pci (jw_pci :: mm_big) (jr 0 0) (va_Pc [.int (nI a), .int (nI b), .ref t0] (jP base sa)) (jQ (nI a)) 0 0 jF := by
  refine Met.ofW (cc := prog_21_method_11_code) (maxL := 3) (ret := (some .int)) (by decide) rfl ?_
  intro p e s m args below meth c s₁ B hml hv
  obtain ⟨rfl, hss⟩ := hv
  have hx := B.exec
  have hb := B.bytes
  have hr := B.returns
  have hts0 := atoms_spec (ws := jw_pci :: mm_big) B.pre
  have hts : ∀ w ∈ mm_big, w.before ([.int (nI a), .int (nI b), .ref t0] : List Value).toArray s = true := fun w hw => hts0 w (List.mem_cons_of_mem _ hw)
  have hown : s.vm.findClass "jdk/internal/util/Preconditions" = some m.cls := findClass_of_methodNamed B.named
  have hlk := B.notSynchronized
  have hS0 : va_S jF s.heap s.heap [] := va_S.rf
  have hl := lv_entry ([.int (nI a), .int (nI b), .ref t0]) (n := 3) (Nat.le_of_ble_eq_true rfl)
  rw [lg_entry_eq]
  generalize (lg_sl ([.int (nI a), .int (nI b), .ref t0]) ++ List.replicate (3 - (lg_sl ([.int (nI a), .int (nI b), .ref t0])).length) Slot.unset).toArray = ls at hl ⊢
  have hl : lv_has ls 3 [(0, .int (nI a)), (1, .int (nI b)), (2, .ref t0)] := hl
  refine lv_iload_n hx hb jd_pci_0 rfl (lv_at hl 0 rfl) ?_
  refine lv_if_lt hx hb jd_pci_1 (tgt := 9) (by decide) (fun h => absurd h (by rw [show (0 : Int32) = nI 0 from rfl, nlt (by omega) (by omega)]; omega)) (fun _ => ?_)
  refine lv_iload_n hx hb jd_pci_4 rfl (lv_at hl 0 rfl) ?_
  refine lv_iload_n hx hb jd_pci_5 rfl (lv_at hl 1 rfl) ?_
  refine lv_icmp_lt hx hb jd_pci_6 (tgt := 16) (by decide) (fun _ => ?_) (fun h => absurd (show nI a < nI b by rw [nlt (by omega) (by omega)]; exact hab) h)
  refine lv_iload_n hx hb jd_pci_16 rfl (lv_at hl 0 rfl) ?_
  exact W.iret (v := nI a) hx hb hr (fun t ht _ => jQ_ok hS0 ht) hS0.2.2 jd_pci_17
theorem jm_cki (l : Launch) (base : Nat) (sa : Nat → Nat) (a b : Nat) (hab : a < b) (hb5 : b ≤ 5) : Met l jy_cki (jw_cki :: mm_big) (jr 1 30) (va_Pc [.int (nI a), .int (nI b)] (jP base sa)) jV 0 0 jF := by
  refine Met.ofW (cc := prog_17_method_155_code) (maxL := 2) (ret := none) (by decide) rfl ?_
  intro p e s m args below meth c s₁ B hml hv
  obtain ⟨rfl, hss⟩ := hv
  have hx := B.exec
  have hb := B.bytes
  have hr := B.returns
  have hts0 := atoms_spec (ws := jw_cki :: mm_big) B.pre
  have hts : ∀ w ∈ mm_big, w.before ([.int (nI a), .int (nI b)] : List Value).toArray s = true := fun w hw => hts0 w (List.mem_cons_of_mem _ hw)
  have hown : s.vm.findClass "java/lang/String" = some m.cls := findClass_of_methodNamed B.named
  have hlk := B.notSynchronized
  have hS0 : va_S jF s.heap s.heap [] := va_S.rf
  have hl := lv_entry ([.int (nI a), .int (nI b)]) (n := 2) (Nat.le_of_ble_eq_true rfl)
  rw [lg_entry_eq]
  generalize (lg_sl ([.int (nI a), .int (nI b)]) ++ List.replicate (2 - (lg_sl ([.int (nI a), .int (nI b)])).length) Slot.unset).toArray = ls at hl ⊢
  have hl : lv_has ls 2 [(0, .int (nI a)), (1, .int (nI b))] := hl
  obtain ⟨-, -, hq⟩ := id hss
  have hS : va_S (fun q => base ≤ q) s.heap s.heap [] := jS_w hS0 (fun q h => h.elim)
  refine lv_iload_n hx hb jd_cki_0 rfl (lv_at hl 0 rfl) ?_
  refine lv_iload_n hx hb jd_cki_1 rfl (lv_at hl 1 rfl) ?_
  rcases hq with hq | ⟨t0, hq⟩
  · refine va_gets hx hb hq hS hown (hts _ jx_fm_f) (fun _ h => h) jd_cki_2 ?_
    refine j_stat (n := 3) (As := [.int (nI a), .int (nI b), .null]) (rest := []) ⟨hx, hb, hml, hown, hts⟩ (jm_pciN l base sa a b hab hb5) jc_pci js_pci jx_p_i jx_pci_l ⟨by decide, by decide +kernel⟩ ⟨Nat.le_of_ble_eq_true rfl, Nat.le_of_ble_eq_true rfl⟩ jP_b (fun U hU hW => by unfold jP; rw [hU]; exact mm_ss_mv hW.alike hss) hS0 rfl hl.1 (Nat.le_of_ble_eq_true rfl) jd_cki_5 ⟨Nat.zero_le _, Nat.zero_le _⟩ (fun H1 locs1 hz1 hk1 hS1 => ?_)
    refine lv_pop hx hb jd_cki_8 rfl ?_
    exact W.vret hx hb hr (fun t ht _ => jV_ok hS1 ht) hS1.2.2 jd_cki_9
  · refine va_gets hx hb hq hS hown (hts _ jx_fm_f) (fun _ h => h) jd_cki_2 ?_
    refine j_stat (n := 3) (As := [.int (nI a), .int (nI b), .ref t0]) (rest := []) ⟨hx, hb, hml, hown, hts⟩ (jm_pciR l base sa a b t0 hab hb5) jc_pci js_pci jx_p_i jx_pci_l ⟨by decide, by decide +kernel⟩ ⟨Nat.le_of_ble_eq_true rfl, Nat.le_of_ble_eq_true rfl⟩ jP_b (fun U hU hW => by unfold jP; rw [hU]; exact mm_ss_mv hW.alike hss) hS0 rfl hl.1 (Nat.le_of_ble_eq_true rfl) jd_cki_5 ⟨Nat.zero_le _, Nat.zero_le _⟩ (fun H1 locs1 hz1 hk1 hS1 => ?_)
    refine lv_pop hx hb jd_cki_8 rfl ?_
    exact W.vret hx hb hr (fun t ht _ => jV_ok hS1 ht) hS1.2.2 jd_cki_9
def jch (i k : Nat) : Int32 := (mm_st.getD i []).getD k 0
theorem jch_b : ∀ i, i < 8 → ∀ k, k < jlen i → ((jch i k &&& 255).toUInt32 % 65536).toInt32 = jch i k ∧ narrow .char (.int (jch i k)) = .int (jch i k) := by
  intro i hi k hk
  have h5 := (jlen_b i hi).1
  have : ∀ i, i < 8 → ∀ k, k < 5 → k < jlen i → ((jch i k &&& 255).toUInt32 % 65536).toInt32 = jch i k ∧ narrow .char (.int (jch i k)) = .int (jch i k) := by decide +kernel
  exact this i hi k (by omega) hk
theorem jm_lch (l : Launch) (base i k t : Nat) (sa : Nat → Nat) (hi : i < 8) (hk : k < jlen i) : Met l jy_lch (jw_lch :: mm_big) (jr 2 60) (va_Pc [.ref t, .int (nI k)] (jT base sa t (jlen i) (jch i))) (jQ (jch i k)) 0 0 jF := by
  refine Met.ofW (cc := prog_18_method_2_code) (maxL := 2) (ret := (some .char)) (by decide) rfl ?_
  intro p e s m args below meth c s₁ B hml hv
  obtain ⟨rfl, hss⟩ := hv
  have hx := B.exec
  have hb := B.bytes
  have hr := B.returns
  have hts0 := atoms_spec (ws := jw_lch :: mm_big) B.pre
  have hts : ∀ w ∈ mm_big, w.before ([.ref t, .int (nI k)] : List Value).toArray s = true := fun w hw => hts0 w (List.mem_cons_of_mem _ hw)
  have hown : s.vm.findClass "java/lang/StringLatin1" = some m.cls := findClass_of_methodNamed B.named
  have hlk := B.notSynchronized
  have hS0 : va_S jF s.heap s.heap [] := va_S.rf
  have hl := lv_entry ([.ref t, .int (nI k)]) (n := 2) (Nat.le_of_ble_eq_true rfl)
  rw [lg_entry_eq]
  generalize (lg_sl ([.ref t, .int (nI k)]) ++ List.replicate (2 - (lg_sl ([.ref t, .int (nI k)])).length) Slot.unset).toArray = ls at hl ⊢
  have hl : lv_has ls 2 [(0, .ref t), (1, .int (nI k))] := hl
  obtain ⟨hss, hT⟩ := hss
  have h5 := (jlen_b i hi).1
  have hS : va_S (fun q => base ≤ q) s.heap s.heap [] := jS_w hS0 (fun q h => h.elim)
  refine lv_iload_n hx hb jd_lch_0 rfl (lv_at hl 1 rfl) ?_
  refine lv_aload_n hx hb jd_lch_1 rfl (lv_at hl 0 rfl) ?_
  refine va_tlen (v := nI (jlen i)) hx hb hT hS rfl jd_lch_2 ?_
  refine j_void (n := 2) (As := [.int (nI k), .int (nI (jlen i))]) (rest := []) ⟨hx, hb, hml, hown, hts⟩ (jm_cki l base sa k (jlen i) hk h5) jc_cki js_cki jx_s_i jx_cki_l ⟨by decide, by decide +kernel⟩ ⟨Nat.le_of_ble_eq_true rfl, Nat.le_of_ble_eq_true rfl⟩ jP_b (fun U hU hW => by unfold jP; rw [hU]; exact mm_ss_mv hW.alike hss) hS0 rfl hl.1 (Nat.le_of_ble_eq_true rfl) jd_lch_3 ⟨Nat.zero_le _, Nat.zero_le _⟩ (fun H1 locs1 hz1 hk1 hS1 => ?_)
  have hS2 : va_S (fun q => base ≤ q) s.heap H1 locs1 := jS_w hS1 (fun q h => h.elim)
  refine lv_aload_n hx hb jd_lch_6 rfl (lv_at hl 0 rfl) ?_
  refine lv_iload_n hx hb jd_lch_7 rfl (lv_at hl 1 rfl) ?_
  refine va_tb (v := .int (jch i k)) hx hb hT hS2 (vp_in_nI hk (by omega)) (by rw [nI_clamp (by omega)]) jd_lch_8 ?_
  refine lv_sipush (v := 255) hx hb jd_lch_9 (by decide) ?_
  refine lv_iand hx hb jd_lch_12 ?_
  refine lv_i2c hx hb jd_lch_13 (jch_b i hi k hk).1 ?_
  exact W.zret (v := jch i k) hx hb hr (jch_b i hi k hk).2 (fun t ht _ => jQ_ok hS1 ht) hS1.2.2 jd_lch_14
theorem jm_cha (l : Launch) (base i k : Nat) (sa : Nat → Nat) (hi : i < 8) (hk : k < jlen i) : Met l jy_cha (jw_cha :: mm_big) (jr 3 90) (va_Pc [.ref (sa i), .int (nI k)] (jP base sa)) (jQ (jch i k)) 0 0 jF := by
  refine Met.ofW (cc := prog_17_method_56_code) (maxL := 2) (ret := (some .char)) (by decide) rfl ?_
  intro p e s m args below meth c s₁ B hml hv
  obtain ⟨rfl, hss⟩ := hv
  have hx := B.exec
  have hb := B.bytes
  have hr := B.returns
  have hts0 := atoms_spec (ws := jw_cha :: mm_big) B.pre
  have hts : ∀ w ∈ mm_big, w.before ([.ref (sa i), .int (nI k)] : List Value).toArray s = true := fun w hw => hts0 w (List.mem_cons_of_mem _ hw)
  have hown : s.vm.findClass "java/lang/String" = some m.cls := findClass_of_methodNamed B.named
  have hlk := B.notSynchronized
  have hS0 : va_S jF s.heap s.heap [] := va_S.rf
  have hl := lv_entry ([.ref (sa i), .int (nI k)]) (n := 2) (Nat.le_of_ble_eq_true rfl)
  rw [lg_entry_eq]
  generalize (lg_sl ([.ref (sa i), .int (nI k)]) ++ List.replicate (2 - (lg_sl ([.ref (sa i), .int (nI k)])).length) Slot.unset).toArray = ls at hl ⊢
  have hl : lv_has ls 2 [(0, .ref (sa i)), (1, .int (nI k))] := hl
  obtain ⟨⟨sv, hv⟩, hz, -⟩ := id hss
  have hS : va_S (fun q => base ≤ q) s.heap s.heap [] := jS_w hS0 (fun q h => h.elim)
  have hT : va_T .byte (sv i) (jlen i) (fun j => .int (jch i j)) (fun q => base ≤ q) s s.heap := (hv.1 i hi).2.2.2
  refine lv_aload_n hx hb jd_cha_0 rfl (lv_at hl 0 rfl) ?_
  refine j_virt (n := 0) (As := []) (b := sa i) (rest := []) ⟨hx, hb, hml, hown, hts⟩ (jm_lat l base i sa hi) jc_lat ji_lat jl_lat jx_lat_l ⟨rfl, by decide +kernel⟩ ⟨Nat.le_of_ble_eq_true rfl, Nat.le_of_ble_eq_true rfl⟩ jP_b (vk_recv hv hi hS) (fun U hU hW => by unfold jP; rw [hU]; exact mm_ss_mv hW.alike hss) hS0 rfl hl.1 (Nat.le_of_ble_eq_true rfl) jd_cha_1 ⟨Nat.zero_le _, Nat.zero_le _⟩ (fun H1 locs1 hz1 hk1 hS1 => ?_)
  have hS2 : va_S (fun q => base ≤ q) s.heap H1 locs1 := jS_w hS1 (fun q h => h.elim)
  refine lv_if_eq hx hb jd_cha_4 (tgt := 16) (by decide) (fun h => absurd h (by decide)) (fun _ => ?_)
  refine lv_aload_n hx hb jd_cha_7 rfl (lv_at hl 0 rfl) ?_
  refine vk_getf hx hb (hv.1 i hi).2.2.1 hS2 hown (hts _ jx_val_f) (fun _ h => h) jd_cha_8 ?_
  refine lv_iload_n hx hb jd_cha_11 rfl (lv_at hl 1 rfl) ?_
  refine j_stat (n := 2) (As := [.ref (sv i), .int (nI k)]) (rest := []) ⟨hx, hb, hml, hown, hts⟩ (jm_lch l base i k (sv i) sa hi hk) jc_lch js_lch jx_l_i jx_lch_l ⟨by decide, by decide +kernel⟩ ⟨Nat.le_of_ble_eq_true rfl, Nat.le_of_ble_eq_true rfl⟩ jT_b (fun U hU hW => by unfold jT; rw [hU]; exact ⟨mm_ss_mv hW.alike (mm_ss_kp hss hS2.2.1), va_T.moved hW.alike (hT.kept hS2.2.1)⟩) hS1 rfl hl.1 (Nat.le_of_ble_eq_true rfl) jd_cha_12 ⟨Nat.zero_le _, Nat.zero_le _⟩ (fun H1 locs1 hz1 hk1 hS1 => ?_)
  exact W.zret (v := jch i k) hx hb hr (jch_b i hi k hk).2 (fun t ht _ => jQ_ok hS1 ht) hS1.2.2 jd_cha_15
/-- canEncode -/
theorem jm_enc (l : Launch) (base : Nat) (sa : Nat → Nat) (x : Int32) : Met l jy_enc (jw_enc :: mm_big) (jr 0 0) (va_Pc [.int x] (jP base sa)) (jQ (if 0 ≤ x ∧ x ≤ 255 then 1 else 0)) 0 0 jF := by
  refine Met.ofW (cc := prog_18_method_4_code) (maxL := 1) (ret := (some .boolean)) (by decide) rfl ?_
  intro p e s m args below meth c s₁ B hml hv
  obtain ⟨rfl, hss⟩ := hv
  have hx := B.exec
  have hb := B.bytes
  have hr := B.returns
  have hts0 := atoms_spec (ws := jw_enc :: mm_big) B.pre
  have hts : ∀ w ∈ mm_big, w.before ([.int x] : List Value).toArray s = true := fun w hw => hts0 w (List.mem_cons_of_mem _ hw)
  have hown : s.vm.findClass "java/lang/StringLatin1" = some m.cls := findClass_of_methodNamed B.named
  have hlk := B.notSynchronized
  have hS0 : va_S jF s.heap s.heap [] := va_S.rf
  have hl := lv_entry ([.int x]) (n := 1) (Nat.le_of_ble_eq_true rfl)
  rw [lg_entry_eq]
  generalize (lg_sl ([.int x]) ++ List.replicate (1 - (lg_sl ([.int x])).length) Slot.unset).toArray = ls at hl ⊢
  have hl : lv_has ls 1 [(0, .int x)] := hl
  have out : ¬ (0 ≤ x ∧ x ≤ 255) → W p l e (jr 0 0) s m (#[.int x]) below meth c s.heap [] 0 0 (MQ below (jQ (if 0 ≤ x ∧ x ≤ 255 then 1 else 0)) (#[.int x]) s 0 0 jF) (F0 m 15 ls []) := fun hn => by
    rw [if_neg hn]
    refine lv_iconst (v := 0) hx hb jd_enc_15 (by decide) ?_
    exact W.zret (v := 0) hx hb hr (by decide) (fun t ht _ => jQ_ok hS0 ht) hS0.2.2 jd_enc_16
  refine lv_iload_n hx hb jd_enc_0 rfl (lv_at hl 0 rfl) ?_
  refine lv_if_lt hx hb jd_enc_1 (tgt := 15) (by decide) (fun h => out (fun q => absurd h (Int32.not_lt.mpr q.1))) (fun h0 => ?_)
  refine lv_iload_n hx hb jd_enc_4 rfl (lv_at hl 0 rfl) ?_
  refine lv_sipush (v := 255) hx hb jd_enc_5 (by decide) ?_
  refine lv_icmp_gt hx hb jd_enc_8 (tgt := 15) (by decide) (fun h => out (fun q => absurd h (Int32.not_lt.mpr q.2))) (fun h1 => ?_)
  rw [if_pos ⟨Int32.not_lt.mp h0, Int32.not_lt.mp h1⟩]
  refine lv_iconst (v := 1) hx hb jd_enc_11 (by decide) ?_
  refine lv_goto hx hb jd_enc_12 (tgt := 16) (by decide) ?_
  exact W.zret (v := 1) hx hb hr (by decide) (fun t ht _ => jQ_ok hS0 ht) hS0.2.2 jd_enc_16
/-- indexOf, by the byte that is looked for -/
def jix (i : Nat) (bb : Int32) : Nat → Nat → Int32
  | 0, _ => -1
  | n + 1, k => if jch i k = bb then nI k else jix i bb n (k + 1)
theorem jm_ich (l : Launch) (base i t : Nat) (sa : Nat → Nat) (ch : Int32) (hi : i < 8) : Met l jy_ich (jw_ich :: mm_big) (jr 0 0) (va_Pc [.ref t, .int ch, .int (nI 0), .int (nI (jlen i))] (jT base sa t (jlen i) (jch i))) (jQ (jix i ch.toInt8.toInt32 (jlen i) 0)) 0 0 jF := by
  refine Met.ofW (cc := prog_18_method_23_code) (maxL := 6) (ret := (some .int)) (by decide) rfl ?_
  intro p e s m args below meth c s₁ B hml hv
  obtain ⟨rfl, hss⟩ := hv
  have hx := B.exec
  have hb := B.bytes
  have hr := B.returns
  have hts0 := atoms_spec (ws := jw_ich :: mm_big) B.pre
  have hts : ∀ w ∈ mm_big, w.before ([.ref t, .int ch, .int (nI 0), .int (nI (jlen i))] : List Value).toArray s = true := fun w hw => hts0 w (List.mem_cons_of_mem _ hw)
  have hown : s.vm.findClass "java/lang/StringLatin1" = some m.cls := findClass_of_methodNamed B.named
  have hlk := B.notSynchronized
  have hS0 : va_S jF s.heap s.heap [] := va_S.rf
  have hl := lv_entry ([.ref t, .int ch, .int (nI 0), .int (nI (jlen i))]) (n := 6) (Nat.le_of_ble_eq_true rfl)
  rw [lg_entry_eq]
  generalize (lg_sl ([.ref t, .int ch, .int (nI 0), .int (nI (jlen i))]) ++ List.replicate (6 - (lg_sl ([.ref t, .int ch, .int (nI 0), .int (nI (jlen i))])).length) Slot.unset).toArray = ls at hl ⊢
  have hl : lv_has ls 6 [(0, .ref t), (1, .int ch), (2, .int (nI 0)), (3, .int (nI (jlen i)))] := hl
  obtain ⟨hss, hT⟩ := hss
  have h5 := (jlen_b i hi).1
  have hS : va_S (fun q => base ≤ q) s.heap s.heap [] := jS_w hS0 (fun q h => h.elim)
  refine lv_iload_n hx hb jd_ich_0 rfl (lv_at hl 1 rfl) ?_
  refine lv_i2b hx hb jd_ich_1 rfl ?_
  refine lv_istore (nL := 6) (lv' := [(4, .int ch.toInt8.toInt32), (0, .ref t), (1, .int ch), (2, .int (nI 0)), (3, .int (nI (jlen i)))]) hx hb jd_ich_2 hl (by decide) rfl (fun ls hl => ?_)
  refine lv_iload_n hx hb jd_ich_4 rfl (lv_at hl 3 rfl) ?_
  refine lv_istore (nL := 6) (lv' := [(5, .int (nI 0)), (4, .int ch.toInt8.toInt32), (0, .ref t), (1, .int ch), (2, .int (nI 0)), (3, .int (nI (jlen i)))]) hx hb jd_ich_5 hl (by decide) rfl (fun ls hl => ?_)
  have loop : ∀ (n k : Nat) (ls : Array Slot), k + n = jlen i → lv_has ls 6 [(5, .int (nI k)), (4, .int ch.toInt8.toInt32), (0, .ref t), (1, .int ch), (2, .int (nI 0)), (3, .int (nI (jlen i)))] → W p l e (headSpec (jw_ich :: mm_big) (jr 0 0)).room s m (#[.ref t, .int ch, .int (nI 0), .int (nI (jlen i))]) below meth c s.heap [] 0 0 (MQ below (jQ (jix i ch.toInt8.toInt32 n k)) (#[.ref t, .int ch, .int (nI 0), .int (nI (jlen i))]) s 0 0 jF) (F0 m 7 ls []) := by
    intro n
    induction n with
    | zero =>
      intro k ls hk hl
      refine lv_iload hx hb jd_ich_7 (lv_at hl 0 rfl) ?_
      refine lv_iload_n hx hb jd_ich_9 rfl (lv_at hl 5 rfl) ?_
      refine lv_icmp_ge hx hb jd_ich_10 (tgt := 31) (by decide) (fun _ => ?_) (fun h => absurd (show nI (jlen i) ≤ nI k by rw [nle (by omega) (by omega)]; omega) h)
      refine lv_iconst (v := -1) hx hb jd_ich_31 (by decide) ?_
      exact W.iret (v := -1) hx hb hr (fun t ht _ => jQ_ok hS0 ht) hS0.2.2 jd_ich_32
    | succ n ih =>
      intro k ls hk hl
      refine lv_iload hx hb jd_ich_7 (lv_at hl 0 rfl) ?_
      refine lv_iload_n hx hb jd_ich_9 rfl (lv_at hl 5 rfl) ?_
      refine lv_icmp_ge hx hb jd_ich_10 (tgt := 31) (by decide) (fun h => absurd h (by rw [nle (by omega) (by omega)]; omega)) (fun _ => ?_)
      refine lv_aload_n hx hb jd_ich_13 rfl (lv_at hl 2 rfl) ?_
      refine lv_iload hx hb jd_ich_14 (lv_at hl 0 rfl) ?_
      refine va_tb (v := .int (jch i k)) hx hb hT hS (vp_in_nI (by omega) (by omega)) (by rw [nI_clamp (by omega)]) jd_ich_16 ?_
      refine lv_iload hx hb jd_ich_17 (lv_at hl 1 rfl) ?_
      refine lv_icmp_ne hx hb jd_ich_19 (tgt := 25) (by decide) (fun h => ?_) (fun h => ?_)
      · rw [jix, if_neg h]
        refine lv_iinc (nL := 6) (k := 0) (x := nI k) (v := nI (k + 1)) (lv' := [(5, .int (nI (k + 1))), (4, .int ch.toInt8.toInt32), (0, .ref t), (1, .int ch), (2, .int (nI 0)), (3, .int (nI (jlen i)))]) hx hb jd_ich_25 hl rfl (nad k 1) (by decide) rfl (fun ls hl => ?_)
        refine lv_goto hx hb jd_ich_28 (tgt := 7) (by decide) ?_
        exact ih (k + 1) ls (by omega) hl
      · rw [jix, if_pos h]
        refine lv_iload hx hb jd_ich_22 (lv_at hl 0 rfl) ?_
        exact W.iret (v := nI k) hx hb hr (fun t ht _ => jQ_ok hS0 ht) hS0.2.2 jd_ich_24
  exact loop (jlen i) 0 ls (by omega) hl
def jIx (i : Nat) (ch : Int32) : Int32 := if 0 ≤ ch ∧ ch ≤ 255 then jix i ch.toInt8.toInt32 (jlen i) 0 else -1
theorem jm_lix (l : Launch) (base i t : Nat) (sa : Nat → Nat) (ch : Int32) (hi : i < 8) : Met l jy_lix (jw_lix :: mm_big) (jr 1 40) (va_Pc [.ref t, .int ch, .int (nI 0), .int (nI (jlen i))] (jT base sa t (jlen i) (jch i))) (jQ (jIx i ch)) 0 0 jF := by
  refine Met.ofW (cc := prog_18_method_22_code) (maxL := 4) (ret := (some .int)) (by decide) rfl ?_
  intro p e s m args below meth c s₁ B hml hv
  obtain ⟨rfl, hss⟩ := hv
  have hx := B.exec
  have hb := B.bytes
  have hr := B.returns
  have hts0 := atoms_spec (ws := jw_lix :: mm_big) B.pre
  have hts : ∀ w ∈ mm_big, w.before ([.ref t, .int ch, .int (nI 0), .int (nI (jlen i))] : List Value).toArray s = true := fun w hw => hts0 w (List.mem_cons_of_mem _ hw)
  have hown : s.vm.findClass "java/lang/StringLatin1" = some m.cls := findClass_of_methodNamed B.named
  have hlk := B.notSynchronized
  have hS0 : va_S jF s.heap s.heap [] := va_S.rf
  have hl := lv_entry ([.ref t, .int ch, .int (nI 0), .int (nI (jlen i))]) (n := 4) (Nat.le_of_ble_eq_true rfl)
  rw [lg_entry_eq]
  generalize (lg_sl ([.ref t, .int ch, .int (nI 0), .int (nI (jlen i))]) ++ List.replicate (4 - (lg_sl ([.ref t, .int ch, .int (nI 0), .int (nI (jlen i))])).length) Slot.unset).toArray = ls at hl ⊢
  have hl : lv_has ls 4 [(0, .ref t), (1, .int ch), (2, .int (nI 0)), (3, .int (nI (jlen i)))] := hl
  obtain ⟨hss, hT⟩ := hss
  have h5 := jlen_b i hi
  refine lv_iload_n hx hb jd_lix_0 rfl (lv_at hl 1 rfl) ?_
  refine j_stat (n := 1) (As := [.int ch]) (rest := []) ⟨hx, hb, hml, hown, hts⟩ (jm_enc l base sa ch) jc_enc js_enc jx_l_i jx_enc_l ⟨by decide, by decide +kernel⟩ ⟨Nat.le_of_ble_eq_true rfl, Nat.le_of_ble_eq_true rfl⟩ jP_b (fun U hU hW => by unfold jP; rw [hU]; exact mm_ss_mv hW.alike hss) hS0 rfl hl.1 (Nat.le_of_ble_eq_true rfl) jd_lix_1 ⟨Nat.zero_le _, Nat.zero_le _⟩ (fun H1 locs1 hz1 hk1 hS1 => ?_)
  have hS2 : va_S (fun q => base ≤ q) s.heap H1 locs1 := jS_w hS1 (fun q h => h.elim)
  unfold jIx
  by_cases z : 0 ≤ ch ∧ ch ≤ 255
  rotate_left
  · rw [if_neg z, if_neg z]
    refine lv_if_ne hx hb jd_lix_4 (tgt := 9) (by decide) (fun h => absurd rfl h) (fun _ => ?_)
    refine lv_iconst (v := -1) hx hb jd_lix_7 (by decide) ?_
    exact W.iret (v := -1) hx hb hr (fun t ht _ => jQ_ok hS1 ht) hS1.2.2 jd_lix_8
  · rw [if_pos z, if_pos z]
    refine lv_if_ne hx hb jd_lix_4 (tgt := 9) (by decide) (fun _ => ?_) (fun h => absurd h (by decide))
    refine lv_iload_n hx hb jd_lix_9 rfl (lv_at hl 2 rfl) ?_
    refine lv_iconst (v := 0) hx hb jd_lix_10 (by decide) ?_
    refine va_mmax hx hb (hml.trans hl.1.symm) hown (hts _ jx_max_l) (hts _ mm_ws1) (hts _ mm_ws5) (hts _ mm_ws7) (Nat.le_of_ble_eq_true rfl) (Nat.le_of_ble_eq_true rfl) (Nat.zero_le _) (Nat.zero_le _) jd_lix_11 ?_
    refine lv_istore_n (nL := 4) (i := 2) (lv' := [(2, .int (nI 0)), (0, .ref t), (1, .int ch), (3, .int (nI (jlen i)))]) hx hb jd_lix_14 rfl hl (by decide) rfl (fun ls hl => ?_)
    refine lv_iload_n hx hb jd_lix_15 rfl (lv_at hl 3 rfl) ?_
    refine lv_aload_n hx hb jd_lix_16 rfl (lv_at hl 1 rfl) ?_
    refine va_tlen (v := nI (jlen i)) hx hb hT hS2 rfl jd_lix_17 ?_
    refine va_mmin hx hb (hml.trans hl.1.symm) hown (hts _ jx_min_l) (hts _ mm_ws2) (hts _ mm_ws5) (hts _ mm_ws8) (Nat.le_of_ble_eq_true rfl) (Nat.le_of_ble_eq_true rfl) (Nat.zero_le _) (Nat.zero_le _) jd_lix_18 ?_
    rw [if_neg Int32.lt_irrefl]
    refine lv_istore_n (nL := 4) (i := 3) (lv' := [(3, .int (nI (jlen i))), (2, .int (nI 0)), (0, .ref t), (1, .int ch)]) hx hb jd_lix_21 rfl hl (by decide) rfl (fun ls hl => ?_)
    refine lv_iload_n hx hb jd_lix_22 rfl (lv_at hl 1 rfl) ?_
    refine lv_iload_n hx hb jd_lix_23 rfl (lv_at hl 0 rfl) ?_
    refine lv_icmp_lt hx hb jd_lix_24 (tgt := 29) (by decide) (fun _ => ?_) (fun h => absurd (show nI 0 < nI (jlen i) by rw [nlt (by omega) (by omega)]; omega) h)
    refine lv_aload_n hx hb jd_lix_29 rfl (lv_at hl 2 rfl) ?_
    refine lv_iload_n hx hb jd_lix_30 rfl (lv_at hl 3 rfl) ?_
    refine lv_iload_n hx hb jd_lix_31 rfl (lv_at hl 1 rfl) ?_
    refine lv_iload_n hx hb jd_lix_32 rfl (lv_at hl 0 rfl) ?_
    refine j_stat (n := 4) (As := [.ref t, .int ch, .int (nI 0), .int (nI (jlen i))]) (rest := []) ⟨hx, hb, hml, hown, hts⟩ (jm_ich l base i t sa ch hi) jc_ich js_ich jx_l_i jx_ich_l ⟨by decide, by decide +kernel⟩ ⟨Nat.le_of_ble_eq_true rfl, Nat.le_of_ble_eq_true rfl⟩ jT_b (fun U hU hW => by unfold jT; rw [hU]; exact ⟨mm_ss_mv hW.alike (mm_ss_kp hss hS2.2.1), va_T.moved hW.alike (hT.kept hS2.2.1)⟩) hS1 rfl hl.1 (Nat.le_of_ble_eq_true rfl) jd_lix_33 ⟨Nat.zero_le _, Nat.zero_le _⟩ (fun H1 locs1 hz1 hk1 hS1 => ?_)
    exact W.iret hx hb hr (fun t ht _ => jQ_ok hS1 ht) hS1.2.2 jd_lix_36
theorem jm_ix2 (l : Launch) (base i : Nat) (sa : Nat → Nat) (ch : Int32) (hi : i < 8) : Met l jy_ix2 (jw_ix2 :: mm_big) (jr 2 70) (va_Pc [.ref (sa i), .int ch, .int (nI 0)] (jP base sa)) (jQ (jIx i ch)) 0 0 jF := by
  refine Met.ofW (cc := prog_17_method_80_code) (maxL := 3) (ret := (some .int)) (by decide) rfl ?_
  intro p e s m args below meth c s₁ B hml hv
  obtain ⟨rfl, hss⟩ := hv
  have hx := B.exec
  have hb := B.bytes
  have hr := B.returns
  have hts0 := atoms_spec (ws := jw_ix2 :: mm_big) B.pre
  have hts : ∀ w ∈ mm_big, w.before ([.ref (sa i), .int ch, .int (nI 0)] : List Value).toArray s = true := fun w hw => hts0 w (List.mem_cons_of_mem _ hw)
  have hown : s.vm.findClass "java/lang/String" = some m.cls := findClass_of_methodNamed B.named
  have hlk := B.notSynchronized
  have hS0 : va_S jF s.heap s.heap [] := va_S.rf
  have hl := lv_entry ([.ref (sa i), .int ch, .int (nI 0)]) (n := 3) (Nat.le_of_ble_eq_true rfl)
  rw [lg_entry_eq]
  generalize (lg_sl ([.ref (sa i), .int ch, .int (nI 0)]) ++ List.replicate (3 - (lg_sl ([.ref (sa i), .int ch, .int (nI 0)])).length) Slot.unset).toArray = ls at hl ⊢
  have hl : lv_has ls 3 [(0, .ref (sa i)), (1, .int ch), (2, .int (nI 0))] := hl
  obtain ⟨⟨sv, hv⟩, hz, -⟩ := id hss
  have hS : va_S (fun q => base ≤ q) s.heap s.heap [] := jS_w hS0 (fun q h => h.elim)
  have hT : va_T .byte (sv i) (jlen i) (fun j => .int (jch i j)) (fun q => base ≤ q) s s.heap := (hv.1 i hi).2.2.2
  refine lv_aload_n hx hb jd_ix2_0 rfl (lv_at hl 0 rfl) ?_
  refine j_virt (n := 0) (As := []) (b := sa i) (rest := []) ⟨hx, hb, hml, hown, hts⟩ (jm_lat l base i sa hi) jc_lat ji_lat jl_lat jx_lat_l ⟨rfl, by decide +kernel⟩ ⟨Nat.le_of_ble_eq_true rfl, Nat.le_of_ble_eq_true rfl⟩ jP_b (vk_recv hv hi hS) (fun U hU hW => by unfold jP; rw [hU]; exact mm_ss_mv hW.alike hss) hS0 rfl hl.1 (Nat.le_of_ble_eq_true rfl) jd_ix2_1 ⟨Nat.zero_le _, Nat.zero_le _⟩ (fun H1 locs1 hz1 hk1 hS1 => ?_)
  have hS2 : va_S (fun q => base ≤ q) s.heap H1 locs1 := jS_w hS1 (fun q h => h.elim)
  refine lv_if_eq hx hb jd_ix2_4 (tgt := 23) (by decide) (fun h => absurd h (by decide)) (fun _ => ?_)
  refine lv_aload_n hx hb jd_ix2_7 rfl (lv_at hl 0 rfl) ?_
  refine vk_getf hx hb (hv.1 i hi).2.2.1 hS2 hown (hts _ jx_val_f) (fun _ h => h) jd_ix2_8 ?_
  refine lv_iload_n hx hb jd_ix2_11 rfl (lv_at hl 1 rfl) ?_
  refine lv_iload_n hx hb jd_ix2_12 rfl (lv_at hl 2 rfl) ?_
  refine lv_aload_n hx hb jd_ix2_13 rfl (lv_at hl 0 rfl) ?_
  refine j_virt (n := 0) (As := []) (b := sa i) (rest := [.int (nI 0), .int ch, .ref (sv i)]) ⟨hx, hb, hml, hown, hts⟩ (jm_len l base i sa hi) jc_len ji_len jl_len jx_len_l ⟨rfl, by decide +kernel⟩ ⟨Nat.le_of_ble_eq_true rfl, Nat.le_of_ble_eq_true rfl⟩ jP_b (vk_recv hv hi hS2) (fun U hU hW => by unfold jP; rw [hU]; exact mm_ss_mv hW.alike (mm_ss_kp hss hS2.2.1)) hS1 rfl hl.1 (Nat.le_of_ble_eq_true rfl) jd_ix2_14 ⟨Nat.zero_le _, Nat.zero_le _⟩ (fun H1 locs1 hz1 hk1 hS1 => ?_)
  have hS3 : va_S (fun q => base ≤ q) s.heap H1 locs1 := jS_w hS1 (fun q h => h.elim)
  refine j_stat (n := 4) (As := [.ref (sv i), .int ch, .int (nI 0), .int (nI (jlen i))]) (rest := []) ⟨hx, hb, hml, hown, hts⟩ (jm_lix l base i (sv i) sa ch hi) jc_lix js_lix jx_l_i jx_lix_l ⟨by decide, by decide +kernel⟩ ⟨Nat.le_of_ble_eq_true rfl, Nat.le_of_ble_eq_true rfl⟩ jT_b (fun U hU hW => by unfold jT; rw [hU]; exact ⟨mm_ss_mv hW.alike (mm_ss_kp hss hS3.2.1), va_T.moved hW.alike (hT.kept hS3.2.1)⟩) hS1 rfl hl.1 (Nat.le_of_ble_eq_true rfl) jd_ix2_17 ⟨Nat.zero_le _, Nat.zero_le _⟩ (fun H1 locs1 hz1 hk1 hS1 => ?_)
  refine lv_goto hx hb jd_ix2_20 (tgt := 36) (by decide) ?_
  exact W.iret hx hb hr (fun t ht _ => jQ_ok hS1 ht) hS1.2.2 jd_ix2_36
theorem jm_ix1 (l : Launch) (base i : Nat) (sa : Nat → Nat) (ch : Int32) (hi : i < 8) : Met l jy_ix1 (jw_ix1 :: mm_big) (jr 3 100) (va_Pc [.ref (sa i), .int ch] (jP base sa)) (jQ (jIx i ch)) 0 0 jF := by
  refine Met.ofW (cc := prog_17_method_79_code) (maxL := 2) (ret := (some .int)) (by decide) rfl ?_
  intro p e s m args below meth c s₁ B hml hv
  obtain ⟨rfl, hss⟩ := hv
  have hx := B.exec
  have hb := B.bytes
  have hr := B.returns
  have hts0 := atoms_spec (ws := jw_ix1 :: mm_big) B.pre
  have hts : ∀ w ∈ mm_big, w.before ([.ref (sa i), .int ch] : List Value).toArray s = true := fun w hw => hts0 w (List.mem_cons_of_mem _ hw)
  have hown : s.vm.findClass "java/lang/String" = some m.cls := findClass_of_methodNamed B.named
  have hlk := B.notSynchronized
  have hS0 : va_S jF s.heap s.heap [] := va_S.rf
  have hl := lv_entry ([.ref (sa i), .int ch]) (n := 2) (Nat.le_of_ble_eq_true rfl)
  rw [lg_entry_eq]
  generalize (lg_sl ([.ref (sa i), .int ch]) ++ List.replicate (2 - (lg_sl ([.ref (sa i), .int ch])).length) Slot.unset).toArray = ls at hl ⊢
  have hl : lv_has ls 2 [(0, .ref (sa i)), (1, .int ch)] := hl
  obtain ⟨⟨sv, hv⟩, hz, -⟩ := id hss
  have hS : va_S (fun q => base ≤ q) s.heap s.heap [] := jS_w hS0 (fun q h => h.elim)
  refine lv_aload_n hx hb jd_ix1_0 rfl (lv_at hl 0 rfl) ?_
  refine lv_iload_n hx hb jd_ix1_1 rfl (lv_at hl 1 rfl) ?_
  refine lv_iconst (v := nI 0) hx hb jd_ix1_2 (by decide) ?_
  refine j_virt (n := 2) (As := [.int ch, .int (nI 0)]) (b := sa i) (rest := []) ⟨hx, hb, hml, hown, hts⟩ (jm_ix2 l base i sa ch hi) jc_ix2 ji_ix2 jl_ix2 jx_ix2_l ⟨rfl, by decide +kernel⟩ ⟨Nat.le_of_ble_eq_true rfl, Nat.le_of_ble_eq_true rfl⟩ jP_b (vk_recv hv hi hS) (fun U hU hW => by unfold jP; rw [hU]; exact mm_ss_mv hW.alike hss) hS0 rfl hl.1 (Nat.le_of_ble_eq_true rfl) jd_ix1_3 ⟨Nat.zero_le _, Nat.zero_le _⟩ (fun H1 locs1 hz1 hk1 hS1 => ?_)
  exact W.iret hx hb hr (fun t ht _ => jQ_ok hS1 ht) hS1.2.2 jd_ix1_6
