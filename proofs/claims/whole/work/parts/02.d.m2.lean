theorem dX11_step_27 : decode cX11_step 27 = .ok (.iload_n 1, 1) := by decide +kernel
theorem dX11_step_28 : decode cX11_step 28 = .ok (.iconst 2, 1) := by decide +kernel
theorem dX11_step_29 : decode cX11_step 29 = .ok (.if_icmp .eq 13, 3) := by decide +kernel
theorem dX11_step_32 : decode cX11_step 32 = .ok (.iload 4, 2) := by decide +kernel
theorem dX11_step_34 : decode cX11_step 34 = .ok (.iconst 0, 1) := by decide +kernel
theorem dX11_step_35 : decode cX11_step 35 = .ok (.iconst 3, 1) := by decide +kernel
theorem dX11_step_36 : decode cX11_step 36 = .ok (.invokestatic 136, 3) := by decide +kernel
theorem dX11_step_39 : decode cX11_step 39 = .ok (.ifCond .eq 22, 3) := by decide +kernel
theorem dX11_step_42 : decode cX11_step 42 = .ok (.iload_n 1, 1) := by decide +kernel
theorem dX11_step_43 : decode cX11_step 43 = .ok (.ifCond .eq 14, 3) := by decide +kernel
theorem dX11_step_46 : decode cX11_step 46 = .ok (.iload 5, 2) := by decide +kernel
theorem dX11_step_48 : decode cX11_step 48 = .ok (.iconst 0, 1) := by decide +kernel
theorem dX11_step_49 : decode cX11_step 49 = .ok (.bipush 16, 2) := by decide +kernel
theorem dX11_step_51 : decode cX11_step 51 = .ok (.invokestatic 136, 3) := by decide +kernel
theorem dX11_step_54 : decode cX11_step 54 = .ok (.ifCond .eq 7, 3) := by decide +kernel
theorem dX11_step_57 : decode cX11_step 57 = .ok (.iconst 1, 1) := by decide +kernel
theorem dX11_step_58 : decode cX11_step 58 = .ok (.goto 4, 3) := by decide +kernel
theorem dX11_step_61 : decode cX11_step 61 = .ok (.iconst 0, 1) := by decide +kernel
theorem dX11_step_62 : decode cX11_step 62 = .ok (.istore 6, 2) := by decide +kernel
theorem dX11_step_64 : decode cX11_step 64 = .ok (.iload 6, 2) := by decide +kernel
theorem dX11_step_66 : decode cX11_step 66 = .ok (.ifCond .ne 6, 3) := by decide +kernel
theorem dX11_step_69 : decode cX11_step 69 = .ok (.bipush (-102), 2) := by decide +kernel
theorem dX11_step_71 : decode cX11_step 71 = .ok (.ireturn, 1) := by decide +kernel
theorem dX11_step_72 : decode cX11_step 72 = .ok (.aload_n 0, 1) := by decide +kernel
theorem dX11_step_73 : decode cX11_step 73 = .ok (.getfield 156, 3) := by decide +kernel
theorem dX11_step_76 : decode cX11_step 76 = .ok (.bipush 16, 2) := by decide +kernel
theorem dX11_step_78 : decode cX11_step 78 = .ok (.if_icmp .ne 6, 3) := by decide +kernel
theorem dX11_step_81 : decode cX11_step 81 = .ok (.bipush (-104), 2) := by decide +kernel
theorem dX11_step_83 : decode cX11_step 83 = .ok (.ireturn, 1) := by decide +kernel
theorem dX11_step_84 : decode cX11_step 84 = .ok (.aload_n 0, 1) := by decide +kernel
theorem dX11_step_85 : decode cX11_step 85 = .ok (.getfield 41, 3) := by decide +kernel
theorem dX11_step_88 : decode cX11_step 88 = .ok (.aload_n 0, 1) := by decide +kernel
theorem dX11_step_89 : decode cX11_step 89 = .ok (.getfield 156, 3) := by decide +kernel
theorem dX11_step_92 : decode cX11_step 92 = .ok (.iload_n 1, 1) := by decide +kernel
theorem dX11_step_93 : decode cX11_step 93 = .ok (.iastore, 1) := by decide +kernel
theorem dX11_step_94 : decode cX11_step 94 = .ok (.aload_n 0, 1) := by decide +kernel
theorem dX11_step_95 : decode cX11_step 95 = .ok (.getfield 44, 3) := by decide +kernel
theorem dX11_step_98 : decode cX11_step 98 = .ok (.aload_n 0, 1) := by decide +kernel
theorem dX11_step_99 : decode cX11_step 99 = .ok (.getfield 156, 3) := by decide +kernel
theorem dX11_step_102 : decode cX11_step 102 = .ok (.iload_n 2, 1) := by decide +kernel
theorem dX11_step_103 : decode cX11_step 103 = .ok (.iastore, 1) := by decide +kernel
theorem dX11_step_104 : decode cX11_step 104 = .ok (.aload_n 0, 1) := by decide +kernel
theorem dX11_step_105 : decode cX11_step 105 = .ok (.getfield 47, 3) := by decide +kernel
theorem dX11_step_108 : decode cX11_step 108 = .ok (.aload_n 0, 1) := by decide +kernel
theorem dX11_step_109 : decode cX11_step 109 = .ok (.getfield 156, 3) := by decide +kernel
theorem dX11_step_112 : decode cX11_step 112 = .ok (.iload_n 3, 1) := by decide +kernel
theorem dX11_step_113 : decode cX11_step 113 = .ok (.iastore, 1) := by decide +kernel
theorem dX11_step_114 : decode cX11_step 114 = .ok (.aload_n 0, 1) := by decide +kernel
theorem dX11_step_115 : decode cX11_step 115 = .ok (.getfield 50, 3) := by decide +kernel
theorem dX11_step_118 : decode cX11_step 118 = .ok (.aload_n 0, 1) := by decide +kernel
theorem dX11_step_119 : decode cX11_step 119 = .ok (.getfield 156, 3) := by decide +kernel
theorem dX11_step_122 : decode cX11_step 122 = .ok (.iload 4, 2) := by decide +kernel
theorem dX11_step_124 : decode cX11_step 124 = .ok (.iastore, 1) := by decide +kernel
theorem dX11_step_125 : decode cX11_step 125 = .ok (.aload_n 0, 1) := by decide +kernel
theorem dX11_step_126 : decode cX11_step 126 = .ok (.getfield 53, 3) := by decide +kernel
theorem dX11_step_129 : decode cX11_step 129 = .ok (.aload_n 0, 1) := by decide +kernel
theorem dX11_step_130 : decode cX11_step 130 = .ok (.getfield 156, 3) := by decide +kernel
theorem dX11_step_133 : decode cX11_step 133 = .ok (.iload 5, 2) := by decide +kernel
theorem dX11_step_135 : decode cX11_step 135 = .ok (.iastore, 1) := by decide +kernel
theorem dX11_step_136 : decode cX11_step 136 = .ok (.aload_n 0, 1) := by decide +kernel
theorem dX11_step_137 : decode cX11_step 137 = .ok (.dup, 1) := by decide +kernel
theorem dX11_step_138 : decode cX11_step 138 = .ok (.getfield 156, 3) := by decide +kernel
theorem dX11_step_141 : decode cX11_step 141 = .ok (.iconst 1, 1) := by decide +kernel
theorem dX11_step_142 : decode cX11_step 142 = .ok (.iadd, 1) := by decide +kernel
theorem dX11_step_143 : decode cX11_step 143 = .ok (.putfield 156, 3) := by decide +kernel
theorem dX11_step_146 : decode cX11_step 146 = .ok (.aload_n 0, 1) := by decide +kernel
theorem dX11_step_147 : decode cX11_step 147 = .ok (.iconst 0, 1) := by decide +kernel
theorem dX11_step_148 : decode cX11_step 148 = .ok (.putfield 130, 3) := by decide +kernel
theorem dX11_step_151 : decode cX11_step 151 = .ok (.aload_n 0, 1) := by decide +kernel
theorem dX11_step_152 : decode cX11_step 152 = .ok (.getfield 156, 3) := by decide +kernel
theorem dX11_step_155 : decode cX11_step 155 = .ok (.iconst 1, 1) := by decide +kernel
theorem dX11_step_156 : decode cX11_step 156 = .ok (.isub, 1) := by decide +kernel
theorem dX11_step_157 : decode cX11_step 157 = .ok (.ireturn, 1) := by decide +kernel
theorem dX11_erase_0 : decode cX11_erase 0 = .ok (.aload_n 0, 1) := by decide +kernel
theorem dX11_erase_1 : decode cX11_erase 1 = .ok (.getfield 156, 3) := by decide +kernel
theorem dX11_erase_4 : decode cX11_erase 4 = .ok (.istore_n 1, 1) := by decide +kernel
theorem dX11_erase_5 : decode cX11_erase 5 = .ok (.aload_n 0, 1) := by decide +kernel
theorem dX11_erase_6 : decode cX11_erase 6 = .ok (.iconst 0, 1) := by decide +kernel
theorem dX11_erase_7 : decode cX11_erase 7 = .ok (.putfield 156, 3) := by decide +kernel
theorem dX11_erase_10 : decode cX11_erase 10 = .ok (.aload_n 0, 1) := by decide +kernel
theorem dX11_erase_11 : decode cX11_erase 11 = .ok (.iconst 0, 1) := by decide +kernel
theorem dX11_erase_12 : decode cX11_erase 12 = .ok (.putfield 130, 3) := by decide +kernel
theorem dX11_erase_15 : decode cX11_erase 15 = .ok (.iload_n 1, 1) := by decide +kernel
theorem dX11_erase_16 : decode cX11_erase 16 = .ok (.ireturn, 1) := by decide +kernel
theorem dX11_lookRef_0 : decode cX11_lookRef 0 = .ok (.iconst 0, 1) := by decide +kernel
theorem dX11_lookRef_1 : decode cX11_lookRef 1 = .ok (.istore_n 2, 1) := by decide +kernel
theorem dX11_lookRef_2 : decode cX11_lookRef 2 = .ok (.iload_n 1, 1) := by decide +kernel
theorem dX11_lookRef_3 : decode cX11_lookRef 3 = .ok (.iconst (-1), 1) := by decide +kernel
theorem dX11_lookRef_4 : decode cX11_lookRef 4 = .ok (.if_icmp .eq 64, 3) := by decide +kernel
theorem dX11_lookRef_7 : decode cX11_lookRef 7 = .ok (.aload_n 0, 1) := by decide +kernel
theorem dX11_lookRef_8 : decode cX11_lookRef 8 = .ok (.getfield 120, 3) := by decide +kernel
theorem dX11_lookRef_11 : decode cX11_lookRef 11 = .ok (.iload_n 1, 1) := by decide +kernel
theorem dX11_lookRef_12 : decode cX11_lookRef 12 = .ok (.iaload, 1) := by decide +kernel
theorem dX11_lookRef_13 : decode cX11_lookRef 13 = .ok (.iconst (-1), 1) := by decide +kernel
theorem dX11_lookRef_14 : decode cX11_lookRef 14 = .ok (.if_icmp .ne 15, 3) := by decide +kernel
theorem dX11_lookRef_17 : decode cX11_lookRef 17 = .ok (.bipush 10, 2) := by decide +kernel
theorem dX11_lookRef_19 : decode cX11_lookRef 19 = .ok (.aload_n 0, 1) := by decide +kernel
theorem dX11_lookRef_20 : decode cX11_lookRef 20 = .ok (.getfield 96, 3) := by decide +kernel
theorem dX11_lookRef_23 : decode cX11_lookRef 23 = .ok (.iload_n 1, 1) := by decide +kernel
theorem dX11_lookRef_24 : decode cX11_lookRef 24 = .ok (.iaload, 1) := by decide +kernel
theorem dX11_lookRef_25 : decode cX11_lookRef 25 = .ok (.iadd, 1) := by decide +kernel
theorem dX11_lookRef_26 : decode cX11_lookRef 26 = .ok (.goto 11, 3) := by decide +kernel
theorem dX11_lookRef_29 : decode cX11_lookRef 29 = .ok (.iconst 1, 1) := by decide +kernel
theorem dX11_lookRef_30 : decode cX11_lookRef 30 = .ok (.aload_n 0, 1) := by decide +kernel
theorem dX11_lookRef_31 : decode cX11_lookRef 31 = .ok (.getfield 120, 3) := by decide +kernel
theorem dX11_lookRef_34 : decode cX11_lookRef 34 = .ok (.iload_n 1, 1) := by decide +kernel
theorem dX11_lookRef_35 : decode cX11_lookRef 35 = .ok (.iaload, 1) := by decide +kernel
theorem dX11_lookRef_36 : decode cX11_lookRef 36 = .ok (.iadd, 1) := by decide +kernel
theorem dX11_lookRef_37 : decode cX11_lookRef 37 = .ok (.istore_n 2, 1) := by decide +kernel
theorem dX11_lookRef_38 : decode cX11_lookRef 38 = .ok (.aload_n 0, 1) := by decide +kernel
theorem dX11_lookRef_39 : decode cX11_lookRef 39 = .ok (.getfield 120, 3) := by decide +kernel
theorem dX11_lookRef_42 : decode cX11_lookRef 42 = .ok (.iload_n 1, 1) := by decide +kernel
theorem dX11_lookRef_43 : decode cX11_lookRef 43 = .ok (.iaload, 1) := by decide +kernel
theorem dX11_lookRef_44 : decode cX11_lookRef 44 = .ok (.iconst (-1), 1) := by decide +kernel
theorem dX11_lookRef_45 : decode cX11_lookRef 45 = .ok (.if_icmp .ne 23, 3) := by decide +kernel
theorem dX11_lookRef_48 : decode cX11_lookRef 48 = .ok (.aload_n 0, 1) := by decide +kernel
theorem dX11_lookRef_49 : decode cX11_lookRef 49 = .ok (.getfield 120, 3) := by decide +kernel
theorem dX11_lookRef_52 : decode cX11_lookRef 52 = .ok (.iload_n 1, 1) := by decide +kernel
theorem dX11_lookRef_53 : decode cX11_lookRef 53 = .ok (.aload_n 0, 1) := by decide +kernel
theorem dX11_lookRef_54 : decode cX11_lookRef 54 = .ok (.getfield 224, 3) := by decide +kernel
theorem dX11_lookRef_57 : decode cX11_lookRef 57 = .ok (.iastore, 1) := by decide +kernel
theorem dX11_lookRef_58 : decode cX11_lookRef 58 = .ok (.aload_n 0, 1) := by decide +kernel
theorem dX11_lookRef_59 : decode cX11_lookRef 59 = .ok (.dup, 1) := by decide +kernel
theorem dX11_lookRef_60 : decode cX11_lookRef 60 = .ok (.getfield 224, 3) := by decide +kernel
theorem dX11_lookRef_63 : decode cX11_lookRef 63 = .ok (.iconst 1, 1) := by decide +kernel
theorem dX11_lookRef_64 : decode cX11_lookRef 64 = .ok (.iadd, 1) := by decide +kernel
theorem dX11_lookRef_65 : decode cX11_lookRef 65 = .ok (.putfield 224, 3) := by decide +kernel
theorem dX11_lookRef_68 : decode cX11_lookRef 68 = .ok (.aload_n 0, 1) := by decide +kernel
theorem dX11_lookRef_69 : decode cX11_lookRef 69 = .ok (.getfield 123, 3) := by decide +kernel
theorem dX11_lookRef_72 : decode cX11_lookRef 72 = .ok (.aload_n 0, 1) := by decide +kernel
theorem dX11_lookRef_73 : decode cX11_lookRef 73 = .ok (.getfield 227, 3) := by decide +kernel
theorem dX11_lookRef_76 : decode cX11_lookRef 76 = .ok (.iload_n 2, 1) := by decide +kernel
theorem dX11_lookRef_77 : decode cX11_lookRef 77 = .ok (.iastore, 1) := by decide +kernel
theorem dX11_lookRef_78 : decode cX11_lookRef 78 = .ok (.aload_n 0, 1) := by decide +kernel
theorem dX11_lookRef_79 : decode cX11_lookRef 79 = .ok (.dup, 1) := by decide +kernel
theorem dX11_lookRef_80 : decode cX11_lookRef 80 = .ok (.getfield 227, 3) := by decide +kernel
theorem dX11_lookRef_83 : decode cX11_lookRef 83 = .ok (.iconst 1, 1) := by decide +kernel
theorem dX11_lookRef_84 : decode cX11_lookRef 84 = .ok (.iadd, 1) := by decide +kernel
theorem dX11_lookRef_85 : decode cX11_lookRef 85 = .ok (.putfield 227, 3) := by decide +kernel
theorem dX11_lookRef_88 : decode cX11_lookRef 88 = .ok (.return_, 1) := by decide +kernel
theorem dX11_ask_0 : decode cX11_ask 0 = .ok (.aload_n 0, 1) := by decide +kernel
theorem dX11_ask_1 : decode cX11_ask 1 = .ok (.getfield 111, 3) := by decide +kernel
theorem dX11_ask_4 : decode cX11_ask 4 = .ok (.iload_n 1, 1) := by decide +kernel
theorem dX11_ask_5 : decode cX11_ask 5 = .ok (.baload, 1) := by decide +kernel
theorem dX11_ask_6 : decode cX11_ask 6 = .ok (.ifCond .eq 29, 3) := by decide +kernel
theorem dX11_ask_9 : decode cX11_ask 9 = .ok (.aload_n 0, 1) := by decide +kernel
theorem dX11_ask_10 : decode cX11_ask 10 = .ok (.getfield 114, 3) := by decide +kernel
theorem dX11_ask_13 : decode cX11_ask 13 = .ok (.iload_n 1, 1) := by decide +kernel
theorem dX11_ask_14 : decode cX11_ask 14 = .ok (.baload, 1) := by decide +kernel
theorem dX11_ask_15 : decode cX11_ask 15 = .ok (.ifCond .ne 20, 3) := by decide +kernel
theorem dX11_ask_18 : decode cX11_ask 18 = .ok (.aload_n 0, 1) := by decide +kernel
theorem dX11_ask_19 : decode cX11_ask 19 = .ok (.getfield 114, 3) := by decide +kernel
theorem dX11_ask_22 : decode cX11_ask 22 = .ok (.iload_n 1, 1) := by decide +kernel
theorem dX11_ask_23 : decode cX11_ask 23 = .ok (.iconst 1, 1) := by decide +kernel
theorem dX11_ask_24 : decode cX11_ask 24 = .ok (.bastore, 1) := by decide +kernel
theorem dX11_ask_25 : decode cX11_ask 25 = .ok (.aload_n 0, 1) := by decide +kernel
theorem dX11_ask_26 : decode cX11_ask 26 = .ok (.aload_n 0, 1) := by decide +kernel
theorem dX11_ask_27 : decode cX11_ask 27 = .ok (.getfield 99, 3) := by decide +kernel
theorem dX11_ask_30 : decode cX11_ask 30 = .ok (.iload_n 1, 1) := by decide +kernel
theorem dX11_ask_31 : decode cX11_ask 31 = .ok (.iaload, 1) := by decide +kernel
theorem dX11_ask_32 : decode cX11_ask 32 = .ok (.invokevirtual 230, 3) := by decide +kernel
theorem dX11_ask_35 : decode cX11_ask 35 = .ok (.return_, 1) := by decide +kernel
theorem dX11_askField_0 : decode cX11_askField 0 = .ok (.aload_n 0, 1) := by decide +kernel
theorem dX11_askField_1 : decode cX11_askField 1 = .ok (.getfield 117, 3) := by decide +kernel
theorem dX11_askField_4 : decode cX11_askField 4 = .ok (.iconst 4, 1) := by decide +kernel
theorem dX11_askField_5 : decode cX11_askField 5 = .ok (.iload_n 1, 1) := by decide +kernel
theorem dX11_askField_6 : decode cX11_askField 6 = .ok (.imul, 1) := by decide +kernel
theorem dX11_askField_7 : decode cX11_askField 7 = .ok (.iload_n 2, 1) := by decide +kernel
theorem dX11_askField_8 : decode cX11_askField 8 = .ok (.iadd, 1) := by decide +kernel
theorem dX11_askField_9 : decode cX11_askField 9 = .ok (.baload, 1) := by decide +kernel
theorem dX11_askField_10 : decode cX11_askField 10 = .ok (.ifCond .ne 64, 3) := by decide +kernel
theorem dX11_askField_13 : decode cX11_askField 13 = .ok (.aload_n 0, 1) := by decide +kernel
theorem dX11_askField_14 : decode cX11_askField 14 = .ok (.getfield 117, 3) := by decide +kernel
theorem dX11_askField_17 : decode cX11_askField 17 = .ok (.iconst 4, 1) := by decide +kernel
theorem dX11_askField_18 : decode cX11_askField 18 = .ok (.iload_n 1, 1) := by decide +kernel
theorem dX11_askField_19 : decode cX11_askField 19 = .ok (.imul, 1) := by decide +kernel
theorem dX11_askField_20 : decode cX11_askField 20 = .ok (.iload_n 2, 1) := by decide +kernel
theorem dX11_askField_21 : decode cX11_askField 21 = .ok (.iadd, 1) := by decide +kernel
theorem dX11_askField_22 : decode cX11_askField 22 = .ok (.iconst 1, 1) := by decide +kernel
theorem dX11_askField_23 : decode cX11_askField 23 = .ok (.bastore, 1) := by decide +kernel
theorem dX11_askField_24 : decode cX11_askField 24 = .ok (.iload_n 3, 1) := by decide +kernel
theorem dX11_askField_25 : decode cX11_askField 25 = .ok (.ifCond .ne 20, 3) := by decide +kernel
theorem dX11_askField_28 : decode cX11_askField 28 = .ok (.aload_n 0, 1) := by decide +kernel
theorem dX11_askField_29 : decode cX11_askField 29 = .ok (.aload_n 0, 1) := by decide +kernel
theorem dX11_askField_30 : decode cX11_askField 30 = .ok (.getfield 102, 3) := by decide +kernel
theorem dX11_askField_33 : decode cX11_askField 33 = .ok (.iconst 4, 1) := by decide +kernel
theorem dX11_askField_34 : decode cX11_askField 34 = .ok (.iload_n 1, 1) := by decide +kernel
theorem dX11_askField_35 : decode cX11_askField 35 = .ok (.imul, 1) := by decide +kernel
theorem dX11_askField_36 : decode cX11_askField 36 = .ok (.iload_n 2, 1) := by decide +kernel
theorem dX11_askField_37 : decode cX11_askField 37 = .ok (.iadd, 1) := by decide +kernel
theorem dX11_askField_38 : decode cX11_askField 38 = .ok (.iaload, 1) := by decide +kernel
theorem dX11_askField_39 : decode cX11_askField 39 = .ok (.invokevirtual 230, 3) := by decide +kernel
theorem dX11_askField_42 : decode cX11_askField 42 = .ok (.goto 32, 3) := by decide +kernel
theorem dX11_askField_45 : decode cX11_askField 45 = .ok (.aload_n 0, 1) := by decide +kernel
theorem dX11_askField_46 : decode cX11_askField 46 = .ok (.getfield 123, 3) := by decide +kernel
theorem dX11_askField_49 : decode cX11_askField 49 = .ok (.aload_n 0, 1) := by decide +kernel
theorem dX11_askField_50 : decode cX11_askField 50 = .ok (.getfield 227, 3) := by decide +kernel
theorem dX11_askField_53 : decode cX11_askField 53 = .ok (.aload_n 0, 1) := by decide +kernel
theorem dX11_askField_54 : decode cX11_askField 54 = .ok (.getfield 102, 3) := by decide +kernel
theorem dX11_askField_57 : decode cX11_askField 57 = .ok (.iconst 4, 1) := by decide +kernel
theorem dX11_askField_58 : decode cX11_askField 58 = .ok (.iload_n 1, 1) := by decide +kernel
theorem dX11_askField_59 : decode cX11_askField 59 = .ok (.imul, 1) := by decide +kernel
theorem dX11_askField_60 : decode cX11_askField 60 = .ok (.iload_n 2, 1) := by decide +kernel
theorem dX11_askField_61 : decode cX11_askField 61 = .ok (.iadd, 1) := by decide +kernel
theorem dX11_askField_62 : decode cX11_askField 62 = .ok (.iaload, 1) := by decide +kernel
theorem dX11_askField_63 : decode cX11_askField 63 = .ok (.iastore, 1) := by decide +kernel
theorem dX11_askField_64 : decode cX11_askField 64 = .ok (.aload_n 0, 1) := by decide +kernel
theorem dX11_askField_65 : decode cX11_askField 65 = .ok (.dup, 1) := by decide +kernel
theorem dX11_askField_66 : decode cX11_askField 66 = .ok (.getfield 227, 3) := by decide +kernel
theorem dX11_askField_69 : decode cX11_askField 69 = .ok (.iconst 1, 1) := by decide +kernel
theorem dX11_askField_70 : decode cX11_askField 70 = .ok (.iadd, 1) := by decide +kernel
theorem dX11_askField_71 : decode cX11_askField 71 = .ok (.putfield 227, 3) := by decide +kernel
theorem dX11_askField_74 : decode cX11_askField 74 = .ok (.return_, 1) := by decide +kernel
theorem dX11_doStep_0 : decode cX11_doStep 0 = .ok (.aload_n 0, 1) := by decide +kernel
theorem dX11_doStep_1 : decode cX11_doStep 1 = .ok (.getfield 44, 3) := by decide +kernel
theorem dX11_doStep_4 : decode cX11_doStep 4 = .ok (.iload_n 1, 1) := by decide +kernel
theorem dX11_doStep_5 : decode cX11_doStep 5 = .ok (.iaload, 1) := by decide +kernel
theorem dX11_doStep_6 : decode cX11_doStep 6 = .ok (.istore_n 2, 1) := by decide +kernel
theorem dX11_doStep_7 : decode cX11_doStep 7 = .ok (.aload_n 0, 1) := by decide +kernel
theorem dX11_doStep_8 : decode cX11_doStep 8 = .ok (.getfield 47, 3) := by decide +kernel
theorem dX11_doStep_11 : decode cX11_doStep 11 = .ok (.iload_n 1, 1) := by decide +kernel
theorem dX11_doStep_12 : decode cX11_doStep 12 = .ok (.iaload, 1) := by decide +kernel
theorem dX11_doStep_13 : decode cX11_doStep 13 = .ok (.istore_n 3, 1) := by decide +kernel
theorem dX11_doStep_14 : decode cX11_doStep 14 = .ok (.aload_n 0, 1) := by decide +kernel
theorem dX11_doStep_15 : decode cX11_doStep 15 = .ok (.iload_n 2, 1) := by decide +kernel
theorem dX11_doStep_16 : decode cX11_doStep 16 = .ok (.invokevirtual 233, 3) := by decide +kernel
theorem dX11_doStep_19 : decode cX11_doStep 19 = .ok (.aload_n 0, 1) := by decide +kernel
theorem dX11_doStep_20 : decode cX11_doStep 20 = .ok (.getfield 41, 3) := by decide +kernel
theorem dX11_doStep_23 : decode cX11_doStep 23 = .ok (.iload_n 1, 1) := by decide +kernel
theorem dX11_doStep_24 : decode cX11_doStep 24 = .ok (.iaload, 1) := by decide +kernel
theorem dX11_doStep_25 : decode cX11_doStep 25 = .ok (.iconst 2, 1) := by decide +kernel
theorem dX11_doStep_26 : decode cX11_doStep 26 = .ok (.if_icmp .ne 39, 3) := by decide +kernel
theorem dX11_doStep_29 : decode cX11_doStep 29 = .ok (.aload_n 0, 1) := by decide +kernel
theorem dX11_doStep_30 : decode cX11_doStep 30 = .ok (.iload_n 3, 1) := by decide +kernel
theorem dX11_doStep_31 : decode cX11_doStep 31 = .ok (.invokevirtual 233, 3) := by decide +kernel
theorem dX11_doStep_34 : decode cX11_doStep 34 = .ok (.aload_n 0, 1) := by decide +kernel
theorem dX11_doStep_35 : decode cX11_doStep 35 = .ok (.aload_n 0, 1) := by decide +kernel
theorem dX11_doStep_36 : decode cX11_doStep 36 = .ok (.getfield 108, 3) := by decide +kernel
theorem dX11_doStep_39 : decode cX11_doStep 39 = .ok (.iload_n 2, 1) := by decide +kernel
theorem dX11_doStep_40 : decode cX11_doStep 40 = .ok (.iaload, 1) := by decide +kernel
theorem dX11_doStep_41 : decode cX11_doStep 41 = .ok (.aload_n 0, 1) := by decide +kernel
theorem dX11_doStep_42 : decode cX11_doStep 42 = .ok (.getfield 108, 3) := by decide +kernel
theorem dX11_doStep_45 : decode cX11_doStep 45 = .ok (.iload_n 3, 1) := by decide +kernel
theorem dX11_doStep_46 : decode cX11_doStep 46 = .ok (.iaload, 1) := by decide +kernel
theorem dX11_doStep_47 : decode cX11_doStep 47 = .ok (.if_icmp .ne 12, 3) := by decide +kernel
theorem dX11_doStep_50 : decode cX11_doStep 50 = .ok (.aload_n 0, 1) := by decide +kernel
theorem dX11_doStep_51 : decode cX11_doStep 51 = .ok (.getfield 53, 3) := by decide +kernel
theorem dX11_doStep_54 : decode cX11_doStep 54 = .ok (.iload_n 1, 1) := by decide +kernel
theorem dX11_doStep_55 : decode cX11_doStep 55 = .ok (.iaload, 1) := by decide +kernel
theorem dX11_doStep_56 : decode cX11_doStep 56 = .ok (.goto 4, 3) := by decide +kernel
theorem dX11_doStep_59 : decode cX11_doStep 59 = .ok (.iconst 0, 1) := by decide +kernel
theorem dX11_doStep_60 : decode cX11_doStep 60 = .ok (.putfield 236, 3) := by decide +kernel
theorem dX11_doStep_63 : decode cX11_doStep 63 = .ok (.iconst 0, 1) := by decide +kernel
theorem dX11_doStep_64 : decode cX11_doStep 64 = .ok (.ireturn, 1) := by decide +kernel
theorem dX11_doStep_65 : decode cX11_doStep 65 = .ok (.aload_n 0, 1) := by decide +kernel
theorem dX11_doStep_66 : decode cX11_doStep 66 = .ok (.getfield 108, 3) := by decide +kernel
theorem dX11_doStep_69 : decode cX11_doStep 69 = .ok (.iload_n 2, 1) := by decide +kernel
theorem dX11_doStep_70 : decode cX11_doStep 70 = .ok (.iaload, 1) := by decide +kernel
theorem dX11_doStep_71 : decode cX11_doStep 71 = .ok (.istore 4, 2) := by decide +kernel
theorem dX11_doStep_73 : decode cX11_doStep 73 = .ok (.iload 4, 2) := by decide +kernel
theorem dX11_doStep_75 : decode cX11_doStep 75 = .ok (.iconst (-1), 1) := by decide +kernel
theorem dX11_doStep_76 : decode cX11_doStep 76 = .ok (.if_icmp .ne 5, 3) := by decide +kernel
theorem dX11_doStep_79 : decode cX11_doStep 79 = .ok (.iconst 1, 1) := by decide +kernel
theorem dX11_doStep_80 : decode cX11_doStep 80 = .ok (.ireturn, 1) := by decide +kernel
theorem dX11_doStep_81 : decode cX11_doStep 81 = .ok (.aload_n 0, 1) := by decide +kernel
theorem dX11_doStep_82 : decode cX11_doStep 82 = .ok (.getfield 96, 3) := by decide +kernel
theorem dX11_doStep_85 : decode cX11_doStep 85 = .ok (.iload 4, 2) := by decide +kernel
theorem dX11_doStep_87 : decode cX11_doStep 87 = .ok (.iaload, 1) := by decide +kernel
theorem dX11_doStep_88 : decode cX11_doStep 88 = .ok (.istore 5, 2) := by decide +kernel
theorem dX11_doStep_90 : decode cX11_doStep 90 = .ok (.aload_n 0, 1) := by decide +kernel
theorem dX11_doStep_91 : decode cX11_doStep 91 = .ok (.iload 5, 2) := by decide +kernel
theorem dX11_doStep_93 : decode cX11_doStep 93 = .ok (.iload_n 3, 1) := by decide +kernel
theorem dX11_doStep_94 : decode cX11_doStep 94 = .ok (.invokevirtual 146, 3) := by decide +kernel
theorem dX11_doStep_97 : decode cX11_doStep 97 = .ok (.ifCond .eq 19, 3) := by decide +kernel
theorem dX11_doStep_100 : decode cX11_doStep 100 = .ok (.aload_n 0, 1) := by decide +kernel
theorem dX11_doStep_101 : decode cX11_doStep 101 = .ok (.iload 5, 2) := by decide +kernel
theorem dX11_doStep_103 : decode cX11_doStep 103 = .ok (.iload_n 3, 1) := by decide +kernel
theorem dX11_doStep_104 : decode cX11_doStep 104 = .ok (.aload_n 0, 1) := by decide +kernel
theorem dX11_doStep_105 : decode cX11_doStep 105 = .ok (.getfield 41, 3) := by decide +kernel
theorem dX11_doStep_108 : decode cX11_doStep 108 = .ok (.iload_n 1, 1) := by decide +kernel
theorem dX11_doStep_109 : decode cX11_doStep 109 = .ok (.iaload, 1) := by decide +kernel
theorem dX11_doStep_110 : decode cX11_doStep 110 = .ok (.invokevirtual 150, 3) := by decide +kernel
theorem dX11_doStep_113 : decode cX11_doStep 113 = .ok (.ifCond .ne 5, 3) := by decide +kernel
theorem dX11_doStep_116 : decode cX11_doStep 116 = .ok (.iconst 2, 1) := by decide +kernel
theorem dX11_doStep_117 : decode cX11_doStep 117 = .ok (.ireturn, 1) := by decide +kernel
theorem dX11_doStep_118 : decode cX11_doStep 118 = .ok (.aload_n 0, 1) := by decide +kernel
theorem dX11_doStep_119 : decode cX11_doStep 119 = .ok (.iload 4, 2) := by decide +kernel
theorem dX11_doStep_121 : decode cX11_doStep 121 = .ok (.iload_n 3, 1) := by decide +kernel
theorem dX11_doStep_122 : decode cX11_doStep 122 = .ok (.aload_n 0, 1) := by decide +kernel
theorem dX11_doStep_123 : decode cX11_doStep 123 = .ok (.getfield 41, 3) := by decide +kernel
theorem dX11_doStep_126 : decode cX11_doStep 126 = .ok (.iload_n 1, 1) := by decide +kernel
theorem dX11_doStep_127 : decode cX11_doStep 127 = .ok (.iaload, 1) := by decide +kernel
theorem dX11_doStep_128 : decode cX11_doStep 128 = .ok (.invokevirtual 239, 3) := by decide +kernel
theorem dX11_doStep_131 : decode cX11_doStep 131 = .ok (.aload_n 0, 1) := by decide +kernel
theorem dX11_doStep_132 : decode cX11_doStep 132 = .ok (.getfield 41, 3) := by decide +kernel
theorem dX11_doStep_135 : decode cX11_doStep 135 = .ok (.iload_n 1, 1) := by decide +kernel
theorem dX11_doStep_136 : decode cX11_doStep 136 = .ok (.iaload, 1) := by decide +kernel
theorem dX11_doStep_137 : decode cX11_doStep 137 = .ok (.ifCond .ne 40, 3) := by decide +kernel
theorem dX11_doStep_140 : decode cX11_doStep 140 = .ok (.aload_n 0, 1) := by decide +kernel
theorem dX11_doStep_141 : decode cX11_doStep 141 = .ok (.getfield 108, 3) := by decide +kernel
theorem dX11_doStep_144 : decode cX11_doStep 144 = .ok (.aload_n 0, 1) := by decide +kernel
theorem dX11_doStep_145 : decode cX11_doStep 145 = .ok (.getfield 50, 3) := by decide +kernel
theorem dX11_doStep_148 : decode cX11_doStep 148 = .ok (.iload_n 1, 1) := by decide +kernel
theorem dX11_doStep_149 : decode cX11_doStep 149 = .ok (.iaload, 1) := by decide +kernel
theorem dX11_doStep_150 : decode cX11_doStep 150 = .ok (.aload_n 0, 1) := by decide +kernel
theorem dX11_doStep_151 : decode cX11_doStep 151 = .ok (.getfield 102, 3) := by decide +kernel
theorem dX11_doStep_154 : decode cX11_doStep 154 = .ok (.iconst 4, 1) := by decide +kernel
theorem dX11_doStep_155 : decode cX11_doStep 155 = .ok (.iload 4, 2) := by decide +kernel
theorem dX11_doStep_157 : decode cX11_doStep 157 = .ok (.imul, 1) := by decide +kernel
theorem dX11_doStep_158 : decode cX11_doStep 158 = .ok (.iload_n 3, 1) := by decide +kernel
theorem dX11_doStep_159 : decode cX11_doStep 159 = .ok (.iadd, 1) := by decide +kernel
theorem dX11_doStep_160 : decode cX11_doStep 160 = .ok (.iaload, 1) := by decide +kernel
theorem dX11_doStep_161 : decode cX11_doStep 161 = .ok (.iastore, 1) := by decide +kernel
theorem dX11_doStep_162 : decode cX11_doStep 162 = .ok (.aload_n 0, 1) := by decide +kernel
theorem dX11_doStep_163 : decode cX11_doStep 163 = .ok (.getfield 111, 3) := by decide +kernel
theorem dX11_doStep_166 : decode cX11_doStep 166 = .ok (.aload_n 0, 1) := by decide +kernel
theorem dX11_doStep_167 : decode cX11_doStep 167 = .ok (.getfield 50, 3) := by decide +kernel
theorem dX11_doStep_170 : decode cX11_doStep 170 = .ok (.iload_n 1, 1) := by decide +kernel
theorem dX11_doStep_171 : decode cX11_doStep 171 = .ok (.iaload, 1) := by decide +kernel
theorem dX11_doStep_172 : decode cX11_doStep 172 = .ok (.iconst 0, 1) := by decide +kernel
theorem dX11_doStep_173 : decode cX11_doStep 173 = .ok (.bastore, 1) := by decide +kernel
theorem dX11_doStep_174 : decode cX11_doStep 174 = .ok (.goto 37, 3) := by decide +kernel
theorem dX11_doStep_177 : decode cX11_doStep 177 = .ok (.aload_n 0, 1) := by decide +kernel
theorem dX11_doStep_178 : decode cX11_doStep 178 = .ok (.aload_n 0, 1) := by decide +kernel
theorem dX11_doStep_179 : decode cX11_doStep 179 = .ok (.getfield 102, 3) := by decide +kernel
theorem dX11_doStep_182 : decode cX11_doStep 182 = .ok (.iconst 4, 1) := by decide +kernel
theorem dX11_doStep_183 : decode cX11_doStep 183 = .ok (.iload 4, 2) := by decide +kernel
theorem dX11_doStep_185 : decode cX11_doStep 185 = .ok (.imul, 1) := by decide +kernel
theorem dX11_doStep_186 : decode cX11_doStep 186 = .ok (.iload_n 3, 1) := by decide +kernel
theorem dX11_doStep_187 : decode cX11_doStep 187 = .ok (.iadd, 1) := by decide +kernel
theorem dX11_doStep_188 : decode cX11_doStep 188 = .ok (.iaload, 1) := by decide +kernel
theorem dX11_doStep_189 : decode cX11_doStep 189 = .ok (.aload_n 0, 1) := by decide +kernel
theorem dX11_doStep_190 : decode cX11_doStep 190 = .ok (.getfield 50, 3) := by decide +kernel
theorem dX11_doStep_193 : decode cX11_doStep 193 = .ok (.iload_n 1, 1) := by decide +kernel
theorem dX11_doStep_194 : decode cX11_doStep 194 = .ok (.iaload, 1) := by decide +kernel
theorem dX11_doStep_195 : decode cX11_doStep 195 = .ok (.if_icmp .ne 12, 3) := by decide +kernel
theorem dX11_doStep_198 : decode cX11_doStep 198 = .ok (.aload_n 0, 1) := by decide +kernel
theorem dX11_doStep_199 : decode cX11_doStep 199 = .ok (.getfield 53, 3) := by decide +kernel
theorem dX11_doStep_202 : decode cX11_doStep 202 = .ok (.iload_n 1, 1) := by decide +kernel
theorem dX11_doStep_203 : decode cX11_doStep 203 = .ok (.iaload, 1) := by decide +kernel
theorem dX11_doStep_204 : decode cX11_doStep 204 = .ok (.goto 4, 3) := by decide +kernel
theorem dX11_doStep_207 : decode cX11_doStep 207 = .ok (.iconst 0, 1) := by decide +kernel
theorem dX11_doStep_208 : decode cX11_doStep 208 = .ok (.putfield 236, 3) := by decide +kernel
theorem dX11_doStep_211 : decode cX11_doStep 211 = .ok (.iconst 0, 1) := by decide +kernel
theorem dX11_doStep_212 : decode cX11_doStep 212 = .ok (.ireturn, 1) := by decide +kernel
theorem dX11_playHeap_0 : decode cX11_playHeap 0 = .ok (.iconst 0, 1) := by decide +kernel
theorem dX11_playHeap_1 : decode cX11_playHeap 1 = .ok (.istore_n 1, 1) := by decide +kernel
theorem dX11_playHeap_2 : decode cX11_playHeap 2 = .ok (.iload_n 1, 1) := by decide +kernel
theorem dX11_playHeap_3 : decode cX11_playHeap 3 = .ok (.iconst 4, 1) := by decide +kernel
theorem dX11_playHeap_4 : decode cX11_playHeap 4 = .ok (.if_icmp .ge 52, 3) := by decide +kernel
theorem dX11_playHeap_7 : decode cX11_playHeap 7 = .ok (.aload_n 0, 1) := by decide +kernel
theorem dX11_playHeap_8 : decode cX11_playHeap 8 = .ok (.getfield 111, 3) := by decide +kernel
theorem dX11_playHeap_11 : decode cX11_playHeap 11 = .ok (.iload_n 1, 1) := by decide +kernel
theorem dX11_playHeap_12 : decode cX11_playHeap 12 = .ok (.iload_n 1, 1) := by decide +kernel
theorem dX11_playHeap_13 : decode cX11_playHeap 13 = .ok (.aload_n 0, 1) := by decide +kernel
theorem dX11_playHeap_14 : decode cX11_playHeap 14 = .ok (.getfield 143, 3) := by decide +kernel
theorem dX11_playHeap_17 : decode cX11_playHeap 17 = .ok (.if_icmp .ge 7, 3) := by decide +kernel
theorem dX11_playHeap_20 : decode cX11_playHeap 20 = .ok (.iconst 1, 1) := by decide +kernel
theorem dX11_playHeap_21 : decode cX11_playHeap 21 = .ok (.goto 4, 3) := by decide +kernel
theorem dX11_playHeap_24 : decode cX11_playHeap 24 = .ok (.iconst 0, 1) := by decide +kernel
theorem dX11_playHeap_25 : decode cX11_playHeap 25 = .ok (.bastore, 1) := by decide +kernel
theorem dX11_playHeap_26 : decode cX11_playHeap 26 = .ok (.aload_n 0, 1) := by decide +kernel
theorem dX11_playHeap_27 : decode cX11_playHeap 27 = .ok (.getfield 108, 3) := by decide +kernel
theorem dX11_playHeap_30 : decode cX11_playHeap 30 = .ok (.iload_n 1, 1) := by decide +kernel
theorem dX11_playHeap_31 : decode cX11_playHeap 31 = .ok (.iload_n 1, 1) := by decide +kernel
theorem dX11_playHeap_32 : decode cX11_playHeap 32 = .ok (.aload_n 0, 1) := by decide +kernel
theorem dX11_playHeap_33 : decode cX11_playHeap 33 = .ok (.getfield 143, 3) := by decide +kernel
theorem dX11_playHeap_36 : decode cX11_playHeap 36 = .ok (.if_icmp .ge 12, 3) := by decide +kernel
theorem dX11_playHeap_39 : decode cX11_playHeap 39 = .ok (.aload_n 0, 1) := by decide +kernel
theorem dX11_playHeap_40 : decode cX11_playHeap 40 = .ok (.getfield 99, 3) := by decide +kernel
theorem dX11_playHeap_43 : decode cX11_playHeap 43 = .ok (.iload_n 1, 1) := by decide +kernel
theorem dX11_playHeap_44 : decode cX11_playHeap 44 = .ok (.iaload, 1) := by decide +kernel
theorem dX11_playHeap_45 : decode cX11_playHeap 45 = .ok (.goto 4, 3) := by decide +kernel
theorem dX11_playHeap_48 : decode cX11_playHeap 48 = .ok (.iconst (-1), 1) := by decide +kernel
theorem dX11_playHeap_49 : decode cX11_playHeap 49 = .ok (.iastore, 1) := by decide +kernel
theorem dX11_playHeap_50 : decode cX11_playHeap 50 = .ok (.iinc 1 1, 3) := by decide +kernel
theorem dX11_playHeap_53 : decode cX11_playHeap 53 = .ok (.goto (-51), 3) := by decide +kernel
theorem dX11_playHeap_56 : decode cX11_playHeap 56 = .ok (.aload_n 0, 1) := by decide +kernel
theorem dX11_playHeap_57 : decode cX11_playHeap 57 = .ok (.getfield 114, 3) := by decide +kernel
theorem dX11_playHeap_60 : decode cX11_playHeap 60 = .ok (.iconst 0, 1) := by decide +kernel
theorem dX11_playHeap_61 : decode cX11_playHeap 61 = .ok (.iconst 0, 1) := by decide +kernel
theorem dX11_playHeap_62 : decode cX11_playHeap 62 = .ok (.bastore, 1) := by decide +kernel
theorem dX11_playHeap_63 : decode cX11_playHeap 63 = .ok (.aload_n 0, 1) := by decide +kernel
theorem dX11_playHeap_64 : decode cX11_playHeap 64 = .ok (.getfield 114, 3) := by decide +kernel
theorem dX11_playHeap_67 : decode cX11_playHeap 67 = .ok (.iconst 1, 1) := by decide +kernel
theorem dX11_playHeap_68 : decode cX11_playHeap 68 = .ok (.iconst 0, 1) := by decide +kernel
theorem dX11_playHeap_69 : decode cX11_playHeap 69 = .ok (.bastore, 1) := by decide +kernel
theorem dX11_playHeap_70 : decode cX11_playHeap 70 = .ok (.iconst 0, 1) := by decide +kernel
theorem dX11_playHeap_71 : decode cX11_playHeap 71 = .ok (.istore_n 1, 1) := by decide +kernel
theorem dX11_playHeap_72 : decode cX11_playHeap 72 = .ok (.iload_n 1, 1) := by decide +kernel
theorem dX11_playHeap_73 : decode cX11_playHeap 73 = .ok (.bipush 20, 2) := by decide +kernel
theorem dX11_playHeap_75 : decode cX11_playHeap 75 = .ok (.if_icmp .ge 16, 3) := by decide +kernel
theorem dX11_playHeap_78 : decode cX11_playHeap 78 = .ok (.aload_n 0, 1) := by decide +kernel
theorem dX11_playHeap_79 : decode cX11_playHeap 79 = .ok (.getfield 117, 3) := by decide +kernel
theorem dX11_playHeap_82 : decode cX11_playHeap 82 = .ok (.iload_n 1, 1) := by decide +kernel
theorem dX11_playHeap_83 : decode cX11_playHeap 83 = .ok (.iconst 0, 1) := by decide +kernel
theorem dX11_playHeap_84 : decode cX11_playHeap 84 = .ok (.bastore, 1) := by decide +kernel
theorem dX11_playHeap_85 : decode cX11_playHeap 85 = .ok (.iinc 1 1, 3) := by decide +kernel
theorem dX11_playHeap_88 : decode cX11_playHeap 88 = .ok (.goto (-16), 3) := by decide +kernel
theorem dX11_playHeap_91 : decode cX11_playHeap 91 = .ok (.iconst 0, 1) := by decide +kernel
theorem dX11_playHeap_92 : decode cX11_playHeap 92 = .ok (.istore_n 1, 1) := by decide +kernel
theorem dX11_playHeap_93 : decode cX11_playHeap 93 = .ok (.iload_n 1, 1) := by decide +kernel
theorem dX11_playHeap_94 : decode cX11_playHeap 94 = .ok (.iconst 5, 1) := by decide +kernel
theorem dX11_playHeap_95 : decode cX11_playHeap 95 = .ok (.if_icmp .ge 16, 3) := by decide +kernel
theorem dX11_playHeap_98 : decode cX11_playHeap 98 = .ok (.aload_n 0, 1) := by decide +kernel
theorem dX11_playHeap_99 : decode cX11_playHeap 99 = .ok (.getfield 120, 3) := by decide +kernel
theorem dX11_playHeap_102 : decode cX11_playHeap 102 = .ok (.iload_n 1, 1) := by decide +kernel
theorem dX11_playHeap_103 : decode cX11_playHeap 103 = .ok (.iconst (-1), 1) := by decide +kernel
theorem dX11_playHeap_104 : decode cX11_playHeap 104 = .ok (.iastore, 1) := by decide +kernel
theorem dX11_playHeap_105 : decode cX11_playHeap 105 = .ok (.iinc 1 1, 3) := by decide +kernel
theorem dX11_playHeap_108 : decode cX11_playHeap 108 = .ok (.goto (-15), 3) := by decide +kernel
theorem dX11_playHeap_111 : decode cX11_playHeap 111 = .ok (.aload_n 0, 1) := by decide +kernel
theorem dX11_playHeap_112 : decode cX11_playHeap 112 = .ok (.iconst 0, 1) := by decide +kernel
theorem dX11_playHeap_113 : decode cX11_playHeap 113 = .ok (.putfield 224, 3) := by decide +kernel
theorem dX11_playHeap_116 : decode cX11_playHeap 116 = .ok (.aload_n 0, 1) := by decide +kernel
theorem dX11_playHeap_117 : decode cX11_playHeap 117 = .ok (.iconst 0, 1) := by decide +kernel
theorem dX11_playHeap_118 : decode cX11_playHeap 118 = .ok (.putfield 227, 3) := by decide +kernel
theorem dX11_playHeap_121 : decode cX11_playHeap 121 = .ok (.aload_n 0, 1) := by decide +kernel
theorem dX11_playHeap_122 : decode cX11_playHeap 122 = .ok (.iconst 0, 1) := by decide +kernel
theorem dX11_playHeap_123 : decode cX11_playHeap 123 = .ok (.putfield 243, 3) := by decide +kernel
theorem dX11_playHeap_126 : decode cX11_playHeap 126 = .ok (.iconst 0, 1) := by decide +kernel
theorem dX11_playHeap_127 : decode cX11_playHeap 127 = .ok (.istore_n 1, 1) := by decide +kernel
theorem dX11_playHeap_128 : decode cX11_playHeap 128 = .ok (.iconst 0, 1) := by decide +kernel
theorem dX11_playHeap_129 : decode cX11_playHeap 129 = .ok (.istore_n 2, 1) := by decide +kernel
theorem dX11_playHeap_130 : decode cX11_playHeap 130 = .ok (.iload_n 2, 1) := by decide +kernel
theorem dX11_playHeap_131 : decode cX11_playHeap 131 = .ok (.aload_n 0, 1) := by decide +kernel
theorem dX11_playHeap_132 : decode cX11_playHeap 132 = .ok (.getfield 156, 3) := by decide +kernel
theorem dX11_playHeap_135 : decode cX11_playHeap 135 = .ok (.if_icmp .ge 40, 3) := by decide +kernel
theorem dX11_playHeap_138 : decode cX11_playHeap 138 = .ok (.iload_n 1, 1) := by decide +kernel
theorem dX11_playHeap_139 : decode cX11_playHeap 139 = .ok (.ifCond .ne 36, 3) := by decide +kernel
theorem dX11_playHeap_142 : decode cX11_playHeap 142 = .ok (.aload_n 0, 1) := by decide +kernel
theorem dX11_playHeap_143 : decode cX11_playHeap 143 = .ok (.iconst 0, 1) := by decide +kernel
theorem dX11_playHeap_144 : decode cX11_playHeap 144 = .ok (.putfield 236, 3) := by decide +kernel
theorem dX11_playHeap_147 : decode cX11_playHeap 147 = .ok (.aload_n 0, 1) := by decide +kernel
theorem dX11_playHeap_148 : decode cX11_playHeap 148 = .ok (.dup, 1) := by decide +kernel
theorem dX11_playHeap_149 : decode cX11_playHeap 149 = .ok (.getfield 243, 3) := by decide +kernel
theorem dX11_playHeap_152 : decode cX11_playHeap 152 = .ok (.iconst 1, 1) := by decide +kernel
theorem dX11_playHeap_153 : decode cX11_playHeap 153 = .ok (.iadd, 1) := by decide +kernel
theorem dX11_playHeap_154 : decode cX11_playHeap 154 = .ok (.putfield 243, 3) := by decide +kernel
theorem dX11_playHeap_157 : decode cX11_playHeap 157 = .ok (.aload_n 0, 1) := by decide +kernel
theorem dX11_playHeap_158 : decode cX11_playHeap 158 = .ok (.iload_n 2, 1) := by decide +kernel
theorem dX11_playHeap_159 : decode cX11_playHeap 159 = .ok (.invokevirtual 246, 3) := by decide +kernel
theorem dX11_playHeap_162 : decode cX11_playHeap 162 = .ok (.istore_n 1, 1) := by decide +kernel
theorem dX11_playHeap_163 : decode cX11_playHeap 163 = .ok (.iload_n 2, 1) := by decide +kernel
theorem dX11_playHeap_164 : decode cX11_playHeap 164 = .ok (.iconst 1, 1) := by decide +kernel
theorem dX11_playHeap_165 : decode cX11_playHeap 165 = .ok (.iadd, 1) := by decide +kernel
theorem dX11_playHeap_166 : decode cX11_playHeap 166 = .ok (.aload_n 0, 1) := by decide +kernel
theorem dX11_playHeap_167 : decode cX11_playHeap 167 = .ok (.getfield 236, 3) := by decide +kernel
theorem dX11_playHeap_170 : decode cX11_playHeap 170 = .ok (.iadd, 1) := by decide +kernel
theorem dX11_playHeap_171 : decode cX11_playHeap 171 = .ok (.istore_n 2, 1) := by decide +kernel
theorem dX11_playHeap_172 : decode cX11_playHeap 172 = .ok (.goto (-42), 3) := by decide +kernel
theorem dX11_playHeap_175 : decode cX11_playHeap 175 = .ok (.iload_n 1, 1) := by decide +kernel
theorem dX11_playHeap_176 : decode cX11_playHeap 176 = .ok (.ireturn, 1) := by decide +kernel
theorem dX11_compareLooks_0 : decode cX11_compareLooks 0 = .ok (.iconst 0, 1) := by decide +kernel
theorem dX11_compareLooks_1 : decode cX11_compareLooks 1 = .ok (.istore_n 3, 1) := by decide +kernel
theorem dX11_compareLooks_2 : decode cX11_compareLooks 2 = .ok (.iload_n 3, 1) := by decide +kernel
theorem dX11_compareLooks_3 : decode cX11_compareLooks 3 = .ok (.aload_n 0, 1) := by decide +kernel
theorem dX11_compareLooks_4 : decode cX11_compareLooks 4 = .ok (.getfield 78, 3) := by decide +kernel
theorem dX11_compareLooks_7 : decode cX11_compareLooks 7 = .ok (.iload_n 1, 1) := by decide +kernel
theorem dX11_compareLooks_8 : decode cX11_compareLooks 8 = .ok (.baload, 1) := by decide +kernel
theorem dX11_compareLooks_9 : decode cX11_compareLooks 9 = .ok (.if_icmp .ge 44, 3) := by decide +kernel
theorem dX11_compareLooks_12 : decode cX11_compareLooks 12 = .ok (.iload_n 3, 1) := by decide +kernel
theorem dX11_compareLooks_13 : decode cX11_compareLooks 13 = .ok (.aload_n 0, 1) := by decide +kernel
theorem dX11_compareLooks_14 : decode cX11_compareLooks 14 = .ok (.getfield 78, 3) := by decide +kernel
theorem dX11_compareLooks_17 : decode cX11_compareLooks 17 = .ok (.iload_n 2, 1) := by decide +kernel
theorem dX11_compareLooks_18 : decode cX11_compareLooks 18 = .ok (.baload, 1) := by decide +kernel
theorem dX11_compareLooks_19 : decode cX11_compareLooks 19 = .ok (.if_icmp .ge 34, 3) := by decide +kernel
theorem dX11_compareLooks_22 : decode cX11_compareLooks 22 = .ok (.aload_n 0, 1) := by decide +kernel
theorem dX11_compareLooks_23 : decode cX11_compareLooks 23 = .ok (.getfield 75, 3) := by decide +kernel
theorem dX11_compareLooks_26 : decode cX11_compareLooks 26 = .ok (.bipush 20, 2) := by decide +kernel
theorem dX11_compareLooks_28 : decode cX11_compareLooks 28 = .ok (.iload_n 1, 1) := by decide +kernel
theorem dX11_compareLooks_29 : decode cX11_compareLooks 29 = .ok (.imul, 1) := by decide +kernel
theorem dX11_compareLooks_30 : decode cX11_compareLooks 30 = .ok (.iload_n 3, 1) := by decide +kernel
theorem dX11_compareLooks_31 : decode cX11_compareLooks 31 = .ok (.iadd, 1) := by decide +kernel
theorem dX11_compareLooks_32 : decode cX11_compareLooks 32 = .ok (.baload, 1) := by decide +kernel
theorem dX11_compareLooks_33 : decode cX11_compareLooks 33 = .ok (.aload_n 0, 1) := by decide +kernel
theorem dX11_compareLooks_34 : decode cX11_compareLooks 34 = .ok (.getfield 75, 3) := by decide +kernel
theorem dX11_compareLooks_37 : decode cX11_compareLooks 37 = .ok (.bipush 20, 2) := by decide +kernel
theorem dX11_compareLooks_39 : decode cX11_compareLooks 39 = .ok (.iload_n 2, 1) := by decide +kernel
theorem dX11_compareLooks_40 : decode cX11_compareLooks 40 = .ok (.imul, 1) := by decide +kernel
theorem dX11_compareLooks_41 : decode cX11_compareLooks 41 = .ok (.iload_n 3, 1) := by decide +kernel
theorem dX11_compareLooks_42 : decode cX11_compareLooks 42 = .ok (.iadd, 1) := by decide +kernel
theorem dX11_compareLooks_43 : decode cX11_compareLooks 43 = .ok (.baload, 1) := by decide +kernel
theorem dX11_compareLooks_44 : decode cX11_compareLooks 44 = .ok (.if_icmp .ne 9, 3) := by decide +kernel
theorem dX11_compareLooks_47 : decode cX11_compareLooks 47 = .ok (.iinc 3 1, 3) := by decide +kernel
theorem dX11_compareLooks_50 : decode cX11_compareLooks 50 = .ok (.goto (-48), 3) := by decide +kernel
theorem dX11_compareLooks_53 : decode cX11_compareLooks 53 = .ok (.iload_n 3, 1) := by decide +kernel
theorem dX11_compareLooks_54 : decode cX11_compareLooks 54 = .ok (.aload_n 0, 1) := by decide +kernel
theorem dX11_compareLooks_55 : decode cX11_compareLooks 55 = .ok (.getfield 78, 3) := by decide +kernel
theorem dX11_compareLooks_58 : decode cX11_compareLooks 58 = .ok (.iload_n 1, 1) := by decide +kernel
theorem dX11_compareLooks_59 : decode cX11_compareLooks 59 = .ok (.baload, 1) := by decide +kernel
theorem dX11_compareLooks_60 : decode cX11_compareLooks 60 = .ok (.if_icmp .ge 17, 3) := by decide +kernel
theorem dX11_compareLooks_63 : decode cX11_compareLooks 63 = .ok (.aload_n 0, 1) := by decide +kernel
theorem dX11_compareLooks_64 : decode cX11_compareLooks 64 = .ok (.getfield 75, 3) := by decide +kernel
theorem dX11_compareLooks_67 : decode cX11_compareLooks 67 = .ok (.bipush 20, 2) := by decide +kernel
theorem dX11_compareLooks_69 : decode cX11_compareLooks 69 = .ok (.iload_n 1, 1) := by decide +kernel
theorem dX11_compareLooks_70 : decode cX11_compareLooks 70 = .ok (.imul, 1) := by decide +kernel
theorem dX11_compareLooks_71 : decode cX11_compareLooks 71 = .ok (.iload_n 3, 1) := by decide +kernel
theorem dX11_compareLooks_72 : decode cX11_compareLooks 72 = .ok (.iadd, 1) := by decide +kernel
theorem dX11_compareLooks_73 : decode cX11_compareLooks 73 = .ok (.baload, 1) := by decide +kernel
theorem dX11_compareLooks_74 : decode cX11_compareLooks 74 = .ok (.goto 4, 3) := by decide +kernel
theorem dX11_compareLooks_77 : decode cX11_compareLooks 77 = .ok (.iconst (-1), 1) := by decide +kernel
theorem dX11_compareLooks_78 : decode cX11_compareLooks 78 = .ok (.istore 4, 2) := by decide +kernel
theorem dX11_compareLooks_80 : decode cX11_compareLooks 80 = .ok (.iload_n 3, 1) := by decide +kernel
theorem dX11_compareLooks_81 : decode cX11_compareLooks 81 = .ok (.aload_n 0, 1) := by decide +kernel
theorem dX11_compareLooks_82 : decode cX11_compareLooks 82 = .ok (.getfield 78, 3) := by decide +kernel
theorem dX11_compareLooks_85 : decode cX11_compareLooks 85 = .ok (.iload_n 2, 1) := by decide +kernel
theorem dX11_compareLooks_86 : decode cX11_compareLooks 86 = .ok (.baload, 1) := by decide +kernel
theorem dX11_compareLooks_87 : decode cX11_compareLooks 87 = .ok (.if_icmp .ge 17, 3) := by decide +kernel
theorem dX11_compareLooks_90 : decode cX11_compareLooks 90 = .ok (.aload_n 0, 1) := by decide +kernel
theorem dX11_compareLooks_91 : decode cX11_compareLooks 91 = .ok (.getfield 75, 3) := by decide +kernel
theorem dX11_compareLooks_94 : decode cX11_compareLooks 94 = .ok (.bipush 20, 2) := by decide +kernel
theorem dX11_compareLooks_96 : decode cX11_compareLooks 96 = .ok (.iload_n 2, 1) := by decide +kernel
theorem dX11_compareLooks_97 : decode cX11_compareLooks 97 = .ok (.imul, 1) := by decide +kernel
theorem dX11_compareLooks_98 : decode cX11_compareLooks 98 = .ok (.iload_n 3, 1) := by decide +kernel
theorem dX11_compareLooks_99 : decode cX11_compareLooks 99 = .ok (.iadd, 1) := by decide +kernel
theorem dX11_compareLooks_100 : decode cX11_compareLooks 100 = .ok (.baload, 1) := by decide +kernel
theorem dX11_compareLooks_101 : decode cX11_compareLooks 101 = .ok (.goto 4, 3) := by decide +kernel
theorem dX11_compareLooks_104 : decode cX11_compareLooks 104 = .ok (.iconst (-1), 1) := by decide +kernel
theorem dX11_compareLooks_105 : decode cX11_compareLooks 105 = .ok (.istore 5, 2) := by decide +kernel
theorem dX11_compareLooks_107 : decode cX11_compareLooks 107 = .ok (.iload 4, 2) := by decide +kernel
theorem dX11_compareLooks_109 : decode cX11_compareLooks 109 = .ok (.iload 5, 2) := by decide +kernel
theorem dX11_compareLooks_111 : decode cX11_compareLooks 111 = .ok (.isub, 1) := by decide +kernel
theorem dX11_compareLooks_112 : decode cX11_compareLooks 112 = .ok (.ireturn, 1) := by decide +kernel
theorem dX11_placeOf_0 : decode cX11_placeOf 0 = .ok (.iconst 0, 1) := by decide +kernel
theorem dX11_placeOf_1 : decode cX11_placeOf 1 = .ok (.istore_n 2, 1) := by decide +kernel
theorem dX11_placeOf_2 : decode cX11_placeOf 2 = .ok (.aload_n 0, 1) := by decide +kernel
theorem dX11_placeOf_3 : decode cX11_placeOf 3 = .ok (.getfield 249, 3) := by decide +kernel
theorem dX11_placeOf_6 : decode cX11_placeOf 6 = .ok (.istore_n 3, 1) := by decide +kernel
theorem dX11_placeOf_7 : decode cX11_placeOf 7 = .ok (.iload_n 2, 1) := by decide +kernel
theorem dX11_placeOf_8 : decode cX11_placeOf 8 = .ok (.iload_n 3, 1) := by decide +kernel
theorem dX11_placeOf_9 : decode cX11_placeOf 9 = .ok (.if_icmp .ge 61, 3) := by decide +kernel
theorem dX11_placeOf_12 : decode cX11_placeOf 12 = .ok (.iload_n 2, 1) := by decide +kernel
theorem dX11_placeOf_13 : decode cX11_placeOf 13 = .ok (.iload_n 3, 1) := by decide +kernel
theorem dX11_placeOf_14 : decode cX11_placeOf 14 = .ok (.iadd, 1) := by decide +kernel
theorem dX11_placeOf_15 : decode cX11_placeOf 15 = .ok (.iconst 2, 1) := by decide +kernel
theorem dX11_placeOf_16 : decode cX11_placeOf 16 = .ok (.idiv, 1) := by decide +kernel
theorem dX11_placeOf_17 : decode cX11_placeOf 17 = .ok (.istore 4, 2) := by decide +kernel
theorem dX11_placeOf_19 : decode cX11_placeOf 19 = .ok (.aload_n 0, 1) := by decide +kernel
theorem dX11_placeOf_20 : decode cX11_placeOf 20 = .ok (.iload_n 1, 1) := by decide +kernel
theorem dX11_placeOf_21 : decode cX11_placeOf 21 = .ok (.aload_n 0, 1) := by decide +kernel
theorem dX11_placeOf_22 : decode cX11_placeOf 22 = .ok (.getfield 87, 3) := by decide +kernel
theorem dX11_placeOf_25 : decode cX11_placeOf 25 = .ok (.iload 4, 2) := by decide +kernel
theorem dX11_placeOf_27 : decode cX11_placeOf 27 = .ok (.iaload, 1) := by decide +kernel
theorem dX11_placeOf_28 : decode cX11_placeOf 28 = .ok (.invokevirtual 252, 3) := by decide +kernel
theorem dX11_placeOf_31 : decode cX11_placeOf 31 = .ok (.istore 5, 2) := by decide +kernel
theorem dX11_placeOf_33 : decode cX11_placeOf 33 = .ok (.iload 5, 2) := by decide +kernel
theorem dX11_placeOf_35 : decode cX11_placeOf 35 = .ok (.ifCond .ne 6, 3) := by decide +kernel
theorem dX11_placeOf_38 : decode cX11_placeOf 38 = .ok (.iload 4, 2) := by decide +kernel
theorem dX11_placeOf_40 : decode cX11_placeOf 40 = .ok (.ireturn, 1) := by decide +kernel
theorem dX11_placeOf_41 : decode cX11_placeOf 41 = .ok (.iload 5, 2) := by decide +kernel
theorem dX11_placeOf_43 : decode cX11_placeOf 43 = .ok (.ifCond .le 10, 3) := by decide +kernel
theorem dX11_placeOf_46 : decode cX11_placeOf 46 = .ok (.iload 4, 2) := by decide +kernel
theorem dX11_placeOf_48 : decode cX11_placeOf 48 = .ok (.iconst 1, 1) := by decide +kernel
theorem dX11_placeOf_49 : decode cX11_placeOf 49 = .ok (.iadd, 1) := by decide +kernel
theorem dX11_placeOf_50 : decode cX11_placeOf 50 = .ok (.goto 4, 3) := by decide +kernel
theorem dX11_placeOf_53 : decode cX11_placeOf 53 = .ok (.iload_n 2, 1) := by decide +kernel
theorem dX11_placeOf_54 : decode cX11_placeOf 54 = .ok (.istore_n 2, 1) := by decide +kernel
theorem dX11_placeOf_55 : decode cX11_placeOf 55 = .ok (.iload 5, 2) := by decide +kernel
theorem dX11_placeOf_57 : decode cX11_placeOf 57 = .ok (.ifCond .ge 8, 3) := by decide +kernel
theorem dX11_placeOf_60 : decode cX11_placeOf 60 = .ok (.iload 4, 2) := by decide +kernel
theorem dX11_placeOf_62 : decode cX11_placeOf 62 = .ok (.goto 4, 3) := by decide +kernel
theorem dX11_placeOf_65 : decode cX11_placeOf 65 = .ok (.iload_n 3, 1) := by decide +kernel
theorem dX11_placeOf_66 : decode cX11_placeOf 66 = .ok (.istore_n 3, 1) := by decide +kernel
theorem dX11_placeOf_67 : decode cX11_placeOf 67 = .ok (.goto (-60), 3) := by decide +kernel
theorem dX11_placeOf_70 : decode cX11_placeOf 70 = .ok (.iload_n 2, 1) := by decide +kernel
theorem dX11_placeOf_71 : decode cX11_placeOf 71 = .ok (.sipush 5000, 3) := by decide +kernel
theorem dX11_placeOf_74 : decode cX11_placeOf 74 = .ok (.isub, 1) := by decide +kernel
theorem dX11_placeOf_75 : decode cX11_placeOf 75 = .ok (.ireturn, 1) := by decide +kernel
theorem dX11_playAll_0 : decode cX11_playAll 0 = .ok (.aload_n 0, 1) := by decide +kernel
theorem dX11_playAll_1 : decode cX11_playAll 1 = .ok (.invokevirtual 217, 3) := by decide +kernel
theorem dX11_playAll_4 : decode cX11_playAll 4 = .ok (.ifCond .ne 5, 3) := by decide +kernel
theorem dX11_playAll_7 : decode cX11_playAll 7 = .ok (.iconst 0, 1) := by decide +kernel
theorem dX11_playAll_8 : decode cX11_playAll 8 = .ok (.ireturn, 1) := by decide +kernel
theorem dX11_playAll_9 : decode cX11_playAll 9 = .ok (.aload_n 0, 1) := by decide +kernel
theorem dX11_playAll_10 : decode cX11_playAll 10 = .ok (.getfield 130, 3) := by decide +kernel
theorem dX11_playAll_13 : decode cX11_playAll 13 = .ok (.ifCond .eq 5, 3) := by decide +kernel
theorem dX11_playAll_16 : decode cX11_playAll 16 = .ok (.iconst 1, 1) := by decide +kernel
theorem dX11_playAll_17 : decode cX11_playAll 17 = .ok (.ireturn, 1) := by decide +kernel
theorem dX11_playAll_18 : decode cX11_playAll 18 = .ok (.aload_n 0, 1) := by decide +kernel
theorem dX11_playAll_19 : decode cX11_playAll 19 = .ok (.iconst 1, 1) := by decide +kernel
theorem dX11_playAll_20 : decode cX11_playAll 20 = .ok (.putfield 130, 3) := by decide +kernel
theorem dX11_playAll_23 : decode cX11_playAll 23 = .ok (.aload_n 0, 1) := by decide +kernel
theorem dX11_playAll_24 : decode cX11_playAll 24 = .ok (.iconst 0, 1) := by decide +kernel
theorem dX11_playAll_25 : decode cX11_playAll 25 = .ok (.putfield 249, 3) := by decide +kernel
theorem dX11_playAll_28 : decode cX11_playAll 28 = .ok (.iconst 0, 1) := by decide +kernel
theorem dX11_playAll_29 : decode cX11_playAll 29 = .ok (.istore_n 1, 1) := by decide +kernel
theorem dX11_playAll_30 : decode cX11_playAll 30 = .ok (.iload_n 1, 1) := by decide +kernel
theorem dX11_playAll_31 : decode cX11_playAll 31 = .ok (.aload_n 0, 1) := by decide +kernel
theorem dX11_playAll_32 : decode cX11_playAll 32 = .ok (.getfield 205, 3) := by decide +kernel
theorem dX11_playAll_35 : decode cX11_playAll 35 = .ok (.if_icmp .ge 146, 3) := by decide +kernel
theorem dX11_playAll_38 : decode cX11_playAll 38 = .ok (.aload_n 0, 1) := by decide +kernel
theorem dX11_playAll_39 : decode cX11_playAll 39 = .ok (.iload_n 1, 1) := by decide +kernel
theorem dX11_playAll_40 : decode cX11_playAll 40 = .ok (.invokevirtual 221, 3) := by decide +kernel
theorem dX11_playAll_43 : decode cX11_playAll 43 = .ok (.aload_n 0, 1) := by decide +kernel
theorem dX11_playAll_44 : decode cX11_playAll 44 = .ok (.getfield 81, 3) := by decide +kernel
theorem dX11_playAll_47 : decode cX11_playAll 47 = .ok (.iload_n 1, 1) := by decide +kernel
theorem dX11_playAll_48 : decode cX11_playAll 48 = .ok (.aload_n 0, 1) := by decide +kernel
theorem dX11_playAll_49 : decode cX11_playAll 49 = .ok (.invokevirtual 255, 3) := by decide +kernel
theorem dX11_playAll_52 : decode cX11_playAll 52 = .ok (.i2b, 1) := by decide +kernel
theorem dX11_playAll_53 : decode cX11_playAll 53 = .ok (.bastore, 1) := by decide +kernel
theorem dX11_playAll_54 : decode cX11_playAll 54 = .ok (.aload_n 0, 1) := by decide +kernel
theorem dX11_playAll_55 : decode cX11_playAll 55 = .ok (.getfield 84, 3) := by decide +kernel
theorem dX11_playAll_58 : decode cX11_playAll 58 = .ok (.iload_n 1, 1) := by decide +kernel
theorem dX11_playAll_59 : decode cX11_playAll 59 = .ok (.aload_n 0, 1) := by decide +kernel
theorem dX11_playAll_60 : decode cX11_playAll 60 = .ok (.getfield 243, 3) := by decide +kernel
theorem dX11_playAll_63 : decode cX11_playAll 63 = .ok (.i2b, 1) := by decide +kernel
theorem dX11_playAll_64 : decode cX11_playAll 64 = .ok (.bastore, 1) := by decide +kernel
theorem dX11_playAll_65 : decode cX11_playAll 65 = .ok (.aload_n 0, 1) := by decide +kernel
theorem dX11_playAll_66 : decode cX11_playAll 66 = .ok (.getfield 78, 3) := by decide +kernel
theorem dX11_playAll_69 : decode cX11_playAll 69 = .ok (.iload_n 1, 1) := by decide +kernel
theorem dX11_playAll_70 : decode cX11_playAll 70 = .ok (.aload_n 0, 1) := by decide +kernel
theorem dX11_playAll_71 : decode cX11_playAll 71 = .ok (.getfield 227, 3) := by decide +kernel
theorem dX11_playAll_74 : decode cX11_playAll 74 = .ok (.i2b, 1) := by decide +kernel
theorem dX11_playAll_75 : decode cX11_playAll 75 = .ok (.bastore, 1) := by decide +kernel
theorem dX11_playAll_76 : decode cX11_playAll 76 = .ok (.iconst 0, 1) := by decide +kernel
theorem dX11_playAll_77 : decode cX11_playAll 77 = .ok (.istore_n 2, 1) := by decide +kernel
theorem dX11_playAll_78 : decode cX11_playAll 78 = .ok (.iload_n 2, 1) := by decide +kernel
theorem dX11_playAll_79 : decode cX11_playAll 79 = .ok (.aload_n 0, 1) := by decide +kernel
theorem dX11_playAll_80 : decode cX11_playAll 80 = .ok (.getfield 227, 3) := by decide +kernel
theorem dX11_playAll_83 : decode cX11_playAll 83 = .ok (.if_icmp .ge 27, 3) := by decide +kernel
theorem dX11_playAll_86 : decode cX11_playAll 86 = .ok (.aload_n 0, 1) := by decide +kernel
theorem dX11_playAll_87 : decode cX11_playAll 87 = .ok (.getfield 75, 3) := by decide +kernel
theorem dX11_playAll_90 : decode cX11_playAll 90 = .ok (.bipush 20, 2) := by decide +kernel
theorem dX11_playAll_92 : decode cX11_playAll 92 = .ok (.iload_n 1, 1) := by decide +kernel
theorem dX11_playAll_93 : decode cX11_playAll 93 = .ok (.imul, 1) := by decide +kernel
theorem dX11_playAll_94 : decode cX11_playAll 94 = .ok (.iload_n 2, 1) := by decide +kernel
theorem dX11_playAll_95 : decode cX11_playAll 95 = .ok (.iadd, 1) := by decide +kernel
theorem dX11_playAll_96 : decode cX11_playAll 96 = .ok (.aload_n 0, 1) := by decide +kernel
theorem dX11_playAll_97 : decode cX11_playAll 97 = .ok (.getfield 123, 3) := by decide +kernel
theorem dX11_playAll_100 : decode cX11_playAll 100 = .ok (.iload_n 2, 1) := by decide +kernel
theorem dX11_playAll_101 : decode cX11_playAll 101 = .ok (.iaload, 1) := by decide +kernel
theorem dX11_playAll_102 : decode cX11_playAll 102 = .ok (.i2b, 1) := by decide +kernel
theorem dX11_playAll_103 : decode cX11_playAll 103 = .ok (.bastore, 1) := by decide +kernel
theorem dX11_playAll_104 : decode cX11_playAll 104 = .ok (.iinc 2 1, 3) := by decide +kernel
theorem dX11_playAll_107 : decode cX11_playAll 107 = .ok (.goto (-29), 3) := by decide +kernel
theorem dX11_playAll_110 : decode cX11_playAll 110 = .ok (.aload_n 0, 1) := by decide +kernel
theorem dX11_playAll_111 : decode cX11_playAll 111 = .ok (.iload_n 1, 1) := by decide +kernel
theorem dX11_playAll_112 : decode cX11_playAll 112 = .ok (.invokevirtual 259, 3) := by decide +kernel
theorem dX11_playAll_115 : decode cX11_playAll 115 = .ok (.istore_n 2, 1) := by decide +kernel
theorem dX11_playAll_116 : decode cX11_playAll 116 = .ok (.iload_n 2, 1) := by decide +kernel
theorem dX11_playAll_117 : decode cX11_playAll 117 = .ok (.ifCond .ge 58, 3) := by decide +kernel
theorem dX11_playAll_120 : decode cX11_playAll 120 = .ok (.aload_n 0, 1) := by decide +kernel
theorem dX11_playAll_121 : decode cX11_playAll 121 = .ok (.getfield 249, 3) := by decide +kernel
theorem dX11_playAll_124 : decode cX11_playAll 124 = .ok (.istore_n 3, 1) := by decide +kernel
theorem dX11_playAll_125 : decode cX11_playAll 125 = .ok (.iload_n 3, 1) := by decide +kernel
theorem dX11_playAll_126 : decode cX11_playAll 126 = .ok (.iload_n 2, 1) := by decide +kernel
theorem dX11_playAll_127 : decode cX11_playAll 127 = .ok (.sipush 5000, 3) := by decide +kernel
theorem dX11_playAll_130 : decode cX11_playAll 130 = .ok (.iadd, 1) := by decide +kernel
theorem dX11_playAll_131 : decode cX11_playAll 131 = .ok (.if_icmp .le 23, 3) := by decide +kernel
theorem dX11_playAll_134 : decode cX11_playAll 134 = .ok (.aload_n 0, 1) := by decide +kernel
theorem dX11_playAll_135 : decode cX11_playAll 135 = .ok (.getfield 87, 3) := by decide +kernel
theorem dX11_playAll_138 : decode cX11_playAll 138 = .ok (.iload_n 3, 1) := by decide +kernel
theorem dX11_playAll_139 : decode cX11_playAll 139 = .ok (.aload_n 0, 1) := by decide +kernel
theorem dX11_playAll_140 : decode cX11_playAll 140 = .ok (.getfield 87, 3) := by decide +kernel
theorem dX11_playAll_143 : decode cX11_playAll 143 = .ok (.iload_n 3, 1) := by decide +kernel
theorem dX11_playAll_144 : decode cX11_playAll 144 = .ok (.iconst 1, 1) := by decide +kernel
theorem dX11_playAll_145 : decode cX11_playAll 145 = .ok (.isub, 1) := by decide +kernel
theorem dX11_playAll_146 : decode cX11_playAll 146 = .ok (.iaload, 1) := by decide +kernel
theorem dX11_playAll_147 : decode cX11_playAll 147 = .ok (.iastore, 1) := by decide +kernel
theorem dX11_playAll_148 : decode cX11_playAll 148 = .ok (.iinc 3 (-1), 3) := by decide +kernel
theorem dX11_playAll_151 : decode cX11_playAll 151 = .ok (.goto (-26), 3) := by decide +kernel
theorem dX11_playAll_154 : decode cX11_playAll 154 = .ok (.aload_n 0, 1) := by decide +kernel
theorem dX11_playAll_155 : decode cX11_playAll 155 = .ok (.getfield 87, 3) := by decide +kernel
theorem dX11_playAll_158 : decode cX11_playAll 158 = .ok (.iload_n 2, 1) := by decide +kernel
theorem dX11_playAll_159 : decode cX11_playAll 159 = .ok (.sipush 5000, 3) := by decide +kernel
theorem dX11_playAll_162 : decode cX11_playAll 162 = .ok (.iadd, 1) := by decide +kernel
theorem dX11_playAll_163 : decode cX11_playAll 163 = .ok (.iload_n 1, 1) := by decide +kernel
theorem dX11_playAll_164 : decode cX11_playAll 164 = .ok (.iastore, 1) := by decide +kernel
theorem dX11_playAll_165 : decode cX11_playAll 165 = .ok (.aload_n 0, 1) := by decide +kernel
theorem dX11_playAll_166 : decode cX11_playAll 166 = .ok (.dup, 1) := by decide +kernel
theorem dX11_playAll_167 : decode cX11_playAll 167 = .ok (.getfield 249, 3) := by decide +kernel
theorem dX11_playAll_170 : decode cX11_playAll 170 = .ok (.iconst 1, 1) := by decide +kernel
theorem dX11_playAll_171 : decode cX11_playAll 171 = .ok (.iadd, 1) := by decide +kernel
theorem dX11_playAll_172 : decode cX11_playAll 172 = .ok (.putfield 249, 3) := by decide +kernel
theorem dX11_playAll_175 : decode cX11_playAll 175 = .ok (.iinc 1 1, 3) := by decide +kernel
theorem dX11_playAll_178 : decode cX11_playAll 178 = .ok (.goto (-148), 3) := by decide +kernel
theorem dX11_playAll_181 : decode cX11_playAll 181 = .ok (.iconst 0, 1) := by decide +kernel
theorem dX11_playAll_182 : decode cX11_playAll 182 = .ok (.istore_n 1, 1) := by decide +kernel
theorem dX11_playAll_183 : decode cX11_playAll 183 = .ok (.iload_n 1, 1) := by decide +kernel
theorem dX11_playAll_184 : decode cX11_playAll 184 = .ok (.aload_n 0, 1) := by decide +kernel
theorem dX11_playAll_185 : decode cX11_playAll 185 = .ok (.getfield 205, 3) := by decide +kernel
theorem dX11_playAll_188 : decode cX11_playAll 188 = .ok (.if_icmp .ge 20, 3) := by decide +kernel
theorem dX11_playAll_191 : decode cX11_playAll 191 = .ok (.aload_n 0, 1) := by decide +kernel
theorem dX11_playAll_192 : decode cX11_playAll 192 = .ok (.getfield 90, 3) := by decide +kernel
theorem dX11_playAll_195 : decode cX11_playAll 195 = .ok (.iload_n 1, 1) := by decide +kernel
theorem dX11_playAll_196 : decode cX11_playAll 196 = .ok (.aload_n 0, 1) := by decide +kernel
theorem dX11_playAll_197 : decode cX11_playAll 197 = .ok (.iload_n 1, 1) := by decide +kernel
theorem dX11_playAll_198 : decode cX11_playAll 198 = .ok (.invokevirtual 259, 3) := by decide +kernel
theorem dX11_playAll_201 : decode cX11_playAll 201 = .ok (.iastore, 1) := by decide +kernel
theorem dX11_playAll_202 : decode cX11_playAll 202 = .ok (.iinc 1 1, 3) := by decide +kernel
theorem dX11_playAll_205 : decode cX11_playAll 205 = .ok (.goto (-22), 3) := by decide +kernel
theorem dX11_playAll_208 : decode cX11_playAll 208 = .ok (.iconst 1, 1) := by decide +kernel
theorem dX11_playAll_209 : decode cX11_playAll 209 = .ok (.ireturn, 1) := by decide +kernel
theorem dX11_ends_0 : decode cX11_ends 0 = .ok (.aload_n 0, 1) := by decide +kernel
theorem dX11_ends_1 : decode cX11_ends 1 = .ok (.invokevirtual 262, 3) := by decide +kernel
theorem dX11_ends_4 : decode cX11_ends 4 = .ok (.ifCond .eq 10, 3) := by decide +kernel
theorem dX11_ends_7 : decode cX11_ends 7 = .ok (.aload_n 0, 1) := by decide +kernel
theorem dX11_ends_8 : decode cX11_ends 8 = .ok (.getfield 249, 3) := by decide +kernel
theorem dX11_ends_11 : decode cX11_ends 11 = .ok (.goto 5, 3) := by decide +kernel
theorem dX11_ends_14 : decode cX11_ends 14 = .ok (.bipush (-104), 2) := by decide +kernel
theorem dX11_ends_16 : decode cX11_ends 16 = .ok (.ireturn, 1) := by decide +kernel
theorem dX11_end_0 : decode cX11_end 0 = .ok (.aload_n 0, 1) := by decide +kernel
theorem dX11_end_1 : decode cX11_end 1 = .ok (.invokevirtual 262, 3) := by decide +kernel
theorem dX11_end_4 : decode cX11_end 4 = .ok (.ifCond .ne 6, 3) := by decide +kernel
theorem dX11_end_7 : decode cX11_end 7 = .ok (.bipush (-104), 2) := by decide +kernel
theorem dX11_end_9 : decode cX11_end 9 = .ok (.ireturn, 1) := by decide +kernel
theorem dX11_end_10 : decode cX11_end 10 = .ok (.iload_n 1, 1) := by decide +kernel
theorem dX11_end_11 : decode cX11_end 11 = .ok (.iconst 0, 1) := by decide +kernel
theorem dX11_end_12 : decode cX11_end 12 = .ok (.aload_n 0, 1) := by decide +kernel
theorem dX11_end_13 : decode cX11_end 13 = .ok (.getfield 249, 3) := by decide +kernel
theorem dX11_end_16 : decode cX11_end 16 = .ok (.iconst 1, 1) := by decide +kernel
theorem dX11_end_17 : decode cX11_end 17 = .ok (.isub, 1) := by decide +kernel
theorem dX11_end_18 : decode cX11_end 18 = .ok (.invokestatic 136, 3) := by decide +kernel
theorem dX11_end_21 : decode cX11_end 21 = .ok (.ifCond .ne 6, 3) := by decide +kernel
theorem dX11_end_24 : decode cX11_end 24 = .ok (.bipush (-101), 2) := by decide +kernel
theorem dX11_end_26 : decode cX11_end 26 = .ok (.ireturn, 1) := by decide +kernel
theorem dX11_end_27 : decode cX11_end 27 = .ok (.aload_n 0, 1) := by decide +kernel
theorem dX11_end_28 : decode cX11_end 28 = .ok (.getfield 87, 3) := by decide +kernel
theorem dX11_end_31 : decode cX11_end 31 = .ok (.iload_n 1, 1) := by decide +kernel
theorem dX11_end_32 : decode cX11_end 32 = .ok (.iaload, 1) := by decide +kernel
theorem dX11_end_33 : decode cX11_end 33 = .ok (.istore_n 3, 1) := by decide +kernel
theorem dX11_end_34 : decode cX11_end 34 = .ok (.iconst 0, 1) := by decide +kernel
theorem dX11_end_35 : decode cX11_end 35 = .ok (.istore 4, 2) := by decide +kernel
theorem dX11_end_37 : decode cX11_end 37 = .ok (.iconst 0, 1) := by decide +kernel
theorem dX11_end_38 : decode cX11_end 38 = .ok (.istore 5, 2) := by decide +kernel
theorem dX11_end_40 : decode cX11_end 40 = .ok (.iconst 0, 1) := by decide +kernel
theorem dX11_end_41 : decode cX11_end 41 = .ok (.istore 6, 2) := by decide +kernel
theorem dX11_end_43 : decode cX11_end 43 = .ok (.iload 6, 2) := by decide +kernel
theorem dX11_end_45 : decode cX11_end 45 = .ok (.aload_n 0, 1) := by decide +kernel
theorem dX11_end_46 : decode cX11_end 46 = .ok (.getfield 205, 3) := by decide +kernel
theorem dX11_end_49 : decode cX11_end 49 = .ok (.if_icmp .ge 61, 3) := by decide +kernel
theorem dX11_end_52 : decode cX11_end 52 = .ok (.iload 4, 2) := by decide +kernel
theorem dX11_end_54 : decode cX11_end 54 = .ok (.aload_n 0, 1) := by decide +kernel
theorem dX11_end_55 : decode cX11_end 55 = .ok (.getfield 90, 3) := by decide +kernel
theorem dX11_end_58 : decode cX11_end 58 = .ok (.iload 6, 2) := by decide +kernel
theorem dX11_end_60 : decode cX11_end 60 = .ok (.iaload, 1) := by decide +kernel
theorem dX11_end_61 : decode cX11_end 61 = .ok (.iload_n 1, 1) := by decide +kernel
theorem dX11_end_62 : decode cX11_end 62 = .ok (.if_icmp .ne 7, 3) := by decide +kernel
theorem dX11_end_65 : decode cX11_end 65 = .ok (.iconst 1, 1) := by decide +kernel
theorem dX11_end_66 : decode cX11_end 66 = .ok (.goto 4, 3) := by decide +kernel
theorem dX11_end_69 : decode cX11_end 69 = .ok (.iconst 0, 1) := by decide +kernel
theorem dX11_end_70 : decode cX11_end 70 = .ok (.iadd, 1) := by decide +kernel
theorem dX11_end_71 : decode cX11_end 71 = .ok (.istore 4, 2) := by decide +kernel
theorem dX11_end_73 : decode cX11_end 73 = .ok (.iload 5, 2) := by decide +kernel
theorem dX11_end_75 : decode cX11_end 75 = .ok (.aload_n 0, 1) := by decide +kernel
theorem dX11_end_76 : decode cX11_end 76 = .ok (.getfield 90, 3) := by decide +kernel
theorem dX11_end_79 : decode cX11_end 79 = .ok (.iload 6, 2) := by decide +kernel
theorem dX11_end_81 : decode cX11_end 81 = .ok (.iaload, 1) := by decide +kernel
theorem dX11_end_82 : decode cX11_end 82 = .ok (.iload_n 1, 1) := by decide +kernel
theorem dX11_end_83 : decode cX11_end 83 = .ok (.if_icmp .ne 17, 3) := by decide +kernel
theorem dX11_end_86 : decode cX11_end 86 = .ok (.aload_n 0, 1) := by decide +kernel
theorem dX11_end_87 : decode cX11_end 87 = .ok (.getfield 70, 3) := by decide +kernel
theorem dX11_end_90 : decode cX11_end 90 = .ok (.iload 6, 2) := by decide +kernel
theorem dX11_end_92 : decode cX11_end 92 = .ok (.baload, 1) := by decide +kernel
theorem dX11_end_93 : decode cX11_end 93 = .ok (.ifCond .eq 7, 3) := by decide +kernel
theorem dX11_end_96 : decode cX11_end 96 = .ok (.iconst 1, 1) := by decide +kernel
theorem dX11_end_97 : decode cX11_end 97 = .ok (.goto 4, 3) := by decide +kernel
theorem dX11_end_100 : decode cX11_end 100 = .ok (.iconst 0, 1) := by decide +kernel
theorem dX11_end_101 : decode cX11_end 101 = .ok (.iadd, 1) := by decide +kernel
theorem dX11_end_102 : decode cX11_end 102 = .ok (.istore 5, 2) := by decide +kernel
theorem dX11_end_104 : decode cX11_end 104 = .ok (.iinc 6 1, 3) := by decide +kernel
theorem dX11_end_107 : decode cX11_end 107 = .ok (.goto (-64), 3) := by decide +kernel
theorem dX11_end_110 : decode cX11_end 110 = .ok (.iload_n 2, 1) := by decide +kernel
theorem dX11_end_111 : decode cX11_end 111 = .ok (.tableswitch 60 0 4 #[33, 40, 47, 50, 53], 33) := by decide +kernel
theorem dX11_end_144 : decode cX11_end 144 = .ok (.aload_n 0, 1) := by decide +kernel
theorem dX11_end_145 : decode cX11_end 145 = .ok (.getfield 81, 3) := by decide +kernel
theorem dX11_end_148 : decode cX11_end 148 = .ok (.iload_n 3, 1) := by decide +kernel
theorem dX11_end_149 : decode cX11_end 149 = .ok (.baload, 1) := by decide +kernel
theorem dX11_end_150 : decode cX11_end 150 = .ok (.ireturn, 1) := by decide +kernel
theorem dX11_end_151 : decode cX11_end 151 = .ok (.aload_n 0, 1) := by decide +kernel
theorem dX11_end_152 : decode cX11_end 152 = .ok (.getfield 78, 3) := by decide +kernel
theorem dX11_end_155 : decode cX11_end 155 = .ok (.iload_n 3, 1) := by decide +kernel
theorem dX11_end_156 : decode cX11_end 156 = .ok (.baload, 1) := by decide +kernel
theorem dX11_end_157 : decode cX11_end 157 = .ok (.ireturn, 1) := by decide +kernel
theorem dX11_end_158 : decode cX11_end 158 = .ok (.iload 4, 2) := by decide +kernel
theorem dX11_end_160 : decode cX11_end 160 = .ok (.ireturn, 1) := by decide +kernel
theorem dX11_end_161 : decode cX11_end 161 = .ok (.iload 5, 2) := by decide +kernel
theorem dX11_end_163 : decode cX11_end 163 = .ok (.ireturn, 1) := by decide +kernel
theorem dX11_end_164 : decode cX11_end 164 = .ok (.aload_n 0, 1) := by decide +kernel
theorem dX11_end_165 : decode cX11_end 165 = .ok (.getfield 84, 3) := by decide +kernel
theorem dX11_end_168 : decode cX11_end 168 = .ok (.iload_n 3, 1) := by decide +kernel
theorem dX11_end_169 : decode cX11_end 169 = .ok (.baload, 1) := by decide +kernel
theorem dX11_end_170 : decode cX11_end 170 = .ok (.ireturn, 1) := by decide +kernel
theorem dX11_end_171 : decode cX11_end 171 = .ok (.bipush (-102), 2) := by decide +kernel
theorem dX11_end_173 : decode cX11_end 173 = .ok (.ireturn, 1) := by decide +kernel
theorem dX11_look_0 : decode cX11_look 0 = .ok (.aload_n 0, 1) := by decide +kernel
theorem dX11_look_1 : decode cX11_look 1 = .ok (.invokevirtual 262, 3) := by decide +kernel
theorem dX11_look_4 : decode cX11_look 4 = .ok (.ifCond .ne 6, 3) := by decide +kernel
theorem dX11_look_7 : decode cX11_look 7 = .ok (.bipush (-104), 2) := by decide +kernel
theorem dX11_look_9 : decode cX11_look 9 = .ok (.ireturn, 1) := by decide +kernel
theorem dX11_look_10 : decode cX11_look 10 = .ok (.iload_n 1, 1) := by decide +kernel
theorem dX11_look_11 : decode cX11_look 11 = .ok (.iconst 0, 1) := by decide +kernel
theorem dX11_look_12 : decode cX11_look 12 = .ok (.aload_n 0, 1) := by decide +kernel
theorem dX11_look_13 : decode cX11_look 13 = .ok (.getfield 249, 3) := by decide +kernel
theorem dX11_look_16 : decode cX11_look 16 = .ok (.iconst 1, 1) := by decide +kernel
theorem dX11_look_17 : decode cX11_look 17 = .ok (.isub, 1) := by decide +kernel
theorem dX11_look_18 : decode cX11_look 18 = .ok (.invokestatic 136, 3) := by decide +kernel
theorem dX11_look_21 : decode cX11_look 21 = .ok (.ifCond .eq 7, 3) := by decide +kernel
theorem dX11_look_24 : decode cX11_look 24 = .ok (.iload_n 2, 1) := by decide +kernel
theorem dX11_look_25 : decode cX11_look 25 = .ok (.ifCond .ge 6, 3) := by decide +kernel
theorem dX11_look_28 : decode cX11_look 28 = .ok (.bipush (-101), 2) := by decide +kernel
theorem dX11_look_30 : decode cX11_look 30 = .ok (.ireturn, 1) := by decide +kernel
theorem dX11_look_31 : decode cX11_look 31 = .ok (.iload_n 2, 1) := by decide +kernel
theorem dX11_look_32 : decode cX11_look 32 = .ok (.aload_n 0, 1) := by decide +kernel
theorem dX11_look_33 : decode cX11_look 33 = .ok (.getfield 78, 3) := by decide +kernel
theorem dX11_look_36 : decode cX11_look 36 = .ok (.aload_n 0, 1) := by decide +kernel
theorem dX11_look_37 : decode cX11_look 37 = .ok (.getfield 87, 3) := by decide +kernel
theorem dX11_look_40 : decode cX11_look 40 = .ok (.iload_n 1, 1) := by decide +kernel
theorem dX11_look_41 : decode cX11_look 41 = .ok (.iaload, 1) := by decide +kernel
theorem dX11_look_42 : decode cX11_look 42 = .ok (.baload, 1) := by decide +kernel
theorem dX11_look_43 : decode cX11_look 43 = .ok (.if_icmp .ge 22, 3) := by decide +kernel
theorem dX11_look_46 : decode cX11_look 46 = .ok (.aload_n 0, 1) := by decide +kernel
theorem dX11_look_47 : decode cX11_look 47 = .ok (.getfield 75, 3) := by decide +kernel
theorem dX11_look_50 : decode cX11_look 50 = .ok (.bipush 20, 2) := by decide +kernel
theorem dX11_look_52 : decode cX11_look 52 = .ok (.aload_n 0, 1) := by decide +kernel
theorem dX11_look_53 : decode cX11_look 53 = .ok (.getfield 87, 3) := by decide +kernel
theorem dX11_look_56 : decode cX11_look 56 = .ok (.iload_n 1, 1) := by decide +kernel
theorem dX11_look_57 : decode cX11_look 57 = .ok (.iaload, 1) := by decide +kernel
theorem dX11_look_58 : decode cX11_look 58 = .ok (.imul, 1) := by decide +kernel
theorem dX11_look_59 : decode cX11_look 59 = .ok (.iload_n 2, 1) := by decide +kernel
theorem dX11_look_60 : decode cX11_look 60 = .ok (.iadd, 1) := by decide +kernel
theorem dX11_look_61 : decode cX11_look 61 = .ok (.baload, 1) := by decide +kernel
theorem dX11_look_62 : decode cX11_look 62 = .ok (.goto 4, 3) := by decide +kernel
theorem dX11_look_65 : decode cX11_look 65 = .ok (.iconst (-1), 1) := by decide +kernel
theorem dX11_look_66 : decode cX11_look 66 = .ok (.ireturn, 1) := by decide +kernel
theorem dX11_endOf_0 : decode cX11_endOf 0 = .ok (.aload_n 0, 1) := by decide +kernel
theorem dX11_endOf_1 : decode cX11_endOf 1 = .ok (.invokevirtual 262, 3) := by decide +kernel
theorem dX11_endOf_4 : decode cX11_endOf 4 = .ok (.ifCond .ne 6, 3) := by decide +kernel
theorem dX11_endOf_7 : decode cX11_endOf 7 = .ok (.bipush (-104), 2) := by decide +kernel
theorem dX11_endOf_9 : decode cX11_endOf 9 = .ok (.ireturn, 1) := by decide +kernel
theorem dX11_endOf_10 : decode cX11_endOf 10 = .ok (.iload_n 1, 1) := by decide +kernel
theorem dX11_endOf_11 : decode cX11_endOf 11 = .ok (.iconst 0, 1) := by decide +kernel
theorem dX11_endOf_12 : decode cX11_endOf 12 = .ok (.aload_n 0, 1) := by decide +kernel
theorem dX11_endOf_13 : decode cX11_endOf 13 = .ok (.getfield 208, 3) := by decide +kernel
theorem dX11_endOf_16 : decode cX11_endOf 16 = .ok (.iconst 1, 1) := by decide +kernel
theorem dX11_endOf_17 : decode cX11_endOf 17 = .ok (.isub, 1) := by decide +kernel
theorem dX11_endOf_18 : decode cX11_endOf 18 = .ok (.invokestatic 136, 3) := by decide +kernel
theorem dX11_endOf_21 : decode cX11_endOf 21 = .ok (.ifCond .eq 17, 3) := by decide +kernel
theorem dX11_endOf_24 : decode cX11_endOf 24 = .ok (.aload_n 0, 1) := by decide +kernel
theorem dX11_endOf_25 : decode cX11_endOf 25 = .ok (.getfield 90, 3) := by decide +kernel
theorem dX11_endOf_28 : decode cX11_endOf 28 = .ok (.aload_n 0, 1) := by decide +kernel
theorem dX11_endOf_29 : decode cX11_endOf 29 = .ok (.getfield 67, 3) := by decide +kernel
theorem dX11_endOf_32 : decode cX11_endOf 32 = .ok (.iload_n 1, 1) := by decide +kernel
theorem dX11_endOf_33 : decode cX11_endOf 33 = .ok (.iaload, 1) := by decide +kernel
theorem dX11_endOf_34 : decode cX11_endOf 34 = .ok (.iaload, 1) := by decide +kernel
theorem dX11_endOf_35 : decode cX11_endOf 35 = .ok (.goto 5, 3) := by decide +kernel
theorem dX11_endOf_38 : decode cX11_endOf 38 = .ok (.bipush (-101), 2) := by decide +kernel
theorem dX11_endOf_40 : decode cX11_endOf 40 = .ok (.ireturn, 1) := by decide +kernel
