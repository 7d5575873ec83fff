theorem dX3_leftOutBehind_175 : decode cX3_leftOutBehind 175 = .ok (.ireturn, 1) := by decide +kernel
theorem dX3_leftOutBehind_176 : decode cX3_leftOutBehind 176 = .ok (.aload_n 0, 1) := by decide +kernel
theorem dX3_leftOutBehind_177 : decode cX3_leftOutBehind 177 = .ok (.aload_n 1, 1) := by decide +kernel
theorem dX3_leftOutBehind_178 : decode cX3_leftOutBehind 178 = .ok (.getfield 113, 3) := by decide +kernel
theorem dX3_leftOutBehind_181 : decode cX3_leftOutBehind 181 = .ok (.iload 5, 2) := by decide +kernel
theorem dX3_leftOutBehind_183 : decode cX3_leftOutBehind 183 = .ok (.invokevirtual 116, 3) := by decide +kernel
theorem dX3_leftOutBehind_186 : decode cX3_leftOutBehind 186 = .ok (.iconst 0, 1) := by decide +kernel
theorem dX3_leftOutBehind_187 : decode cX3_leftOutBehind 187 = .ok (.ireturn, 1) := by decide +kernel
theorem dX3_asked_0 : decode cX3_asked 0 = .ok (.iload_n 1, 1) := by decide +kernel
theorem dX3_asked_1 : decode cX3_asked 1 = .ok (.invokestatic 120, 3) := by decide +kernel
theorem dX3_asked_4 : decode cX3_asked 4 = .ok (.ifCond .ne 5, 3) := by decide +kernel
theorem dX3_asked_7 : decode cX3_asked 7 = .ok (.iconst (-1), 1) := by decide +kernel
theorem dX3_asked_8 : decode cX3_asked 8 = .ok (.ireturn, 1) := by decide +kernel
theorem dX3_asked_9 : decode cX3_asked 9 = .ok (.aload_n 0, 1) := by decide +kernel
theorem dX3_asked_10 : decode cX3_asked 10 = .ok (.getfield 31, 3) := by decide +kernel
theorem dX3_asked_13 : decode cX3_asked 13 = .ok (.iload_n 1, 1) := by decide +kernel
theorem dX3_asked_14 : decode cX3_asked 14 = .ok (.ishr, 1) := by decide +kernel
theorem dX3_asked_15 : decode cX3_asked 15 = .ok (.iconst 1, 1) := by decide +kernel
theorem dX3_asked_16 : decode cX3_asked 16 = .ok (.iand, 1) := by decide +kernel
theorem dX3_asked_17 : decode cX3_asked 17 = .ok (.iconst 1, 1) := by decide +kernel
theorem dX3_asked_18 : decode cX3_asked 18 = .ok (.if_icmp .ne 15, 3) := by decide +kernel
theorem dX3_asked_21 : decode cX3_asked 21 = .ok (.aload_n 0, 1) := by decide +kernel
theorem dX3_asked_22 : decode cX3_asked 22 = .ok (.iload_n 1, 1) := by decide +kernel
theorem dX3_asked_23 : decode cX3_asked 23 = .ok (.iconst 1, 1) := by decide +kernel
theorem dX3_asked_24 : decode cX3_asked 24 = .ok (.aload_n 0, 1) := by decide +kernel
theorem dX3_asked_25 : decode cX3_asked 25 = .ok (.getfield 9, 3) := by decide +kernel
theorem dX3_asked_28 : decode cX3_asked 28 = .ok (.iload_n 1, 1) := by decide +kernel
theorem dX3_asked_29 : decode cX3_asked 29 = .ok (.iaload, 1) := by decide +kernel
theorem dX3_asked_30 : decode cX3_asked 30 = .ok (.invokevirtual 109, 3) := by decide +kernel
theorem dX3_asked_33 : decode cX3_asked 33 = .ok (.aload_n 0, 1) := by decide +kernel
theorem dX3_asked_34 : decode cX3_asked 34 = .ok (.getfield 9, 3) := by decide +kernel
theorem dX3_asked_37 : decode cX3_asked 37 = .ok (.iload_n 1, 1) := by decide +kernel
theorem dX3_asked_38 : decode cX3_asked 38 = .ok (.iaload, 1) := by decide +kernel
theorem dX3_asked_39 : decode cX3_asked 39 = .ok (.ireturn, 1) := by decide +kernel
theorem dX3_change_0 : decode cX3_change 0 = .ok (.iload_n 1, 1) := by decide +kernel
theorem dX3_change_1 : decode cX3_change 1 = .ok (.invokestatic 120, 3) := by decide +kernel
theorem dX3_change_4 : decode cX3_change 4 = .ok (.ifCond .eq 24, 3) := by decide +kernel
theorem dX3_change_7 : decode cX3_change 7 = .ok (.aload_n 0, 1) := by decide +kernel
theorem dX3_change_8 : decode cX3_change 8 = .ok (.getfield 9, 3) := by decide +kernel
theorem dX3_change_11 : decode cX3_change 11 = .ok (.iload_n 1, 1) := by decide +kernel
theorem dX3_change_12 : decode cX3_change 12 = .ok (.iload_n 2, 1) := by decide +kernel
theorem dX3_change_13 : decode cX3_change 13 = .ok (.iastore, 1) := by decide +kernel
theorem dX3_change_14 : decode cX3_change 14 = .ok (.aload_n 0, 1) := by decide +kernel
theorem dX3_change_15 : decode cX3_change 15 = .ok (.dup, 1) := by decide +kernel
theorem dX3_change_16 : decode cX3_change 16 = .ok (.getfield 31, 3) := by decide +kernel
theorem dX3_change_19 : decode cX3_change 19 = .ok (.iconst 1, 1) := by decide +kernel
theorem dX3_change_20 : decode cX3_change 20 = .ok (.iload_n 1, 1) := by decide +kernel
theorem dX3_change_21 : decode cX3_change 21 = .ok (.ishl, 1) := by decide +kernel
theorem dX3_change_22 : decode cX3_change 22 = .ok (.iconst (-1), 1) := by decide +kernel
theorem dX3_change_23 : decode cX3_change 23 = .ok (.ixor, 1) := by decide +kernel
theorem dX3_change_24 : decode cX3_change 24 = .ok (.iand, 1) := by decide +kernel
theorem dX3_change_25 : decode cX3_change 25 = .ok (.putfield 31, 3) := by decide +kernel
theorem dX3_change_28 : decode cX3_change 28 = .ok (.return_, 1) := by decide +kernel
theorem dX3_note_0 : decode cX3_note 0 = .ok (.aload_n 0, 1) := by decide +kernel
theorem dX3_note_1 : decode cX3_note 1 = .ok (.getfield 28, 3) := by decide +kernel
theorem dX3_note_4 : decode cX3_note 4 = .ok (.iload_n 1, 1) := by decide +kernel
theorem dX3_note_5 : decode cX3_note 5 = .ok (.ishr, 1) := by decide +kernel
theorem dX3_note_6 : decode cX3_note 6 = .ok (.iconst 1, 1) := by decide +kernel
theorem dX3_note_7 : decode cX3_note 7 = .ok (.iand, 1) := by decide +kernel
theorem dX3_note_8 : decode cX3_note 8 = .ok (.iconst 1, 1) := by decide +kernel
theorem dX3_note_9 : decode cX3_note 9 = .ok (.if_icmp .eq 12, 3) := by decide +kernel
theorem dX3_note_12 : decode cX3_note 12 = .ok (.aload_n 0, 1) := by decide +kernel
theorem dX3_note_13 : decode cX3_note 13 = .ok (.getfield 21, 3) := by decide +kernel
theorem dX3_note_16 : decode cX3_note 16 = .ok (.bipush 22, 2) := by decide +kernel
theorem dX3_note_18 : decode cX3_note 18 = .ok (.if_icmp .lt 4, 3) := by decide +kernel
theorem dX3_note_21 : decode cX3_note 21 = .ok (.return_, 1) := by decide +kernel
theorem dX3_note_22 : decode cX3_note 22 = .ok (.aload_n 0, 1) := by decide +kernel
theorem dX3_note_23 : decode cX3_note 23 = .ok (.dup, 1) := by decide +kernel
theorem dX3_note_24 : decode cX3_note 24 = .ok (.getfield 28, 3) := by decide +kernel
theorem dX3_note_27 : decode cX3_note 27 = .ok (.iconst 1, 1) := by decide +kernel
theorem dX3_note_28 : decode cX3_note 28 = .ok (.iload_n 1, 1) := by decide +kernel
theorem dX3_note_29 : decode cX3_note 29 = .ok (.ishl, 1) := by decide +kernel
theorem dX3_note_30 : decode cX3_note 30 = .ok (.ior, 1) := by decide +kernel
theorem dX3_note_31 : decode cX3_note 31 = .ok (.putfield 28, 3) := by decide +kernel
theorem dX3_note_34 : decode cX3_note 34 = .ok (.iload_n 3, 1) := by decide +kernel
theorem dX3_note_35 : decode cX3_note 35 = .ok (.istore 4, 2) := by decide +kernel
theorem dX3_note_37 : decode cX3_note 37 = .ok (.iload_n 2, 1) := by decide +kernel
theorem dX3_note_38 : decode cX3_note 38 = .ok (.ifCond .eq 79, 3) := by decide +kernel
theorem dX3_note_41 : decode cX3_note 41 = .ok (.iconst 0, 1) := by decide +kernel
theorem dX3_note_42 : decode cX3_note 42 = .ok (.istore 4, 2) := by decide +kernel
theorem dX3_note_44 : decode cX3_note 44 = .ok (.iload_n 3, 1) := by decide +kernel
theorem dX3_note_45 : decode cX3_note 45 = .ok (.ifCond .lt 72, 3) := by decide +kernel
theorem dX3_note_48 : decode cX3_note 48 = .ok (.iload_n 3, 1) := by decide +kernel
theorem dX3_note_49 : decode cX3_note 49 = .ok (.iconst 5, 1) := by decide +kernel
theorem dX3_note_50 : decode cX3_note 50 = .ok (.if_icmp .ge 67, 3) := by decide +kernel
theorem dX3_note_53 : decode cX3_note 53 = .ok (.aload_n 0, 1) := by decide +kernel
theorem dX3_note_54 : decode cX3_note 54 = .ok (.getfield 15, 3) := by decide +kernel
theorem dX3_note_57 : decode cX3_note 57 = .ok (.iload_n 3, 1) := by decide +kernel
theorem dX3_note_58 : decode cX3_note 58 = .ok (.iaload, 1) := by decide +kernel
theorem dX3_note_59 : decode cX3_note 59 = .ok (.iconst (-1), 1) := by decide +kernel
theorem dX3_note_60 : decode cX3_note 60 = .ok (.if_icmp .ne 17, 3) := by decide +kernel
theorem dX3_note_63 : decode cX3_note 63 = .ok (.bipush 10, 2) := by decide +kernel
theorem dX3_note_65 : decode cX3_note 65 = .ok (.aload_n 0, 1) := by decide +kernel
theorem dX3_note_66 : decode cX3_note 66 = .ok (.getfield 40, 3) := by decide +kernel
theorem dX3_note_69 : decode cX3_note 69 = .ok (.iload_n 3, 1) := by decide +kernel
theorem dX3_note_70 : decode cX3_note 70 = .ok (.invokevirtual 95, 3) := by decide +kernel
theorem dX3_note_73 : decode cX3_note 73 = .ok (.iadd, 1) := by decide +kernel
theorem dX3_note_74 : decode cX3_note 74 = .ok (.goto 11, 3) := by decide +kernel
theorem dX3_note_77 : decode cX3_note 77 = .ok (.iconst 1, 1) := by decide +kernel
theorem dX3_note_78 : decode cX3_note 78 = .ok (.aload_n 0, 1) := by decide +kernel
theorem dX3_note_79 : decode cX3_note 79 = .ok (.getfield 15, 3) := by decide +kernel
theorem dX3_note_82 : decode cX3_note 82 = .ok (.iload_n 3, 1) := by decide +kernel
theorem dX3_note_83 : decode cX3_note 83 = .ok (.iaload, 1) := by decide +kernel
theorem dX3_note_84 : decode cX3_note 84 = .ok (.iadd, 1) := by decide +kernel
theorem dX3_note_85 : decode cX3_note 85 = .ok (.istore 4, 2) := by decide +kernel
theorem dX3_note_87 : decode cX3_note 87 = .ok (.aload_n 0, 1) := by decide +kernel
theorem dX3_note_88 : decode cX3_note 88 = .ok (.getfield 15, 3) := by decide +kernel
theorem dX3_note_91 : decode cX3_note 91 = .ok (.iload_n 3, 1) := by decide +kernel
theorem dX3_note_92 : decode cX3_note 92 = .ok (.iaload, 1) := by decide +kernel
theorem dX3_note_93 : decode cX3_note 93 = .ok (.iconst (-1), 1) := by decide +kernel
theorem dX3_note_94 : decode cX3_note 94 = .ok (.if_icmp .ne 23, 3) := by decide +kernel
theorem dX3_note_97 : decode cX3_note 97 = .ok (.aload_n 0, 1) := by decide +kernel
theorem dX3_note_98 : decode cX3_note 98 = .ok (.getfield 15, 3) := by decide +kernel
theorem dX3_note_101 : decode cX3_note 101 = .ok (.iload_n 3, 1) := by decide +kernel
theorem dX3_note_102 : decode cX3_note 102 = .ok (.aload_n 0, 1) := by decide +kernel
theorem dX3_note_103 : decode cX3_note 103 = .ok (.getfield 25, 3) := by decide +kernel
theorem dX3_note_106 : decode cX3_note 106 = .ok (.iastore, 1) := by decide +kernel
theorem dX3_note_107 : decode cX3_note 107 = .ok (.aload_n 0, 1) := by decide +kernel
theorem dX3_note_108 : decode cX3_note 108 = .ok (.dup, 1) := by decide +kernel
theorem dX3_note_109 : decode cX3_note 109 = .ok (.getfield 25, 3) := by decide +kernel
theorem dX3_note_112 : decode cX3_note 112 = .ok (.iconst 1, 1) := by decide +kernel
theorem dX3_note_113 : decode cX3_note 113 = .ok (.iadd, 1) := by decide +kernel
theorem dX3_note_114 : decode cX3_note 114 = .ok (.putfield 25, 3) := by decide +kernel
theorem dX3_note_117 : decode cX3_note 117 = .ok (.aload_n 0, 1) := by decide +kernel
theorem dX3_note_118 : decode cX3_note 118 = .ok (.getfield 18, 3) := by decide +kernel
theorem dX3_note_121 : decode cX3_note 121 = .ok (.aload_n 0, 1) := by decide +kernel
theorem dX3_note_122 : decode cX3_note 122 = .ok (.getfield 21, 3) := by decide +kernel
theorem dX3_note_125 : decode cX3_note 125 = .ok (.iload 4, 2) := by decide +kernel
theorem dX3_note_127 : decode cX3_note 127 = .ok (.iastore, 1) := by decide +kernel
theorem dX3_note_128 : decode cX3_note 128 = .ok (.aload_n 0, 1) := by decide +kernel
theorem dX3_note_129 : decode cX3_note 129 = .ok (.dup, 1) := by decide +kernel
theorem dX3_note_130 : decode cX3_note 130 = .ok (.getfield 21, 3) := by decide +kernel
theorem dX3_note_133 : decode cX3_note 133 = .ok (.iconst 1, 1) := by decide +kernel
theorem dX3_note_134 : decode cX3_note 134 = .ok (.iadd, 1) := by decide +kernel
theorem dX3_note_135 : decode cX3_note 135 = .ok (.putfield 21, 3) := by decide +kernel
theorem dX3_note_138 : decode cX3_note 138 = .ok (.return_, 1) := by decide +kernel
theorem dX0_init_0 : decode cX0_init 0 = .ok (.aload_n 0, 1) := by decide +kernel
theorem dX0_init_1 : decode cX0_init 1 = .ok (.invokespecial 3, 3) := by decide +kernel
theorem dX0_init_4 : decode cX0_init 4 = .ok (.aload_n 0, 1) := by decide +kernel
theorem dX0_init_5 : decode cX0_init 5 = .ok (.new 9, 3) := by decide +kernel
theorem dX0_init_8 : decode cX0_init 8 = .ok (.dup, 1) := by decide +kernel
theorem dX0_init_9 : decode cX0_init 9 = .ok (.invokespecial 11, 3) := by decide +kernel
theorem dX0_init_12 : decode cX0_init 12 = .ok (.putfield 12, 3) := by decide +kernel
theorem dX0_init_15 : decode cX0_init 15 = .ok (.aload_n 0, 1) := by decide +kernel
theorem dX0_init_16 : decode cX0_init 16 = .ok (.iconst 0, 1) := by decide +kernel
theorem dX0_init_17 : decode cX0_init 17 = .ok (.putfield 18, 3) := by decide +kernel
theorem dX0_init_20 : decode cX0_init 20 = .ok (.aload_n 0, 1) := by decide +kernel
theorem dX0_init_21 : decode cX0_init 21 = .ok (.bipush 16, 2) := by decide +kernel
theorem dX0_init_23 : decode cX0_init 23 = .ok (.newarray .int, 2) := by decide +kernel
theorem dX0_init_25 : decode cX0_init 25 = .ok (.putfield 22, 3) := by decide +kernel
theorem dX0_init_28 : decode cX0_init 28 = .ok (.aload_n 0, 1) := by decide +kernel
theorem dX0_init_29 : decode cX0_init 29 = .ok (.iconst 0, 1) := by decide +kernel
theorem dX0_init_30 : decode cX0_init 30 = .ok (.putfield 26, 3) := by decide +kernel
theorem dX0_init_33 : decode cX0_init 33 = .ok (.aload_n 0, 1) := by decide +kernel
theorem dX0_init_34 : decode cX0_init 34 = .ok (.iconst 0, 1) := by decide +kernel
theorem dX0_init_35 : decode cX0_init 35 = .ok (.putfield 30, 3) := by decide +kernel
theorem dX0_init_38 : decode cX0_init 38 = .ok (.aload_n 0, 1) := by decide +kernel
theorem dX0_init_39 : decode cX0_init 39 = .ok (.aload_n 1, 1) := by decide +kernel
theorem dX0_init_40 : decode cX0_init 40 = .ok (.putfield 33, 3) := by decide +kernel
theorem dX0_init_43 : decode cX0_init 43 = .ok (.aload_n 0, 1) := by decide +kernel
theorem dX0_init_44 : decode cX0_init 44 = .ok (.aload_n 2, 1) := by decide +kernel
theorem dX0_init_45 : decode cX0_init 45 = .ok (.putfield 37, 3) := by decide +kernel
theorem dX0_init_48 : decode cX0_init 48 = .ok (.return_, 1) := by decide +kernel
theorem dX0_forget_0 : decode cX0_forget 0 = .ok (.aload_n 0, 1) := by decide +kernel
theorem dX0_forget_1 : decode cX0_forget 1 = .ok (.iconst 0, 1) := by decide +kernel
theorem dX0_forget_2 : decode cX0_forget 2 = .ok (.putfield 18, 3) := by decide +kernel
theorem dX0_forget_5 : decode cX0_forget 5 = .ok (.return_, 1) := by decide +kernel
theorem dX0_list_0 : decode cX0_list 0 = .ok (.aload_n 0, 1) := by decide +kernel
theorem dX0_list_1 : decode cX0_list 1 = .ok (.getfield 18, 3) := by decide +kernel
theorem dX0_list_4 : decode cX0_list 4 = .ok (.ifCond .ne 83, 3) := by decide +kernel
theorem dX0_list_7 : decode cX0_list 7 = .ok (.aload_n 0, 1) := by decide +kernel
theorem dX0_list_8 : decode cX0_list 8 = .ok (.getfield 12, 3) := by decide +kernel
theorem dX0_list_11 : decode cX0_list 11 = .ok (.invokevirtual 41, 3) := by decide +kernel
theorem dX0_list_14 : decode cX0_list 14 = .ok (.aload_n 0, 1) := by decide +kernel
theorem dX0_list_15 : decode cX0_list 15 = .ok (.getfield 33, 3) := by decide +kernel
theorem dX0_list_18 : decode cX0_list 18 = .ok (.invokevirtual 44, 3) := by decide +kernel
theorem dX0_list_21 : decode cX0_list 21 = .ok (.iconst 1, 1) := by decide +kernel
theorem dX0_list_22 : decode cX0_list 22 = .ok (.istore_n 1, 1) := by decide +kernel
theorem dX0_list_23 : decode cX0_list 23 = .ok (.iconst 0, 1) := by decide +kernel
theorem dX0_list_24 : decode cX0_list 24 = .ok (.istore_n 2, 1) := by decide +kernel
theorem dX0_list_25 : decode cX0_list 25 = .ok (.iload_n 2, 1) := by decide +kernel
theorem dX0_list_26 : decode cX0_list 26 = .ok (.sipush 4000, 3) := by decide +kernel
theorem dX0_list_29 : decode cX0_list 29 = .ok (.if_icmp .gt 49, 3) := by decide +kernel
theorem dX0_list_32 : decode cX0_list 32 = .ok (.iload_n 1, 1) := by decide +kernel
theorem dX0_list_33 : decode cX0_list 33 = .ok (.ifCond .eq 45, 3) := by decide +kernel
theorem dX0_list_36 : decode cX0_list 36 = .ok (.aload_n 0, 1) := by decide +kernel
theorem dX0_list_37 : decode cX0_list 37 = .ok (.getfield 33, 3) := by decide +kernel
theorem dX0_list_40 : decode cX0_list 40 = .ok (.invokevirtual 49, 3) := by decide +kernel
theorem dX0_list_43 : decode cX0_list 43 = .ok (.aload_n 0, 1) := by decide +kernel
theorem dX0_list_44 : decode cX0_list 44 = .ok (.getfield 12, 3) := by decide +kernel
theorem dX0_list_47 : decode cX0_list 47 = .ok (.aload_n 0, 1) := by decide +kernel
theorem dX0_list_48 : decode cX0_list 48 = .ok (.getfield 33, 3) := by decide +kernel
theorem dX0_list_51 : decode cX0_list 51 = .ok (.getfield 52, 3) := by decide +kernel
theorem dX0_list_54 : decode cX0_list 54 = .ok (.aload_n 0, 1) := by decide +kernel
theorem dX0_list_55 : decode cX0_list 55 = .ok (.getfield 33, 3) := by decide +kernel
theorem dX0_list_58 : decode cX0_list 58 = .ok (.getfield 55, 3) := by decide +kernel
theorem dX0_list_61 : decode cX0_list 61 = .ok (.invokevirtual 58, 3) := by decide +kernel
theorem dX0_list_64 : decode cX0_list 64 = .ok (.aload_n 0, 1) := by decide +kernel
theorem dX0_list_65 : decode cX0_list 65 = .ok (.getfield 33, 3) := by decide +kernel
theorem dX0_list_68 : decode cX0_list 68 = .ok (.invokevirtual 62, 3) := by decide +kernel
theorem dX0_list_71 : decode cX0_list 71 = .ok (.istore_n 1, 1) := by decide +kernel
theorem dX0_list_72 : decode cX0_list 72 = .ok (.iinc 2 1, 3) := by decide +kernel
theorem dX0_list_75 : decode cX0_list 75 = .ok (.goto (-50), 3) := by decide +kernel
theorem dX0_list_78 : decode cX0_list 78 = .ok (.aload_n 0, 1) := by decide +kernel
theorem dX0_list_79 : decode cX0_list 79 = .ok (.iconst 1, 1) := by decide +kernel
theorem dX0_list_80 : decode cX0_list 80 = .ok (.putfield 18, 3) := by decide +kernel
theorem dX0_list_83 : decode cX0_list 83 = .ok (.aload_n 0, 1) := by decide +kernel
theorem dX0_list_84 : decode cX0_list 84 = .ok (.invokevirtual 66, 3) := by decide +kernel
theorem dX0_list_87 : decode cX0_list 87 = .ok (.aload_n 0, 1) := by decide +kernel
theorem dX0_list_88 : decode cX0_list 88 = .ok (.getfield 12, 3) := by decide +kernel
theorem dX0_list_91 : decode cX0_list 91 = .ok (.getfield 69, 3) := by decide +kernel
theorem dX0_list_94 : decode cX0_list 94 = .ok (.sipush 4000, 3) := by decide +kernel
theorem dX0_list_97 : decode cX0_list 97 = .ok (.if_icmp .gt 7, 3) := by decide +kernel
theorem dX0_list_100 : decode cX0_list 100 = .ok (.iconst 1, 1) := by decide +kernel
theorem dX0_list_101 : decode cX0_list 101 = .ok (.goto 4, 3) := by decide +kernel
theorem dX0_list_104 : decode cX0_list 104 = .ok (.iconst 0, 1) := by decide +kernel
theorem dX0_list_105 : decode cX0_list 105 = .ok (.ireturn, 1) := by decide +kernel
theorem dX0_keepAll_0 : decode cX0_keepAll 0 = .ok (.aload_n 0, 1) := by decide +kernel
theorem dX0_keepAll_1 : decode cX0_keepAll 1 = .ok (.iconst 0, 1) := by decide +kernel
theorem dX0_keepAll_2 : decode cX0_keepAll 2 = .ok (.putfield 30, 3) := by decide +kernel
theorem dX0_keepAll_5 : decode cX0_keepAll 5 = .ok (.aload_n 0, 1) := by decide +kernel
theorem dX0_keepAll_6 : decode cX0_keepAll 6 = .ok (.iconst 0, 1) := by decide +kernel
theorem dX0_keepAll_7 : decode cX0_keepAll 7 = .ok (.putfield 26, 3) := by decide +kernel
theorem dX0_keepAll_10 : decode cX0_keepAll 10 = .ok (.aload_n 0, 1) := by decide +kernel
theorem dX0_keepAll_11 : decode cX0_keepAll 11 = .ok (.getfield 18, 3) := by decide +kernel
theorem dX0_keepAll_14 : decode cX0_keepAll 14 = .ok (.ifCond .eq 16, 3) := by decide +kernel
theorem dX0_keepAll_17 : decode cX0_keepAll 17 = .ok (.aload_n 0, 1) := by decide +kernel
theorem dX0_keepAll_18 : decode cX0_keepAll 18 = .ok (.getfield 12, 3) := by decide +kernel
theorem dX0_keepAll_21 : decode cX0_keepAll 21 = .ok (.getfield 69, 3) := by decide +kernel
theorem dX0_keepAll_24 : decode cX0_keepAll 24 = .ok (.sipush 4000, 3) := by decide +kernel
theorem dX0_keepAll_27 : decode cX0_keepAll 27 = .ok (.if_icmp .le 4, 3) := by decide +kernel
theorem dX0_keepAll_30 : decode cX0_keepAll 30 = .ok (.return_, 1) := by decide +kernel
theorem dX0_keepAll_31 : decode cX0_keepAll 31 = .ok (.aload_n 0, 1) := by decide +kernel
theorem dX0_keepAll_32 : decode cX0_keepAll 32 = .ok (.getfield 22, 3) := by decide +kernel
theorem dX0_keepAll_35 : decode cX0_keepAll 35 = .ok (.arraylength, 1) := by decide +kernel
theorem dX0_keepAll_36 : decode cX0_keepAll 36 = .ok (.aload_n 0, 1) := by decide +kernel
theorem dX0_keepAll_37 : decode cX0_keepAll 37 = .ok (.getfield 12, 3) := by decide +kernel
theorem dX0_keepAll_40 : decode cX0_keepAll 40 = .ok (.getfield 69, 3) := by decide +kernel
theorem dX0_keepAll_43 : decode cX0_keepAll 43 = .ok (.if_icmp .ge 19, 3) := by decide +kernel
theorem dX0_keepAll_46 : decode cX0_keepAll 46 = .ok (.aload_n 0, 1) := by decide +kernel
theorem dX0_keepAll_47 : decode cX0_keepAll 47 = .ok (.aload_n 0, 1) := by decide +kernel
theorem dX0_keepAll_48 : decode cX0_keepAll 48 = .ok (.getfield 12, 3) := by decide +kernel
theorem dX0_keepAll_51 : decode cX0_keepAll 51 = .ok (.getfield 69, 3) := by decide +kernel
theorem dX0_keepAll_54 : decode cX0_keepAll 54 = .ok (.invokestatic 72, 3) := by decide +kernel
theorem dX0_keepAll_57 : decode cX0_keepAll 57 = .ok (.newarray .int, 2) := by decide +kernel
theorem dX0_keepAll_59 : decode cX0_keepAll 59 = .ok (.putfield 22, 3) := by decide +kernel
theorem dX0_keepAll_62 : decode cX0_keepAll 62 = .ok (.iconst 0, 1) := by decide +kernel
theorem dX0_keepAll_63 : decode cX0_keepAll 63 = .ok (.istore_n 1, 1) := by decide +kernel
theorem dX0_keepAll_64 : decode cX0_keepAll 64 = .ok (.iload_n 1, 1) := by decide +kernel
theorem dX0_keepAll_65 : decode cX0_keepAll 65 = .ok (.aload_n 0, 1) := by decide +kernel
theorem dX0_keepAll_66 : decode cX0_keepAll 66 = .ok (.getfield 12, 3) := by decide +kernel
theorem dX0_keepAll_69 : decode cX0_keepAll 69 = .ok (.getfield 69, 3) := by decide +kernel
theorem dX0_keepAll_72 : decode cX0_keepAll 72 = .ok (.if_icmp .ge 25, 3) := by decide +kernel
theorem dX0_keepAll_75 : decode cX0_keepAll 75 = .ok (.iload_n 1, 1) := by decide +kernel
theorem dX0_keepAll_76 : decode cX0_keepAll 76 = .ok (.aload_n 0, 1) := by decide +kernel
theorem dX0_keepAll_77 : decode cX0_keepAll 77 = .ok (.getfield 22, 3) := by decide +kernel
theorem dX0_keepAll_80 : decode cX0_keepAll 80 = .ok (.arraylength, 1) := by decide +kernel
theorem dX0_keepAll_81 : decode cX0_keepAll 81 = .ok (.if_icmp .ge 16, 3) := by decide +kernel
theorem dX0_keepAll_84 : decode cX0_keepAll 84 = .ok (.aload_n 0, 1) := by decide +kernel
theorem dX0_keepAll_85 : decode cX0_keepAll 85 = .ok (.getfield 22, 3) := by decide +kernel
theorem dX0_keepAll_88 : decode cX0_keepAll 88 = .ok (.iload_n 1, 1) := by decide +kernel
theorem dX0_keepAll_89 : decode cX0_keepAll 89 = .ok (.iload_n 1, 1) := by decide +kernel
theorem dX0_keepAll_90 : decode cX0_keepAll 90 = .ok (.iastore, 1) := by decide +kernel
theorem dX0_keepAll_91 : decode cX0_keepAll 91 = .ok (.iinc 1 1, 3) := by decide +kernel
theorem dX0_keepAll_94 : decode cX0_keepAll 94 = .ok (.goto (-30), 3) := by decide +kernel
theorem dX0_keepAll_97 : decode cX0_keepAll 97 = .ok (.aload_n 0, 1) := by decide +kernel
theorem dX0_keepAll_98 : decode cX0_keepAll 98 = .ok (.aload_n 0, 1) := by decide +kernel
theorem dX0_keepAll_99 : decode cX0_keepAll 99 = .ok (.getfield 12, 3) := by decide +kernel
theorem dX0_keepAll_102 : decode cX0_keepAll 102 = .ok (.getfield 69, 3) := by decide +kernel
theorem dX0_keepAll_105 : decode cX0_keepAll 105 = .ok (.putfield 26, 3) := by decide +kernel
theorem dX0_keepAll_108 : decode cX0_keepAll 108 = .ok (.return_, 1) := by decide +kernel
theorem dX0_sift_0 : decode cX0_sift 0 = .ok (.aload_n 0, 1) := by decide +kernel
theorem dX0_sift_1 : decode cX0_sift 1 = .ok (.invokevirtual 76, 3) := by decide +kernel
theorem dX0_sift_4 : decode cX0_sift 4 = .ok (.ifCond .ne 5, 3) := by decide +kernel
theorem dX0_sift_7 : decode cX0_sift 7 = .ok (.iconst 0, 1) := by decide +kernel
theorem dX0_sift_8 : decode cX0_sift 8 = .ok (.ireturn, 1) := by decide +kernel
theorem dX0_sift_9 : decode cX0_sift 9 = .ok (.aload_n 0, 1) := by decide +kernel
theorem dX0_sift_10 : decode cX0_sift 10 = .ok (.getfield 30, 3) := by decide +kernel
theorem dX0_sift_13 : decode cX0_sift 13 = .ok (.aload_n 0, 1) := by decide +kernel
theorem dX0_sift_14 : decode cX0_sift 14 = .ok (.getfield 37, 3) := by decide +kernel
theorem dX0_sift_17 : decode cX0_sift 17 = .ok (.getfield 79, 3) := by decide +kernel
theorem dX0_sift_20 : decode cX0_sift 20 = .ok (.if_icmp .ge 84, 3) := by decide +kernel
theorem dX0_sift_23 : decode cX0_sift 23 = .ok (.iconst 0, 1) := by decide +kernel
theorem dX0_sift_24 : decode cX0_sift 24 = .ok (.istore_n 1, 1) := by decide +kernel
theorem dX0_sift_25 : decode cX0_sift 25 = .ok (.iconst 0, 1) := by decide +kernel
theorem dX0_sift_26 : decode cX0_sift 26 = .ok (.istore_n 2, 1) := by decide +kernel
theorem dX0_sift_27 : decode cX0_sift 27 = .ok (.iload_n 2, 1) := by decide +kernel
theorem dX0_sift_28 : decode cX0_sift 28 = .ok (.aload_n 0, 1) := by decide +kernel
theorem dX0_sift_29 : decode cX0_sift 29 = .ok (.getfield 26, 3) := by decide +kernel
theorem dX0_sift_32 : decode cX0_sift 32 = .ok (.if_icmp .ge 56, 3) := by decide +kernel
theorem dX0_sift_35 : decode cX0_sift 35 = .ok (.aload_n 0, 1) := by decide +kernel
theorem dX0_sift_36 : decode cX0_sift 36 = .ok (.getfield 22, 3) := by decide +kernel
theorem dX0_sift_39 : decode cX0_sift 39 = .ok (.iload_n 2, 1) := by decide +kernel
theorem dX0_sift_40 : decode cX0_sift 40 = .ok (.iaload, 1) := by decide +kernel
theorem dX0_sift_41 : decode cX0_sift 41 = .ok (.istore_n 3, 1) := by decide +kernel
theorem dX0_sift_42 : decode cX0_sift 42 = .ok (.aload_n 0, 1) := by decide +kernel
theorem dX0_sift_43 : decode cX0_sift 43 = .ok (.getfield 33, 3) := by decide +kernel
theorem dX0_sift_46 : decode cX0_sift 46 = .ok (.aload_n 0, 1) := by decide +kernel
theorem dX0_sift_47 : decode cX0_sift 47 = .ok (.getfield 12, 3) := by decide +kernel
theorem dX0_sift_50 : decode cX0_sift 50 = .ok (.iload_n 3, 1) := by decide +kernel
theorem dX0_sift_51 : decode cX0_sift 51 = .ok (.invokevirtual 82, 3) := by decide +kernel
theorem dX0_sift_54 : decode cX0_sift 54 = .ok (.aload_n 0, 1) := by decide +kernel
theorem dX0_sift_55 : decode cX0_sift 55 = .ok (.getfield 37, 3) := by decide +kernel
theorem dX0_sift_58 : decode cX0_sift 58 = .ok (.aload_n 0, 1) := by decide +kernel
theorem dX0_sift_59 : decode cX0_sift 59 = .ok (.getfield 30, 3) := by decide +kernel
theorem dX0_sift_62 : decode cX0_sift 62 = .ok (.aload_n 0, 1) := by decide +kernel
theorem dX0_sift_63 : decode cX0_sift 63 = .ok (.getfield 33, 3) := by decide +kernel
theorem dX0_sift_66 : decode cX0_sift 66 = .ok (.invokevirtual 86, 3) := by decide +kernel
theorem dX0_sift_69 : decode cX0_sift 69 = .ok (.ifCond .eq 13, 3) := by decide +kernel
theorem dX0_sift_72 : decode cX0_sift 72 = .ok (.aload_n 0, 1) := by decide +kernel
theorem dX0_sift_73 : decode cX0_sift 73 = .ok (.getfield 22, 3) := by decide +kernel
theorem dX0_sift_76 : decode cX0_sift 76 = .ok (.iload_n 1, 1) := by decide +kernel
theorem dX0_sift_77 : decode cX0_sift 77 = .ok (.iload_n 3, 1) := by decide +kernel
theorem dX0_sift_78 : decode cX0_sift 78 = .ok (.iastore, 1) := by decide +kernel
theorem dX0_sift_79 : decode cX0_sift 79 = .ok (.iinc 1 1, 3) := by decide +kernel
theorem dX0_sift_82 : decode cX0_sift 82 = .ok (.iinc 2 1, 3) := by decide +kernel
theorem dX0_sift_85 : decode cX0_sift 85 = .ok (.goto (-58), 3) := by decide +kernel
theorem dX0_sift_88 : decode cX0_sift 88 = .ok (.aload_n 0, 1) := by decide +kernel
theorem dX0_sift_89 : decode cX0_sift 89 = .ok (.iload_n 1, 1) := by decide +kernel
theorem dX0_sift_90 : decode cX0_sift 90 = .ok (.putfield 26, 3) := by decide +kernel
theorem dX0_sift_93 : decode cX0_sift 93 = .ok (.aload_n 0, 1) := by decide +kernel
theorem dX0_sift_94 : decode cX0_sift 94 = .ok (.aload_n 0, 1) := by decide +kernel
theorem dX0_sift_95 : decode cX0_sift 95 = .ok (.getfield 37, 3) := by decide +kernel
theorem dX0_sift_98 : decode cX0_sift 98 = .ok (.getfield 79, 3) := by decide +kernel
theorem dX0_sift_101 : decode cX0_sift 101 = .ok (.putfield 30, 3) := by decide +kernel
theorem dX0_sift_104 : decode cX0_sift 104 = .ok (.iconst 1, 1) := by decide +kernel
theorem dX0_sift_105 : decode cX0_sift 105 = .ok (.ireturn, 1) := by decide +kernel
theorem dX0_isKeptNumber_0 : decode cX0_isKeptNumber 0 = .ok (.iload_n 1, 1) := by decide +kernel
theorem dX0_isKeptNumber_1 : decode cX0_isKeptNumber 1 = .ok (.ifCond .lt 15, 3) := by decide +kernel
theorem dX0_isKeptNumber_4 : decode cX0_isKeptNumber 4 = .ok (.iload_n 1, 1) := by decide +kernel
theorem dX0_isKeptNumber_5 : decode cX0_isKeptNumber 5 = .ok (.aload_n 0, 1) := by decide +kernel
theorem dX0_isKeptNumber_6 : decode cX0_isKeptNumber 6 = .ok (.getfield 26, 3) := by decide +kernel
theorem dX0_isKeptNumber_9 : decode cX0_isKeptNumber 9 = .ok (.if_icmp .ge 7, 3) := by decide +kernel
theorem dX0_isKeptNumber_12 : decode cX0_isKeptNumber 12 = .ok (.iconst 1, 1) := by decide +kernel
theorem dX0_isKeptNumber_13 : decode cX0_isKeptNumber 13 = .ok (.goto 4, 3) := by decide +kernel
theorem dX0_isKeptNumber_16 : decode cX0_isKeptNumber 16 = .ok (.iconst 0, 1) := by decide +kernel
theorem dX0_isKeptNumber_17 : decode cX0_isKeptNumber 17 = .ok (.ireturn, 1) := by decide +kernel
theorem dX0_keptRow_0 : decode cX0_keptRow 0 = .ok (.aload_n 0, 1) := by decide +kernel
theorem dX0_keptRow_1 : decode cX0_keptRow 1 = .ok (.iload_n 1, 1) := by decide +kernel
theorem dX0_keptRow_2 : decode cX0_keptRow 2 = .ok (.invokevirtual 90, 3) := by decide +kernel
theorem dX0_keptRow_5 : decode cX0_keptRow 5 = .ok (.ifCond .eq 12, 3) := by decide +kernel
theorem dX0_keptRow_8 : decode cX0_keptRow 8 = .ok (.aload_n 0, 1) := by decide +kernel
theorem dX0_keptRow_9 : decode cX0_keptRow 9 = .ok (.getfield 22, 3) := by decide +kernel
theorem dX0_keptRow_12 : decode cX0_keptRow 12 = .ok (.iload_n 1, 1) := by decide +kernel
theorem dX0_keptRow_13 : decode cX0_keptRow 13 = .ok (.iaload, 1) := by decide +kernel
theorem dX0_keptRow_14 : decode cX0_keptRow 14 = .ok (.goto 4, 3) := by decide +kernel
theorem dX0_keptRow_17 : decode cX0_keptRow 17 = .ok (.iconst (-1), 1) := by decide +kernel
theorem dX0_keptRow_18 : decode cX0_keptRow 18 = .ok (.ireturn, 1) := by decide +kernel
theorem dX0_loadKept_0 : decode cX0_loadKept 0 = .ok (.aload_n 0, 1) := by decide +kernel
theorem dX0_loadKept_1 : decode cX0_loadKept 1 = .ok (.iload_n 1, 1) := by decide +kernel
theorem dX0_loadKept_2 : decode cX0_loadKept 2 = .ok (.invokevirtual 90, 3) := by decide +kernel
theorem dX0_loadKept_5 : decode cX0_loadKept 5 = .ok (.ifCond .ne 5, 3) := by decide +kernel
theorem dX0_loadKept_8 : decode cX0_loadKept 8 = .ok (.iconst 0, 1) := by decide +kernel
theorem dX0_loadKept_9 : decode cX0_loadKept 9 = .ok (.ireturn, 1) := by decide +kernel
theorem dX0_loadKept_10 : decode cX0_loadKept 10 = .ok (.aload_n 0, 1) := by decide +kernel
theorem dX0_loadKept_11 : decode cX0_loadKept 11 = .ok (.getfield 33, 3) := by decide +kernel
theorem dX0_loadKept_14 : decode cX0_loadKept 14 = .ok (.aload_n 0, 1) := by decide +kernel
theorem dX0_loadKept_15 : decode cX0_loadKept 15 = .ok (.getfield 12, 3) := by decide +kernel
theorem dX0_loadKept_18 : decode cX0_loadKept 18 = .ok (.aload_n 0, 1) := by decide +kernel
theorem dX0_loadKept_19 : decode cX0_loadKept 19 = .ok (.getfield 22, 3) := by decide +kernel
theorem dX0_loadKept_22 : decode cX0_loadKept 22 = .ok (.iload_n 1, 1) := by decide +kernel
theorem dX0_loadKept_23 : decode cX0_loadKept 23 = .ok (.iaload, 1) := by decide +kernel
theorem dX0_loadKept_24 : decode cX0_loadKept 24 = .ok (.invokevirtual 82, 3) := by decide +kernel
theorem dX0_loadKept_27 : decode cX0_loadKept 27 = .ok (.iconst 1, 1) := by decide +kernel
theorem dX0_loadKept_28 : decode cX0_loadKept 28 = .ok (.ireturn, 1) := by decide +kernel
theorem dX0_keptNumber_0 : decode cX0_keptNumber 0 = .ok (.iconst 0, 1) := by decide +kernel
theorem dX0_keptNumber_1 : decode cX0_keptNumber 1 = .ok (.istore_n 2, 1) := by decide +kernel
theorem dX0_keptNumber_2 : decode cX0_keptNumber 2 = .ok (.aload_n 0, 1) := by decide +kernel
theorem dX0_keptNumber_3 : decode cX0_keptNumber 3 = .ok (.getfield 26, 3) := by decide +kernel
theorem dX0_keptNumber_6 : decode cX0_keptNumber 6 = .ok (.iconst 1, 1) := by decide +kernel
theorem dX0_keptNumber_7 : decode cX0_keptNumber 7 = .ok (.isub, 1) := by decide +kernel
theorem dX0_keptNumber_8 : decode cX0_keptNumber 8 = .ok (.istore_n 3, 1) := by decide +kernel
theorem dX0_keptNumber_9 : decode cX0_keptNumber 9 = .ok (.iconst 0, 1) := by decide +kernel
theorem dX0_keptNumber_10 : decode cX0_keptNumber 10 = .ok (.istore 4, 2) := by decide +kernel
theorem dX0_keptNumber_12 : decode cX0_keptNumber 12 = .ok (.iload 4, 2) := by decide +kernel
theorem dX0_keptNumber_14 : decode cX0_keptNumber 14 = .ok (.bipush 32, 2) := by decide +kernel
theorem dX0_keptNumber_16 : decode cX0_keptNumber 16 = .ok (.if_icmp .ge 59, 3) := by decide +kernel
theorem dX0_keptNumber_19 : decode cX0_keptNumber 19 = .ok (.iload_n 2, 1) := by decide +kernel
theorem dX0_keptNumber_20 : decode cX0_keptNumber 20 = .ok (.iload_n 3, 1) := by decide +kernel
theorem dX0_keptNumber_21 : decode cX0_keptNumber 21 = .ok (.if_icmp .gt 54, 3) := by decide +kernel
theorem dX0_keptNumber_24 : decode cX0_keptNumber 24 = .ok (.iload_n 2, 1) := by decide +kernel
theorem dX0_keptNumber_25 : decode cX0_keptNumber 25 = .ok (.iload_n 3, 1) := by decide +kernel
theorem dX0_keptNumber_26 : decode cX0_keptNumber 26 = .ok (.iadd, 1) := by decide +kernel
theorem dX0_keptNumber_27 : decode cX0_keptNumber 27 = .ok (.iconst 2, 1) := by decide +kernel
theorem dX0_keptNumber_28 : decode cX0_keptNumber 28 = .ok (.idiv, 1) := by decide +kernel
theorem dX0_keptNumber_29 : decode cX0_keptNumber 29 = .ok (.istore 5, 2) := by decide +kernel
theorem dX0_keptNumber_31 : decode cX0_keptNumber 31 = .ok (.aload_n 0, 1) := by decide +kernel
theorem dX0_keptNumber_32 : decode cX0_keptNumber 32 = .ok (.getfield 22, 3) := by decide +kernel
theorem dX0_keptNumber_35 : decode cX0_keptNumber 35 = .ok (.iload 5, 2) := by decide +kernel
theorem dX0_keptNumber_37 : decode cX0_keptNumber 37 = .ok (.iaload, 1) := by decide +kernel
theorem dX0_keptNumber_38 : decode cX0_keptNumber 38 = .ok (.iload_n 1, 1) := by decide +kernel
theorem dX0_keptNumber_39 : decode cX0_keptNumber 39 = .ok (.if_icmp .ne 6, 3) := by decide +kernel
theorem dX0_keptNumber_42 : decode cX0_keptNumber 42 = .ok (.iload 5, 2) := by decide +kernel
theorem dX0_keptNumber_44 : decode cX0_keptNumber 44 = .ok (.ireturn, 1) := by decide +kernel
theorem dX0_keptNumber_45 : decode cX0_keptNumber 45 = .ok (.aload_n 0, 1) := by decide +kernel
theorem dX0_keptNumber_46 : decode cX0_keptNumber 46 = .ok (.getfield 22, 3) := by decide +kernel
theorem dX0_keptNumber_49 : decode cX0_keptNumber 49 = .ok (.iload 5, 2) := by decide +kernel
theorem dX0_keptNumber_51 : decode cX0_keptNumber 51 = .ok (.iaload, 1) := by decide +kernel
theorem dX0_keptNumber_52 : decode cX0_keptNumber 52 = .ok (.iload_n 1, 1) := by decide +kernel
theorem dX0_keptNumber_53 : decode cX0_keptNumber 53 = .ok (.if_icmp .ge 11, 3) := by decide +kernel
theorem dX0_keptNumber_56 : decode cX0_keptNumber 56 = .ok (.iload 5, 2) := by decide +kernel
theorem dX0_keptNumber_58 : decode cX0_keptNumber 58 = .ok (.iconst 1, 1) := by decide +kernel
theorem dX0_keptNumber_59 : decode cX0_keptNumber 59 = .ok (.iadd, 1) := by decide +kernel
theorem dX0_keptNumber_60 : decode cX0_keptNumber 60 = .ok (.istore_n 2, 1) := by decide +kernel
theorem dX0_keptNumber_61 : decode cX0_keptNumber 61 = .ok (.goto 8, 3) := by decide +kernel
theorem dX0_keptNumber_64 : decode cX0_keptNumber 64 = .ok (.iload 5, 2) := by decide +kernel
theorem dX0_keptNumber_66 : decode cX0_keptNumber 66 = .ok (.iconst 1, 1) := by decide +kernel
theorem dX0_keptNumber_67 : decode cX0_keptNumber 67 = .ok (.isub, 1) := by decide +kernel
theorem dX0_keptNumber_68 : decode cX0_keptNumber 68 = .ok (.istore_n 3, 1) := by decide +kernel
theorem dX0_keptNumber_69 : decode cX0_keptNumber 69 = .ok (.iinc 4 1, 3) := by decide +kernel
theorem dX0_keptNumber_72 : decode cX0_keptNumber 72 = .ok (.goto (-60), 3) := by decide +kernel
theorem dX0_keptNumber_75 : decode cX0_keptNumber 75 = .ok (.iconst (-1), 1) := by decide +kernel
theorem dX0_keptNumber_76 : decode cX0_keptNumber 76 = .ok (.ireturn, 1) := by decide +kernel
theorem dX1_init_0 : decode cX1_init 0 = .ok (.aload_n 0, 1) := by decide +kernel
theorem dX1_init_1 : decode cX1_init 1 = .ok (.invokespecial 3, 3) := by decide +kernel
theorem dX1_init_4 : decode cX1_init 4 = .ok (.aload_n 0, 1) := by decide +kernel
theorem dX1_init_5 : decode cX1_init 5 = .ok (.new 9, 3) := by decide +kernel
theorem dX1_init_8 : decode cX1_init 8 = .ok (.dup, 1) := by decide +kernel
theorem dX1_init_9 : decode cX1_init 9 = .ok (.invokespecial 11, 3) := by decide +kernel
theorem dX1_init_12 : decode cX1_init 12 = .ok (.putfield 12, 3) := by decide +kernel
theorem dX1_init_15 : decode cX1_init 15 = .ok (.aload_n 0, 1) := by decide +kernel
theorem dX1_init_16 : decode cX1_init 16 = .ok (.bipush 16, 2) := by decide +kernel
theorem dX1_init_18 : decode cX1_init 18 = .ok (.newarray .int, 2) := by decide +kernel
theorem dX1_init_20 : decode cX1_init 20 = .ok (.putfield 18, 3) := by decide +kernel
theorem dX1_init_23 : decode cX1_init 23 = .ok (.aload_n 0, 1) := by decide +kernel
theorem dX1_init_24 : decode cX1_init 24 = .ok (.bipush 16, 2) := by decide +kernel
theorem dX1_init_26 : decode cX1_init 26 = .ok (.newarray .int, 2) := by decide +kernel
theorem dX1_init_28 : decode cX1_init 28 = .ok (.putfield 22, 3) := by decide +kernel
theorem dX1_init_31 : decode cX1_init 31 = .ok (.aload_n 0, 1) := by decide +kernel
theorem dX1_init_32 : decode cX1_init 32 = .ok (.bipush 16, 2) := by decide +kernel
theorem dX1_init_34 : decode cX1_init 34 = .ok (.newarray .int, 2) := by decide +kernel
theorem dX1_init_36 : decode cX1_init 36 = .ok (.putfield 25, 3) := by decide +kernel
theorem dX1_init_39 : decode cX1_init 39 = .ok (.aload_n 0, 1) := by decide +kernel
theorem dX1_init_40 : decode cX1_init 40 = .ok (.bipush 16, 2) := by decide +kernel
theorem dX1_init_42 : decode cX1_init 42 = .ok (.newarray .int, 2) := by decide +kernel
theorem dX1_init_44 : decode cX1_init 44 = .ok (.putfield 28, 3) := by decide +kernel
theorem dX1_init_47 : decode cX1_init 47 = .ok (.aload_n 0, 1) := by decide +kernel
theorem dX1_init_48 : decode cX1_init 48 = .ok (.bipush 16, 2) := by decide +kernel
theorem dX1_init_50 : decode cX1_init 50 = .ok (.newarray .int, 2) := by decide +kernel
theorem dX1_init_52 : decode cX1_init 52 = .ok (.putfield 31, 3) := by decide +kernel
theorem dX1_init_55 : decode cX1_init 55 = .ok (.aload_n 0, 1) := by decide +kernel
theorem dX1_init_56 : decode cX1_init 56 = .ok (.iconst 0, 1) := by decide +kernel
theorem dX1_init_57 : decode cX1_init 57 = .ok (.putfield 34, 3) := by decide +kernel
theorem dX1_init_60 : decode cX1_init 60 = .ok (.aload_n 0, 1) := by decide +kernel
theorem dX1_init_61 : decode cX1_init 61 = .ok (.iconst 0, 1) := by decide +kernel
theorem dX1_init_62 : decode cX1_init 62 = .ok (.putfield 38, 3) := by decide +kernel
theorem dX1_init_65 : decode cX1_init 65 = .ok (.aload_n 0, 1) := by decide +kernel
theorem dX1_init_66 : decode cX1_init 66 = .ok (.aload_n 1, 1) := by decide +kernel
theorem dX1_init_67 : decode cX1_init 67 = .ok (.putfield 42, 3) := by decide +kernel
theorem dX1_init_70 : decode cX1_init 70 = .ok (.aload_n 0, 1) := by decide +kernel
theorem dX1_init_71 : decode cX1_init 71 = .ok (.aload_n 2, 1) := by decide +kernel
theorem dX1_init_72 : decode cX1_init 72 = .ok (.putfield 46, 3) := by decide +kernel
theorem dX1_init_75 : decode cX1_init 75 = .ok (.return_, 1) := by decide +kernel
theorem dX1_forget_0 : decode cX1_forget 0 = .ok (.aload_n 0, 1) := by decide +kernel
theorem dX1_forget_1 : decode cX1_forget 1 = .ok (.iconst 0, 1) := by decide +kernel
theorem dX1_forget_2 : decode cX1_forget 2 = .ok (.putfield 34, 3) := by decide +kernel
theorem dX1_forget_5 : decode cX1_forget 5 = .ok (.return_, 1) := by decide +kernel
theorem dX1_gather_0 : decode cX1_gather 0 = .ok (.aload_n 0, 1) := by decide +kernel
theorem dX1_gather_1 : decode cX1_gather 1 = .ok (.getfield 42, 3) := by decide +kernel
theorem dX1_gather_4 : decode cX1_gather 4 = .ok (.invokevirtual 50, 3) := by decide +kernel
theorem dX1_gather_7 : decode cX1_gather 7 = .ok (.ifCond .ne 5, 3) := by decide +kernel
theorem dX1_gather_10 : decode cX1_gather 10 = .ok (.iconst 0, 1) := by decide +kernel
theorem dX1_gather_11 : decode cX1_gather 11 = .ok (.ireturn, 1) := by decide +kernel
theorem dX1_gather_12 : decode cX1_gather 12 = .ok (.aload_n 0, 1) := by decide +kernel
theorem dX1_gather_13 : decode cX1_gather 13 = .ok (.getfield 34, 3) := by decide +kernel
theorem dX1_gather_16 : decode cX1_gather 16 = .ok (.ifCond .ne 169, 3) := by decide +kernel
theorem dX1_gather_19 : decode cX1_gather 19 = .ok (.aload_n 0, 1) := by decide +kernel
theorem dX1_gather_20 : decode cX1_gather 20 = .ok (.aload_n 0, 1) := by decide +kernel
theorem dX1_gather_21 : decode cX1_gather 21 = .ok (.getfield 42, 3) := by decide +kernel
theorem dX1_gather_24 : decode cX1_gather 24 = .ok (.getfield 56, 3) := by decide +kernel
theorem dX1_gather_27 : decode cX1_gather 27 = .ok (.getfield 59, 3) := by decide +kernel
theorem dX1_gather_30 : decode cX1_gather 30 = .ok (.invokevirtual 60, 3) := by decide +kernel
theorem dX1_gather_33 : decode cX1_gather 33 = .ok (.aload_n 0, 1) := by decide +kernel
theorem dX1_gather_34 : decode cX1_gather 34 = .ok (.getfield 12, 3) := by decide +kernel
theorem dX1_gather_37 : decode cX1_gather 37 = .ok (.invokevirtual 64, 3) := by decide +kernel
theorem dX1_gather_40 : decode cX1_gather 40 = .ok (.iconst 0, 1) := by decide +kernel
theorem dX1_gather_41 : decode cX1_gather 41 = .ok (.istore_n 2, 1) := by decide +kernel
theorem dX1_gather_42 : decode cX1_gather 42 = .ok (.iload_n 2, 1) := by decide +kernel
theorem dX1_gather_43 : decode cX1_gather 43 = .ok (.aload_n 0, 1) := by decide +kernel
theorem dX1_gather_44 : decode cX1_gather 44 = .ok (.getfield 42, 3) := by decide +kernel
theorem dX1_gather_47 : decode cX1_gather 47 = .ok (.getfield 56, 3) := by decide +kernel
theorem dX1_gather_50 : decode cX1_gather 50 = .ok (.getfield 59, 3) := by decide +kernel
theorem dX1_gather_53 : decode cX1_gather 53 = .ok (.if_icmp .ge 119, 3) := by decide +kernel
theorem dX1_gather_56 : decode cX1_gather 56 = .ok (.iload_n 2, 1) := by decide +kernel
theorem dX1_gather_57 : decode cX1_gather 57 = .ok (.aload_n 0, 1) := by decide +kernel
theorem dX1_gather_58 : decode cX1_gather 58 = .ok (.getfield 25, 3) := by decide +kernel
theorem dX1_gather_61 : decode cX1_gather 61 = .ok (.arraylength, 1) := by decide +kernel
theorem dX1_gather_62 : decode cX1_gather 62 = .ok (.if_icmp .ge 110, 3) := by decide +kernel
theorem dX1_gather_65 : decode cX1_gather 65 = .ok (.aload_n 0, 1) := by decide +kernel
theorem dX1_gather_66 : decode cX1_gather 66 = .ok (.getfield 42, 3) := by decide +kernel
theorem dX1_gather_69 : decode cX1_gather 69 = .ok (.getfield 67, 3) := by decide +kernel
theorem dX1_gather_72 : decode cX1_gather 72 = .ok (.aload_n 0, 1) := by decide +kernel
theorem dX1_gather_73 : decode cX1_gather 73 = .ok (.getfield 42, 3) := by decide +kernel
theorem dX1_gather_76 : decode cX1_gather 76 = .ok (.getfield 56, 3) := by decide +kernel
theorem dX1_gather_79 : decode cX1_gather 79 = .ok (.iload_n 2, 1) := by decide +kernel
theorem dX1_gather_80 : decode cX1_gather 80 = .ok (.invokevirtual 71, 3) := by decide +kernel
theorem dX1_gather_83 : decode cX1_gather 83 = .ok (.aload_n 0, 1) := by decide +kernel
theorem dX1_gather_84 : decode cX1_gather 84 = .ok (.getfield 46, 3) := by decide +kernel
theorem dX1_gather_87 : decode cX1_gather 87 = .ok (.aload_n 1, 1) := by decide +kernel
theorem dX1_gather_88 : decode cX1_gather 88 = .ok (.invokevirtual 77, 3) := by decide +kernel
theorem dX1_gather_91 : decode cX1_gather 91 = .ok (.aload_n 0, 1) := by decide +kernel
theorem dX1_gather_92 : decode cX1_gather 92 = .ok (.getfield 12, 3) := by decide +kernel
theorem dX1_gather_95 : decode cX1_gather 95 = .ok (.aload_n 0, 1) := by decide +kernel
theorem dX1_gather_96 : decode cX1_gather 96 = .ok (.getfield 46, 3) := by decide +kernel
theorem dX1_gather_99 : decode cX1_gather 99 = .ok (.getfield 83, 3) := by decide +kernel
theorem dX1_gather_102 : decode cX1_gather 102 = .ok (.aload_n 0, 1) := by decide +kernel
theorem dX1_gather_103 : decode cX1_gather 103 = .ok (.getfield 46, 3) := by decide +kernel
theorem dX1_gather_106 : decode cX1_gather 106 = .ok (.getfield 86, 3) := by decide +kernel
theorem dX1_gather_109 : decode cX1_gather 109 = .ok (.invokevirtual 89, 3) := by decide +kernel
theorem dX1_gather_112 : decode cX1_gather 112 = .ok (.iload_n 2, 1) := by decide +kernel
theorem dX1_gather_113 : decode cX1_gather 113 = .ok (.ifCond .le 38, 3) := by decide +kernel
theorem dX1_gather_116 : decode cX1_gather 116 = .ok (.aload_n 0, 1) := by decide +kernel
theorem dX1_gather_117 : decode cX1_gather 117 = .ok (.getfield 12, 3) := by decide +kernel
theorem dX1_gather_120 : decode cX1_gather 120 = .ok (.aload_n 0, 1) := by decide +kernel
theorem dX1_gather_121 : decode cX1_gather 121 = .ok (.getfield 12, 3) := by decide +kernel
theorem dX1_gather_124 : decode cX1_gather 124 = .ok (.getfield 59, 3) := by decide +kernel
theorem dX1_gather_127 : decode cX1_gather 127 = .ok (.iconst 2, 1) := by decide +kernel
theorem dX1_gather_128 : decode cX1_gather 128 = .ok (.isub, 1) := by decide +kernel
theorem dX1_gather_129 : decode cX1_gather 129 = .ok (.aload_n 0, 1) := by decide +kernel
theorem dX1_gather_130 : decode cX1_gather 130 = .ok (.getfield 12, 3) := by decide +kernel
theorem dX1_gather_133 : decode cX1_gather 133 = .ok (.getfield 59, 3) := by decide +kernel
theorem dX1_gather_136 : decode cX1_gather 136 = .ok (.iconst 1, 1) := by decide +kernel
theorem dX1_gather_137 : decode cX1_gather 137 = .ok (.isub, 1) := by decide +kernel
theorem dX1_gather_138 : decode cX1_gather 138 = .ok (.invokevirtual 93, 3) := by decide +kernel
theorem dX1_gather_141 : decode cX1_gather 141 = .ok (.ifCond .ne 10, 3) := by decide +kernel
theorem dX1_gather_144 : decode cX1_gather 144 = .ok (.aload_n 0, 1) := by decide +kernel
theorem dX1_gather_145 : decode cX1_gather 145 = .ok (.getfield 12, 3) := by decide +kernel
theorem dX1_gather_148 : decode cX1_gather 148 = .ok (.invokevirtual 97, 3) := by decide +kernel
theorem dX1_gather_151 : decode cX1_gather 151 = .ok (.aload_n 0, 1) := by decide +kernel
theorem dX1_gather_152 : decode cX1_gather 152 = .ok (.getfield 25, 3) := by decide +kernel
theorem dX1_gather_155 : decode cX1_gather 155 = .ok (.iload_n 2, 1) := by decide +kernel
theorem dX1_gather_156 : decode cX1_gather 156 = .ok (.aload_n 0, 1) := by decide +kernel
theorem dX1_gather_157 : decode cX1_gather 157 = .ok (.getfield 12, 3) := by decide +kernel
theorem dX1_gather_160 : decode cX1_gather 160 = .ok (.getfield 59, 3) := by decide +kernel
theorem dX1_gather_163 : decode cX1_gather 163 = .ok (.iconst 1, 1) := by decide +kernel
theorem dX1_gather_164 : decode cX1_gather 164 = .ok (.isub, 1) := by decide +kernel
theorem dX1_gather_165 : decode cX1_gather 165 = .ok (.iastore, 1) := by decide +kernel
theorem dX1_gather_166 : decode cX1_gather 166 = .ok (.iinc 2 1, 3) := by decide +kernel
theorem dX1_gather_169 : decode cX1_gather 169 = .ok (.goto (-127), 3) := by decide +kernel
theorem dX1_gather_172 : decode cX1_gather 172 = .ok (.aload_n 0, 1) := by decide +kernel
theorem dX1_gather_173 : decode cX1_gather 173 = .ok (.invokevirtual 100, 3) := by decide +kernel
theorem dX1_gather_176 : decode cX1_gather 176 = .ok (.aload_n 0, 1) := by decide +kernel
theorem dX1_gather_177 : decode cX1_gather 177 = .ok (.invokevirtual 103, 3) := by decide +kernel
theorem dX1_gather_180 : decode cX1_gather 180 = .ok (.aload_n 0, 1) := by decide +kernel
theorem dX1_gather_181 : decode cX1_gather 181 = .ok (.iconst 1, 1) := by decide +kernel
theorem dX1_gather_182 : decode cX1_gather 182 = .ok (.putfield 34, 3) := by decide +kernel
theorem dX1_gather_185 : decode cX1_gather 185 = .ok (.iconst 1, 1) := by decide +kernel
theorem dX1_gather_186 : decode cX1_gather 186 = .ok (.ireturn, 1) := by decide +kernel
theorem dX1_replay_0 : decode cX1_replay 0 = .ok (.iload_n 1, 1) := by decide +kernel
theorem dX1_replay_1 : decode cX1_replay 1 = .ok (.ifCond .lt 11, 3) := by decide +kernel
theorem dX1_replay_4 : decode cX1_replay 4 = .ok (.iload_n 1, 1) := by decide +kernel
theorem dX1_replay_5 : decode cX1_replay 5 = .ok (.aload_n 0, 1) := by decide +kernel
theorem dX1_replay_6 : decode cX1_replay 6 = .ok (.getfield 38, 3) := by decide +kernel
theorem dX1_replay_9 : decode cX1_replay 9 = .ok (.if_icmp .lt 5, 3) := by decide +kernel
theorem dX1_replay_12 : decode cX1_replay 12 = .ok (.iconst 0, 1) := by decide +kernel
theorem dX1_replay_13 : decode cX1_replay 13 = .ok (.ireturn, 1) := by decide +kernel
theorem dX1_replay_14 : decode cX1_replay 14 = .ok (.aload_n 0, 1) := by decide +kernel
theorem dX1_replay_15 : decode cX1_replay 15 = .ok (.getfield 42, 3) := by decide +kernel
theorem dX1_replay_18 : decode cX1_replay 18 = .ok (.getfield 67, 3) := by decide +kernel
theorem dX1_replay_21 : decode cX1_replay 21 = .ok (.aload_n 0, 1) := by decide +kernel
theorem dX1_replay_22 : decode cX1_replay 22 = .ok (.getfield 42, 3) := by decide +kernel
theorem dX1_replay_25 : decode cX1_replay 25 = .ok (.getfield 56, 3) := by decide +kernel
theorem dX1_replay_28 : decode cX1_replay 28 = .ok (.aload_n 0, 1) := by decide +kernel
theorem dX1_replay_29 : decode cX1_replay 29 = .ok (.getfield 31, 3) := by decide +kernel
theorem dX1_replay_32 : decode cX1_replay 32 = .ok (.iload_n 1, 1) := by decide +kernel
theorem dX1_replay_33 : decode cX1_replay 33 = .ok (.iaload, 1) := by decide +kernel
theorem dX1_replay_34 : decode cX1_replay 34 = .ok (.invokevirtual 71, 3) := by decide +kernel
theorem dX1_replay_37 : decode cX1_replay 37 = .ok (.aload_n 0, 1) := by decide +kernel
theorem dX1_replay_38 : decode cX1_replay 38 = .ok (.getfield 46, 3) := by decide +kernel
theorem dX1_replay_41 : decode cX1_replay 41 = .ok (.aload_n 2, 1) := by decide +kernel
theorem dX1_replay_42 : decode cX1_replay 42 = .ok (.invokevirtual 77, 3) := by decide +kernel
theorem dX1_replay_45 : decode cX1_replay 45 = .ok (.iconst 1, 1) := by decide +kernel
theorem dX1_replay_46 : decode cX1_replay 46 = .ok (.ireturn, 1) := by decide +kernel
theorem dX1_partOf_0 : decode cX1_partOf 0 = .ok (.iload_n 1, 1) := by decide +kernel
theorem dX1_partOf_1 : decode cX1_partOf 1 = .ok (.ifCond .lt 12, 3) := by decide +kernel
theorem dX1_partOf_4 : decode cX1_partOf 4 = .ok (.iload_n 1, 1) := by decide +kernel
theorem dX1_partOf_5 : decode cX1_partOf 5 = .ok (.aload_n 0, 1) := by decide +kernel
theorem dX1_partOf_6 : decode cX1_partOf 6 = .ok (.getfield 25, 3) := by decide +kernel
theorem dX1_partOf_9 : decode cX1_partOf 9 = .ok (.arraylength, 1) := by decide +kernel
theorem dX1_partOf_10 : decode cX1_partOf 10 = .ok (.if_icmp .lt 5, 3) := by decide +kernel
theorem dX1_partOf_13 : decode cX1_partOf 13 = .ok (.iconst (-1), 1) := by decide +kernel
theorem dX1_partOf_14 : decode cX1_partOf 14 = .ok (.ireturn, 1) := by decide +kernel
theorem dX1_partOf_15 : decode cX1_partOf 15 = .ok (.aload_n 0, 1) := by decide +kernel
theorem dX1_partOf_16 : decode cX1_partOf 16 = .ok (.getfield 25, 3) := by decide +kernel
theorem dX1_partOf_19 : decode cX1_partOf 19 = .ok (.iload_n 1, 1) := by decide +kernel
theorem dX1_partOf_20 : decode cX1_partOf 20 = .ok (.iaload, 1) := by decide +kernel
theorem dX1_partOf_21 : decode cX1_partOf 21 = .ok (.istore_n 2, 1) := by decide +kernel
theorem dX1_partOf_22 : decode cX1_partOf 22 = .ok (.iload_n 2, 1) := by decide +kernel
theorem dX1_partOf_23 : decode cX1_partOf 23 = .ok (.ifCond .lt 21, 3) := by decide +kernel
theorem dX1_partOf_26 : decode cX1_partOf 26 = .ok (.iload_n 2, 1) := by decide +kernel
theorem dX1_partOf_27 : decode cX1_partOf 27 = .ok (.aload_n 0, 1) := by decide +kernel
theorem dX1_partOf_28 : decode cX1_partOf 28 = .ok (.getfield 28, 3) := by decide +kernel
theorem dX1_partOf_31 : decode cX1_partOf 31 = .ok (.arraylength, 1) := by decide +kernel
theorem dX1_partOf_32 : decode cX1_partOf 32 = .ok (.if_icmp .ge 12, 3) := by decide +kernel
theorem dX1_partOf_35 : decode cX1_partOf 35 = .ok (.aload_n 0, 1) := by decide +kernel
theorem dX1_partOf_36 : decode cX1_partOf 36 = .ok (.getfield 28, 3) := by decide +kernel
theorem dX1_partOf_39 : decode cX1_partOf 39 = .ok (.iload_n 2, 1) := by decide +kernel
theorem dX1_partOf_40 : decode cX1_partOf 40 = .ok (.iaload, 1) := by decide +kernel
theorem dX1_partOf_41 : decode cX1_partOf 41 = .ok (.goto 4, 3) := by decide +kernel
theorem dX1_partOf_44 : decode cX1_partOf 44 = .ok (.iconst (-1), 1) := by decide +kernel
theorem dX1_partOf_45 : decode cX1_partOf 45 = .ok (.ireturn, 1) := by decide +kernel
theorem dX1_sizeOf_0 : decode cX1_sizeOf 0 = .ok (.iconst 0, 1) := by decide +kernel
theorem dX1_sizeOf_1 : decode cX1_sizeOf 1 = .ok (.istore_n 2, 1) := by decide +kernel
theorem dX1_sizeOf_2 : decode cX1_sizeOf 2 = .ok (.iconst 0, 1) := by decide +kernel
theorem dX1_sizeOf_3 : decode cX1_sizeOf 3 = .ok (.istore_n 3, 1) := by decide +kernel
theorem dX1_sizeOf_4 : decode cX1_sizeOf 4 = .ok (.iload_n 3, 1) := by decide +kernel
theorem dX1_sizeOf_5 : decode cX1_sizeOf 5 = .ok (.aload_n 0, 1) := by decide +kernel
theorem dX1_sizeOf_6 : decode cX1_sizeOf 6 = .ok (.getfield 42, 3) := by decide +kernel
theorem dX1_sizeOf_9 : decode cX1_sizeOf 9 = .ok (.getfield 56, 3) := by decide +kernel
theorem dX1_sizeOf_12 : decode cX1_sizeOf 12 = .ok (.getfield 59, 3) := by decide +kernel
theorem dX1_sizeOf_15 : decode cX1_sizeOf 15 = .ok (.if_icmp .ge 21, 3) := by decide +kernel
theorem dX1_sizeOf_18 : decode cX1_sizeOf 18 = .ok (.aload_n 0, 1) := by decide +kernel
theorem dX1_sizeOf_19 : decode cX1_sizeOf 19 = .ok (.iload_n 3, 1) := by decide +kernel
theorem dX1_sizeOf_20 : decode cX1_sizeOf 20 = .ok (.invokevirtual 106, 3) := by decide +kernel
theorem dX1_sizeOf_23 : decode cX1_sizeOf 23 = .ok (.iload_n 1, 1) := by decide +kernel
theorem dX1_sizeOf_24 : decode cX1_sizeOf 24 = .ok (.if_icmp .ne 6, 3) := by decide +kernel
theorem dX1_sizeOf_27 : decode cX1_sizeOf 27 = .ok (.iinc 2 1, 3) := by decide +kernel
theorem dX1_sizeOf_30 : decode cX1_sizeOf 30 = .ok (.iinc 3 1, 3) := by decide +kernel
theorem dX1_sizeOf_33 : decode cX1_sizeOf 33 = .ok (.goto (-29), 3) := by decide +kernel
theorem dX1_sizeOf_36 : decode cX1_sizeOf 36 = .ok (.iload_n 2, 1) := by decide +kernel
theorem dX1_sizeOf_37 : decode cX1_sizeOf 37 = .ok (.ireturn, 1) := by decide +kernel
theorem dX1_keptIn_0 : decode cX1_keptIn 0 = .ok (.iconst 0, 1) := by decide +kernel
theorem dX1_keptIn_1 : decode cX1_keptIn 1 = .ok (.istore_n 2, 1) := by decide +kernel
theorem dX1_keptIn_2 : decode cX1_keptIn 2 = .ok (.iconst 0, 1) := by decide +kernel
theorem dX1_keptIn_3 : decode cX1_keptIn 3 = .ok (.istore_n 3, 1) := by decide +kernel
theorem dX1_keptIn_4 : decode cX1_keptIn 4 = .ok (.iload_n 3, 1) := by decide +kernel
theorem dX1_keptIn_5 : decode cX1_keptIn 5 = .ok (.aload_n 0, 1) := by decide +kernel
theorem dX1_keptIn_6 : decode cX1_keptIn 6 = .ok (.getfield 42, 3) := by decide +kernel
theorem dX1_keptIn_9 : decode cX1_keptIn 9 = .ok (.getfield 110, 3) := by decide +kernel
theorem dX1_keptIn_12 : decode cX1_keptIn 12 = .ok (.if_icmp .ge 28, 3) := by decide +kernel
theorem dX1_keptIn_15 : decode cX1_keptIn 15 = .ok (.aload_n 0, 1) := by decide +kernel
theorem dX1_keptIn_16 : decode cX1_keptIn 16 = .ok (.aload_n 0, 1) := by decide +kernel
theorem dX1_keptIn_17 : decode cX1_keptIn 17 = .ok (.getfield 42, 3) := by decide +kernel
theorem dX1_keptIn_20 : decode cX1_keptIn 20 = .ok (.iload_n 3, 1) := by decide +kernel
theorem dX1_keptIn_21 : decode cX1_keptIn 21 = .ok (.invokevirtual 113, 3) := by decide +kernel
theorem dX1_keptIn_24 : decode cX1_keptIn 24 = .ok (.invokevirtual 106, 3) := by decide +kernel
theorem dX1_keptIn_27 : decode cX1_keptIn 27 = .ok (.iload_n 1, 1) := by decide +kernel
theorem dX1_keptIn_28 : decode cX1_keptIn 28 = .ok (.if_icmp .ne 6, 3) := by decide +kernel
theorem dX1_keptIn_31 : decode cX1_keptIn 31 = .ok (.iinc 2 1, 3) := by decide +kernel
theorem dX1_keptIn_34 : decode cX1_keptIn 34 = .ok (.iinc 3 1, 3) := by decide +kernel
theorem dX1_keptIn_37 : decode cX1_keptIn 37 = .ok (.goto (-33), 3) := by decide +kernel
theorem dX1_keptIn_40 : decode cX1_keptIn 40 = .ok (.iload_n 2, 1) := by decide +kernel
theorem dX1_keptIn_41 : decode cX1_keptIn 41 = .ok (.ireturn, 1) := by decide +kernel
theorem dX1_makeRoom_0 : decode cX1_makeRoom 0 = .ok (.aload_n 0, 1) := by decide +kernel
theorem dX1_makeRoom_1 : decode cX1_makeRoom 1 = .ok (.getfield 18, 3) := by decide +kernel
theorem dX1_makeRoom_4 : decode cX1_makeRoom 4 = .ok (.arraylength, 1) := by decide +kernel
theorem dX1_makeRoom_5 : decode cX1_makeRoom 5 = .ok (.iload_n 1, 1) := by decide +kernel
theorem dX1_makeRoom_6 : decode cX1_makeRoom 6 = .ok (.if_icmp .ge 43, 3) := by decide +kernel
theorem dX1_makeRoom_9 : decode cX1_makeRoom 9 = .ok (.iload_n 1, 1) := by decide +kernel
theorem dX1_makeRoom_10 : decode cX1_makeRoom 10 = .ok (.invokestatic 116, 3) := by decide +kernel
theorem dX1_makeRoom_13 : decode cX1_makeRoom 13 = .ok (.istore_n 2, 1) := by decide +kernel
theorem dX1_makeRoom_14 : decode cX1_makeRoom 14 = .ok (.aload_n 0, 1) := by decide +kernel
theorem dX1_makeRoom_15 : decode cX1_makeRoom 15 = .ok (.iload_n 2, 1) := by decide +kernel
theorem dX1_makeRoom_16 : decode cX1_makeRoom 16 = .ok (.newarray .int, 2) := by decide +kernel
theorem dX1_makeRoom_18 : decode cX1_makeRoom 18 = .ok (.putfield 18, 3) := by decide +kernel
theorem dX1_makeRoom_21 : decode cX1_makeRoom 21 = .ok (.aload_n 0, 1) := by decide +kernel
theorem dX1_makeRoom_22 : decode cX1_makeRoom 22 = .ok (.iload_n 2, 1) := by decide +kernel
theorem dX1_makeRoom_23 : decode cX1_makeRoom 23 = .ok (.newarray .int, 2) := by decide +kernel
theorem dX1_makeRoom_25 : decode cX1_makeRoom 25 = .ok (.putfield 22, 3) := by decide +kernel
theorem dX1_makeRoom_28 : decode cX1_makeRoom 28 = .ok (.aload_n 0, 1) := by decide +kernel
theorem dX1_makeRoom_29 : decode cX1_makeRoom 29 = .ok (.iload_n 2, 1) := by decide +kernel
theorem dX1_makeRoom_30 : decode cX1_makeRoom 30 = .ok (.newarray .int, 2) := by decide +kernel
theorem dX1_makeRoom_32 : decode cX1_makeRoom 32 = .ok (.putfield 25, 3) := by decide +kernel
theorem dX1_makeRoom_35 : decode cX1_makeRoom 35 = .ok (.aload_n 0, 1) := by decide +kernel
theorem dX1_makeRoom_36 : decode cX1_makeRoom 36 = .ok (.iload_n 2, 1) := by decide +kernel
theorem dX1_makeRoom_37 : decode cX1_makeRoom 37 = .ok (.newarray .int, 2) := by decide +kernel
theorem dX1_makeRoom_39 : decode cX1_makeRoom 39 = .ok (.putfield 28, 3) := by decide +kernel
theorem dX1_makeRoom_42 : decode cX1_makeRoom 42 = .ok (.aload_n 0, 1) := by decide +kernel
theorem dX1_makeRoom_43 : decode cX1_makeRoom 43 = .ok (.iload_n 2, 1) := by decide +kernel
theorem dX1_makeRoom_44 : decode cX1_makeRoom 44 = .ok (.newarray .int, 2) := by decide +kernel
theorem dX1_makeRoom_46 : decode cX1_makeRoom 46 = .ok (.putfield 31, 3) := by decide +kernel
theorem dX1_makeRoom_49 : decode cX1_makeRoom 49 = .ok (.return_, 1) := by decide +kernel
theorem dX1_sort_0 : decode cX1_sort 0 = .ok (.aload_n 0, 1) := by decide +kernel
theorem dX1_sort_1 : decode cX1_sort 1 = .ok (.getfield 12, 3) := by decide +kernel
theorem dX1_sort_4 : decode cX1_sort 4 = .ok (.getfield 59, 3) := by decide +kernel
theorem dX1_sort_7 : decode cX1_sort 7 = .ok (.aload_n 0, 1) := by decide +kernel
theorem dX1_sort_8 : decode cX1_sort 8 = .ok (.getfield 18, 3) := by decide +kernel
theorem dX1_sort_11 : decode cX1_sort 11 = .ok (.arraylength, 1) := by decide +kernel
theorem dX1_sort_12 : decode cX1_sort 12 = .ok (.invokestatic 119, 3) := by decide +kernel
theorem dX1_sort_15 : decode cX1_sort 15 = .ok (.istore_n 1, 1) := by decide +kernel
theorem dX1_sort_16 : decode cX1_sort 16 = .ok (.iconst 0, 1) := by decide +kernel
theorem dX1_sort_17 : decode cX1_sort 17 = .ok (.istore_n 2, 1) := by decide +kernel
theorem dX1_sort_18 : decode cX1_sort 18 = .ok (.iload_n 2, 1) := by decide +kernel
theorem dX1_sort_19 : decode cX1_sort 19 = .ok (.iload_n 1, 1) := by decide +kernel
theorem dX1_sort_20 : decode cX1_sort 20 = .ok (.if_icmp .ge 16, 3) := by decide +kernel
theorem dX1_sort_23 : decode cX1_sort 23 = .ok (.aload_n 0, 1) := by decide +kernel
theorem dX1_sort_24 : decode cX1_sort 24 = .ok (.getfield 18, 3) := by decide +kernel
theorem dX1_sort_27 : decode cX1_sort 27 = .ok (.iload_n 2, 1) := by decide +kernel
theorem dX1_sort_28 : decode cX1_sort 28 = .ok (.iload_n 2, 1) := by decide +kernel
theorem dX1_sort_29 : decode cX1_sort 29 = .ok (.iastore, 1) := by decide +kernel
theorem dX1_sort_30 : decode cX1_sort 30 = .ok (.iinc 2 1, 3) := by decide +kernel
theorem dX1_sort_33 : decode cX1_sort 33 = .ok (.goto (-15), 3) := by decide +kernel
theorem dX1_sort_36 : decode cX1_sort 36 = .ok (.iconst 1, 1) := by decide +kernel
theorem dX1_sort_37 : decode cX1_sort 37 = .ok (.istore_n 2, 1) := by decide +kernel
theorem dX1_sort_38 : decode cX1_sort 38 = .ok (.iload_n 2, 1) := by decide +kernel
theorem dX1_sort_39 : decode cX1_sort 39 = .ok (.iload_n 1, 1) := by decide +kernel
theorem dX1_sort_40 : decode cX1_sort 40 = .ok (.if_icmp .ge 65, 3) := by decide +kernel
theorem dX1_sort_43 : decode cX1_sort 43 = .ok (.iconst 0, 1) := by decide +kernel
theorem dX1_sort_44 : decode cX1_sort 44 = .ok (.istore_n 3, 1) := by decide +kernel
theorem dX1_sort_45 : decode cX1_sort 45 = .ok (.iload_n 3, 1) := by decide +kernel
theorem dX1_sort_46 : decode cX1_sort 46 = .ok (.iload_n 1, 1) := by decide +kernel
theorem dX1_sort_47 : decode cX1_sort 47 = .ok (.if_icmp .ge 33, 3) := by decide +kernel
theorem dX1_sort_50 : decode cX1_sort 50 = .ok (.aload_n 0, 1) := by decide +kernel
theorem dX1_sort_51 : decode cX1_sort 51 = .ok (.iload_n 3, 1) := by decide +kernel
theorem dX1_sort_52 : decode cX1_sort 52 = .ok (.iload_n 3, 1) := by decide +kernel
theorem dX1_sort_53 : decode cX1_sort 53 = .ok (.iload_n 2, 1) := by decide +kernel
theorem dX1_sort_54 : decode cX1_sort 54 = .ok (.iadd, 1) := by decide +kernel
theorem dX1_sort_55 : decode cX1_sort 55 = .ok (.iload_n 1, 1) := by decide +kernel
theorem dX1_sort_56 : decode cX1_sort 56 = .ok (.invokestatic 119, 3) := by decide +kernel
theorem dX1_sort_59 : decode cX1_sort 59 = .ok (.iload_n 3, 1) := by decide +kernel
theorem dX1_sort_60 : decode cX1_sort 60 = .ok (.iconst 2, 1) := by decide +kernel
theorem dX1_sort_61 : decode cX1_sort 61 = .ok (.iload_n 2, 1) := by decide +kernel
theorem dX1_sort_62 : decode cX1_sort 62 = .ok (.imul, 1) := by decide +kernel
theorem dX1_sort_63 : decode cX1_sort 63 = .ok (.iadd, 1) := by decide +kernel
theorem dX1_sort_64 : decode cX1_sort 64 = .ok (.iload_n 1, 1) := by decide +kernel
theorem dX1_sort_65 : decode cX1_sort 65 = .ok (.invokestatic 119, 3) := by decide +kernel
theorem dX1_sort_68 : decode cX1_sort 68 = .ok (.invokevirtual 124, 3) := by decide +kernel
theorem dX1_sort_71 : decode cX1_sort 71 = .ok (.iload_n 3, 1) := by decide +kernel
theorem dX1_sort_72 : decode cX1_sort 72 = .ok (.iconst 2, 1) := by decide +kernel
theorem dX1_sort_73 : decode cX1_sort 73 = .ok (.iload_n 2, 1) := by decide +kernel
theorem dX1_sort_74 : decode cX1_sort 74 = .ok (.imul, 1) := by decide +kernel
theorem dX1_sort_75 : decode cX1_sort 75 = .ok (.iadd, 1) := by decide +kernel
theorem dX1_sort_76 : decode cX1_sort 76 = .ok (.istore_n 3, 1) := by decide +kernel
theorem dX1_sort_77 : decode cX1_sort 77 = .ok (.goto (-32), 3) := by decide +kernel
theorem dX1_sort_80 : decode cX1_sort 80 = .ok (.aload_n 0, 1) := by decide +kernel
theorem dX1_sort_81 : decode cX1_sort 81 = .ok (.getfield 22, 3) := by decide +kernel
theorem dX1_sort_84 : decode cX1_sort 84 = .ok (.astore_n 3, 1) := by decide +kernel
theorem dX1_sort_85 : decode cX1_sort 85 = .ok (.aload_n 0, 1) := by decide +kernel
theorem dX1_sort_86 : decode cX1_sort 86 = .ok (.aload_n 0, 1) := by decide +kernel
theorem dX1_sort_87 : decode cX1_sort 87 = .ok (.getfield 18, 3) := by decide +kernel
theorem dX1_sort_90 : decode cX1_sort 90 = .ok (.putfield 22, 3) := by decide +kernel
theorem dX1_sort_93 : decode cX1_sort 93 = .ok (.aload_n 0, 1) := by decide +kernel
theorem dX1_sort_94 : decode cX1_sort 94 = .ok (.aload_n 3, 1) := by decide +kernel
theorem dX1_sort_95 : decode cX1_sort 95 = .ok (.putfield 18, 3) := by decide +kernel
theorem dX1_sort_98 : decode cX1_sort 98 = .ok (.iload_n 2, 1) := by decide +kernel
theorem dX1_sort_99 : decode cX1_sort 99 = .ok (.iconst 2, 1) := by decide +kernel
theorem dX1_sort_100 : decode cX1_sort 100 = .ok (.imul, 1) := by decide +kernel
theorem dX1_sort_101 : decode cX1_sort 101 = .ok (.istore_n 2, 1) := by decide +kernel
theorem dX1_sort_102 : decode cX1_sort 102 = .ok (.goto (-64), 3) := by decide +kernel
theorem dX1_sort_105 : decode cX1_sort 105 = .ok (.return_, 1) := by decide +kernel
theorem dX1_merge_0 : decode cX1_merge 0 = .ok (.iload_n 1, 1) := by decide +kernel
theorem dX1_merge_1 : decode cX1_merge 1 = .ok (.istore 4, 2) := by decide +kernel
theorem dX1_merge_3 : decode cX1_merge 3 = .ok (.iload_n 2, 1) := by decide +kernel
theorem dX1_merge_4 : decode cX1_merge 4 = .ok (.istore 5, 2) := by decide +kernel
theorem dX1_merge_6 : decode cX1_merge 6 = .ok (.iload_n 1, 1) := by decide +kernel
theorem dX1_merge_7 : decode cX1_merge 7 = .ok (.istore 6, 2) := by decide +kernel
theorem dX1_merge_9 : decode cX1_merge 9 = .ok (.iload 6, 2) := by decide +kernel
theorem dX1_merge_11 : decode cX1_merge 11 = .ok (.iload_n 3, 1) := by decide +kernel
theorem dX1_merge_12 : decode cX1_merge 12 = .ok (.if_icmp .ge 104, 3) := by decide +kernel
theorem dX1_merge_15 : decode cX1_merge 15 = .ok (.iload 6, 2) := by decide +kernel
theorem dX1_merge_17 : decode cX1_merge 17 = .ok (.aload_n 0, 1) := by decide +kernel
theorem dX1_merge_18 : decode cX1_merge 18 = .ok (.getfield 22, 3) := by decide +kernel
theorem dX1_merge_21 : decode cX1_merge 21 = .ok (.arraylength, 1) := by decide +kernel
theorem dX1_merge_22 : decode cX1_merge 22 = .ok (.if_icmp .ge 94, 3) := by decide +kernel
theorem dX1_merge_25 : decode cX1_merge 25 = .ok (.iload 4, 2) := by decide +kernel
theorem dX1_merge_27 : decode cX1_merge 27 = .ok (.iload_n 2, 1) := by decide +kernel
theorem dX1_merge_28 : decode cX1_merge 28 = .ok (.if_icmp .ge 33, 3) := by decide +kernel
theorem dX1_merge_31 : decode cX1_merge 31 = .ok (.iload 5, 2) := by decide +kernel
theorem dX1_merge_33 : decode cX1_merge 33 = .ok (.iload_n 3, 1) := by decide +kernel
theorem dX1_merge_34 : decode cX1_merge 34 = .ok (.if_icmp .ge 31, 3) := by decide +kernel
theorem dX1_merge_37 : decode cX1_merge 37 = .ok (.aload_n 0, 1) := by decide +kernel
theorem dX1_merge_38 : decode cX1_merge 38 = .ok (.getfield 12, 3) := by decide +kernel
theorem dX1_merge_41 : decode cX1_merge 41 = .ok (.aload_n 0, 1) := by decide +kernel
theorem dX1_merge_42 : decode cX1_merge 42 = .ok (.getfield 18, 3) := by decide +kernel
theorem dX1_merge_45 : decode cX1_merge 45 = .ok (.iload 5, 2) := by decide +kernel
theorem dX1_merge_47 : decode cX1_merge 47 = .ok (.iaload, 1) := by decide +kernel
theorem dX1_merge_48 : decode cX1_merge 48 = .ok (.aload_n 0, 1) := by decide +kernel
theorem dX1_merge_49 : decode cX1_merge 49 = .ok (.getfield 18, 3) := by decide +kernel
theorem dX1_merge_52 : decode cX1_merge 52 = .ok (.iload 4, 2) := by decide +kernel
theorem dX1_merge_54 : decode cX1_merge 54 = .ok (.iaload, 1) := by decide +kernel
theorem dX1_merge_55 : decode cX1_merge 55 = .ok (.invokevirtual 93, 3) := by decide +kernel
theorem dX1_merge_58 : decode cX1_merge 58 = .ok (.ifCond .ge 7, 3) := by decide +kernel
theorem dX1_merge_61 : decode cX1_merge 61 = .ok (.iconst 1, 1) := by decide +kernel
theorem dX1_merge_62 : decode cX1_merge 62 = .ok (.goto 4, 3) := by decide +kernel
theorem dX1_merge_65 : decode cX1_merge 65 = .ok (.iconst 0, 1) := by decide +kernel
theorem dX1_merge_66 : decode cX1_merge 66 = .ok (.istore 7, 2) := by decide +kernel
theorem dX1_merge_68 : decode cX1_merge 68 = .ok (.iload 7, 2) := by decide +kernel
theorem dX1_merge_70 : decode cX1_merge 70 = .ok (.ifCond .eq 23, 3) := by decide +kernel
theorem dX1_merge_73 : decode cX1_merge 73 = .ok (.aload_n 0, 1) := by decide +kernel
theorem dX1_merge_74 : decode cX1_merge 74 = .ok (.getfield 22, 3) := by decide +kernel
theorem dX1_merge_77 : decode cX1_merge 77 = .ok (.iload 6, 2) := by decide +kernel
theorem dX1_merge_79 : decode cX1_merge 79 = .ok (.aload_n 0, 1) := by decide +kernel
theorem dX1_merge_80 : decode cX1_merge 80 = .ok (.getfield 18, 3) := by decide +kernel
theorem dX1_merge_83 : decode cX1_merge 83 = .ok (.iload 5, 2) := by decide +kernel
theorem dX1_merge_85 : decode cX1_merge 85 = .ok (.iaload, 1) := by decide +kernel
theorem dX1_merge_86 : decode cX1_merge 86 = .ok (.iastore, 1) := by decide +kernel
theorem dX1_merge_87 : decode cX1_merge 87 = .ok (.iinc 5 1, 3) := by decide +kernel
theorem dX1_merge_90 : decode cX1_merge 90 = .ok (.goto 20, 3) := by decide +kernel
theorem dX1_merge_93 : decode cX1_merge 93 = .ok (.aload_n 0, 1) := by decide +kernel
theorem dX1_merge_94 : decode cX1_merge 94 = .ok (.getfield 22, 3) := by decide +kernel
theorem dX1_merge_97 : decode cX1_merge 97 = .ok (.iload 6, 2) := by decide +kernel
theorem dX1_merge_99 : decode cX1_merge 99 = .ok (.aload_n 0, 1) := by decide +kernel
theorem dX1_merge_100 : decode cX1_merge 100 = .ok (.getfield 18, 3) := by decide +kernel
theorem dX1_merge_103 : decode cX1_merge 103 = .ok (.iload 4, 2) := by decide +kernel
theorem dX1_merge_105 : decode cX1_merge 105 = .ok (.iaload, 1) := by decide +kernel
theorem dX1_merge_106 : decode cX1_merge 106 = .ok (.iastore, 1) := by decide +kernel
theorem dX1_merge_107 : decode cX1_merge 107 = .ok (.iinc 4 1, 3) := by decide +kernel
theorem dX1_merge_110 : decode cX1_merge 110 = .ok (.iinc 6 1, 3) := by decide +kernel
theorem dX1_merge_113 : decode cX1_merge 113 = .ok (.goto (-104), 3) := by decide +kernel
theorem dX1_merge_116 : decode cX1_merge 116 = .ok (.return_, 1) := by decide +kernel
theorem dX1_nameParts_0 : decode cX1_nameParts 0 = .ok (.aload_n 0, 1) := by decide +kernel
theorem dX1_nameParts_1 : decode cX1_nameParts 1 = .ok (.iconst 0, 1) := by decide +kernel
theorem dX1_nameParts_2 : decode cX1_nameParts 2 = .ok (.putfield 38, 3) := by decide +kernel
theorem dX1_nameParts_5 : decode cX1_nameParts 5 = .ok (.iconst 0, 1) := by decide +kernel
theorem dX1_nameParts_6 : decode cX1_nameParts 6 = .ok (.istore_n 1, 1) := by decide +kernel
theorem dX1_nameParts_7 : decode cX1_nameParts 7 = .ok (.iload_n 1, 1) := by decide +kernel
theorem dX1_nameParts_8 : decode cX1_nameParts 8 = .ok (.aload_n 0, 1) := by decide +kernel
theorem dX1_nameParts_9 : decode cX1_nameParts 9 = .ok (.getfield 12, 3) := by decide +kernel
theorem dX1_nameParts_12 : decode cX1_nameParts 12 = .ok (.getfield 59, 3) := by decide +kernel
theorem dX1_nameParts_15 : decode cX1_nameParts 15 = .ok (.if_icmp .ge 83, 3) := by decide +kernel
theorem dX1_nameParts_18 : decode cX1_nameParts 18 = .ok (.iload_n 1, 1) := by decide +kernel
theorem dX1_nameParts_19 : decode cX1_nameParts 19 = .ok (.aload_n 0, 1) := by decide +kernel
theorem dX1_nameParts_20 : decode cX1_nameParts 20 = .ok (.getfield 18, 3) := by decide +kernel
theorem dX1_nameParts_23 : decode cX1_nameParts 23 = .ok (.arraylength, 1) := by decide +kernel
theorem dX1_nameParts_24 : decode cX1_nameParts 24 = .ok (.if_icmp .ge 74, 3) := by decide +kernel
theorem dX1_nameParts_27 : decode cX1_nameParts 27 = .ok (.aload_n 0, 1) := by decide +kernel
theorem dX1_nameParts_28 : decode cX1_nameParts 28 = .ok (.getfield 18, 3) := by decide +kernel
theorem dX1_nameParts_31 : decode cX1_nameParts 31 = .ok (.iload_n 1, 1) := by decide +kernel
theorem dX1_nameParts_32 : decode cX1_nameParts 32 = .ok (.iaload, 1) := by decide +kernel
theorem dX1_nameParts_33 : decode cX1_nameParts 33 = .ok (.istore_n 2, 1) := by decide +kernel
theorem dX1_nameParts_34 : decode cX1_nameParts 34 = .ok (.iload_n 1, 1) := by decide +kernel
theorem dX1_nameParts_35 : decode cX1_nameParts 35 = .ok (.ifCond .eq 22, 3) := by decide +kernel
theorem dX1_nameParts_38 : decode cX1_nameParts 38 = .ok (.aload_n 0, 1) := by decide +kernel
theorem dX1_nameParts_39 : decode cX1_nameParts 39 = .ok (.getfield 12, 3) := by decide +kernel
theorem dX1_nameParts_42 : decode cX1_nameParts 42 = .ok (.aload_n 0, 1) := by decide +kernel
theorem dX1_nameParts_43 : decode cX1_nameParts 43 = .ok (.getfield 18, 3) := by decide +kernel
theorem dX1_nameParts_46 : decode cX1_nameParts 46 = .ok (.iload_n 1, 1) := by decide +kernel
theorem dX1_nameParts_47 : decode cX1_nameParts 47 = .ok (.iconst 1, 1) := by decide +kernel
theorem dX1_nameParts_48 : decode cX1_nameParts 48 = .ok (.isub, 1) := by decide +kernel
theorem dX1_nameParts_49 : decode cX1_nameParts 49 = .ok (.iaload, 1) := by decide +kernel
theorem dX1_nameParts_50 : decode cX1_nameParts 50 = .ok (.iload_n 2, 1) := by decide +kernel
theorem dX1_nameParts_51 : decode cX1_nameParts 51 = .ok (.invokevirtual 93, 3) := by decide +kernel
theorem dX1_nameParts_54 : decode cX1_nameParts 54 = .ok (.ifCond .eq 13, 3) := by decide +kernel
theorem dX1_nameParts_57 : decode cX1_nameParts 57 = .ok (.aload_n 0, 1) := by decide +kernel
theorem dX1_nameParts_58 : decode cX1_nameParts 58 = .ok (.dup, 1) := by decide +kernel
theorem dX1_nameParts_59 : decode cX1_nameParts 59 = .ok (.getfield 38, 3) := by decide +kernel
theorem dX1_nameParts_62 : decode cX1_nameParts 62 = .ok (.iconst 1, 1) := by decide +kernel
theorem dX1_nameParts_63 : decode cX1_nameParts 63 = .ok (.iadd, 1) := by decide +kernel
theorem dX1_nameParts_64 : decode cX1_nameParts 64 = .ok (.putfield 38, 3) := by decide +kernel
theorem dX1_nameParts_67 : decode cX1_nameParts 67 = .ok (.iload_n 2, 1) := by decide +kernel
theorem dX1_nameParts_68 : decode cX1_nameParts 68 = .ok (.ifCond .lt 24, 3) := by decide +kernel
theorem dX1_nameParts_71 : decode cX1_nameParts 71 = .ok (.iload_n 2, 1) := by decide +kernel
theorem dX1_nameParts_72 : decode cX1_nameParts 72 = .ok (.aload_n 0, 1) := by decide +kernel
theorem dX1_nameParts_73 : decode cX1_nameParts 73 = .ok (.getfield 28, 3) := by decide +kernel
theorem dX1_nameParts_76 : decode cX1_nameParts 76 = .ok (.arraylength, 1) := by decide +kernel
theorem dX1_nameParts_77 : decode cX1_nameParts 77 = .ok (.if_icmp .ge 15, 3) := by decide +kernel
theorem dX1_nameParts_80 : decode cX1_nameParts 80 = .ok (.aload_n 0, 1) := by decide +kernel
theorem dX1_nameParts_81 : decode cX1_nameParts 81 = .ok (.getfield 28, 3) := by decide +kernel
theorem dX1_nameParts_84 : decode cX1_nameParts 84 = .ok (.iload_n 2, 1) := by decide +kernel
theorem dX1_nameParts_85 : decode cX1_nameParts 85 = .ok (.aload_n 0, 1) := by decide +kernel
theorem dX1_nameParts_86 : decode cX1_nameParts 86 = .ok (.getfield 38, 3) := by decide +kernel
theorem dX1_nameParts_89 : decode cX1_nameParts 89 = .ok (.iconst 1, 1) := by decide +kernel
theorem dX1_nameParts_90 : decode cX1_nameParts 90 = .ok (.isub, 1) := by decide +kernel
theorem dX1_nameParts_91 : decode cX1_nameParts 91 = .ok (.iastore, 1) := by decide +kernel
theorem dX1_nameParts_92 : decode cX1_nameParts 92 = .ok (.iinc 1 1, 3) := by decide +kernel
theorem dX1_nameParts_95 : decode cX1_nameParts 95 = .ok (.goto (-88), 3) := by decide +kernel
theorem dX1_nameParts_98 : decode cX1_nameParts 98 = .ok (.aload_n 0, 1) := by decide +kernel
theorem dX1_nameParts_99 : decode cX1_nameParts 99 = .ok (.getfield 42, 3) := by decide +kernel
theorem dX1_nameParts_102 : decode cX1_nameParts 102 = .ok (.getfield 56, 3) := by decide +kernel
theorem dX1_nameParts_105 : decode cX1_nameParts 105 = .ok (.getfield 59, 3) := by decide +kernel
theorem dX1_nameParts_108 : decode cX1_nameParts 108 = .ok (.iconst 1, 1) := by decide +kernel
theorem dX1_nameParts_109 : decode cX1_nameParts 109 = .ok (.isub, 1) := by decide +kernel
theorem dX1_nameParts_110 : decode cX1_nameParts 110 = .ok (.istore_n 1, 1) := by decide +kernel
theorem dX1_nameParts_111 : decode cX1_nameParts 111 = .ok (.iload_n 1, 1) := by decide +kernel
theorem dX1_nameParts_112 : decode cX1_nameParts 112 = .ok (.ifCond .lt 35, 3) := by decide +kernel
theorem dX1_nameParts_115 : decode cX1_nameParts 115 = .ok (.aload_n 0, 1) := by decide +kernel
theorem dX1_nameParts_116 : decode cX1_nameParts 116 = .ok (.iload_n 1, 1) := by decide +kernel
theorem dX1_nameParts_117 : decode cX1_nameParts 117 = .ok (.invokevirtual 106, 3) := by decide +kernel
theorem dX1_nameParts_120 : decode cX1_nameParts 120 = .ok (.istore_n 2, 1) := by decide +kernel
theorem dX1_nameParts_121 : decode cX1_nameParts 121 = .ok (.iload_n 2, 1) := by decide +kernel
theorem dX1_nameParts_122 : decode cX1_nameParts 122 = .ok (.ifCond .lt 19, 3) := by decide +kernel
theorem dX1_nameParts_125 : decode cX1_nameParts 125 = .ok (.iload_n 2, 1) := by decide +kernel
theorem dX1_nameParts_126 : decode cX1_nameParts 126 = .ok (.aload_n 0, 1) := by decide +kernel
theorem dX1_nameParts_127 : decode cX1_nameParts 127 = .ok (.getfield 31, 3) := by decide +kernel
theorem dX1_nameParts_130 : decode cX1_nameParts 130 = .ok (.arraylength, 1) := by decide +kernel
theorem dX1_nameParts_131 : decode cX1_nameParts 131 = .ok (.if_icmp .ge 10, 3) := by decide +kernel
theorem dX1_nameParts_134 : decode cX1_nameParts 134 = .ok (.aload_n 0, 1) := by decide +kernel
theorem dX1_nameParts_135 : decode cX1_nameParts 135 = .ok (.getfield 31, 3) := by decide +kernel
theorem dX1_nameParts_138 : decode cX1_nameParts 138 = .ok (.iload_n 2, 1) := by decide +kernel
theorem dX1_nameParts_139 : decode cX1_nameParts 139 = .ok (.iload_n 1, 1) := by decide +kernel
theorem dX1_nameParts_140 : decode cX1_nameParts 140 = .ok (.iastore, 1) := by decide +kernel
theorem dX1_nameParts_141 : decode cX1_nameParts 141 = .ok (.iinc 1 (-1), 3) := by decide +kernel
theorem dX1_nameParts_144 : decode cX1_nameParts 144 = .ok (.goto (-33), 3) := by decide +kernel
theorem dX1_nameParts_147 : decode cX1_nameParts 147 = .ok (.return_, 1) := by decide +kernel
theorem dX10_init_0 : decode cX10_init 0 = .ok (.aload_n 0, 1) := by decide +kernel
theorem dX10_init_1 : decode cX10_init 1 = .ok (.invokespecial 3, 3) := by decide +kernel
theorem dX10_init_4 : decode cX10_init 4 = .ok (.aload_n 0, 1) := by decide +kernel
theorem dX10_init_5 : decode cX10_init 5 = .ok (.new 9, 3) := by decide +kernel
theorem dX10_init_8 : decode cX10_init 8 = .ok (.dup, 1) := by decide +kernel
theorem dX10_init_9 : decode cX10_init 9 = .ok (.invokespecial 11, 3) := by decide +kernel
theorem dX10_init_12 : decode cX10_init 12 = .ok (.putfield 12, 3) := by decide +kernel
theorem dX10_init_15 : decode cX10_init 15 = .ok (.aload_n 0, 1) := by decide +kernel
theorem dX10_init_16 : decode cX10_init 16 = .ok (.new 16, 3) := by decide +kernel
theorem dX10_init_19 : decode cX10_init 19 = .ok (.dup, 1) := by decide +kernel
theorem dX10_init_20 : decode cX10_init 20 = .ok (.invokespecial 18, 3) := by decide +kernel
theorem dX10_init_23 : decode cX10_init 23 = .ok (.putfield 19, 3) := by decide +kernel
theorem dX10_init_26 : decode cX10_init 26 = .ok (.aload_n 0, 1) := by decide +kernel
theorem dX10_init_27 : decode cX10_init 27 = .ok (.new 23, 3) := by decide +kernel
theorem dX10_init_30 : decode cX10_init 30 = .ok (.dup, 1) := by decide +kernel
theorem dX10_init_31 : decode cX10_init 31 = .ok (.invokespecial 25, 3) := by decide +kernel
