theorem dX11_fill_37 : decode cX11_fill 37 = .ok (.iload_n 2, 1) := by decide +kernel
theorem dX11_fill_38 : decode cX11_fill 38 = .ok (.ireturn, 1) := by decide +kernel
theorem dX11_nextRow_0 : decode cX11_nextRow 0 = .ok (.iload_n 1, 1) := by decide +kernel
theorem dX11_nextRow_1 : decode cX11_nextRow 1 = .ok (.iconst 1, 1) := by decide +kernel
theorem dX11_nextRow_2 : decode cX11_nextRow 2 = .ok (.isub, 1) := by decide +kernel
theorem dX11_nextRow_3 : decode cX11_nextRow 3 = .ok (.istore_n 2, 1) := by decide +kernel
theorem dX11_nextRow_4 : decode cX11_nextRow 4 = .ok (.iload_n 2, 1) := by decide +kernel
theorem dX11_nextRow_5 : decode cX11_nextRow 5 = .ok (.ifCond .lt 45, 3) := by decide +kernel
theorem dX11_nextRow_8 : decode cX11_nextRow 8 = .ok (.aload_n 0, 1) := by decide +kernel
theorem dX11_nextRow_9 : decode cX11_nextRow 9 = .ok (.iload_n 2, 1) := by decide +kernel
theorem dX11_nextRow_10 : decode cX11_nextRow 10 = .ok (.invokevirtual 182, 3) := by decide +kernel
theorem dX11_nextRow_13 : decode cX11_nextRow 13 = .ok (.aload_n 0, 1) := by decide +kernel
theorem dX11_nextRow_14 : decode cX11_nextRow 14 = .ok (.aload_n 0, 1) := by decide +kernel
theorem dX11_nextRow_15 : decode cX11_nextRow 15 = .ok (.getfield 93, 3) := by decide +kernel
theorem dX11_nextRow_18 : decode cX11_nextRow 18 = .ok (.iload_n 2, 1) := by decide +kernel
theorem dX11_nextRow_19 : decode cX11_nextRow 19 = .ok (.iaload, 1) := by decide +kernel
theorem dX11_nextRow_20 : decode cX11_nextRow 20 = .ok (.invokevirtual 186, 3) := by decide +kernel
theorem dX11_nextRow_23 : decode cX11_nextRow 23 = .ok (.istore_n 3, 1) := by decide +kernel
theorem dX11_nextRow_24 : decode cX11_nextRow 24 = .ok (.iload_n 3, 1) := by decide +kernel
theorem dX11_nextRow_25 : decode cX11_nextRow 25 = .ok (.iconst (-1), 1) := by decide +kernel
theorem dX11_nextRow_26 : decode cX11_nextRow 26 = .ok (.if_icmp .eq 18, 3) := by decide +kernel
theorem dX11_nextRow_29 : decode cX11_nextRow 29 = .ok (.aload_n 0, 1) := by decide +kernel
theorem dX11_nextRow_30 : decode cX11_nextRow 30 = .ok (.getfield 93, 3) := by decide +kernel
theorem dX11_nextRow_33 : decode cX11_nextRow 33 = .ok (.iload_n 2, 1) := by decide +kernel
theorem dX11_nextRow_34 : decode cX11_nextRow 34 = .ok (.iload_n 3, 1) := by decide +kernel
theorem dX11_nextRow_35 : decode cX11_nextRow 35 = .ok (.iastore, 1) := by decide +kernel
theorem dX11_nextRow_36 : decode cX11_nextRow 36 = .ok (.aload_n 0, 1) := by decide +kernel
theorem dX11_nextRow_37 : decode cX11_nextRow 37 = .ok (.iload_n 2, 1) := by decide +kernel
theorem dX11_nextRow_38 : decode cX11_nextRow 38 = .ok (.iconst 1, 1) := by decide +kernel
theorem dX11_nextRow_39 : decode cX11_nextRow 39 = .ok (.iadd, 1) := by decide +kernel
theorem dX11_nextRow_40 : decode cX11_nextRow 40 = .ok (.invokevirtual 190, 3) := by decide +kernel
theorem dX11_nextRow_43 : decode cX11_nextRow 43 = .ok (.ireturn, 1) := by decide +kernel
theorem dX11_nextRow_44 : decode cX11_nextRow 44 = .ok (.iinc 2 (-1), 3) := by decide +kernel
theorem dX11_nextRow_47 : decode cX11_nextRow 47 = .ok (.goto (-43), 3) := by decide +kernel
theorem dX11_nextRow_50 : decode cX11_nextRow 50 = .ok (.iconst (-1), 1) := by decide +kernel
theorem dX11_nextRow_51 : decode cX11_nextRow 51 = .ok (.ireturn, 1) := by decide +kernel
theorem dX11_load_0 : decode cX11_load 0 = .ok (.iconst 0, 1) := by decide +kernel
theorem dX11_load_1 : decode cX11_load 1 = .ok (.istore_n 2, 1) := by decide +kernel
theorem dX11_load_2 : decode cX11_load 2 = .ok (.iload_n 2, 1) := by decide +kernel
theorem dX11_load_3 : decode cX11_load 3 = .ok (.aload_n 0, 1) := by decide +kernel
theorem dX11_load_4 : decode cX11_load 4 = .ok (.getfield 64, 3) := by decide +kernel
theorem dX11_load_7 : decode cX11_load 7 = .ok (.iload_n 1, 1) := by decide +kernel
theorem dX11_load_8 : decode cX11_load 8 = .ok (.baload, 1) := by decide +kernel
theorem dX11_load_9 : decode cX11_load 9 = .ok (.if_icmp .ge 26, 3) := by decide +kernel
theorem dX11_load_12 : decode cX11_load 12 = .ok (.aload_n 0, 1) := by decide +kernel
theorem dX11_load_13 : decode cX11_load 13 = .ok (.getfield 93, 3) := by decide +kernel
theorem dX11_load_16 : decode cX11_load 16 = .ok (.iload_n 2, 1) := by decide +kernel
theorem dX11_load_17 : decode cX11_load 17 = .ok (.aload_n 0, 1) := by decide +kernel
theorem dX11_load_18 : decode cX11_load 18 = .ok (.getfield 60, 3) := by decide +kernel
theorem dX11_load_21 : decode cX11_load 21 = .ok (.bipush 22, 2) := by decide +kernel
theorem dX11_load_23 : decode cX11_load 23 = .ok (.iload_n 1, 1) := by decide +kernel
theorem dX11_load_24 : decode cX11_load 24 = .ok (.imul, 1) := by decide +kernel
theorem dX11_load_25 : decode cX11_load 25 = .ok (.iload_n 2, 1) := by decide +kernel
theorem dX11_load_26 : decode cX11_load 26 = .ok (.iadd, 1) := by decide +kernel
theorem dX11_load_27 : decode cX11_load 27 = .ok (.baload, 1) := by decide +kernel
theorem dX11_load_28 : decode cX11_load 28 = .ok (.iastore, 1) := by decide +kernel
theorem dX11_load_29 : decode cX11_load 29 = .ok (.iinc 2 1, 3) := by decide +kernel
theorem dX11_load_32 : decode cX11_load 32 = .ok (.goto (-30), 3) := by decide +kernel
theorem dX11_load_35 : decode cX11_load 35 = .ok (.aload_n 0, 1) := by decide +kernel
theorem dX11_load_36 : decode cX11_load 36 = .ok (.aload_n 0, 1) := by decide +kernel
theorem dX11_load_37 : decode cX11_load 37 = .ok (.getfield 64, 3) := by decide +kernel
theorem dX11_load_40 : decode cX11_load 40 = .ok (.iload_n 1, 1) := by decide +kernel
theorem dX11_load_41 : decode cX11_load 41 = .ok (.baload, 1) := by decide +kernel
theorem dX11_load_42 : decode cX11_load 42 = .ok (.invokevirtual 182, 3) := by decide +kernel
theorem dX11_load_45 : decode cX11_load 45 = .ok (.return_, 1) := by decide +kernel
theorem dX11_isSuch_0 : decode cX11_isSuch 0 = .ok (.aload_n 0, 1) := by decide +kernel
theorem dX11_isSuch_1 : decode cX11_isSuch 1 = .ok (.aload_n 0, 1) := by decide +kernel
theorem dX11_isSuch_2 : decode cX11_isSuch 2 = .ok (.getfield 96, 3) := by decide +kernel
theorem dX11_isSuch_5 : decode cX11_isSuch 5 = .ok (.iload_n 1, 1) := by decide +kernel
theorem dX11_isSuch_6 : decode cX11_isSuch 6 = .ok (.iaload, 1) := by decide +kernel
theorem dX11_isSuch_7 : decode cX11_isSuch 7 = .ok (.aload_n 0, 1) := by decide +kernel
theorem dX11_isSuch_8 : decode cX11_isSuch 8 = .ok (.getfield 32, 3) := by decide +kernel
theorem dX11_isSuch_11 : decode cX11_isSuch 11 = .ok (.iload_n 2, 1) := by decide +kernel
theorem dX11_isSuch_12 : decode cX11_isSuch 12 = .ok (.iaload, 1) := by decide +kernel
theorem dX11_isSuch_13 : decode cX11_isSuch 13 = .ok (.invokevirtual 175, 3) := by decide +kernel
theorem dX11_isSuch_16 : decode cX11_isSuch 16 = .ok (.ireturn, 1) := by decide +kernel
theorem dX11_holdsRing_0 : decode cX11_holdsRing 0 = .ok (.iconst 0, 1) := by decide +kernel
theorem dX11_holdsRing_1 : decode cX11_holdsRing 1 = .ok (.istore_n 2, 1) := by decide +kernel
theorem dX11_holdsRing_2 : decode cX11_holdsRing 2 = .ok (.iload_n 2, 1) := by decide +kernel
theorem dX11_holdsRing_3 : decode cX11_holdsRing 3 = .ok (.bipush 25, 2) := by decide +kernel
theorem dX11_holdsRing_5 : decode cX11_holdsRing 5 = .ok (.if_icmp .ge 16, 3) := by decide +kernel
theorem dX11_holdsRing_8 : decode cX11_holdsRing 8 = .ok (.aload_n 0, 1) := by decide +kernel
theorem dX11_holdsRing_9 : decode cX11_holdsRing 9 = .ok (.getfield 105, 3) := by decide +kernel
theorem dX11_holdsRing_12 : decode cX11_holdsRing 12 = .ok (.iload_n 2, 1) := by decide +kernel
theorem dX11_holdsRing_13 : decode cX11_holdsRing 13 = .ok (.iconst 0, 1) := by decide +kernel
theorem dX11_holdsRing_14 : decode cX11_holdsRing 14 = .ok (.bastore, 1) := by decide +kernel
theorem dX11_holdsRing_15 : decode cX11_holdsRing 15 = .ok (.iinc 2 1, 3) := by decide +kernel
theorem dX11_holdsRing_18 : decode cX11_holdsRing 18 = .ok (.goto (-16), 3) := by decide +kernel
theorem dX11_holdsRing_21 : decode cX11_holdsRing 21 = .ok (.iconst 0, 1) := by decide +kernel
theorem dX11_holdsRing_22 : decode cX11_holdsRing 22 = .ok (.istore_n 2, 1) := by decide +kernel
theorem dX11_holdsRing_23 : decode cX11_holdsRing 23 = .ok (.iload_n 2, 1) := by decide +kernel
theorem dX11_holdsRing_24 : decode cX11_holdsRing 24 = .ok (.aload_n 0, 1) := by decide +kernel
theorem dX11_holdsRing_25 : decode cX11_holdsRing 25 = .ok (.getfield 162, 3) := by decide +kernel
theorem dX11_holdsRing_28 : decode cX11_holdsRing 28 = .ok (.if_icmp .ge 96, 3) := by decide +kernel
theorem dX11_holdsRing_31 : decode cX11_holdsRing 31 = .ok (.aload_n 0, 1) := by decide +kernel
theorem dX11_holdsRing_32 : decode cX11_holdsRing 32 = .ok (.iload_n 2, 1) := by decide +kernel
theorem dX11_holdsRing_33 : decode cX11_holdsRing 33 = .ok (.iload_n 1, 1) := by decide +kernel
theorem dX11_holdsRing_34 : decode cX11_holdsRing 34 = .ok (.invokevirtual 193, 3) := by decide +kernel
theorem dX11_holdsRing_37 : decode cX11_holdsRing 37 = .ok (.ifCond .eq 81, 3) := by decide +kernel
theorem dX11_holdsRing_40 : decode cX11_holdsRing 40 = .ok (.aload_n 0, 1) := by decide +kernel
theorem dX11_holdsRing_41 : decode cX11_holdsRing 41 = .ok (.getfield 102, 3) := by decide +kernel
theorem dX11_holdsRing_44 : decode cX11_holdsRing 44 = .ok (.iconst 4, 1) := by decide +kernel
theorem dX11_holdsRing_45 : decode cX11_holdsRing 45 = .ok (.iload_n 2, 1) := by decide +kernel
theorem dX11_holdsRing_46 : decode cX11_holdsRing 46 = .ok (.imul, 1) := by decide +kernel
theorem dX11_holdsRing_47 : decode cX11_holdsRing 47 = .ok (.aload_n 0, 1) := by decide +kernel
theorem dX11_holdsRing_48 : decode cX11_holdsRing 48 = .ok (.getfield 35, 3) := by decide +kernel
theorem dX11_holdsRing_51 : decode cX11_holdsRing 51 = .ok (.iload_n 1, 1) := by decide +kernel
theorem dX11_holdsRing_52 : decode cX11_holdsRing 52 = .ok (.iaload, 1) := by decide +kernel
theorem dX11_holdsRing_53 : decode cX11_holdsRing 53 = .ok (.iadd, 1) := by decide +kernel
theorem dX11_holdsRing_54 : decode cX11_holdsRing 54 = .ok (.iaload, 1) := by decide +kernel
theorem dX11_holdsRing_55 : decode cX11_holdsRing 55 = .ok (.istore_n 3, 1) := by decide +kernel
theorem dX11_holdsRing_56 : decode cX11_holdsRing 56 = .ok (.iload_n 3, 1) := by decide +kernel
theorem dX11_holdsRing_57 : decode cX11_holdsRing 57 = .ok (.iconst (-1), 1) := by decide +kernel
theorem dX11_holdsRing_58 : decode cX11_holdsRing 58 = .ok (.if_icmp .eq 14, 3) := by decide +kernel
theorem dX11_holdsRing_61 : decode cX11_holdsRing 61 = .ok (.aload_n 0, 1) := by decide +kernel
theorem dX11_holdsRing_62 : decode cX11_holdsRing 62 = .ok (.getfield 105, 3) := by decide +kernel
theorem dX11_holdsRing_65 : decode cX11_holdsRing 65 = .ok (.iconst 5, 1) := by decide +kernel
theorem dX11_holdsRing_66 : decode cX11_holdsRing 66 = .ok (.iload_n 2, 1) := by decide +kernel
theorem dX11_holdsRing_67 : decode cX11_holdsRing 67 = .ok (.imul, 1) := by decide +kernel
theorem dX11_holdsRing_68 : decode cX11_holdsRing 68 = .ok (.iload_n 3, 1) := by decide +kernel
theorem dX11_holdsRing_69 : decode cX11_holdsRing 69 = .ok (.iadd, 1) := by decide +kernel
theorem dX11_holdsRing_70 : decode cX11_holdsRing 70 = .ok (.iconst 1, 1) := by decide +kernel
theorem dX11_holdsRing_71 : decode cX11_holdsRing 71 = .ok (.bastore, 1) := by decide +kernel
theorem dX11_holdsRing_72 : decode cX11_holdsRing 72 = .ok (.aload_n 0, 1) := by decide +kernel
theorem dX11_holdsRing_73 : decode cX11_holdsRing 73 = .ok (.getfield 38, 3) := by decide +kernel
theorem dX11_holdsRing_76 : decode cX11_holdsRing 76 = .ok (.iload_n 1, 1) := by decide +kernel
theorem dX11_holdsRing_77 : decode cX11_holdsRing 77 = .ok (.iaload, 1) := by decide +kernel
theorem dX11_holdsRing_78 : decode cX11_holdsRing 78 = .ok (.iconst (-1), 1) := by decide +kernel
theorem dX11_holdsRing_79 : decode cX11_holdsRing 79 = .ok (.if_icmp .ne 7, 3) := by decide +kernel
theorem dX11_holdsRing_82 : decode cX11_holdsRing 82 = .ok (.iconst (-1), 1) := by decide +kernel
theorem dX11_holdsRing_83 : decode cX11_holdsRing 83 = .ok (.goto 18, 3) := by decide +kernel
theorem dX11_holdsRing_86 : decode cX11_holdsRing 86 = .ok (.aload_n 0, 1) := by decide +kernel
theorem dX11_holdsRing_87 : decode cX11_holdsRing 87 = .ok (.getfield 102, 3) := by decide +kernel
theorem dX11_holdsRing_90 : decode cX11_holdsRing 90 = .ok (.iconst 4, 1) := by decide +kernel
theorem dX11_holdsRing_91 : decode cX11_holdsRing 91 = .ok (.iload_n 2, 1) := by decide +kernel
theorem dX11_holdsRing_92 : decode cX11_holdsRing 92 = .ok (.imul, 1) := by decide +kernel
theorem dX11_holdsRing_93 : decode cX11_holdsRing 93 = .ok (.aload_n 0, 1) := by decide +kernel
theorem dX11_holdsRing_94 : decode cX11_holdsRing 94 = .ok (.getfield 38, 3) := by decide +kernel
theorem dX11_holdsRing_97 : decode cX11_holdsRing 97 = .ok (.iload_n 1, 1) := by decide +kernel
theorem dX11_holdsRing_98 : decode cX11_holdsRing 98 = .ok (.iaload, 1) := by decide +kernel
theorem dX11_holdsRing_99 : decode cX11_holdsRing 99 = .ok (.iadd, 1) := by decide +kernel
theorem dX11_holdsRing_100 : decode cX11_holdsRing 100 = .ok (.iaload, 1) := by decide +kernel
theorem dX11_holdsRing_101 : decode cX11_holdsRing 101 = .ok (.istore_n 3, 1) := by decide +kernel
theorem dX11_holdsRing_102 : decode cX11_holdsRing 102 = .ok (.iload_n 3, 1) := by decide +kernel
theorem dX11_holdsRing_103 : decode cX11_holdsRing 103 = .ok (.iconst (-1), 1) := by decide +kernel
theorem dX11_holdsRing_104 : decode cX11_holdsRing 104 = .ok (.if_icmp .eq 14, 3) := by decide +kernel
theorem dX11_holdsRing_107 : decode cX11_holdsRing 107 = .ok (.aload_n 0, 1) := by decide +kernel
theorem dX11_holdsRing_108 : decode cX11_holdsRing 108 = .ok (.getfield 105, 3) := by decide +kernel
theorem dX11_holdsRing_111 : decode cX11_holdsRing 111 = .ok (.iconst 5, 1) := by decide +kernel
theorem dX11_holdsRing_112 : decode cX11_holdsRing 112 = .ok (.iload_n 2, 1) := by decide +kernel
theorem dX11_holdsRing_113 : decode cX11_holdsRing 113 = .ok (.imul, 1) := by decide +kernel
theorem dX11_holdsRing_114 : decode cX11_holdsRing 114 = .ok (.iload_n 3, 1) := by decide +kernel
theorem dX11_holdsRing_115 : decode cX11_holdsRing 115 = .ok (.iadd, 1) := by decide +kernel
theorem dX11_holdsRing_116 : decode cX11_holdsRing 116 = .ok (.iconst 1, 1) := by decide +kernel
theorem dX11_holdsRing_117 : decode cX11_holdsRing 117 = .ok (.bastore, 1) := by decide +kernel
theorem dX11_holdsRing_118 : decode cX11_holdsRing 118 = .ok (.iinc 2 1, 3) := by decide +kernel
theorem dX11_holdsRing_121 : decode cX11_holdsRing 121 = .ok (.goto (-98), 3) := by decide +kernel
theorem dX11_holdsRing_124 : decode cX11_holdsRing 124 = .ok (.iconst 0, 1) := by decide +kernel
theorem dX11_holdsRing_125 : decode cX11_holdsRing 125 = .ok (.istore_n 2, 1) := by decide +kernel
theorem dX11_holdsRing_126 : decode cX11_holdsRing 126 = .ok (.iload_n 2, 1) := by decide +kernel
theorem dX11_holdsRing_127 : decode cX11_holdsRing 127 = .ok (.aload_n 0, 1) := by decide +kernel
theorem dX11_holdsRing_128 : decode cX11_holdsRing 128 = .ok (.getfield 162, 3) := by decide +kernel
theorem dX11_holdsRing_131 : decode cX11_holdsRing 131 = .ok (.if_icmp .ge 100, 3) := by decide +kernel
theorem dX11_holdsRing_134 : decode cX11_holdsRing 134 = .ok (.iconst 0, 1) := by decide +kernel
theorem dX11_holdsRing_135 : decode cX11_holdsRing 135 = .ok (.istore_n 3, 1) := by decide +kernel
theorem dX11_holdsRing_136 : decode cX11_holdsRing 136 = .ok (.iload_n 3, 1) := by decide +kernel
theorem dX11_holdsRing_137 : decode cX11_holdsRing 137 = .ok (.aload_n 0, 1) := by decide +kernel
theorem dX11_holdsRing_138 : decode cX11_holdsRing 138 = .ok (.getfield 162, 3) := by decide +kernel
theorem dX11_holdsRing_141 : decode cX11_holdsRing 141 = .ok (.if_icmp .ge 84, 3) := by decide +kernel
theorem dX11_holdsRing_144 : decode cX11_holdsRing 144 = .ok (.iconst 0, 1) := by decide +kernel
theorem dX11_holdsRing_145 : decode cX11_holdsRing 145 = .ok (.istore 4, 2) := by decide +kernel
theorem dX11_holdsRing_147 : decode cX11_holdsRing 147 = .ok (.iload 4, 2) := by decide +kernel
theorem dX11_holdsRing_149 : decode cX11_holdsRing 149 = .ok (.aload_n 0, 1) := by decide +kernel
theorem dX11_holdsRing_150 : decode cX11_holdsRing 150 = .ok (.getfield 162, 3) := by decide +kernel
theorem dX11_holdsRing_153 : decode cX11_holdsRing 153 = .ok (.if_icmp .ge 66, 3) := by decide +kernel
theorem dX11_holdsRing_156 : decode cX11_holdsRing 156 = .ok (.aload_n 0, 1) := by decide +kernel
theorem dX11_holdsRing_157 : decode cX11_holdsRing 157 = .ok (.getfield 105, 3) := by decide +kernel
theorem dX11_holdsRing_160 : decode cX11_holdsRing 160 = .ok (.iconst 5, 1) := by decide +kernel
theorem dX11_holdsRing_161 : decode cX11_holdsRing 161 = .ok (.iload_n 3, 1) := by decide +kernel
theorem dX11_holdsRing_162 : decode cX11_holdsRing 162 = .ok (.imul, 1) := by decide +kernel
theorem dX11_holdsRing_163 : decode cX11_holdsRing 163 = .ok (.iload 4, 2) := by decide +kernel
theorem dX11_holdsRing_165 : decode cX11_holdsRing 165 = .ok (.iadd, 1) := by decide +kernel
theorem dX11_holdsRing_166 : decode cX11_holdsRing 166 = .ok (.aload_n 0, 1) := by decide +kernel
theorem dX11_holdsRing_167 : decode cX11_holdsRing 167 = .ok (.getfield 105, 3) := by decide +kernel
theorem dX11_holdsRing_170 : decode cX11_holdsRing 170 = .ok (.iconst 5, 1) := by decide +kernel
theorem dX11_holdsRing_171 : decode cX11_holdsRing 171 = .ok (.iload_n 3, 1) := by decide +kernel
theorem dX11_holdsRing_172 : decode cX11_holdsRing 172 = .ok (.imul, 1) := by decide +kernel
theorem dX11_holdsRing_173 : decode cX11_holdsRing 173 = .ok (.iload 4, 2) := by decide +kernel
theorem dX11_holdsRing_175 : decode cX11_holdsRing 175 = .ok (.iadd, 1) := by decide +kernel
theorem dX11_holdsRing_176 : decode cX11_holdsRing 176 = .ok (.baload, 1) := by decide +kernel
theorem dX11_holdsRing_177 : decode cX11_holdsRing 177 = .ok (.ifCond .ne 30, 3) := by decide +kernel
theorem dX11_holdsRing_180 : decode cX11_holdsRing 180 = .ok (.aload_n 0, 1) := by decide +kernel
theorem dX11_holdsRing_181 : decode cX11_holdsRing 181 = .ok (.getfield 105, 3) := by decide +kernel
theorem dX11_holdsRing_184 : decode cX11_holdsRing 184 = .ok (.iconst 5, 1) := by decide +kernel
theorem dX11_holdsRing_185 : decode cX11_holdsRing 185 = .ok (.iload_n 3, 1) := by decide +kernel
theorem dX11_holdsRing_186 : decode cX11_holdsRing 186 = .ok (.imul, 1) := by decide +kernel
theorem dX11_holdsRing_187 : decode cX11_holdsRing 187 = .ok (.iload_n 2, 1) := by decide +kernel
theorem dX11_holdsRing_188 : decode cX11_holdsRing 188 = .ok (.iadd, 1) := by decide +kernel
theorem dX11_holdsRing_189 : decode cX11_holdsRing 189 = .ok (.baload, 1) := by decide +kernel
theorem dX11_holdsRing_190 : decode cX11_holdsRing 190 = .ok (.ifCond .eq 21, 3) := by decide +kernel
theorem dX11_holdsRing_193 : decode cX11_holdsRing 193 = .ok (.aload_n 0, 1) := by decide +kernel
theorem dX11_holdsRing_194 : decode cX11_holdsRing 194 = .ok (.getfield 105, 3) := by decide +kernel
theorem dX11_holdsRing_197 : decode cX11_holdsRing 197 = .ok (.iconst 5, 1) := by decide +kernel
theorem dX11_holdsRing_198 : decode cX11_holdsRing 198 = .ok (.iload_n 2, 1) := by decide +kernel
theorem dX11_holdsRing_199 : decode cX11_holdsRing 199 = .ok (.imul, 1) := by decide +kernel
theorem dX11_holdsRing_200 : decode cX11_holdsRing 200 = .ok (.iload 4, 2) := by decide +kernel
theorem dX11_holdsRing_202 : decode cX11_holdsRing 202 = .ok (.iadd, 1) := by decide +kernel
theorem dX11_holdsRing_203 : decode cX11_holdsRing 203 = .ok (.baload, 1) := by decide +kernel
theorem dX11_holdsRing_204 : decode cX11_holdsRing 204 = .ok (.ifCond .eq 7, 3) := by decide +kernel
theorem dX11_holdsRing_207 : decode cX11_holdsRing 207 = .ok (.iconst 1, 1) := by decide +kernel
theorem dX11_holdsRing_208 : decode cX11_holdsRing 208 = .ok (.goto 4, 3) := by decide +kernel
theorem dX11_holdsRing_211 : decode cX11_holdsRing 211 = .ok (.iconst 0, 1) := by decide +kernel
theorem dX11_holdsRing_212 : decode cX11_holdsRing 212 = .ok (.bastore, 1) := by decide +kernel
theorem dX11_holdsRing_213 : decode cX11_holdsRing 213 = .ok (.iinc 4 1, 3) := by decide +kernel
theorem dX11_holdsRing_216 : decode cX11_holdsRing 216 = .ok (.goto (-69), 3) := by decide +kernel
theorem dX11_holdsRing_219 : decode cX11_holdsRing 219 = .ok (.iinc 3 1, 3) := by decide +kernel
theorem dX11_holdsRing_222 : decode cX11_holdsRing 222 = .ok (.goto (-86), 3) := by decide +kernel
theorem dX11_holdsRing_225 : decode cX11_holdsRing 225 = .ok (.iinc 2 1, 3) := by decide +kernel
theorem dX11_holdsRing_228 : decode cX11_holdsRing 228 = .ok (.goto (-102), 3) := by decide +kernel
theorem dX11_holdsRing_231 : decode cX11_holdsRing 231 = .ok (.iconst 1, 1) := by decide +kernel
theorem dX11_holdsRing_232 : decode cX11_holdsRing 232 = .ok (.istore_n 2, 1) := by decide +kernel
theorem dX11_holdsRing_233 : decode cX11_holdsRing 233 = .ok (.iconst 0, 1) := by decide +kernel
theorem dX11_holdsRing_234 : decode cX11_holdsRing 234 = .ok (.istore_n 3, 1) := by decide +kernel
theorem dX11_holdsRing_235 : decode cX11_holdsRing 235 = .ok (.iload_n 3, 1) := by decide +kernel
theorem dX11_holdsRing_236 : decode cX11_holdsRing 236 = .ok (.aload_n 0, 1) := by decide +kernel
theorem dX11_holdsRing_237 : decode cX11_holdsRing 237 = .ok (.getfield 162, 3) := by decide +kernel
theorem dX11_holdsRing_240 : decode cX11_holdsRing 240 = .ok (.if_icmp .ge 31, 3) := by decide +kernel
theorem dX11_holdsRing_243 : decode cX11_holdsRing 243 = .ok (.iload_n 2, 1) := by decide +kernel
theorem dX11_holdsRing_244 : decode cX11_holdsRing 244 = .ok (.ifCond .eq 19, 3) := by decide +kernel
theorem dX11_holdsRing_247 : decode cX11_holdsRing 247 = .ok (.aload_n 0, 1) := by decide +kernel
theorem dX11_holdsRing_248 : decode cX11_holdsRing 248 = .ok (.getfield 105, 3) := by decide +kernel
theorem dX11_holdsRing_251 : decode cX11_holdsRing 251 = .ok (.bipush 6, 2) := by decide +kernel
theorem dX11_holdsRing_253 : decode cX11_holdsRing 253 = .ok (.iload_n 3, 1) := by decide +kernel
theorem dX11_holdsRing_254 : decode cX11_holdsRing 254 = .ok (.imul, 1) := by decide +kernel
theorem dX11_holdsRing_255 : decode cX11_holdsRing 255 = .ok (.baload, 1) := by decide +kernel
theorem dX11_holdsRing_256 : decode cX11_holdsRing 256 = .ok (.ifCond .ne 7, 3) := by decide +kernel
theorem dX11_holdsRing_259 : decode cX11_holdsRing 259 = .ok (.iconst 1, 1) := by decide +kernel
theorem dX11_holdsRing_260 : decode cX11_holdsRing 260 = .ok (.goto 4, 3) := by decide +kernel
theorem dX11_holdsRing_263 : decode cX11_holdsRing 263 = .ok (.iconst 0, 1) := by decide +kernel
theorem dX11_holdsRing_264 : decode cX11_holdsRing 264 = .ok (.istore_n 2, 1) := by decide +kernel
theorem dX11_holdsRing_265 : decode cX11_holdsRing 265 = .ok (.iinc 3 1, 3) := by decide +kernel
theorem dX11_holdsRing_268 : decode cX11_holdsRing 268 = .ok (.goto (-33), 3) := by decide +kernel
theorem dX11_holdsRing_271 : decode cX11_holdsRing 271 = .ok (.iload_n 2, 1) := by decide +kernel
theorem dX11_holdsRing_272 : decode cX11_holdsRing 272 = .ok (.ireturn, 1) := by decide +kernel
theorem dX11_holdsApart_0 : decode cX11_holdsApart 0 = .ok (.iconst 1, 1) := by decide +kernel
theorem dX11_holdsApart_1 : decode cX11_holdsApart 1 = .ok (.istore_n 2, 1) := by decide +kernel
theorem dX11_holdsApart_2 : decode cX11_holdsApart 2 = .ok (.iconst 0, 1) := by decide +kernel
theorem dX11_holdsApart_3 : decode cX11_holdsApart 3 = .ok (.istore_n 3, 1) := by decide +kernel
theorem dX11_holdsApart_4 : decode cX11_holdsApart 4 = .ok (.iload_n 3, 1) := by decide +kernel
theorem dX11_holdsApart_5 : decode cX11_holdsApart 5 = .ok (.aload_n 0, 1) := by decide +kernel
theorem dX11_holdsApart_6 : decode cX11_holdsApart 6 = .ok (.getfield 162, 3) := by decide +kernel
theorem dX11_holdsApart_9 : decode cX11_holdsApart 9 = .ok (.if_icmp .ge 141, 3) := by decide +kernel
theorem dX11_holdsApart_12 : decode cX11_holdsApart 12 = .ok (.iconst 0, 1) := by decide +kernel
theorem dX11_holdsApart_13 : decode cX11_holdsApart 13 = .ok (.istore 4, 2) := by decide +kernel
theorem dX11_holdsApart_15 : decode cX11_holdsApart 15 = .ok (.iconst 0, 1) := by decide +kernel
theorem dX11_holdsApart_16 : decode cX11_holdsApart 16 = .ok (.istore 5, 2) := by decide +kernel
theorem dX11_holdsApart_18 : decode cX11_holdsApart 18 = .ok (.iload 5, 2) := by decide +kernel
theorem dX11_holdsApart_20 : decode cX11_holdsApart 20 = .ok (.aload_n 0, 1) := by decide +kernel
theorem dX11_holdsApart_21 : decode cX11_holdsApart 21 = .ok (.getfield 162, 3) := by decide +kernel
theorem dX11_holdsApart_24 : decode cX11_holdsApart 24 = .ok (.if_icmp .ge 104, 3) := by decide +kernel
theorem dX11_holdsApart_27 : decode cX11_holdsApart 27 = .ok (.aload_n 0, 1) := by decide +kernel
theorem dX11_holdsApart_28 : decode cX11_holdsApart 28 = .ok (.iload 5, 2) := by decide +kernel
theorem dX11_holdsApart_30 : decode cX11_holdsApart 30 = .ok (.iload_n 1, 1) := by decide +kernel
theorem dX11_holdsApart_31 : decode cX11_holdsApart 31 = .ok (.invokevirtual 193, 3) := by decide +kernel
theorem dX11_holdsApart_34 : decode cX11_holdsApart 34 = .ok (.ifCond .eq 88, 3) := by decide +kernel
theorem dX11_holdsApart_37 : decode cX11_holdsApart 37 = .ok (.iload 4, 2) := by decide +kernel
theorem dX11_holdsApart_39 : decode cX11_holdsApart 39 = .ok (.aload_n 0, 1) := by decide +kernel
theorem dX11_holdsApart_40 : decode cX11_holdsApart 40 = .ok (.getfield 102, 3) := by decide +kernel
theorem dX11_holdsApart_43 : decode cX11_holdsApart 43 = .ok (.iconst 4, 1) := by decide +kernel
theorem dX11_holdsApart_44 : decode cX11_holdsApart 44 = .ok (.iload 5, 2) := by decide +kernel
theorem dX11_holdsApart_46 : decode cX11_holdsApart 46 = .ok (.imul, 1) := by decide +kernel
theorem dX11_holdsApart_47 : decode cX11_holdsApart 47 = .ok (.aload_n 0, 1) := by decide +kernel
theorem dX11_holdsApart_48 : decode cX11_holdsApart 48 = .ok (.getfield 35, 3) := by decide +kernel
theorem dX11_holdsApart_51 : decode cX11_holdsApart 51 = .ok (.iload_n 1, 1) := by decide +kernel
theorem dX11_holdsApart_52 : decode cX11_holdsApart 52 = .ok (.iaload, 1) := by decide +kernel
theorem dX11_holdsApart_53 : decode cX11_holdsApart 53 = .ok (.iadd, 1) := by decide +kernel
theorem dX11_holdsApart_54 : decode cX11_holdsApart 54 = .ok (.iaload, 1) := by decide +kernel
theorem dX11_holdsApart_55 : decode cX11_holdsApart 55 = .ok (.iload_n 3, 1) := by decide +kernel
theorem dX11_holdsApart_56 : decode cX11_holdsApart 56 = .ok (.if_icmp .ne 7, 3) := by decide +kernel
theorem dX11_holdsApart_59 : decode cX11_holdsApart 59 = .ok (.iconst 1, 1) := by decide +kernel
theorem dX11_holdsApart_60 : decode cX11_holdsApart 60 = .ok (.goto 4, 3) := by decide +kernel
theorem dX11_holdsApart_63 : decode cX11_holdsApart 63 = .ok (.iconst 0, 1) := by decide +kernel
theorem dX11_holdsApart_64 : decode cX11_holdsApart 64 = .ok (.iadd, 1) := by decide +kernel
theorem dX11_holdsApart_65 : decode cX11_holdsApart 65 = .ok (.istore 4, 2) := by decide +kernel
theorem dX11_holdsApart_67 : decode cX11_holdsApart 67 = .ok (.iload 4, 2) := by decide +kernel
theorem dX11_holdsApart_69 : decode cX11_holdsApart 69 = .ok (.aload_n 0, 1) := by decide +kernel
theorem dX11_holdsApart_70 : decode cX11_holdsApart 70 = .ok (.getfield 38, 3) := by decide +kernel
theorem dX11_holdsApart_73 : decode cX11_holdsApart 73 = .ok (.iload_n 1, 1) := by decide +kernel
theorem dX11_holdsApart_74 : decode cX11_holdsApart 74 = .ok (.iaload, 1) := by decide +kernel
theorem dX11_holdsApart_75 : decode cX11_holdsApart 75 = .ok (.iconst (-1), 1) := by decide +kernel
theorem dX11_holdsApart_76 : decode cX11_holdsApart 76 = .ok (.if_icmp .eq 42, 3) := by decide +kernel
theorem dX11_holdsApart_79 : decode cX11_holdsApart 79 = .ok (.aload_n 0, 1) := by decide +kernel
theorem dX11_holdsApart_80 : decode cX11_holdsApart 80 = .ok (.getfield 38, 3) := by decide +kernel
theorem dX11_holdsApart_83 : decode cX11_holdsApart 83 = .ok (.iload_n 1, 1) := by decide +kernel
theorem dX11_holdsApart_84 : decode cX11_holdsApart 84 = .ok (.iaload, 1) := by decide +kernel
theorem dX11_holdsApart_85 : decode cX11_holdsApart 85 = .ok (.aload_n 0, 1) := by decide +kernel
theorem dX11_holdsApart_86 : decode cX11_holdsApart 86 = .ok (.getfield 35, 3) := by decide +kernel
theorem dX11_holdsApart_89 : decode cX11_holdsApart 89 = .ok (.iload_n 1, 1) := by decide +kernel
theorem dX11_holdsApart_90 : decode cX11_holdsApart 90 = .ok (.iaload, 1) := by decide +kernel
theorem dX11_holdsApart_91 : decode cX11_holdsApart 91 = .ok (.if_icmp .eq 27, 3) := by decide +kernel
theorem dX11_holdsApart_94 : decode cX11_holdsApart 94 = .ok (.aload_n 0, 1) := by decide +kernel
theorem dX11_holdsApart_95 : decode cX11_holdsApart 95 = .ok (.getfield 102, 3) := by decide +kernel
theorem dX11_holdsApart_98 : decode cX11_holdsApart 98 = .ok (.iconst 4, 1) := by decide +kernel
theorem dX11_holdsApart_99 : decode cX11_holdsApart 99 = .ok (.iload 5, 2) := by decide +kernel
theorem dX11_holdsApart_101 : decode cX11_holdsApart 101 = .ok (.imul, 1) := by decide +kernel
theorem dX11_holdsApart_102 : decode cX11_holdsApart 102 = .ok (.aload_n 0, 1) := by decide +kernel
theorem dX11_holdsApart_103 : decode cX11_holdsApart 103 = .ok (.getfield 38, 3) := by decide +kernel
theorem dX11_holdsApart_106 : decode cX11_holdsApart 106 = .ok (.iload_n 1, 1) := by decide +kernel
theorem dX11_holdsApart_107 : decode cX11_holdsApart 107 = .ok (.iaload, 1) := by decide +kernel
theorem dX11_holdsApart_108 : decode cX11_holdsApart 108 = .ok (.iadd, 1) := by decide +kernel
theorem dX11_holdsApart_109 : decode cX11_holdsApart 109 = .ok (.iaload, 1) := by decide +kernel
theorem dX11_holdsApart_110 : decode cX11_holdsApart 110 = .ok (.iload_n 3, 1) := by decide +kernel
theorem dX11_holdsApart_111 : decode cX11_holdsApart 111 = .ok (.if_icmp .ne 7, 3) := by decide +kernel
theorem dX11_holdsApart_114 : decode cX11_holdsApart 114 = .ok (.iconst 1, 1) := by decide +kernel
theorem dX11_holdsApart_115 : decode cX11_holdsApart 115 = .ok (.goto 4, 3) := by decide +kernel
theorem dX11_holdsApart_118 : decode cX11_holdsApart 118 = .ok (.iconst 0, 1) := by decide +kernel
theorem dX11_holdsApart_119 : decode cX11_holdsApart 119 = .ok (.iadd, 1) := by decide +kernel
theorem dX11_holdsApart_120 : decode cX11_holdsApart 120 = .ok (.istore 4, 2) := by decide +kernel
theorem dX11_holdsApart_122 : decode cX11_holdsApart 122 = .ok (.iinc 5 1, 3) := by decide +kernel
theorem dX11_holdsApart_125 : decode cX11_holdsApart 125 = .ok (.goto (-107), 3) := by decide +kernel
theorem dX11_holdsApart_128 : decode cX11_holdsApart 128 = .ok (.iload_n 2, 1) := by decide +kernel
theorem dX11_holdsApart_129 : decode cX11_holdsApart 129 = .ok (.ifCond .eq 13, 3) := by decide +kernel
theorem dX11_holdsApart_132 : decode cX11_holdsApart 132 = .ok (.iload 4, 2) := by decide +kernel
theorem dX11_holdsApart_134 : decode cX11_holdsApart 134 = .ok (.iconst 2, 1) := by decide +kernel
theorem dX11_holdsApart_135 : decode cX11_holdsApart 135 = .ok (.if_icmp .ge 7, 3) := by decide +kernel
theorem dX11_holdsApart_138 : decode cX11_holdsApart 138 = .ok (.iconst 1, 1) := by decide +kernel
theorem dX11_holdsApart_139 : decode cX11_holdsApart 139 = .ok (.goto 4, 3) := by decide +kernel
theorem dX11_holdsApart_142 : decode cX11_holdsApart 142 = .ok (.iconst 0, 1) := by decide +kernel
theorem dX11_holdsApart_143 : decode cX11_holdsApart 143 = .ok (.istore_n 2, 1) := by decide +kernel
theorem dX11_holdsApart_144 : decode cX11_holdsApart 144 = .ok (.iinc 3 1, 3) := by decide +kernel
theorem dX11_holdsApart_147 : decode cX11_holdsApart 147 = .ok (.goto (-143), 3) := by decide +kernel
theorem dX11_holdsApart_150 : decode cX11_holdsApart 150 = .ok (.iload_n 2, 1) := by decide +kernel
theorem dX11_holdsApart_151 : decode cX11_holdsApart 151 = .ok (.ireturn, 1) := by decide +kernel
theorem dX11_holdsAt_0 : decode cX11_holdsAt 0 = .ok (.aload_n 0, 1) := by decide +kernel
theorem dX11_holdsAt_1 : decode cX11_holdsAt 1 = .ok (.getfield 102, 3) := by decide +kernel
theorem dX11_holdsAt_4 : decode cX11_holdsAt 4 = .ok (.iconst 4, 1) := by decide +kernel
theorem dX11_holdsAt_5 : decode cX11_holdsAt 5 = .ok (.iload_n 2, 1) := by decide +kernel
theorem dX11_holdsAt_6 : decode cX11_holdsAt 6 = .ok (.imul, 1) := by decide +kernel
theorem dX11_holdsAt_7 : decode cX11_holdsAt 7 = .ok (.aload_n 0, 1) := by decide +kernel
theorem dX11_holdsAt_8 : decode cX11_holdsAt 8 = .ok (.getfield 35, 3) := by decide +kernel
theorem dX11_holdsAt_11 : decode cX11_holdsAt 11 = .ok (.iload_n 1, 1) := by decide +kernel
theorem dX11_holdsAt_12 : decode cX11_holdsAt 12 = .ok (.iaload, 1) := by decide +kernel
theorem dX11_holdsAt_13 : decode cX11_holdsAt 13 = .ok (.iadd, 1) := by decide +kernel
theorem dX11_holdsAt_14 : decode cX11_holdsAt 14 = .ok (.iaload, 1) := by decide +kernel
theorem dX11_holdsAt_15 : decode cX11_holdsAt 15 = .ok (.istore_n 3, 1) := by decide +kernel
theorem dX11_holdsAt_16 : decode cX11_holdsAt 16 = .ok (.aload_n 0, 1) := by decide +kernel
theorem dX11_holdsAt_17 : decode cX11_holdsAt 17 = .ok (.getfield 29, 3) := by decide +kernel
theorem dX11_holdsAt_20 : decode cX11_holdsAt 20 = .ok (.iload_n 1, 1) := by decide +kernel
theorem dX11_holdsAt_21 : decode cX11_holdsAt 21 = .ok (.iaload, 1) := by decide +kernel
theorem dX11_holdsAt_22 : decode cX11_holdsAt 22 = .ok (.tableswitch 137 0 4 #[34, 137, 137, 45, 84], 34) := by decide +kernel
theorem dX11_holdsAt_56 : decode cX11_holdsAt 56 = .ok (.iload_n 3, 1) := by decide +kernel
theorem dX11_holdsAt_57 : decode cX11_holdsAt 57 = .ok (.iconst (-1), 1) := by decide +kernel
theorem dX11_holdsAt_58 : decode cX11_holdsAt 58 = .ok (.if_icmp .eq 7, 3) := by decide +kernel
theorem dX11_holdsAt_61 : decode cX11_holdsAt 61 = .ok (.iconst 1, 1) := by decide +kernel
theorem dX11_holdsAt_62 : decode cX11_holdsAt 62 = .ok (.goto 4, 3) := by decide +kernel
theorem dX11_holdsAt_65 : decode cX11_holdsAt 65 = .ok (.iconst 0, 1) := by decide +kernel
theorem dX11_holdsAt_66 : decode cX11_holdsAt 66 = .ok (.ireturn, 1) := by decide +kernel
theorem dX11_holdsAt_67 : decode cX11_holdsAt 67 = .ok (.iload_n 3, 1) := by decide +kernel
theorem dX11_holdsAt_68 : decode cX11_holdsAt 68 = .ok (.iconst (-1), 1) := by decide +kernel
theorem dX11_holdsAt_69 : decode cX11_holdsAt 69 = .ok (.if_icmp .eq 31, 3) := by decide +kernel
theorem dX11_holdsAt_72 : decode cX11_holdsAt 72 = .ok (.aload_n 0, 1) := by decide +kernel
theorem dX11_holdsAt_73 : decode cX11_holdsAt 73 = .ok (.iload_n 3, 1) := by decide +kernel
theorem dX11_holdsAt_74 : decode cX11_holdsAt 74 = .ok (.iload_n 1, 1) := by decide +kernel
theorem dX11_holdsAt_75 : decode cX11_holdsAt 75 = .ok (.invokevirtual 193, 3) := by decide +kernel
theorem dX11_holdsAt_78 : decode cX11_holdsAt 78 = .ok (.ifCond .eq 26, 3) := by decide +kernel
theorem dX11_holdsAt_81 : decode cX11_holdsAt 81 = .ok (.aload_n 0, 1) := by decide +kernel
theorem dX11_holdsAt_82 : decode cX11_holdsAt 82 = .ok (.getfield 102, 3) := by decide +kernel
theorem dX11_holdsAt_85 : decode cX11_holdsAt 85 = .ok (.iconst 4, 1) := by decide +kernel
theorem dX11_holdsAt_86 : decode cX11_holdsAt 86 = .ok (.iload_n 3, 1) := by decide +kernel
theorem dX11_holdsAt_87 : decode cX11_holdsAt 87 = .ok (.imul, 1) := by decide +kernel
theorem dX11_holdsAt_88 : decode cX11_holdsAt 88 = .ok (.aload_n 0, 1) := by decide +kernel
theorem dX11_holdsAt_89 : decode cX11_holdsAt 89 = .ok (.getfield 38, 3) := by decide +kernel
theorem dX11_holdsAt_92 : decode cX11_holdsAt 92 = .ok (.iload_n 1, 1) := by decide +kernel
theorem dX11_holdsAt_93 : decode cX11_holdsAt 93 = .ok (.iaload, 1) := by decide +kernel
theorem dX11_holdsAt_94 : decode cX11_holdsAt 94 = .ok (.iadd, 1) := by decide +kernel
theorem dX11_holdsAt_95 : decode cX11_holdsAt 95 = .ok (.iaload, 1) := by decide +kernel
theorem dX11_holdsAt_96 : decode cX11_holdsAt 96 = .ok (.iload_n 2, 1) := by decide +kernel
theorem dX11_holdsAt_97 : decode cX11_holdsAt 97 = .ok (.if_icmp .ne 7, 3) := by decide +kernel
theorem dX11_holdsAt_100 : decode cX11_holdsAt 100 = .ok (.iconst 1, 1) := by decide +kernel
theorem dX11_holdsAt_101 : decode cX11_holdsAt 101 = .ok (.goto 4, 3) := by decide +kernel
theorem dX11_holdsAt_104 : decode cX11_holdsAt 104 = .ok (.iconst 0, 1) := by decide +kernel
theorem dX11_holdsAt_105 : decode cX11_holdsAt 105 = .ok (.ireturn, 1) := by decide +kernel
theorem dX11_holdsAt_106 : decode cX11_holdsAt 106 = .ok (.iload_n 3, 1) := by decide +kernel
theorem dX11_holdsAt_107 : decode cX11_holdsAt 107 = .ok (.iconst (-1), 1) := by decide +kernel
theorem dX11_holdsAt_108 : decode cX11_holdsAt 108 = .ok (.if_icmp .eq 45, 3) := by decide +kernel
theorem dX11_holdsAt_111 : decode cX11_holdsAt 111 = .ok (.aload_n 0, 1) := by decide +kernel
theorem dX11_holdsAt_112 : decode cX11_holdsAt 112 = .ok (.iload_n 3, 1) := by decide +kernel
theorem dX11_holdsAt_113 : decode cX11_holdsAt 113 = .ok (.iload_n 1, 1) := by decide +kernel
theorem dX11_holdsAt_114 : decode cX11_holdsAt 114 = .ok (.invokevirtual 193, 3) := by decide +kernel
theorem dX11_holdsAt_117 : decode cX11_holdsAt 117 = .ok (.ifCond .eq 36, 3) := by decide +kernel
theorem dX11_holdsAt_120 : decode cX11_holdsAt 120 = .ok (.aload_n 0, 1) := by decide +kernel
theorem dX11_holdsAt_121 : decode cX11_holdsAt 121 = .ok (.getfield 102, 3) := by decide +kernel
theorem dX11_holdsAt_124 : decode cX11_holdsAt 124 = .ok (.iconst 4, 1) := by decide +kernel
theorem dX11_holdsAt_125 : decode cX11_holdsAt 125 = .ok (.iload_n 2, 1) := by decide +kernel
theorem dX11_holdsAt_126 : decode cX11_holdsAt 126 = .ok (.imul, 1) := by decide +kernel
theorem dX11_holdsAt_127 : decode cX11_holdsAt 127 = .ok (.aload_n 0, 1) := by decide +kernel
theorem dX11_holdsAt_128 : decode cX11_holdsAt 128 = .ok (.getfield 38, 3) := by decide +kernel
theorem dX11_holdsAt_131 : decode cX11_holdsAt 131 = .ok (.iload_n 1, 1) := by decide +kernel
theorem dX11_holdsAt_132 : decode cX11_holdsAt 132 = .ok (.iaload, 1) := by decide +kernel
theorem dX11_holdsAt_133 : decode cX11_holdsAt 133 = .ok (.iadd, 1) := by decide +kernel
theorem dX11_holdsAt_134 : decode cX11_holdsAt 134 = .ok (.iaload, 1) := by decide +kernel
theorem dX11_holdsAt_135 : decode cX11_holdsAt 135 = .ok (.aload_n 0, 1) := by decide +kernel
theorem dX11_holdsAt_136 : decode cX11_holdsAt 136 = .ok (.getfield 102, 3) := by decide +kernel
theorem dX11_holdsAt_139 : decode cX11_holdsAt 139 = .ok (.iconst 4, 1) := by decide +kernel
theorem dX11_holdsAt_140 : decode cX11_holdsAt 140 = .ok (.iload_n 3, 1) := by decide +kernel
theorem dX11_holdsAt_141 : decode cX11_holdsAt 141 = .ok (.imul, 1) := by decide +kernel
theorem dX11_holdsAt_142 : decode cX11_holdsAt 142 = .ok (.aload_n 0, 1) := by decide +kernel
theorem dX11_holdsAt_143 : decode cX11_holdsAt 143 = .ok (.getfield 38, 3) := by decide +kernel
theorem dX11_holdsAt_146 : decode cX11_holdsAt 146 = .ok (.iload_n 1, 1) := by decide +kernel
theorem dX11_holdsAt_147 : decode cX11_holdsAt 147 = .ok (.iaload, 1) := by decide +kernel
theorem dX11_holdsAt_148 : decode cX11_holdsAt 148 = .ok (.iadd, 1) := by decide +kernel
theorem dX11_holdsAt_149 : decode cX11_holdsAt 149 = .ok (.iaload, 1) := by decide +kernel
theorem dX11_holdsAt_150 : decode cX11_holdsAt 150 = .ok (.if_icmp .gt 7, 3) := by decide +kernel
theorem dX11_holdsAt_153 : decode cX11_holdsAt 153 = .ok (.iconst 1, 1) := by decide +kernel
theorem dX11_holdsAt_154 : decode cX11_holdsAt 154 = .ok (.goto 4, 3) := by decide +kernel
theorem dX11_holdsAt_157 : decode cX11_holdsAt 157 = .ok (.iconst 0, 1) := by decide +kernel
theorem dX11_holdsAt_158 : decode cX11_holdsAt 158 = .ok (.ireturn, 1) := by decide +kernel
theorem dX11_holdsAt_159 : decode cX11_holdsAt 159 = .ok (.iload_n 3, 1) := by decide +kernel
theorem dX11_holdsAt_160 : decode cX11_holdsAt 160 = .ok (.iconst (-1), 1) := by decide +kernel
theorem dX11_holdsAt_161 : decode cX11_holdsAt 161 = .ok (.if_icmp .ne 7, 3) := by decide +kernel
theorem dX11_holdsAt_164 : decode cX11_holdsAt 164 = .ok (.iconst 1, 1) := by decide +kernel
theorem dX11_holdsAt_165 : decode cX11_holdsAt 165 = .ok (.goto 4, 3) := by decide +kernel
theorem dX11_holdsAt_168 : decode cX11_holdsAt 168 = .ok (.iconst 0, 1) := by decide +kernel
theorem dX11_holdsAt_169 : decode cX11_holdsAt 169 = .ok (.aload_n 0, 1) := by decide +kernel
theorem dX11_holdsAt_170 : decode cX11_holdsAt 170 = .ok (.getfield 102, 3) := by decide +kernel
theorem dX11_holdsAt_173 : decode cX11_holdsAt 173 = .ok (.iconst 4, 1) := by decide +kernel
theorem dX11_holdsAt_174 : decode cX11_holdsAt 174 = .ok (.iload_n 2, 1) := by decide +kernel
theorem dX11_holdsAt_175 : decode cX11_holdsAt 175 = .ok (.imul, 1) := by decide +kernel
theorem dX11_holdsAt_176 : decode cX11_holdsAt 176 = .ok (.aload_n 0, 1) := by decide +kernel
theorem dX11_holdsAt_177 : decode cX11_holdsAt 177 = .ok (.getfield 38, 3) := by decide +kernel
theorem dX11_holdsAt_180 : decode cX11_holdsAt 180 = .ok (.iload_n 1, 1) := by decide +kernel
theorem dX11_holdsAt_181 : decode cX11_holdsAt 181 = .ok (.iaload, 1) := by decide +kernel
theorem dX11_holdsAt_182 : decode cX11_holdsAt 182 = .ok (.iadd, 1) := by decide +kernel
theorem dX11_holdsAt_183 : decode cX11_holdsAt 183 = .ok (.iaload, 1) := by decide +kernel
theorem dX11_holdsAt_184 : decode cX11_holdsAt 184 = .ok (.ifCond .ne 7, 3) := by decide +kernel
theorem dX11_holdsAt_187 : decode cX11_holdsAt 187 = .ok (.iconst 1, 1) := by decide +kernel
theorem dX11_holdsAt_188 : decode cX11_holdsAt 188 = .ok (.goto 4, 3) := by decide +kernel
theorem dX11_holdsAt_191 : decode cX11_holdsAt 191 = .ok (.iconst 0, 1) := by decide +kernel
theorem dX11_holdsAt_192 : decode cX11_holdsAt 192 = .ok (.if_icmp .ne 7, 3) := by decide +kernel
theorem dX11_holdsAt_195 : decode cX11_holdsAt 195 = .ok (.iconst 1, 1) := by decide +kernel
theorem dX11_holdsAt_196 : decode cX11_holdsAt 196 = .ok (.goto 4, 3) := by decide +kernel
theorem dX11_holdsAt_199 : decode cX11_holdsAt 199 = .ok (.iconst 0, 1) := by decide +kernel
theorem dX11_holdsAt_200 : decode cX11_holdsAt 200 = .ok (.ireturn, 1) := by decide +kernel
theorem dX11_holds_0 : decode cX11_holds 0 = .ok (.aload_n 0, 1) := by decide +kernel
theorem dX11_holds_1 : decode cX11_holds 1 = .ok (.getfield 29, 3) := by decide +kernel
theorem dX11_holds_4 : decode cX11_holds 4 = .ok (.iload_n 1, 1) := by decide +kernel
theorem dX11_holds_5 : decode cX11_holds 5 = .ok (.iaload, 1) := by decide +kernel
theorem dX11_holds_6 : decode cX11_holds 6 = .ok (.lookupswitch 85 #[(1, 34), (2, 40), (6, 46)], 34) := by decide +kernel
theorem dX11_holds_40 : decode cX11_holds 40 = .ok (.aload_n 0, 1) := by decide +kernel
theorem dX11_holds_41 : decode cX11_holds 41 = .ok (.iload_n 1, 1) := by decide +kernel
theorem dX11_holds_42 : decode cX11_holds 42 = .ok (.invokevirtual 196, 3) := by decide +kernel
theorem dX11_holds_45 : decode cX11_holds 45 = .ok (.ireturn, 1) := by decide +kernel
theorem dX11_holds_46 : decode cX11_holds 46 = .ok (.aload_n 0, 1) := by decide +kernel
theorem dX11_holds_47 : decode cX11_holds 47 = .ok (.iload_n 1, 1) := by decide +kernel
theorem dX11_holds_48 : decode cX11_holds 48 = .ok (.invokevirtual 199, 3) := by decide +kernel
theorem dX11_holds_51 : decode cX11_holds 51 = .ok (.ireturn, 1) := by decide +kernel
theorem dX11_holds_52 : decode cX11_holds 52 = .ok (.aload_n 0, 1) := by decide +kernel
theorem dX11_holds_53 : decode cX11_holds 53 = .ok (.getfield 143, 3) := by decide +kernel
theorem dX11_holds_56 : decode cX11_holds 56 = .ok (.iconst 2, 1) := by decide +kernel
theorem dX11_holds_57 : decode cX11_holds 57 = .ok (.if_icmp .lt 28, 3) := by decide +kernel
theorem dX11_holds_60 : decode cX11_holds 60 = .ok (.aload_n 0, 1) := by decide +kernel
theorem dX11_holds_61 : decode cX11_holds 61 = .ok (.getfield 99, 3) := by decide +kernel
theorem dX11_holds_64 : decode cX11_holds 64 = .ok (.iconst 0, 1) := by decide +kernel
theorem dX11_holds_65 : decode cX11_holds 65 = .ok (.iaload, 1) := by decide +kernel
theorem dX11_holds_66 : decode cX11_holds 66 = .ok (.iconst (-1), 1) := by decide +kernel
theorem dX11_holds_67 : decode cX11_holds 67 = .ok (.if_icmp .eq 18, 3) := by decide +kernel
theorem dX11_holds_70 : decode cX11_holds 70 = .ok (.aload_n 0, 1) := by decide +kernel
theorem dX11_holds_71 : decode cX11_holds 71 = .ok (.getfield 99, 3) := by decide +kernel
theorem dX11_holds_74 : decode cX11_holds 74 = .ok (.iconst 0, 1) := by decide +kernel
theorem dX11_holds_75 : decode cX11_holds 75 = .ok (.iaload, 1) := by decide +kernel
theorem dX11_holds_76 : decode cX11_holds 76 = .ok (.aload_n 0, 1) := by decide +kernel
theorem dX11_holds_77 : decode cX11_holds 77 = .ok (.getfield 99, 3) := by decide +kernel
theorem dX11_holds_80 : decode cX11_holds 80 = .ok (.iconst 1, 1) := by decide +kernel
theorem dX11_holds_81 : decode cX11_holds 81 = .ok (.iaload, 1) := by decide +kernel
theorem dX11_holds_82 : decode cX11_holds 82 = .ok (.if_icmp .eq 7, 3) := by decide +kernel
theorem dX11_holds_85 : decode cX11_holds 85 = .ok (.iconst 1, 1) := by decide +kernel
theorem dX11_holds_86 : decode cX11_holds 86 = .ok (.goto 4, 3) := by decide +kernel
theorem dX11_holds_89 : decode cX11_holds 89 = .ok (.iconst 0, 1) := by decide +kernel
theorem dX11_holds_90 : decode cX11_holds 90 = .ok (.ireturn, 1) := by decide +kernel
theorem dX11_holds_91 : decode cX11_holds 91 = .ok (.iconst 1, 1) := by decide +kernel
theorem dX11_holds_92 : decode cX11_holds 92 = .ok (.istore_n 2, 1) := by decide +kernel
theorem dX11_holds_93 : decode cX11_holds 93 = .ok (.iconst 0, 1) := by decide +kernel
theorem dX11_holds_94 : decode cX11_holds 94 = .ok (.istore_n 3, 1) := by decide +kernel
theorem dX11_holds_95 : decode cX11_holds 95 = .ok (.iload_n 3, 1) := by decide +kernel
theorem dX11_holds_96 : decode cX11_holds 96 = .ok (.aload_n 0, 1) := by decide +kernel
theorem dX11_holds_97 : decode cX11_holds 97 = .ok (.getfield 162, 3) := by decide +kernel
theorem dX11_holds_100 : decode cX11_holds 100 = .ok (.if_icmp .ge 37, 3) := by decide +kernel
theorem dX11_holds_103 : decode cX11_holds 103 = .ok (.iload_n 2, 1) := by decide +kernel
theorem dX11_holds_104 : decode cX11_holds 104 = .ok (.ifCond .eq 33, 3) := by decide +kernel
theorem dX11_holds_107 : decode cX11_holds 107 = .ok (.aload_n 0, 1) := by decide +kernel
theorem dX11_holds_108 : decode cX11_holds 108 = .ok (.iload_n 3, 1) := by decide +kernel
theorem dX11_holds_109 : decode cX11_holds 109 = .ok (.iload_n 1, 1) := by decide +kernel
theorem dX11_holds_110 : decode cX11_holds 110 = .ok (.invokevirtual 193, 3) := by decide +kernel
theorem dX11_holds_113 : decode cX11_holds 113 = .ok (.ifCond .eq 12, 3) := by decide +kernel
theorem dX11_holds_116 : decode cX11_holds 116 = .ok (.aload_n 0, 1) := by decide +kernel
theorem dX11_holds_117 : decode cX11_holds 117 = .ok (.iload_n 1, 1) := by decide +kernel
theorem dX11_holds_118 : decode cX11_holds 118 = .ok (.iload_n 3, 1) := by decide +kernel
theorem dX11_holds_119 : decode cX11_holds 119 = .ok (.invokevirtual 202, 3) := by decide +kernel
theorem dX11_holds_122 : decode cX11_holds 122 = .ok (.ifCond .eq 7, 3) := by decide +kernel
theorem dX11_holds_125 : decode cX11_holds 125 = .ok (.iconst 1, 1) := by decide +kernel
theorem dX11_holds_126 : decode cX11_holds 126 = .ok (.goto 4, 3) := by decide +kernel
theorem dX11_holds_129 : decode cX11_holds 129 = .ok (.iconst 0, 1) := by decide +kernel
theorem dX11_holds_130 : decode cX11_holds 130 = .ok (.istore_n 2, 1) := by decide +kernel
theorem dX11_holds_131 : decode cX11_holds 131 = .ok (.iinc 3 1, 3) := by decide +kernel
theorem dX11_holds_134 : decode cX11_holds 134 = .ok (.goto (-39), 3) := by decide +kernel
theorem dX11_holds_137 : decode cX11_holds 137 = .ok (.iload_n 2, 1) := by decide +kernel
theorem dX11_holds_138 : decode cX11_holds 138 = .ok (.ireturn, 1) := by decide +kernel
theorem dX11_freshen_0 : decode cX11_freshen 0 = .ok (.aload_n 0, 1) := by decide +kernel
theorem dX11_freshen_1 : decode cX11_freshen 1 = .ok (.getfield 126, 3) := by decide +kernel
theorem dX11_freshen_4 : decode cX11_freshen 4 = .ok (.ifCond .eq 19, 3) := by decide +kernel
theorem dX11_freshen_7 : decode cX11_freshen 7 = .ok (.aload_n 0, 1) := by decide +kernel
theorem dX11_freshen_8 : decode cX11_freshen 8 = .ok (.getfield 205, 3) := by decide +kernel
theorem dX11_freshen_11 : decode cX11_freshen 11 = .ok (.sipush 4000, 3) := by decide +kernel
theorem dX11_freshen_14 : decode cX11_freshen 14 = .ok (.if_icmp .gt 7, 3) := by decide +kernel
theorem dX11_freshen_17 : decode cX11_freshen 17 = .ok (.iconst 1, 1) := by decide +kernel
theorem dX11_freshen_18 : decode cX11_freshen 18 = .ok (.goto 4, 3) := by decide +kernel
theorem dX11_freshen_21 : decode cX11_freshen 21 = .ok (.iconst 0, 1) := by decide +kernel
theorem dX11_freshen_22 : decode cX11_freshen 22 = .ok (.ireturn, 1) := by decide +kernel
theorem dX11_freshen_23 : decode cX11_freshen 23 = .ok (.aload_n 0, 1) := by decide +kernel
theorem dX11_freshen_24 : decode cX11_freshen 24 = .ok (.iconst 1, 1) := by decide +kernel
theorem dX11_freshen_25 : decode cX11_freshen 25 = .ok (.putfield 126, 3) := by decide +kernel
theorem dX11_freshen_28 : decode cX11_freshen 28 = .ok (.aload_n 0, 1) := by decide +kernel
theorem dX11_freshen_29 : decode cX11_freshen 29 = .ok (.iconst 0, 1) := by decide +kernel
theorem dX11_freshen_30 : decode cX11_freshen 30 = .ok (.putfield 205, 3) := by decide +kernel
theorem dX11_freshen_33 : decode cX11_freshen 33 = .ok (.aload_n 0, 1) := by decide +kernel
theorem dX11_freshen_34 : decode cX11_freshen 34 = .ok (.iconst 0, 1) := by decide +kernel
theorem dX11_freshen_35 : decode cX11_freshen 35 = .ok (.putfield 208, 3) := by decide +kernel
theorem dX11_freshen_38 : decode cX11_freshen 38 = .ok (.aload_n 0, 1) := by decide +kernel
theorem dX11_freshen_39 : decode cX11_freshen 39 = .ok (.iconst 0, 1) := by decide +kernel
theorem dX11_freshen_40 : decode cX11_freshen 40 = .ok (.invokevirtual 190, 3) := by decide +kernel
theorem dX11_freshen_43 : decode cX11_freshen 43 = .ok (.istore_n 1, 1) := by decide +kernel
theorem dX11_freshen_44 : decode cX11_freshen 44 = .ok (.iload_n 1, 1) := by decide +kernel
theorem dX11_freshen_45 : decode cX11_freshen 45 = .ok (.iconst (-1), 1) := by decide +kernel
theorem dX11_freshen_46 : decode cX11_freshen 46 = .ok (.if_icmp .eq 157, 3) := by decide +kernel
theorem dX11_freshen_49 : decode cX11_freshen 49 = .ok (.aload_n 0, 1) := by decide +kernel
theorem dX11_freshen_50 : decode cX11_freshen 50 = .ok (.getfield 205, 3) := by decide +kernel
theorem dX11_freshen_53 : decode cX11_freshen 53 = .ok (.sipush 4000, 3) := by decide +kernel
theorem dX11_freshen_56 : decode cX11_freshen 56 = .ok (.if_icmp .gt 147, 3) := by decide +kernel
theorem dX11_freshen_59 : decode cX11_freshen 59 = .ok (.aload_n 0, 1) := by decide +kernel
theorem dX11_freshen_60 : decode cX11_freshen 60 = .ok (.getfield 205, 3) := by decide +kernel
theorem dX11_freshen_63 : decode cX11_freshen 63 = .ok (.sipush 4000, 3) := by decide +kernel
theorem dX11_freshen_66 : decode cX11_freshen 66 = .ok (.if_icmp .ge 118, 3) := by decide +kernel
theorem dX11_freshen_69 : decode cX11_freshen 69 = .ok (.iconst 0, 1) := by decide +kernel
theorem dX11_freshen_70 : decode cX11_freshen 70 = .ok (.istore_n 2, 1) := by decide +kernel
theorem dX11_freshen_71 : decode cX11_freshen 71 = .ok (.iload_n 2, 1) := by decide +kernel
theorem dX11_freshen_72 : decode cX11_freshen 72 = .ok (.iload_n 1, 1) := by decide +kernel
theorem dX11_freshen_73 : decode cX11_freshen 73 = .ok (.if_icmp .ge 30, 3) := by decide +kernel
theorem dX11_freshen_76 : decode cX11_freshen 76 = .ok (.aload_n 0, 1) := by decide +kernel
theorem dX11_freshen_77 : decode cX11_freshen 77 = .ok (.getfield 60, 3) := by decide +kernel
theorem dX11_freshen_80 : decode cX11_freshen 80 = .ok (.bipush 22, 2) := by decide +kernel
theorem dX11_freshen_82 : decode cX11_freshen 82 = .ok (.aload_n 0, 1) := by decide +kernel
theorem dX11_freshen_83 : decode cX11_freshen 83 = .ok (.getfield 205, 3) := by decide +kernel
theorem dX11_freshen_86 : decode cX11_freshen 86 = .ok (.imul, 1) := by decide +kernel
theorem dX11_freshen_87 : decode cX11_freshen 87 = .ok (.iload_n 2, 1) := by decide +kernel
theorem dX11_freshen_88 : decode cX11_freshen 88 = .ok (.iadd, 1) := by decide +kernel
theorem dX11_freshen_89 : decode cX11_freshen 89 = .ok (.aload_n 0, 1) := by decide +kernel
theorem dX11_freshen_90 : decode cX11_freshen 90 = .ok (.getfield 93, 3) := by decide +kernel
theorem dX11_freshen_93 : decode cX11_freshen 93 = .ok (.iload_n 2, 1) := by decide +kernel
theorem dX11_freshen_94 : decode cX11_freshen 94 = .ok (.iaload, 1) := by decide +kernel
theorem dX11_freshen_95 : decode cX11_freshen 95 = .ok (.i2b, 1) := by decide +kernel
theorem dX11_freshen_96 : decode cX11_freshen 96 = .ok (.bastore, 1) := by decide +kernel
theorem dX11_freshen_97 : decode cX11_freshen 97 = .ok (.iinc 2 1, 3) := by decide +kernel
theorem dX11_freshen_100 : decode cX11_freshen 100 = .ok (.goto (-29), 3) := by decide +kernel
theorem dX11_freshen_103 : decode cX11_freshen 103 = .ok (.aload_n 0, 1) := by decide +kernel
theorem dX11_freshen_104 : decode cX11_freshen 104 = .ok (.getfield 64, 3) := by decide +kernel
theorem dX11_freshen_107 : decode cX11_freshen 107 = .ok (.aload_n 0, 1) := by decide +kernel
theorem dX11_freshen_108 : decode cX11_freshen 108 = .ok (.getfield 205, 3) := by decide +kernel
theorem dX11_freshen_111 : decode cX11_freshen 111 = .ok (.iload_n 1, 1) := by decide +kernel
theorem dX11_freshen_112 : decode cX11_freshen 112 = .ok (.i2b, 1) := by decide +kernel
theorem dX11_freshen_113 : decode cX11_freshen 113 = .ok (.bastore, 1) := by decide +kernel
theorem dX11_freshen_114 : decode cX11_freshen 114 = .ok (.aload_n 0, 1) := by decide +kernel
theorem dX11_freshen_115 : decode cX11_freshen 115 = .ok (.iload_n 1, 1) := by decide +kernel
theorem dX11_freshen_116 : decode cX11_freshen 116 = .ok (.invokevirtual 182, 3) := by decide +kernel
theorem dX11_freshen_119 : decode cX11_freshen 119 = .ok (.iconst 1, 1) := by decide +kernel
theorem dX11_freshen_120 : decode cX11_freshen 120 = .ok (.istore_n 2, 1) := by decide +kernel
theorem dX11_freshen_121 : decode cX11_freshen 121 = .ok (.iconst 0, 1) := by decide +kernel
theorem dX11_freshen_122 : decode cX11_freshen 122 = .ok (.istore_n 3, 1) := by decide +kernel
theorem dX11_freshen_123 : decode cX11_freshen 123 = .ok (.iload_n 3, 1) := by decide +kernel
theorem dX11_freshen_124 : decode cX11_freshen 124 = .ok (.aload_n 0, 1) := by decide +kernel
theorem dX11_freshen_125 : decode cX11_freshen 125 = .ok (.getfield 153, 3) := by decide +kernel
theorem dX11_freshen_128 : decode cX11_freshen 128 = .ok (.if_icmp .ge 19, 3) := by decide +kernel
theorem dX11_freshen_131 : decode cX11_freshen 131 = .ok (.iload_n 2, 1) := by decide +kernel
theorem dX11_freshen_132 : decode cX11_freshen 132 = .ok (.ifCond .eq 15, 3) := by decide +kernel
theorem dX11_freshen_135 : decode cX11_freshen 135 = .ok (.aload_n 0, 1) := by decide +kernel
theorem dX11_freshen_136 : decode cX11_freshen 136 = .ok (.iload_n 3, 1) := by decide +kernel
theorem dX11_freshen_137 : decode cX11_freshen 137 = .ok (.invokevirtual 211, 3) := by decide +kernel
theorem dX11_freshen_140 : decode cX11_freshen 140 = .ok (.istore_n 2, 1) := by decide +kernel
theorem dX11_freshen_141 : decode cX11_freshen 141 = .ok (.iinc 3 1, 3) := by decide +kernel
theorem dX11_freshen_144 : decode cX11_freshen 144 = .ok (.goto (-21), 3) := by decide +kernel
theorem dX11_freshen_147 : decode cX11_freshen 147 = .ok (.aload_n 0, 1) := by decide +kernel
theorem dX11_freshen_148 : decode cX11_freshen 148 = .ok (.getfield 70, 3) := by decide +kernel
theorem dX11_freshen_151 : decode cX11_freshen 151 = .ok (.aload_n 0, 1) := by decide +kernel
theorem dX11_freshen_152 : decode cX11_freshen 152 = .ok (.getfield 205, 3) := by decide +kernel
theorem dX11_freshen_155 : decode cX11_freshen 155 = .ok (.iload_n 2, 1) := by decide +kernel
theorem dX11_freshen_156 : decode cX11_freshen 156 = .ok (.bastore, 1) := by decide +kernel
theorem dX11_freshen_157 : decode cX11_freshen 157 = .ok (.iload_n 2, 1) := by decide +kernel
theorem dX11_freshen_158 : decode cX11_freshen 158 = .ok (.ifCond .eq 26, 3) := by decide +kernel
theorem dX11_freshen_161 : decode cX11_freshen 161 = .ok (.aload_n 0, 1) := by decide +kernel
theorem dX11_freshen_162 : decode cX11_freshen 162 = .ok (.getfield 67, 3) := by decide +kernel
theorem dX11_freshen_165 : decode cX11_freshen 165 = .ok (.aload_n 0, 1) := by decide +kernel
theorem dX11_freshen_166 : decode cX11_freshen 166 = .ok (.getfield 208, 3) := by decide +kernel
theorem dX11_freshen_169 : decode cX11_freshen 169 = .ok (.aload_n 0, 1) := by decide +kernel
theorem dX11_freshen_170 : decode cX11_freshen 170 = .ok (.getfield 205, 3) := by decide +kernel
theorem dX11_freshen_173 : decode cX11_freshen 173 = .ok (.iastore, 1) := by decide +kernel
theorem dX11_freshen_174 : decode cX11_freshen 174 = .ok (.aload_n 0, 1) := by decide +kernel
theorem dX11_freshen_175 : decode cX11_freshen 175 = .ok (.dup, 1) := by decide +kernel
theorem dX11_freshen_176 : decode cX11_freshen 176 = .ok (.getfield 208, 3) := by decide +kernel
theorem dX11_freshen_179 : decode cX11_freshen 179 = .ok (.iconst 1, 1) := by decide +kernel
theorem dX11_freshen_180 : decode cX11_freshen 180 = .ok (.iadd, 1) := by decide +kernel
theorem dX11_freshen_181 : decode cX11_freshen 181 = .ok (.putfield 208, 3) := by decide +kernel
theorem dX11_freshen_184 : decode cX11_freshen 184 = .ok (.aload_n 0, 1) := by decide +kernel
theorem dX11_freshen_185 : decode cX11_freshen 185 = .ok (.dup, 1) := by decide +kernel
theorem dX11_freshen_186 : decode cX11_freshen 186 = .ok (.getfield 205, 3) := by decide +kernel
theorem dX11_freshen_189 : decode cX11_freshen 189 = .ok (.iconst 1, 1) := by decide +kernel
theorem dX11_freshen_190 : decode cX11_freshen 190 = .ok (.iadd, 1) := by decide +kernel
theorem dX11_freshen_191 : decode cX11_freshen 191 = .ok (.putfield 205, 3) := by decide +kernel
theorem dX11_freshen_194 : decode cX11_freshen 194 = .ok (.aload_n 0, 1) := by decide +kernel
theorem dX11_freshen_195 : decode cX11_freshen 195 = .ok (.iload_n 1, 1) := by decide +kernel
theorem dX11_freshen_196 : decode cX11_freshen 196 = .ok (.invokevirtual 214, 3) := by decide +kernel
theorem dX11_freshen_199 : decode cX11_freshen 199 = .ok (.istore_n 1, 1) := by decide +kernel
theorem dX11_freshen_200 : decode cX11_freshen 200 = .ok (.goto (-156), 3) := by decide +kernel
theorem dX11_freshen_203 : decode cX11_freshen 203 = .ok (.aload_n 0, 1) := by decide +kernel
theorem dX11_freshen_204 : decode cX11_freshen 204 = .ok (.getfield 205, 3) := by decide +kernel
theorem dX11_freshen_207 : decode cX11_freshen 207 = .ok (.sipush 4000, 3) := by decide +kernel
theorem dX11_freshen_210 : decode cX11_freshen 210 = .ok (.if_icmp .gt 7, 3) := by decide +kernel
theorem dX11_freshen_213 : decode cX11_freshen 213 = .ok (.iconst 1, 1) := by decide +kernel
theorem dX11_freshen_214 : decode cX11_freshen 214 = .ok (.goto 4, 3) := by decide +kernel
theorem dX11_freshen_217 : decode cX11_freshen 217 = .ok (.iconst 0, 1) := by decide +kernel
theorem dX11_freshen_218 : decode cX11_freshen 218 = .ok (.ireturn, 1) := by decide +kernel
theorem dX11_many_0 : decode cX11_many 0 = .ok (.aload_n 0, 1) := by decide +kernel
theorem dX11_many_1 : decode cX11_many 1 = .ok (.invokevirtual 217, 3) := by decide +kernel
theorem dX11_many_4 : decode cX11_many 4 = .ok (.ifCond .eq 10, 3) := by decide +kernel
theorem dX11_many_7 : decode cX11_many 7 = .ok (.aload_n 0, 1) := by decide +kernel
theorem dX11_many_8 : decode cX11_many 8 = .ok (.getfield 205, 3) := by decide +kernel
theorem dX11_many_11 : decode cX11_many 11 = .ok (.goto 5, 3) := by decide +kernel
theorem dX11_many_14 : decode cX11_many 14 = .ok (.bipush (-104), 2) := by decide +kernel
theorem dX11_many_16 : decode cX11_many 16 = .ok (.ireturn, 1) := by decide +kernel
theorem dX11_kept_0 : decode cX11_kept 0 = .ok (.aload_n 0, 1) := by decide +kernel
theorem dX11_kept_1 : decode cX11_kept 1 = .ok (.invokevirtual 217, 3) := by decide +kernel
theorem dX11_kept_4 : decode cX11_kept 4 = .ok (.ifCond .eq 10, 3) := by decide +kernel
theorem dX11_kept_7 : decode cX11_kept 7 = .ok (.aload_n 0, 1) := by decide +kernel
theorem dX11_kept_8 : decode cX11_kept 8 = .ok (.getfield 208, 3) := by decide +kernel
theorem dX11_kept_11 : decode cX11_kept 11 = .ok (.goto 5, 3) := by decide +kernel
theorem dX11_kept_14 : decode cX11_kept 14 = .ok (.bipush (-104), 2) := by decide +kernel
theorem dX11_kept_16 : decode cX11_kept 16 = .ok (.ireturn, 1) := by decide +kernel
theorem dX11_choice_0 : decode cX11_choice 0 = .ok (.aload_n 0, 1) := by decide +kernel
theorem dX11_choice_1 : decode cX11_choice 1 = .ok (.invokevirtual 217, 3) := by decide +kernel
theorem dX11_choice_4 : decode cX11_choice 4 = .ok (.ifCond .ne 6, 3) := by decide +kernel
theorem dX11_choice_7 : decode cX11_choice 7 = .ok (.bipush (-104), 2) := by decide +kernel
theorem dX11_choice_9 : decode cX11_choice 9 = .ok (.ireturn, 1) := by decide +kernel
theorem dX11_choice_10 : decode cX11_choice 10 = .ok (.iload_n 1, 1) := by decide +kernel
theorem dX11_choice_11 : decode cX11_choice 11 = .ok (.iconst 0, 1) := by decide +kernel
theorem dX11_choice_12 : decode cX11_choice 12 = .ok (.aload_n 0, 1) := by decide +kernel
theorem dX11_choice_13 : decode cX11_choice 13 = .ok (.getfield 208, 3) := by decide +kernel
theorem dX11_choice_16 : decode cX11_choice 16 = .ok (.iconst 1, 1) := by decide +kernel
theorem dX11_choice_17 : decode cX11_choice 17 = .ok (.isub, 1) := by decide +kernel
theorem dX11_choice_18 : decode cX11_choice 18 = .ok (.invokestatic 136, 3) := by decide +kernel
theorem dX11_choice_21 : decode cX11_choice 21 = .ok (.ifCond .eq 7, 3) := by decide +kernel
theorem dX11_choice_24 : decode cX11_choice 24 = .ok (.iload_n 2, 1) := by decide +kernel
theorem dX11_choice_25 : decode cX11_choice 25 = .ok (.ifCond .ge 6, 3) := by decide +kernel
theorem dX11_choice_28 : decode cX11_choice 28 = .ok (.bipush (-101), 2) := by decide +kernel
theorem dX11_choice_30 : decode cX11_choice 30 = .ok (.ireturn, 1) := by decide +kernel
theorem dX11_choice_31 : decode cX11_choice 31 = .ok (.aload_n 0, 1) := by decide +kernel
theorem dX11_choice_32 : decode cX11_choice 32 = .ok (.getfield 67, 3) := by decide +kernel
theorem dX11_choice_35 : decode cX11_choice 35 = .ok (.iload_n 1, 1) := by decide +kernel
theorem dX11_choice_36 : decode cX11_choice 36 = .ok (.iaload, 1) := by decide +kernel
theorem dX11_choice_37 : decode cX11_choice 37 = .ok (.istore_n 3, 1) := by decide +kernel
theorem dX11_choice_38 : decode cX11_choice 38 = .ok (.iload_n 2, 1) := by decide +kernel
theorem dX11_choice_39 : decode cX11_choice 39 = .ok (.aload_n 0, 1) := by decide +kernel
theorem dX11_choice_40 : decode cX11_choice 40 = .ok (.getfield 64, 3) := by decide +kernel
theorem dX11_choice_43 : decode cX11_choice 43 = .ok (.iload_n 3, 1) := by decide +kernel
theorem dX11_choice_44 : decode cX11_choice 44 = .ok (.baload, 1) := by decide +kernel
theorem dX11_choice_45 : decode cX11_choice 45 = .ok (.if_icmp .ge 17, 3) := by decide +kernel
theorem dX11_choice_48 : decode cX11_choice 48 = .ok (.aload_n 0, 1) := by decide +kernel
theorem dX11_choice_49 : decode cX11_choice 49 = .ok (.getfield 60, 3) := by decide +kernel
theorem dX11_choice_52 : decode cX11_choice 52 = .ok (.bipush 22, 2) := by decide +kernel
theorem dX11_choice_54 : decode cX11_choice 54 = .ok (.iload_n 3, 1) := by decide +kernel
theorem dX11_choice_55 : decode cX11_choice 55 = .ok (.imul, 1) := by decide +kernel
theorem dX11_choice_56 : decode cX11_choice 56 = .ok (.iload_n 2, 1) := by decide +kernel
theorem dX11_choice_57 : decode cX11_choice 57 = .ok (.iadd, 1) := by decide +kernel
theorem dX11_choice_58 : decode cX11_choice 58 = .ok (.baload, 1) := by decide +kernel
theorem dX11_choice_59 : decode cX11_choice 59 = .ok (.goto 4, 3) := by decide +kernel
theorem dX11_choice_62 : decode cX11_choice 62 = .ok (.iconst (-1), 1) := by decide +kernel
theorem dX11_choice_63 : decode cX11_choice 63 = .ok (.ireturn, 1) := by decide +kernel
theorem dX11_object_0 : decode cX11_object 0 = .ok (.aload_n 0, 1) := by decide +kernel
theorem dX11_object_1 : decode cX11_object 1 = .ok (.invokevirtual 217, 3) := by decide +kernel
theorem dX11_object_4 : decode cX11_object 4 = .ok (.ifCond .ne 6, 3) := by decide +kernel
theorem dX11_object_7 : decode cX11_object 7 = .ok (.bipush (-104), 2) := by decide +kernel
theorem dX11_object_9 : decode cX11_object 9 = .ok (.ireturn, 1) := by decide +kernel
theorem dX11_object_10 : decode cX11_object 10 = .ok (.iload_n 1, 1) := by decide +kernel
theorem dX11_object_11 : decode cX11_object 11 = .ok (.iconst 0, 1) := by decide +kernel
theorem dX11_object_12 : decode cX11_object 12 = .ok (.aload_n 0, 1) := by decide +kernel
theorem dX11_object_13 : decode cX11_object 13 = .ok (.getfield 208, 3) := by decide +kernel
theorem dX11_object_16 : decode cX11_object 16 = .ok (.iconst 1, 1) := by decide +kernel
theorem dX11_object_17 : decode cX11_object 17 = .ok (.isub, 1) := by decide +kernel
theorem dX11_object_18 : decode cX11_object 18 = .ok (.invokestatic 136, 3) := by decide +kernel
theorem dX11_object_21 : decode cX11_object 21 = .ok (.ifCond .ne 6, 3) := by decide +kernel
theorem dX11_object_24 : decode cX11_object 24 = .ok (.bipush (-101), 2) := by decide +kernel
theorem dX11_object_26 : decode cX11_object 26 = .ok (.ireturn, 1) := by decide +kernel
theorem dX11_object_27 : decode cX11_object 27 = .ok (.aload_n 0, 1) := by decide +kernel
theorem dX11_object_28 : decode cX11_object 28 = .ok (.aload_n 0, 1) := by decide +kernel
theorem dX11_object_29 : decode cX11_object 29 = .ok (.getfield 67, 3) := by decide +kernel
theorem dX11_object_32 : decode cX11_object 32 = .ok (.iload_n 1, 1) := by decide +kernel
theorem dX11_object_33 : decode cX11_object 33 = .ok (.iaload, 1) := by decide +kernel
theorem dX11_object_34 : decode cX11_object 34 = .ok (.invokevirtual 221, 3) := by decide +kernel
theorem dX11_object_37 : decode cX11_object 37 = .ok (.iload_n 2, 1) := by decide +kernel
theorem dX11_object_38 : decode cX11_object 38 = .ok (.iconst 0, 1) := by decide +kernel
theorem dX11_object_39 : decode cX11_object 39 = .ok (.aload_n 0, 1) := by decide +kernel
theorem dX11_object_40 : decode cX11_object 40 = .ok (.getfield 162, 3) := by decide +kernel
theorem dX11_object_43 : decode cX11_object 43 = .ok (.iconst 1, 1) := by decide +kernel
theorem dX11_object_44 : decode cX11_object 44 = .ok (.isub, 1) := by decide +kernel
theorem dX11_object_45 : decode cX11_object 45 = .ok (.invokestatic 136, 3) := by decide +kernel
theorem dX11_object_48 : decode cX11_object 48 = .ok (.ifCond .ne 6, 3) := by decide +kernel
theorem dX11_object_51 : decode cX11_object 51 = .ok (.bipush (-101), 2) := by decide +kernel
theorem dX11_object_53 : decode cX11_object 53 = .ok (.ireturn, 1) := by decide +kernel
theorem dX11_object_54 : decode cX11_object 54 = .ok (.iload_n 3, 1) := by decide +kernel
theorem dX11_object_55 : decode cX11_object 55 = .ok (.iconst 0, 1) := by decide +kernel
theorem dX11_object_56 : decode cX11_object 56 = .ok (.aload_n 0, 1) := by decide +kernel
theorem dX11_object_57 : decode cX11_object 57 = .ok (.getfield 13, 3) := by decide +kernel
theorem dX11_object_60 : decode cX11_object 60 = .ok (.aload_n 0, 1) := by decide +kernel
theorem dX11_object_61 : decode cX11_object 61 = .ok (.getfield 96, 3) := by decide +kernel
theorem dX11_object_64 : decode cX11_object 64 = .ok (.iload_n 2, 1) := by decide +kernel
theorem dX11_object_65 : decode cX11_object 65 = .ok (.iaload, 1) := by decide +kernel
theorem dX11_object_66 : decode cX11_object 66 = .ok (.iaload, 1) := by decide +kernel
theorem dX11_object_67 : decode cX11_object 67 = .ok (.invokestatic 136, 3) := by decide +kernel
theorem dX11_object_70 : decode cX11_object 70 = .ok (.ifCond .ne 6, 3) := by decide +kernel
theorem dX11_object_73 : decode cX11_object 73 = .ok (.bipush (-102), 2) := by decide +kernel
theorem dX11_object_75 : decode cX11_object 75 = .ok (.ireturn, 1) := by decide +kernel
theorem dX11_object_76 : decode cX11_object 76 = .ok (.iload_n 3, 1) := by decide +kernel
theorem dX11_object_77 : decode cX11_object 77 = .ok (.ifCond .ne 12, 3) := by decide +kernel
theorem dX11_object_80 : decode cX11_object 80 = .ok (.aload_n 0, 1) := by decide +kernel
theorem dX11_object_81 : decode cX11_object 81 = .ok (.getfield 96, 3) := by decide +kernel
theorem dX11_object_84 : decode cX11_object 84 = .ok (.iload_n 2, 1) := by decide +kernel
theorem dX11_object_85 : decode cX11_object 85 = .ok (.iaload, 1) := by decide +kernel
theorem dX11_object_86 : decode cX11_object 86 = .ok (.goto 15, 3) := by decide +kernel
theorem dX11_object_89 : decode cX11_object 89 = .ok (.aload_n 0, 1) := by decide +kernel
theorem dX11_object_90 : decode cX11_object 90 = .ok (.getfield 102, 3) := by decide +kernel
theorem dX11_object_93 : decode cX11_object 93 = .ok (.iconst 4, 1) := by decide +kernel
theorem dX11_object_94 : decode cX11_object 94 = .ok (.iload_n 2, 1) := by decide +kernel
theorem dX11_object_95 : decode cX11_object 95 = .ok (.imul, 1) := by decide +kernel
theorem dX11_object_96 : decode cX11_object 96 = .ok (.iload_n 3, 1) := by decide +kernel
theorem dX11_object_97 : decode cX11_object 97 = .ok (.iadd, 1) := by decide +kernel
theorem dX11_object_98 : decode cX11_object 98 = .ok (.iconst 1, 1) := by decide +kernel
theorem dX11_object_99 : decode cX11_object 99 = .ok (.isub, 1) := by decide +kernel
theorem dX11_object_100 : decode cX11_object 100 = .ok (.iaload, 1) := by decide +kernel
theorem dX11_object_101 : decode cX11_object 101 = .ok (.ireturn, 1) := by decide +kernel
theorem dX11_put_0 : decode cX11_put 0 = .ok (.aload_n 0, 1) := by decide +kernel
theorem dX11_put_1 : decode cX11_put 1 = .ok (.getfield 159, 3) := by decide +kernel
theorem dX11_put_4 : decode cX11_put 4 = .ok (.bipush 40, 2) := by decide +kernel
theorem dX11_put_6 : decode cX11_put 6 = .ok (.if_icmp .ne 6, 3) := by decide +kernel
theorem dX11_put_9 : decode cX11_put 9 = .ok (.bipush (-104), 2) := by decide +kernel
theorem dX11_put_11 : decode cX11_put 11 = .ok (.ireturn, 1) := by decide +kernel
theorem dX11_put_12 : decode cX11_put 12 = .ok (.aload_n 0, 1) := by decide +kernel
theorem dX11_put_13 : decode cX11_put 13 = .ok (.getfield 56, 3) := by decide +kernel
theorem dX11_put_16 : decode cX11_put 16 = .ok (.aload_n 0, 1) := by decide +kernel
theorem dX11_put_17 : decode cX11_put 17 = .ok (.getfield 159, 3) := by decide +kernel
theorem dX11_put_20 : decode cX11_put 20 = .ok (.iload_n 1, 1) := by decide +kernel
theorem dX11_put_21 : decode cX11_put 21 = .ok (.iastore, 1) := by decide +kernel
theorem dX11_put_22 : decode cX11_put 22 = .ok (.aload_n 0, 1) := by decide +kernel
theorem dX11_put_23 : decode cX11_put 23 = .ok (.dup, 1) := by decide +kernel
theorem dX11_put_24 : decode cX11_put 24 = .ok (.getfield 159, 3) := by decide +kernel
theorem dX11_put_27 : decode cX11_put 27 = .ok (.iconst 1, 1) := by decide +kernel
theorem dX11_put_28 : decode cX11_put 28 = .ok (.iadd, 1) := by decide +kernel
theorem dX11_put_29 : decode cX11_put 29 = .ok (.putfield 159, 3) := by decide +kernel
theorem dX11_put_32 : decode cX11_put 32 = .ok (.aload_n 0, 1) := by decide +kernel
theorem dX11_put_33 : decode cX11_put 33 = .ok (.getfield 159, 3) := by decide +kernel
theorem dX11_put_36 : decode cX11_put 36 = .ok (.ireturn, 1) := by decide +kernel
theorem dX11_empty_0 : decode cX11_empty 0 = .ok (.aload_n 0, 1) := by decide +kernel
theorem dX11_empty_1 : decode cX11_empty 1 = .ok (.getfield 159, 3) := by decide +kernel
theorem dX11_empty_4 : decode cX11_empty 4 = .ok (.istore_n 1, 1) := by decide +kernel
theorem dX11_empty_5 : decode cX11_empty 5 = .ok (.aload_n 0, 1) := by decide +kernel
theorem dX11_empty_6 : decode cX11_empty 6 = .ok (.iconst 0, 1) := by decide +kernel
theorem dX11_empty_7 : decode cX11_empty 7 = .ok (.putfield 159, 3) := by decide +kernel
theorem dX11_empty_10 : decode cX11_empty 10 = .ok (.iload_n 1, 1) := by decide +kernel
theorem dX11_empty_11 : decode cX11_empty 11 = .ok (.ireturn, 1) := by decide +kernel
theorem dX11_rank_0 : decode cX11_rank 0 = .ok (.aload_n 0, 1) := by decide +kernel
theorem dX11_rank_1 : decode cX11_rank 1 = .ok (.invokevirtual 217, 3) := by decide +kernel
theorem dX11_rank_4 : decode cX11_rank 4 = .ok (.ifCond .ne 6, 3) := by decide +kernel
theorem dX11_rank_7 : decode cX11_rank 7 = .ok (.bipush (-104), 2) := by decide +kernel
theorem dX11_rank_9 : decode cX11_rank 9 = .ok (.ireturn, 1) := by decide +kernel
theorem dX11_rank_10 : decode cX11_rank 10 = .ok (.iconst 0, 1) := by decide +kernel
theorem dX11_rank_11 : decode cX11_rank 11 = .ok (.istore_n 1, 1) := by decide +kernel
theorem dX11_rank_12 : decode cX11_rank 12 = .ok (.iload_n 1, 1) := by decide +kernel
theorem dX11_rank_13 : decode cX11_rank 13 = .ok (.aload_n 0, 1) := by decide +kernel
theorem dX11_rank_14 : decode cX11_rank 14 = .ok (.getfield 159, 3) := by decide +kernel
theorem dX11_rank_17 : decode cX11_rank 17 = .ok (.if_icmp .ge 52, 3) := by decide +kernel
theorem dX11_rank_20 : decode cX11_rank 20 = .ok (.aload_n 0, 1) := by decide +kernel
theorem dX11_rank_21 : decode cX11_rank 21 = .ok (.iload_n 1, 1) := by decide +kernel
theorem dX11_rank_22 : decode cX11_rank 22 = .ok (.invokevirtual 182, 3) := by decide +kernel
theorem dX11_rank_25 : decode cX11_rank 25 = .ok (.aload_n 0, 1) := by decide +kernel
theorem dX11_rank_26 : decode cX11_rank 26 = .ok (.getfield 165, 3) := by decide +kernel
theorem dX11_rank_29 : decode cX11_rank 29 = .ok (.iconst (-1), 1) := by decide +kernel
theorem dX11_rank_30 : decode cX11_rank 30 = .ok (.if_icmp .eq 16, 3) := by decide +kernel
theorem dX11_rank_33 : decode cX11_rank 33 = .ok (.aload_n 0, 1) := by decide +kernel
theorem dX11_rank_34 : decode cX11_rank 34 = .ok (.aload_n 0, 1) := by decide +kernel
theorem dX11_rank_35 : decode cX11_rank 35 = .ok (.getfield 56, 3) := by decide +kernel
theorem dX11_rank_38 : decode cX11_rank 38 = .ok (.iload_n 1, 1) := by decide +kernel
theorem dX11_rank_39 : decode cX11_rank 39 = .ok (.iaload, 1) := by decide +kernel
theorem dX11_rank_40 : decode cX11_rank 40 = .ok (.invokevirtual 178, 3) := by decide +kernel
theorem dX11_rank_43 : decode cX11_rank 43 = .ok (.ifCond .ne 8, 3) := by decide +kernel
theorem dX11_rank_46 : decode cX11_rank 46 = .ok (.bipush (-10), 2) := by decide +kernel
theorem dX11_rank_48 : decode cX11_rank 48 = .ok (.iload_n 1, 1) := by decide +kernel
theorem dX11_rank_49 : decode cX11_rank 49 = .ok (.isub, 1) := by decide +kernel
theorem dX11_rank_50 : decode cX11_rank 50 = .ok (.ireturn, 1) := by decide +kernel
theorem dX11_rank_51 : decode cX11_rank 51 = .ok (.aload_n 0, 1) := by decide +kernel
theorem dX11_rank_52 : decode cX11_rank 52 = .ok (.getfield 93, 3) := by decide +kernel
theorem dX11_rank_55 : decode cX11_rank 55 = .ok (.iload_n 1, 1) := by decide +kernel
theorem dX11_rank_56 : decode cX11_rank 56 = .ok (.aload_n 0, 1) := by decide +kernel
theorem dX11_rank_57 : decode cX11_rank 57 = .ok (.getfield 56, 3) := by decide +kernel
theorem dX11_rank_60 : decode cX11_rank 60 = .ok (.iload_n 1, 1) := by decide +kernel
theorem dX11_rank_61 : decode cX11_rank 61 = .ok (.iaload, 1) := by decide +kernel
theorem dX11_rank_62 : decode cX11_rank 62 = .ok (.iastore, 1) := by decide +kernel
theorem dX11_rank_63 : decode cX11_rank 63 = .ok (.iinc 1 1, 3) := by decide +kernel
theorem dX11_rank_66 : decode cX11_rank 66 = .ok (.goto (-54), 3) := by decide +kernel
theorem dX11_rank_69 : decode cX11_rank 69 = .ok (.aload_n 0, 1) := by decide +kernel
theorem dX11_rank_70 : decode cX11_rank 70 = .ok (.aload_n 0, 1) := by decide +kernel
theorem dX11_rank_71 : decode cX11_rank 71 = .ok (.getfield 159, 3) := by decide +kernel
theorem dX11_rank_74 : decode cX11_rank 74 = .ok (.invokevirtual 182, 3) := by decide +kernel
theorem dX11_rank_77 : decode cX11_rank 77 = .ok (.aload_n 0, 1) := by decide +kernel
theorem dX11_rank_78 : decode cX11_rank 78 = .ok (.getfield 165, 3) := by decide +kernel
theorem dX11_rank_81 : decode cX11_rank 81 = .ok (.iconst (-1), 1) := by decide +kernel
theorem dX11_rank_82 : decode cX11_rank 82 = .ok (.if_icmp .eq 11, 3) := by decide +kernel
theorem dX11_rank_85 : decode cX11_rank 85 = .ok (.bipush (-10), 2) := by decide +kernel
theorem dX11_rank_87 : decode cX11_rank 87 = .ok (.aload_n 0, 1) := by decide +kernel
theorem dX11_rank_88 : decode cX11_rank 88 = .ok (.getfield 159, 3) := by decide +kernel
theorem dX11_rank_91 : decode cX11_rank 91 = .ok (.isub, 1) := by decide +kernel
theorem dX11_rank_92 : decode cX11_rank 92 = .ok (.ireturn, 1) := by decide +kernel
theorem dX11_rank_93 : decode cX11_rank 93 = .ok (.iconst 0, 1) := by decide +kernel
theorem dX11_rank_94 : decode cX11_rank 94 = .ok (.istore_n 1, 1) := by decide +kernel
theorem dX11_rank_95 : decode cX11_rank 95 = .ok (.iload_n 1, 1) := by decide +kernel
theorem dX11_rank_96 : decode cX11_rank 96 = .ok (.aload_n 0, 1) := by decide +kernel
theorem dX11_rank_97 : decode cX11_rank 97 = .ok (.getfield 208, 3) := by decide +kernel
theorem dX11_rank_100 : decode cX11_rank 100 = .ok (.if_icmp .ge 90, 3) := by decide +kernel
theorem dX11_rank_103 : decode cX11_rank 103 = .ok (.aload_n 0, 1) := by decide +kernel
theorem dX11_rank_104 : decode cX11_rank 104 = .ok (.getfield 64, 3) := by decide +kernel
theorem dX11_rank_107 : decode cX11_rank 107 = .ok (.aload_n 0, 1) := by decide +kernel
theorem dX11_rank_108 : decode cX11_rank 108 = .ok (.getfield 67, 3) := by decide +kernel
theorem dX11_rank_111 : decode cX11_rank 111 = .ok (.iload_n 1, 1) := by decide +kernel
theorem dX11_rank_112 : decode cX11_rank 112 = .ok (.iaload, 1) := by decide +kernel
theorem dX11_rank_113 : decode cX11_rank 113 = .ok (.baload, 1) := by decide +kernel
theorem dX11_rank_114 : decode cX11_rank 114 = .ok (.aload_n 0, 1) := by decide +kernel
theorem dX11_rank_115 : decode cX11_rank 115 = .ok (.getfield 159, 3) := by decide +kernel
theorem dX11_rank_118 : decode cX11_rank 118 = .ok (.if_icmp .ne 7, 3) := by decide +kernel
theorem dX11_rank_121 : decode cX11_rank 121 = .ok (.iconst 1, 1) := by decide +kernel
theorem dX11_rank_122 : decode cX11_rank 122 = .ok (.goto 4, 3) := by decide +kernel
theorem dX11_rank_125 : decode cX11_rank 125 = .ok (.iconst 0, 1) := by decide +kernel
theorem dX11_rank_126 : decode cX11_rank 126 = .ok (.istore_n 2, 1) := by decide +kernel
theorem dX11_rank_127 : decode cX11_rank 127 = .ok (.iconst 0, 1) := by decide +kernel
theorem dX11_rank_128 : decode cX11_rank 128 = .ok (.istore_n 3, 1) := by decide +kernel
theorem dX11_rank_129 : decode cX11_rank 129 = .ok (.iload_n 3, 1) := by decide +kernel
theorem dX11_rank_130 : decode cX11_rank 130 = .ok (.aload_n 0, 1) := by decide +kernel
theorem dX11_rank_131 : decode cX11_rank 131 = .ok (.getfield 159, 3) := by decide +kernel
theorem dX11_rank_134 : decode cX11_rank 134 = .ok (.if_icmp .ge 44, 3) := by decide +kernel
theorem dX11_rank_137 : decode cX11_rank 137 = .ok (.iload_n 2, 1) := by decide +kernel
theorem dX11_rank_138 : decode cX11_rank 138 = .ok (.ifCond .eq 40, 3) := by decide +kernel
theorem dX11_rank_141 : decode cX11_rank 141 = .ok (.aload_n 0, 1) := by decide +kernel
theorem dX11_rank_142 : decode cX11_rank 142 = .ok (.getfield 60, 3) := by decide +kernel
theorem dX11_rank_145 : decode cX11_rank 145 = .ok (.bipush 22, 2) := by decide +kernel
theorem dX11_rank_147 : decode cX11_rank 147 = .ok (.aload_n 0, 1) := by decide +kernel
theorem dX11_rank_148 : decode cX11_rank 148 = .ok (.getfield 67, 3) := by decide +kernel
theorem dX11_rank_151 : decode cX11_rank 151 = .ok (.iload_n 1, 1) := by decide +kernel
theorem dX11_rank_152 : decode cX11_rank 152 = .ok (.iaload, 1) := by decide +kernel
theorem dX11_rank_153 : decode cX11_rank 153 = .ok (.imul, 1) := by decide +kernel
theorem dX11_rank_154 : decode cX11_rank 154 = .ok (.iload_n 3, 1) := by decide +kernel
theorem dX11_rank_155 : decode cX11_rank 155 = .ok (.iadd, 1) := by decide +kernel
theorem dX11_rank_156 : decode cX11_rank 156 = .ok (.baload, 1) := by decide +kernel
theorem dX11_rank_157 : decode cX11_rank 157 = .ok (.aload_n 0, 1) := by decide +kernel
theorem dX11_rank_158 : decode cX11_rank 158 = .ok (.getfield 56, 3) := by decide +kernel
theorem dX11_rank_161 : decode cX11_rank 161 = .ok (.iload_n 3, 1) := by decide +kernel
theorem dX11_rank_162 : decode cX11_rank 162 = .ok (.iaload, 1) := by decide +kernel
theorem dX11_rank_163 : decode cX11_rank 163 = .ok (.if_icmp .ne 7, 3) := by decide +kernel
theorem dX11_rank_166 : decode cX11_rank 166 = .ok (.iconst 1, 1) := by decide +kernel
theorem dX11_rank_167 : decode cX11_rank 167 = .ok (.goto 4, 3) := by decide +kernel
theorem dX11_rank_170 : decode cX11_rank 170 = .ok (.iconst 0, 1) := by decide +kernel
theorem dX11_rank_171 : decode cX11_rank 171 = .ok (.istore_n 2, 1) := by decide +kernel
theorem dX11_rank_172 : decode cX11_rank 172 = .ok (.iinc 3 1, 3) := by decide +kernel
theorem dX11_rank_175 : decode cX11_rank 175 = .ok (.goto (-46), 3) := by decide +kernel
theorem dX11_rank_178 : decode cX11_rank 178 = .ok (.iload_n 2, 1) := by decide +kernel
theorem dX11_rank_179 : decode cX11_rank 179 = .ok (.ifCond .eq 5, 3) := by decide +kernel
theorem dX11_rank_182 : decode cX11_rank 182 = .ok (.iload_n 1, 1) := by decide +kernel
theorem dX11_rank_183 : decode cX11_rank 183 = .ok (.ireturn, 1) := by decide +kernel
theorem dX11_rank_184 : decode cX11_rank 184 = .ok (.iinc 1 1, 3) := by decide +kernel
theorem dX11_rank_187 : decode cX11_rank 187 = .ok (.goto (-92), 3) := by decide +kernel
theorem dX11_rank_190 : decode cX11_rank 190 = .ok (.iconst (-1), 1) := by decide +kernel
theorem dX11_rank_191 : decode cX11_rank 191 = .ok (.ireturn, 1) := by decide +kernel
theorem dX11_step_0 : decode cX11_step 0 = .ok (.iload_n 1, 1) := by decide +kernel
theorem dX11_step_1 : decode cX11_step 1 = .ok (.iconst 0, 1) := by decide +kernel
theorem dX11_step_2 : decode cX11_step 2 = .ok (.iconst 2, 1) := by decide +kernel
theorem dX11_step_3 : decode cX11_step 3 = .ok (.invokestatic 136, 3) := by decide +kernel
theorem dX11_step_6 : decode cX11_step 6 = .ok (.ifCond .eq 55, 3) := by decide +kernel
theorem dX11_step_9 : decode cX11_step 9 = .ok (.iload_n 2, 1) := by decide +kernel
theorem dX11_step_10 : decode cX11_step 10 = .ok (.iconst 0, 1) := by decide +kernel
theorem dX11_step_11 : decode cX11_step 11 = .ok (.iconst 3, 1) := by decide +kernel
theorem dX11_step_12 : decode cX11_step 12 = .ok (.invokestatic 136, 3) := by decide +kernel
theorem dX11_step_15 : decode cX11_step 15 = .ok (.ifCond .eq 46, 3) := by decide +kernel
theorem dX11_step_18 : decode cX11_step 18 = .ok (.iload_n 3, 1) := by decide +kernel
theorem dX11_step_19 : decode cX11_step 19 = .ok (.iconst 0, 1) := by decide +kernel
theorem dX11_step_20 : decode cX11_step 20 = .ok (.iconst 3, 1) := by decide +kernel
theorem dX11_step_21 : decode cX11_step 21 = .ok (.invokestatic 136, 3) := by decide +kernel
theorem dX11_step_24 : decode cX11_step 24 = .ok (.ifCond .eq 37, 3) := by decide +kernel
