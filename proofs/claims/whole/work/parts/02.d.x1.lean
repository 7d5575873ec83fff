theorem dX2_choiceAbove_21 : decode cX2_choiceAbove 21 = .ok (.iconst 1, 1) := by decide +kernel
theorem dX2_choiceAbove_22 : decode cX2_choiceAbove 22 = .ok (.iadd, 1) := by decide +kernel
theorem dX2_choiceAbove_23 : decode cX2_choiceAbove 23 = .ok (.goto 4, 3) := by decide +kernel
theorem dX2_choiceAbove_26 : decode cX2_choiceAbove 26 = .ok (.iconst (-1), 1) := by decide +kernel
theorem dX2_choiceAbove_27 : decode cX2_choiceAbove 27 = .ok (.ireturn, 1) := by decide +kernel
theorem dX2_choiceAbove_28 : decode cX2_choiceAbove 28 = .ok (.iload_n 1, 1) := by decide +kernel
theorem dX2_choiceAbove_29 : decode cX2_choiceAbove 29 = .ok (.iconst 1, 1) := by decide +kernel
theorem dX2_choiceAbove_30 : decode cX2_choiceAbove 30 = .ok (.iadd, 1) := by decide +kernel
theorem dX2_choiceAbove_31 : decode cX2_choiceAbove 31 = .ok (.istore_n 2, 1) := by decide +kernel
theorem dX2_choiceAbove_32 : decode cX2_choiceAbove 32 = .ok (.iload_n 2, 1) := by decide +kernel
theorem dX2_choiceAbove_33 : decode cX2_choiceAbove 33 = .ok (.aload_n 0, 1) := by decide +kernel
theorem dX2_choiceAbove_34 : decode cX2_choiceAbove 34 = .ok (.getfield 34, 3) := by decide +kernel
theorem dX2_choiceAbove_37 : decode cX2_choiceAbove 37 = .ok (.if_icmp .gt 19, 3) := by decide +kernel
theorem dX2_choiceAbove_40 : decode cX2_choiceAbove 40 = .ok (.aload_n 0, 1) := by decide +kernel
theorem dX2_choiceAbove_41 : decode cX2_choiceAbove 41 = .ok (.iload_n 2, 1) := by decide +kernel
theorem dX2_choiceAbove_42 : decode cX2_choiceAbove 42 = .ok (.invokevirtual 83, 3) := by decide +kernel
theorem dX2_choiceAbove_45 : decode cX2_choiceAbove 45 = .ok (.ifCond .eq 5, 3) := by decide +kernel
theorem dX2_choiceAbove_48 : decode cX2_choiceAbove 48 = .ok (.iload_n 2, 1) := by decide +kernel
theorem dX2_choiceAbove_49 : decode cX2_choiceAbove 49 = .ok (.ireturn, 1) := by decide +kernel
theorem dX2_choiceAbove_50 : decode cX2_choiceAbove 50 = .ok (.iinc 2 1, 3) := by decide +kernel
theorem dX2_choiceAbove_53 : decode cX2_choiceAbove 53 = .ok (.goto (-21), 3) := by decide +kernel
theorem dX2_choiceAbove_56 : decode cX2_choiceAbove 56 = .ok (.iload_n 1, 1) := by decide +kernel
theorem dX2_choiceAbove_57 : decode cX2_choiceAbove 57 = .ok (.iconst 1, 1) := by decide +kernel
theorem dX2_choiceAbove_58 : decode cX2_choiceAbove 58 = .ok (.iadd, 1) := by decide +kernel
theorem dX2_choiceAbove_59 : decode cX2_choiceAbove 59 = .ok (.bipush 10, 2) := by decide +kernel
theorem dX2_choiceAbove_61 : decode cX2_choiceAbove 61 = .ok (.invokestatic 90, 3) := by decide +kernel
theorem dX2_choiceAbove_64 : decode cX2_choiceAbove 64 = .ok (.istore_n 2, 1) := by decide +kernel
theorem dX2_choiceAbove_65 : decode cX2_choiceAbove 65 = .ok (.iload_n 2, 1) := by decide +kernel
theorem dX2_choiceAbove_66 : decode cX2_choiceAbove 66 = .ok (.bipush 10, 2) := by decide +kernel
theorem dX2_choiceAbove_68 : decode cX2_choiceAbove 68 = .ok (.aload_n 0, 1) := by decide +kernel
theorem dX2_choiceAbove_69 : decode cX2_choiceAbove 69 = .ok (.getfield 43, 3) := by decide +kernel
theorem dX2_choiceAbove_72 : decode cX2_choiceAbove 72 = .ok (.getfield 95, 3) := by decide +kernel
theorem dX2_choiceAbove_75 : decode cX2_choiceAbove 75 = .ok (.iadd, 1) := by decide +kernel
theorem dX2_choiceAbove_76 : decode cX2_choiceAbove 76 = .ok (.if_icmp .ge 19, 3) := by decide +kernel
theorem dX2_choiceAbove_79 : decode cX2_choiceAbove 79 = .ok (.aload_n 0, 1) := by decide +kernel
theorem dX2_choiceAbove_80 : decode cX2_choiceAbove 80 = .ok (.iload_n 2, 1) := by decide +kernel
theorem dX2_choiceAbove_81 : decode cX2_choiceAbove 81 = .ok (.invokevirtual 83, 3) := by decide +kernel
theorem dX2_choiceAbove_84 : decode cX2_choiceAbove 84 = .ok (.ifCond .eq 5, 3) := by decide +kernel
theorem dX2_choiceAbove_87 : decode cX2_choiceAbove 87 = .ok (.iload_n 2, 1) := by decide +kernel
theorem dX2_choiceAbove_88 : decode cX2_choiceAbove 88 = .ok (.ireturn, 1) := by decide +kernel
theorem dX2_choiceAbove_89 : decode cX2_choiceAbove 89 = .ok (.iinc 2 1, 3) := by decide +kernel
theorem dX2_choiceAbove_92 : decode cX2_choiceAbove 92 = .ok (.goto (-27), 3) := by decide +kernel
theorem dX2_choiceAbove_95 : decode cX2_choiceAbove 95 = .ok (.iconst (-1), 1) := by decide +kernel
theorem dX2_choiceAbove_96 : decode cX2_choiceAbove 96 = .ok (.ireturn, 1) := by decide +kernel
theorem dX2_allows_0 : decode cX2_allows 0 = .ok (.aload_n 0, 1) := by decide +kernel
theorem dX2_allows_1 : decode cX2_allows 1 = .ok (.getfield 37, 3) := by decide +kernel
theorem dX2_allows_4 : decode cX2_allows 4 = .ok (.iconst (-1), 1) := by decide +kernel
theorem dX2_allows_5 : decode cX2_allows 5 = .ok (.if_icmp .eq 7, 3) := by decide +kernel
theorem dX2_allows_8 : decode cX2_allows 8 = .ok (.iload_n 1, 1) := by decide +kernel
theorem dX2_allows_9 : decode cX2_allows 9 = .ok (.ifCond .ge 5, 3) := by decide +kernel
theorem dX2_allows_12 : decode cX2_allows 12 = .ok (.iconst 0, 1) := by decide +kernel
theorem dX2_allows_13 : decode cX2_allows 13 = .ok (.ireturn, 1) := by decide +kernel
theorem dX2_allows_14 : decode cX2_allows 14 = .ok (.aload_n 0, 1) := by decide +kernel
theorem dX2_allows_15 : decode cX2_allows 15 = .ok (.getfield 40, 3) := by decide +kernel
theorem dX2_allows_18 : decode cX2_allows 18 = .ok (.invokestatic 87, 3) := by decide +kernel
theorem dX2_allows_21 : decode cX2_allows 21 = .ok (.ifCond .ne 19, 3) := by decide +kernel
theorem dX2_allows_24 : decode cX2_allows 24 = .ok (.iload_n 1, 1) := by decide +kernel
theorem dX2_allows_25 : decode cX2_allows 25 = .ok (.aload_n 0, 1) := by decide +kernel
theorem dX2_allows_26 : decode cX2_allows 26 = .ok (.getfield 40, 3) := by decide +kernel
theorem dX2_allows_29 : decode cX2_allows 29 = .ok (.iconst 4, 1) := by decide +kernel
theorem dX2_allows_30 : decode cX2_allows 30 = .ok (.isub, 1) := by decide +kernel
theorem dX2_allows_31 : decode cX2_allows 31 = .ok (.if_icmp .gt 7, 3) := by decide +kernel
theorem dX2_allows_34 : decode cX2_allows 34 = .ok (.iconst 1, 1) := by decide +kernel
theorem dX2_allows_35 : decode cX2_allows 35 = .ok (.goto 4, 3) := by decide +kernel
theorem dX2_allows_38 : decode cX2_allows 38 = .ok (.iconst 0, 1) := by decide +kernel
theorem dX2_allows_39 : decode cX2_allows 39 = .ok (.ireturn, 1) := by decide +kernel
theorem dX2_allows_40 : decode cX2_allows 40 = .ok (.iload_n 1, 1) := by decide +kernel
theorem dX2_allows_41 : decode cX2_allows 41 = .ok (.aload_n 0, 1) := by decide +kernel
theorem dX2_allows_42 : decode cX2_allows 42 = .ok (.getfield 34, 3) := by decide +kernel
theorem dX2_allows_45 : decode cX2_allows 45 = .ok (.if_icmp .gt 34, 3) := by decide +kernel
theorem dX2_allows_48 : decode cX2_allows 48 = .ok (.iload_n 1, 1) := by decide +kernel
theorem dX2_allows_49 : decode cX2_allows 49 = .ok (.ifCond .eq 24, 3) := by decide +kernel
theorem dX2_allows_52 : decode cX2_allows 52 = .ok (.aload_n 0, 1) := by decide +kernel
theorem dX2_allows_53 : decode cX2_allows 53 = .ok (.getfield 43, 3) := by decide +kernel
theorem dX2_allows_56 : decode cX2_allows 56 = .ok (.aload_n 0, 1) := by decide +kernel
theorem dX2_allows_57 : decode cX2_allows 57 = .ok (.iload_n 1, 1) := by decide +kernel
theorem dX2_allows_58 : decode cX2_allows 58 = .ok (.iconst 1, 1) := by decide +kernel
theorem dX2_allows_59 : decode cX2_allows 59 = .ok (.isub, 1) := by decide +kernel
theorem dX2_allows_60 : decode cX2_allows 60 = .ok (.invokevirtual 98, 3) := by decide +kernel
theorem dX2_allows_63 : decode cX2_allows 63 = .ok (.aload_n 0, 1) := by decide +kernel
theorem dX2_allows_64 : decode cX2_allows 64 = .ok (.getfield 40, 3) := by decide +kernel
theorem dX2_allows_67 : decode cX2_allows 67 = .ok (.invokevirtual 47, 3) := by decide +kernel
theorem dX2_allows_70 : decode cX2_allows 70 = .ok (.ifCond .eq 7, 3) := by decide +kernel
theorem dX2_allows_73 : decode cX2_allows 73 = .ok (.iconst 1, 1) := by decide +kernel
theorem dX2_allows_74 : decode cX2_allows 74 = .ok (.goto 4, 3) := by decide +kernel
theorem dX2_allows_77 : decode cX2_allows 77 = .ok (.iconst 0, 1) := by decide +kernel
theorem dX2_allows_78 : decode cX2_allows 78 = .ok (.ireturn, 1) := by decide +kernel
theorem dX2_allows_79 : decode cX2_allows 79 = .ok (.iload_n 1, 1) := by decide +kernel
theorem dX2_allows_80 : decode cX2_allows 80 = .ok (.bipush 10, 2) := by decide +kernel
theorem dX2_allows_82 : decode cX2_allows 82 = .ok (.if_icmp .lt 39, 3) := by decide +kernel
theorem dX2_allows_85 : decode cX2_allows 85 = .ok (.aload_n 0, 1) := by decide +kernel
theorem dX2_allows_86 : decode cX2_allows 86 = .ok (.getfield 34, 3) := by decide +kernel
theorem dX2_allows_89 : decode cX2_allows 89 = .ok (.aload_n 0, 1) := by decide +kernel
theorem dX2_allows_90 : decode cX2_allows 90 = .ok (.getfield 43, 3) := by decide +kernel
theorem dX2_allows_93 : decode cX2_allows 93 = .ok (.getfield 101, 3) := by decide +kernel
theorem dX2_allows_96 : decode cX2_allows 96 = .ok (.if_icmp .ge 25, 3) := by decide +kernel
theorem dX2_allows_99 : decode cX2_allows 99 = .ok (.aload_n 0, 1) := by decide +kernel
theorem dX2_allows_100 : decode cX2_allows 100 = .ok (.getfield 43, 3) := by decide +kernel
theorem dX2_allows_103 : decode cX2_allows 103 = .ok (.iload_n 1, 1) := by decide +kernel
theorem dX2_allows_104 : decode cX2_allows 104 = .ok (.bipush 10, 2) := by decide +kernel
theorem dX2_allows_106 : decode cX2_allows 106 = .ok (.isub, 1) := by decide +kernel
theorem dX2_allows_107 : decode cX2_allows 107 = .ok (.aload_n 0, 1) := by decide +kernel
theorem dX2_allows_108 : decode cX2_allows 108 = .ok (.getfield 40, 3) := by decide +kernel
theorem dX2_allows_111 : decode cX2_allows 111 = .ok (.invokevirtual 47, 3) := by decide +kernel
theorem dX2_allows_114 : decode cX2_allows 114 = .ok (.ifCond .eq 7, 3) := by decide +kernel
theorem dX2_allows_117 : decode cX2_allows 117 = .ok (.iconst 1, 1) := by decide +kernel
theorem dX2_allows_118 : decode cX2_allows 118 = .ok (.goto 4, 3) := by decide +kernel
theorem dX2_allows_121 : decode cX2_allows 121 = .ok (.iconst 0, 1) := by decide +kernel
theorem dX2_allows_122 : decode cX2_allows 122 = .ok (.ireturn, 1) := by decide +kernel
theorem dX2_take_0 : decode cX2_take 0 = .ok (.aload_n 0, 1) := by decide +kernel
theorem dX2_take_1 : decode cX2_take 1 = .ok (.getfield 37, 3) := by decide +kernel
theorem dX2_take_4 : decode cX2_take 4 = .ok (.ifCond .lt 21, 3) := by decide +kernel
theorem dX2_take_7 : decode cX2_take 7 = .ok (.aload_n 0, 1) := by decide +kernel
theorem dX2_take_8 : decode cX2_take 8 = .ok (.getfield 37, 3) := by decide +kernel
theorem dX2_take_11 : decode cX2_take 11 = .ok (.bipush 22, 2) := by decide +kernel
theorem dX2_take_13 : decode cX2_take 13 = .ok (.if_icmp .ge 12, 3) := by decide +kernel
theorem dX2_take_16 : decode cX2_take 16 = .ok (.aload_n 0, 1) := by decide +kernel
theorem dX2_take_17 : decode cX2_take 17 = .ok (.getfield 30, 3) := by decide +kernel
theorem dX2_take_20 : decode cX2_take 20 = .ok (.bipush 22, 2) := by decide +kernel
theorem dX2_take_22 : decode cX2_take 22 = .ok (.if_icmp .lt 4, 3) := by decide +kernel
theorem dX2_take_25 : decode cX2_take 25 = .ok (.return_, 1) := by decide +kernel
theorem dX2_take_26 : decode cX2_take 26 = .ok (.aload_n 0, 1) := by decide +kernel
theorem dX2_take_27 : decode cX2_take 27 = .ok (.getfield 21, 3) := by decide +kernel
theorem dX2_take_30 : decode cX2_take 30 = .ok (.aload_n 0, 1) := by decide +kernel
theorem dX2_take_31 : decode cX2_take 31 = .ok (.getfield 30, 3) := by decide +kernel
theorem dX2_take_34 : decode cX2_take 34 = .ok (.aload_n 0, 1) := by decide +kernel
theorem dX2_take_35 : decode cX2_take 35 = .ok (.getfield 37, 3) := by decide +kernel
theorem dX2_take_38 : decode cX2_take 38 = .ok (.iastore, 1) := by decide +kernel
theorem dX2_take_39 : decode cX2_take 39 = .ok (.aload_n 0, 1) := by decide +kernel
theorem dX2_take_40 : decode cX2_take 40 = .ok (.getfield 24, 3) := by decide +kernel
theorem dX2_take_43 : decode cX2_take 43 = .ok (.aload_n 0, 1) := by decide +kernel
theorem dX2_take_44 : decode cX2_take 44 = .ok (.getfield 30, 3) := by decide +kernel
theorem dX2_take_47 : decode cX2_take 47 = .ok (.aload_n 0, 1) := by decide +kernel
theorem dX2_take_48 : decode cX2_take 48 = .ok (.getfield 40, 3) := by decide +kernel
theorem dX2_take_51 : decode cX2_take 51 = .ok (.iastore, 1) := by decide +kernel
theorem dX2_take_52 : decode cX2_take 52 = .ok (.aload_n 0, 1) := by decide +kernel
theorem dX2_take_53 : decode cX2_take 53 = .ok (.getfield 18, 3) := by decide +kernel
theorem dX2_take_56 : decode cX2_take 56 = .ok (.aload_n 0, 1) := by decide +kernel
theorem dX2_take_57 : decode cX2_take 57 = .ok (.getfield 30, 3) := by decide +kernel
theorem dX2_take_60 : decode cX2_take 60 = .ok (.iload_n 1, 1) := by decide +kernel
theorem dX2_take_61 : decode cX2_take 61 = .ok (.iastore, 1) := by decide +kernel
theorem dX2_take_62 : decode cX2_take 62 = .ok (.aload_n 0, 1) := by decide +kernel
theorem dX2_take_63 : decode cX2_take 63 = .ok (.getfield 27, 3) := by decide +kernel
theorem dX2_take_66 : decode cX2_take 66 = .ok (.aload_n 0, 1) := by decide +kernel
theorem dX2_take_67 : decode cX2_take 67 = .ok (.getfield 30, 3) := by decide +kernel
theorem dX2_take_70 : decode cX2_take 70 = .ok (.aload_n 0, 1) := by decide +kernel
theorem dX2_take_71 : decode cX2_take 71 = .ok (.getfield 34, 3) := by decide +kernel
theorem dX2_take_74 : decode cX2_take 74 = .ok (.iastore, 1) := by decide +kernel
theorem dX2_take_75 : decode cX2_take 75 = .ok (.aload_n 0, 1) := by decide +kernel
theorem dX2_take_76 : decode cX2_take 76 = .ok (.dup, 1) := by decide +kernel
theorem dX2_take_77 : decode cX2_take 77 = .ok (.getfield 30, 3) := by decide +kernel
theorem dX2_take_80 : decode cX2_take 80 = .ok (.iconst 1, 1) := by decide +kernel
theorem dX2_take_81 : decode cX2_take 81 = .ok (.iadd, 1) := by decide +kernel
theorem dX2_take_82 : decode cX2_take 82 = .ok (.putfield 30, 3) := by decide +kernel
theorem dX2_take_85 : decode cX2_take 85 = .ok (.aload_n 0, 1) := by decide +kernel
theorem dX2_take_86 : decode cX2_take 86 = .ok (.getfield 15, 3) := by decide +kernel
theorem dX2_take_89 : decode cX2_take 89 = .ok (.aload_n 0, 1) := by decide +kernel
theorem dX2_take_90 : decode cX2_take 90 = .ok (.getfield 37, 3) := by decide +kernel
theorem dX2_take_93 : decode cX2_take 93 = .ok (.aload_n 0, 1) := by decide +kernel
theorem dX2_take_94 : decode cX2_take 94 = .ok (.getfield 40, 3) := by decide +kernel
theorem dX2_take_97 : decode cX2_take 97 = .ok (.invokestatic 87, 3) := by decide +kernel
theorem dX2_take_100 : decode cX2_take 100 = .ok (.ifCond .eq 11, 3) := by decide +kernel
theorem dX2_take_103 : decode cX2_take 103 = .ok (.aload_n 0, 1) := by decide +kernel
theorem dX2_take_104 : decode cX2_take 104 = .ok (.iload_n 1, 1) := by decide +kernel
theorem dX2_take_105 : decode cX2_take 105 = .ok (.invokevirtual 104, 3) := by decide +kernel
theorem dX2_take_108 : decode cX2_take 108 = .ok (.goto 4, 3) := by decide +kernel
theorem dX2_take_111 : decode cX2_take 111 = .ok (.iload_n 1, 1) := by decide +kernel
theorem dX2_take_112 : decode cX2_take 112 = .ok (.iastore, 1) := by decide +kernel
theorem dX2_take_113 : decode cX2_take 113 = .ok (.aload_n 0, 1) := by decide +kernel
theorem dX2_take_114 : decode cX2_take 114 = .ok (.aload_n 0, 1) := by decide +kernel
theorem dX2_take_115 : decode cX2_take 115 = .ok (.getfield 37, 3) := by decide +kernel
theorem dX2_take_118 : decode cX2_take 118 = .ok (.iconst 1, 1) := by decide +kernel
theorem dX2_take_119 : decode cX2_take 119 = .ok (.iadd, 1) := by decide +kernel
theorem dX2_take_120 : decode cX2_take 120 = .ok (.invokevirtual 56, 3) := by decide +kernel
theorem dX2_take_123 : decode cX2_take 123 = .ok (.return_, 1) := by decide +kernel
theorem dX2_objectOf_0 : decode cX2_objectOf 0 = .ok (.iload_n 1, 1) := by decide +kernel
theorem dX2_objectOf_1 : decode cX2_objectOf 1 = .ok (.bipush 10, 2) := by decide +kernel
theorem dX2_objectOf_3 : decode cX2_objectOf 3 = .ok (.if_icmp .ge 7, 3) := by decide +kernel
theorem dX2_objectOf_6 : decode cX2_objectOf 6 = .ok (.iload_n 1, 1) := by decide +kernel
theorem dX2_objectOf_7 : decode cX2_objectOf 7 = .ok (.iconst 1, 1) := by decide +kernel
theorem dX2_objectOf_8 : decode cX2_objectOf 8 = .ok (.isub, 1) := by decide +kernel
theorem dX2_objectOf_9 : decode cX2_objectOf 9 = .ok (.ireturn, 1) := by decide +kernel
theorem dX2_objectOf_10 : decode cX2_objectOf 10 = .ok (.aload_n 0, 1) := by decide +kernel
theorem dX2_objectOf_11 : decode cX2_objectOf 11 = .ok (.getfield 34, 3) := by decide +kernel
theorem dX2_objectOf_14 : decode cX2_objectOf 14 = .ok (.iconst 5, 1) := by decide +kernel
theorem dX2_objectOf_15 : decode cX2_objectOf 15 = .ok (.if_icmp .lt 5, 3) := by decide +kernel
theorem dX2_objectOf_18 : decode cX2_objectOf 18 = .ok (.iconst (-1), 1) := by decide +kernel
theorem dX2_objectOf_19 : decode cX2_objectOf 19 = .ok (.ireturn, 1) := by decide +kernel
theorem dX2_objectOf_20 : decode cX2_objectOf 20 = .ok (.aload_n 0, 1) := by decide +kernel
theorem dX2_objectOf_21 : decode cX2_objectOf 21 = .ok (.getfield 9, 3) := by decide +kernel
theorem dX2_objectOf_24 : decode cX2_objectOf 24 = .ok (.aload_n 0, 1) := by decide +kernel
theorem dX2_objectOf_25 : decode cX2_objectOf 25 = .ok (.getfield 34, 3) := by decide +kernel
theorem dX2_objectOf_28 : decode cX2_objectOf 28 = .ok (.iload_n 1, 1) := by decide +kernel
theorem dX2_objectOf_29 : decode cX2_objectOf 29 = .ok (.bipush 10, 2) := by decide +kernel
theorem dX2_objectOf_31 : decode cX2_objectOf 31 = .ok (.isub, 1) := by decide +kernel
theorem dX2_objectOf_32 : decode cX2_objectOf 32 = .ok (.iastore, 1) := by decide +kernel
theorem dX2_objectOf_33 : decode cX2_objectOf 33 = .ok (.aload_n 0, 1) := by decide +kernel
theorem dX2_objectOf_34 : decode cX2_objectOf 34 = .ok (.dup, 1) := by decide +kernel
theorem dX2_objectOf_35 : decode cX2_objectOf 35 = .ok (.getfield 34, 3) := by decide +kernel
theorem dX2_objectOf_38 : decode cX2_objectOf 38 = .ok (.iconst 1, 1) := by decide +kernel
theorem dX2_objectOf_39 : decode cX2_objectOf 39 = .ok (.iadd, 1) := by decide +kernel
theorem dX2_objectOf_40 : decode cX2_objectOf 40 = .ok (.putfield 34, 3) := by decide +kernel
theorem dX2_objectOf_43 : decode cX2_objectOf 43 = .ok (.aload_n 0, 1) := by decide +kernel
theorem dX2_objectOf_44 : decode cX2_objectOf 44 = .ok (.getfield 34, 3) := by decide +kernel
theorem dX2_objectOf_47 : decode cX2_objectOf 47 = .ok (.iconst 1, 1) := by decide +kernel
theorem dX2_objectOf_48 : decode cX2_objectOf 48 = .ok (.isub, 1) := by decide +kernel
theorem dX2_objectOf_49 : decode cX2_objectOf 49 = .ok (.ireturn, 1) := by decide +kernel
theorem dX2_waitFrom_0 : decode cX2_waitFrom 0 = .ok (.iconst 2, 1) := by decide +kernel
theorem dX2_waitFrom_1 : decode cX2_waitFrom 1 = .ok (.aload_n 0, 1) := by decide +kernel
theorem dX2_waitFrom_2 : decode cX2_waitFrom 2 = .ok (.getfield 34, 3) := by decide +kernel
theorem dX2_waitFrom_5 : decode cX2_waitFrom 5 = .ok (.iconst 4, 1) := by decide +kernel
theorem dX2_waitFrom_6 : decode cX2_waitFrom 6 = .ok (.imul, 1) := by decide +kernel
theorem dX2_waitFrom_7 : decode cX2_waitFrom 7 = .ok (.iadd, 1) := by decide +kernel
theorem dX2_waitFrom_8 : decode cX2_waitFrom 8 = .ok (.istore_n 2, 1) := by decide +kernel
theorem dX2_waitFrom_9 : decode cX2_waitFrom 9 = .ok (.iload_n 1, 1) := by decide +kernel
theorem dX2_waitFrom_10 : decode cX2_waitFrom 10 = .ok (.istore_n 3, 1) := by decide +kernel
theorem dX2_waitFrom_11 : decode cX2_waitFrom 11 = .ok (.iload_n 3, 1) := by decide +kernel
theorem dX2_waitFrom_12 : decode cX2_waitFrom 12 = .ok (.iload_n 2, 1) := by decide +kernel
theorem dX2_waitFrom_13 : decode cX2_waitFrom 13 = .ok (.if_icmp .ge 67, 3) := by decide +kernel
theorem dX2_waitFrom_16 : decode cX2_waitFrom 16 = .ok (.iload_n 3, 1) := by decide +kernel
theorem dX2_waitFrom_17 : decode cX2_waitFrom 17 = .ok (.iconst 2, 1) := by decide +kernel
theorem dX2_waitFrom_18 : decode cX2_waitFrom 18 = .ok (.isub, 1) := by decide +kernel
theorem dX2_waitFrom_19 : decode cX2_waitFrom 19 = .ok (.istore 4, 2) := by decide +kernel
theorem dX2_waitFrom_21 : decode cX2_waitFrom 21 = .ok (.aload_n 0, 1) := by decide +kernel
theorem dX2_waitFrom_22 : decode cX2_waitFrom 22 = .ok (.iload 4, 2) := by decide +kernel
theorem dX2_waitFrom_24 : decode cX2_waitFrom 24 = .ok (.ifCond .ge 14, 3) := by decide +kernel
theorem dX2_waitFrom_27 : decode cX2_waitFrom 27 = .ok (.aload_n 0, 1) := by decide +kernel
theorem dX2_waitFrom_28 : decode cX2_waitFrom 28 = .ok (.getfield 43, 3) := by decide +kernel
theorem dX2_waitFrom_31 : decode cX2_waitFrom 31 = .ok (.iload_n 3, 1) := by decide +kernel
theorem dX2_waitFrom_32 : decode cX2_waitFrom 32 = .ok (.invokevirtual 107, 3) := by decide +kernel
theorem dX2_waitFrom_35 : decode cX2_waitFrom 35 = .ok (.goto 22, 3) := by decide +kernel
theorem dX2_waitFrom_38 : decode cX2_waitFrom 38 = .ok (.aload_n 0, 1) := by decide +kernel
theorem dX2_waitFrom_39 : decode cX2_waitFrom 39 = .ok (.getfield 43, 3) := by decide +kernel
theorem dX2_waitFrom_42 : decode cX2_waitFrom 42 = .ok (.aload_n 0, 1) := by decide +kernel
theorem dX2_waitFrom_43 : decode cX2_waitFrom 43 = .ok (.iload 4, 2) := by decide +kernel
theorem dX2_waitFrom_45 : decode cX2_waitFrom 45 = .ok (.iconst 4, 1) := by decide +kernel
theorem dX2_waitFrom_46 : decode cX2_waitFrom 46 = .ok (.idiv, 1) := by decide +kernel
theorem dX2_waitFrom_47 : decode cX2_waitFrom 47 = .ok (.invokevirtual 98, 3) := by decide +kernel
theorem dX2_waitFrom_50 : decode cX2_waitFrom 50 = .ok (.iload 4, 2) := by decide +kernel
theorem dX2_waitFrom_52 : decode cX2_waitFrom 52 = .ok (.iconst 4, 1) := by decide +kernel
theorem dX2_waitFrom_53 : decode cX2_waitFrom 53 = .ok (.irem, 1) := by decide +kernel
theorem dX2_waitFrom_54 : decode cX2_waitFrom 54 = .ok (.invokevirtual 110, 3) := by decide +kernel
theorem dX2_waitFrom_57 : decode cX2_waitFrom 57 = .ok (.putfield 40, 3) := by decide +kernel
theorem dX2_waitFrom_60 : decode cX2_waitFrom 60 = .ok (.aload_n 0, 1) := by decide +kernel
theorem dX2_waitFrom_61 : decode cX2_waitFrom 61 = .ok (.getfield 40, 3) := by decide +kernel
theorem dX2_waitFrom_64 : decode cX2_waitFrom 64 = .ok (.iconst (-1), 1) := by decide +kernel
theorem dX2_waitFrom_65 : decode cX2_waitFrom 65 = .ok (.if_icmp .eq 9, 3) := by decide +kernel
theorem dX2_waitFrom_68 : decode cX2_waitFrom 68 = .ok (.aload_n 0, 1) := by decide +kernel
theorem dX2_waitFrom_69 : decode cX2_waitFrom 69 = .ok (.iload_n 3, 1) := by decide +kernel
theorem dX2_waitFrom_70 : decode cX2_waitFrom 70 = .ok (.putfield 37, 3) := by decide +kernel
theorem dX2_waitFrom_73 : decode cX2_waitFrom 73 = .ok (.return_, 1) := by decide +kernel
theorem dX2_waitFrom_74 : decode cX2_waitFrom 74 = .ok (.iinc 3 1, 3) := by decide +kernel
theorem dX2_waitFrom_77 : decode cX2_waitFrom 77 = .ok (.goto (-66), 3) := by decide +kernel
theorem dX2_waitFrom_80 : decode cX2_waitFrom 80 = .ok (.aload_n 0, 1) := by decide +kernel
theorem dX2_waitFrom_81 : decode cX2_waitFrom 81 = .ok (.iconst (-1), 1) := by decide +kernel
theorem dX2_waitFrom_82 : decode cX2_waitFrom 82 = .ok (.putfield 37, 3) := by decide +kernel
theorem dX2_waitFrom_85 : decode cX2_waitFrom 85 = .ok (.aload_n 0, 1) := by decide +kernel
theorem dX2_waitFrom_86 : decode cX2_waitFrom 86 = .ok (.iconst (-1), 1) := by decide +kernel
theorem dX2_waitFrom_87 : decode cX2_waitFrom 87 = .ok (.putfield 40, 3) := by decide +kernel
theorem dX2_waitFrom_90 : decode cX2_waitFrom 90 = .ok (.return_, 1) := by decide +kernel
theorem dX6_init_0 : decode cX6_init 0 = .ok (.aload_n 0, 1) := by decide +kernel
theorem dX6_init_1 : decode cX6_init 1 = .ok (.invokespecial 3, 3) := by decide +kernel
theorem dX6_init_4 : decode cX6_init 4 = .ok (.aload_n 0, 1) := by decide +kernel
theorem dX6_init_5 : decode cX6_init 5 = .ok (.iload_n 1, 1) := by decide +kernel
theorem dX6_init_6 : decode cX6_init 6 = .ok (.putfield 9, 3) := by decide +kernel
theorem dX6_init_9 : decode cX6_init 9 = .ok (.aload_n 0, 1) := by decide +kernel
theorem dX6_init_10 : decode cX6_init 10 = .ok (.iload_n 2, 1) := by decide +kernel
theorem dX6_init_11 : decode cX6_init 11 = .ok (.putfield 15, 3) := by decide +kernel
theorem dX6_init_14 : decode cX6_init 14 = .ok (.aload_n 0, 1) := by decide +kernel
theorem dX6_init_15 : decode cX6_init 15 = .ok (.iload_n 3, 1) := by decide +kernel
theorem dX6_init_16 : decode cX6_init 16 = .ok (.putfield 18, 3) := by decide +kernel
theorem dX6_init_19 : decode cX6_init 19 = .ok (.aload_n 0, 1) := by decide +kernel
theorem dX6_init_20 : decode cX6_init 20 = .ok (.iload 4, 2) := by decide +kernel
theorem dX6_init_22 : decode cX6_init 22 = .ok (.iload_n 3, 1) := by decide +kernel
theorem dX6_init_23 : decode cX6_init 23 = .ok (.if_icmp .ne 17, 3) := by decide +kernel
theorem dX6_init_26 : decode cX6_init 26 = .ok (.iload_n 1, 1) := by decide +kernel
theorem dX6_init_27 : decode cX6_init 27 = .ok (.iconst 1, 1) := by decide +kernel
theorem dX6_init_28 : decode cX6_init 28 = .ok (.if_icmp .eq 8, 3) := by decide +kernel
theorem dX6_init_31 : decode cX6_init 31 = .ok (.iload_n 1, 1) := by decide +kernel
theorem dX6_init_32 : decode cX6_init 32 = .ok (.iconst 2, 1) := by decide +kernel
theorem dX6_init_33 : decode cX6_init 33 = .ok (.if_icmp .ne 7, 3) := by decide +kernel
theorem dX6_init_36 : decode cX6_init 36 = .ok (.iconst (-1), 1) := by decide +kernel
theorem dX6_init_37 : decode cX6_init 37 = .ok (.goto 5, 3) := by decide +kernel
theorem dX6_init_40 : decode cX6_init 40 = .ok (.iload 4, 2) := by decide +kernel
theorem dX6_init_42 : decode cX6_init 42 = .ok (.putfield 21, 3) := by decide +kernel
theorem dX6_init_45 : decode cX6_init 45 = .ok (.return_, 1) := by decide +kernel
theorem dX6_holdsIn_0 : decode cX6_holdsIn 0 = .ok (.aload_n 0, 1) := by decide +kernel
theorem dX6_holdsIn_1 : decode cX6_holdsIn 1 = .ok (.getfield 9, 3) := by decide +kernel
theorem dX6_holdsIn_4 : decode cX6_holdsIn 4 = .ok (.lookupswitch 74 #[(1, 36), (2, 42), (6, 48)], 36) := by decide +kernel
theorem dX6_holdsIn_40 : decode cX6_holdsIn 40 = .ok (.aload_n 0, 1) := by decide +kernel
theorem dX6_holdsIn_41 : decode cX6_holdsIn 41 = .ok (.aload_n 1, 1) := by decide +kernel
theorem dX6_holdsIn_42 : decode cX6_holdsIn 42 = .ok (.invokevirtual 24, 3) := by decide +kernel
theorem dX6_holdsIn_45 : decode cX6_holdsIn 45 = .ok (.ireturn, 1) := by decide +kernel
theorem dX6_holdsIn_46 : decode cX6_holdsIn 46 = .ok (.aload_n 0, 1) := by decide +kernel
theorem dX6_holdsIn_47 : decode cX6_holdsIn 47 = .ok (.aload_n 1, 1) := by decide +kernel
theorem dX6_holdsIn_48 : decode cX6_holdsIn 48 = .ok (.invokevirtual 28, 3) := by decide +kernel
theorem dX6_holdsIn_51 : decode cX6_holdsIn 51 = .ok (.ireturn, 1) := by decide +kernel
theorem dX6_holdsIn_52 : decode cX6_holdsIn 52 = .ok (.aload_n 1, 1) := by decide +kernel
theorem dX6_holdsIn_53 : decode cX6_holdsIn 53 = .ok (.iconst 0, 1) := by decide +kernel
theorem dX6_holdsIn_54 : decode cX6_holdsIn 54 = .ok (.invokevirtual 31, 3) := by decide +kernel
theorem dX6_holdsIn_57 : decode cX6_holdsIn 57 = .ok (.istore_n 2, 1) := by decide +kernel
theorem dX6_holdsIn_58 : decode cX6_holdsIn 58 = .ok (.iload_n 2, 1) := by decide +kernel
theorem dX6_holdsIn_59 : decode cX6_holdsIn 59 = .ok (.iconst (-1), 1) := by decide +kernel
theorem dX6_holdsIn_60 : decode cX6_holdsIn 60 = .ok (.if_icmp .eq 12, 3) := by decide +kernel
theorem dX6_holdsIn_63 : decode cX6_holdsIn 63 = .ok (.iload_n 2, 1) := by decide +kernel
theorem dX6_holdsIn_64 : decode cX6_holdsIn 64 = .ok (.aload_n 1, 1) := by decide +kernel
theorem dX6_holdsIn_65 : decode cX6_holdsIn 65 = .ok (.iconst 1, 1) := by decide +kernel
theorem dX6_holdsIn_66 : decode cX6_holdsIn 66 = .ok (.invokevirtual 31, 3) := by decide +kernel
theorem dX6_holdsIn_69 : decode cX6_holdsIn 69 = .ok (.if_icmp .eq 7, 3) := by decide +kernel
theorem dX6_holdsIn_72 : decode cX6_holdsIn 72 = .ok (.iconst 1, 1) := by decide +kernel
theorem dX6_holdsIn_73 : decode cX6_holdsIn 73 = .ok (.goto 4, 3) := by decide +kernel
theorem dX6_holdsIn_76 : decode cX6_holdsIn 76 = .ok (.iconst 0, 1) := by decide +kernel
theorem dX6_holdsIn_77 : decode cX6_holdsIn 77 = .ok (.ireturn, 1) := by decide +kernel
theorem dX6_holdsIn_78 : decode cX6_holdsIn 78 = .ok (.iconst 0, 1) := by decide +kernel
theorem dX6_holdsIn_79 : decode cX6_holdsIn 79 = .ok (.istore_n 3, 1) := by decide +kernel
theorem dX6_holdsIn_80 : decode cX6_holdsIn 80 = .ok (.iload_n 3, 1) := by decide +kernel
theorem dX6_holdsIn_81 : decode cX6_holdsIn 81 = .ok (.aload_n 1, 1) := by decide +kernel
theorem dX6_holdsIn_82 : decode cX6_holdsIn 82 = .ok (.getfield 37, 3) := by decide +kernel
theorem dX6_holdsIn_85 : decode cX6_holdsIn 85 = .ok (.if_icmp .ge 32, 3) := by decide +kernel
theorem dX6_holdsIn_88 : decode cX6_holdsIn 88 = .ok (.aload_n 1, 1) := by decide +kernel
theorem dX6_holdsIn_89 : decode cX6_holdsIn 89 = .ok (.iload_n 3, 1) := by decide +kernel
theorem dX6_holdsIn_90 : decode cX6_holdsIn 90 = .ok (.aload_n 0, 1) := by decide +kernel
theorem dX6_holdsIn_91 : decode cX6_holdsIn 91 = .ok (.getfield 15, 3) := by decide +kernel
theorem dX6_holdsIn_94 : decode cX6_holdsIn 94 = .ok (.invokevirtual 40, 3) := by decide +kernel
theorem dX6_holdsIn_97 : decode cX6_holdsIn 97 = .ok (.ifCond .eq 14, 3) := by decide +kernel
theorem dX6_holdsIn_100 : decode cX6_holdsIn 100 = .ok (.aload_n 0, 1) := by decide +kernel
theorem dX6_holdsIn_101 : decode cX6_holdsIn 101 = .ok (.aload_n 1, 1) := by decide +kernel
theorem dX6_holdsIn_102 : decode cX6_holdsIn 102 = .ok (.iload_n 3, 1) := by decide +kernel
theorem dX6_holdsIn_103 : decode cX6_holdsIn 103 = .ok (.invokevirtual 44, 3) := by decide +kernel
theorem dX6_holdsIn_106 : decode cX6_holdsIn 106 = .ok (.ifCond .ne 5, 3) := by decide +kernel
theorem dX6_holdsIn_109 : decode cX6_holdsIn 109 = .ok (.iconst 0, 1) := by decide +kernel
theorem dX6_holdsIn_110 : decode cX6_holdsIn 110 = .ok (.ireturn, 1) := by decide +kernel
theorem dX6_holdsIn_111 : decode cX6_holdsIn 111 = .ok (.iinc 3 1, 3) := by decide +kernel
theorem dX6_holdsIn_114 : decode cX6_holdsIn 114 = .ok (.goto (-34), 3) := by decide +kernel
theorem dX6_holdsIn_117 : decode cX6_holdsIn 117 = .ok (.iconst 1, 1) := by decide +kernel
theorem dX6_holdsIn_118 : decode cX6_holdsIn 118 = .ok (.ireturn, 1) := by decide +kernel
theorem dX6_holdsAt_0 : decode cX6_holdsAt 0 = .ok (.aload_n 1, 1) := by decide +kernel
theorem dX6_holdsAt_1 : decode cX6_holdsAt 1 = .ok (.iload_n 2, 1) := by decide +kernel
theorem dX6_holdsAt_2 : decode cX6_holdsAt 2 = .ok (.aload_n 0, 1) := by decide +kernel
theorem dX6_holdsAt_3 : decode cX6_holdsAt 3 = .ok (.getfield 18, 3) := by decide +kernel
theorem dX6_holdsAt_6 : decode cX6_holdsAt 6 = .ok (.invokevirtual 48, 3) := by decide +kernel
theorem dX6_holdsAt_9 : decode cX6_holdsAt 9 = .ok (.istore_n 3, 1) := by decide +kernel
theorem dX6_holdsAt_10 : decode cX6_holdsAt 10 = .ok (.aload_n 0, 1) := by decide +kernel
theorem dX6_holdsAt_11 : decode cX6_holdsAt 11 = .ok (.getfield 9, 3) := by decide +kernel
theorem dX6_holdsAt_14 : decode cX6_holdsAt 14 = .ok (.tableswitch 160 0 5 #[38, 160, 160, 49, 85, 124], 38) := by decide +kernel
theorem dX6_holdsAt_52 : decode cX6_holdsAt 52 = .ok (.iload_n 3, 1) := by decide +kernel
theorem dX6_holdsAt_53 : decode cX6_holdsAt 53 = .ok (.iconst (-1), 1) := by decide +kernel
theorem dX6_holdsAt_54 : decode cX6_holdsAt 54 = .ok (.if_icmp .eq 7, 3) := by decide +kernel
theorem dX6_holdsAt_57 : decode cX6_holdsAt 57 = .ok (.iconst 1, 1) := by decide +kernel
theorem dX6_holdsAt_58 : decode cX6_holdsAt 58 = .ok (.goto 4, 3) := by decide +kernel
theorem dX6_holdsAt_61 : decode cX6_holdsAt 61 = .ok (.iconst 0, 1) := by decide +kernel
theorem dX6_holdsAt_62 : decode cX6_holdsAt 62 = .ok (.ireturn, 1) := by decide +kernel
theorem dX6_holdsAt_63 : decode cX6_holdsAt 63 = .ok (.iload_n 3, 1) := by decide +kernel
theorem dX6_holdsAt_64 : decode cX6_holdsAt 64 = .ok (.iconst (-1), 1) := by decide +kernel
theorem dX6_holdsAt_65 : decode cX6_holdsAt 65 = .ok (.if_icmp .eq 28, 3) := by decide +kernel
theorem dX6_holdsAt_68 : decode cX6_holdsAt 68 = .ok (.aload_n 1, 1) := by decide +kernel
theorem dX6_holdsAt_69 : decode cX6_holdsAt 69 = .ok (.iload_n 3, 1) := by decide +kernel
theorem dX6_holdsAt_70 : decode cX6_holdsAt 70 = .ok (.aload_n 0, 1) := by decide +kernel
theorem dX6_holdsAt_71 : decode cX6_holdsAt 71 = .ok (.getfield 15, 3) := by decide +kernel
theorem dX6_holdsAt_74 : decode cX6_holdsAt 74 = .ok (.invokevirtual 40, 3) := by decide +kernel
theorem dX6_holdsAt_77 : decode cX6_holdsAt 77 = .ok (.ifCond .eq 20, 3) := by decide +kernel
theorem dX6_holdsAt_80 : decode cX6_holdsAt 80 = .ok (.aload_n 1, 1) := by decide +kernel
theorem dX6_holdsAt_81 : decode cX6_holdsAt 81 = .ok (.iload_n 3, 1) := by decide +kernel
theorem dX6_holdsAt_82 : decode cX6_holdsAt 82 = .ok (.aload_n 0, 1) := by decide +kernel
theorem dX6_holdsAt_83 : decode cX6_holdsAt 83 = .ok (.getfield 21, 3) := by decide +kernel
theorem dX6_holdsAt_86 : decode cX6_holdsAt 86 = .ok (.invokevirtual 48, 3) := by decide +kernel
theorem dX6_holdsAt_89 : decode cX6_holdsAt 89 = .ok (.iload_n 2, 1) := by decide +kernel
theorem dX6_holdsAt_90 : decode cX6_holdsAt 90 = .ok (.if_icmp .ne 7, 3) := by decide +kernel
theorem dX6_holdsAt_93 : decode cX6_holdsAt 93 = .ok (.iconst 1, 1) := by decide +kernel
theorem dX6_holdsAt_94 : decode cX6_holdsAt 94 = .ok (.goto 4, 3) := by decide +kernel
theorem dX6_holdsAt_97 : decode cX6_holdsAt 97 = .ok (.iconst 0, 1) := by decide +kernel
theorem dX6_holdsAt_98 : decode cX6_holdsAt 98 = .ok (.ireturn, 1) := by decide +kernel
theorem dX6_holdsAt_99 : decode cX6_holdsAt 99 = .ok (.aload_n 1, 1) := by decide +kernel
theorem dX6_holdsAt_100 : decode cX6_holdsAt 100 = .ok (.iload_n 3, 1) := by decide +kernel
theorem dX6_holdsAt_101 : decode cX6_holdsAt 101 = .ok (.aload_n 0, 1) := by decide +kernel
theorem dX6_holdsAt_102 : decode cX6_holdsAt 102 = .ok (.getfield 15, 3) := by decide +kernel
theorem dX6_holdsAt_105 : decode cX6_holdsAt 105 = .ok (.invokevirtual 40, 3) := by decide +kernel
theorem dX6_holdsAt_108 : decode cX6_holdsAt 108 = .ok (.ifCond .eq 24, 3) := by decide +kernel
theorem dX6_holdsAt_111 : decode cX6_holdsAt 111 = .ok (.aload_n 1, 1) := by decide +kernel
theorem dX6_holdsAt_112 : decode cX6_holdsAt 112 = .ok (.iload_n 2, 1) := by decide +kernel
theorem dX6_holdsAt_113 : decode cX6_holdsAt 113 = .ok (.aload_n 0, 1) := by decide +kernel
theorem dX6_holdsAt_114 : decode cX6_holdsAt 114 = .ok (.getfield 21, 3) := by decide +kernel
theorem dX6_holdsAt_117 : decode cX6_holdsAt 117 = .ok (.invokevirtual 48, 3) := by decide +kernel
theorem dX6_holdsAt_120 : decode cX6_holdsAt 120 = .ok (.aload_n 1, 1) := by decide +kernel
theorem dX6_holdsAt_121 : decode cX6_holdsAt 121 = .ok (.iload_n 3, 1) := by decide +kernel
theorem dX6_holdsAt_122 : decode cX6_holdsAt 122 = .ok (.aload_n 0, 1) := by decide +kernel
theorem dX6_holdsAt_123 : decode cX6_holdsAt 123 = .ok (.getfield 21, 3) := by decide +kernel
theorem dX6_holdsAt_126 : decode cX6_holdsAt 126 = .ok (.invokevirtual 48, 3) := by decide +kernel
theorem dX6_holdsAt_129 : decode cX6_holdsAt 129 = .ok (.if_icmp .gt 7, 3) := by decide +kernel
theorem dX6_holdsAt_132 : decode cX6_holdsAt 132 = .ok (.iconst 1, 1) := by decide +kernel
theorem dX6_holdsAt_133 : decode cX6_holdsAt 133 = .ok (.goto 4, 3) := by decide +kernel
theorem dX6_holdsAt_136 : decode cX6_holdsAt 136 = .ok (.iconst 0, 1) := by decide +kernel
theorem dX6_holdsAt_137 : decode cX6_holdsAt 137 = .ok (.ireturn, 1) := by decide +kernel
theorem dX6_holdsAt_138 : decode cX6_holdsAt 138 = .ok (.iload_n 3, 1) := by decide +kernel
theorem dX6_holdsAt_139 : decode cX6_holdsAt 139 = .ok (.iconst (-1), 1) := by decide +kernel
theorem dX6_holdsAt_140 : decode cX6_holdsAt 140 = .ok (.if_icmp .ne 7, 3) := by decide +kernel
theorem dX6_holdsAt_143 : decode cX6_holdsAt 143 = .ok (.iconst 1, 1) := by decide +kernel
theorem dX6_holdsAt_144 : decode cX6_holdsAt 144 = .ok (.goto 4, 3) := by decide +kernel
theorem dX6_holdsAt_147 : decode cX6_holdsAt 147 = .ok (.iconst 0, 1) := by decide +kernel
theorem dX6_holdsAt_148 : decode cX6_holdsAt 148 = .ok (.aload_n 1, 1) := by decide +kernel
theorem dX6_holdsAt_149 : decode cX6_holdsAt 149 = .ok (.iload_n 2, 1) := by decide +kernel
theorem dX6_holdsAt_150 : decode cX6_holdsAt 150 = .ok (.aload_n 0, 1) := by decide +kernel
theorem dX6_holdsAt_151 : decode cX6_holdsAt 151 = .ok (.getfield 21, 3) := by decide +kernel
theorem dX6_holdsAt_154 : decode cX6_holdsAt 154 = .ok (.invokevirtual 48, 3) := by decide +kernel
theorem dX6_holdsAt_157 : decode cX6_holdsAt 157 = .ok (.ifCond .ne 7, 3) := by decide +kernel
theorem dX6_holdsAt_160 : decode cX6_holdsAt 160 = .ok (.iconst 1, 1) := by decide +kernel
theorem dX6_holdsAt_161 : decode cX6_holdsAt 161 = .ok (.goto 4, 3) := by decide +kernel
theorem dX6_holdsAt_164 : decode cX6_holdsAt 164 = .ok (.iconst 0, 1) := by decide +kernel
theorem dX6_holdsAt_165 : decode cX6_holdsAt 165 = .ok (.if_icmp .ne 7, 3) := by decide +kernel
theorem dX6_holdsAt_168 : decode cX6_holdsAt 168 = .ok (.iconst 1, 1) := by decide +kernel
theorem dX6_holdsAt_169 : decode cX6_holdsAt 169 = .ok (.goto 4, 3) := by decide +kernel
theorem dX6_holdsAt_172 : decode cX6_holdsAt 172 = .ok (.iconst 0, 1) := by decide +kernel
theorem dX6_holdsAt_173 : decode cX6_holdsAt 173 = .ok (.ireturn, 1) := by decide +kernel
theorem dX6_holdsAt_174 : decode cX6_holdsAt 174 = .ok (.iconst 1, 1) := by decide +kernel
theorem dX6_holdsAt_175 : decode cX6_holdsAt 175 = .ok (.ireturn, 1) := by decide +kernel
theorem dX6_hasNoCycle_0 : decode cX6_hasNoCycle 0 = .ok (.iconst 1, 1) := by decide +kernel
theorem dX6_hasNoCycle_1 : decode cX6_hasNoCycle 1 = .ok (.aload_n 1, 1) := by decide +kernel
theorem dX6_hasNoCycle_2 : decode cX6_hasNoCycle 2 = .ok (.getfield 37, 3) := by decide +kernel
theorem dX6_hasNoCycle_5 : decode cX6_hasNoCycle 5 = .ok (.ishl, 1) := by decide +kernel
theorem dX6_hasNoCycle_6 : decode cX6_hasNoCycle 6 = .ok (.iconst 1, 1) := by decide +kernel
theorem dX6_hasNoCycle_7 : decode cX6_hasNoCycle 7 = .ok (.isub, 1) := by decide +kernel
theorem dX6_hasNoCycle_8 : decode cX6_hasNoCycle 8 = .ok (.istore_n 2, 1) := by decide +kernel
theorem dX6_hasNoCycle_9 : decode cX6_hasNoCycle 9 = .ok (.iconst 0, 1) := by decide +kernel
theorem dX6_hasNoCycle_10 : decode cX6_hasNoCycle 10 = .ok (.istore_n 3, 1) := by decide +kernel
theorem dX6_hasNoCycle_11 : decode cX6_hasNoCycle 11 = .ok (.iload_n 3, 1) := by decide +kernel
theorem dX6_hasNoCycle_12 : decode cX6_hasNoCycle 12 = .ok (.iconst 5, 1) := by decide +kernel
theorem dX6_hasNoCycle_13 : decode cX6_hasNoCycle 13 = .ok (.if_icmp .ge 87, 3) := by decide +kernel
theorem dX6_hasNoCycle_16 : decode cX6_hasNoCycle 16 = .ok (.iload_n 2, 1) := by decide +kernel
theorem dX6_hasNoCycle_17 : decode cX6_hasNoCycle 17 = .ok (.ifCond .eq 83, 3) := by decide +kernel
theorem dX6_hasNoCycle_20 : decode cX6_hasNoCycle 20 = .ok (.iconst 0, 1) := by decide +kernel
theorem dX6_hasNoCycle_21 : decode cX6_hasNoCycle 21 = .ok (.istore 4, 2) := by decide +kernel
theorem dX6_hasNoCycle_23 : decode cX6_hasNoCycle 23 = .ok (.iload 4, 2) := by decide +kernel
theorem dX6_hasNoCycle_25 : decode cX6_hasNoCycle 25 = .ok (.aload_n 1, 1) := by decide +kernel
theorem dX6_hasNoCycle_26 : decode cX6_hasNoCycle 26 = .ok (.getfield 37, 3) := by decide +kernel
theorem dX6_hasNoCycle_29 : decode cX6_hasNoCycle 29 = .ok (.if_icmp .ge 65, 3) := by decide +kernel
theorem dX6_hasNoCycle_32 : decode cX6_hasNoCycle 32 = .ok (.aload_n 1, 1) := by decide +kernel
theorem dX6_hasNoCycle_33 : decode cX6_hasNoCycle 33 = .ok (.iload 4, 2) := by decide +kernel
theorem dX6_hasNoCycle_35 : decode cX6_hasNoCycle 35 = .ok (.aload_n 0, 1) := by decide +kernel
theorem dX6_hasNoCycle_36 : decode cX6_hasNoCycle 36 = .ok (.getfield 15, 3) := by decide +kernel
theorem dX6_hasNoCycle_39 : decode cX6_hasNoCycle 39 = .ok (.invokevirtual 40, 3) := by decide +kernel
theorem dX6_hasNoCycle_42 : decode cX6_hasNoCycle 42 = .ok (.ifCond .eq 27, 3) := by decide +kernel
theorem dX6_hasNoCycle_45 : decode cX6_hasNoCycle 45 = .ok (.aload_n 1, 1) := by decide +kernel
theorem dX6_hasNoCycle_46 : decode cX6_hasNoCycle 46 = .ok (.iload 4, 2) := by decide +kernel
theorem dX6_hasNoCycle_48 : decode cX6_hasNoCycle 48 = .ok (.aload_n 0, 1) := by decide +kernel
theorem dX6_hasNoCycle_49 : decode cX6_hasNoCycle 49 = .ok (.getfield 18, 3) := by decide +kernel
theorem dX6_hasNoCycle_52 : decode cX6_hasNoCycle 52 = .ok (.invokestatic 52, 3) := by decide +kernel
theorem dX6_hasNoCycle_55 : decode cX6_hasNoCycle 55 = .ok (.aload_n 1, 1) := by decide +kernel
theorem dX6_hasNoCycle_56 : decode cX6_hasNoCycle 56 = .ok (.iload 4, 2) := by decide +kernel
theorem dX6_hasNoCycle_58 : decode cX6_hasNoCycle 58 = .ok (.aload_n 0, 1) := by decide +kernel
theorem dX6_hasNoCycle_59 : decode cX6_hasNoCycle 59 = .ok (.getfield 21, 3) := by decide +kernel
theorem dX6_hasNoCycle_62 : decode cX6_hasNoCycle 62 = .ok (.invokestatic 52, 3) := by decide +kernel
theorem dX6_hasNoCycle_65 : decode cX6_hasNoCycle 65 = .ok (.ior, 1) := by decide +kernel
theorem dX6_hasNoCycle_66 : decode cX6_hasNoCycle 66 = .ok (.goto 4, 3) := by decide +kernel
theorem dX6_hasNoCycle_69 : decode cX6_hasNoCycle 69 = .ok (.iconst 0, 1) := by decide +kernel
theorem dX6_hasNoCycle_70 : decode cX6_hasNoCycle 70 = .ok (.istore 5, 2) := by decide +kernel
theorem dX6_hasNoCycle_72 : decode cX6_hasNoCycle 72 = .ok (.iload 5, 2) := by decide +kernel
theorem dX6_hasNoCycle_74 : decode cX6_hasNoCycle 74 = .ok (.iload_n 2, 1) := by decide +kernel
theorem dX6_hasNoCycle_75 : decode cX6_hasNoCycle 75 = .ok (.iand, 1) := by decide +kernel
theorem dX6_hasNoCycle_76 : decode cX6_hasNoCycle 76 = .ok (.ifCond .ne 12, 3) := by decide +kernel
theorem dX6_hasNoCycle_79 : decode cX6_hasNoCycle 79 = .ok (.iload_n 2, 1) := by decide +kernel
theorem dX6_hasNoCycle_80 : decode cX6_hasNoCycle 80 = .ok (.iconst 1, 1) := by decide +kernel
theorem dX6_hasNoCycle_81 : decode cX6_hasNoCycle 81 = .ok (.iload 4, 2) := by decide +kernel
theorem dX6_hasNoCycle_83 : decode cX6_hasNoCycle 83 = .ok (.ishl, 1) := by decide +kernel
theorem dX6_hasNoCycle_84 : decode cX6_hasNoCycle 84 = .ok (.iconst (-1), 1) := by decide +kernel
theorem dX6_hasNoCycle_85 : decode cX6_hasNoCycle 85 = .ok (.ixor, 1) := by decide +kernel
theorem dX6_hasNoCycle_86 : decode cX6_hasNoCycle 86 = .ok (.iand, 1) := by decide +kernel
theorem dX6_hasNoCycle_87 : decode cX6_hasNoCycle 87 = .ok (.istore_n 2, 1) := by decide +kernel
theorem dX6_hasNoCycle_88 : decode cX6_hasNoCycle 88 = .ok (.iinc 4 1, 3) := by decide +kernel
theorem dX6_hasNoCycle_91 : decode cX6_hasNoCycle 91 = .ok (.goto (-68), 3) := by decide +kernel
theorem dX6_hasNoCycle_94 : decode cX6_hasNoCycle 94 = .ok (.iinc 3 1, 3) := by decide +kernel
theorem dX6_hasNoCycle_97 : decode cX6_hasNoCycle 97 = .ok (.goto (-86), 3) := by decide +kernel
theorem dX6_hasNoCycle_100 : decode cX6_hasNoCycle 100 = .ok (.iload_n 2, 1) := by decide +kernel
theorem dX6_hasNoCycle_101 : decode cX6_hasNoCycle 101 = .ok (.ifCond .ne 7, 3) := by decide +kernel
theorem dX6_hasNoCycle_104 : decode cX6_hasNoCycle 104 = .ok (.iconst 1, 1) := by decide +kernel
theorem dX6_hasNoCycle_105 : decode cX6_hasNoCycle 105 = .ok (.goto 4, 3) := by decide +kernel
theorem dX6_hasNoCycle_108 : decode cX6_hasNoCycle 108 = .ok (.iconst 0, 1) := by decide +kernel
theorem dX6_hasNoCycle_109 : decode cX6_hasNoCycle 109 = .ok (.ireturn, 1) := by decide +kernel
theorem dX6_sharesNothing_0 : decode cX6_sharesNothing 0 = .ok (.iconst 0, 1) := by decide +kernel
theorem dX6_sharesNothing_1 : decode cX6_sharesNothing 1 = .ok (.istore_n 2, 1) := by decide +kernel
theorem dX6_sharesNothing_2 : decode cX6_sharesNothing 2 = .ok (.iconst 0, 1) := by decide +kernel
theorem dX6_sharesNothing_3 : decode cX6_sharesNothing 3 = .ok (.istore_n 3, 1) := by decide +kernel
theorem dX6_sharesNothing_4 : decode cX6_sharesNothing 4 = .ok (.iload_n 3, 1) := by decide +kernel
theorem dX6_sharesNothing_5 : decode cX6_sharesNothing 5 = .ok (.aload_n 1, 1) := by decide +kernel
theorem dX6_sharesNothing_6 : decode cX6_sharesNothing 6 = .ok (.getfield 37, 3) := by decide +kernel
theorem dX6_sharesNothing_9 : decode cX6_sharesNothing 9 = .ok (.if_icmp .ge 71, 3) := by decide +kernel
theorem dX6_sharesNothing_12 : decode cX6_sharesNothing 12 = .ok (.aload_n 1, 1) := by decide +kernel
theorem dX6_sharesNothing_13 : decode cX6_sharesNothing 13 = .ok (.iload_n 3, 1) := by decide +kernel
theorem dX6_sharesNothing_14 : decode cX6_sharesNothing 14 = .ok (.aload_n 0, 1) := by decide +kernel
theorem dX6_sharesNothing_15 : decode cX6_sharesNothing 15 = .ok (.getfield 15, 3) := by decide +kernel
theorem dX6_sharesNothing_18 : decode cX6_sharesNothing 18 = .ok (.invokevirtual 40, 3) := by decide +kernel
theorem dX6_sharesNothing_21 : decode cX6_sharesNothing 21 = .ok (.ifCond .eq 53, 3) := by decide +kernel
theorem dX6_sharesNothing_24 : decode cX6_sharesNothing 24 = .ok (.aload_n 1, 1) := by decide +kernel
theorem dX6_sharesNothing_25 : decode cX6_sharesNothing 25 = .ok (.iload_n 3, 1) := by decide +kernel
theorem dX6_sharesNothing_26 : decode cX6_sharesNothing 26 = .ok (.aload_n 0, 1) := by decide +kernel
theorem dX6_sharesNothing_27 : decode cX6_sharesNothing 27 = .ok (.getfield 18, 3) := by decide +kernel
theorem dX6_sharesNothing_30 : decode cX6_sharesNothing 30 = .ok (.invokestatic 52, 3) := by decide +kernel
theorem dX6_sharesNothing_33 : decode cX6_sharesNothing 33 = .ok (.istore 4, 2) := by decide +kernel
theorem dX6_sharesNothing_35 : decode cX6_sharesNothing 35 = .ok (.aload_n 1, 1) := by decide +kernel
theorem dX6_sharesNothing_36 : decode cX6_sharesNothing 36 = .ok (.iload_n 3, 1) := by decide +kernel
theorem dX6_sharesNothing_37 : decode cX6_sharesNothing 37 = .ok (.aload_n 0, 1) := by decide +kernel
theorem dX6_sharesNothing_38 : decode cX6_sharesNothing 38 = .ok (.getfield 21, 3) := by decide +kernel
theorem dX6_sharesNothing_41 : decode cX6_sharesNothing 41 = .ok (.invokestatic 52, 3) := by decide +kernel
theorem dX6_sharesNothing_44 : decode cX6_sharesNothing 44 = .ok (.istore 5, 2) := by decide +kernel
theorem dX6_sharesNothing_46 : decode cX6_sharesNothing 46 = .ok (.iload 4, 2) := by decide +kernel
theorem dX6_sharesNothing_48 : decode cX6_sharesNothing 48 = .ok (.iload 5, 2) := by decide +kernel
theorem dX6_sharesNothing_50 : decode cX6_sharesNothing 50 = .ok (.iand, 1) := by decide +kernel
theorem dX6_sharesNothing_51 : decode cX6_sharesNothing 51 = .ok (.ifCond .ne 13, 3) := by decide +kernel
theorem dX6_sharesNothing_54 : decode cX6_sharesNothing 54 = .ok (.iload 4, 2) := by decide +kernel
theorem dX6_sharesNothing_56 : decode cX6_sharesNothing 56 = .ok (.iload 5, 2) := by decide +kernel
theorem dX6_sharesNothing_58 : decode cX6_sharesNothing 58 = .ok (.ior, 1) := by decide +kernel
theorem dX6_sharesNothing_59 : decode cX6_sharesNothing 59 = .ok (.iload_n 2, 1) := by decide +kernel
theorem dX6_sharesNothing_60 : decode cX6_sharesNothing 60 = .ok (.iand, 1) := by decide +kernel
theorem dX6_sharesNothing_61 : decode cX6_sharesNothing 61 = .ok (.ifCond .eq 5, 3) := by decide +kernel
theorem dX6_sharesNothing_64 : decode cX6_sharesNothing 64 = .ok (.iconst 0, 1) := by decide +kernel
theorem dX6_sharesNothing_65 : decode cX6_sharesNothing 65 = .ok (.ireturn, 1) := by decide +kernel
theorem dX6_sharesNothing_66 : decode cX6_sharesNothing 66 = .ok (.iload_n 2, 1) := by decide +kernel
theorem dX6_sharesNothing_67 : decode cX6_sharesNothing 67 = .ok (.iload 4, 2) := by decide +kernel
theorem dX6_sharesNothing_69 : decode cX6_sharesNothing 69 = .ok (.iload 5, 2) := by decide +kernel
theorem dX6_sharesNothing_71 : decode cX6_sharesNothing 71 = .ok (.ior, 1) := by decide +kernel
theorem dX6_sharesNothing_72 : decode cX6_sharesNothing 72 = .ok (.ior, 1) := by decide +kernel
theorem dX6_sharesNothing_73 : decode cX6_sharesNothing 73 = .ok (.istore_n 2, 1) := by decide +kernel
theorem dX6_sharesNothing_74 : decode cX6_sharesNothing 74 = .ok (.iinc 3 1, 3) := by decide +kernel
theorem dX6_sharesNothing_77 : decode cX6_sharesNothing 77 = .ok (.goto (-73), 3) := by decide +kernel
theorem dX6_sharesNothing_80 : decode cX6_sharesNothing 80 = .ok (.iconst 1, 1) := by decide +kernel
theorem dX6_sharesNothing_81 : decode cX6_sharesNothing 81 = .ok (.ireturn, 1) := by decide +kernel
theorem dX6_bit_0 : decode cX6_bit 0 = .ok (.aload_n 0, 1) := by decide +kernel
theorem dX6_bit_1 : decode cX6_bit 1 = .ok (.iload_n 1, 1) := by decide +kernel
theorem dX6_bit_2 : decode cX6_bit 2 = .ok (.iload_n 2, 1) := by decide +kernel
theorem dX6_bit_3 : decode cX6_bit 3 = .ok (.invokevirtual 48, 3) := by decide +kernel
theorem dX6_bit_6 : decode cX6_bit 6 = .ok (.istore_n 3, 1) := by decide +kernel
theorem dX6_bit_7 : decode cX6_bit 7 = .ok (.iload_n 3, 1) := by decide +kernel
theorem dX6_bit_8 : decode cX6_bit 8 = .ok (.iconst (-1), 1) := by decide +kernel
theorem dX6_bit_9 : decode cX6_bit 9 = .ok (.if_icmp .ne 7, 3) := by decide +kernel
theorem dX6_bit_12 : decode cX6_bit 12 = .ok (.iconst 0, 1) := by decide +kernel
theorem dX6_bit_13 : decode cX6_bit 13 = .ok (.goto 6, 3) := by decide +kernel
theorem dX6_bit_16 : decode cX6_bit 16 = .ok (.iconst 1, 1) := by decide +kernel
theorem dX6_bit_17 : decode cX6_bit 17 = .ok (.iload_n 3, 1) := by decide +kernel
theorem dX6_bit_18 : decode cX6_bit 18 = .ok (.ishl, 1) := by decide +kernel
theorem dX6_bit_19 : decode cX6_bit 19 = .ok (.ireturn, 1) := by decide +kernel
theorem dX7_init_0 : decode cX7_init 0 = .ok (.aload_n 0, 1) := by decide +kernel
theorem dX7_init_1 : decode cX7_init 1 = .ok (.invokespecial 3, 3) := by decide +kernel
theorem dX7_init_4 : decode cX7_init 4 = .ok (.aload_n 0, 1) := by decide +kernel
theorem dX7_init_5 : decode cX7_init 5 = .ok (.bipush 6, 2) := by decide +kernel
theorem dX7_init_7 : decode cX7_init 7 = .ok (.anewarray 9, 3) := by decide +kernel
theorem dX7_init_10 : decode cX7_init 10 = .ok (.putfield 11, 3) := by decide +kernel
theorem dX7_init_13 : decode cX7_init 13 = .ok (.aload_n 0, 1) := by decide +kernel
theorem dX7_init_14 : decode cX7_init 14 = .ok (.iconst 0, 1) := by decide +kernel
theorem dX7_init_15 : decode cX7_init 15 = .ok (.putfield 17, 3) := by decide +kernel
theorem dX7_init_18 : decode cX7_init 18 = .ok (.return_, 1) := by decide +kernel
theorem dX7_add_0 : decode cX7_add 0 = .ok (.aload_n 0, 1) := by decide +kernel
theorem dX7_add_1 : decode cX7_add 1 = .ok (.getfield 17, 3) := by decide +kernel
theorem dX7_add_4 : decode cX7_add 4 = .ok (.bipush 6, 2) := by decide +kernel
theorem dX7_add_6 : decode cX7_add 6 = .ok (.if_icmp .lt 6, 3) := by decide +kernel
theorem dX7_add_9 : decode cX7_add 9 = .ok (.bipush (-104), 2) := by decide +kernel
theorem dX7_add_11 : decode cX7_add 11 = .ok (.ireturn, 1) := by decide +kernel
theorem dX7_add_12 : decode cX7_add 12 = .ok (.aload_n 0, 1) := by decide +kernel
theorem dX7_add_13 : decode cX7_add 13 = .ok (.getfield 11, 3) := by decide +kernel
theorem dX7_add_16 : decode cX7_add 16 = .ok (.aload_n 0, 1) := by decide +kernel
theorem dX7_add_17 : decode cX7_add 17 = .ok (.getfield 17, 3) := by decide +kernel
theorem dX7_add_20 : decode cX7_add 20 = .ok (.aload_n 1, 1) := by decide +kernel
theorem dX7_add_21 : decode cX7_add 21 = .ok (.aastore, 1) := by decide +kernel
theorem dX7_add_22 : decode cX7_add 22 = .ok (.aload_n 0, 1) := by decide +kernel
theorem dX7_add_23 : decode cX7_add 23 = .ok (.dup, 1) := by decide +kernel
theorem dX7_add_24 : decode cX7_add 24 = .ok (.getfield 17, 3) := by decide +kernel
theorem dX7_add_27 : decode cX7_add 27 = .ok (.iconst 1, 1) := by decide +kernel
theorem dX7_add_28 : decode cX7_add 28 = .ok (.iadd, 1) := by decide +kernel
theorem dX7_add_29 : decode cX7_add 29 = .ok (.putfield 17, 3) := by decide +kernel
theorem dX7_add_32 : decode cX7_add 32 = .ok (.aload_n 0, 1) := by decide +kernel
theorem dX7_add_33 : decode cX7_add 33 = .ok (.getfield 17, 3) := by decide +kernel
theorem dX7_add_36 : decode cX7_add 36 = .ok (.iconst 1, 1) := by decide +kernel
theorem dX7_add_37 : decode cX7_add 37 = .ok (.isub, 1) := by decide +kernel
theorem dX7_add_38 : decode cX7_add 38 = .ok (.ireturn, 1) := by decide +kernel
theorem dX7_drop_0 : decode cX7_drop 0 = .ok (.aload_n 0, 1) := by decide +kernel
theorem dX7_drop_1 : decode cX7_drop 1 = .ok (.getfield 17, 3) := by decide +kernel
theorem dX7_drop_4 : decode cX7_drop 4 = .ok (.istore_n 1, 1) := by decide +kernel
theorem dX7_drop_5 : decode cX7_drop 5 = .ok (.aload_n 0, 1) := by decide +kernel
theorem dX7_drop_6 : decode cX7_drop 6 = .ok (.iconst 0, 1) := by decide +kernel
theorem dX7_drop_7 : decode cX7_drop 7 = .ok (.putfield 17, 3) := by decide +kernel
theorem dX7_drop_10 : decode cX7_drop 10 = .ok (.iload_n 1, 1) := by decide +kernel
theorem dX7_drop_11 : decode cX7_drop 11 = .ok (.ireturn, 1) := by decide +kernel
theorem dX7_holdFrom_0 : decode cX7_holdFrom 0 = .ok (.iload_n 1, 1) := by decide +kernel
theorem dX7_holdFrom_1 : decode cX7_holdFrom 1 = .ok (.iconst 0, 1) := by decide +kernel
theorem dX7_holdFrom_2 : decode cX7_holdFrom 2 = .ok (.invokestatic 21, 3) := by decide +kernel
theorem dX7_holdFrom_5 : decode cX7_holdFrom 5 = .ok (.istore_n 3, 1) := by decide +kernel
theorem dX7_holdFrom_6 : decode cX7_holdFrom 6 = .ok (.iload_n 3, 1) := by decide +kernel
theorem dX7_holdFrom_7 : decode cX7_holdFrom 7 = .ok (.aload_n 0, 1) := by decide +kernel
theorem dX7_holdFrom_8 : decode cX7_holdFrom 8 = .ok (.getfield 17, 3) := by decide +kernel
theorem dX7_holdFrom_11 : decode cX7_holdFrom 11 = .ok (.if_icmp .ge 33, 3) := by decide +kernel
theorem dX7_holdFrom_14 : decode cX7_holdFrom 14 = .ok (.aload_n 0, 1) := by decide +kernel
theorem dX7_holdFrom_15 : decode cX7_holdFrom 15 = .ok (.getfield 11, 3) := by decide +kernel
theorem dX7_holdFrom_18 : decode cX7_holdFrom 18 = .ok (.iload_n 3, 1) := by decide +kernel
theorem dX7_holdFrom_19 : decode cX7_holdFrom 19 = .ok (.aaload, 1) := by decide +kernel
theorem dX7_holdFrom_20 : decode cX7_holdFrom 20 = .ok (.astore 4, 2) := by decide +kernel
theorem dX7_holdFrom_22 : decode cX7_holdFrom 22 = .ok (.aload 4, 2) := by decide +kernel
theorem dX7_holdFrom_24 : decode cX7_holdFrom 24 = .ok (.ifnull 14, 3) := by decide +kernel
theorem dX7_holdFrom_27 : decode cX7_holdFrom 27 = .ok (.aload 4, 2) := by decide +kernel
theorem dX7_holdFrom_29 : decode cX7_holdFrom 29 = .ok (.aload_n 2, 1) := by decide +kernel
theorem dX7_holdFrom_30 : decode cX7_holdFrom 30 = .ok (.invokevirtual 27, 3) := by decide +kernel
theorem dX7_holdFrom_33 : decode cX7_holdFrom 33 = .ok (.ifCond .ne 5, 3) := by decide +kernel
theorem dX7_holdFrom_36 : decode cX7_holdFrom 36 = .ok (.iconst 0, 1) := by decide +kernel
theorem dX7_holdFrom_37 : decode cX7_holdFrom 37 = .ok (.ireturn, 1) := by decide +kernel
theorem dX7_holdFrom_38 : decode cX7_holdFrom 38 = .ok (.iinc 3 1, 3) := by decide +kernel
theorem dX7_holdFrom_41 : decode cX7_holdFrom 41 = .ok (.goto (-35), 3) := by decide +kernel
theorem dX7_holdFrom_44 : decode cX7_holdFrom 44 = .ok (.iconst 1, 1) := by decide +kernel
theorem dX7_holdFrom_45 : decode cX7_holdFrom 45 = .ok (.ireturn, 1) := by decide +kernel
theorem dX4_init_0 : decode cX4_init 0 = .ok (.aload_n 0, 1) := by decide +kernel
theorem dX4_init_1 : decode cX4_init 1 = .ok (.invokespecial 3, 3) := by decide +kernel
theorem dX4_init_4 : decode cX4_init 4 = .ok (.aload_n 0, 1) := by decide +kernel
theorem dX4_init_5 : decode cX4_init 5 = .ok (.bipush 16, 2) := by decide +kernel
theorem dX4_init_7 : decode cX4_init 7 = .ok (.anewarray 9, 3) := by decide +kernel
theorem dX4_init_10 : decode cX4_init 10 = .ok (.putfield 11, 3) := by decide +kernel
theorem dX4_init_13 : decode cX4_init 13 = .ok (.aload_n 0, 1) := by decide +kernel
theorem dX4_init_14 : decode cX4_init 14 = .ok (.iconst 0, 1) := by decide +kernel
theorem dX4_init_15 : decode cX4_init 15 = .ok (.putfield 17, 3) := by decide +kernel
theorem dX4_init_18 : decode cX4_init 18 = .ok (.return_, 1) := by decide +kernel
theorem dX4_add_0 : decode cX4_add 0 = .ok (.aload_n 0, 1) := by decide +kernel
theorem dX4_add_1 : decode cX4_add 1 = .ok (.getfield 17, 3) := by decide +kernel
theorem dX4_add_4 : decode cX4_add 4 = .ok (.bipush 16, 2) := by decide +kernel
theorem dX4_add_6 : decode cX4_add 6 = .ok (.if_icmp .lt 6, 3) := by decide +kernel
theorem dX4_add_9 : decode cX4_add 9 = .ok (.bipush (-104), 2) := by decide +kernel
theorem dX4_add_11 : decode cX4_add 11 = .ok (.ireturn, 1) := by decide +kernel
theorem dX4_add_12 : decode cX4_add 12 = .ok (.aload_n 0, 1) := by decide +kernel
theorem dX4_add_13 : decode cX4_add 13 = .ok (.getfield 11, 3) := by decide +kernel
theorem dX4_add_16 : decode cX4_add 16 = .ok (.aload_n 0, 1) := by decide +kernel
theorem dX4_add_17 : decode cX4_add 17 = .ok (.getfield 17, 3) := by decide +kernel
theorem dX4_add_20 : decode cX4_add 20 = .ok (.aload_n 1, 1) := by decide +kernel
theorem dX4_add_21 : decode cX4_add 21 = .ok (.aastore, 1) := by decide +kernel
theorem dX4_add_22 : decode cX4_add 22 = .ok (.aload_n 0, 1) := by decide +kernel
theorem dX4_add_23 : decode cX4_add 23 = .ok (.dup, 1) := by decide +kernel
theorem dX4_add_24 : decode cX4_add 24 = .ok (.getfield 17, 3) := by decide +kernel
theorem dX4_add_27 : decode cX4_add 27 = .ok (.iconst 1, 1) := by decide +kernel
theorem dX4_add_28 : decode cX4_add 28 = .ok (.iadd, 1) := by decide +kernel
theorem dX4_add_29 : decode cX4_add 29 = .ok (.putfield 17, 3) := by decide +kernel
theorem dX4_add_32 : decode cX4_add 32 = .ok (.aload_n 0, 1) := by decide +kernel
theorem dX4_add_33 : decode cX4_add 33 = .ok (.getfield 17, 3) := by decide +kernel
theorem dX4_add_36 : decode cX4_add 36 = .ok (.iconst 1, 1) := by decide +kernel
theorem dX4_add_37 : decode cX4_add 37 = .ok (.isub, 1) := by decide +kernel
theorem dX4_add_38 : decode cX4_add 38 = .ok (.ireturn, 1) := by decide +kernel
theorem dX4_drop_0 : decode cX4_drop 0 = .ok (.aload_n 0, 1) := by decide +kernel
theorem dX4_drop_1 : decode cX4_drop 1 = .ok (.getfield 17, 3) := by decide +kernel
theorem dX4_drop_4 : decode cX4_drop 4 = .ok (.istore_n 1, 1) := by decide +kernel
theorem dX4_drop_5 : decode cX4_drop 5 = .ok (.aload_n 0, 1) := by decide +kernel
theorem dX4_drop_6 : decode cX4_drop 6 = .ok (.iconst 0, 1) := by decide +kernel
theorem dX4_drop_7 : decode cX4_drop 7 = .ok (.putfield 17, 3) := by decide +kernel
theorem dX4_drop_10 : decode cX4_drop 10 = .ok (.iload_n 1, 1) := by decide +kernel
theorem dX4_drop_11 : decode cX4_drop 11 = .ok (.ireturn, 1) := by decide +kernel
theorem dX4_stepAt_0 : decode cX4_stepAt 0 = .ok (.iload_n 1, 1) := by decide +kernel
theorem dX4_stepAt_1 : decode cX4_stepAt 1 = .ok (.ifCond .lt 20, 3) := by decide +kernel
theorem dX4_stepAt_4 : decode cX4_stepAt 4 = .ok (.iload_n 1, 1) := by decide +kernel
theorem dX4_stepAt_5 : decode cX4_stepAt 5 = .ok (.aload_n 0, 1) := by decide +kernel
theorem dX4_stepAt_6 : decode cX4_stepAt 6 = .ok (.getfield 17, 3) := by decide +kernel
theorem dX4_stepAt_9 : decode cX4_stepAt 9 = .ok (.if_icmp .ge 12, 3) := by decide +kernel
theorem dX4_stepAt_12 : decode cX4_stepAt 12 = .ok (.aload_n 0, 1) := by decide +kernel
theorem dX4_stepAt_13 : decode cX4_stepAt 13 = .ok (.getfield 11, 3) := by decide +kernel
theorem dX4_stepAt_16 : decode cX4_stepAt 16 = .ok (.iload_n 1, 1) := by decide +kernel
theorem dX4_stepAt_17 : decode cX4_stepAt 17 = .ok (.aaload, 1) := by decide +kernel
theorem dX4_stepAt_18 : decode cX4_stepAt 18 = .ok (.goto 4, 3) := by decide +kernel
theorem dX4_stepAt_21 : decode cX4_stepAt 21 = .ok (.aconst_null, 1) := by decide +kernel
theorem dX4_stepAt_22 : decode cX4_stepAt 22 = .ok (.areturn, 1) := by decide +kernel
theorem dX9_init_0 : decode cX9_init 0 = .ok (.aload_n 0, 1) := by decide +kernel
theorem dX9_init_1 : decode cX9_init 1 = .ok (.invokespecial 1, 3) := by decide +kernel
theorem dX9_init_4 : decode cX9_init 4 = .ok (.aload_n 0, 1) := by decide +kernel
theorem dX9_init_5 : decode cX9_init 5 = .ok (.iload_n 1, 1) := by decide +kernel
theorem dX9_init_6 : decode cX9_init 6 = .ok (.putfield 7, 3) := by decide +kernel
theorem dX9_init_9 : decode cX9_init 9 = .ok (.aload_n 0, 1) := by decide +kernel
theorem dX9_init_10 : decode cX9_init 10 = .ok (.iload_n 2, 1) := by decide +kernel
theorem dX9_init_11 : decode cX9_init 11 = .ok (.putfield 13, 3) := by decide +kernel
theorem dX9_init_14 : decode cX9_init 14 = .ok (.aload_n 0, 1) := by decide +kernel
theorem dX9_init_15 : decode cX9_init 15 = .ok (.iload_n 3, 1) := by decide +kernel
theorem dX9_init_16 : decode cX9_init 16 = .ok (.putfield 16, 3) := by decide +kernel
theorem dX9_init_19 : decode cX9_init 19 = .ok (.aload_n 0, 1) := by decide +kernel
theorem dX9_init_20 : decode cX9_init 20 = .ok (.iload 4, 2) := by decide +kernel
theorem dX9_init_22 : decode cX9_init 22 = .ok (.putfield 19, 3) := by decide +kernel
theorem dX9_init_25 : decode cX9_init 25 = .ok (.aload_n 0, 1) := by decide +kernel
theorem dX9_init_26 : decode cX9_init 26 = .ok (.iload 5, 2) := by decide +kernel
theorem dX9_init_28 : decode cX9_init 28 = .ok (.putfield 22, 3) := by decide +kernel
theorem dX9_init_31 : decode cX9_init 31 = .ok (.return_, 1) := by decide +kernel
theorem dX3_init_0 : decode cX3_init 0 = .ok (.aload_n 0, 1) := by decide +kernel
theorem dX3_init_1 : decode cX3_init 1 = .ok (.invokespecial 3, 3) := by decide +kernel
theorem dX3_init_4 : decode cX3_init 4 = .ok (.aload_n 0, 1) := by decide +kernel
theorem dX3_init_5 : decode cX3_init 5 = .ok (.iconst 4, 1) := by decide +kernel
theorem dX3_init_6 : decode cX3_init 6 = .ok (.newarray .int, 2) := by decide +kernel
theorem dX3_init_8 : decode cX3_init 8 = .ok (.putfield 9, 3) := by decide +kernel
theorem dX3_init_11 : decode cX3_init 11 = .ok (.aload_n 0, 1) := by decide +kernel
theorem dX3_init_12 : decode cX3_init 12 = .ok (.iconst 5, 1) := by decide +kernel
theorem dX3_init_13 : decode cX3_init 13 = .ok (.newarray .int, 2) := by decide +kernel
theorem dX3_init_15 : decode cX3_init 15 = .ok (.putfield 15, 3) := by decide +kernel
theorem dX3_init_18 : decode cX3_init 18 = .ok (.aload_n 0, 1) := by decide +kernel
theorem dX3_init_19 : decode cX3_init 19 = .ok (.bipush 22, 2) := by decide +kernel
theorem dX3_init_21 : decode cX3_init 21 = .ok (.newarray .int, 2) := by decide +kernel
theorem dX3_init_23 : decode cX3_init 23 = .ok (.putfield 18, 3) := by decide +kernel
theorem dX3_init_26 : decode cX3_init 26 = .ok (.aload_n 0, 1) := by decide +kernel
theorem dX3_init_27 : decode cX3_init 27 = .ok (.iconst 0, 1) := by decide +kernel
theorem dX3_init_28 : decode cX3_init 28 = .ok (.putfield 21, 3) := by decide +kernel
theorem dX3_init_31 : decode cX3_init 31 = .ok (.aload_n 0, 1) := by decide +kernel
theorem dX3_init_32 : decode cX3_init 32 = .ok (.iconst 0, 1) := by decide +kernel
theorem dX3_init_33 : decode cX3_init 33 = .ok (.putfield 25, 3) := by decide +kernel
theorem dX3_init_36 : decode cX3_init 36 = .ok (.aload_n 0, 1) := by decide +kernel
theorem dX3_init_37 : decode cX3_init 37 = .ok (.iconst 0, 1) := by decide +kernel
theorem dX3_init_38 : decode cX3_init 38 = .ok (.putfield 28, 3) := by decide +kernel
theorem dX3_init_41 : decode cX3_init 41 = .ok (.aload_n 0, 1) := by decide +kernel
theorem dX3_init_42 : decode cX3_init 42 = .ok (.iconst 0, 1) := by decide +kernel
theorem dX3_init_43 : decode cX3_init 43 = .ok (.putfield 31, 3) := by decide +kernel
theorem dX3_init_46 : decode cX3_init 46 = .ok (.aload_n 0, 1) := by decide +kernel
theorem dX3_init_47 : decode cX3_init 47 = .ok (.iconst 0, 1) := by decide +kernel
theorem dX3_init_48 : decode cX3_init 48 = .ok (.putfield 34, 3) := by decide +kernel
theorem dX3_init_51 : decode cX3_init 51 = .ok (.aload_n 0, 1) := by decide +kernel
theorem dX3_init_52 : decode cX3_init 52 = .ok (.iconst 0, 1) := by decide +kernel
theorem dX3_init_53 : decode cX3_init 53 = .ok (.putfield 37, 3) := by decide +kernel
theorem dX3_init_56 : decode cX3_init 56 = .ok (.aload_n 0, 1) := by decide +kernel
theorem dX3_init_57 : decode cX3_init 57 = .ok (.aload_n 1, 1) := by decide +kernel
theorem dX3_init_58 : decode cX3_init 58 = .ok (.putfield 40, 3) := by decide +kernel
theorem dX3_init_61 : decode cX3_init 61 = .ok (.return_, 1) := by decide +kernel
theorem dX3_lookAt_0 : decode cX3_lookAt 0 = .ok (.iload_n 1, 1) := by decide +kernel
theorem dX3_lookAt_1 : decode cX3_lookAt 1 = .ok (.ifCond .lt 20, 3) := by decide +kernel
theorem dX3_lookAt_4 : decode cX3_lookAt 4 = .ok (.iload_n 1, 1) := by decide +kernel
theorem dX3_lookAt_5 : decode cX3_lookAt 5 = .ok (.aload_n 0, 1) := by decide +kernel
theorem dX3_lookAt_6 : decode cX3_lookAt 6 = .ok (.getfield 21, 3) := by decide +kernel
theorem dX3_lookAt_9 : decode cX3_lookAt 9 = .ok (.if_icmp .ge 12, 3) := by decide +kernel
theorem dX3_lookAt_12 : decode cX3_lookAt 12 = .ok (.aload_n 0, 1) := by decide +kernel
theorem dX3_lookAt_13 : decode cX3_lookAt 13 = .ok (.getfield 18, 3) := by decide +kernel
theorem dX3_lookAt_16 : decode cX3_lookAt 16 = .ok (.iload_n 1, 1) := by decide +kernel
theorem dX3_lookAt_17 : decode cX3_lookAt 17 = .ok (.iaload, 1) := by decide +kernel
theorem dX3_lookAt_18 : decode cX3_lookAt 18 = .ok (.goto 4, 3) := by decide +kernel
theorem dX3_lookAt_21 : decode cX3_lookAt 21 = .ok (.iconst (-1), 1) := by decide +kernel
theorem dX3_lookAt_22 : decode cX3_lookAt 22 = .ok (.ireturn, 1) := by decide +kernel
theorem dX3_run_0 : decode cX3_run 0 = .ok (.aload_n 0, 1) := by decide +kernel
theorem dX3_run_1 : decode cX3_run 1 = .ok (.invokevirtual 44, 3) := by decide +kernel
theorem dX3_run_4 : decode cX3_run 4 = .ok (.iconst 0, 1) := by decide +kernel
theorem dX3_run_5 : decode cX3_run 5 = .ok (.istore_n 2, 1) := by decide +kernel
theorem dX3_run_6 : decode cX3_run 6 = .ok (.iconst 0, 1) := by decide +kernel
theorem dX3_run_7 : decode cX3_run 7 = .ok (.istore_n 3, 1) := by decide +kernel
theorem dX3_run_8 : decode cX3_run 8 = .ok (.iload_n 3, 1) := by decide +kernel
theorem dX3_run_9 : decode cX3_run 9 = .ok (.bipush 16, 2) := by decide +kernel
theorem dX3_run_11 : decode cX3_run 11 = .ok (.if_icmp .ge 40, 3) := by decide +kernel
theorem dX3_run_14 : decode cX3_run 14 = .ok (.aload_n 0, 1) := by decide +kernel
theorem dX3_run_15 : decode cX3_run 15 = .ok (.getfield 37, 3) := by decide +kernel
theorem dX3_run_18 : decode cX3_run 18 = .ok (.ifCond .ne 33, 3) := by decide +kernel
theorem dX3_run_21 : decode cX3_run 21 = .ok (.aload_n 1, 1) := by decide +kernel
theorem dX3_run_22 : decode cX3_run 22 = .ok (.iload_n 2, 1) := by decide +kernel
theorem dX3_run_23 : decode cX3_run 23 = .ok (.invokevirtual 47, 3) := by decide +kernel
theorem dX3_run_26 : decode cX3_run 26 = .ok (.astore 4, 2) := by decide +kernel
theorem dX3_run_28 : decode cX3_run 28 = .ok (.aload 4, 2) := by decide +kernel
theorem dX3_run_30 : decode cX3_run 30 = .ok (.ifnonnull 4, 3) := by decide +kernel
theorem dX3_run_33 : decode cX3_run 33 = .ok (.return_, 1) := by decide +kernel
theorem dX3_run_34 : decode cX3_run 34 = .ok (.iload_n 2, 1) := by decide +kernel
theorem dX3_run_35 : decode cX3_run 35 = .ok (.iconst 1, 1) := by decide +kernel
theorem dX3_run_36 : decode cX3_run 36 = .ok (.aload_n 0, 1) := by decide +kernel
theorem dX3_run_37 : decode cX3_run 37 = .ok (.aload 4, 2) := by decide +kernel
theorem dX3_run_39 : decode cX3_run 39 = .ok (.invokevirtual 53, 3) := by decide +kernel
theorem dX3_run_42 : decode cX3_run 42 = .ok (.iadd, 1) := by decide +kernel
theorem dX3_run_43 : decode cX3_run 43 = .ok (.iadd, 1) := by decide +kernel
theorem dX3_run_44 : decode cX3_run 44 = .ok (.istore_n 2, 1) := by decide +kernel
theorem dX3_run_45 : decode cX3_run 45 = .ok (.iinc 3 1, 3) := by decide +kernel
theorem dX3_run_48 : decode cX3_run 48 = .ok (.goto (-40), 3) := by decide +kernel
theorem dX3_run_51 : decode cX3_run 51 = .ok (.return_, 1) := by decide +kernel
theorem dX3_begin_0 : decode cX3_begin 0 = .ok (.aload_n 0, 1) := by decide +kernel
theorem dX3_begin_1 : decode cX3_begin 1 = .ok (.getfield 9, 3) := by decide +kernel
theorem dX3_begin_4 : decode cX3_begin 4 = .ok (.iconst (-1), 1) := by decide +kernel
theorem dX3_begin_5 : decode cX3_begin 5 = .ok (.invokestatic 57, 3) := by decide +kernel
theorem dX3_begin_8 : decode cX3_begin 8 = .ok (.aload_n 0, 1) := by decide +kernel
theorem dX3_begin_9 : decode cX3_begin 9 = .ok (.getfield 15, 3) := by decide +kernel
theorem dX3_begin_12 : decode cX3_begin 12 = .ok (.iconst (-1), 1) := by decide +kernel
theorem dX3_begin_13 : decode cX3_begin 13 = .ok (.invokestatic 57, 3) := by decide +kernel
theorem dX3_begin_16 : decode cX3_begin 16 = .ok (.aload_n 0, 1) := by decide +kernel
theorem dX3_begin_17 : decode cX3_begin 17 = .ok (.iconst 0, 1) := by decide +kernel
theorem dX3_begin_18 : decode cX3_begin 18 = .ok (.putfield 21, 3) := by decide +kernel
theorem dX3_begin_21 : decode cX3_begin 21 = .ok (.aload_n 0, 1) := by decide +kernel
theorem dX3_begin_22 : decode cX3_begin 22 = .ok (.iconst 0, 1) := by decide +kernel
theorem dX3_begin_23 : decode cX3_begin 23 = .ok (.putfield 25, 3) := by decide +kernel
theorem dX3_begin_26 : decode cX3_begin 26 = .ok (.aload_n 0, 1) := by decide +kernel
theorem dX3_begin_27 : decode cX3_begin 27 = .ok (.iconst 0, 1) := by decide +kernel
theorem dX3_begin_28 : decode cX3_begin 28 = .ok (.putfield 28, 3) := by decide +kernel
theorem dX3_begin_31 : decode cX3_begin 31 = .ok (.aload_n 0, 1) := by decide +kernel
theorem dX3_begin_32 : decode cX3_begin 32 = .ok (.iconst 0, 1) := by decide +kernel
theorem dX3_begin_33 : decode cX3_begin 33 = .ok (.putfield 34, 3) := by decide +kernel
theorem dX3_begin_36 : decode cX3_begin 36 = .ok (.aload_n 0, 1) := by decide +kernel
theorem dX3_begin_37 : decode cX3_begin 37 = .ok (.iconst 0, 1) := by decide +kernel
theorem dX3_begin_38 : decode cX3_begin 38 = .ok (.putfield 37, 3) := by decide +kernel
theorem dX3_begin_41 : decode cX3_begin 41 = .ok (.iconst 0, 1) := by decide +kernel
theorem dX3_begin_42 : decode cX3_begin 42 = .ok (.istore_n 1, 1) := by decide +kernel
theorem dX3_begin_43 : decode cX3_begin 43 = .ok (.iload_n 1, 1) := by decide +kernel
theorem dX3_begin_44 : decode cX3_begin 44 = .ok (.iconst 2, 1) := by decide +kernel
theorem dX3_begin_45 : decode cX3_begin 45 = .ok (.if_icmp .ge 23, 3) := by decide +kernel
theorem dX3_begin_48 : decode cX3_begin 48 = .ok (.aload_n 0, 1) := by decide +kernel
theorem dX3_begin_49 : decode cX3_begin 49 = .ok (.getfield 9, 3) := by decide +kernel
theorem dX3_begin_52 : decode cX3_begin 52 = .ok (.iload_n 1, 1) := by decide +kernel
theorem dX3_begin_53 : decode cX3_begin 53 = .ok (.aload_n 0, 1) := by decide +kernel
theorem dX3_begin_54 : decode cX3_begin 54 = .ok (.getfield 40, 3) := by decide +kernel
theorem dX3_begin_57 : decode cX3_begin 57 = .ok (.iload_n 1, 1) := by decide +kernel
theorem dX3_begin_58 : decode cX3_begin 58 = .ok (.invokevirtual 63, 3) := by decide +kernel
theorem dX3_begin_61 : decode cX3_begin 61 = .ok (.iastore, 1) := by decide +kernel
theorem dX3_begin_62 : decode cX3_begin 62 = .ok (.iinc 1 1, 3) := by decide +kernel
theorem dX3_begin_65 : decode cX3_begin 65 = .ok (.goto (-22), 3) := by decide +kernel
theorem dX3_begin_68 : decode cX3_begin 68 = .ok (.aload_n 0, 1) := by decide +kernel
theorem dX3_begin_69 : decode cX3_begin 69 = .ok (.iconst 1, 1) := by decide +kernel
theorem dX3_begin_70 : decode cX3_begin 70 = .ok (.aload_n 0, 1) := by decide +kernel
theorem dX3_begin_71 : decode cX3_begin 71 = .ok (.getfield 40, 3) := by decide +kernel
theorem dX3_begin_74 : decode cX3_begin 74 = .ok (.getfield 69, 3) := by decide +kernel
theorem dX3_begin_77 : decode cX3_begin 77 = .ok (.getfield 73, 3) := by decide +kernel
theorem dX3_begin_80 : decode cX3_begin 80 = .ok (.ishl, 1) := by decide +kernel
theorem dX3_begin_81 : decode cX3_begin 81 = .ok (.iconst 1, 1) := by decide +kernel
theorem dX3_begin_82 : decode cX3_begin 82 = .ok (.isub, 1) := by decide +kernel
theorem dX3_begin_83 : decode cX3_begin 83 = .ok (.putfield 31, 3) := by decide +kernel
theorem dX3_begin_86 : decode cX3_begin 86 = .ok (.return_, 1) := by decide +kernel
theorem dX3_leftOutBehind_0 : decode cX3_leftOutBehind 0 = .ok (.aload_n 0, 1) := by decide +kernel
theorem dX3_leftOutBehind_1 : decode cX3_leftOutBehind 1 = .ok (.dup, 1) := by decide +kernel
theorem dX3_leftOutBehind_2 : decode cX3_leftOutBehind 2 = .ok (.getfield 34, 3) := by decide +kernel
theorem dX3_leftOutBehind_5 : decode cX3_leftOutBehind 5 = .ok (.iconst 1, 1) := by decide +kernel
theorem dX3_leftOutBehind_6 : decode cX3_leftOutBehind 6 = .ok (.iadd, 1) := by decide +kernel
theorem dX3_leftOutBehind_7 : decode cX3_leftOutBehind 7 = .ok (.putfield 34, 3) := by decide +kernel
theorem dX3_leftOutBehind_10 : decode cX3_leftOutBehind 10 = .ok (.aload_n 0, 1) := by decide +kernel
theorem dX3_leftOutBehind_11 : decode cX3_leftOutBehind 11 = .ok (.aload_n 1, 1) := by decide +kernel
theorem dX3_leftOutBehind_12 : decode cX3_leftOutBehind 12 = .ok (.getfield 78, 3) := by decide +kernel
theorem dX3_leftOutBehind_15 : decode cX3_leftOutBehind 15 = .ok (.invokevirtual 83, 3) := by decide +kernel
theorem dX3_leftOutBehind_18 : decode cX3_leftOutBehind 18 = .ok (.istore_n 2, 1) := by decide +kernel
theorem dX3_leftOutBehind_19 : decode cX3_leftOutBehind 19 = .ok (.aload_n 1, 1) := by decide +kernel
theorem dX3_leftOutBehind_20 : decode cX3_leftOutBehind 20 = .ok (.getfield 86, 3) := by decide +kernel
theorem dX3_leftOutBehind_23 : decode cX3_leftOutBehind 23 = .ok (.iconst 2, 1) := by decide +kernel
theorem dX3_leftOutBehind_24 : decode cX3_leftOutBehind 24 = .ok (.if_icmp .ne 24, 3) := by decide +kernel
theorem dX3_leftOutBehind_27 : decode cX3_leftOutBehind 27 = .ok (.iload_n 2, 1) := by decide +kernel
theorem dX3_leftOutBehind_28 : decode cX3_leftOutBehind 28 = .ok (.aload_n 0, 1) := by decide +kernel
theorem dX3_leftOutBehind_29 : decode cX3_leftOutBehind 29 = .ok (.aload_n 1, 1) := by decide +kernel
theorem dX3_leftOutBehind_30 : decode cX3_leftOutBehind 30 = .ok (.getfield 89, 3) := by decide +kernel
theorem dX3_leftOutBehind_33 : decode cX3_leftOutBehind 33 = .ok (.invokevirtual 83, 3) := by decide +kernel
theorem dX3_leftOutBehind_36 : decode cX3_leftOutBehind 36 = .ok (.if_icmp .ne 10, 3) := by decide +kernel
theorem dX3_leftOutBehind_39 : decode cX3_leftOutBehind 39 = .ok (.aload_n 1, 1) := by decide +kernel
theorem dX3_leftOutBehind_40 : decode cX3_leftOutBehind 40 = .ok (.getfield 92, 3) := by decide +kernel
theorem dX3_leftOutBehind_43 : decode cX3_leftOutBehind 43 = .ok (.goto 4, 3) := by decide +kernel
theorem dX3_leftOutBehind_46 : decode cX3_leftOutBehind 46 = .ok (.iconst 0, 1) := by decide +kernel
theorem dX3_leftOutBehind_47 : decode cX3_leftOutBehind 47 = .ok (.ireturn, 1) := by decide +kernel
theorem dX3_leftOutBehind_48 : decode cX3_leftOutBehind 48 = .ok (.iload_n 2, 1) := by decide +kernel
theorem dX3_leftOutBehind_49 : decode cX3_leftOutBehind 49 = .ok (.iconst (-1), 1) := by decide +kernel
theorem dX3_leftOutBehind_50 : decode cX3_leftOutBehind 50 = .ok (.if_icmp .ne 10, 3) := by decide +kernel
theorem dX3_leftOutBehind_53 : decode cX3_leftOutBehind 53 = .ok (.aload_n 0, 1) := by decide +kernel
theorem dX3_leftOutBehind_54 : decode cX3_leftOutBehind 54 = .ok (.iconst 1, 1) := by decide +kernel
theorem dX3_leftOutBehind_55 : decode cX3_leftOutBehind 55 = .ok (.putfield 37, 3) := by decide +kernel
theorem dX3_leftOutBehind_58 : decode cX3_leftOutBehind 58 = .ok (.iconst 0, 1) := by decide +kernel
theorem dX3_leftOutBehind_59 : decode cX3_leftOutBehind 59 = .ok (.ireturn, 1) := by decide +kernel
theorem dX3_leftOutBehind_60 : decode cX3_leftOutBehind 60 = .ok (.aload_n 0, 1) := by decide +kernel
theorem dX3_leftOutBehind_61 : decode cX3_leftOutBehind 61 = .ok (.getfield 40, 3) := by decide +kernel
theorem dX3_leftOutBehind_64 : decode cX3_leftOutBehind 64 = .ok (.getfield 69, 3) := by decide +kernel
theorem dX3_leftOutBehind_67 : decode cX3_leftOutBehind 67 = .ok (.aload_n 0, 1) := by decide +kernel
theorem dX3_leftOutBehind_68 : decode cX3_leftOutBehind 68 = .ok (.getfield 40, 3) := by decide +kernel
theorem dX3_leftOutBehind_71 : decode cX3_leftOutBehind 71 = .ok (.iload_n 2, 1) := by decide +kernel
theorem dX3_leftOutBehind_72 : decode cX3_leftOutBehind 72 = .ok (.invokevirtual 95, 3) := by decide +kernel
theorem dX3_leftOutBehind_75 : decode cX3_leftOutBehind 75 = .ok (.aload_n 1, 1) := by decide +kernel
theorem dX3_leftOutBehind_76 : decode cX3_leftOutBehind 76 = .ok (.getfield 89, 3) := by decide +kernel
theorem dX3_leftOutBehind_79 : decode cX3_leftOutBehind 79 = .ok (.invokevirtual 98, 3) := by decide +kernel
theorem dX3_leftOutBehind_82 : decode cX3_leftOutBehind 82 = .ok (.istore_n 3, 1) := by decide +kernel
theorem dX3_leftOutBehind_83 : decode cX3_leftOutBehind 83 = .ok (.iload_n 3, 1) := by decide +kernel
theorem dX3_leftOutBehind_84 : decode cX3_leftOutBehind 84 = .ok (.invokestatic 102, 3) := by decide +kernel
theorem dX3_leftOutBehind_87 : decode cX3_leftOutBehind 87 = .ok (.istore 4, 2) := by decide +kernel
theorem dX3_leftOutBehind_89 : decode cX3_leftOutBehind 89 = .ok (.iload_n 3, 1) := by decide +kernel
theorem dX3_leftOutBehind_90 : decode cX3_leftOutBehind 90 = .ok (.iconst (-1), 1) := by decide +kernel
theorem dX3_leftOutBehind_91 : decode cX3_leftOutBehind 91 = .ok (.if_icmp .eq 20, 3) := by decide +kernel
theorem dX3_leftOutBehind_94 : decode cX3_leftOutBehind 94 = .ok (.iload 4, 2) := by decide +kernel
theorem dX3_leftOutBehind_96 : decode cX3_leftOutBehind 96 = .ok (.aload_n 1, 1) := by decide +kernel
theorem dX3_leftOutBehind_97 : decode cX3_leftOutBehind 97 = .ok (.getfield 86, 3) := by decide +kernel
theorem dX3_leftOutBehind_100 : decode cX3_leftOutBehind 100 = .ok (.ifCond .ne 7, 3) := by decide +kernel
theorem dX3_leftOutBehind_103 : decode cX3_leftOutBehind 103 = .ok (.iconst 1, 1) := by decide +kernel
theorem dX3_leftOutBehind_104 : decode cX3_leftOutBehind 104 = .ok (.goto 4, 3) := by decide +kernel
theorem dX3_leftOutBehind_107 : decode cX3_leftOutBehind 107 = .ok (.iconst 0, 1) := by decide +kernel
theorem dX3_leftOutBehind_108 : decode cX3_leftOutBehind 108 = .ok (.if_icmp .eq 10, 3) := by decide +kernel
theorem dX3_leftOutBehind_111 : decode cX3_leftOutBehind 111 = .ok (.aload_n 0, 1) := by decide +kernel
theorem dX3_leftOutBehind_112 : decode cX3_leftOutBehind 112 = .ok (.iconst 2, 1) := by decide +kernel
theorem dX3_leftOutBehind_113 : decode cX3_leftOutBehind 113 = .ok (.putfield 37, 3) := by decide +kernel
theorem dX3_leftOutBehind_116 : decode cX3_leftOutBehind 116 = .ok (.iconst 0, 1) := by decide +kernel
theorem dX3_leftOutBehind_117 : decode cX3_leftOutBehind 117 = .ok (.ireturn, 1) := by decide +kernel
theorem dX3_leftOutBehind_118 : decode cX3_leftOutBehind 118 = .ok (.aload_n 0, 1) := by decide +kernel
theorem dX3_leftOutBehind_119 : decode cX3_leftOutBehind 119 = .ok (.getfield 40, 3) := by decide +kernel
theorem dX3_leftOutBehind_122 : decode cX3_leftOutBehind 122 = .ok (.iload_n 2, 1) := by decide +kernel
theorem dX3_leftOutBehind_123 : decode cX3_leftOutBehind 123 = .ok (.aload_n 1, 1) := by decide +kernel
theorem dX3_leftOutBehind_124 : decode cX3_leftOutBehind 124 = .ok (.getfield 89, 3) := by decide +kernel
theorem dX3_leftOutBehind_127 : decode cX3_leftOutBehind 127 = .ok (.invokevirtual 106, 3) := by decide +kernel
theorem dX3_leftOutBehind_130 : decode cX3_leftOutBehind 130 = .ok (.istore 5, 2) := by decide +kernel
theorem dX3_leftOutBehind_132 : decode cX3_leftOutBehind 132 = .ok (.aload_n 0, 1) := by decide +kernel
theorem dX3_leftOutBehind_133 : decode cX3_leftOutBehind 133 = .ok (.iconst 2, 1) := by decide +kernel
theorem dX3_leftOutBehind_134 : decode cX3_leftOutBehind 134 = .ok (.iload_n 2, 1) := by decide +kernel
theorem dX3_leftOutBehind_135 : decode cX3_leftOutBehind 135 = .ok (.iconst 4, 1) := by decide +kernel
theorem dX3_leftOutBehind_136 : decode cX3_leftOutBehind 136 = .ok (.imul, 1) := by decide +kernel
theorem dX3_leftOutBehind_137 : decode cX3_leftOutBehind 137 = .ok (.iadd, 1) := by decide +kernel
theorem dX3_leftOutBehind_138 : decode cX3_leftOutBehind 138 = .ok (.aload_n 1, 1) := by decide +kernel
theorem dX3_leftOutBehind_139 : decode cX3_leftOutBehind 139 = .ok (.getfield 89, 3) := by decide +kernel
theorem dX3_leftOutBehind_142 : decode cX3_leftOutBehind 142 = .ok (.iadd, 1) := by decide +kernel
theorem dX3_leftOutBehind_143 : decode cX3_leftOutBehind 143 = .ok (.iload 4, 2) := by decide +kernel
theorem dX3_leftOutBehind_145 : decode cX3_leftOutBehind 145 = .ok (.iload 5, 2) := by decide +kernel
theorem dX3_leftOutBehind_147 : decode cX3_leftOutBehind 147 = .ok (.invokevirtual 109, 3) := by decide +kernel
theorem dX3_leftOutBehind_150 : decode cX3_leftOutBehind 150 = .ok (.aload_n 1, 1) := by decide +kernel
theorem dX3_leftOutBehind_151 : decode cX3_leftOutBehind 151 = .ok (.getfield 86, 3) := by decide +kernel
theorem dX3_leftOutBehind_154 : decode cX3_leftOutBehind 154 = .ok (.iconst 1, 1) := by decide +kernel
theorem dX3_leftOutBehind_155 : decode cX3_leftOutBehind 155 = .ok (.if_icmp .ne 21, 3) := by decide +kernel
theorem dX3_leftOutBehind_158 : decode cX3_leftOutBehind 158 = .ok (.iload 5, 2) := by decide +kernel
theorem dX3_leftOutBehind_160 : decode cX3_leftOutBehind 160 = .ok (.aload_n 1, 1) := by decide +kernel
theorem dX3_leftOutBehind_161 : decode cX3_leftOutBehind 161 = .ok (.getfield 113, 3) := by decide +kernel
theorem dX3_leftOutBehind_164 : decode cX3_leftOutBehind 164 = .ok (.if_icmp .ne 10, 3) := by decide +kernel
theorem dX3_leftOutBehind_167 : decode cX3_leftOutBehind 167 = .ok (.aload_n 1, 1) := by decide +kernel
theorem dX3_leftOutBehind_168 : decode cX3_leftOutBehind 168 = .ok (.getfield 92, 3) := by decide +kernel
theorem dX3_leftOutBehind_171 : decode cX3_leftOutBehind 171 = .ok (.goto 4, 3) := by decide +kernel
theorem dX3_leftOutBehind_174 : decode cX3_leftOutBehind 174 = .ok (.iconst 0, 1) := by decide +kernel
