theorem dX10_init_34 : decode cX10_init 34 = .ok (.putfield 26, 3) := by decide +kernel
theorem dX10_init_37 : decode cX10_init 37 = .ok (.aload_n 0, 1) := by decide +kernel
theorem dX10_init_38 : decode cX10_init 38 = .ok (.new 30, 3) := by decide +kernel
theorem dX10_init_41 : decode cX10_init 41 = .ok (.dup, 1) := by decide +kernel
theorem dX10_init_42 : decode cX10_init 42 = .ok (.aload_n 0, 1) := by decide +kernel
theorem dX10_init_43 : decode cX10_init 43 = .ok (.getfield 12, 3) := by decide +kernel
theorem dX10_init_46 : decode cX10_init 46 = .ok (.invokespecial 32, 3) := by decide +kernel
theorem dX10_init_49 : decode cX10_init 49 = .ok (.putfield 35, 3) := by decide +kernel
theorem dX10_init_52 : decode cX10_init 52 = .ok (.aload_n 0, 1) := by decide +kernel
theorem dX10_init_53 : decode cX10_init 53 = .ok (.new 39, 3) := by decide +kernel
theorem dX10_init_56 : decode cX10_init 56 = .ok (.dup, 1) := by decide +kernel
theorem dX10_init_57 : decode cX10_init 57 = .ok (.aload_n 0, 1) := by decide +kernel
theorem dX10_init_58 : decode cX10_init 58 = .ok (.getfield 35, 3) := by decide +kernel
theorem dX10_init_61 : decode cX10_init 61 = .ok (.aload_n 0, 1) := by decide +kernel
theorem dX10_init_62 : decode cX10_init 62 = .ok (.getfield 19, 3) := by decide +kernel
theorem dX10_init_65 : decode cX10_init 65 = .ok (.invokespecial 41, 3) := by decide +kernel
theorem dX10_init_68 : decode cX10_init 68 = .ok (.putfield 44, 3) := by decide +kernel
theorem dX10_init_71 : decode cX10_init 71 = .ok (.aload_n 0, 1) := by decide +kernel
theorem dX10_init_72 : decode cX10_init 72 = .ok (.new 48, 3) := by decide +kernel
theorem dX10_init_75 : decode cX10_init 75 = .ok (.dup, 1) := by decide +kernel
theorem dX10_init_76 : decode cX10_init 76 = .ok (.aload_n 0, 1) := by decide +kernel
theorem dX10_init_77 : decode cX10_init 77 = .ok (.getfield 35, 3) := by decide +kernel
theorem dX10_init_80 : decode cX10_init 80 = .ok (.invokespecial 50, 3) := by decide +kernel
theorem dX10_init_83 : decode cX10_init 83 = .ok (.putfield 53, 3) := by decide +kernel
theorem dX10_init_86 : decode cX10_init 86 = .ok (.aload_n 0, 1) := by decide +kernel
theorem dX10_init_87 : decode cX10_init 87 = .ok (.new 57, 3) := by decide +kernel
theorem dX10_init_90 : decode cX10_init 90 = .ok (.dup, 1) := by decide +kernel
theorem dX10_init_91 : decode cX10_init 91 = .ok (.aload_n 0, 1) := by decide +kernel
theorem dX10_init_92 : decode cX10_init 92 = .ok (.getfield 44, 3) := by decide +kernel
theorem dX10_init_95 : decode cX10_init 95 = .ok (.aload_n 0, 1) := by decide +kernel
theorem dX10_init_96 : decode cX10_init 96 = .ok (.getfield 53, 3) := by decide +kernel
theorem dX10_init_99 : decode cX10_init 99 = .ok (.invokespecial 59, 3) := by decide +kernel
theorem dX10_init_102 : decode cX10_init 102 = .ok (.putfield 62, 3) := by decide +kernel
theorem dX10_init_105 : decode cX10_init 105 = .ok (.aload_n 0, 1) := by decide +kernel
theorem dX10_init_106 : decode cX10_init 106 = .ok (.bipush 40, 2) := by decide +kernel
theorem dX10_init_108 : decode cX10_init 108 = .ok (.newarray .int, 2) := by decide +kernel
theorem dX10_init_110 : decode cX10_init 110 = .ok (.putfield 66, 3) := by decide +kernel
theorem dX10_init_113 : decode cX10_init 113 = .ok (.aload_n 0, 1) := by decide +kernel
theorem dX10_init_114 : decode cX10_init 114 = .ok (.iconst 0, 1) := by decide +kernel
theorem dX10_init_115 : decode cX10_init 115 = .ok (.putfield 70, 3) := by decide +kernel
theorem dX10_init_118 : decode cX10_init 118 = .ok (.return_, 1) := by decide +kernel
theorem dX10_kind_0 : decode cX10_kind 0 = .ok (.iload_n 1, 1) := by decide +kernel
theorem dX10_kind_1 : decode cX10_kind 1 = .ok (.iconst (-1), 1) := by decide +kernel
theorem dX10_kind_2 : decode cX10_kind 2 = .ok (.if_icmp .eq 17, 3) := by decide +kernel
theorem dX10_kind_5 : decode cX10_kind 5 = .ok (.aload_n 0, 1) := by decide +kernel
theorem dX10_kind_6 : decode cX10_kind 6 = .ok (.getfield 12, 3) := by decide +kernel
theorem dX10_kind_9 : decode cX10_kind 9 = .ok (.iload_n 1, 1) := by decide +kernel
theorem dX10_kind_10 : decode cX10_kind 10 = .ok (.invokevirtual 74, 3) := by decide +kernel
theorem dX10_kind_13 : decode cX10_kind 13 = .ok (.ifCond .ne 6, 3) := by decide +kernel
theorem dX10_kind_16 : decode cX10_kind 16 = .ok (.bipush (-101), 2) := by decide +kernel
theorem dX10_kind_18 : decode cX10_kind 18 = .ok (.ireturn, 1) := by decide +kernel
theorem dX10_kind_19 : decode cX10_kind 19 = .ok (.aload_n 0, 1) := by decide +kernel
theorem dX10_kind_20 : decode cX10_kind 20 = .ok (.aload_n 0, 1) := by decide +kernel
theorem dX10_kind_21 : decode cX10_kind 21 = .ok (.getfield 12, 3) := by decide +kernel
theorem dX10_kind_24 : decode cX10_kind 24 = .ok (.iload_n 1, 1) := by decide +kernel
theorem dX10_kind_25 : decode cX10_kind 25 = .ok (.invokevirtual 78, 3) := by decide +kernel
theorem dX10_kind_28 : decode cX10_kind 28 = .ok (.invokevirtual 82, 3) := by decide +kernel
theorem dX10_kind_31 : decode cX10_kind 31 = .ok (.ireturn, 1) := by decide +kernel
theorem dX10_field_0 : decode cX10_field 0 = .ok (.aload_n 0, 1) := by decide +kernel
theorem dX10_field_1 : decode cX10_field 1 = .ok (.getfield 12, 3) := by decide +kernel
theorem dX10_field_4 : decode cX10_field 4 = .ok (.iload_n 1, 1) := by decide +kernel
theorem dX10_field_5 : decode cX10_field 5 = .ok (.invokevirtual 74, 3) := by decide +kernel
theorem dX10_field_8 : decode cX10_field 8 = .ok (.ifCond .eq 18, 3) := by decide +kernel
theorem dX10_field_11 : decode cX10_field 11 = .ok (.iload_n 2, 1) := by decide +kernel
theorem dX10_field_12 : decode cX10_field 12 = .ok (.ifCond .ne 17, 3) := by decide +kernel
theorem dX10_field_15 : decode cX10_field 15 = .ok (.aload_n 0, 1) := by decide +kernel
theorem dX10_field_16 : decode cX10_field 16 = .ok (.getfield 12, 3) := by decide +kernel
theorem dX10_field_19 : decode cX10_field 19 = .ok (.iload_n 3, 1) := by decide +kernel
theorem dX10_field_20 : decode cX10_field 20 = .ok (.invokevirtual 74, 3) := by decide +kernel
theorem dX10_field_23 : decode cX10_field 23 = .ok (.ifCond .ne 6, 3) := by decide +kernel
theorem dX10_field_26 : decode cX10_field 26 = .ok (.bipush (-101), 2) := by decide +kernel
theorem dX10_field_28 : decode cX10_field 28 = .ok (.ireturn, 1) := by decide +kernel
theorem dX10_field_29 : decode cX10_field 29 = .ok (.iload_n 2, 1) := by decide +kernel
theorem dX10_field_30 : decode cX10_field 30 = .ok (.ifCond .eq 21, 3) := by decide +kernel
theorem dX10_field_33 : decode cX10_field 33 = .ok (.iload_n 2, 1) := by decide +kernel
theorem dX10_field_34 : decode cX10_field 34 = .ok (.iconst 1, 1) := by decide +kernel
theorem dX10_field_35 : decode cX10_field 35 = .ok (.if_icmp .ne 13, 3) := by decide +kernel
theorem dX10_field_38 : decode cX10_field 38 = .ok (.iload_n 3, 1) := by decide +kernel
theorem dX10_field_39 : decode cX10_field 39 = .ok (.iconst 1, 1) := by decide +kernel
theorem dX10_field_40 : decode cX10_field 40 = .ok (.if_icmp .lt 8, 3) := by decide +kernel
theorem dX10_field_43 : decode cX10_field 43 = .ok (.iload_n 3, 1) := by decide +kernel
theorem dX10_field_44 : decode cX10_field 44 = .ok (.iconst 3, 1) := by decide +kernel
theorem dX10_field_45 : decode cX10_field 45 = .ok (.if_icmp .le 6, 3) := by decide +kernel
theorem dX10_field_48 : decode cX10_field 48 = .ok (.bipush (-102), 2) := by decide +kernel
theorem dX10_field_50 : decode cX10_field 50 = .ok (.ireturn, 1) := by decide +kernel
theorem dX10_field_51 : decode cX10_field 51 = .ok (.aload_n 0, 1) := by decide +kernel
theorem dX10_field_52 : decode cX10_field 52 = .ok (.getfield 12, 3) := by decide +kernel
theorem dX10_field_55 : decode cX10_field 55 = .ok (.iload_n 1, 1) := by decide +kernel
theorem dX10_field_56 : decode cX10_field 56 = .ok (.invokevirtual 85, 3) := by decide +kernel
theorem dX10_field_59 : decode cX10_field 59 = .ok (.ifCond .eq 6, 3) := by decide +kernel
theorem dX10_field_62 : decode cX10_field 62 = .ok (.bipush (-103), 2) := by decide +kernel
theorem dX10_field_64 : decode cX10_field 64 = .ok (.ireturn, 1) := by decide +kernel
theorem dX10_field_65 : decode cX10_field 65 = .ok (.aload_n 0, 1) := by decide +kernel
theorem dX10_field_66 : decode cX10_field 66 = .ok (.aload_n 0, 1) := by decide +kernel
theorem dX10_field_67 : decode cX10_field 67 = .ok (.getfield 12, 3) := by decide +kernel
theorem dX10_field_70 : decode cX10_field 70 = .ok (.iload_n 1, 1) := by decide +kernel
theorem dX10_field_71 : decode cX10_field 71 = .ok (.iload_n 2, 1) := by decide +kernel
theorem dX10_field_72 : decode cX10_field 72 = .ok (.iload_n 3, 1) := by decide +kernel
theorem dX10_field_73 : decode cX10_field 73 = .ok (.invokevirtual 88, 3) := by decide +kernel
theorem dX10_field_76 : decode cX10_field 76 = .ok (.invokevirtual 82, 3) := by decide +kernel
theorem dX10_field_79 : decode cX10_field 79 = .ok (.ireturn, 1) := by decide +kernel
theorem dX10_input_0 : decode cX10_input 0 = .ok (.aload_n 0, 1) := by decide +kernel
theorem dX10_input_1 : decode cX10_input 1 = .ok (.getfield 12, 3) := by decide +kernel
theorem dX10_input_4 : decode cX10_input 4 = .ok (.iload_n 1, 1) := by decide +kernel
theorem dX10_input_5 : decode cX10_input 5 = .ok (.invokevirtual 74, 3) := by decide +kernel
theorem dX10_input_8 : decode cX10_input 8 = .ok (.ifCond .ne 6, 3) := by decide +kernel
theorem dX10_input_11 : decode cX10_input 11 = .ok (.bipush (-101), 2) := by decide +kernel
theorem dX10_input_13 : decode cX10_input 13 = .ok (.ireturn, 1) := by decide +kernel
theorem dX10_input_14 : decode cX10_input 14 = .ok (.aload_n 0, 1) := by decide +kernel
theorem dX10_input_15 : decode cX10_input 15 = .ok (.aload_n 0, 1) := by decide +kernel
theorem dX10_input_16 : decode cX10_input 16 = .ok (.getfield 12, 3) := by decide +kernel
theorem dX10_input_19 : decode cX10_input 19 = .ok (.iload_n 1, 1) := by decide +kernel
theorem dX10_input_20 : decode cX10_input 20 = .ok (.invokevirtual 92, 3) := by decide +kernel
theorem dX10_input_23 : decode cX10_input 23 = .ok (.invokevirtual 82, 3) := by decide +kernel
theorem dX10_input_26 : decode cX10_input 26 = .ok (.ireturn, 1) := by decide +kernel
theorem dX10_bound_0 : decode cX10_bound 0 = .ok (.iload_n 1, 1) := by decide +kernel
theorem dX10_bound_1 : decode cX10_bound 1 = .ok (.iconst 1, 1) := by decide +kernel
theorem dX10_bound_2 : decode cX10_bound 2 = .ok (.if_icmp .lt 8, 3) := by decide +kernel
theorem dX10_bound_5 : decode cX10_bound 5 = .ok (.iload_n 1, 1) := by decide +kernel
theorem dX10_bound_6 : decode cX10_bound 6 = .ok (.iconst 5, 1) := by decide +kernel
theorem dX10_bound_7 : decode cX10_bound 7 = .ok (.if_icmp .le 6, 3) := by decide +kernel
theorem dX10_bound_10 : decode cX10_bound 10 = .ok (.bipush (-102), 2) := by decide +kernel
theorem dX10_bound_12 : decode cX10_bound 12 = .ok (.ireturn, 1) := by decide +kernel
theorem dX10_bound_13 : decode cX10_bound 13 = .ok (.aload_n 0, 1) := by decide +kernel
theorem dX10_bound_14 : decode cX10_bound 14 = .ok (.getfield 12, 3) := by decide +kernel
theorem dX10_bound_17 : decode cX10_bound 17 = .ok (.getfield 95, 3) := by decide +kernel
theorem dX10_bound_20 : decode cX10_bound 20 = .ok (.istore_n 2, 1) := by decide +kernel
theorem dX10_bound_21 : decode cX10_bound 21 = .ok (.iload_n 1, 1) := by decide +kernel
theorem dX10_bound_22 : decode cX10_bound 22 = .ok (.iload_n 2, 1) := by decide +kernel
theorem dX10_bound_23 : decode cX10_bound 23 = .ok (.if_icmp .eq 15, 3) := by decide +kernel
theorem dX10_bound_26 : decode cX10_bound 26 = .ok (.aload_n 0, 1) := by decide +kernel
theorem dX10_bound_27 : decode cX10_bound 27 = .ok (.invokevirtual 98, 3) := by decide +kernel
theorem dX10_bound_30 : decode cX10_bound 30 = .ok (.aload_n 0, 1) := by decide +kernel
theorem dX10_bound_31 : decode cX10_bound 31 = .ok (.getfield 12, 3) := by decide +kernel
theorem dX10_bound_34 : decode cX10_bound 34 = .ok (.iload_n 1, 1) := by decide +kernel
theorem dX10_bound_35 : decode cX10_bound 35 = .ok (.putfield 95, 3) := by decide +kernel
theorem dX10_bound_38 : decode cX10_bound 38 = .ok (.iload_n 2, 1) := by decide +kernel
theorem dX10_bound_39 : decode cX10_bound 39 = .ok (.ireturn, 1) := by decide +kernel
theorem dX10_rule_0 : decode cX10_rule 0 = .ok (.iload_n 1, 1) := by decide +kernel
theorem dX10_rule_1 : decode cX10_rule 1 = .ok (.bipush 6, 2) := by decide +kernel
theorem dX10_rule_3 : decode cX10_rule 3 = .ok (.if_icmp .eq 33, 3) := by decide +kernel
theorem dX10_rule_6 : decode cX10_rule 6 = .ok (.aload_n 0, 1) := by decide +kernel
theorem dX10_rule_7 : decode cX10_rule 7 = .ok (.iload_n 1, 1) := by decide +kernel
theorem dX10_rule_8 : decode cX10_rule 8 = .ok (.iload_n 2, 1) := by decide +kernel
theorem dX10_rule_9 : decode cX10_rule 9 = .ok (.iload_n 3, 1) := by decide +kernel
theorem dX10_rule_10 : decode cX10_rule 10 = .ok (.iload 4, 2) := by decide +kernel
theorem dX10_rule_12 : decode cX10_rule 12 = .ok (.invokevirtual 101, 3) := by decide +kernel
theorem dX10_rule_15 : decode cX10_rule 15 = .ok (.ifCond .ne 6, 3) := by decide +kernel
theorem dX10_rule_18 : decode cX10_rule 18 = .ok (.bipush (-101), 2) := by decide +kernel
theorem dX10_rule_20 : decode cX10_rule 20 = .ok (.ireturn, 1) := by decide +kernel
theorem dX10_rule_21 : decode cX10_rule 21 = .ok (.aload_n 0, 1) := by decide +kernel
theorem dX10_rule_22 : decode cX10_rule 22 = .ok (.iload_n 1, 1) := by decide +kernel
theorem dX10_rule_23 : decode cX10_rule 23 = .ok (.iload_n 2, 1) := by decide +kernel
theorem dX10_rule_24 : decode cX10_rule 24 = .ok (.iload_n 3, 1) := by decide +kernel
theorem dX10_rule_25 : decode cX10_rule 25 = .ok (.iload 4, 2) := by decide +kernel
theorem dX10_rule_27 : decode cX10_rule 27 = .ok (.invokevirtual 105, 3) := by decide +kernel
theorem dX10_rule_30 : decode cX10_rule 30 = .ok (.ifCond .ne 6, 3) := by decide +kernel
theorem dX10_rule_33 : decode cX10_rule 33 = .ok (.bipush (-102), 2) := by decide +kernel
theorem dX10_rule_35 : decode cX10_rule 35 = .ok (.ireturn, 1) := by decide +kernel
theorem dX10_rule_36 : decode cX10_rule 36 = .ok (.aload_n 0, 1) := by decide +kernel
theorem dX10_rule_37 : decode cX10_rule 37 = .ok (.getfield 19, 3) := by decide +kernel
theorem dX10_rule_40 : decode cX10_rule 40 = .ok (.new 108, 3) := by decide +kernel
theorem dX10_rule_43 : decode cX10_rule 43 = .ok (.dup, 1) := by decide +kernel
theorem dX10_rule_44 : decode cX10_rule 44 = .ok (.iload_n 1, 1) := by decide +kernel
theorem dX10_rule_45 : decode cX10_rule 45 = .ok (.iload_n 2, 1) := by decide +kernel
theorem dX10_rule_46 : decode cX10_rule 46 = .ok (.iload_n 3, 1) := by decide +kernel
theorem dX10_rule_47 : decode cX10_rule 47 = .ok (.iload 4, 2) := by decide +kernel
theorem dX10_rule_49 : decode cX10_rule 49 = .ok (.invokespecial 110, 3) := by decide +kernel
theorem dX10_rule_52 : decode cX10_rule 52 = .ok (.invokevirtual 113, 3) := by decide +kernel
theorem dX10_rule_55 : decode cX10_rule 55 = .ok (.ireturn, 1) := by decide +kernel
theorem dX10_clear_0 : decode cX10_clear 0 = .ok (.aload_n 0, 1) := by decide +kernel
theorem dX10_clear_1 : decode cX10_clear 1 = .ok (.getfield 44, 3) := by decide +kernel
theorem dX10_clear_4 : decode cX10_clear 4 = .ok (.invokevirtual 117, 3) := by decide +kernel
theorem dX10_clear_7 : decode cX10_clear 7 = .ok (.aload_n 0, 1) := by decide +kernel
theorem dX10_clear_8 : decode cX10_clear 8 = .ok (.getfield 19, 3) := by decide +kernel
theorem dX10_clear_11 : decode cX10_clear 11 = .ok (.invokevirtual 120, 3) := by decide +kernel
theorem dX10_clear_14 : decode cX10_clear 14 = .ok (.ireturn, 1) := by decide +kernel
theorem dX10_about_0 : decode cX10_about 0 = .ok (.iload_n 1, 1) := by decide +kernel
theorem dX10_about_1 : decode cX10_about 1 = .ok (.tableswitch 84 0 5 #[39, 47, 55, 63, 71, 79], 39) := by decide +kernel
theorem dX10_about_40 : decode cX10_about 40 = .ok (.aload_n 0, 1) := by decide +kernel
theorem dX10_about_41 : decode cX10_about 41 = .ok (.getfield 12, 3) := by decide +kernel
theorem dX10_about_44 : decode cX10_about 44 = .ok (.getfield 124, 3) := by decide +kernel
theorem dX10_about_47 : decode cX10_about 47 = .ok (.ireturn, 1) := by decide +kernel
theorem dX10_about_48 : decode cX10_about 48 = .ok (.aload_n 0, 1) := by decide +kernel
theorem dX10_about_49 : decode cX10_about 49 = .ok (.getfield 12, 3) := by decide +kernel
theorem dX10_about_52 : decode cX10_about 52 = .ok (.getfield 127, 3) := by decide +kernel
theorem dX10_about_55 : decode cX10_about 55 = .ok (.ireturn, 1) := by decide +kernel
theorem dX10_about_56 : decode cX10_about 56 = .ok (.aload_n 0, 1) := by decide +kernel
theorem dX10_about_57 : decode cX10_about 57 = .ok (.getfield 12, 3) := by decide +kernel
theorem dX10_about_60 : decode cX10_about 60 = .ok (.getfield 95, 3) := by decide +kernel
theorem dX10_about_63 : decode cX10_about 63 = .ok (.ireturn, 1) := by decide +kernel
theorem dX10_about_64 : decode cX10_about 64 = .ok (.aload_n 0, 1) := by decide +kernel
theorem dX10_about_65 : decode cX10_about 65 = .ok (.getfield 19, 3) := by decide +kernel
theorem dX10_about_68 : decode cX10_about 68 = .ok (.getfield 130, 3) := by decide +kernel
theorem dX10_about_71 : decode cX10_about 71 = .ok (.ireturn, 1) := by decide +kernel
theorem dX10_about_72 : decode cX10_about 72 = .ok (.aload_n 0, 1) := by decide +kernel
theorem dX10_about_73 : decode cX10_about 73 = .ok (.getfield 26, 3) := by decide +kernel
theorem dX10_about_76 : decode cX10_about 76 = .ok (.getfield 133, 3) := by decide +kernel
theorem dX10_about_79 : decode cX10_about 79 = .ok (.ireturn, 1) := by decide +kernel
theorem dX10_about_80 : decode cX10_about 80 = .ok (.aload_n 0, 1) := by decide +kernel
theorem dX10_about_81 : decode cX10_about 81 = .ok (.getfield 70, 3) := by decide +kernel
theorem dX10_about_84 : decode cX10_about 84 = .ok (.ireturn, 1) := by decide +kernel
theorem dX10_about_85 : decode cX10_about 85 = .ok (.iload_n 1, 1) := by decide +kernel
theorem dX10_about_86 : decode cX10_about 86 = .ok (.bipush 10, 2) := by decide +kernel
theorem dX10_about_88 : decode cX10_about 88 = .ok (.if_icmp .lt 17, 3) := by decide +kernel
theorem dX10_about_91 : decode cX10_about 91 = .ok (.aload_n 0, 1) := by decide +kernel
theorem dX10_about_92 : decode cX10_about 92 = .ok (.getfield 12, 3) := by decide +kernel
theorem dX10_about_95 : decode cX10_about 95 = .ok (.iload_n 1, 1) := by decide +kernel
theorem dX10_about_96 : decode cX10_about 96 = .ok (.bipush 10, 2) := by decide +kernel
theorem dX10_about_98 : decode cX10_about 98 = .ok (.isub, 1) := by decide +kernel
theorem dX10_about_99 : decode cX10_about 99 = .ok (.invokevirtual 74, 3) := by decide +kernel
theorem dX10_about_102 : decode cX10_about 102 = .ok (.ifCond .ne 6, 3) := by decide +kernel
theorem dX10_about_105 : decode cX10_about 105 = .ok (.bipush (-102), 2) := by decide +kernel
theorem dX10_about_107 : decode cX10_about 107 = .ok (.ireturn, 1) := by decide +kernel
theorem dX10_about_108 : decode cX10_about 108 = .ok (.aload_n 0, 1) := by decide +kernel
theorem dX10_about_109 : decode cX10_about 109 = .ok (.getfield 12, 3) := by decide +kernel
theorem dX10_about_112 : decode cX10_about 112 = .ok (.iload_n 1, 1) := by decide +kernel
theorem dX10_about_113 : decode cX10_about 113 = .ok (.bipush 10, 2) := by decide +kernel
theorem dX10_about_115 : decode cX10_about 115 = .ok (.isub, 1) := by decide +kernel
theorem dX10_about_116 : decode cX10_about 116 = .ok (.invokevirtual 134, 3) := by decide +kernel
theorem dX10_about_119 : decode cX10_about 119 = .ok (.ireturn, 1) := by decide +kernel
theorem dX10_many_0 : decode cX10_many 0 = .ok (.aload_n 0, 1) := by decide +kernel
theorem dX10_many_1 : decode cX10_many 1 = .ok (.getfield 44, 3) := by decide +kernel
theorem dX10_many_4 : decode cX10_many 4 = .ok (.invokevirtual 137, 3) := by decide +kernel
theorem dX10_many_7 : decode cX10_many 7 = .ok (.ifCond .eq 16, 3) := by decide +kernel
theorem dX10_many_10 : decode cX10_many 10 = .ok (.aload_n 0, 1) := by decide +kernel
theorem dX10_many_11 : decode cX10_many 11 = .ok (.getfield 44, 3) := by decide +kernel
theorem dX10_many_14 : decode cX10_many 14 = .ok (.getfield 141, 3) := by decide +kernel
theorem dX10_many_17 : decode cX10_many 17 = .ok (.getfield 145, 3) := by decide +kernel
theorem dX10_many_20 : decode cX10_many 20 = .ok (.goto 5, 3) := by decide +kernel
theorem dX10_many_23 : decode cX10_many 23 = .ok (.bipush (-104), 2) := by decide +kernel
theorem dX10_many_25 : decode cX10_many 25 = .ok (.ireturn, 1) := by decide +kernel
theorem dX10_kept_0 : decode cX10_kept 0 = .ok (.aload_n 0, 1) := by decide +kernel
theorem dX10_kept_1 : decode cX10_kept 1 = .ok (.getfield 44, 3) := by decide +kernel
theorem dX10_kept_4 : decode cX10_kept 4 = .ok (.invokevirtual 148, 3) := by decide +kernel
theorem dX10_kept_7 : decode cX10_kept 7 = .ok (.ifCond .eq 13, 3) := by decide +kernel
theorem dX10_kept_10 : decode cX10_kept 10 = .ok (.aload_n 0, 1) := by decide +kernel
theorem dX10_kept_11 : decode cX10_kept 11 = .ok (.getfield 44, 3) := by decide +kernel
theorem dX10_kept_14 : decode cX10_kept 14 = .ok (.getfield 151, 3) := by decide +kernel
theorem dX10_kept_17 : decode cX10_kept 17 = .ok (.goto 5, 3) := by decide +kernel
theorem dX10_kept_20 : decode cX10_kept 20 = .ok (.bipush (-104), 2) := by decide +kernel
theorem dX10_kept_22 : decode cX10_kept 22 = .ok (.ireturn, 1) := by decide +kernel
theorem dX10_choice_0 : decode cX10_choice 0 = .ok (.aload_n 0, 1) := by decide +kernel
theorem dX10_choice_1 : decode cX10_choice 1 = .ok (.getfield 44, 3) := by decide +kernel
theorem dX10_choice_4 : decode cX10_choice 4 = .ok (.invokevirtual 148, 3) := by decide +kernel
theorem dX10_choice_7 : decode cX10_choice 7 = .ok (.ifCond .ne 6, 3) := by decide +kernel
theorem dX10_choice_10 : decode cX10_choice 10 = .ok (.bipush (-104), 2) := by decide +kernel
theorem dX10_choice_12 : decode cX10_choice 12 = .ok (.ireturn, 1) := by decide +kernel
theorem dX10_choice_13 : decode cX10_choice 13 = .ok (.aload_n 0, 1) := by decide +kernel
theorem dX10_choice_14 : decode cX10_choice 14 = .ok (.getfield 44, 3) := by decide +kernel
theorem dX10_choice_17 : decode cX10_choice 17 = .ok (.iload_n 1, 1) := by decide +kernel
theorem dX10_choice_18 : decode cX10_choice 18 = .ok (.invokevirtual 154, 3) := by decide +kernel
theorem dX10_choice_21 : decode cX10_choice 21 = .ok (.ifCond .eq 7, 3) := by decide +kernel
theorem dX10_choice_24 : decode cX10_choice 24 = .ok (.iload_n 2, 1) := by decide +kernel
theorem dX10_choice_25 : decode cX10_choice 25 = .ok (.ifCond .ge 6, 3) := by decide +kernel
theorem dX10_choice_28 : decode cX10_choice 28 = .ok (.bipush (-101), 2) := by decide +kernel
theorem dX10_choice_30 : decode cX10_choice 30 = .ok (.ireturn, 1) := by decide +kernel
theorem dX10_choice_31 : decode cX10_choice 31 = .ok (.aload_n 0, 1) := by decide +kernel
theorem dX10_choice_32 : decode cX10_choice 32 = .ok (.getfield 35, 3) := by decide +kernel
theorem dX10_choice_35 : decode cX10_choice 35 = .ok (.iload_n 2, 1) := by decide +kernel
theorem dX10_choice_36 : decode cX10_choice 36 = .ok (.invokevirtual 157, 3) := by decide +kernel
theorem dX10_choice_39 : decode cX10_choice 39 = .ok (.ireturn, 1) := by decide +kernel
theorem dX10_object_0 : decode cX10_object 0 = .ok (.aload_n 0, 1) := by decide +kernel
theorem dX10_object_1 : decode cX10_object 1 = .ok (.getfield 44, 3) := by decide +kernel
theorem dX10_object_4 : decode cX10_object 4 = .ok (.invokevirtual 148, 3) := by decide +kernel
theorem dX10_object_7 : decode cX10_object 7 = .ok (.ifCond .ne 6, 3) := by decide +kernel
theorem dX10_object_10 : decode cX10_object 10 = .ok (.bipush (-104), 2) := by decide +kernel
theorem dX10_object_12 : decode cX10_object 12 = .ok (.ireturn, 1) := by decide +kernel
theorem dX10_object_13 : decode cX10_object 13 = .ok (.aload_n 0, 1) := by decide +kernel
theorem dX10_object_14 : decode cX10_object 14 = .ok (.getfield 44, 3) := by decide +kernel
theorem dX10_object_17 : decode cX10_object 17 = .ok (.iload_n 1, 1) := by decide +kernel
theorem dX10_object_18 : decode cX10_object 18 = .ok (.invokevirtual 154, 3) := by decide +kernel
theorem dX10_object_21 : decode cX10_object 21 = .ok (.ifCond .eq 14, 3) := by decide +kernel
theorem dX10_object_24 : decode cX10_object 24 = .ok (.aload_n 0, 1) := by decide +kernel
theorem dX10_object_25 : decode cX10_object 25 = .ok (.getfield 35, 3) := by decide +kernel
theorem dX10_object_28 : decode cX10_object 28 = .ok (.iload_n 2, 1) := by decide +kernel
theorem dX10_object_29 : decode cX10_object 29 = .ok (.invokevirtual 160, 3) := by decide +kernel
theorem dX10_object_32 : decode cX10_object 32 = .ok (.ifCond .ne 6, 3) := by decide +kernel
theorem dX10_object_35 : decode cX10_object 35 = .ok (.bipush (-101), 2) := by decide +kernel
theorem dX10_object_37 : decode cX10_object 37 = .ok (.ireturn, 1) := by decide +kernel
theorem dX10_object_38 : decode cX10_object 38 = .ok (.iload_n 3, 1) := by decide +kernel
theorem dX10_object_39 : decode cX10_object 39 = .ok (.ifCond .ne 12, 3) := by decide +kernel
theorem dX10_object_42 : decode cX10_object 42 = .ok (.aload_n 0, 1) := by decide +kernel
theorem dX10_object_43 : decode cX10_object 43 = .ok (.getfield 35, 3) := by decide +kernel
theorem dX10_object_46 : decode cX10_object 46 = .ok (.iload_n 2, 1) := by decide +kernel
theorem dX10_object_47 : decode cX10_object 47 = .ok (.invokevirtual 163, 3) := by decide +kernel
theorem dX10_object_50 : decode cX10_object 50 = .ok (.ireturn, 1) := by decide +kernel
theorem dX10_object_51 : decode cX10_object 51 = .ok (.iload_n 3, 1) := by decide +kernel
theorem dX10_object_52 : decode cX10_object 52 = .ok (.iconst 1, 1) := by decide +kernel
theorem dX10_object_53 : decode cX10_object 53 = .ok (.if_icmp .lt 22, 3) := by decide +kernel
theorem dX10_object_56 : decode cX10_object 56 = .ok (.iload_n 3, 1) := by decide +kernel
theorem dX10_object_57 : decode cX10_object 57 = .ok (.aload_n 0, 1) := by decide +kernel
theorem dX10_object_58 : decode cX10_object 58 = .ok (.getfield 12, 3) := by decide +kernel
theorem dX10_object_61 : decode cX10_object 61 = .ok (.aload_n 0, 1) := by decide +kernel
theorem dX10_object_62 : decode cX10_object 62 = .ok (.getfield 35, 3) := by decide +kernel
theorem dX10_object_65 : decode cX10_object 65 = .ok (.iload_n 2, 1) := by decide +kernel
theorem dX10_object_66 : decode cX10_object 66 = .ok (.invokevirtual 163, 3) := by decide +kernel
theorem dX10_object_69 : decode cX10_object 69 = .ok (.invokevirtual 134, 3) := by decide +kernel
theorem dX10_object_72 : decode cX10_object 72 = .ok (.if_icmp .le 6, 3) := by decide +kernel
theorem dX10_object_75 : decode cX10_object 75 = .ok (.bipush (-102), 2) := by decide +kernel
theorem dX10_object_77 : decode cX10_object 77 = .ok (.ireturn, 1) := by decide +kernel
theorem dX10_object_78 : decode cX10_object 78 = .ok (.aload_n 0, 1) := by decide +kernel
theorem dX10_object_79 : decode cX10_object 79 = .ok (.getfield 35, 3) := by decide +kernel
theorem dX10_object_82 : decode cX10_object 82 = .ok (.iload_n 2, 1) := by decide +kernel
theorem dX10_object_83 : decode cX10_object 83 = .ok (.iload_n 3, 1) := by decide +kernel
theorem dX10_object_84 : decode cX10_object 84 = .ok (.iconst 1, 1) := by decide +kernel
theorem dX10_object_85 : decode cX10_object 85 = .ok (.isub, 1) := by decide +kernel
theorem dX10_object_86 : decode cX10_object 86 = .ok (.invokevirtual 166, 3) := by decide +kernel
theorem dX10_object_89 : decode cX10_object 89 = .ok (.ireturn, 1) := by decide +kernel
theorem dX10_put_0 : decode cX10_put 0 = .ok (.aload_n 0, 1) := by decide +kernel
theorem dX10_put_1 : decode cX10_put 1 = .ok (.getfield 70, 3) := by decide +kernel
theorem dX10_put_4 : decode cX10_put 4 = .ok (.bipush 40, 2) := by decide +kernel
theorem dX10_put_6 : decode cX10_put 6 = .ok (.if_icmp .lt 6, 3) := by decide +kernel
theorem dX10_put_9 : decode cX10_put 9 = .ok (.bipush (-104), 2) := by decide +kernel
theorem dX10_put_11 : decode cX10_put 11 = .ok (.ireturn, 1) := by decide +kernel
theorem dX10_put_12 : decode cX10_put 12 = .ok (.aload_n 0, 1) := by decide +kernel
theorem dX10_put_13 : decode cX10_put 13 = .ok (.getfield 66, 3) := by decide +kernel
theorem dX10_put_16 : decode cX10_put 16 = .ok (.aload_n 0, 1) := by decide +kernel
theorem dX10_put_17 : decode cX10_put 17 = .ok (.getfield 70, 3) := by decide +kernel
theorem dX10_put_20 : decode cX10_put 20 = .ok (.iload_n 1, 1) := by decide +kernel
theorem dX10_put_21 : decode cX10_put 21 = .ok (.iastore, 1) := by decide +kernel
theorem dX10_put_22 : decode cX10_put 22 = .ok (.aload_n 0, 1) := by decide +kernel
theorem dX10_put_23 : decode cX10_put 23 = .ok (.dup, 1) := by decide +kernel
theorem dX10_put_24 : decode cX10_put 24 = .ok (.getfield 70, 3) := by decide +kernel
theorem dX10_put_27 : decode cX10_put 27 = .ok (.iconst 1, 1) := by decide +kernel
theorem dX10_put_28 : decode cX10_put 28 = .ok (.iadd, 1) := by decide +kernel
theorem dX10_put_29 : decode cX10_put 29 = .ok (.putfield 70, 3) := by decide +kernel
theorem dX10_put_32 : decode cX10_put 32 = .ok (.aload_n 0, 1) := by decide +kernel
theorem dX10_put_33 : decode cX10_put 33 = .ok (.getfield 70, 3) := by decide +kernel
theorem dX10_put_36 : decode cX10_put 36 = .ok (.ireturn, 1) := by decide +kernel
theorem dX10_empty_0 : decode cX10_empty 0 = .ok (.aload_n 0, 1) := by decide +kernel
theorem dX10_empty_1 : decode cX10_empty 1 = .ok (.getfield 70, 3) := by decide +kernel
theorem dX10_empty_4 : decode cX10_empty 4 = .ok (.istore_n 1, 1) := by decide +kernel
theorem dX10_empty_5 : decode cX10_empty 5 = .ok (.aload_n 0, 1) := by decide +kernel
theorem dX10_empty_6 : decode cX10_empty 6 = .ok (.iconst 0, 1) := by decide +kernel
theorem dX10_empty_7 : decode cX10_empty 7 = .ok (.putfield 70, 3) := by decide +kernel
theorem dX10_empty_10 : decode cX10_empty 10 = .ok (.iload_n 1, 1) := by decide +kernel
theorem dX10_empty_11 : decode cX10_empty 11 = .ok (.ireturn, 1) := by decide +kernel
theorem dX10_rank_0 : decode cX10_rank 0 = .ok (.aload_n 0, 1) := by decide +kernel
theorem dX10_rank_1 : decode cX10_rank 1 = .ok (.getfield 44, 3) := by decide +kernel
theorem dX10_rank_4 : decode cX10_rank 4 = .ok (.invokevirtual 148, 3) := by decide +kernel
theorem dX10_rank_7 : decode cX10_rank 7 = .ok (.ifCond .ne 6, 3) := by decide +kernel
theorem dX10_rank_10 : decode cX10_rank 10 = .ok (.bipush (-104), 2) := by decide +kernel
theorem dX10_rank_12 : decode cX10_rank 12 = .ok (.ireturn, 1) := by decide +kernel
theorem dX10_rank_13 : decode cX10_rank 13 = .ok (.aload_n 0, 1) := by decide +kernel
theorem dX10_rank_14 : decode cX10_rank 14 = .ok (.getfield 35, 3) := by decide +kernel
theorem dX10_rank_17 : decode cX10_rank 17 = .ok (.aload_n 0, 1) := by decide +kernel
theorem dX10_rank_18 : decode cX10_rank 18 = .ok (.getfield 66, 3) := by decide +kernel
theorem dX10_rank_21 : decode cX10_rank 21 = .ok (.aload_n 0, 1) := by decide +kernel
theorem dX10_rank_22 : decode cX10_rank 22 = .ok (.getfield 70, 3) := by decide +kernel
theorem dX10_rank_25 : decode cX10_rank 25 = .ok (.invokevirtual 170, 3) := by decide +kernel
theorem dX10_rank_28 : decode cX10_rank 28 = .ok (.istore_n 1, 1) := by decide +kernel
theorem dX10_rank_29 : decode cX10_rank 29 = .ok (.iload_n 1, 1) := by decide +kernel
theorem dX10_rank_30 : decode cX10_rank 30 = .ok (.iconst (-1), 1) := by decide +kernel
theorem dX10_rank_31 : decode cX10_rank 31 = .ok (.if_icmp .eq 8, 3) := by decide +kernel
theorem dX10_rank_34 : decode cX10_rank 34 = .ok (.bipush (-10), 2) := by decide +kernel
theorem dX10_rank_36 : decode cX10_rank 36 = .ok (.iload_n 1, 1) := by decide +kernel
theorem dX10_rank_37 : decode cX10_rank 37 = .ok (.isub, 1) := by decide +kernel
theorem dX10_rank_38 : decode cX10_rank 38 = .ok (.ireturn, 1) := by decide +kernel
theorem dX10_rank_39 : decode cX10_rank 39 = .ok (.aload_n 0, 1) := by decide +kernel
theorem dX10_rank_40 : decode cX10_rank 40 = .ok (.getfield 44, 3) := by decide +kernel
theorem dX10_rank_43 : decode cX10_rank 43 = .ok (.aload_n 0, 1) := by decide +kernel
theorem dX10_rank_44 : decode cX10_rank 44 = .ok (.getfield 44, 3) := by decide +kernel
theorem dX10_rank_47 : decode cX10_rank 47 = .ok (.getfield 141, 3) := by decide +kernel
theorem dX10_rank_50 : decode cX10_rank 50 = .ok (.aload_n 0, 1) := by decide +kernel
theorem dX10_rank_51 : decode cX10_rank 51 = .ok (.getfield 66, 3) := by decide +kernel
theorem dX10_rank_54 : decode cX10_rank 54 = .ok (.aload_n 0, 1) := by decide +kernel
theorem dX10_rank_55 : decode cX10_rank 55 = .ok (.getfield 70, 3) := by decide +kernel
theorem dX10_rank_58 : decode cX10_rank 58 = .ok (.invokevirtual 174, 3) := by decide +kernel
theorem dX10_rank_61 : decode cX10_rank 61 = .ok (.invokevirtual 177, 3) := by decide +kernel
theorem dX10_rank_64 : decode cX10_rank 64 = .ok (.ireturn, 1) := by decide +kernel
theorem dX10_step_0 : decode cX10_step 0 = .ok (.iload_n 1, 1) := by decide +kernel
theorem dX10_step_1 : decode cX10_step 1 = .ok (.ifCond .lt 24, 3) := by decide +kernel
theorem dX10_step_4 : decode cX10_step 4 = .ok (.iload_n 1, 1) := by decide +kernel
theorem dX10_step_5 : decode cX10_step 5 = .ok (.iconst 2, 1) := by decide +kernel
theorem dX10_step_6 : decode cX10_step 6 = .ok (.if_icmp .gt 19, 3) := by decide +kernel
theorem dX10_step_9 : decode cX10_step 9 = .ok (.iload_n 2, 1) := by decide +kernel
theorem dX10_step_10 : decode cX10_step 10 = .ok (.invokestatic 180, 3) := by decide +kernel
theorem dX10_step_13 : decode cX10_step 13 = .ok (.ifCond .eq 12, 3) := by decide +kernel
theorem dX10_step_16 : decode cX10_step 16 = .ok (.iload_n 3, 1) := by decide +kernel
theorem dX10_step_17 : decode cX10_step 17 = .ok (.ifCond .lt 8, 3) := by decide +kernel
theorem dX10_step_20 : decode cX10_step 20 = .ok (.iload_n 3, 1) := by decide +kernel
theorem dX10_step_21 : decode cX10_step 21 = .ok (.iconst 4, 1) := by decide +kernel
theorem dX10_step_22 : decode cX10_step 22 = .ok (.if_icmp .lt 6, 3) := by decide +kernel
theorem dX10_step_25 : decode cX10_step 25 = .ok (.bipush (-102), 2) := by decide +kernel
theorem dX10_step_27 : decode cX10_step 27 = .ok (.ireturn, 1) := by decide +kernel
theorem dX10_step_28 : decode cX10_step 28 = .ok (.iload_n 1, 1) := by decide +kernel
theorem dX10_step_29 : decode cX10_step 29 = .ok (.iconst 2, 1) := by decide +kernel
theorem dX10_step_30 : decode cX10_step 30 = .ok (.if_icmp .eq 17, 3) := by decide +kernel
theorem dX10_step_33 : decode cX10_step 33 = .ok (.iload 4, 2) := by decide +kernel
theorem dX10_step_35 : decode cX10_step 35 = .ok (.ifCond .lt 9, 3) := by decide +kernel
theorem dX10_step_38 : decode cX10_step 38 = .ok (.iload 4, 2) := by decide +kernel
theorem dX10_step_40 : decode cX10_step 40 = .ok (.iconst 3, 1) := by decide +kernel
theorem dX10_step_41 : decode cX10_step 41 = .ok (.if_icmp .le 6, 3) := by decide +kernel
theorem dX10_step_44 : decode cX10_step 44 = .ok (.bipush (-102), 2) := by decide +kernel
theorem dX10_step_46 : decode cX10_step 46 = .ok (.ireturn, 1) := by decide +kernel
theorem dX10_step_47 : decode cX10_step 47 = .ok (.iload_n 1, 1) := by decide +kernel
theorem dX10_step_48 : decode cX10_step 48 = .ok (.ifCond .eq 18, 3) := by decide +kernel
theorem dX10_step_51 : decode cX10_step 51 = .ok (.iload 5, 2) := by decide +kernel
theorem dX10_step_53 : decode cX10_step 53 = .ok (.ifCond .lt 10, 3) := by decide +kernel
theorem dX10_step_56 : decode cX10_step 56 = .ok (.iload 5, 2) := by decide +kernel
theorem dX10_step_58 : decode cX10_step 58 = .ok (.bipush 16, 2) := by decide +kernel
theorem dX10_step_60 : decode cX10_step 60 = .ok (.if_icmp .le 6, 3) := by decide +kernel
theorem dX10_step_63 : decode cX10_step 63 = .ok (.bipush (-102), 2) := by decide +kernel
theorem dX10_step_65 : decode cX10_step 65 = .ok (.ireturn, 1) := by decide +kernel
theorem dX10_step_66 : decode cX10_step 66 = .ok (.aload_n 0, 1) := by decide +kernel
theorem dX10_step_67 : decode cX10_step 67 = .ok (.getfield 26, 3) := by decide +kernel
theorem dX10_step_70 : decode cX10_step 70 = .ok (.new 183, 3) := by decide +kernel
theorem dX10_step_73 : decode cX10_step 73 = .ok (.dup, 1) := by decide +kernel
theorem dX10_step_74 : decode cX10_step 74 = .ok (.iload_n 1, 1) := by decide +kernel
theorem dX10_step_75 : decode cX10_step 75 = .ok (.iload_n 2, 1) := by decide +kernel
theorem dX10_step_76 : decode cX10_step 76 = .ok (.iload_n 3, 1) := by decide +kernel
theorem dX10_step_77 : decode cX10_step 77 = .ok (.iload 4, 2) := by decide +kernel
theorem dX10_step_79 : decode cX10_step 79 = .ok (.iload 5, 2) := by decide +kernel
theorem dX10_step_81 : decode cX10_step 81 = .ok (.invokespecial 185, 3) := by decide +kernel
theorem dX10_step_84 : decode cX10_step 84 = .ok (.invokevirtual 188, 3) := by decide +kernel
theorem dX10_step_87 : decode cX10_step 87 = .ok (.istore 6, 2) := by decide +kernel
theorem dX10_step_89 : decode cX10_step 89 = .ok (.iload 6, 2) := by decide +kernel
theorem dX10_step_91 : decode cX10_step 91 = .ok (.bipush (-104), 2) := by decide +kernel
theorem dX10_step_93 : decode cX10_step 93 = .ok (.if_icmp .eq 10, 3) := by decide +kernel
theorem dX10_step_96 : decode cX10_step 96 = .ok (.aload_n 0, 1) := by decide +kernel
theorem dX10_step_97 : decode cX10_step 97 = .ok (.getfield 62, 3) := by decide +kernel
theorem dX10_step_100 : decode cX10_step 100 = .ok (.invokevirtual 191, 3) := by decide +kernel
theorem dX10_step_103 : decode cX10_step 103 = .ok (.iload 6, 2) := by decide +kernel
theorem dX10_step_105 : decode cX10_step 105 = .ok (.ireturn, 1) := by decide +kernel
theorem dX10_erase_0 : decode cX10_erase 0 = .ok (.aload_n 0, 1) := by decide +kernel
theorem dX10_erase_1 : decode cX10_erase 1 = .ok (.getfield 62, 3) := by decide +kernel
theorem dX10_erase_4 : decode cX10_erase 4 = .ok (.invokevirtual 191, 3) := by decide +kernel
theorem dX10_erase_7 : decode cX10_erase 7 = .ok (.aload_n 0, 1) := by decide +kernel
theorem dX10_erase_8 : decode cX10_erase 8 = .ok (.getfield 26, 3) := by decide +kernel
theorem dX10_erase_11 : decode cX10_erase 11 = .ok (.invokevirtual 194, 3) := by decide +kernel
theorem dX10_erase_14 : decode cX10_erase 14 = .ok (.ireturn, 1) := by decide +kernel
theorem dX10_ends_0 : decode cX10_ends 0 = .ok (.aload_n 0, 1) := by decide +kernel
theorem dX10_ends_1 : decode cX10_ends 1 = .ok (.getfield 62, 3) := by decide +kernel
theorem dX10_ends_4 : decode cX10_ends 4 = .ok (.aload_n 0, 1) := by decide +kernel
theorem dX10_ends_5 : decode cX10_ends 5 = .ok (.getfield 26, 3) := by decide +kernel
theorem dX10_ends_8 : decode cX10_ends 8 = .ok (.invokevirtual 195, 3) := by decide +kernel
theorem dX10_ends_11 : decode cX10_ends 11 = .ok (.ifCond .eq 13, 3) := by decide +kernel
theorem dX10_ends_14 : decode cX10_ends 14 = .ok (.aload_n 0, 1) := by decide +kernel
theorem dX10_ends_15 : decode cX10_ends 15 = .ok (.getfield 62, 3) := by decide +kernel
theorem dX10_ends_18 : decode cX10_ends 18 = .ok (.getfield 199, 3) := by decide +kernel
theorem dX10_ends_21 : decode cX10_ends 21 = .ok (.goto 5, 3) := by decide +kernel
theorem dX10_ends_24 : decode cX10_ends 24 = .ok (.bipush (-104), 2) := by decide +kernel
theorem dX10_ends_26 : decode cX10_ends 26 = .ok (.ireturn, 1) := by decide +kernel
theorem dX10_end_0 : decode cX10_end 0 = .ok (.aload_n 0, 1) := by decide +kernel
theorem dX10_end_1 : decode cX10_end 1 = .ok (.getfield 62, 3) := by decide +kernel
theorem dX10_end_4 : decode cX10_end 4 = .ok (.aload_n 0, 1) := by decide +kernel
theorem dX10_end_5 : decode cX10_end 5 = .ok (.getfield 26, 3) := by decide +kernel
theorem dX10_end_8 : decode cX10_end 8 = .ok (.invokevirtual 195, 3) := by decide +kernel
theorem dX10_end_11 : decode cX10_end 11 = .ok (.ifCond .ne 6, 3) := by decide +kernel
theorem dX10_end_14 : decode cX10_end 14 = .ok (.bipush (-104), 2) := by decide +kernel
theorem dX10_end_16 : decode cX10_end 16 = .ok (.ireturn, 1) := by decide +kernel
theorem dX10_end_17 : decode cX10_end 17 = .ok (.aload_n 0, 1) := by decide +kernel
theorem dX10_end_18 : decode cX10_end 18 = .ok (.getfield 62, 3) := by decide +kernel
theorem dX10_end_21 : decode cX10_end 21 = .ok (.iload_n 1, 1) := by decide +kernel
theorem dX10_end_22 : decode cX10_end 22 = .ok (.aload_n 0, 1) := by decide +kernel
theorem dX10_end_23 : decode cX10_end 23 = .ok (.getfield 26, 3) := by decide +kernel
theorem dX10_end_26 : decode cX10_end 26 = .ok (.invokevirtual 200, 3) := by decide +kernel
theorem dX10_end_29 : decode cX10_end 29 = .ok (.ifCond .ne 6, 3) := by decide +kernel
theorem dX10_end_32 : decode cX10_end 32 = .ok (.bipush (-101), 2) := by decide +kernel
theorem dX10_end_34 : decode cX10_end 34 = .ok (.ireturn, 1) := by decide +kernel
theorem dX10_end_35 : decode cX10_end 35 = .ok (.iload_n 2, 1) := by decide +kernel
theorem dX10_end_36 : decode cX10_end 36 = .ok (.tableswitch 93 0 4 #[36, 44, 52, 61, 85], 36) := by decide +kernel
theorem dX10_end_72 : decode cX10_end 72 = .ok (.aload_n 0, 1) := by decide +kernel
theorem dX10_end_73 : decode cX10_end 73 = .ok (.getfield 53, 3) := by decide +kernel
theorem dX10_end_76 : decode cX10_end 76 = .ok (.getfield 204, 3) := by decide +kernel
theorem dX10_end_79 : decode cX10_end 79 = .ok (.ireturn, 1) := by decide +kernel
theorem dX10_end_80 : decode cX10_end 80 = .ok (.aload_n 0, 1) := by decide +kernel
theorem dX10_end_81 : decode cX10_end 81 = .ok (.getfield 53, 3) := by decide +kernel
theorem dX10_end_84 : decode cX10_end 84 = .ok (.getfield 207, 3) := by decide +kernel
theorem dX10_end_87 : decode cX10_end 87 = .ok (.ireturn, 1) := by decide +kernel
theorem dX10_end_88 : decode cX10_end 88 = .ok (.aload_n 0, 1) := by decide +kernel
theorem dX10_end_89 : decode cX10_end 89 = .ok (.getfield 62, 3) := by decide +kernel
theorem dX10_end_92 : decode cX10_end 92 = .ok (.iload_n 1, 1) := by decide +kernel
theorem dX10_end_93 : decode cX10_end 93 = .ok (.invokevirtual 210, 3) := by decide +kernel
theorem dX10_end_96 : decode cX10_end 96 = .ok (.ireturn, 1) := by decide +kernel
theorem dX10_end_97 : decode cX10_end 97 = .ok (.aload_n 0, 1) := by decide +kernel
theorem dX10_end_98 : decode cX10_end 98 = .ok (.getfield 44, 3) := by decide +kernel
theorem dX10_end_101 : decode cX10_end 101 = .ok (.invokevirtual 148, 3) := by decide +kernel
theorem dX10_end_104 : decode cX10_end 104 = .ok (.ifCond .eq 14, 3) := by decide +kernel
theorem dX10_end_107 : decode cX10_end 107 = .ok (.aload_n 0, 1) := by decide +kernel
theorem dX10_end_108 : decode cX10_end 108 = .ok (.getfield 62, 3) := by decide +kernel
theorem dX10_end_111 : decode cX10_end 111 = .ok (.iload_n 1, 1) := by decide +kernel
theorem dX10_end_112 : decode cX10_end 112 = .ok (.invokevirtual 213, 3) := by decide +kernel
theorem dX10_end_115 : decode cX10_end 115 = .ok (.goto 5, 3) := by decide +kernel
theorem dX10_end_118 : decode cX10_end 118 = .ok (.bipush (-104), 2) := by decide +kernel
theorem dX10_end_120 : decode cX10_end 120 = .ok (.ireturn, 1) := by decide +kernel
theorem dX10_end_121 : decode cX10_end 121 = .ok (.aload_n 0, 1) := by decide +kernel
theorem dX10_end_122 : decode cX10_end 122 = .ok (.getfield 53, 3) := by decide +kernel
theorem dX10_end_125 : decode cX10_end 125 = .ok (.getfield 216, 3) := by decide +kernel
theorem dX10_end_128 : decode cX10_end 128 = .ok (.ireturn, 1) := by decide +kernel
theorem dX10_end_129 : decode cX10_end 129 = .ok (.bipush (-102), 2) := by decide +kernel
theorem dX10_end_131 : decode cX10_end 131 = .ok (.ireturn, 1) := by decide +kernel
theorem dX10_look_0 : decode cX10_look 0 = .ok (.aload_n 0, 1) := by decide +kernel
theorem dX10_look_1 : decode cX10_look 1 = .ok (.getfield 62, 3) := by decide +kernel
theorem dX10_look_4 : decode cX10_look 4 = .ok (.aload_n 0, 1) := by decide +kernel
theorem dX10_look_5 : decode cX10_look 5 = .ok (.getfield 26, 3) := by decide +kernel
theorem dX10_look_8 : decode cX10_look 8 = .ok (.invokevirtual 195, 3) := by decide +kernel
theorem dX10_look_11 : decode cX10_look 11 = .ok (.ifCond .ne 6, 3) := by decide +kernel
theorem dX10_look_14 : decode cX10_look 14 = .ok (.bipush (-104), 2) := by decide +kernel
theorem dX10_look_16 : decode cX10_look 16 = .ok (.ireturn, 1) := by decide +kernel
theorem dX10_look_17 : decode cX10_look 17 = .ok (.aload_n 0, 1) := by decide +kernel
theorem dX10_look_18 : decode cX10_look 18 = .ok (.getfield 62, 3) := by decide +kernel
theorem dX10_look_21 : decode cX10_look 21 = .ok (.iload_n 1, 1) := by decide +kernel
theorem dX10_look_22 : decode cX10_look 22 = .ok (.aload_n 0, 1) := by decide +kernel
theorem dX10_look_23 : decode cX10_look 23 = .ok (.getfield 26, 3) := by decide +kernel
theorem dX10_look_26 : decode cX10_look 26 = .ok (.invokevirtual 200, 3) := by decide +kernel
theorem dX10_look_29 : decode cX10_look 29 = .ok (.ifCond .eq 7, 3) := by decide +kernel
theorem dX10_look_32 : decode cX10_look 32 = .ok (.iload_n 2, 1) := by decide +kernel
theorem dX10_look_33 : decode cX10_look 33 = .ok (.ifCond .ge 6, 3) := by decide +kernel
theorem dX10_look_36 : decode cX10_look 36 = .ok (.bipush (-101), 2) := by decide +kernel
theorem dX10_look_38 : decode cX10_look 38 = .ok (.ireturn, 1) := by decide +kernel
theorem dX10_look_39 : decode cX10_look 39 = .ok (.aload_n 0, 1) := by decide +kernel
theorem dX10_look_40 : decode cX10_look 40 = .ok (.getfield 53, 3) := by decide +kernel
theorem dX10_look_43 : decode cX10_look 43 = .ok (.iload_n 2, 1) := by decide +kernel
theorem dX10_look_44 : decode cX10_look 44 = .ok (.invokevirtual 219, 3) := by decide +kernel
theorem dX10_look_47 : decode cX10_look 47 = .ok (.ireturn, 1) := by decide +kernel
theorem dX10_endOf_0 : decode cX10_endOf 0 = .ok (.aload_n 0, 1) := by decide +kernel
theorem dX10_endOf_1 : decode cX10_endOf 1 = .ok (.getfield 44, 3) := by decide +kernel
theorem dX10_endOf_4 : decode cX10_endOf 4 = .ok (.invokevirtual 148, 3) := by decide +kernel
theorem dX10_endOf_7 : decode cX10_endOf 7 = .ok (.ifCond .eq 17, 3) := by decide +kernel
theorem dX10_endOf_10 : decode cX10_endOf 10 = .ok (.aload_n 0, 1) := by decide +kernel
theorem dX10_endOf_11 : decode cX10_endOf 11 = .ok (.getfield 62, 3) := by decide +kernel
theorem dX10_endOf_14 : decode cX10_endOf 14 = .ok (.aload_n 0, 1) := by decide +kernel
theorem dX10_endOf_15 : decode cX10_endOf 15 = .ok (.getfield 26, 3) := by decide +kernel
theorem dX10_endOf_18 : decode cX10_endOf 18 = .ok (.invokevirtual 195, 3) := by decide +kernel
theorem dX10_endOf_21 : decode cX10_endOf 21 = .ok (.ifCond .ne 6, 3) := by decide +kernel
theorem dX10_endOf_24 : decode cX10_endOf 24 = .ok (.bipush (-104), 2) := by decide +kernel
theorem dX10_endOf_26 : decode cX10_endOf 26 = .ok (.ireturn, 1) := by decide +kernel
theorem dX10_endOf_27 : decode cX10_endOf 27 = .ok (.aload_n 0, 1) := by decide +kernel
theorem dX10_endOf_28 : decode cX10_endOf 28 = .ok (.getfield 44, 3) := by decide +kernel
theorem dX10_endOf_31 : decode cX10_endOf 31 = .ok (.iload_n 1, 1) := by decide +kernel
theorem dX10_endOf_32 : decode cX10_endOf 32 = .ok (.invokevirtual 222, 3) := by decide +kernel
theorem dX10_endOf_35 : decode cX10_endOf 35 = .ok (.ifCond .ne 6, 3) := by decide +kernel
theorem dX10_endOf_38 : decode cX10_endOf 38 = .ok (.bipush (-101), 2) := by decide +kernel
theorem dX10_endOf_40 : decode cX10_endOf 40 = .ok (.ireturn, 1) := by decide +kernel
theorem dX10_endOf_41 : decode cX10_endOf 41 = .ok (.aload_n 0, 1) := by decide +kernel
theorem dX10_endOf_42 : decode cX10_endOf 42 = .ok (.getfield 62, 3) := by decide +kernel
theorem dX10_endOf_45 : decode cX10_endOf 45 = .ok (.aload_n 0, 1) := by decide +kernel
theorem dX10_endOf_46 : decode cX10_endOf 46 = .ok (.getfield 44, 3) := by decide +kernel
theorem dX10_endOf_49 : decode cX10_endOf 49 = .ok (.iload_n 1, 1) := by decide +kernel
theorem dX10_endOf_50 : decode cX10_endOf 50 = .ok (.invokevirtual 225, 3) := by decide +kernel
theorem dX10_endOf_53 : decode cX10_endOf 53 = .ok (.invokevirtual 228, 3) := by decide +kernel
theorem dX10_endOf_56 : decode cX10_endOf 56 = .ok (.ireturn, 1) := by decide +kernel
theorem dX10_afterShape_0 : decode cX10_afterShape 0 = .ok (.iload_n 1, 1) := by decide +kernel
theorem dX10_afterShape_1 : decode cX10_afterShape 1 = .ok (.bipush (-104), 2) := by decide +kernel
theorem dX10_afterShape_3 : decode cX10_afterShape 3 = .ok (.if_icmp .eq 7, 3) := by decide +kernel
theorem dX10_afterShape_6 : decode cX10_afterShape 6 = .ok (.aload_n 0, 1) := by decide +kernel
theorem dX10_afterShape_7 : decode cX10_afterShape 7 = .ok (.invokevirtual 98, 3) := by decide +kernel
theorem dX10_afterShape_10 : decode cX10_afterShape 10 = .ok (.iload_n 1, 1) := by decide +kernel
theorem dX10_afterShape_11 : decode cX10_afterShape 11 = .ok (.ireturn, 1) := by decide +kernel
theorem dX10_forgetRows_0 : decode cX10_forgetRows 0 = .ok (.aload_n 0, 1) := by decide +kernel
theorem dX10_forgetRows_1 : decode cX10_forgetRows 1 = .ok (.getfield 44, 3) := by decide +kernel
theorem dX10_forgetRows_4 : decode cX10_forgetRows 4 = .ok (.invokevirtual 231, 3) := by decide +kernel
theorem dX10_forgetRows_7 : decode cX10_forgetRows 7 = .ok (.aload_n 0, 1) := by decide +kernel
theorem dX10_forgetRows_8 : decode cX10_forgetRows 8 = .ok (.getfield 62, 3) := by decide +kernel
theorem dX10_forgetRows_11 : decode cX10_forgetRows 11 = .ok (.invokevirtual 191, 3) := by decide +kernel
theorem dX10_forgetRows_14 : decode cX10_forgetRows 14 = .ok (.return_, 1) := by decide +kernel
theorem dX10_namesKnown_0 : decode cX10_namesKnown 0 = .ok (.aload_n 0, 1) := by decide +kernel
theorem dX10_namesKnown_1 : decode cX10_namesKnown 1 = .ok (.getfield 12, 3) := by decide +kernel
theorem dX10_namesKnown_4 : decode cX10_namesKnown 4 = .ok (.iload_n 2, 1) := by decide +kernel
theorem dX10_namesKnown_5 : decode cX10_namesKnown 5 = .ok (.iload_n 3, 1) := by decide +kernel
theorem dX10_namesKnown_6 : decode cX10_namesKnown 6 = .ok (.invokevirtual 232, 3) := by decide +kernel
theorem dX10_namesKnown_9 : decode cX10_namesKnown 9 = .ok (.ifCond .ne 5, 3) := by decide +kernel
theorem dX10_namesKnown_12 : decode cX10_namesKnown 12 = .ok (.iconst 0, 1) := by decide +kernel
theorem dX10_namesKnown_13 : decode cX10_namesKnown 13 = .ok (.ireturn, 1) := by decide +kernel
theorem dX10_namesKnown_14 : decode cX10_namesKnown 14 = .ok (.iload_n 1, 1) := by decide +kernel
theorem dX10_namesKnown_15 : decode cX10_namesKnown 15 = .ok (.ifCond .eq 19, 3) := by decide +kernel
theorem dX10_namesKnown_18 : decode cX10_namesKnown 18 = .ok (.iload 4, 2) := by decide +kernel
theorem dX10_namesKnown_20 : decode cX10_namesKnown 20 = .ok (.iconst (-1), 1) := by decide +kernel
theorem dX10_namesKnown_21 : decode cX10_namesKnown 21 = .ok (.if_icmp .ne 17, 3) := by decide +kernel
theorem dX10_namesKnown_24 : decode cX10_namesKnown 24 = .ok (.iload_n 1, 1) := by decide +kernel
theorem dX10_namesKnown_25 : decode cX10_namesKnown 25 = .ok (.iconst 1, 1) := by decide +kernel
theorem dX10_namesKnown_26 : decode cX10_namesKnown 26 = .ok (.if_icmp .eq 8, 3) := by decide +kernel
theorem dX10_namesKnown_29 : decode cX10_namesKnown 29 = .ok (.iload_n 1, 1) := by decide +kernel
theorem dX10_namesKnown_30 : decode cX10_namesKnown 30 = .ok (.iconst 2, 1) := by decide +kernel
theorem dX10_namesKnown_31 : decode cX10_namesKnown 31 = .ok (.if_icmp .ne 7, 3) := by decide +kernel
theorem dX10_namesKnown_34 : decode cX10_namesKnown 34 = .ok (.iconst 1, 1) := by decide +kernel
theorem dX10_namesKnown_35 : decode cX10_namesKnown 35 = .ok (.goto 4, 3) := by decide +kernel
theorem dX10_namesKnown_38 : decode cX10_namesKnown 38 = .ok (.iconst 0, 1) := by decide +kernel
theorem dX10_namesKnown_39 : decode cX10_namesKnown 39 = .ok (.istore 5, 2) := by decide +kernel
theorem dX10_namesKnown_41 : decode cX10_namesKnown 41 = .ok (.iload 5, 2) := by decide +kernel
theorem dX10_namesKnown_43 : decode cX10_namesKnown 43 = .ok (.ifCond .ne 16, 3) := by decide +kernel
theorem dX10_namesKnown_46 : decode cX10_namesKnown 46 = .ok (.aload_n 0, 1) := by decide +kernel
theorem dX10_namesKnown_47 : decode cX10_namesKnown 47 = .ok (.getfield 12, 3) := by decide +kernel
theorem dX10_namesKnown_50 : decode cX10_namesKnown 50 = .ok (.iload_n 2, 1) := by decide +kernel
theorem dX10_namesKnown_51 : decode cX10_namesKnown 51 = .ok (.iload 4, 2) := by decide +kernel
theorem dX10_namesKnown_53 : decode cX10_namesKnown 53 = .ok (.invokevirtual 232, 3) := by decide +kernel
theorem dX10_namesKnown_56 : decode cX10_namesKnown 56 = .ok (.ifCond .eq 7, 3) := by decide +kernel
theorem dX10_namesKnown_59 : decode cX10_namesKnown 59 = .ok (.iconst 1, 1) := by decide +kernel
theorem dX10_namesKnown_60 : decode cX10_namesKnown 60 = .ok (.goto 4, 3) := by decide +kernel
theorem dX10_namesKnown_63 : decode cX10_namesKnown 63 = .ok (.iconst 0, 1) := by decide +kernel
theorem dX10_namesKnown_64 : decode cX10_namesKnown 64 = .ok (.ireturn, 1) := by decide +kernel
theorem dX10_sortsFit_0 : decode cX10_sortsFit 0 = .ok (.aload_n 0, 1) := by decide +kernel
theorem dX10_sortsFit_1 : decode cX10_sortsFit 1 = .ok (.getfield 12, 3) := by decide +kernel
theorem dX10_sortsFit_4 : decode cX10_sortsFit 4 = .ok (.iload_n 2, 1) := by decide +kernel
theorem dX10_sortsFit_5 : decode cX10_sortsFit 5 = .ok (.iload_n 3, 1) := by decide +kernel
theorem dX10_sortsFit_6 : decode cX10_sortsFit 6 = .ok (.invokevirtual 236, 3) := by decide +kernel
theorem dX10_sortsFit_9 : decode cX10_sortsFit 9 = .ok (.ifCond .ne 5, 3) := by decide +kernel
theorem dX10_sortsFit_12 : decode cX10_sortsFit 12 = .ok (.iconst 0, 1) := by decide +kernel
theorem dX10_sortsFit_13 : decode cX10_sortsFit 13 = .ok (.ireturn, 1) := by decide +kernel
theorem dX10_sortsFit_14 : decode cX10_sortsFit 14 = .ok (.iload_n 1, 1) := by decide +kernel
theorem dX10_sortsFit_15 : decode cX10_sortsFit 15 = .ok (.tableswitch 86 0 5 #[37, 39, 39, 64, 75, 75], 37) := by decide +kernel
theorem dX10_sortsFit_52 : decode cX10_sortsFit 52 = .ok (.iconst 1, 1) := by decide +kernel
theorem dX10_sortsFit_53 : decode cX10_sortsFit 53 = .ok (.ireturn, 1) := by decide +kernel
theorem dX10_sortsFit_54 : decode cX10_sortsFit 54 = .ok (.iload 4, 2) := by decide +kernel
theorem dX10_sortsFit_56 : decode cX10_sortsFit 56 = .ok (.iconst (-1), 1) := by decide +kernel
theorem dX10_sortsFit_57 : decode cX10_sortsFit 57 = .ok (.if_icmp .eq 16, 3) := by decide +kernel
theorem dX10_sortsFit_60 : decode cX10_sortsFit 60 = .ok (.aload_n 0, 1) := by decide +kernel
theorem dX10_sortsFit_61 : decode cX10_sortsFit 61 = .ok (.getfield 12, 3) := by decide +kernel
theorem dX10_sortsFit_64 : decode cX10_sortsFit 64 = .ok (.iload_n 2, 1) := by decide +kernel
theorem dX10_sortsFit_65 : decode cX10_sortsFit 65 = .ok (.iload 4, 2) := by decide +kernel
theorem dX10_sortsFit_67 : decode cX10_sortsFit 67 = .ok (.invokevirtual 236, 3) := by decide +kernel
theorem dX10_sortsFit_70 : decode cX10_sortsFit 70 = .ok (.ifCond .eq 7, 3) := by decide +kernel
theorem dX10_sortsFit_73 : decode cX10_sortsFit 73 = .ok (.iconst 1, 1) := by decide +kernel
theorem dX10_sortsFit_74 : decode cX10_sortsFit 74 = .ok (.goto 4, 3) := by decide +kernel
theorem dX10_sortsFit_77 : decode cX10_sortsFit 77 = .ok (.iconst 0, 1) := by decide +kernel
theorem dX10_sortsFit_78 : decode cX10_sortsFit 78 = .ok (.ireturn, 1) := by decide +kernel
theorem dX10_sortsFit_79 : decode cX10_sortsFit 79 = .ok (.aload_n 0, 1) := by decide +kernel
theorem dX10_sortsFit_80 : decode cX10_sortsFit 80 = .ok (.getfield 12, 3) := by decide +kernel
theorem dX10_sortsFit_83 : decode cX10_sortsFit 83 = .ok (.iload_n 2, 1) := by decide +kernel
theorem dX10_sortsFit_84 : decode cX10_sortsFit 84 = .ok (.iload 4, 2) := by decide +kernel
theorem dX10_sortsFit_86 : decode cX10_sortsFit 86 = .ok (.invokevirtual 236, 3) := by decide +kernel
theorem dX10_sortsFit_89 : decode cX10_sortsFit 89 = .ok (.ireturn, 1) := by decide +kernel
theorem dX10_sortsFit_90 : decode cX10_sortsFit 90 = .ok (.aload_n 0, 1) := by decide +kernel
theorem dX10_sortsFit_91 : decode cX10_sortsFit 91 = .ok (.getfield 12, 3) := by decide +kernel
theorem dX10_sortsFit_94 : decode cX10_sortsFit 94 = .ok (.iload_n 2, 1) := by decide +kernel
theorem dX10_sortsFit_95 : decode cX10_sortsFit 95 = .ok (.iload 4, 2) := by decide +kernel
theorem dX10_sortsFit_97 : decode cX10_sortsFit 97 = .ok (.invokevirtual 239, 3) := by decide +kernel
theorem dX10_sortsFit_100 : decode cX10_sortsFit 100 = .ok (.ireturn, 1) := by decide +kernel
theorem dX10_sortsFit_101 : decode cX10_sortsFit 101 = .ok (.iconst 0, 1) := by decide +kernel
theorem dX10_sortsFit_102 : decode cX10_sortsFit 102 = .ok (.ireturn, 1) := by decide +kernel
theorem dX10_isVariable_0 : decode cX10_isVariable 0 = .ok (.iload_n 0, 1) := by decide +kernel
theorem dX10_isVariable_1 : decode cX10_isVariable 1 = .ok (.ifCond .lt 12, 3) := by decide +kernel
theorem dX10_isVariable_4 : decode cX10_isVariable 4 = .ok (.iload_n 0, 1) := by decide +kernel
theorem dX10_isVariable_5 : decode cX10_isVariable 5 = .ok (.iconst 4, 1) := by decide +kernel
theorem dX10_isVariable_6 : decode cX10_isVariable 6 = .ok (.if_icmp .ge 7, 3) := by decide +kernel
theorem dX10_isVariable_9 : decode cX10_isVariable 9 = .ok (.iconst 1, 1) := by decide +kernel
theorem dX10_isVariable_10 : decode cX10_isVariable 10 = .ok (.goto 4, 3) := by decide +kernel
theorem dX10_isVariable_13 : decode cX10_isVariable 13 = .ok (.iconst 0, 1) := by decide +kernel
theorem dX10_isVariable_14 : decode cX10_isVariable 14 = .ok (.ireturn, 1) := by decide +kernel
theorem dX10_sizeFor_0 : decode cX10_sizeFor 0 = .ok (.bipush 16, 2) := by decide +kernel
theorem dX10_sizeFor_2 : decode cX10_sizeFor 2 = .ok (.istore_n 1, 1) := by decide +kernel
theorem dX10_sizeFor_3 : decode cX10_sizeFor 3 = .ok (.iconst 0, 1) := by decide +kernel
theorem dX10_sizeFor_4 : decode cX10_sizeFor 4 = .ok (.istore_n 2, 1) := by decide +kernel
theorem dX10_sizeFor_5 : decode cX10_sizeFor 5 = .ok (.iload_n 2, 1) := by decide +kernel
theorem dX10_sizeFor_6 : decode cX10_sizeFor 6 = .ok (.bipush 20, 2) := by decide +kernel
theorem dX10_sizeFor_8 : decode cX10_sizeFor 8 = .ok (.if_icmp .ge 18, 3) := by decide +kernel
theorem dX10_sizeFor_11 : decode cX10_sizeFor 11 = .ok (.iload_n 1, 1) := by decide +kernel
theorem dX10_sizeFor_12 : decode cX10_sizeFor 12 = .ok (.iload_n 0, 1) := by decide +kernel
theorem dX10_sizeFor_13 : decode cX10_sizeFor 13 = .ok (.if_icmp .ge 13, 3) := by decide +kernel
theorem dX10_sizeFor_16 : decode cX10_sizeFor 16 = .ok (.iload_n 1, 1) := by decide +kernel
theorem dX10_sizeFor_17 : decode cX10_sizeFor 17 = .ok (.iconst 2, 1) := by decide +kernel
theorem dX10_sizeFor_18 : decode cX10_sizeFor 18 = .ok (.imul, 1) := by decide +kernel
theorem dX10_sizeFor_19 : decode cX10_sizeFor 19 = .ok (.istore_n 1, 1) := by decide +kernel
theorem dX10_sizeFor_20 : decode cX10_sizeFor 20 = .ok (.iinc 2 1, 3) := by decide +kernel
theorem dX10_sizeFor_23 : decode cX10_sizeFor 23 = .ok (.goto (-18), 3) := by decide +kernel
theorem dX10_sizeFor_26 : decode cX10_sizeFor 26 = .ok (.iload_n 1, 1) := by decide +kernel
theorem dX10_sizeFor_27 : decode cX10_sizeFor 27 = .ok (.ireturn, 1) := by decide +kernel
theorem dJ13_compare_74951_0 : decode cJ13_compare_74951 0 = .ok (.lload_n 0, 1) := by decide +kernel
theorem dJ13_compare_74951_1 : decode cJ13_compare_74951 1 = .ok (.lload_n 2, 1) := by decide +kernel
theorem dJ13_compare_74951_2 : decode cJ13_compare_74951 2 = .ok (.lcmp, 1) := by decide +kernel
theorem dJ13_compare_74951_3 : decode cJ13_compare_74951 3 = .ok (.ifCond .ge 7, 3) := by decide +kernel
theorem dJ13_compare_74951_6 : decode cJ13_compare_74951 6 = .ok (.iconst (-1), 1) := by decide +kernel
theorem dJ13_compare_74951_7 : decode cJ13_compare_74951 7 = .ok (.goto 14, 3) := by decide +kernel
theorem dJ13_compare_74951_10 : decode cJ13_compare_74951 10 = .ok (.lload_n 0, 1) := by decide +kernel
theorem dJ13_compare_74951_11 : decode cJ13_compare_74951 11 = .ok (.lload_n 2, 1) := by decide +kernel
theorem dJ13_compare_74951_12 : decode cJ13_compare_74951 12 = .ok (.lcmp, 1) := by decide +kernel
theorem dJ13_compare_74951_13 : decode cJ13_compare_74951 13 = .ok (.ifCond .ne 7, 3) := by decide +kernel
theorem dJ13_compare_74951_16 : decode cJ13_compare_74951 16 = .ok (.iconst 0, 1) := by decide +kernel
theorem dJ13_compare_74951_17 : decode cJ13_compare_74951 17 = .ok (.goto 4, 3) := by decide +kernel
theorem dJ13_compare_74951_20 : decode cJ13_compare_74951 20 = .ok (.iconst 1, 1) := by decide +kernel
theorem dJ13_compare_74951_21 : decode cJ13_compare_74951 21 = .ok (.ireturn, 1) := by decide +kernel
theorem dJ9_max_7cf53_0 : decode cJ9_max_7cf53 0 = .ok (.iload_n 0, 1) := by decide +kernel
theorem dJ9_max_7cf53_1 : decode cJ9_max_7cf53 1 = .ok (.iload_n 1, 1) := by decide +kernel
theorem dJ9_max_7cf53_2 : decode cJ9_max_7cf53 2 = .ok (.if_icmp .lt 7, 3) := by decide +kernel
theorem dJ9_max_7cf53_5 : decode cJ9_max_7cf53 5 = .ok (.iload_n 0, 1) := by decide +kernel
theorem dJ9_max_7cf53_6 : decode cJ9_max_7cf53 6 = .ok (.goto 4, 3) := by decide +kernel
theorem dJ9_max_7cf53_9 : decode cJ9_max_7cf53 9 = .ok (.iload_n 1, 1) := by decide +kernel
theorem dJ9_max_7cf53_10 : decode cJ9_max_7cf53 10 = .ok (.ireturn, 1) := by decide +kernel
theorem dJ9_min_7cf53_0 : decode cJ9_min_7cf53 0 = .ok (.iload_n 0, 1) := by decide +kernel
theorem dJ9_min_7cf53_1 : decode cJ9_min_7cf53 1 = .ok (.iload_n 1, 1) := by decide +kernel
theorem dJ9_min_7cf53_2 : decode cJ9_min_7cf53 2 = .ok (.if_icmp .gt 7, 3) := by decide +kernel
theorem dJ9_min_7cf53_5 : decode cJ9_min_7cf53 5 = .ok (.iload_n 0, 1) := by decide +kernel
theorem dJ9_min_7cf53_6 : decode cJ9_min_7cf53 6 = .ok (.goto 4, 3) := by decide +kernel
theorem dJ9_min_7cf53_9 : decode cJ9_min_7cf53 9 = .ok (.iload_n 1, 1) := by decide +kernel
theorem dJ9_min_7cf53_10 : decode cJ9_min_7cf53 10 = .ok (.ireturn, 1) := by decide +kernel
theorem dJ7_fill_53178_0 : decode cJ7_fill_53178 0 = .ok (.iconst 0, 1) := by decide +kernel
theorem dJ7_fill_53178_1 : decode cJ7_fill_53178 1 = .ok (.istore_n 2, 1) := by decide +kernel
theorem dJ7_fill_53178_2 : decode cJ7_fill_53178 2 = .ok (.aload_n 0, 1) := by decide +kernel
theorem dJ7_fill_53178_3 : decode cJ7_fill_53178 3 = .ok (.arraylength, 1) := by decide +kernel
theorem dJ7_fill_53178_4 : decode cJ7_fill_53178 4 = .ok (.istore_n 3, 1) := by decide +kernel
theorem dJ7_fill_53178_5 : decode cJ7_fill_53178 5 = .ok (.iload_n 2, 1) := by decide +kernel
theorem dJ7_fill_53178_6 : decode cJ7_fill_53178 6 = .ok (.iload_n 3, 1) := by decide +kernel
theorem dJ7_fill_53178_7 : decode cJ7_fill_53178 7 = .ok (.if_icmp .ge 13, 3) := by decide +kernel
theorem dJ7_fill_53178_10 : decode cJ7_fill_53178 10 = .ok (.aload_n 0, 1) := by decide +kernel
theorem dJ7_fill_53178_11 : decode cJ7_fill_53178 11 = .ok (.iload_n 2, 1) := by decide +kernel
theorem dJ7_fill_53178_12 : decode cJ7_fill_53178 12 = .ok (.iload_n 1, 1) := by decide +kernel
theorem dJ7_fill_53178_13 : decode cJ7_fill_53178 13 = .ok (.iastore, 1) := by decide +kernel
theorem dJ7_fill_53178_14 : decode cJ7_fill_53178 14 = .ok (.iinc 2 1, 3) := by decide +kernel
theorem dJ7_fill_53178_17 : decode cJ7_fill_53178 17 = .ok (.goto (-12), 3) := by decide +kernel
theorem dJ7_fill_53178_20 : decode cJ7_fill_53178 20 = .ok (.return_, 1) := by decide +kernel
theorem dJ7_copyOf_c38d5_0 : decode cJ7_copyOf_c38d5 0 = .ok (.iload_n 1, 1) := by decide +kernel
theorem dJ7_copyOf_c38d5_1 : decode cJ7_copyOf_c38d5 1 = .ok (.aload_n 0, 1) := by decide +kernel
theorem dJ7_copyOf_c38d5_2 : decode cJ7_copyOf_c38d5 2 = .ok (.arraylength, 1) := by decide +kernel
theorem dJ7_copyOf_c38d5_3 : decode cJ7_copyOf_c38d5 3 = .ok (.if_icmp .ne 11, 3) := by decide +kernel
theorem dJ7_copyOf_c38d5_6 : decode cJ7_copyOf_c38d5 6 = .ok (.aload_n 0, 1) := by decide +kernel
theorem dJ7_copyOf_c38d5_7 : decode cJ7_copyOf_c38d5 7 = .ok (.invokevirtual 319, 3) := by decide +kernel
theorem dJ7_copyOf_c38d5_10 : decode cJ7_copyOf_c38d5 10 = .ok (.checkcast 320, 3) := by decide +kernel
theorem dJ7_copyOf_c38d5_13 : decode cJ7_copyOf_c38d5 13 = .ok (.areturn, 1) := by decide +kernel
theorem dJ7_copyOf_c38d5_14 : decode cJ7_copyOf_c38d5 14 = .ok (.iload_n 1, 1) := by decide +kernel
theorem dJ7_copyOf_c38d5_15 : decode cJ7_copyOf_c38d5 15 = .ok (.newarray .long, 2) := by decide +kernel
theorem dJ7_copyOf_c38d5_17 : decode cJ7_copyOf_c38d5 17 = .ok (.astore_n 2, 1) := by decide +kernel
theorem dJ7_copyOf_c38d5_18 : decode cJ7_copyOf_c38d5 18 = .ok (.aload_n 0, 1) := by decide +kernel
theorem dJ7_copyOf_c38d5_19 : decode cJ7_copyOf_c38d5 19 = .ok (.iconst 0, 1) := by decide +kernel
theorem dJ7_copyOf_c38d5_20 : decode cJ7_copyOf_c38d5 20 = .ok (.aload_n 2, 1) := by decide +kernel
theorem dJ7_copyOf_c38d5_21 : decode cJ7_copyOf_c38d5 21 = .ok (.iconst 0, 1) := by decide +kernel
theorem dJ7_copyOf_c38d5_22 : decode cJ7_copyOf_c38d5 22 = .ok (.aload_n 0, 1) := by decide +kernel
theorem dJ7_copyOf_c38d5_23 : decode cJ7_copyOf_c38d5 23 = .ok (.arraylength, 1) := by decide +kernel
theorem dJ7_copyOf_c38d5_24 : decode cJ7_copyOf_c38d5 24 = .ok (.iload_n 1, 1) := by decide +kernel
theorem dJ7_copyOf_c38d5_25 : decode cJ7_copyOf_c38d5 25 = .ok (.invokestatic 304, 3) := by decide +kernel
theorem dJ7_copyOf_c38d5_28 : decode cJ7_copyOf_c38d5 28 = .ok (.invokestatic 150, 3) := by decide +kernel
theorem dJ7_copyOf_c38d5_31 : decode cJ7_copyOf_c38d5 31 = .ok (.aload_n 2, 1) := by decide +kernel
theorem dJ7_copyOf_c38d5_32 : decode cJ7_copyOf_c38d5 32 = .ok (.areturn, 1) := by decide +kernel
