theorem dX8_init_0 : decode cX8_init 0 = .ok (.aload_n 0, 1) := by decide +kernel
theorem dX8_init_1 : decode cX8_init 1 = .ok (.invokespecial 3, 3) := by decide +kernel
theorem dX8_init_4 : decode cX8_init 4 = .ok (.aload_n 0, 1) := by decide +kernel
theorem dX8_init_5 : decode cX8_init 5 = .ok (.iconst 4, 1) := by decide +kernel
theorem dX8_init_6 : decode cX8_init 6 = .ok (.newarray .int, 2) := by decide +kernel
theorem dX8_init_8 : decode cX8_init 8 = .ok (.putfield 9, 3) := by decide +kernel
theorem dX8_init_11 : decode cX8_init 11 = .ok (.aload_n 0, 1) := by decide +kernel
theorem dX8_init_12 : decode cX8_init 12 = .ok (.iconst 4, 1) := by decide +kernel
theorem dX8_init_13 : decode cX8_init 13 = .ok (.newarray .int, 2) := by decide +kernel
theorem dX8_init_15 : decode cX8_init 15 = .ok (.putfield 15, 3) := by decide +kernel
theorem dX8_init_18 : decode cX8_init 18 = .ok (.aload_n 0, 1) := by decide +kernel
theorem dX8_init_19 : decode cX8_init 19 = .ok (.bipush 16, 2) := by decide +kernel
theorem dX8_init_21 : decode cX8_init 21 = .ok (.newarray .int, 2) := by decide +kernel
theorem dX8_init_23 : decode cX8_init 23 = .ok (.putfield 18, 3) := by decide +kernel
theorem dX8_init_26 : decode cX8_init 26 = .ok (.aload_n 0, 1) := by decide +kernel
theorem dX8_init_27 : decode cX8_init 27 = .ok (.iconst 2, 1) := by decide +kernel
theorem dX8_init_28 : decode cX8_init 28 = .ok (.newarray .int, 2) := by decide +kernel
theorem dX8_init_30 : decode cX8_init 30 = .ok (.putfield 21, 3) := by decide +kernel
theorem dX8_init_33 : decode cX8_init 33 = .ok (.aload_n 0, 1) := by decide +kernel
theorem dX8_init_34 : decode cX8_init 34 = .ok (.iconst 0, 1) := by decide +kernel
theorem dX8_init_35 : decode cX8_init 35 = .ok (.putfield 24, 3) := by decide +kernel
theorem dX8_init_38 : decode cX8_init 38 = .ok (.aload_n 0, 1) := by decide +kernel
theorem dX8_init_39 : decode cX8_init 39 = .ok (.iconst 0, 1) := by decide +kernel
theorem dX8_init_40 : decode cX8_init 40 = .ok (.putfield 28, 3) := by decide +kernel
theorem dX8_init_43 : decode cX8_init 43 = .ok (.aload_n 0, 1) := by decide +kernel
theorem dX8_init_44 : decode cX8_init 44 = .ok (.iconst 3, 1) := by decide +kernel
theorem dX8_init_45 : decode cX8_init 45 = .ok (.putfield 31, 3) := by decide +kernel
theorem dX8_init_48 : decode cX8_init 48 = .ok (.return_, 1) := by decide +kernel
theorem dX8_isRefType_0 : decode cX8_isRefType 0 = .ok (.iload_n 0, 1) := by decide +kernel
theorem dX8_isRefType_1 : decode cX8_isRefType 1 = .ok (.ifCond .lt 12, 3) := by decide +kernel
theorem dX8_isRefType_4 : decode cX8_isRefType 4 = .ok (.iload_n 0, 1) := by decide +kernel
theorem dX8_isRefType_5 : decode cX8_isRefType 5 = .ok (.iconst 4, 1) := by decide +kernel
theorem dX8_isRefType_6 : decode cX8_isRefType 6 = .ok (.if_icmp .ge 7, 3) := by decide +kernel
theorem dX8_isRefType_9 : decode cX8_isRefType 9 = .ok (.iconst 1, 1) := by decide +kernel
theorem dX8_isRefType_10 : decode cX8_isRefType 10 = .ok (.goto 4, 3) := by decide +kernel
theorem dX8_isRefType_13 : decode cX8_isRefType 13 = .ok (.iconst 0, 1) := by decide +kernel
theorem dX8_isRefType_14 : decode cX8_isRefType 14 = .ok (.ireturn, 1) := by decide +kernel
theorem dX8_isKind_0 : decode cX8_isKind 0 = .ok (.iload_n 1, 1) := by decide +kernel
theorem dX8_isKind_1 : decode cX8_isKind 1 = .ok (.ifCond .lt 15, 3) := by decide +kernel
theorem dX8_isKind_4 : decode cX8_isKind 4 = .ok (.iload_n 1, 1) := by decide +kernel
theorem dX8_isKind_5 : decode cX8_isKind 5 = .ok (.aload_n 0, 1) := by decide +kernel
theorem dX8_isKind_6 : decode cX8_isKind 6 = .ok (.getfield 24, 3) := by decide +kernel
theorem dX8_isKind_9 : decode cX8_isKind 9 = .ok (.if_icmp .ge 7, 3) := by decide +kernel
theorem dX8_isKind_12 : decode cX8_isKind 12 = .ok (.iconst 1, 1) := by decide +kernel
theorem dX8_isKind_13 : decode cX8_isKind 13 = .ok (.goto 4, 3) := by decide +kernel
theorem dX8_isKind_16 : decode cX8_isKind 16 = .ok (.iconst 0, 1) := by decide +kernel
theorem dX8_isKind_17 : decode cX8_isKind 17 = .ok (.ireturn, 1) := by decide +kernel
theorem dX8_isUnder_0 : decode cX8_isUnder 0 = .ok (.iload_n 1, 1) := by decide +kernel
theorem dX8_isUnder_1 : decode cX8_isUnder 1 = .ok (.ifCond .lt 41, 3) := by decide +kernel
theorem dX8_isUnder_4 : decode cX8_isUnder 4 = .ok (.iload_n 1, 1) := by decide +kernel
theorem dX8_isUnder_5 : decode cX8_isUnder 5 = .ok (.aload_n 0, 1) := by decide +kernel
theorem dX8_isUnder_6 : decode cX8_isUnder 6 = .ok (.getfield 24, 3) := by decide +kernel
theorem dX8_isUnder_9 : decode cX8_isUnder 9 = .ok (.if_icmp .ge 33, 3) := by decide +kernel
theorem dX8_isUnder_12 : decode cX8_isUnder 12 = .ok (.iload_n 2, 1) := by decide +kernel
theorem dX8_isUnder_13 : decode cX8_isUnder 13 = .ok (.ifCond .lt 29, 3) := by decide +kernel
theorem dX8_isUnder_16 : decode cX8_isUnder 16 = .ok (.iload_n 2, 1) := by decide +kernel
theorem dX8_isUnder_17 : decode cX8_isUnder 17 = .ok (.aload_n 0, 1) := by decide +kernel
theorem dX8_isUnder_18 : decode cX8_isUnder 18 = .ok (.getfield 24, 3) := by decide +kernel
theorem dX8_isUnder_21 : decode cX8_isUnder 21 = .ok (.if_icmp .ge 21, 3) := by decide +kernel
theorem dX8_isUnder_24 : decode cX8_isUnder 24 = .ok (.aload_n 0, 1) := by decide +kernel
theorem dX8_isUnder_25 : decode cX8_isUnder 25 = .ok (.getfield 9, 3) := by decide +kernel
theorem dX8_isUnder_28 : decode cX8_isUnder 28 = .ok (.iload_n 1, 1) := by decide +kernel
theorem dX8_isUnder_29 : decode cX8_isUnder 29 = .ok (.iaload, 1) := by decide +kernel
theorem dX8_isUnder_30 : decode cX8_isUnder 30 = .ok (.iload_n 2, 1) := by decide +kernel
theorem dX8_isUnder_31 : decode cX8_isUnder 31 = .ok (.ishr, 1) := by decide +kernel
theorem dX8_isUnder_32 : decode cX8_isUnder 32 = .ok (.iconst 1, 1) := by decide +kernel
theorem dX8_isUnder_33 : decode cX8_isUnder 33 = .ok (.iand, 1) := by decide +kernel
theorem dX8_isUnder_34 : decode cX8_isUnder 34 = .ok (.iconst 1, 1) := by decide +kernel
theorem dX8_isUnder_35 : decode cX8_isUnder 35 = .ok (.if_icmp .ne 7, 3) := by decide +kernel
theorem dX8_isUnder_38 : decode cX8_isUnder 38 = .ok (.iconst 1, 1) := by decide +kernel
theorem dX8_isUnder_39 : decode cX8_isUnder 39 = .ok (.goto 4, 3) := by decide +kernel
theorem dX8_isUnder_42 : decode cX8_isUnder 42 = .ok (.iconst 0, 1) := by decide +kernel
theorem dX8_isUnder_43 : decode cX8_isUnder 43 = .ok (.ireturn, 1) := by decide +kernel
theorem dX8_isSuper_0 : decode cX8_isSuper 0 = .ok (.iload_n 1, 1) := by decide +kernel
theorem dX8_isSuper_1 : decode cX8_isSuper 1 = .ok (.iconst 1, 1) := by decide +kernel
theorem dX8_isSuper_2 : decode cX8_isSuper 2 = .ok (.iadd, 1) := by decide +kernel
theorem dX8_isSuper_3 : decode cX8_isSuper 3 = .ok (.istore_n 2, 1) := by decide +kernel
theorem dX8_isSuper_4 : decode cX8_isSuper 4 = .ok (.iload_n 2, 1) := by decide +kernel
theorem dX8_isSuper_5 : decode cX8_isSuper 5 = .ok (.aload_n 0, 1) := by decide +kernel
theorem dX8_isSuper_6 : decode cX8_isSuper 6 = .ok (.getfield 24, 3) := by decide +kernel
theorem dX8_isSuper_9 : decode cX8_isSuper 9 = .ok (.if_icmp .ge 20, 3) := by decide +kernel
theorem dX8_isSuper_12 : decode cX8_isSuper 12 = .ok (.aload_n 0, 1) := by decide +kernel
theorem dX8_isSuper_13 : decode cX8_isSuper 13 = .ok (.iload_n 2, 1) := by decide +kernel
theorem dX8_isSuper_14 : decode cX8_isSuper 14 = .ok (.iload_n 1, 1) := by decide +kernel
theorem dX8_isSuper_15 : decode cX8_isSuper 15 = .ok (.invokevirtual 34, 3) := by decide +kernel
theorem dX8_isSuper_18 : decode cX8_isSuper 18 = .ok (.ifCond .eq 5, 3) := by decide +kernel
theorem dX8_isSuper_21 : decode cX8_isSuper 21 = .ok (.iconst 1, 1) := by decide +kernel
theorem dX8_isSuper_22 : decode cX8_isSuper 22 = .ok (.ireturn, 1) := by decide +kernel
theorem dX8_isSuper_23 : decode cX8_isSuper 23 = .ok (.iinc 2 1, 3) := by decide +kernel
theorem dX8_isSuper_26 : decode cX8_isSuper 26 = .ok (.goto (-22), 3) := by decide +kernel
theorem dX8_isSuper_29 : decode cX8_isSuper 29 = .ok (.iconst 0, 1) := by decide +kernel
theorem dX8_isSuper_30 : decode cX8_isSuper 30 = .ok (.ireturn, 1) := by decide +kernel
theorem dX8_fieldsOf_0 : decode cX8_fieldsOf 0 = .ok (.iload_n 1, 1) := by decide +kernel
theorem dX8_fieldsOf_1 : decode cX8_fieldsOf 1 = .ok (.ifCond .lt 20, 3) := by decide +kernel
theorem dX8_fieldsOf_4 : decode cX8_fieldsOf 4 = .ok (.iload_n 1, 1) := by decide +kernel
theorem dX8_fieldsOf_5 : decode cX8_fieldsOf 5 = .ok (.aload_n 0, 1) := by decide +kernel
theorem dX8_fieldsOf_6 : decode cX8_fieldsOf 6 = .ok (.getfield 24, 3) := by decide +kernel
theorem dX8_fieldsOf_9 : decode cX8_fieldsOf 9 = .ok (.if_icmp .ge 12, 3) := by decide +kernel
theorem dX8_fieldsOf_12 : decode cX8_fieldsOf 12 = .ok (.aload_n 0, 1) := by decide +kernel
theorem dX8_fieldsOf_13 : decode cX8_fieldsOf 13 = .ok (.getfield 15, 3) := by decide +kernel
theorem dX8_fieldsOf_16 : decode cX8_fieldsOf 16 = .ok (.iload_n 1, 1) := by decide +kernel
theorem dX8_fieldsOf_17 : decode cX8_fieldsOf 17 = .ok (.iaload, 1) := by decide +kernel
theorem dX8_fieldsOf_18 : decode cX8_fieldsOf 18 = .ok (.goto 4, 3) := by decide +kernel
theorem dX8_fieldsOf_21 : decode cX8_fieldsOf 21 = .ok (.iconst 0, 1) := by decide +kernel
theorem dX8_fieldsOf_22 : decode cX8_fieldsOf 22 = .ok (.ireturn, 1) := by decide +kernel
theorem dX8_typeOf_0 : decode cX8_typeOf 0 = .ok (.iload_n 1, 1) := by decide +kernel
theorem dX8_typeOf_1 : decode cX8_typeOf 1 = .ok (.ifCond .lt 25, 3) := by decide +kernel
theorem dX8_typeOf_4 : decode cX8_typeOf 4 = .ok (.iload_n 1, 1) := by decide +kernel
theorem dX8_typeOf_5 : decode cX8_typeOf 5 = .ok (.aload_n 0, 1) := by decide +kernel
theorem dX8_typeOf_6 : decode cX8_typeOf 6 = .ok (.getfield 24, 3) := by decide +kernel
theorem dX8_typeOf_9 : decode cX8_typeOf 9 = .ok (.if_icmp .ge 17, 3) := by decide +kernel
theorem dX8_typeOf_12 : decode cX8_typeOf 12 = .ok (.iload_n 2, 1) := by decide +kernel
theorem dX8_typeOf_13 : decode cX8_typeOf 13 = .ok (.ifCond .lt 13, 3) := by decide +kernel
theorem dX8_typeOf_16 : decode cX8_typeOf 16 = .ok (.iload_n 2, 1) := by decide +kernel
theorem dX8_typeOf_17 : decode cX8_typeOf 17 = .ok (.aload_n 0, 1) := by decide +kernel
theorem dX8_typeOf_18 : decode cX8_typeOf 18 = .ok (.getfield 15, 3) := by decide +kernel
theorem dX8_typeOf_21 : decode cX8_typeOf 21 = .ok (.iload_n 1, 1) := by decide +kernel
theorem dX8_typeOf_22 : decode cX8_typeOf 22 = .ok (.iaload, 1) := by decide +kernel
theorem dX8_typeOf_23 : decode cX8_typeOf 23 = .ok (.if_icmp .lt 5, 3) := by decide +kernel
theorem dX8_typeOf_26 : decode cX8_typeOf 26 = .ok (.iconst (-1), 1) := by decide +kernel
theorem dX8_typeOf_27 : decode cX8_typeOf 27 = .ok (.ireturn, 1) := by decide +kernel
theorem dX8_typeOf_28 : decode cX8_typeOf 28 = .ok (.aload_n 0, 1) := by decide +kernel
theorem dX8_typeOf_29 : decode cX8_typeOf 29 = .ok (.getfield 18, 3) := by decide +kernel
theorem dX8_typeOf_32 : decode cX8_typeOf 32 = .ok (.iload_n 1, 1) := by decide +kernel
theorem dX8_typeOf_33 : decode cX8_typeOf 33 = .ok (.iconst 4, 1) := by decide +kernel
theorem dX8_typeOf_34 : decode cX8_typeOf 34 = .ok (.imul, 1) := by decide +kernel
theorem dX8_typeOf_35 : decode cX8_typeOf 35 = .ok (.iload_n 2, 1) := by decide +kernel
theorem dX8_typeOf_36 : decode cX8_typeOf 36 = .ok (.iadd, 1) := by decide +kernel
theorem dX8_typeOf_37 : decode cX8_typeOf 37 = .ok (.iaload, 1) := by decide +kernel
theorem dX8_typeOf_38 : decode cX8_typeOf 38 = .ok (.ireturn, 1) := by decide +kernel
theorem dX8_typeOfInput_0 : decode cX8_typeOfInput 0 = .ok (.iload_n 1, 1) := by decide +kernel
theorem dX8_typeOfInput_1 : decode cX8_typeOfInput 1 = .ok (.ifCond .lt 20, 3) := by decide +kernel
theorem dX8_typeOfInput_4 : decode cX8_typeOfInput 4 = .ok (.iload_n 1, 1) := by decide +kernel
theorem dX8_typeOfInput_5 : decode cX8_typeOfInput 5 = .ok (.aload_n 0, 1) := by decide +kernel
theorem dX8_typeOfInput_6 : decode cX8_typeOfInput 6 = .ok (.getfield 28, 3) := by decide +kernel
theorem dX8_typeOfInput_9 : decode cX8_typeOfInput 9 = .ok (.if_icmp .ge 12, 3) := by decide +kernel
theorem dX8_typeOfInput_12 : decode cX8_typeOfInput 12 = .ok (.aload_n 0, 1) := by decide +kernel
theorem dX8_typeOfInput_13 : decode cX8_typeOfInput 13 = .ok (.getfield 21, 3) := by decide +kernel
theorem dX8_typeOfInput_16 : decode cX8_typeOfInput 16 = .ok (.iload_n 1, 1) := by decide +kernel
theorem dX8_typeOfInput_17 : decode cX8_typeOfInput 17 = .ok (.iaload, 1) := by decide +kernel
theorem dX8_typeOfInput_18 : decode cX8_typeOfInput 18 = .ok (.goto 4, 3) := by decide +kernel
theorem dX8_typeOfInput_21 : decode cX8_typeOfInput 21 = .ok (.iconst (-1), 1) := by decide +kernel
theorem dX8_typeOfInput_22 : decode cX8_typeOfInput 22 = .ok (.ireturn, 1) := by decide +kernel
theorem dX8_hasField_0 : decode cX8_hasField 0 = .ok (.aload_n 0, 1) := by decide +kernel
theorem dX8_hasField_1 : decode cX8_hasField 1 = .ok (.iload_n 1, 1) := by decide +kernel
theorem dX8_hasField_2 : decode cX8_hasField 2 = .ok (.iload_n 2, 1) := by decide +kernel
theorem dX8_hasField_3 : decode cX8_hasField 3 = .ok (.invokevirtual 38, 3) := by decide +kernel
theorem dX8_hasField_6 : decode cX8_hasField 6 = .ok (.iconst (-1), 1) := by decide +kernel
theorem dX8_hasField_7 : decode cX8_hasField 7 = .ok (.if_icmp .eq 7, 3) := by decide +kernel
theorem dX8_hasField_10 : decode cX8_hasField 10 = .ok (.iconst 1, 1) := by decide +kernel
theorem dX8_hasField_11 : decode cX8_hasField 11 = .ok (.goto 4, 3) := by decide +kernel
theorem dX8_hasField_14 : decode cX8_hasField 14 = .ok (.iconst 0, 1) := by decide +kernel
theorem dX8_hasField_15 : decode cX8_hasField 15 = .ok (.ireturn, 1) := by decide +kernel
theorem dX8_isRef_0 : decode cX8_isRef 0 = .ok (.aload_n 0, 1) := by decide +kernel
theorem dX8_isRef_1 : decode cX8_isRef 1 = .ok (.iload_n 1, 1) := by decide +kernel
theorem dX8_isRef_2 : decode cX8_isRef 2 = .ok (.iload_n 2, 1) := by decide +kernel
theorem dX8_isRef_3 : decode cX8_isRef 3 = .ok (.invokevirtual 38, 3) := by decide +kernel
theorem dX8_isRef_6 : decode cX8_isRef 6 = .ok (.invokestatic 42, 3) := by decide +kernel
theorem dX8_isRef_9 : decode cX8_isRef 9 = .ok (.ireturn, 1) := by decide +kernel
theorem dX8_isNumber_0 : decode cX8_isNumber 0 = .ok (.aload_n 0, 1) := by decide +kernel
theorem dX8_isNumber_1 : decode cX8_isNumber 1 = .ok (.iload_n 1, 1) := by decide +kernel
theorem dX8_isNumber_2 : decode cX8_isNumber 2 = .ok (.iload_n 2, 1) := by decide +kernel
theorem dX8_isNumber_3 : decode cX8_isNumber 3 = .ok (.invokevirtual 38, 3) := by decide +kernel
theorem dX8_isNumber_6 : decode cX8_isNumber 6 = .ok (.iconst 4, 1) := by decide +kernel
theorem dX8_isNumber_7 : decode cX8_isNumber 7 = .ok (.if_icmp .lt 7, 3) := by decide +kernel
theorem dX8_isNumber_10 : decode cX8_isNumber 10 = .ok (.iconst 1, 1) := by decide +kernel
theorem dX8_isNumber_11 : decode cX8_isNumber 11 = .ok (.goto 4, 3) := by decide +kernel
theorem dX8_isNumber_14 : decode cX8_isNumber 14 = .ok (.iconst 0, 1) := by decide +kernel
theorem dX8_isNumber_15 : decode cX8_isNumber 15 = .ok (.ireturn, 1) := by decide +kernel
theorem dX8_addKind_0 : decode cX8_addKind 0 = .ok (.aload_n 0, 1) := by decide +kernel
theorem dX8_addKind_1 : decode cX8_addKind 1 = .ok (.getfield 24, 3) := by decide +kernel
theorem dX8_addKind_4 : decode cX8_addKind 4 = .ok (.iconst 4, 1) := by decide +kernel
theorem dX8_addKind_5 : decode cX8_addKind 5 = .ok (.if_icmp .lt 6, 3) := by decide +kernel
theorem dX8_addKind_8 : decode cX8_addKind 8 = .ok (.bipush (-104), 2) := by decide +kernel
theorem dX8_addKind_10 : decode cX8_addKind 10 = .ok (.ireturn, 1) := by decide +kernel
theorem dX8_addKind_11 : decode cX8_addKind 11 = .ok (.aload_n 0, 1) := by decide +kernel
theorem dX8_addKind_12 : decode cX8_addKind 12 = .ok (.getfield 24, 3) := by decide +kernel
theorem dX8_addKind_15 : decode cX8_addKind 15 = .ok (.istore_n 2, 1) := by decide +kernel
theorem dX8_addKind_16 : decode cX8_addKind 16 = .ok (.aload_n 0, 1) := by decide +kernel
theorem dX8_addKind_17 : decode cX8_addKind 17 = .ok (.getfield 9, 3) := by decide +kernel
theorem dX8_addKind_20 : decode cX8_addKind 20 = .ok (.iload_n 2, 1) := by decide +kernel
theorem dX8_addKind_21 : decode cX8_addKind 21 = .ok (.iconst 1, 1) := by decide +kernel
theorem dX8_addKind_22 : decode cX8_addKind 22 = .ok (.iload_n 2, 1) := by decide +kernel
theorem dX8_addKind_23 : decode cX8_addKind 23 = .ok (.ishl, 1) := by decide +kernel
theorem dX8_addKind_24 : decode cX8_addKind 24 = .ok (.iastore, 1) := by decide +kernel
theorem dX8_addKind_25 : decode cX8_addKind 25 = .ok (.aload_n 0, 1) := by decide +kernel
theorem dX8_addKind_26 : decode cX8_addKind 26 = .ok (.getfield 15, 3) := by decide +kernel
theorem dX8_addKind_29 : decode cX8_addKind 29 = .ok (.iload_n 2, 1) := by decide +kernel
theorem dX8_addKind_30 : decode cX8_addKind 30 = .ok (.iconst 0, 1) := by decide +kernel
theorem dX8_addKind_31 : decode cX8_addKind 31 = .ok (.iastore, 1) := by decide +kernel
theorem dX8_addKind_32 : decode cX8_addKind 32 = .ok (.aload_n 0, 1) := by decide +kernel
theorem dX8_addKind_33 : decode cX8_addKind 33 = .ok (.iload_n 1, 1) := by decide +kernel
theorem dX8_addKind_34 : decode cX8_addKind 34 = .ok (.invokevirtual 46, 3) := by decide +kernel
theorem dX8_addKind_37 : decode cX8_addKind 37 = .ok (.ifCond .eq 48, 3) := by decide +kernel
theorem dX8_addKind_40 : decode cX8_addKind 40 = .ok (.aload_n 0, 1) := by decide +kernel
theorem dX8_addKind_41 : decode cX8_addKind 41 = .ok (.getfield 9, 3) := by decide +kernel
theorem dX8_addKind_44 : decode cX8_addKind 44 = .ok (.iload_n 2, 1) := by decide +kernel
theorem dX8_addKind_45 : decode cX8_addKind 45 = .ok (.dup2, 1) := by decide +kernel
theorem dX8_addKind_46 : decode cX8_addKind 46 = .ok (.iaload, 1) := by decide +kernel
theorem dX8_addKind_47 : decode cX8_addKind 47 = .ok (.aload_n 0, 1) := by decide +kernel
theorem dX8_addKind_48 : decode cX8_addKind 48 = .ok (.getfield 9, 3) := by decide +kernel
theorem dX8_addKind_51 : decode cX8_addKind 51 = .ok (.iload_n 1, 1) := by decide +kernel
theorem dX8_addKind_52 : decode cX8_addKind 52 = .ok (.iaload, 1) := by decide +kernel
theorem dX8_addKind_53 : decode cX8_addKind 53 = .ok (.ior, 1) := by decide +kernel
theorem dX8_addKind_54 : decode cX8_addKind 54 = .ok (.iastore, 1) := by decide +kernel
theorem dX8_addKind_55 : decode cX8_addKind 55 = .ok (.aload_n 0, 1) := by decide +kernel
theorem dX8_addKind_56 : decode cX8_addKind 56 = .ok (.getfield 15, 3) := by decide +kernel
theorem dX8_addKind_59 : decode cX8_addKind 59 = .ok (.iload_n 2, 1) := by decide +kernel
theorem dX8_addKind_60 : decode cX8_addKind 60 = .ok (.aload_n 0, 1) := by decide +kernel
theorem dX8_addKind_61 : decode cX8_addKind 61 = .ok (.getfield 15, 3) := by decide +kernel
theorem dX8_addKind_64 : decode cX8_addKind 64 = .ok (.iload_n 1, 1) := by decide +kernel
theorem dX8_addKind_65 : decode cX8_addKind 65 = .ok (.iaload, 1) := by decide +kernel
theorem dX8_addKind_66 : decode cX8_addKind 66 = .ok (.iastore, 1) := by decide +kernel
theorem dX8_addKind_67 : decode cX8_addKind 67 = .ok (.aload_n 0, 1) := by decide +kernel
theorem dX8_addKind_68 : decode cX8_addKind 68 = .ok (.getfield 18, 3) := by decide +kernel
theorem dX8_addKind_71 : decode cX8_addKind 71 = .ok (.iload_n 1, 1) := by decide +kernel
theorem dX8_addKind_72 : decode cX8_addKind 72 = .ok (.iconst 4, 1) := by decide +kernel
theorem dX8_addKind_73 : decode cX8_addKind 73 = .ok (.imul, 1) := by decide +kernel
theorem dX8_addKind_74 : decode cX8_addKind 74 = .ok (.aload_n 0, 1) := by decide +kernel
theorem dX8_addKind_75 : decode cX8_addKind 75 = .ok (.getfield 18, 3) := by decide +kernel
theorem dX8_addKind_78 : decode cX8_addKind 78 = .ok (.iload_n 2, 1) := by decide +kernel
theorem dX8_addKind_79 : decode cX8_addKind 79 = .ok (.iconst 4, 1) := by decide +kernel
theorem dX8_addKind_80 : decode cX8_addKind 80 = .ok (.imul, 1) := by decide +kernel
theorem dX8_addKind_81 : decode cX8_addKind 81 = .ok (.iconst 4, 1) := by decide +kernel
theorem dX8_addKind_82 : decode cX8_addKind 82 = .ok (.invokestatic 49, 3) := by decide +kernel
theorem dX8_addKind_85 : decode cX8_addKind 85 = .ok (.aload_n 0, 1) := by decide +kernel
theorem dX8_addKind_86 : decode cX8_addKind 86 = .ok (.dup, 1) := by decide +kernel
theorem dX8_addKind_87 : decode cX8_addKind 87 = .ok (.getfield 24, 3) := by decide +kernel
theorem dX8_addKind_90 : decode cX8_addKind 90 = .ok (.iconst 1, 1) := by decide +kernel
theorem dX8_addKind_91 : decode cX8_addKind 91 = .ok (.iadd, 1) := by decide +kernel
theorem dX8_addKind_92 : decode cX8_addKind 92 = .ok (.putfield 24, 3) := by decide +kernel
theorem dX8_addKind_95 : decode cX8_addKind 95 = .ok (.iload_n 2, 1) := by decide +kernel
theorem dX8_addKind_96 : decode cX8_addKind 96 = .ok (.ireturn, 1) := by decide +kernel
theorem dX8_addField_0 : decode cX8_addField 0 = .ok (.aload_n 0, 1) := by decide +kernel
theorem dX8_addField_1 : decode cX8_addField 1 = .ok (.iload_n 1, 1) := by decide +kernel
theorem dX8_addField_2 : decode cX8_addField 2 = .ok (.invokevirtual 55, 3) := by decide +kernel
theorem dX8_addField_5 : decode cX8_addField 5 = .ok (.istore 4, 2) := by decide +kernel
theorem dX8_addField_7 : decode cX8_addField 7 = .ok (.aload_n 0, 1) := by decide +kernel
theorem dX8_addField_8 : decode cX8_addField 8 = .ok (.iload_n 1, 1) := by decide +kernel
theorem dX8_addField_9 : decode cX8_addField 9 = .ok (.invokevirtual 46, 3) := by decide +kernel
theorem dX8_addField_12 : decode cX8_addField 12 = .ok (.ifCond .eq 9, 3) := by decide +kernel
theorem dX8_addField_15 : decode cX8_addField 15 = .ok (.iload 4, 2) := by decide +kernel
theorem dX8_addField_17 : decode cX8_addField 17 = .ok (.iconst 4, 1) := by decide +kernel
theorem dX8_addField_18 : decode cX8_addField 18 = .ok (.if_icmp .lt 6, 3) := by decide +kernel
theorem dX8_addField_21 : decode cX8_addField 21 = .ok (.bipush (-104), 2) := by decide +kernel
theorem dX8_addField_23 : decode cX8_addField 23 = .ok (.ireturn, 1) := by decide +kernel
theorem dX8_addField_24 : decode cX8_addField 24 = .ok (.aload_n 0, 1) := by decide +kernel
theorem dX8_addField_25 : decode cX8_addField 25 = .ok (.getfield 18, 3) := by decide +kernel
theorem dX8_addField_28 : decode cX8_addField 28 = .ok (.iload_n 1, 1) := by decide +kernel
theorem dX8_addField_29 : decode cX8_addField 29 = .ok (.iconst 4, 1) := by decide +kernel
theorem dX8_addField_30 : decode cX8_addField 30 = .ok (.imul, 1) := by decide +kernel
theorem dX8_addField_31 : decode cX8_addField 31 = .ok (.iload 4, 2) := by decide +kernel
theorem dX8_addField_33 : decode cX8_addField 33 = .ok (.iadd, 1) := by decide +kernel
theorem dX8_addField_34 : decode cX8_addField 34 = .ok (.iload_n 2, 1) := by decide +kernel
theorem dX8_addField_35 : decode cX8_addField 35 = .ok (.ifCond .ne 7, 3) := by decide +kernel
theorem dX8_addField_38 : decode cX8_addField 38 = .ok (.iload_n 3, 1) := by decide +kernel
theorem dX8_addField_39 : decode cX8_addField 39 = .ok (.goto 6, 3) := by decide +kernel
theorem dX8_addField_42 : decode cX8_addField 42 = .ok (.iconst 4, 1) := by decide +kernel
theorem dX8_addField_43 : decode cX8_addField 43 = .ok (.iload_n 3, 1) := by decide +kernel
theorem dX8_addField_44 : decode cX8_addField 44 = .ok (.iadd, 1) := by decide +kernel
theorem dX8_addField_45 : decode cX8_addField 45 = .ok (.iastore, 1) := by decide +kernel
theorem dX8_addField_46 : decode cX8_addField 46 = .ok (.aload_n 0, 1) := by decide +kernel
theorem dX8_addField_47 : decode cX8_addField 47 = .ok (.getfield 15, 3) := by decide +kernel
theorem dX8_addField_50 : decode cX8_addField 50 = .ok (.iload_n 1, 1) := by decide +kernel
theorem dX8_addField_51 : decode cX8_addField 51 = .ok (.iload 4, 2) := by decide +kernel
theorem dX8_addField_53 : decode cX8_addField 53 = .ok (.iconst 1, 1) := by decide +kernel
theorem dX8_addField_54 : decode cX8_addField 54 = .ok (.iadd, 1) := by decide +kernel
theorem dX8_addField_55 : decode cX8_addField 55 = .ok (.iastore, 1) := by decide +kernel
theorem dX8_addField_56 : decode cX8_addField 56 = .ok (.iload 4, 2) := by decide +kernel
theorem dX8_addField_58 : decode cX8_addField 58 = .ok (.ireturn, 1) := by decide +kernel
theorem dX8_addInput_0 : decode cX8_addInput 0 = .ok (.aload_n 0, 1) := by decide +kernel
theorem dX8_addInput_1 : decode cX8_addInput 1 = .ok (.getfield 28, 3) := by decide +kernel
theorem dX8_addInput_4 : decode cX8_addInput 4 = .ok (.iconst 2, 1) := by decide +kernel
theorem dX8_addInput_5 : decode cX8_addInput 5 = .ok (.if_icmp .lt 6, 3) := by decide +kernel
theorem dX8_addInput_8 : decode cX8_addInput 8 = .ok (.bipush (-104), 2) := by decide +kernel
theorem dX8_addInput_10 : decode cX8_addInput 10 = .ok (.ireturn, 1) := by decide +kernel
theorem dX8_addInput_11 : decode cX8_addInput 11 = .ok (.aload_n 0, 1) := by decide +kernel
theorem dX8_addInput_12 : decode cX8_addInput 12 = .ok (.getfield 21, 3) := by decide +kernel
theorem dX8_addInput_15 : decode cX8_addInput 15 = .ok (.aload_n 0, 1) := by decide +kernel
theorem dX8_addInput_16 : decode cX8_addInput 16 = .ok (.getfield 28, 3) := by decide +kernel
theorem dX8_addInput_19 : decode cX8_addInput 19 = .ok (.iload_n 1, 1) := by decide +kernel
theorem dX8_addInput_20 : decode cX8_addInput 20 = .ok (.iastore, 1) := by decide +kernel
theorem dX8_addInput_21 : decode cX8_addInput 21 = .ok (.aload_n 0, 1) := by decide +kernel
theorem dX8_addInput_22 : decode cX8_addInput 22 = .ok (.dup, 1) := by decide +kernel
theorem dX8_addInput_23 : decode cX8_addInput 23 = .ok (.getfield 28, 3) := by decide +kernel
theorem dX8_addInput_26 : decode cX8_addInput 26 = .ok (.iconst 1, 1) := by decide +kernel
theorem dX8_addInput_27 : decode cX8_addInput 27 = .ok (.iadd, 1) := by decide +kernel
theorem dX8_addInput_28 : decode cX8_addInput 28 = .ok (.putfield 28, 3) := by decide +kernel
theorem dX8_addInput_31 : decode cX8_addInput 31 = .ok (.aload_n 0, 1) := by decide +kernel
theorem dX8_addInput_32 : decode cX8_addInput 32 = .ok (.getfield 28, 3) := by decide +kernel
theorem dX8_addInput_35 : decode cX8_addInput 35 = .ok (.iconst 1, 1) := by decide +kernel
theorem dX8_addInput_36 : decode cX8_addInput 36 = .ok (.isub, 1) := by decide +kernel
theorem dX8_addInput_37 : decode cX8_addInput 37 = .ok (.ireturn, 1) := by decide +kernel
theorem dX5_init_0 : decode cX5_init 0 = .ok (.aload_n 0, 1) := by decide +kernel
theorem dX5_init_1 : decode cX5_init 1 = .ok (.invokespecial 3, 3) := by decide +kernel
theorem dX5_init_4 : decode cX5_init 4 = .ok (.aload_n 0, 1) := by decide +kernel
theorem dX5_init_5 : decode cX5_init 5 = .ok (.bipush 32, 2) := by decide +kernel
theorem dX5_init_7 : decode cX5_init 7 = .ok (.newarray .long, 2) := by decide +kernel
theorem dX5_init_9 : decode cX5_init 9 = .ok (.putfield 9, 3) := by decide +kernel
theorem dX5_init_12 : decode cX5_init 12 = .ok (.aload_n 0, 1) := by decide +kernel
theorem dX5_init_13 : decode cX5_init 13 = .ok (.iconst 0, 1) := by decide +kernel
theorem dX5_init_14 : decode cX5_init 14 = .ok (.putfield 15, 3) := by decide +kernel
theorem dX5_init_17 : decode cX5_init 17 = .ok (.return_, 1) := by decide +kernel
theorem dX5_drop_0 : decode cX5_drop 0 = .ok (.aload_n 0, 1) := by decide +kernel
theorem dX5_drop_1 : decode cX5_drop 1 = .ok (.iconst 0, 1) := by decide +kernel
theorem dX5_drop_2 : decode cX5_drop 2 = .ok (.putfield 15, 3) := by decide +kernel
theorem dX5_drop_5 : decode cX5_drop 5 = .ok (.return_, 1) := by decide +kernel
theorem dX5_add_0 : decode cX5_add 0 = .ok (.aload_n 0, 1) := by decide +kernel
theorem dX5_add_1 : decode cX5_add 1 = .ok (.getfield 15, 3) := by decide +kernel
theorem dX5_add_4 : decode cX5_add 4 = .ok (.sipush 4000, 3) := by decide +kernel
theorem dX5_add_7 : decode cX5_add 7 = .ok (.if_icmp .le 4, 3) := by decide +kernel
theorem dX5_add_10 : decode cX5_add 10 = .ok (.return_, 1) := by decide +kernel
theorem dX5_add_11 : decode cX5_add 11 = .ok (.iconst 2, 1) := by decide +kernel
theorem dX5_add_12 : decode cX5_add 12 = .ok (.aload_n 0, 1) := by decide +kernel
theorem dX5_add_13 : decode cX5_add 13 = .ok (.getfield 15, 3) := by decide +kernel
theorem dX5_add_16 : decode cX5_add 16 = .ok (.imul, 1) := by decide +kernel
theorem dX5_add_17 : decode cX5_add 17 = .ok (.iconst 1, 1) := by decide +kernel
theorem dX5_add_18 : decode cX5_add 18 = .ok (.iadd, 1) := by decide +kernel
theorem dX5_add_19 : decode cX5_add 19 = .ok (.aload_n 0, 1) := by decide +kernel
theorem dX5_add_20 : decode cX5_add 20 = .ok (.getfield 9, 3) := by decide +kernel
theorem dX5_add_23 : decode cX5_add 23 = .ok (.arraylength, 1) := by decide +kernel
theorem dX5_add_24 : decode cX5_add 24 = .ok (.if_icmp .lt 21, 3) := by decide +kernel
theorem dX5_add_27 : decode cX5_add 27 = .ok (.aload_n 0, 1) := by decide +kernel
theorem dX5_add_28 : decode cX5_add 28 = .ok (.aload_n 0, 1) := by decide +kernel
theorem dX5_add_29 : decode cX5_add 29 = .ok (.getfield 9, 3) := by decide +kernel
theorem dX5_add_32 : decode cX5_add 32 = .ok (.iconst 2, 1) := by decide +kernel
theorem dX5_add_33 : decode cX5_add 33 = .ok (.aload_n 0, 1) := by decide +kernel
theorem dX5_add_34 : decode cX5_add 34 = .ok (.getfield 9, 3) := by decide +kernel
theorem dX5_add_37 : decode cX5_add 37 = .ok (.arraylength, 1) := by decide +kernel
theorem dX5_add_38 : decode cX5_add 38 = .ok (.imul, 1) := by decide +kernel
theorem dX5_add_39 : decode cX5_add 39 = .ok (.invokestatic 19, 3) := by decide +kernel
theorem dX5_add_42 : decode cX5_add 42 = .ok (.putfield 9, 3) := by decide +kernel
theorem dX5_add_45 : decode cX5_add 45 = .ok (.aload_n 0, 1) := by decide +kernel
theorem dX5_add_46 : decode cX5_add 46 = .ok (.getfield 9, 3) := by decide +kernel
theorem dX5_add_49 : decode cX5_add 49 = .ok (.iconst 2, 1) := by decide +kernel
theorem dX5_add_50 : decode cX5_add 50 = .ok (.aload_n 0, 1) := by decide +kernel
theorem dX5_add_51 : decode cX5_add 51 = .ok (.getfield 15, 3) := by decide +kernel
theorem dX5_add_54 : decode cX5_add 54 = .ok (.imul, 1) := by decide +kernel
theorem dX5_add_55 : decode cX5_add 55 = .ok (.aload_n 1, 1) := by decide +kernel
theorem dX5_add_56 : decode cX5_add 56 = .ok (.iconst 0, 1) := by decide +kernel
theorem dX5_add_57 : decode cX5_add 57 = .ok (.iload_n 2, 1) := by decide +kernel
theorem dX5_add_58 : decode cX5_add 58 = .ok (.invokestatic 25, 3) := by decide +kernel
theorem dX5_add_61 : decode cX5_add 61 = .ok (.lastore, 1) := by decide +kernel
theorem dX5_add_62 : decode cX5_add 62 = .ok (.aload_n 0, 1) := by decide +kernel
theorem dX5_add_63 : decode cX5_add 63 = .ok (.getfield 9, 3) := by decide +kernel
theorem dX5_add_66 : decode cX5_add 66 = .ok (.iconst 2, 1) := by decide +kernel
theorem dX5_add_67 : decode cX5_add 67 = .ok (.aload_n 0, 1) := by decide +kernel
theorem dX5_add_68 : decode cX5_add 68 = .ok (.getfield 15, 3) := by decide +kernel
theorem dX5_add_71 : decode cX5_add 71 = .ok (.imul, 1) := by decide +kernel
theorem dX5_add_72 : decode cX5_add 72 = .ok (.iconst 1, 1) := by decide +kernel
theorem dX5_add_73 : decode cX5_add 73 = .ok (.iadd, 1) := by decide +kernel
theorem dX5_add_74 : decode cX5_add 74 = .ok (.aload_n 1, 1) := by decide +kernel
theorem dX5_add_75 : decode cX5_add 75 = .ok (.bipush 11, 2) := by decide +kernel
theorem dX5_add_77 : decode cX5_add 77 = .ok (.iload_n 2, 1) := by decide +kernel
theorem dX5_add_78 : decode cX5_add 78 = .ok (.invokestatic 25, 3) := by decide +kernel
theorem dX5_add_81 : decode cX5_add 81 = .ok (.lastore, 1) := by decide +kernel
theorem dX5_add_82 : decode cX5_add 82 = .ok (.aload_n 0, 1) := by decide +kernel
theorem dX5_add_83 : decode cX5_add 83 = .ok (.dup, 1) := by decide +kernel
theorem dX5_add_84 : decode cX5_add 84 = .ok (.getfield 15, 3) := by decide +kernel
theorem dX5_add_87 : decode cX5_add 87 = .ok (.iconst 1, 1) := by decide +kernel
theorem dX5_add_88 : decode cX5_add 88 = .ok (.iadd, 1) := by decide +kernel
theorem dX5_add_89 : decode cX5_add 89 = .ok (.putfield 15, 3) := by decide +kernel
theorem dX5_add_92 : decode cX5_add 92 = .ok (.return_, 1) := by decide +kernel
theorem dX5_choiceAt_0 : decode cX5_choiceAt 0 = .ok (.iload_n 1, 1) := by decide +kernel
theorem dX5_choiceAt_1 : decode cX5_choiceAt 1 = .ok (.ifCond .lt 21, 3) := by decide +kernel
theorem dX5_choiceAt_4 : decode cX5_choiceAt 4 = .ok (.iload_n 1, 1) := by decide +kernel
theorem dX5_choiceAt_5 : decode cX5_choiceAt 5 = .ok (.aload_n 0, 1) := by decide +kernel
theorem dX5_choiceAt_6 : decode cX5_choiceAt 6 = .ok (.getfield 15, 3) := by decide +kernel
theorem dX5_choiceAt_9 : decode cX5_choiceAt 9 = .ok (.if_icmp .ge 13, 3) := by decide +kernel
theorem dX5_choiceAt_12 : decode cX5_choiceAt 12 = .ok (.iload_n 2, 1) := by decide +kernel
theorem dX5_choiceAt_13 : decode cX5_choiceAt 13 = .ok (.ifCond .lt 9, 3) := by decide +kernel
theorem dX5_choiceAt_16 : decode cX5_choiceAt 16 = .ok (.iload_n 2, 1) := by decide +kernel
theorem dX5_choiceAt_17 : decode cX5_choiceAt 17 = .ok (.bipush 22, 2) := by decide +kernel
theorem dX5_choiceAt_19 : decode cX5_choiceAt 19 = .ok (.if_icmp .lt 5, 3) := by decide +kernel
theorem dX5_choiceAt_22 : decode cX5_choiceAt 22 = .ok (.iconst 0, 1) := by decide +kernel
theorem dX5_choiceAt_23 : decode cX5_choiceAt 23 = .ok (.ireturn, 1) := by decide +kernel
theorem dX5_choiceAt_24 : decode cX5_choiceAt 24 = .ok (.aload_n 0, 1) := by decide +kernel
theorem dX5_choiceAt_25 : decode cX5_choiceAt 25 = .ok (.getfield 9, 3) := by decide +kernel
theorem dX5_choiceAt_28 : decode cX5_choiceAt 28 = .ok (.iconst 2, 1) := by decide +kernel
theorem dX5_choiceAt_29 : decode cX5_choiceAt 29 = .ok (.iload_n 1, 1) := by decide +kernel
theorem dX5_choiceAt_30 : decode cX5_choiceAt 30 = .ok (.imul, 1) := by decide +kernel
theorem dX5_choiceAt_31 : decode cX5_choiceAt 31 = .ok (.iload_n 2, 1) := by decide +kernel
theorem dX5_choiceAt_32 : decode cX5_choiceAt 32 = .ok (.bipush 11, 2) := by decide +kernel
theorem dX5_choiceAt_34 : decode cX5_choiceAt 34 = .ok (.idiv, 1) := by decide +kernel
theorem dX5_choiceAt_35 : decode cX5_choiceAt 35 = .ok (.iadd, 1) := by decide +kernel
theorem dX5_choiceAt_36 : decode cX5_choiceAt 36 = .ok (.laload, 1) := by decide +kernel
theorem dX5_choiceAt_37 : decode cX5_choiceAt 37 = .ok (.lstore_n 3, 1) := by decide +kernel
theorem dX5_choiceAt_38 : decode cX5_choiceAt 38 = .ok (.lload_n 3, 1) := by decide +kernel
theorem dX5_choiceAt_39 : decode cX5_choiceAt 39 = .ok (.iconst 4, 1) := by decide +kernel
theorem dX5_choiceAt_40 : decode cX5_choiceAt 40 = .ok (.bipush 10, 2) := by decide +kernel
theorem dX5_choiceAt_42 : decode cX5_choiceAt 42 = .ok (.iload_n 2, 1) := by decide +kernel
theorem dX5_choiceAt_43 : decode cX5_choiceAt 43 = .ok (.bipush 11, 2) := by decide +kernel
theorem dX5_choiceAt_45 : decode cX5_choiceAt 45 = .ok (.irem, 1) := by decide +kernel
theorem dX5_choiceAt_46 : decode cX5_choiceAt 46 = .ok (.isub, 1) := by decide +kernel
theorem dX5_choiceAt_47 : decode cX5_choiceAt 47 = .ok (.imul, 1) := by decide +kernel
theorem dX5_choiceAt_48 : decode cX5_choiceAt 48 = .ok (.lshr, 1) := by decide +kernel
theorem dX5_choiceAt_49 : decode cX5_choiceAt 49 = .ok (.l2i, 1) := by decide +kernel
theorem dX5_choiceAt_50 : decode cX5_choiceAt 50 = .ok (.bipush 15, 2) := by decide +kernel
theorem dX5_choiceAt_52 : decode cX5_choiceAt 52 = .ok (.iand, 1) := by decide +kernel
theorem dX5_choiceAt_53 : decode cX5_choiceAt 53 = .ok (.istore 5, 2) := by decide +kernel
theorem dX5_choiceAt_55 : decode cX5_choiceAt 55 = .ok (.iload 5, 2) := by decide +kernel
theorem dX5_choiceAt_57 : decode cX5_choiceAt 57 = .ok (.bipush 6, 2) := by decide +kernel
theorem dX5_choiceAt_59 : decode cX5_choiceAt 59 = .ok (.if_icmp .ge 8, 3) := by decide +kernel
theorem dX5_choiceAt_62 : decode cX5_choiceAt 62 = .ok (.iload 5, 2) := by decide +kernel
theorem dX5_choiceAt_64 : decode cX5_choiceAt 64 = .ok (.goto 11, 3) := by decide +kernel
theorem dX5_choiceAt_67 : decode cX5_choiceAt 67 = .ok (.iload 5, 2) := by decide +kernel
theorem dX5_choiceAt_69 : decode cX5_choiceAt 69 = .ok (.bipush 6, 2) := by decide +kernel
theorem dX5_choiceAt_71 : decode cX5_choiceAt 71 = .ok (.isub, 1) := by decide +kernel
theorem dX5_choiceAt_72 : decode cX5_choiceAt 72 = .ok (.bipush 10, 2) := by decide +kernel
theorem dX5_choiceAt_74 : decode cX5_choiceAt 74 = .ok (.iadd, 1) := by decide +kernel
theorem dX5_choiceAt_75 : decode cX5_choiceAt 75 = .ok (.ireturn, 1) := by decide +kernel
theorem dX5_dropLast_0 : decode cX5_dropLast 0 = .ok (.aload_n 0, 1) := by decide +kernel
theorem dX5_dropLast_1 : decode cX5_dropLast 1 = .ok (.getfield 15, 3) := by decide +kernel
theorem dX5_dropLast_4 : decode cX5_dropLast 4 = .ok (.ifCond .le 13, 3) := by decide +kernel
theorem dX5_dropLast_7 : decode cX5_dropLast 7 = .ok (.aload_n 0, 1) := by decide +kernel
theorem dX5_dropLast_8 : decode cX5_dropLast 8 = .ok (.dup, 1) := by decide +kernel
theorem dX5_dropLast_9 : decode cX5_dropLast 9 = .ok (.getfield 15, 3) := by decide +kernel
theorem dX5_dropLast_12 : decode cX5_dropLast 12 = .ok (.iconst 1, 1) := by decide +kernel
theorem dX5_dropLast_13 : decode cX5_dropLast 13 = .ok (.isub, 1) := by decide +kernel
theorem dX5_dropLast_14 : decode cX5_dropLast 14 = .ok (.putfield 15, 3) := by decide +kernel
theorem dX5_dropLast_17 : decode cX5_dropLast 17 = .ok (.return_, 1) := by decide +kernel
theorem dX5_compare_0 : decode cX5_compare 0 = .ok (.iload_n 1, 1) := by decide +kernel
theorem dX5_compare_1 : decode cX5_compare 1 = .ok (.ifCond .lt 23, 3) := by decide +kernel
theorem dX5_compare_4 : decode cX5_compare 4 = .ok (.iload_n 1, 1) := by decide +kernel
theorem dX5_compare_5 : decode cX5_compare 5 = .ok (.aload_n 0, 1) := by decide +kernel
theorem dX5_compare_6 : decode cX5_compare 6 = .ok (.getfield 15, 3) := by decide +kernel
theorem dX5_compare_9 : decode cX5_compare 9 = .ok (.if_icmp .ge 15, 3) := by decide +kernel
theorem dX5_compare_12 : decode cX5_compare 12 = .ok (.iload_n 2, 1) := by decide +kernel
theorem dX5_compare_13 : decode cX5_compare 13 = .ok (.ifCond .lt 11, 3) := by decide +kernel
theorem dX5_compare_16 : decode cX5_compare 16 = .ok (.iload_n 2, 1) := by decide +kernel
theorem dX5_compare_17 : decode cX5_compare 17 = .ok (.aload_n 0, 1) := by decide +kernel
theorem dX5_compare_18 : decode cX5_compare 18 = .ok (.getfield 15, 3) := by decide +kernel
theorem dX5_compare_21 : decode cX5_compare 21 = .ok (.if_icmp .lt 5, 3) := by decide +kernel
theorem dX5_compare_24 : decode cX5_compare 24 = .ok (.iconst 0, 1) := by decide +kernel
theorem dX5_compare_25 : decode cX5_compare 25 = .ok (.ireturn, 1) := by decide +kernel
theorem dX5_compare_26 : decode cX5_compare 26 = .ok (.aload_n 0, 1) := by decide +kernel
theorem dX5_compare_27 : decode cX5_compare 27 = .ok (.getfield 9, 3) := by decide +kernel
theorem dX5_compare_30 : decode cX5_compare 30 = .ok (.iconst 2, 1) := by decide +kernel
theorem dX5_compare_31 : decode cX5_compare 31 = .ok (.iload_n 1, 1) := by decide +kernel
theorem dX5_compare_32 : decode cX5_compare 32 = .ok (.imul, 1) := by decide +kernel
theorem dX5_compare_33 : decode cX5_compare 33 = .ok (.laload, 1) := by decide +kernel
theorem dX5_compare_34 : decode cX5_compare 34 = .ok (.aload_n 0, 1) := by decide +kernel
theorem dX5_compare_35 : decode cX5_compare 35 = .ok (.getfield 9, 3) := by decide +kernel
theorem dX5_compare_38 : decode cX5_compare 38 = .ok (.iconst 2, 1) := by decide +kernel
theorem dX5_compare_39 : decode cX5_compare 39 = .ok (.iload_n 2, 1) := by decide +kernel
theorem dX5_compare_40 : decode cX5_compare 40 = .ok (.imul, 1) := by decide +kernel
theorem dX5_compare_41 : decode cX5_compare 41 = .ok (.laload, 1) := by decide +kernel
theorem dX5_compare_42 : decode cX5_compare 42 = .ok (.invokestatic 29, 3) := by decide +kernel
theorem dX5_compare_45 : decode cX5_compare 45 = .ok (.istore_n 3, 1) := by decide +kernel
theorem dX5_compare_46 : decode cX5_compare 46 = .ok (.iload_n 3, 1) := by decide +kernel
theorem dX5_compare_47 : decode cX5_compare 47 = .ok (.ifCond .eq 7, 3) := by decide +kernel
theorem dX5_compare_50 : decode cX5_compare 50 = .ok (.iload_n 3, 1) := by decide +kernel
theorem dX5_compare_51 : decode cX5_compare 51 = .ok (.goto 26, 3) := by decide +kernel
theorem dX5_compare_54 : decode cX5_compare 54 = .ok (.aload_n 0, 1) := by decide +kernel
theorem dX5_compare_55 : decode cX5_compare 55 = .ok (.getfield 9, 3) := by decide +kernel
theorem dX5_compare_58 : decode cX5_compare 58 = .ok (.iconst 2, 1) := by decide +kernel
theorem dX5_compare_59 : decode cX5_compare 59 = .ok (.iload_n 1, 1) := by decide +kernel
theorem dX5_compare_60 : decode cX5_compare 60 = .ok (.imul, 1) := by decide +kernel
theorem dX5_compare_61 : decode cX5_compare 61 = .ok (.iconst 1, 1) := by decide +kernel
theorem dX5_compare_62 : decode cX5_compare 62 = .ok (.iadd, 1) := by decide +kernel
theorem dX5_compare_63 : decode cX5_compare 63 = .ok (.laload, 1) := by decide +kernel
theorem dX5_compare_64 : decode cX5_compare 64 = .ok (.aload_n 0, 1) := by decide +kernel
theorem dX5_compare_65 : decode cX5_compare 65 = .ok (.getfield 9, 3) := by decide +kernel
theorem dX5_compare_68 : decode cX5_compare 68 = .ok (.iconst 2, 1) := by decide +kernel
theorem dX5_compare_69 : decode cX5_compare 69 = .ok (.iload_n 2, 1) := by decide +kernel
theorem dX5_compare_70 : decode cX5_compare 70 = .ok (.imul, 1) := by decide +kernel
theorem dX5_compare_71 : decode cX5_compare 71 = .ok (.iconst 1, 1) := by decide +kernel
theorem dX5_compare_72 : decode cX5_compare 72 = .ok (.iadd, 1) := by decide +kernel
theorem dX5_compare_73 : decode cX5_compare 73 = .ok (.laload, 1) := by decide +kernel
theorem dX5_compare_74 : decode cX5_compare 74 = .ok (.invokestatic 29, 3) := by decide +kernel
theorem dX5_compare_77 : decode cX5_compare 77 = .ok (.ireturn, 1) := by decide +kernel
theorem dX5_find_0 : decode cX5_find 0 = .ok (.aload_n 1, 1) := by decide +kernel
theorem dX5_find_1 : decode cX5_find 1 = .ok (.iconst 0, 1) := by decide +kernel
theorem dX5_find_2 : decode cX5_find 2 = .ok (.iload_n 2, 1) := by decide +kernel
theorem dX5_find_3 : decode cX5_find 3 = .ok (.invokestatic 25, 3) := by decide +kernel
theorem dX5_find_6 : decode cX5_find 6 = .ok (.lstore_n 3, 1) := by decide +kernel
theorem dX5_find_7 : decode cX5_find 7 = .ok (.aload_n 1, 1) := by decide +kernel
theorem dX5_find_8 : decode cX5_find 8 = .ok (.bipush 11, 2) := by decide +kernel
theorem dX5_find_10 : decode cX5_find 10 = .ok (.iload_n 2, 1) := by decide +kernel
theorem dX5_find_11 : decode cX5_find 11 = .ok (.invokestatic 25, 3) := by decide +kernel
theorem dX5_find_14 : decode cX5_find 14 = .ok (.lstore 5, 2) := by decide +kernel
theorem dX5_find_16 : decode cX5_find 16 = .ok (.iconst 0, 1) := by decide +kernel
theorem dX5_find_17 : decode cX5_find 17 = .ok (.istore 7, 2) := by decide +kernel
theorem dX5_find_19 : decode cX5_find 19 = .ok (.aload_n 0, 1) := by decide +kernel
theorem dX5_find_20 : decode cX5_find 20 = .ok (.getfield 15, 3) := by decide +kernel
theorem dX5_find_23 : decode cX5_find 23 = .ok (.iconst 1, 1) := by decide +kernel
theorem dX5_find_24 : decode cX5_find 24 = .ok (.isub, 1) := by decide +kernel
theorem dX5_find_25 : decode cX5_find 25 = .ok (.istore 8, 2) := by decide +kernel
theorem dX5_find_27 : decode cX5_find 27 = .ok (.iconst 0, 1) := by decide +kernel
theorem dX5_find_28 : decode cX5_find 28 = .ok (.istore 9, 2) := by decide +kernel
theorem dX5_find_30 : decode cX5_find 30 = .ok (.iload 9, 2) := by decide +kernel
theorem dX5_find_32 : decode cX5_find 32 = .ok (.bipush 32, 2) := by decide +kernel
theorem dX5_find_34 : decode cX5_find 34 = .ok (.if_icmp .ge 91, 3) := by decide +kernel
theorem dX5_find_37 : decode cX5_find 37 = .ok (.iload 7, 2) := by decide +kernel
theorem dX5_find_39 : decode cX5_find 39 = .ok (.iload 8, 2) := by decide +kernel
theorem dX5_find_41 : decode cX5_find 41 = .ok (.if_icmp .gt 84, 3) := by decide +kernel
theorem dX5_find_44 : decode cX5_find 44 = .ok (.iload 7, 2) := by decide +kernel
theorem dX5_find_46 : decode cX5_find 46 = .ok (.iload 8, 2) := by decide +kernel
theorem dX5_find_48 : decode cX5_find 48 = .ok (.iadd, 1) := by decide +kernel
theorem dX5_find_49 : decode cX5_find 49 = .ok (.iconst 2, 1) := by decide +kernel
theorem dX5_find_50 : decode cX5_find 50 = .ok (.idiv, 1) := by decide +kernel
theorem dX5_find_51 : decode cX5_find 51 = .ok (.istore 10, 2) := by decide +kernel
theorem dX5_find_53 : decode cX5_find 53 = .ok (.aload_n 0, 1) := by decide +kernel
theorem dX5_find_54 : decode cX5_find 54 = .ok (.getfield 9, 3) := by decide +kernel
theorem dX5_find_57 : decode cX5_find 57 = .ok (.iconst 2, 1) := by decide +kernel
theorem dX5_find_58 : decode cX5_find 58 = .ok (.iload 10, 2) := by decide +kernel
theorem dX5_find_60 : decode cX5_find 60 = .ok (.imul, 1) := by decide +kernel
theorem dX5_find_61 : decode cX5_find 61 = .ok (.laload, 1) := by decide +kernel
theorem dX5_find_62 : decode cX5_find 62 = .ok (.lload_n 3, 1) := by decide +kernel
theorem dX5_find_63 : decode cX5_find 63 = .ok (.invokestatic 29, 3) := by decide +kernel
theorem dX5_find_66 : decode cX5_find 66 = .ok (.istore 11, 2) := by decide +kernel
theorem dX5_find_68 : decode cX5_find 68 = .ok (.iload 11, 2) := by decide +kernel
theorem dX5_find_70 : decode cX5_find 70 = .ok (.ifCond .ne 21, 3) := by decide +kernel
theorem dX5_find_73 : decode cX5_find 73 = .ok (.aload_n 0, 1) := by decide +kernel
theorem dX5_find_74 : decode cX5_find 74 = .ok (.getfield 9, 3) := by decide +kernel
theorem dX5_find_77 : decode cX5_find 77 = .ok (.iconst 2, 1) := by decide +kernel
theorem dX5_find_78 : decode cX5_find 78 = .ok (.iload 10, 2) := by decide +kernel
theorem dX5_find_80 : decode cX5_find 80 = .ok (.imul, 1) := by decide +kernel
theorem dX5_find_81 : decode cX5_find 81 = .ok (.iconst 1, 1) := by decide +kernel
theorem dX5_find_82 : decode cX5_find 82 = .ok (.iadd, 1) := by decide +kernel
theorem dX5_find_83 : decode cX5_find 83 = .ok (.laload, 1) := by decide +kernel
theorem dX5_find_84 : decode cX5_find 84 = .ok (.lload 5, 2) := by decide +kernel
theorem dX5_find_86 : decode cX5_find 86 = .ok (.invokestatic 29, 3) := by decide +kernel
theorem dX5_find_89 : decode cX5_find 89 = .ok (.istore 11, 2) := by decide +kernel
theorem dX5_find_91 : decode cX5_find 91 = .ok (.iload 11, 2) := by decide +kernel
theorem dX5_find_93 : decode cX5_find 93 = .ok (.ifCond .ne 6, 3) := by decide +kernel
theorem dX5_find_96 : decode cX5_find 96 = .ok (.iload 10, 2) := by decide +kernel
theorem dX5_find_98 : decode cX5_find 98 = .ok (.ireturn, 1) := by decide +kernel
theorem dX5_find_99 : decode cX5_find 99 = .ok (.iload 11, 2) := by decide +kernel
theorem dX5_find_101 : decode cX5_find 101 = .ok (.ifCond .ge 12, 3) := by decide +kernel
theorem dX5_find_104 : decode cX5_find 104 = .ok (.iload 10, 2) := by decide +kernel
theorem dX5_find_106 : decode cX5_find 106 = .ok (.iconst 1, 1) := by decide +kernel
theorem dX5_find_107 : decode cX5_find 107 = .ok (.iadd, 1) := by decide +kernel
theorem dX5_find_108 : decode cX5_find 108 = .ok (.istore 7, 2) := by decide +kernel
theorem dX5_find_110 : decode cX5_find 110 = .ok (.goto 9, 3) := by decide +kernel
theorem dX5_find_113 : decode cX5_find 113 = .ok (.iload 10, 2) := by decide +kernel
theorem dX5_find_115 : decode cX5_find 115 = .ok (.iconst 1, 1) := by decide +kernel
theorem dX5_find_116 : decode cX5_find 116 = .ok (.isub, 1) := by decide +kernel
theorem dX5_find_117 : decode cX5_find 117 = .ok (.istore 8, 2) := by decide +kernel
theorem dX5_find_119 : decode cX5_find 119 = .ok (.iinc 9 1, 3) := by decide +kernel
theorem dX5_find_122 : decode cX5_find 122 = .ok (.goto (-92), 3) := by decide +kernel
theorem dX5_find_125 : decode cX5_find 125 = .ok (.iconst (-1), 1) := by decide +kernel
theorem dX5_find_126 : decode cX5_find 126 = .ok (.ireturn, 1) := by decide +kernel
theorem dX5_pack_0 : decode cX5_pack 0 = .ok (.iload_n 2, 1) := by decide +kernel
theorem dX5_pack_1 : decode cX5_pack 1 = .ok (.aload_n 0, 1) := by decide +kernel
theorem dX5_pack_2 : decode cX5_pack 2 = .ok (.arraylength, 1) := by decide +kernel
theorem dX5_pack_3 : decode cX5_pack 3 = .ok (.invokestatic 35, 3) := by decide +kernel
theorem dX5_pack_6 : decode cX5_pack 6 = .ok (.istore_n 3, 1) := by decide +kernel
theorem dX5_pack_7 : decode cX5_pack 7 = .ok (.lconst 0, 1) := by decide +kernel
theorem dX5_pack_8 : decode cX5_pack 8 = .ok (.lstore 4, 2) := by decide +kernel
theorem dX5_pack_10 : decode cX5_pack 10 = .ok (.iload_n 1, 1) := by decide +kernel
theorem dX5_pack_11 : decode cX5_pack 11 = .ok (.istore 6, 2) := by decide +kernel
theorem dX5_pack_13 : decode cX5_pack 13 = .ok (.iload 6, 2) := by decide +kernel
theorem dX5_pack_15 : decode cX5_pack 15 = .ok (.iload_n 1, 1) := by decide +kernel
theorem dX5_pack_16 : decode cX5_pack 16 = .ok (.bipush 11, 2) := by decide +kernel
theorem dX5_pack_18 : decode cX5_pack 18 = .ok (.iadd, 1) := by decide +kernel
theorem dX5_pack_19 : decode cX5_pack 19 = .ok (.if_icmp .ge 60, 3) := by decide +kernel
theorem dX5_pack_22 : decode cX5_pack 22 = .ok (.iload 6, 2) := by decide +kernel
theorem dX5_pack_24 : decode cX5_pack 24 = .ok (.iload_n 3, 1) := by decide +kernel
theorem dX5_pack_25 : decode cX5_pack 25 = .ok (.if_icmp .ge 10, 3) := by decide +kernel
theorem dX5_pack_28 : decode cX5_pack 28 = .ok (.aload_n 0, 1) := by decide +kernel
theorem dX5_pack_29 : decode cX5_pack 29 = .ok (.iload 6, 2) := by decide +kernel
theorem dX5_pack_31 : decode cX5_pack 31 = .ok (.iaload, 1) := by decide +kernel
theorem dX5_pack_32 : decode cX5_pack 32 = .ok (.goto 4, 3) := by decide +kernel
theorem dX5_pack_35 : decode cX5_pack 35 = .ok (.iconst 0, 1) := by decide +kernel
theorem dX5_pack_36 : decode cX5_pack 36 = .ok (.istore 7, 2) := by decide +kernel
theorem dX5_pack_38 : decode cX5_pack 38 = .ok (.iload 7, 2) := by decide +kernel
theorem dX5_pack_40 : decode cX5_pack 40 = .ok (.bipush 10, 2) := by decide +kernel
theorem dX5_pack_42 : decode cX5_pack 42 = .ok (.if_icmp .ge 8, 3) := by decide +kernel
theorem dX5_pack_45 : decode cX5_pack 45 = .ok (.iload 7, 2) := by decide +kernel
theorem dX5_pack_47 : decode cX5_pack 47 = .ok (.goto 11, 3) := by decide +kernel
theorem dX5_pack_50 : decode cX5_pack 50 = .ok (.iload 7, 2) := by decide +kernel
theorem dX5_pack_52 : decode cX5_pack 52 = .ok (.bipush 10, 2) := by decide +kernel
theorem dX5_pack_54 : decode cX5_pack 54 = .ok (.isub, 1) := by decide +kernel
theorem dX5_pack_55 : decode cX5_pack 55 = .ok (.bipush 6, 2) := by decide +kernel
theorem dX5_pack_57 : decode cX5_pack 57 = .ok (.iadd, 1) := by decide +kernel
theorem dX5_pack_58 : decode cX5_pack 58 = .ok (.istore 8, 2) := by decide +kernel
theorem dX5_pack_60 : decode cX5_pack 60 = .ok (.lload 4, 2) := by decide +kernel
theorem dX5_pack_62 : decode cX5_pack 62 = .ok (.iconst 4, 1) := by decide +kernel
theorem dX5_pack_63 : decode cX5_pack 63 = .ok (.lshl, 1) := by decide +kernel
theorem dX5_pack_64 : decode cX5_pack 64 = .ok (.iload 8, 2) := by decide +kernel
theorem dX5_pack_66 : decode cX5_pack 66 = .ok (.bipush 15, 2) := by decide +kernel
theorem dX5_pack_68 : decode cX5_pack 68 = .ok (.iand, 1) := by decide +kernel
theorem dX5_pack_69 : decode cX5_pack 69 = .ok (.i2l, 1) := by decide +kernel
theorem dX5_pack_70 : decode cX5_pack 70 = .ok (.lor, 1) := by decide +kernel
theorem dX5_pack_71 : decode cX5_pack 71 = .ok (.lstore 4, 2) := by decide +kernel
theorem dX5_pack_73 : decode cX5_pack 73 = .ok (.iinc 6 1, 3) := by decide +kernel
theorem dX5_pack_76 : decode cX5_pack 76 = .ok (.goto (-63), 3) := by decide +kernel
theorem dX5_pack_79 : decode cX5_pack 79 = .ok (.lload 4, 2) := by decide +kernel
theorem dX5_pack_81 : decode cX5_pack 81 = .ok (.lreturn, 1) := by decide +kernel
theorem dX2_init_0 : decode cX2_init 0 = .ok (.aload_n 0, 1) := by decide +kernel
theorem dX2_init_1 : decode cX2_init 1 = .ok (.invokespecial 3, 3) := by decide +kernel
theorem dX2_init_4 : decode cX2_init 4 = .ok (.aload_n 0, 1) := by decide +kernel
theorem dX2_init_5 : decode cX2_init 5 = .ok (.iconst 5, 1) := by decide +kernel
theorem dX2_init_6 : decode cX2_init 6 = .ok (.newarray .int, 2) := by decide +kernel
theorem dX2_init_8 : decode cX2_init 8 = .ok (.putfield 9, 3) := by decide +kernel
theorem dX2_init_11 : decode cX2_init 11 = .ok (.aload_n 0, 1) := by decide +kernel
theorem dX2_init_12 : decode cX2_init 12 = .ok (.bipush 22, 2) := by decide +kernel
theorem dX2_init_14 : decode cX2_init 14 = .ok (.newarray .int, 2) := by decide +kernel
theorem dX2_init_16 : decode cX2_init 16 = .ok (.putfield 15, 3) := by decide +kernel
theorem dX2_init_19 : decode cX2_init 19 = .ok (.aload_n 0, 1) := by decide +kernel
theorem dX2_init_20 : decode cX2_init 20 = .ok (.bipush 22, 2) := by decide +kernel
theorem dX2_init_22 : decode cX2_init 22 = .ok (.newarray .int, 2) := by decide +kernel
theorem dX2_init_24 : decode cX2_init 24 = .ok (.putfield 18, 3) := by decide +kernel
theorem dX2_init_27 : decode cX2_init 27 = .ok (.aload_n 0, 1) := by decide +kernel
theorem dX2_init_28 : decode cX2_init 28 = .ok (.bipush 22, 2) := by decide +kernel
theorem dX2_init_30 : decode cX2_init 30 = .ok (.newarray .int, 2) := by decide +kernel
theorem dX2_init_32 : decode cX2_init 32 = .ok (.putfield 21, 3) := by decide +kernel
theorem dX2_init_35 : decode cX2_init 35 = .ok (.aload_n 0, 1) := by decide +kernel
theorem dX2_init_36 : decode cX2_init 36 = .ok (.bipush 22, 2) := by decide +kernel
theorem dX2_init_38 : decode cX2_init 38 = .ok (.newarray .int, 2) := by decide +kernel
theorem dX2_init_40 : decode cX2_init 40 = .ok (.putfield 24, 3) := by decide +kernel
theorem dX2_init_43 : decode cX2_init 43 = .ok (.aload_n 0, 1) := by decide +kernel
theorem dX2_init_44 : decode cX2_init 44 = .ok (.bipush 22, 2) := by decide +kernel
theorem dX2_init_46 : decode cX2_init 46 = .ok (.newarray .int, 2) := by decide +kernel
theorem dX2_init_48 : decode cX2_init 48 = .ok (.putfield 27, 3) := by decide +kernel
theorem dX2_init_51 : decode cX2_init 51 = .ok (.aload_n 0, 1) := by decide +kernel
theorem dX2_init_52 : decode cX2_init 52 = .ok (.iconst 0, 1) := by decide +kernel
theorem dX2_init_53 : decode cX2_init 53 = .ok (.putfield 30, 3) := by decide +kernel
theorem dX2_init_56 : decode cX2_init 56 = .ok (.aload_n 0, 1) := by decide +kernel
theorem dX2_init_57 : decode cX2_init 57 = .ok (.iconst 0, 1) := by decide +kernel
theorem dX2_init_58 : decode cX2_init 58 = .ok (.putfield 34, 3) := by decide +kernel
theorem dX2_init_61 : decode cX2_init 61 = .ok (.aload_n 0, 1) := by decide +kernel
theorem dX2_init_62 : decode cX2_init 62 = .ok (.iconst (-1), 1) := by decide +kernel
theorem dX2_init_63 : decode cX2_init 63 = .ok (.putfield 37, 3) := by decide +kernel
theorem dX2_init_66 : decode cX2_init 66 = .ok (.aload_n 0, 1) := by decide +kernel
theorem dX2_init_67 : decode cX2_init 67 = .ok (.iconst (-1), 1) := by decide +kernel
theorem dX2_init_68 : decode cX2_init 68 = .ok (.putfield 40, 3) := by decide +kernel
theorem dX2_init_71 : decode cX2_init 71 = .ok (.aload_n 0, 1) := by decide +kernel
theorem dX2_init_72 : decode cX2_init 72 = .ok (.aload_n 1, 1) := by decide +kernel
theorem dX2_init_73 : decode cX2_init 73 = .ok (.putfield 43, 3) := by decide +kernel
theorem dX2_init_76 : decode cX2_init 76 = .ok (.return_, 1) := by decide +kernel
theorem dX2_isMet_0 : decode cX2_isMet 0 = .ok (.iload_n 1, 1) := by decide +kernel
theorem dX2_isMet_1 : decode cX2_isMet 1 = .ok (.ifCond .lt 15, 3) := by decide +kernel
theorem dX2_isMet_4 : decode cX2_isMet 4 = .ok (.iload_n 1, 1) := by decide +kernel
theorem dX2_isMet_5 : decode cX2_isMet 5 = .ok (.aload_n 0, 1) := by decide +kernel
theorem dX2_isMet_6 : decode cX2_isMet 6 = .ok (.getfield 34, 3) := by decide +kernel
theorem dX2_isMet_9 : decode cX2_isMet 9 = .ok (.if_icmp .ge 7, 3) := by decide +kernel
theorem dX2_isMet_12 : decode cX2_isMet 12 = .ok (.iconst 1, 1) := by decide +kernel
theorem dX2_isMet_13 : decode cX2_isMet 13 = .ok (.goto 4, 3) := by decide +kernel
theorem dX2_isMet_16 : decode cX2_isMet 16 = .ok (.iconst 0, 1) := by decide +kernel
theorem dX2_isMet_17 : decode cX2_isMet 17 = .ok (.ireturn, 1) := by decide +kernel
theorem dX2_kindOf_0 : decode cX2_kindOf 0 = .ok (.iload_n 1, 1) := by decide +kernel
theorem dX2_kindOf_1 : decode cX2_kindOf 1 = .ok (.ifCond .lt 20, 3) := by decide +kernel
theorem dX2_kindOf_4 : decode cX2_kindOf 4 = .ok (.iload_n 1, 1) := by decide +kernel
theorem dX2_kindOf_5 : decode cX2_kindOf 5 = .ok (.aload_n 0, 1) := by decide +kernel
theorem dX2_kindOf_6 : decode cX2_kindOf 6 = .ok (.getfield 34, 3) := by decide +kernel
theorem dX2_kindOf_9 : decode cX2_kindOf 9 = .ok (.if_icmp .ge 12, 3) := by decide +kernel
theorem dX2_kindOf_12 : decode cX2_kindOf 12 = .ok (.aload_n 0, 1) := by decide +kernel
theorem dX2_kindOf_13 : decode cX2_kindOf 13 = .ok (.getfield 9, 3) := by decide +kernel
theorem dX2_kindOf_16 : decode cX2_kindOf 16 = .ok (.iload_n 1, 1) := by decide +kernel
theorem dX2_kindOf_17 : decode cX2_kindOf 17 = .ok (.iaload, 1) := by decide +kernel
theorem dX2_kindOf_18 : decode cX2_kindOf 18 = .ok (.goto 4, 3) := by decide +kernel
theorem dX2_kindOf_21 : decode cX2_kindOf 21 = .ok (.iconst (-1), 1) := by decide +kernel
theorem dX2_kindOf_22 : decode cX2_kindOf 22 = .ok (.ireturn, 1) := by decide +kernel
theorem dX2_isUnder_0 : decode cX2_isUnder 0 = .ok (.iload_n 1, 1) := by decide +kernel
theorem dX2_isUnder_1 : decode cX2_isUnder 1 = .ok (.ifCond .lt 32, 3) := by decide +kernel
theorem dX2_isUnder_4 : decode cX2_isUnder 4 = .ok (.iload_n 1, 1) := by decide +kernel
theorem dX2_isUnder_5 : decode cX2_isUnder 5 = .ok (.aload_n 0, 1) := by decide +kernel
theorem dX2_isUnder_6 : decode cX2_isUnder 6 = .ok (.getfield 34, 3) := by decide +kernel
theorem dX2_isUnder_9 : decode cX2_isUnder 9 = .ok (.if_icmp .ge 24, 3) := by decide +kernel
theorem dX2_isUnder_12 : decode cX2_isUnder 12 = .ok (.aload_n 0, 1) := by decide +kernel
theorem dX2_isUnder_13 : decode cX2_isUnder 13 = .ok (.getfield 43, 3) := by decide +kernel
theorem dX2_isUnder_16 : decode cX2_isUnder 16 = .ok (.aload_n 0, 1) := by decide +kernel
theorem dX2_isUnder_17 : decode cX2_isUnder 17 = .ok (.getfield 9, 3) := by decide +kernel
theorem dX2_isUnder_20 : decode cX2_isUnder 20 = .ok (.iload_n 1, 1) := by decide +kernel
theorem dX2_isUnder_21 : decode cX2_isUnder 21 = .ok (.iaload, 1) := by decide +kernel
theorem dX2_isUnder_22 : decode cX2_isUnder 22 = .ok (.iload_n 2, 1) := by decide +kernel
theorem dX2_isUnder_23 : decode cX2_isUnder 23 = .ok (.invokevirtual 47, 3) := by decide +kernel
theorem dX2_isUnder_26 : decode cX2_isUnder 26 = .ok (.ifCond .eq 7, 3) := by decide +kernel
theorem dX2_isUnder_29 : decode cX2_isUnder 29 = .ok (.iconst 1, 1) := by decide +kernel
theorem dX2_isUnder_30 : decode cX2_isUnder 30 = .ok (.goto 4, 3) := by decide +kernel
theorem dX2_isUnder_33 : decode cX2_isUnder 33 = .ok (.iconst 0, 1) := by decide +kernel
theorem dX2_isUnder_34 : decode cX2_isUnder 34 = .ok (.ireturn, 1) := by decide +kernel
theorem dX2_choiceAt_0 : decode cX2_choiceAt 0 = .ok (.iload_n 1, 1) := by decide +kernel
theorem dX2_choiceAt_1 : decode cX2_choiceAt 1 = .ok (.ifCond .lt 20, 3) := by decide +kernel
theorem dX2_choiceAt_4 : decode cX2_choiceAt 4 = .ok (.iload_n 1, 1) := by decide +kernel
theorem dX2_choiceAt_5 : decode cX2_choiceAt 5 = .ok (.aload_n 0, 1) := by decide +kernel
theorem dX2_choiceAt_6 : decode cX2_choiceAt 6 = .ok (.getfield 30, 3) := by decide +kernel
theorem dX2_choiceAt_9 : decode cX2_choiceAt 9 = .ok (.if_icmp .ge 12, 3) := by decide +kernel
theorem dX2_choiceAt_12 : decode cX2_choiceAt 12 = .ok (.aload_n 0, 1) := by decide +kernel
theorem dX2_choiceAt_13 : decode cX2_choiceAt 13 = .ok (.getfield 18, 3) := by decide +kernel
theorem dX2_choiceAt_16 : decode cX2_choiceAt 16 = .ok (.iload_n 1, 1) := by decide +kernel
theorem dX2_choiceAt_17 : decode cX2_choiceAt 17 = .ok (.iaload, 1) := by decide +kernel
theorem dX2_choiceAt_18 : decode cX2_choiceAt 18 = .ok (.goto 4, 3) := by decide +kernel
theorem dX2_choiceAt_21 : decode cX2_choiceAt 21 = .ok (.iconst (-1), 1) := by decide +kernel
theorem dX2_choiceAt_22 : decode cX2_choiceAt 22 = .ok (.ireturn, 1) := by decide +kernel
theorem dX2_inputTells_0 : decode cX2_inputTells 0 = .ok (.iload_n 1, 1) := by decide +kernel
theorem dX2_inputTells_1 : decode cX2_inputTells 1 = .ok (.ifCond .lt 23, 3) := by decide +kernel
theorem dX2_inputTells_4 : decode cX2_inputTells 4 = .ok (.iload_n 1, 1) := by decide +kernel
theorem dX2_inputTells_5 : decode cX2_inputTells 5 = .ok (.aload_n 0, 1) := by decide +kernel
theorem dX2_inputTells_6 : decode cX2_inputTells 6 = .ok (.getfield 43, 3) := by decide +kernel
theorem dX2_inputTells_9 : decode cX2_inputTells 9 = .ok (.getfield 53, 3) := by decide +kernel
theorem dX2_inputTells_12 : decode cX2_inputTells 12 = .ok (.if_icmp .ge 12, 3) := by decide +kernel
theorem dX2_inputTells_15 : decode cX2_inputTells 15 = .ok (.aload_n 0, 1) := by decide +kernel
theorem dX2_inputTells_16 : decode cX2_inputTells 16 = .ok (.getfield 15, 3) := by decide +kernel
theorem dX2_inputTells_19 : decode cX2_inputTells 19 = .ok (.iload_n 1, 1) := by decide +kernel
theorem dX2_inputTells_20 : decode cX2_inputTells 20 = .ok (.iaload, 1) := by decide +kernel
theorem dX2_inputTells_21 : decode cX2_inputTells 21 = .ok (.goto 4, 3) := by decide +kernel
theorem dX2_inputTells_24 : decode cX2_inputTells 24 = .ok (.iconst (-1), 1) := by decide +kernel
theorem dX2_inputTells_25 : decode cX2_inputTells 25 = .ok (.ireturn, 1) := by decide +kernel
theorem dX2_fieldTells_0 : decode cX2_fieldTells 0 = .ok (.iload_n 1, 1) := by decide +kernel
theorem dX2_fieldTells_1 : decode cX2_fieldTells 1 = .ok (.ifCond .lt 20, 3) := by decide +kernel
theorem dX2_fieldTells_4 : decode cX2_fieldTells 4 = .ok (.iload_n 1, 1) := by decide +kernel
theorem dX2_fieldTells_5 : decode cX2_fieldTells 5 = .ok (.aload_n 0, 1) := by decide +kernel
theorem dX2_fieldTells_6 : decode cX2_fieldTells 6 = .ok (.getfield 34, 3) := by decide +kernel
theorem dX2_fieldTells_9 : decode cX2_fieldTells 9 = .ok (.if_icmp .ge 12, 3) := by decide +kernel
theorem dX2_fieldTells_12 : decode cX2_fieldTells 12 = .ok (.iload_n 2, 1) := by decide +kernel
theorem dX2_fieldTells_13 : decode cX2_fieldTells 13 = .ok (.ifCond .lt 8, 3) := by decide +kernel
theorem dX2_fieldTells_16 : decode cX2_fieldTells 16 = .ok (.iload_n 2, 1) := by decide +kernel
theorem dX2_fieldTells_17 : decode cX2_fieldTells 17 = .ok (.iconst 4, 1) := by decide +kernel
theorem dX2_fieldTells_18 : decode cX2_fieldTells 18 = .ok (.if_icmp .lt 5, 3) := by decide +kernel
theorem dX2_fieldTells_21 : decode cX2_fieldTells 21 = .ok (.iconst (-1), 1) := by decide +kernel
theorem dX2_fieldTells_22 : decode cX2_fieldTells 22 = .ok (.ireturn, 1) := by decide +kernel
theorem dX2_fieldTells_23 : decode cX2_fieldTells 23 = .ok (.aload_n 0, 1) := by decide +kernel
theorem dX2_fieldTells_24 : decode cX2_fieldTells 24 = .ok (.getfield 15, 3) := by decide +kernel
theorem dX2_fieldTells_27 : decode cX2_fieldTells 27 = .ok (.iconst 2, 1) := by decide +kernel
theorem dX2_fieldTells_28 : decode cX2_fieldTells 28 = .ok (.iload_n 1, 1) := by decide +kernel
theorem dX2_fieldTells_29 : decode cX2_fieldTells 29 = .ok (.iconst 4, 1) := by decide +kernel
theorem dX2_fieldTells_30 : decode cX2_fieldTells 30 = .ok (.imul, 1) := by decide +kernel
theorem dX2_fieldTells_31 : decode cX2_fieldTells 31 = .ok (.iadd, 1) := by decide +kernel
theorem dX2_fieldTells_32 : decode cX2_fieldTells 32 = .ok (.iload_n 2, 1) := by decide +kernel
theorem dX2_fieldTells_33 : decode cX2_fieldTells 33 = .ok (.iadd, 1) := by decide +kernel
theorem dX2_fieldTells_34 : decode cX2_fieldTells 34 = .ok (.iaload, 1) := by decide +kernel
theorem dX2_fieldTells_35 : decode cX2_fieldTells 35 = .ok (.ireturn, 1) := by decide +kernel
theorem dX2_begin_0 : decode cX2_begin 0 = .ok (.aload_n 0, 1) := by decide +kernel
theorem dX2_begin_1 : decode cX2_begin 1 = .ok (.iconst 0, 1) := by decide +kernel
theorem dX2_begin_2 : decode cX2_begin 2 = .ok (.putfield 30, 3) := by decide +kernel
theorem dX2_begin_5 : decode cX2_begin 5 = .ok (.aload_n 0, 1) := by decide +kernel
theorem dX2_begin_6 : decode cX2_begin 6 = .ok (.iconst 0, 1) := by decide +kernel
theorem dX2_begin_7 : decode cX2_begin 7 = .ok (.putfield 34, 3) := by decide +kernel
theorem dX2_begin_10 : decode cX2_begin 10 = .ok (.aload_n 0, 1) := by decide +kernel
theorem dX2_begin_11 : decode cX2_begin 11 = .ok (.iconst 0, 1) := by decide +kernel
theorem dX2_begin_12 : decode cX2_begin 12 = .ok (.invokevirtual 56, 3) := by decide +kernel
theorem dX2_begin_15 : decode cX2_begin 15 = .ok (.return_, 1) := by decide +kernel
theorem dX2_fill_0 : decode cX2_fill 0 = .ok (.iconst 0, 1) := by decide +kernel
theorem dX2_fill_1 : decode cX2_fill 1 = .ok (.istore_n 1, 1) := by decide +kernel
theorem dX2_fill_2 : decode cX2_fill 2 = .ok (.iload_n 1, 1) := by decide +kernel
theorem dX2_fill_3 : decode cX2_fill 3 = .ok (.bipush 22, 2) := by decide +kernel
theorem dX2_fill_5 : decode cX2_fill 5 = .ok (.if_icmp .ge 22, 3) := by decide +kernel
theorem dX2_fill_8 : decode cX2_fill 8 = .ok (.aload_n 0, 1) := by decide +kernel
theorem dX2_fill_9 : decode cX2_fill 9 = .ok (.getfield 37, 3) := by decide +kernel
theorem dX2_fill_12 : decode cX2_fill 12 = .ok (.iconst (-1), 1) := by decide +kernel
theorem dX2_fill_13 : decode cX2_fill 13 = .ok (.if_icmp .eq 14, 3) := by decide +kernel
theorem dX2_fill_16 : decode cX2_fill 16 = .ok (.aload_n 0, 1) := by decide +kernel
theorem dX2_fill_17 : decode cX2_fill 17 = .ok (.iconst 0, 1) := by decide +kernel
theorem dX2_fill_18 : decode cX2_fill 18 = .ok (.invokevirtual 60, 3) := by decide +kernel
theorem dX2_fill_21 : decode cX2_fill 21 = .ok (.iinc 1 1, 3) := by decide +kernel
theorem dX2_fill_24 : decode cX2_fill 24 = .ok (.goto (-22), 3) := by decide +kernel
theorem dX2_fill_27 : decode cX2_fill 27 = .ok (.return_, 1) := by decide +kernel
theorem dX2_raise_0 : decode cX2_raise 0 = .ok (.aload_n 0, 1) := by decide +kernel
theorem dX2_raise_1 : decode cX2_raise 1 = .ok (.getfield 30, 3) := by decide +kernel
theorem dX2_raise_4 : decode cX2_raise 4 = .ok (.iconst 1, 1) := by decide +kernel
theorem dX2_raise_5 : decode cX2_raise 5 = .ok (.isub, 1) := by decide +kernel
theorem dX2_raise_6 : decode cX2_raise 6 = .ok (.istore_n 1, 1) := by decide +kernel
theorem dX2_raise_7 : decode cX2_raise 7 = .ok (.iload_n 1, 1) := by decide +kernel
theorem dX2_raise_8 : decode cX2_raise 8 = .ok (.ifCond .lt 37, 3) := by decide +kernel
theorem dX2_raise_11 : decode cX2_raise 11 = .ok (.aload_n 0, 1) := by decide +kernel
theorem dX2_raise_12 : decode cX2_raise 12 = .ok (.iload_n 1, 1) := by decide +kernel
theorem dX2_raise_13 : decode cX2_raise 13 = .ok (.invokevirtual 63, 3) := by decide +kernel
theorem dX2_raise_16 : decode cX2_raise 16 = .ok (.aload_n 0, 1) := by decide +kernel
theorem dX2_raise_17 : decode cX2_raise 17 = .ok (.aload_n 0, 1) := by decide +kernel
theorem dX2_raise_18 : decode cX2_raise 18 = .ok (.getfield 18, 3) := by decide +kernel
theorem dX2_raise_21 : decode cX2_raise 21 = .ok (.iload_n 1, 1) := by decide +kernel
theorem dX2_raise_22 : decode cX2_raise 22 = .ok (.iaload, 1) := by decide +kernel
theorem dX2_raise_23 : decode cX2_raise 23 = .ok (.invokevirtual 66, 3) := by decide +kernel
theorem dX2_raise_26 : decode cX2_raise 26 = .ok (.istore_n 2, 1) := by decide +kernel
theorem dX2_raise_27 : decode cX2_raise 27 = .ok (.iload_n 2, 1) := by decide +kernel
theorem dX2_raise_28 : decode cX2_raise 28 = .ok (.iconst (-1), 1) := by decide +kernel
theorem dX2_raise_29 : decode cX2_raise 29 = .ok (.if_icmp .eq 10, 3) := by decide +kernel
theorem dX2_raise_32 : decode cX2_raise 32 = .ok (.aload_n 0, 1) := by decide +kernel
theorem dX2_raise_33 : decode cX2_raise 33 = .ok (.iload_n 2, 1) := by decide +kernel
theorem dX2_raise_34 : decode cX2_raise 34 = .ok (.invokevirtual 60, 3) := by decide +kernel
theorem dX2_raise_37 : decode cX2_raise 37 = .ok (.iconst 1, 1) := by decide +kernel
theorem dX2_raise_38 : decode cX2_raise 38 = .ok (.ireturn, 1) := by decide +kernel
theorem dX2_raise_39 : decode cX2_raise 39 = .ok (.iinc 1 (-1), 3) := by decide +kernel
theorem dX2_raise_42 : decode cX2_raise 42 = .ok (.goto (-35), 3) := by decide +kernel
theorem dX2_raise_45 : decode cX2_raise 45 = .ok (.iconst 0, 1) := by decide +kernel
theorem dX2_raise_46 : decode cX2_raise 46 = .ok (.ireturn, 1) := by decide +kernel
theorem dX2_load_0 : decode cX2_load 0 = .ok (.aload_n 0, 1) := by decide +kernel
theorem dX2_load_1 : decode cX2_load 1 = .ok (.aload_n 1, 1) := by decide +kernel
theorem dX2_load_2 : decode cX2_load 2 = .ok (.iload_n 2, 1) := by decide +kernel
theorem dX2_load_3 : decode cX2_load 3 = .ok (.invokevirtual 70, 3) := by decide +kernel
theorem dX2_load_6 : decode cX2_load 6 = .ok (.istore_n 3, 1) := by decide +kernel
theorem dX2_load_7 : decode cX2_load 7 = .ok (.aload_n 0, 1) := by decide +kernel
theorem dX2_load_8 : decode cX2_load 8 = .ok (.iload_n 3, 1) := by decide +kernel
theorem dX2_load_9 : decode cX2_load 9 = .ok (.invokevirtual 63, 3) := by decide +kernel
theorem dX2_load_12 : decode cX2_load 12 = .ok (.iload_n 3, 1) := by decide +kernel
theorem dX2_load_13 : decode cX2_load 13 = .ok (.istore 4, 2) := by decide +kernel
theorem dX2_load_15 : decode cX2_load 15 = .ok (.iload 4, 2) := by decide +kernel
theorem dX2_load_17 : decode cX2_load 17 = .ok (.bipush 22, 2) := by decide +kernel
theorem dX2_load_19 : decode cX2_load 19 = .ok (.if_icmp .ge 28, 3) := by decide +kernel
theorem dX2_load_22 : decode cX2_load 22 = .ok (.aload_n 0, 1) := by decide +kernel
theorem dX2_load_23 : decode cX2_load 23 = .ok (.getfield 37, 3) := by decide +kernel
theorem dX2_load_26 : decode cX2_load 26 = .ok (.iconst (-1), 1) := by decide +kernel
theorem dX2_load_27 : decode cX2_load 27 = .ok (.if_icmp .eq 20, 3) := by decide +kernel
theorem dX2_load_30 : decode cX2_load 30 = .ok (.aload_n 0, 1) := by decide +kernel
theorem dX2_load_31 : decode cX2_load 31 = .ok (.aload_n 1, 1) := by decide +kernel
theorem dX2_load_32 : decode cX2_load 32 = .ok (.iload_n 2, 1) := by decide +kernel
theorem dX2_load_33 : decode cX2_load 33 = .ok (.iload 4, 2) := by decide +kernel
theorem dX2_load_35 : decode cX2_load 35 = .ok (.invokevirtual 74, 3) := by decide +kernel
theorem dX2_load_38 : decode cX2_load 38 = .ok (.invokevirtual 60, 3) := by decide +kernel
theorem dX2_load_41 : decode cX2_load 41 = .ok (.iinc 4 1, 3) := by decide +kernel
theorem dX2_load_44 : decode cX2_load 44 = .ok (.goto (-29), 3) := by decide +kernel
theorem dX2_load_47 : decode cX2_load 47 = .ok (.return_, 1) := by decide +kernel
theorem dX2_loadUnsure_0 : decode cX2_loadUnsure 0 = .ok (.aload_n 0, 1) := by decide +kernel
theorem dX2_loadUnsure_1 : decode cX2_loadUnsure 1 = .ok (.invokevirtual 80, 3) := by decide +kernel
theorem dX2_loadUnsure_4 : decode cX2_loadUnsure 4 = .ok (.iconst 0, 1) := by decide +kernel
theorem dX2_loadUnsure_5 : decode cX2_loadUnsure 5 = .ok (.istore_n 3, 1) := by decide +kernel
theorem dX2_loadUnsure_6 : decode cX2_loadUnsure 6 = .ok (.iload_n 3, 1) := by decide +kernel
theorem dX2_loadUnsure_7 : decode cX2_loadUnsure 7 = .ok (.iload_n 2, 1) := by decide +kernel
theorem dX2_loadUnsure_8 : decode cX2_loadUnsure 8 = .ok (.if_icmp .ge 34, 3) := by decide +kernel
theorem dX2_loadUnsure_11 : decode cX2_loadUnsure 11 = .ok (.iload_n 3, 1) := by decide +kernel
theorem dX2_loadUnsure_12 : decode cX2_loadUnsure 12 = .ok (.aload_n 1, 1) := by decide +kernel
theorem dX2_loadUnsure_13 : decode cX2_loadUnsure 13 = .ok (.arraylength, 1) := by decide +kernel
theorem dX2_loadUnsure_14 : decode cX2_loadUnsure 14 = .ok (.if_icmp .ge 28, 3) := by decide +kernel
theorem dX2_loadUnsure_17 : decode cX2_loadUnsure 17 = .ok (.aload_n 0, 1) := by decide +kernel
theorem dX2_loadUnsure_18 : decode cX2_loadUnsure 18 = .ok (.aload_n 1, 1) := by decide +kernel
theorem dX2_loadUnsure_19 : decode cX2_loadUnsure 19 = .ok (.iload_n 3, 1) := by decide +kernel
theorem dX2_loadUnsure_20 : decode cX2_loadUnsure 20 = .ok (.iaload, 1) := by decide +kernel
theorem dX2_loadUnsure_21 : decode cX2_loadUnsure 21 = .ok (.invokevirtual 83, 3) := by decide +kernel
theorem dX2_loadUnsure_24 : decode cX2_loadUnsure 24 = .ok (.ifCond .ne 5, 3) := by decide +kernel
theorem dX2_loadUnsure_27 : decode cX2_loadUnsure 27 = .ok (.iload_n 3, 1) := by decide +kernel
theorem dX2_loadUnsure_28 : decode cX2_loadUnsure 28 = .ok (.ireturn, 1) := by decide +kernel
theorem dX2_loadUnsure_29 : decode cX2_loadUnsure 29 = .ok (.aload_n 0, 1) := by decide +kernel
theorem dX2_loadUnsure_30 : decode cX2_loadUnsure 30 = .ok (.aload_n 1, 1) := by decide +kernel
theorem dX2_loadUnsure_31 : decode cX2_loadUnsure 31 = .ok (.iload_n 3, 1) := by decide +kernel
theorem dX2_loadUnsure_32 : decode cX2_loadUnsure 32 = .ok (.iaload, 1) := by decide +kernel
theorem dX2_loadUnsure_33 : decode cX2_loadUnsure 33 = .ok (.invokevirtual 60, 3) := by decide +kernel
theorem dX2_loadUnsure_36 : decode cX2_loadUnsure 36 = .ok (.iinc 3 1, 3) := by decide +kernel
theorem dX2_loadUnsure_39 : decode cX2_loadUnsure 39 = .ok (.goto (-33), 3) := by decide +kernel
theorem dX2_loadUnsure_42 : decode cX2_loadUnsure 42 = .ok (.aload_n 0, 1) := by decide +kernel
theorem dX2_loadUnsure_43 : decode cX2_loadUnsure 43 = .ok (.getfield 37, 3) := by decide +kernel
theorem dX2_loadUnsure_46 : decode cX2_loadUnsure 46 = .ok (.iconst (-1), 1) := by decide +kernel
theorem dX2_loadUnsure_47 : decode cX2_loadUnsure 47 = .ok (.if_icmp .ne 7, 3) := by decide +kernel
theorem dX2_loadUnsure_50 : decode cX2_loadUnsure 50 = .ok (.iconst (-1), 1) := by decide +kernel
theorem dX2_loadUnsure_51 : decode cX2_loadUnsure 51 = .ok (.goto 4, 3) := by decide +kernel
theorem dX2_loadUnsure_54 : decode cX2_loadUnsure 54 = .ok (.iload_n 2, 1) := by decide +kernel
theorem dX2_loadUnsure_55 : decode cX2_loadUnsure 55 = .ok (.ireturn, 1) := by decide +kernel
theorem dX2_countAlike_0 : decode cX2_countAlike 0 = .ok (.iconst 0, 1) := by decide +kernel
theorem dX2_countAlike_1 : decode cX2_countAlike 1 = .ok (.istore_n 3, 1) := by decide +kernel
theorem dX2_countAlike_2 : decode cX2_countAlike 2 = .ok (.iload_n 3, 1) := by decide +kernel
theorem dX2_countAlike_3 : decode cX2_countAlike 3 = .ok (.aload_n 0, 1) := by decide +kernel
theorem dX2_countAlike_4 : decode cX2_countAlike 4 = .ok (.getfield 30, 3) := by decide +kernel
theorem dX2_countAlike_7 : decode cX2_countAlike 7 = .ok (.if_icmp .ge 26, 3) := by decide +kernel
theorem dX2_countAlike_10 : decode cX2_countAlike 10 = .ok (.aload_n 0, 1) := by decide +kernel
theorem dX2_countAlike_11 : decode cX2_countAlike 11 = .ok (.getfield 18, 3) := by decide +kernel
theorem dX2_countAlike_14 : decode cX2_countAlike 14 = .ok (.iload_n 3, 1) := by decide +kernel
theorem dX2_countAlike_15 : decode cX2_countAlike 15 = .ok (.iaload, 1) := by decide +kernel
theorem dX2_countAlike_16 : decode cX2_countAlike 16 = .ok (.aload_n 1, 1) := by decide +kernel
theorem dX2_countAlike_17 : decode cX2_countAlike 17 = .ok (.iload_n 2, 1) := by decide +kernel
theorem dX2_countAlike_18 : decode cX2_countAlike 18 = .ok (.iload_n 3, 1) := by decide +kernel
theorem dX2_countAlike_19 : decode cX2_countAlike 19 = .ok (.invokevirtual 74, 3) := by decide +kernel
theorem dX2_countAlike_22 : decode cX2_countAlike 22 = .ok (.if_icmp .eq 5, 3) := by decide +kernel
theorem dX2_countAlike_25 : decode cX2_countAlike 25 = .ok (.iload_n 3, 1) := by decide +kernel
theorem dX2_countAlike_26 : decode cX2_countAlike 26 = .ok (.ireturn, 1) := by decide +kernel
theorem dX2_countAlike_27 : decode cX2_countAlike 27 = .ok (.iinc 3 1, 3) := by decide +kernel
theorem dX2_countAlike_30 : decode cX2_countAlike 30 = .ok (.goto (-28), 3) := by decide +kernel
theorem dX2_countAlike_33 : decode cX2_countAlike 33 = .ok (.aload_n 0, 1) := by decide +kernel
theorem dX2_countAlike_34 : decode cX2_countAlike 34 = .ok (.getfield 30, 3) := by decide +kernel
theorem dX2_countAlike_37 : decode cX2_countAlike 37 = .ok (.ireturn, 1) := by decide +kernel
theorem dX2_backTo_0 : decode cX2_backTo 0 = .ok (.iload_n 1, 1) := by decide +kernel
theorem dX2_backTo_1 : decode cX2_backTo 1 = .ok (.ifCond .lt 46, 3) := by decide +kernel
theorem dX2_backTo_4 : decode cX2_backTo 4 = .ok (.iload_n 1, 1) := by decide +kernel
theorem dX2_backTo_5 : decode cX2_backTo 5 = .ok (.aload_n 0, 1) := by decide +kernel
theorem dX2_backTo_6 : decode cX2_backTo 6 = .ok (.getfield 30, 3) := by decide +kernel
theorem dX2_backTo_9 : decode cX2_backTo 9 = .ok (.if_icmp .ge 38, 3) := by decide +kernel
theorem dX2_backTo_12 : decode cX2_backTo 12 = .ok (.aload_n 0, 1) := by decide +kernel
theorem dX2_backTo_13 : decode cX2_backTo 13 = .ok (.aload_n 0, 1) := by decide +kernel
theorem dX2_backTo_14 : decode cX2_backTo 14 = .ok (.getfield 21, 3) := by decide +kernel
theorem dX2_backTo_17 : decode cX2_backTo 17 = .ok (.iload_n 1, 1) := by decide +kernel
theorem dX2_backTo_18 : decode cX2_backTo 18 = .ok (.iaload, 1) := by decide +kernel
theorem dX2_backTo_19 : decode cX2_backTo 19 = .ok (.putfield 37, 3) := by decide +kernel
theorem dX2_backTo_22 : decode cX2_backTo 22 = .ok (.aload_n 0, 1) := by decide +kernel
theorem dX2_backTo_23 : decode cX2_backTo 23 = .ok (.aload_n 0, 1) := by decide +kernel
theorem dX2_backTo_24 : decode cX2_backTo 24 = .ok (.getfield 24, 3) := by decide +kernel
theorem dX2_backTo_27 : decode cX2_backTo 27 = .ok (.iload_n 1, 1) := by decide +kernel
theorem dX2_backTo_28 : decode cX2_backTo 28 = .ok (.iaload, 1) := by decide +kernel
theorem dX2_backTo_29 : decode cX2_backTo 29 = .ok (.putfield 40, 3) := by decide +kernel
theorem dX2_backTo_32 : decode cX2_backTo 32 = .ok (.aload_n 0, 1) := by decide +kernel
theorem dX2_backTo_33 : decode cX2_backTo 33 = .ok (.aload_n 0, 1) := by decide +kernel
theorem dX2_backTo_34 : decode cX2_backTo 34 = .ok (.getfield 27, 3) := by decide +kernel
theorem dX2_backTo_37 : decode cX2_backTo 37 = .ok (.iload_n 1, 1) := by decide +kernel
theorem dX2_backTo_38 : decode cX2_backTo 38 = .ok (.iaload, 1) := by decide +kernel
theorem dX2_backTo_39 : decode cX2_backTo 39 = .ok (.putfield 34, 3) := by decide +kernel
theorem dX2_backTo_42 : decode cX2_backTo 42 = .ok (.aload_n 0, 1) := by decide +kernel
theorem dX2_backTo_43 : decode cX2_backTo 43 = .ok (.iload_n 1, 1) := by decide +kernel
theorem dX2_backTo_44 : decode cX2_backTo 44 = .ok (.putfield 30, 3) := by decide +kernel
theorem dX2_backTo_47 : decode cX2_backTo 47 = .ok (.return_, 1) := by decide +kernel
theorem dX2_choiceAbove_0 : decode cX2_choiceAbove 0 = .ok (.aload_n 0, 1) := by decide +kernel
theorem dX2_choiceAbove_1 : decode cX2_choiceAbove 1 = .ok (.getfield 40, 3) := by decide +kernel
theorem dX2_choiceAbove_4 : decode cX2_choiceAbove 4 = .ok (.invokestatic 87, 3) := by decide +kernel
theorem dX2_choiceAbove_7 : decode cX2_choiceAbove 7 = .ok (.ifCond .ne 21, 3) := by decide +kernel
theorem dX2_choiceAbove_10 : decode cX2_choiceAbove 10 = .ok (.aload_n 0, 1) := by decide +kernel
theorem dX2_choiceAbove_11 : decode cX2_choiceAbove 11 = .ok (.iload_n 1, 1) := by decide +kernel
theorem dX2_choiceAbove_12 : decode cX2_choiceAbove 12 = .ok (.iconst 1, 1) := by decide +kernel
theorem dX2_choiceAbove_13 : decode cX2_choiceAbove 13 = .ok (.iadd, 1) := by decide +kernel
theorem dX2_choiceAbove_14 : decode cX2_choiceAbove 14 = .ok (.invokevirtual 83, 3) := by decide +kernel
theorem dX2_choiceAbove_17 : decode cX2_choiceAbove 17 = .ok (.ifCond .eq 9, 3) := by decide +kernel
theorem dX2_choiceAbove_20 : decode cX2_choiceAbove 20 = .ok (.iload_n 1, 1) := by decide +kernel
