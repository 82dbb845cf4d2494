theorem dX9_init_0 : decode cX9_init 0 = .ok (.aload_n 0, 1) := by decide +kernel
theorem dX9_init_1 : decode cX9_init 1 = .ok (.invokespecial 1, 3) := by decide +kernel
theorem dX9_init_4 : decode cX9_init 4 = .ok (.aload_n 0, 1) := by decide +kernel
theorem dX9_init_5 : decode cX9_init 5 = .ok (.iconst 0, 1) := by decide +kernel
theorem dX9_init_6 : decode cX9_init 6 = .ok (.putfield 9, 3) := by decide +kernel
theorem dX9_init_9 : decode cX9_init 9 = .ok (.aload_n 0, 1) := by decide +kernel
theorem dX9_init_10 : decode cX9_init 10 = .ok (.new 15, 3) := by decide +kernel
theorem dX9_init_13 : decode cX9_init 13 = .ok (.dup, 1) := by decide +kernel
theorem dX9_init_14 : decode cX9_init 14 = .ok (.invokespecial 17, 3) := by decide +kernel
theorem dX9_init_17 : decode cX9_init 17 = .ok (.putfield 18, 3) := by decide +kernel
theorem dX9_init_20 : decode cX9_init 20 = .ok (.aload_n 0, 1) := by decide +kernel
theorem dX9_init_21 : decode cX9_init 21 = .ok (.new 22, 3) := by decide +kernel
theorem dX9_init_24 : decode cX9_init 24 = .ok (.dup, 1) := by decide +kernel
theorem dX9_init_25 : decode cX9_init 25 = .ok (.aload_n 0, 1) := by decide +kernel
theorem dX9_init_26 : decode cX9_init 26 = .ok (.getfield 18, 3) := by decide +kernel
theorem dX9_init_29 : decode cX9_init 29 = .ok (.invokespecial 24, 3) := by decide +kernel
theorem dX9_init_32 : decode cX9_init 32 = .ok (.putfield 27, 3) := by decide +kernel
theorem dX9_init_35 : decode cX9_init 35 = .ok (.aload_n 0, 1) := by decide +kernel
theorem dX9_init_36 : decode cX9_init 36 = .ok (.new 31, 3) := by decide +kernel
theorem dX9_init_39 : decode cX9_init 39 = .ok (.dup, 1) := by decide +kernel
theorem dX9_init_40 : decode cX9_init 40 = .ok (.aload_n 0, 1) := by decide +kernel
theorem dX9_init_41 : decode cX9_init 41 = .ok (.getfield 18, 3) := by decide +kernel
theorem dX9_init_44 : decode cX9_init 44 = .ok (.aload_n 0, 1) := by decide +kernel
theorem dX9_init_45 : decode cX9_init 45 = .ok (.getfield 27, 3) := by decide +kernel
theorem dX9_init_48 : decode cX9_init 48 = .ok (.invokespecial 33, 3) := by decide +kernel
theorem dX9_init_51 : decode cX9_init 51 = .ok (.putfield 36, 3) := by decide +kernel
theorem dX9_init_54 : decode cX9_init 54 = .ok (.aload_n 0, 1) := by decide +kernel
theorem dX9_init_55 : decode cX9_init 55 = .ok (.new 40, 3) := by decide +kernel
theorem dX9_init_58 : decode cX9_init 58 = .ok (.dup, 1) := by decide +kernel
theorem dX9_init_59 : decode cX9_init 59 = .ok (.invokespecial 42, 3) := by decide +kernel
theorem dX9_init_62 : decode cX9_init 62 = .ok (.putfield 43, 3) := by decide +kernel
theorem dX9_init_65 : decode cX9_init 65 = .ok (.return_, 1) := by decide +kernel
theorem dX9_type_0 : decode cX9_type 0 = .ok (.iload_n 1, 1) := by decide +kernel
theorem dX9_type_1 : decode cX9_type 1 = .ok (.invokestatic 47, 3) := by decide +kernel
theorem dX9_type_4 : decode cX9_type 4 = .ok (.aload_n 0, 1) := by decide +kernel
theorem dX9_type_5 : decode cX9_type 5 = .ok (.getfield 9, 3) := by decide +kernel
theorem dX9_type_8 : decode cX9_type 8 = .ok (.invokestatic 51, 3) := by decide +kernel
theorem dX9_type_11 : decode cX9_type 11 = .ok (.bipush 7, 2) := by decide +kernel
theorem dX9_type_13 : decode cX9_type 13 = .ok (.if_icmp .lt 13, 3) := by decide +kernel
theorem dX9_type_16 : decode cX9_type 16 = .ok (.new 55, 3) := by decide +kernel
theorem dX9_type_19 : decode cX9_type 19 = .ok (.dup, 1) := by decide +kernel
theorem dX9_type_20 : decode cX9_type 20 = .ok (.ldc 57, 2) := by decide +kernel
theorem dX9_type_22 : decode cX9_type 22 = .ok (.invokespecial 59, 3) := by decide +kernel
theorem dX9_type_25 : decode cX9_type 25 = .ok (.athrow, 1) := by decide +kernel
theorem dX9_type_26 : decode cX9_type 26 = .ok (.aload_n 0, 1) := by decide +kernel
theorem dX9_type_27 : decode cX9_type 27 = .ok (.aload_n 0, 1) := by decide +kernel
theorem dX9_type_28 : decode cX9_type 28 = .ok (.getfield 9, 3) := by decide +kernel
theorem dX9_type_31 : decode cX9_type 31 = .ok (.iload_n 1, 1) := by decide +kernel
theorem dX9_type_32 : decode cX9_type 32 = .ok (.invokestatic 62, 3) := by decide +kernel
theorem dX9_type_35 : decode cX9_type 35 = .ok (.putfield 9, 3) := by decide +kernel
theorem dX9_type_38 : decode cX9_type 38 = .ok (.aload_n 0, 1) := by decide +kernel
theorem dX9_type_39 : decode cX9_type 39 = .ok (.getfield 9, 3) := by decide +kernel
theorem dX9_type_42 : decode cX9_type 42 = .ok (.invokestatic 51, 3) := by decide +kernel
theorem dX9_type_45 : decode cX9_type 45 = .ok (.ireturn, 1) := by decide +kernel
theorem dX9_clearText_0 : decode cX9_clearText 0 = .ok (.aload_n 0, 1) := by decide +kernel
theorem dX9_clearText_1 : decode cX9_clearText 1 = .ok (.getfield 9, 3) := by decide +kernel
theorem dX9_clearText_4 : decode cX9_clearText 4 = .ok (.invokestatic 51, 3) := by decide +kernel
theorem dX9_clearText_7 : decode cX9_clearText 7 = .ok (.istore_n 1, 1) := by decide +kernel
theorem dX9_clearText_8 : decode cX9_clearText 8 = .ok (.aload_n 0, 1) := by decide +kernel
theorem dX9_clearText_9 : decode cX9_clearText 9 = .ok (.iconst 0, 1) := by decide +kernel
theorem dX9_clearText_10 : decode cX9_clearText 10 = .ok (.putfield 9, 3) := by decide +kernel
theorem dX9_clearText_13 : decode cX9_clearText 13 = .ok (.iload_n 1, 1) := by decide +kernel
theorem dX9_clearText_14 : decode cX9_clearText 14 = .ok (.ireturn, 1) := by decide +kernel
theorem dX9_addWord_0 : decode cX9_addWord 0 = .ok (.aload_n 0, 1) := by decide +kernel
theorem dX9_addWord_1 : decode cX9_addWord 1 = .ok (.getfield 9, 3) := by decide +kernel
theorem dX9_addWord_4 : decode cX9_addWord 4 = .ok (.invokestatic 51, 3) := by decide +kernel
theorem dX9_addWord_7 : decode cX9_addWord 7 = .ok (.iconst 2, 1) := by decide +kernel
theorem dX9_addWord_8 : decode cX9_addWord 8 = .ok (.if_icmp .ge 13, 3) := by decide +kernel
theorem dX9_addWord_11 : decode cX9_addWord 11 = .ok (.new 55, 3) := by decide +kernel
theorem dX9_addWord_14 : decode cX9_addWord 14 = .ok (.dup, 1) := by decide +kernel
theorem dX9_addWord_15 : decode cX9_addWord 15 = .ok (.ldc 66, 2) := by decide +kernel
theorem dX9_addWord_17 : decode cX9_addWord 17 = .ok (.invokespecial 59, 3) := by decide +kernel
theorem dX9_addWord_20 : decode cX9_addWord 20 = .ok (.athrow, 1) := by decide +kernel
theorem dX9_addWord_21 : decode cX9_addWord 21 = .ok (.aload_n 0, 1) := by decide +kernel
theorem dX9_addWord_22 : decode cX9_addWord 22 = .ok (.getfield 18, 3) := by decide +kernel
theorem dX9_addWord_25 : decode cX9_addWord 25 = .ok (.getfield 68, 3) := by decide +kernel
theorem dX9_addWord_28 : decode cX9_addWord 28 = .ok (.invokevirtual 72, 3) := by decide +kernel
theorem dX9_addWord_31 : decode cX9_addWord 31 = .ok (.ifCond .eq 13, 3) := by decide +kernel
theorem dX9_addWord_34 : decode cX9_addWord 34 = .ok (.new 55, 3) := by decide +kernel
theorem dX9_addWord_37 : decode cX9_addWord 37 = .ok (.dup, 1) := by decide +kernel
theorem dX9_addWord_38 : decode cX9_addWord 38 = .ok (.ldc 78, 2) := by decide +kernel
theorem dX9_addWord_40 : decode cX9_addWord 40 = .ok (.invokespecial 59, 3) := by decide +kernel
theorem dX9_addWord_43 : decode cX9_addWord 43 = .ok (.athrow, 1) := by decide +kernel
theorem dX9_addWord_44 : decode cX9_addWord 44 = .ok (.aload_n 0, 1) := by decide +kernel
theorem dX9_addWord_45 : decode cX9_addWord 45 = .ok (.getfield 43, 3) := by decide +kernel
theorem dX9_addWord_48 : decode cX9_addWord 48 = .ok (.aload_n 0, 1) := by decide +kernel
theorem dX9_addWord_49 : decode cX9_addWord 49 = .ok (.getfield 18, 3) := by decide +kernel
theorem dX9_addWord_52 : decode cX9_addWord 52 = .ok (.invokevirtual 80, 3) := by decide +kernel
theorem dX9_addWord_55 : decode cX9_addWord 55 = .ok (.aload_n 0, 1) := by decide +kernel
theorem dX9_addWord_56 : decode cX9_addWord 56 = .ok (.getfield 18, 3) := by decide +kernel
theorem dX9_addWord_59 : decode cX9_addWord 59 = .ok (.getfield 68, 3) := by decide +kernel
theorem dX9_addWord_62 : decode cX9_addWord 62 = .ok (.aload_n 0, 1) := by decide +kernel
theorem dX9_addWord_63 : decode cX9_addWord 63 = .ok (.getfield 9, 3) := by decide +kernel
theorem dX9_addWord_66 : decode cX9_addWord 66 = .ok (.invokevirtual 83, 3) := by decide +kernel
theorem dX9_addWord_69 : decode cX9_addWord 69 = .ok (.aload_n 0, 1) := by decide +kernel
theorem dX9_addWord_70 : decode cX9_addWord 70 = .ok (.iconst 0, 1) := by decide +kernel
theorem dX9_addWord_71 : decode cX9_addWord 71 = .ok (.putfield 9, 3) := by decide +kernel
theorem dX9_addWord_74 : decode cX9_addWord 74 = .ok (.aload_n 0, 1) := by decide +kernel
theorem dX9_addWord_75 : decode cX9_addWord 75 = .ok (.getfield 18, 3) := by decide +kernel
theorem dX9_addWord_78 : decode cX9_addWord 78 = .ok (.getfield 68, 3) := by decide +kernel
theorem dX9_addWord_81 : decode cX9_addWord 81 = .ok (.invokevirtual 86, 3) := by decide +kernel
theorem dX9_addWord_84 : decode cX9_addWord 84 = .ok (.ireturn, 1) := by decide +kernel
theorem dX9_lookUp_0 : decode cX9_lookUp 0 = .ok (.aload_n 0, 1) := by decide +kernel
theorem dX9_lookUp_1 : decode cX9_lookUp 1 = .ok (.getfield 18, 3) := by decide +kernel
theorem dX9_lookUp_4 : decode cX9_lookUp 4 = .ok (.getfield 68, 3) := by decide +kernel
theorem dX9_lookUp_7 : decode cX9_lookUp 7 = .ok (.aload_n 0, 1) := by decide +kernel
theorem dX9_lookUp_8 : decode cX9_lookUp 8 = .ok (.getfield 9, 3) := by decide +kernel
theorem dX9_lookUp_11 : decode cX9_lookUp 11 = .ok (.invokevirtual 90, 3) := by decide +kernel
theorem dX9_lookUp_14 : decode cX9_lookUp 14 = .ok (.ireturn, 1) := by decide +kernel
theorem dX9_setLetter_0 : decode cX9_setLetter 0 = .ok (.iload_n 1, 1) := by decide +kernel
theorem dX9_setLetter_1 : decode cX9_setLetter 1 = .ok (.invokestatic 47, 3) := by decide +kernel
theorem dX9_setLetter_4 : decode cX9_setLetter 4 = .ok (.iload_n 2, 1) := by decide +kernel
theorem dX9_setLetter_5 : decode cX9_setLetter 5 = .ok (.iconst 1, 1) := by decide +kernel
theorem dX9_setLetter_6 : decode cX9_setLetter 6 = .ok (.if_icmp .lt 9, 3) := by decide +kernel
theorem dX9_setLetter_9 : decode cX9_setLetter 9 = .ok (.iload_n 2, 1) := by decide +kernel
theorem dX9_setLetter_10 : decode cX9_setLetter 10 = .ok (.bipush 10, 2) := by decide +kernel
theorem dX9_setLetter_12 : decode cX9_setLetter 12 = .ok (.if_icmp .le 13, 3) := by decide +kernel
theorem dX9_setLetter_15 : decode cX9_setLetter 15 = .ok (.new 93, 3) := by decide +kernel
theorem dX9_setLetter_18 : decode cX9_setLetter 18 = .ok (.dup, 1) := by decide +kernel
theorem dX9_setLetter_19 : decode cX9_setLetter 19 = .ok (.ldc 95, 2) := by decide +kernel
theorem dX9_setLetter_21 : decode cX9_setLetter 21 = .ok (.invokespecial 97, 3) := by decide +kernel
theorem dX9_setLetter_24 : decode cX9_setLetter 24 = .ok (.athrow, 1) := by decide +kernel
theorem dX9_setLetter_25 : decode cX9_setLetter 25 = .ok (.iload_n 3, 1) := by decide +kernel
theorem dX9_setLetter_26 : decode cX9_setLetter 26 = .ok (.bipush (-20), 2) := by decide +kernel
theorem dX9_setLetter_28 : decode cX9_setLetter 28 = .ok (.if_icmp .lt 9, 3) := by decide +kernel
theorem dX9_setLetter_31 : decode cX9_setLetter 31 = .ok (.iload_n 3, 1) := by decide +kernel
theorem dX9_setLetter_32 : decode cX9_setLetter 32 = .ok (.bipush 20, 2) := by decide +kernel
theorem dX9_setLetter_34 : decode cX9_setLetter 34 = .ok (.if_icmp .le 13, 3) := by decide +kernel
theorem dX9_setLetter_37 : decode cX9_setLetter 37 = .ok (.new 93, 3) := by decide +kernel
theorem dX9_setLetter_40 : decode cX9_setLetter 40 = .ok (.dup, 1) := by decide +kernel
theorem dX9_setLetter_41 : decode cX9_setLetter 41 = .ok (.ldc 98, 2) := by decide +kernel
theorem dX9_setLetter_43 : decode cX9_setLetter 43 = .ok (.invokespecial 97, 3) := by decide +kernel
theorem dX9_setLetter_46 : decode cX9_setLetter 46 = .ok (.athrow, 1) := by decide +kernel
theorem dX9_setLetter_47 : decode cX9_setLetter 47 = .ok (.aload_n 0, 1) := by decide +kernel
theorem dX9_setLetter_48 : decode cX9_setLetter 48 = .ok (.getfield 43, 3) := by decide +kernel
theorem dX9_setLetter_51 : decode cX9_setLetter 51 = .ok (.aload_n 0, 1) := by decide +kernel
theorem dX9_setLetter_52 : decode cX9_setLetter 52 = .ok (.getfield 18, 3) := by decide +kernel
theorem dX9_setLetter_55 : decode cX9_setLetter 55 = .ok (.invokevirtual 80, 3) := by decide +kernel
theorem dX9_setLetter_58 : decode cX9_setLetter 58 = .ok (.aload_n 0, 1) := by decide +kernel
theorem dX9_setLetter_59 : decode cX9_setLetter 59 = .ok (.getfield 18, 3) := by decide +kernel
theorem dX9_setLetter_62 : decode cX9_setLetter 62 = .ok (.iload_n 1, 1) := by decide +kernel
theorem dX9_setLetter_63 : decode cX9_setLetter 63 = .ok (.invokevirtual 100, 3) := by decide +kernel
theorem dX9_setLetter_66 : decode cX9_setLetter 66 = .ok (.istore 4, 2) := by decide +kernel
theorem dX9_setLetter_68 : decode cX9_setLetter 68 = .ok (.aload_n 0, 1) := by decide +kernel
theorem dX9_setLetter_69 : decode cX9_setLetter 69 = .ok (.getfield 18, 3) := by decide +kernel
theorem dX9_setLetter_72 : decode cX9_setLetter 72 = .ok (.iload_n 1, 1) := by decide +kernel
theorem dX9_setLetter_73 : decode cX9_setLetter 73 = .ok (.iload_n 2, 1) := by decide +kernel
theorem dX9_setLetter_74 : decode cX9_setLetter 74 = .ok (.iload_n 3, 1) := by decide +kernel
theorem dX9_setLetter_75 : decode cX9_setLetter 75 = .ok (.invokevirtual 103, 3) := by decide +kernel
theorem dX9_setLetter_78 : decode cX9_setLetter 78 = .ok (.iload 4, 2) := by decide +kernel
theorem dX9_setLetter_80 : decode cX9_setLetter 80 = .ok (.ireturn, 1) := by decide +kernel
theorem dX9_setPremium_0 : decode cX9_setPremium 0 = .ok (.iload_n 1, 1) := by decide +kernel
theorem dX9_setPremium_1 : decode cX9_setPremium 1 = .ok (.iload_n 2, 1) := by decide +kernel
theorem dX9_setPremium_2 : decode cX9_setPremium 2 = .ok (.invokestatic 107, 3) := by decide +kernel
theorem dX9_setPremium_5 : decode cX9_setPremium 5 = .ok (.iload_n 3, 1) := by decide +kernel
theorem dX9_setPremium_6 : decode cX9_setPremium 6 = .ok (.ifCond .lt 8, 3) := by decide +kernel
theorem dX9_setPremium_9 : decode cX9_setPremium 9 = .ok (.iload_n 3, 1) := by decide +kernel
theorem dX9_setPremium_10 : decode cX9_setPremium 10 = .ok (.iconst 4, 1) := by decide +kernel
theorem dX9_setPremium_11 : decode cX9_setPremium 11 = .ok (.if_icmp .le 13, 3) := by decide +kernel
theorem dX9_setPremium_14 : decode cX9_setPremium 14 = .ok (.new 93, 3) := by decide +kernel
theorem dX9_setPremium_17 : decode cX9_setPremium 17 = .ok (.dup, 1) := by decide +kernel
theorem dX9_setPremium_18 : decode cX9_setPremium 18 = .ok (.ldc 111, 2) := by decide +kernel
theorem dX9_setPremium_20 : decode cX9_setPremium 20 = .ok (.invokespecial 97, 3) := by decide +kernel
theorem dX9_setPremium_23 : decode cX9_setPremium 23 = .ok (.athrow, 1) := by decide +kernel
theorem dX9_setPremium_24 : decode cX9_setPremium 24 = .ok (.aload_n 0, 1) := by decide +kernel
theorem dX9_setPremium_25 : decode cX9_setPremium 25 = .ok (.getfield 43, 3) := by decide +kernel
theorem dX9_setPremium_28 : decode cX9_setPremium 28 = .ok (.aload_n 0, 1) := by decide +kernel
theorem dX9_setPremium_29 : decode cX9_setPremium 29 = .ok (.getfield 18, 3) := by decide +kernel
theorem dX9_setPremium_32 : decode cX9_setPremium 32 = .ok (.invokevirtual 80, 3) := by decide +kernel
theorem dX9_setPremium_35 : decode cX9_setPremium 35 = .ok (.iload_n 1, 1) := by decide +kernel
theorem dX9_setPremium_36 : decode cX9_setPremium 36 = .ok (.iload_n 2, 1) := by decide +kernel
theorem dX9_setPremium_37 : decode cX9_setPremium 37 = .ok (.invokestatic 113, 3) := by decide +kernel
theorem dX9_setPremium_40 : decode cX9_setPremium 40 = .ok (.istore 4, 2) := by decide +kernel
theorem dX9_setPremium_42 : decode cX9_setPremium 42 = .ok (.aload_n 0, 1) := by decide +kernel
theorem dX9_setPremium_43 : decode cX9_setPremium 43 = .ok (.getfield 18, 3) := by decide +kernel
theorem dX9_setPremium_46 : decode cX9_setPremium 46 = .ok (.getfield 118, 3) := by decide +kernel
theorem dX9_setPremium_49 : decode cX9_setPremium 49 = .ok (.iload 4, 2) := by decide +kernel
theorem dX9_setPremium_51 : decode cX9_setPremium 51 = .ok (.invokevirtual 122, 3) := by decide +kernel
theorem dX9_setPremium_54 : decode cX9_setPremium 54 = .ok (.istore 5, 2) := by decide +kernel
theorem dX9_setPremium_56 : decode cX9_setPremium 56 = .ok (.aload_n 0, 1) := by decide +kernel
theorem dX9_setPremium_57 : decode cX9_setPremium 57 = .ok (.getfield 18, 3) := by decide +kernel
theorem dX9_setPremium_60 : decode cX9_setPremium 60 = .ok (.getfield 118, 3) := by decide +kernel
theorem dX9_setPremium_63 : decode cX9_setPremium 63 = .ok (.iload 4, 2) := by decide +kernel
theorem dX9_setPremium_65 : decode cX9_setPremium 65 = .ok (.iload_n 3, 1) := by decide +kernel
theorem dX9_setPremium_66 : decode cX9_setPremium 66 = .ok (.invokevirtual 127, 3) := by decide +kernel
theorem dX9_setPremium_69 : decode cX9_setPremium 69 = .ok (.iload 5, 2) := by decide +kernel
theorem dX9_setPremium_71 : decode cX9_setPremium 71 = .ok (.ireturn, 1) := by decide +kernel
theorem dX9_setRack_0 : decode cX9_setRack 0 = .ok (.iload_n 1, 1) := by decide +kernel
theorem dX9_setRack_1 : decode cX9_setRack 1 = .ok (.invokestatic 130, 3) := by decide +kernel
theorem dX9_setRack_4 : decode cX9_setRack 4 = .ok (.aload_n 0, 1) := by decide +kernel
theorem dX9_setRack_5 : decode cX9_setRack 5 = .ok (.getfield 9, 3) := by decide +kernel
theorem dX9_setRack_8 : decode cX9_setRack 8 = .ok (.invokestatic 51, 3) := by decide +kernel
theorem dX9_setRack_11 : decode cX9_setRack 11 = .ok (.istore_n 2, 1) := by decide +kernel
theorem dX9_setRack_12 : decode cX9_setRack 12 = .ok (.iload_n 2, 1) := by decide +kernel
theorem dX9_setRack_13 : decode cX9_setRack 13 = .ok (.iconst 5, 1) := by decide +kernel
theorem dX9_setRack_14 : decode cX9_setRack 14 = .ok (.if_icmp .le 13, 3) := by decide +kernel
theorem dX9_setRack_17 : decode cX9_setRack 17 = .ok (.new 55, 3) := by decide +kernel
theorem dX9_setRack_20 : decode cX9_setRack 20 = .ok (.dup, 1) := by decide +kernel
theorem dX9_setRack_21 : decode cX9_setRack 21 = .ok (.ldc 133, 2) := by decide +kernel
theorem dX9_setRack_23 : decode cX9_setRack 23 = .ok (.invokespecial 59, 3) := by decide +kernel
theorem dX9_setRack_26 : decode cX9_setRack 26 = .ok (.athrow, 1) := by decide +kernel
theorem dX9_setRack_27 : decode cX9_setRack 27 = .ok (.aload_n 0, 1) := by decide +kernel
theorem dX9_setRack_28 : decode cX9_setRack 28 = .ok (.getfield 43, 3) := by decide +kernel
theorem dX9_setRack_31 : decode cX9_setRack 31 = .ok (.aload_n 0, 1) := by decide +kernel
theorem dX9_setRack_32 : decode cX9_setRack 32 = .ok (.getfield 18, 3) := by decide +kernel
theorem dX9_setRack_35 : decode cX9_setRack 35 = .ok (.invokevirtual 80, 3) := by decide +kernel
theorem dX9_setRack_38 : decode cX9_setRack 38 = .ok (.aload_n 0, 1) := by decide +kernel
theorem dX9_setRack_39 : decode cX9_setRack 39 = .ok (.getfield 18, 3) := by decide +kernel
theorem dX9_setRack_42 : decode cX9_setRack 42 = .ok (.iload_n 1, 1) := by decide +kernel
theorem dX9_setRack_43 : decode cX9_setRack 43 = .ok (.aload_n 0, 1) := by decide +kernel
theorem dX9_setRack_44 : decode cX9_setRack 44 = .ok (.getfield 9, 3) := by decide +kernel
theorem dX9_setRack_47 : decode cX9_setRack 47 = .ok (.invokestatic 135, 3) := by decide +kernel
theorem dX9_setRack_50 : decode cX9_setRack 50 = .ok (.invokevirtual 140, 3) := by decide +kernel
theorem dX9_setRack_53 : decode cX9_setRack 53 = .ok (.aload_n 0, 1) := by decide +kernel
theorem dX9_setRack_54 : decode cX9_setRack 54 = .ok (.iconst 0, 1) := by decide +kernel
theorem dX9_setRack_55 : decode cX9_setRack 55 = .ok (.putfield 9, 3) := by decide +kernel
theorem dX9_setRack_58 : decode cX9_setRack 58 = .ok (.iload_n 2, 1) := by decide +kernel
theorem dX9_setRack_59 : decode cX9_setRack 59 = .ok (.ireturn, 1) := by decide +kernel
theorem dX9_setTile_0 : decode cX9_setTile 0 = .ok (.iload_n 1, 1) := by decide +kernel
theorem dX9_setTile_1 : decode cX9_setTile 1 = .ok (.iload_n 2, 1) := by decide +kernel
theorem dX9_setTile_2 : decode cX9_setTile 2 = .ok (.invokestatic 107, 3) := by decide +kernel
theorem dX9_setTile_5 : decode cX9_setTile 5 = .ok (.iload_n 3, 1) := by decide +kernel
theorem dX9_setTile_6 : decode cX9_setTile 6 = .ok (.iconst (-1), 1) := by decide +kernel
theorem dX9_setTile_7 : decode cX9_setTile 7 = .ok (.if_icmp .eq 7, 3) := by decide +kernel
theorem dX9_setTile_10 : decode cX9_setTile 10 = .ok (.iload_n 3, 1) := by decide +kernel
theorem dX9_setTile_11 : decode cX9_setTile 11 = .ok (.invokestatic 47, 3) := by decide +kernel
theorem dX9_setTile_14 : decode cX9_setTile 14 = .ok (.aload_n 0, 1) := by decide +kernel
theorem dX9_setTile_15 : decode cX9_setTile 15 = .ok (.getfield 43, 3) := by decide +kernel
theorem dX9_setTile_18 : decode cX9_setTile 18 = .ok (.aload_n 0, 1) := by decide +kernel
theorem dX9_setTile_19 : decode cX9_setTile 19 = .ok (.getfield 18, 3) := by decide +kernel
theorem dX9_setTile_22 : decode cX9_setTile 22 = .ok (.invokevirtual 80, 3) := by decide +kernel
theorem dX9_setTile_25 : decode cX9_setTile 25 = .ok (.iload_n 1, 1) := by decide +kernel
theorem dX9_setTile_26 : decode cX9_setTile 26 = .ok (.iload_n 2, 1) := by decide +kernel
theorem dX9_setTile_27 : decode cX9_setTile 27 = .ok (.invokestatic 113, 3) := by decide +kernel
theorem dX9_setTile_30 : decode cX9_setTile 30 = .ok (.istore 4, 2) := by decide +kernel
theorem dX9_setTile_32 : decode cX9_setTile 32 = .ok (.aload_n 0, 1) := by decide +kernel
theorem dX9_setTile_33 : decode cX9_setTile 33 = .ok (.getfield 18, 3) := by decide +kernel
theorem dX9_setTile_36 : decode cX9_setTile 36 = .ok (.getfield 118, 3) := by decide +kernel
theorem dX9_setTile_39 : decode cX9_setTile 39 = .ok (.iload 4, 2) := by decide +kernel
theorem dX9_setTile_41 : decode cX9_setTile 41 = .ok (.invokevirtual 143, 3) := by decide +kernel
theorem dX9_setTile_44 : decode cX9_setTile 44 = .ok (.istore 5, 2) := by decide +kernel
theorem dX9_setTile_46 : decode cX9_setTile 46 = .ok (.aload_n 0, 1) := by decide +kernel
theorem dX9_setTile_47 : decode cX9_setTile 47 = .ok (.getfield 18, 3) := by decide +kernel
theorem dX9_setTile_50 : decode cX9_setTile 50 = .ok (.getfield 118, 3) := by decide +kernel
theorem dX9_setTile_53 : decode cX9_setTile 53 = .ok (.iload 4, 2) := by decide +kernel
theorem dX9_setTile_55 : decode cX9_setTile 55 = .ok (.iload_n 3, 1) := by decide +kernel
theorem dX9_setTile_56 : decode cX9_setTile 56 = .ok (.invokevirtual 146, 3) := by decide +kernel
theorem dX9_setTile_59 : decode cX9_setTile 59 = .ok (.iload 5, 2) := by decide +kernel
theorem dX9_setTile_61 : decode cX9_setTile 61 = .ok (.ireturn, 1) := by decide +kernel
theorem dX9_tileAt_0 : decode cX9_tileAt 0 = .ok (.iload_n 1, 1) := by decide +kernel
theorem dX9_tileAt_1 : decode cX9_tileAt 1 = .ok (.iload_n 2, 1) := by decide +kernel
theorem dX9_tileAt_2 : decode cX9_tileAt 2 = .ok (.invokestatic 107, 3) := by decide +kernel
theorem dX9_tileAt_5 : decode cX9_tileAt 5 = .ok (.aload_n 0, 1) := by decide +kernel
theorem dX9_tileAt_6 : decode cX9_tileAt 6 = .ok (.getfield 18, 3) := by decide +kernel
theorem dX9_tileAt_9 : decode cX9_tileAt 9 = .ok (.getfield 118, 3) := by decide +kernel
theorem dX9_tileAt_12 : decode cX9_tileAt 12 = .ok (.iload_n 1, 1) := by decide +kernel
theorem dX9_tileAt_13 : decode cX9_tileAt 13 = .ok (.iload_n 2, 1) := by decide +kernel
theorem dX9_tileAt_14 : decode cX9_tileAt 14 = .ok (.invokestatic 113, 3) := by decide +kernel
theorem dX9_tileAt_17 : decode cX9_tileAt 17 = .ok (.invokevirtual 143, 3) := by decide +kernel
theorem dX9_tileAt_20 : decode cX9_tileAt 20 = .ok (.ireturn, 1) := by decide +kernel
theorem dX9_onRack_0 : decode cX9_onRack 0 = .ok (.iload_n 1, 1) := by decide +kernel
theorem dX9_onRack_1 : decode cX9_onRack 1 = .ok (.invokestatic 130, 3) := by decide +kernel
theorem dX9_onRack_4 : decode cX9_onRack 4 = .ok (.iload_n 2, 1) := by decide +kernel
theorem dX9_onRack_5 : decode cX9_onRack 5 = .ok (.invokestatic 47, 3) := by decide +kernel
theorem dX9_onRack_8 : decode cX9_onRack 8 = .ok (.aload_n 0, 1) := by decide +kernel
theorem dX9_onRack_9 : decode cX9_onRack 9 = .ok (.getfield 18, 3) := by decide +kernel
theorem dX9_onRack_12 : decode cX9_onRack 12 = .ok (.iload_n 1, 1) := by decide +kernel
theorem dX9_onRack_13 : decode cX9_onRack 13 = .ok (.invokevirtual 149, 3) := by decide +kernel
theorem dX9_onRack_16 : decode cX9_onRack 16 = .ok (.iload_n 2, 1) := by decide +kernel
theorem dX9_onRack_17 : decode cX9_onRack 17 = .ok (.invokestatic 152, 3) := by decide +kernel
theorem dX9_onRack_20 : decode cX9_onRack 20 = .ok (.ireturn, 1) := by decide +kernel
theorem dX9_score_0 : decode cX9_score 0 = .ok (.iload_n 1, 1) := by decide +kernel
theorem dX9_score_1 : decode cX9_score 1 = .ok (.invokestatic 130, 3) := by decide +kernel
theorem dX9_score_4 : decode cX9_score 4 = .ok (.aload_n 0, 1) := by decide +kernel
theorem dX9_score_5 : decode cX9_score 5 = .ok (.getfield 18, 3) := by decide +kernel
theorem dX9_score_8 : decode cX9_score 8 = .ok (.iload_n 1, 1) := by decide +kernel
theorem dX9_score_9 : decode cX9_score 9 = .ok (.invokevirtual 155, 3) := by decide +kernel
theorem dX9_score_12 : decode cX9_score 12 = .ok (.ireturn, 1) := by decide +kernel
theorem dX9_crossSet_0 : decode cX9_crossSet 0 = .ok (.iload_n 1, 1) := by decide +kernel
theorem dX9_crossSet_1 : decode cX9_crossSet 1 = .ok (.iload_n 2, 1) := by decide +kernel
theorem dX9_crossSet_2 : decode cX9_crossSet 2 = .ok (.invokestatic 107, 3) := by decide +kernel
theorem dX9_crossSet_5 : decode cX9_crossSet 5 = .ok (.iload_n 3, 1) := by decide +kernel
theorem dX9_crossSet_6 : decode cX9_crossSet 6 = .ok (.invokestatic 158, 3) := by decide +kernel
theorem dX9_crossSet_9 : decode cX9_crossSet 9 = .ok (.aload_n 0, 1) := by decide +kernel
theorem dX9_crossSet_10 : decode cX9_crossSet 10 = .ok (.getfield 27, 3) := by decide +kernel
theorem dX9_crossSet_13 : decode cX9_crossSet 13 = .ok (.iload_n 3, 1) := by decide +kernel
theorem dX9_crossSet_14 : decode cX9_crossSet 14 = .ok (.iload_n 1, 1) := by decide +kernel
theorem dX9_crossSet_15 : decode cX9_crossSet 15 = .ok (.iload_n 2, 1) := by decide +kernel
theorem dX9_crossSet_16 : decode cX9_crossSet 16 = .ok (.invokestatic 161, 3) := by decide +kernel
theorem dX9_crossSet_19 : decode cX9_crossSet 19 = .ok (.invokevirtual 164, 3) := by decide +kernel
theorem dX9_crossSet_22 : decode cX9_crossSet 22 = .ok (.ireturn, 1) := by decide +kernel
theorem dX9_anchors_0 : decode cX9_anchors 0 = .ok (.aload_n 0, 1) := by decide +kernel
theorem dX9_anchors_1 : decode cX9_anchors 1 = .ok (.getfield 18, 3) := by decide +kernel
theorem dX9_anchors_4 : decode cX9_anchors 4 = .ok (.getfield 118, 3) := by decide +kernel
theorem dX9_anchors_7 : decode cX9_anchors 7 = .ok (.invokevirtual 167, 3) := by decide +kernel
theorem dX9_anchors_10 : decode cX9_anchors 10 = .ok (.invokestatic 171, 3) := by decide +kernel
theorem dX9_anchors_13 : decode cX9_anchors 13 = .ok (.ireturn, 1) := by decide +kernel
theorem dX9_isAnchor_0 : decode cX9_isAnchor 0 = .ok (.iload_n 1, 1) := by decide +kernel
theorem dX9_isAnchor_1 : decode cX9_isAnchor 1 = .ok (.iload_n 2, 1) := by decide +kernel
theorem dX9_isAnchor_2 : decode cX9_isAnchor 2 = .ok (.invokestatic 107, 3) := by decide +kernel
theorem dX9_isAnchor_5 : decode cX9_isAnchor 5 = .ok (.aload_n 0, 1) := by decide +kernel
theorem dX9_isAnchor_6 : decode cX9_isAnchor 6 = .ok (.getfield 18, 3) := by decide +kernel
theorem dX9_isAnchor_9 : decode cX9_isAnchor 9 = .ok (.getfield 118, 3) := by decide +kernel
theorem dX9_isAnchor_12 : decode cX9_isAnchor 12 = .ok (.invokevirtual 167, 3) := by decide +kernel
theorem dX9_isAnchor_15 : decode cX9_isAnchor 15 = .ok (.iload_n 1, 1) := by decide +kernel
theorem dX9_isAnchor_16 : decode cX9_isAnchor 16 = .ok (.iload_n 2, 1) := by decide +kernel
theorem dX9_isAnchor_17 : decode cX9_isAnchor 17 = .ok (.invokestatic 113, 3) := by decide +kernel
theorem dX9_isAnchor_20 : decode cX9_isAnchor 20 = .ok (.lushr, 1) := by decide +kernel
theorem dX9_isAnchor_21 : decode cX9_isAnchor 21 = .ok (.lconst 1, 1) := by decide +kernel
theorem dX9_isAnchor_22 : decode cX9_isAnchor 22 = .ok (.land, 1) := by decide +kernel
theorem dX9_isAnchor_23 : decode cX9_isAnchor 23 = .ok (.lconst 0, 1) := by decide +kernel
theorem dX9_isAnchor_24 : decode cX9_isAnchor 24 = .ok (.lcmp, 1) := by decide +kernel
theorem dX9_isAnchor_25 : decode cX9_isAnchor 25 = .ok (.ifCond .eq 7, 3) := by decide +kernel
theorem dX9_isAnchor_28 : decode cX9_isAnchor 28 = .ok (.iconst 1, 1) := by decide +kernel
theorem dX9_isAnchor_29 : decode cX9_isAnchor 29 = .ok (.goto 4, 3) := by decide +kernel
theorem dX9_isAnchor_32 : decode cX9_isAnchor 32 = .ok (.iconst 0, 1) := by decide +kernel
theorem dX9_isAnchor_33 : decode cX9_isAnchor 33 = .ok (.ireturn, 1) := by decide +kernel
theorem dX9_check_0 : decode cX9_check 0 = .ok (.iload_n 1, 1) := by decide +kernel
theorem dX9_check_1 : decode cX9_check 1 = .ok (.invokestatic 130, 3) := by decide +kernel
theorem dX9_check_4 : decode cX9_check 4 = .ok (.iload_n 3, 1) := by decide +kernel
theorem dX9_check_5 : decode cX9_check 5 = .ok (.iload 4, 2) := by decide +kernel
theorem dX9_check_7 : decode cX9_check 7 = .ok (.invokestatic 107, 3) := by decide +kernel
theorem dX9_check_10 : decode cX9_check 10 = .ok (.iload_n 2, 1) := by decide +kernel
theorem dX9_check_11 : decode cX9_check 11 = .ok (.invokestatic 158, 3) := by decide +kernel
theorem dX9_check_14 : decode cX9_check 14 = .ok (.aload_n 0, 1) := by decide +kernel
theorem dX9_check_15 : decode cX9_check 15 = .ok (.getfield 27, 3) := by decide +kernel
theorem dX9_check_18 : decode cX9_check 18 = .ok (.iload_n 1, 1) := by decide +kernel
theorem dX9_check_19 : decode cX9_check 19 = .ok (.iload_n 2, 1) := by decide +kernel
theorem dX9_check_20 : decode cX9_check 20 = .ok (.iload_n 3, 1) := by decide +kernel
theorem dX9_check_21 : decode cX9_check 21 = .ok (.iload 4, 2) := by decide +kernel
theorem dX9_check_23 : decode cX9_check 23 = .ok (.invokestatic 161, 3) := by decide +kernel
theorem dX9_check_26 : decode cX9_check 26 = .ok (.aload_n 0, 1) := by decide +kernel
theorem dX9_check_27 : decode cX9_check 27 = .ok (.invokevirtual 177, 3) := by decide +kernel
theorem dX9_check_30 : decode cX9_check 30 = .ok (.invokevirtual 180, 3) := by decide +kernel
theorem dX9_check_33 : decode cX9_check 33 = .ok (.ireturn, 1) := by decide +kernel
theorem dX9_play_0 : decode cX9_play 0 = .ok (.iload_n 1, 1) := by decide +kernel
theorem dX9_play_1 : decode cX9_play 1 = .ok (.invokestatic 130, 3) := by decide +kernel
theorem dX9_play_4 : decode cX9_play 4 = .ok (.iload_n 3, 1) := by decide +kernel
theorem dX9_play_5 : decode cX9_play 5 = .ok (.iload 4, 2) := by decide +kernel
theorem dX9_play_7 : decode cX9_play 7 = .ok (.invokestatic 107, 3) := by decide +kernel
theorem dX9_play_10 : decode cX9_play 10 = .ok (.iload_n 2, 1) := by decide +kernel
theorem dX9_play_11 : decode cX9_play 11 = .ok (.invokestatic 158, 3) := by decide +kernel
theorem dX9_play_14 : decode cX9_play 14 = .ok (.iload_n 2, 1) := by decide +kernel
theorem dX9_play_15 : decode cX9_play 15 = .ok (.iload_n 3, 1) := by decide +kernel
theorem dX9_play_16 : decode cX9_play 16 = .ok (.iload 4, 2) := by decide +kernel
theorem dX9_play_18 : decode cX9_play 18 = .ok (.invokestatic 161, 3) := by decide +kernel
theorem dX9_play_21 : decode cX9_play 21 = .ok (.istore 5, 2) := by decide +kernel
theorem dX9_play_23 : decode cX9_play 23 = .ok (.aload_n 0, 1) := by decide +kernel
theorem dX9_play_24 : decode cX9_play 24 = .ok (.invokevirtual 177, 3) := by decide +kernel
theorem dX9_play_27 : decode cX9_play 27 = .ok (.istore 6, 2) := by decide +kernel
theorem dX9_play_29 : decode cX9_play 29 = .ok (.aload_n 0, 1) := by decide +kernel
theorem dX9_play_30 : decode cX9_play 30 = .ok (.getfield 27, 3) := by decide +kernel
theorem dX9_play_33 : decode cX9_play 33 = .ok (.iload_n 1, 1) := by decide +kernel
theorem dX9_play_34 : decode cX9_play 34 = .ok (.iload 5, 2) := by decide +kernel
theorem dX9_play_36 : decode cX9_play 36 = .ok (.iload 6, 2) := by decide +kernel
theorem dX9_play_38 : decode cX9_play 38 = .ok (.invokevirtual 180, 3) := by decide +kernel
theorem dX9_play_41 : decode cX9_play 41 = .ok (.ifCond .eq 13, 3) := by decide +kernel
theorem dX9_play_44 : decode cX9_play 44 = .ok (.new 55, 3) := by decide +kernel
theorem dX9_play_47 : decode cX9_play 47 = .ok (.dup, 1) := by decide +kernel
theorem dX9_play_48 : decode cX9_play 48 = .ok (.ldc 183, 2) := by decide +kernel
theorem dX9_play_50 : decode cX9_play 50 = .ok (.invokespecial 59, 3) := by decide +kernel
theorem dX9_play_53 : decode cX9_play 53 = .ok (.athrow, 1) := by decide +kernel
theorem dX9_play_54 : decode cX9_play 54 = .ok (.aload_n 0, 1) := by decide +kernel
theorem dX9_play_55 : decode cX9_play 55 = .ok (.iconst 0, 1) := by decide +kernel
theorem dX9_play_56 : decode cX9_play 56 = .ok (.putfield 9, 3) := by decide +kernel
theorem dX9_play_59 : decode cX9_play 59 = .ok (.aload_n 0, 1) := by decide +kernel
theorem dX9_play_60 : decode cX9_play 60 = .ok (.iload_n 1, 1) := by decide +kernel
theorem dX9_play_61 : decode cX9_play 61 = .ok (.iload 5, 2) := by decide +kernel
theorem dX9_play_63 : decode cX9_play 63 = .ok (.iload 6, 2) := by decide +kernel
theorem dX9_play_65 : decode cX9_play 65 = .ok (.invokestatic 185, 3) := by decide +kernel
theorem dX9_play_68 : decode cX9_play 68 = .ok (.invokevirtual 188, 3) := by decide +kernel
theorem dX9_play_71 : decode cX9_play 71 = .ok (.ireturn, 1) := by decide +kernel
theorem dX9_plays_0 : decode cX9_plays 0 = .ok (.iload_n 1, 1) := by decide +kernel
theorem dX9_plays_1 : decode cX9_plays 1 = .ok (.invokestatic 130, 3) := by decide +kernel
theorem dX9_plays_4 : decode cX9_plays 4 = .ok (.aload_n 0, 1) := by decide +kernel
theorem dX9_plays_5 : decode cX9_plays 5 = .ok (.getfield 27, 3) := by decide +kernel
theorem dX9_plays_8 : decode cX9_plays 8 = .ok (.iload_n 1, 1) := by decide +kernel
theorem dX9_plays_9 : decode cX9_plays 9 = .ok (.invokevirtual 191, 3) := by decide +kernel
theorem dX9_plays_12 : decode cX9_plays 12 = .ok (.ireturn, 1) := by decide +kernel
theorem dX9_playAt_0 : decode cX9_playAt 0 = .ok (.iload_n 1, 1) := by decide +kernel
theorem dX9_playAt_1 : decode cX9_playAt 1 = .ok (.invokestatic 130, 3) := by decide +kernel
theorem dX9_playAt_4 : decode cX9_playAt 4 = .ok (.aload_n 0, 1) := by decide +kernel
theorem dX9_playAt_5 : decode cX9_playAt 5 = .ok (.getfield 27, 3) := by decide +kernel
theorem dX9_playAt_8 : decode cX9_playAt 8 = .ok (.iload_n 1, 1) := by decide +kernel
theorem dX9_playAt_9 : decode cX9_playAt 9 = .ok (.iload_n 2, 1) := by decide +kernel
theorem dX9_playAt_10 : decode cX9_playAt 10 = .ok (.invokevirtual 194, 3) := by decide +kernel
theorem dX9_playAt_13 : decode cX9_playAt 13 = .ok (.istore 4, 2) := by decide +kernel
theorem dX9_playAt_15 : decode cX9_playAt 15 = .ok (.iload 4, 2) := by decide +kernel
theorem dX9_playAt_17 : decode cX9_playAt 17 = .ok (.iconst (-1), 1) := by decide +kernel
theorem dX9_playAt_18 : decode cX9_playAt 18 = .ok (.if_icmp .ne 13, 3) := by decide +kernel
theorem dX9_playAt_21 : decode cX9_playAt 21 = .ok (.new 197, 3) := by decide +kernel
theorem dX9_playAt_24 : decode cX9_playAt 24 = .ok (.dup, 1) := by decide +kernel
theorem dX9_playAt_25 : decode cX9_playAt 25 = .ok (.ldc 199, 2) := by decide +kernel
theorem dX9_playAt_27 : decode cX9_playAt 27 = .ok (.invokespecial 201, 3) := by decide +kernel
theorem dX9_playAt_30 : decode cX9_playAt 30 = .ok (.athrow, 1) := by decide +kernel
theorem dX9_playAt_31 : decode cX9_playAt 31 = .ok (.iload_n 3, 1) := by decide +kernel
theorem dX9_playAt_32 : decode cX9_playAt 32 = .ok (.ifCond .lt 8, 3) := by decide +kernel
theorem dX9_playAt_35 : decode cX9_playAt 35 = .ok (.iload_n 3, 1) := by decide +kernel
theorem dX9_playAt_36 : decode cX9_playAt 36 = .ok (.iconst 5, 1) := by decide +kernel
theorem dX9_playAt_37 : decode cX9_playAt 37 = .ok (.if_icmp .le 13, 3) := by decide +kernel
theorem dX9_playAt_40 : decode cX9_playAt 40 = .ok (.new 93, 3) := by decide +kernel
theorem dX9_playAt_43 : decode cX9_playAt 43 = .ok (.dup, 1) := by decide +kernel
theorem dX9_playAt_44 : decode cX9_playAt 44 = .ok (.ldc 202, 2) := by decide +kernel
theorem dX9_playAt_46 : decode cX9_playAt 46 = .ok (.invokespecial 97, 3) := by decide +kernel
theorem dX9_playAt_49 : decode cX9_playAt 49 = .ok (.athrow, 1) := by decide +kernel
theorem dX9_playAt_50 : decode cX9_playAt 50 = .ok (.iload 4, 2) := by decide +kernel
theorem dX9_playAt_52 : decode cX9_playAt 52 = .ok (.invokestatic 204, 3) := by decide +kernel
theorem dX9_playAt_55 : decode cX9_playAt 55 = .ok (.istore 5, 2) := by decide +kernel
theorem dX9_playAt_57 : decode cX9_playAt 57 = .ok (.iload_n 3, 1) := by decide +kernel
theorem dX9_playAt_58 : decode cX9_playAt 58 = .ok (.tableswitch 68 0 4 #[34, 40, 46, 52, 58], 34) := by decide +kernel
theorem dX9_playAt_92 : decode cX9_playAt 92 = .ok (.iload 5, 2) := by decide +kernel
theorem dX9_playAt_94 : decode cX9_playAt 94 = .ok (.invokestatic 207, 3) := by decide +kernel
theorem dX9_playAt_97 : decode cX9_playAt 97 = .ok (.ireturn, 1) := by decide +kernel
theorem dX9_playAt_98 : decode cX9_playAt 98 = .ok (.iload 5, 2) := by decide +kernel
theorem dX9_playAt_100 : decode cX9_playAt 100 = .ok (.invokestatic 210, 3) := by decide +kernel
theorem dX9_playAt_103 : decode cX9_playAt 103 = .ok (.ireturn, 1) := by decide +kernel
theorem dX9_playAt_104 : decode cX9_playAt 104 = .ok (.iload 5, 2) := by decide +kernel
theorem dX9_playAt_106 : decode cX9_playAt 106 = .ok (.invokestatic 213, 3) := by decide +kernel
theorem dX9_playAt_109 : decode cX9_playAt 109 = .ok (.ireturn, 1) := by decide +kernel
theorem dX9_playAt_110 : decode cX9_playAt 110 = .ok (.iload 4, 2) := by decide +kernel
theorem dX9_playAt_112 : decode cX9_playAt 112 = .ok (.invokestatic 216, 3) := by decide +kernel
theorem dX9_playAt_115 : decode cX9_playAt 115 = .ok (.ireturn, 1) := by decide +kernel
theorem dX9_playAt_116 : decode cX9_playAt 116 = .ok (.aload_n 0, 1) := by decide +kernel
theorem dX9_playAt_117 : decode cX9_playAt 117 = .ok (.getfield 27, 3) := by decide +kernel
theorem dX9_playAt_120 : decode cX9_playAt 120 = .ok (.iload 4, 2) := by decide +kernel
theorem dX9_playAt_122 : decode cX9_playAt 122 = .ok (.invokevirtual 219, 3) := by decide +kernel
theorem dX9_playAt_125 : decode cX9_playAt 125 = .ok (.ireturn, 1) := by decide +kernel
theorem dX9_playAt_126 : decode cX9_playAt 126 = .ok (.aload_n 0, 1) := by decide +kernel
theorem dX9_playAt_127 : decode cX9_playAt 127 = .ok (.getfield 27, 3) := by decide +kernel
theorem dX9_playAt_130 : decode cX9_playAt 130 = .ok (.iload_n 1, 1) := by decide +kernel
theorem dX9_playAt_131 : decode cX9_playAt 131 = .ok (.iload 4, 2) := by decide +kernel
theorem dX9_playAt_133 : decode cX9_playAt 133 = .ok (.invokevirtual 222, 3) := by decide +kernel
theorem dX9_playAt_136 : decode cX9_playAt 136 = .ok (.ireturn, 1) := by decide +kernel
theorem dX9_bestPlay_0 : decode cX9_bestPlay 0 = .ok (.iload_n 1, 1) := by decide +kernel
theorem dX9_bestPlay_1 : decode cX9_bestPlay 1 = .ok (.invokestatic 130, 3) := by decide +kernel
theorem dX9_bestPlay_4 : decode cX9_bestPlay 4 = .ok (.aload_n 0, 1) := by decide +kernel
theorem dX9_bestPlay_5 : decode cX9_bestPlay 5 = .ok (.getfield 27, 3) := by decide +kernel
theorem dX9_bestPlay_8 : decode cX9_bestPlay 8 = .ok (.iload_n 1, 1) := by decide +kernel
theorem dX9_bestPlay_9 : decode cX9_bestPlay 9 = .ok (.invokevirtual 225, 3) := by decide +kernel
theorem dX9_bestPlay_12 : decode cX9_bestPlay 12 = .ok (.ireturn, 1) := by decide +kernel
theorem dX9_playBest_0 : decode cX9_playBest 0 = .ok (.iload_n 1, 1) := by decide +kernel
theorem dX9_playBest_1 : decode cX9_playBest 1 = .ok (.invokestatic 130, 3) := by decide +kernel
theorem dX9_playBest_4 : decode cX9_playBest 4 = .ok (.aload_n 0, 1) := by decide +kernel
theorem dX9_playBest_5 : decode cX9_playBest 5 = .ok (.getfield 27, 3) := by decide +kernel
theorem dX9_playBest_8 : decode cX9_playBest 8 = .ok (.iload_n 1, 1) := by decide +kernel
theorem dX9_playBest_9 : decode cX9_playBest 9 = .ok (.aload_n 0, 1) := by decide +kernel
theorem dX9_playBest_10 : decode cX9_playBest 10 = .ok (.getfield 27, 3) := by decide +kernel
theorem dX9_playBest_13 : decode cX9_playBest 13 = .ok (.iload_n 1, 1) := by decide +kernel
theorem dX9_playBest_14 : decode cX9_playBest 14 = .ok (.invokevirtual 225, 3) := by decide +kernel
theorem dX9_playBest_17 : decode cX9_playBest 17 = .ok (.invokevirtual 194, 3) := by decide +kernel
theorem dX9_playBest_20 : decode cX9_playBest 20 = .ok (.istore_n 2, 1) := by decide +kernel
theorem dX9_playBest_21 : decode cX9_playBest 21 = .ok (.iload_n 2, 1) := by decide +kernel
theorem dX9_playBest_22 : decode cX9_playBest 22 = .ok (.iconst (-1), 1) := by decide +kernel
theorem dX9_playBest_23 : decode cX9_playBest 23 = .ok (.if_icmp .ne 13, 3) := by decide +kernel
theorem dX9_playBest_26 : decode cX9_playBest 26 = .ok (.new 55, 3) := by decide +kernel
theorem dX9_playBest_29 : decode cX9_playBest 29 = .ok (.dup, 1) := by decide +kernel
theorem dX9_playBest_30 : decode cX9_playBest 30 = .ok (.ldc 228, 2) := by decide +kernel
theorem dX9_playBest_32 : decode cX9_playBest 32 = .ok (.invokespecial 59, 3) := by decide +kernel
theorem dX9_playBest_35 : decode cX9_playBest 35 = .ok (.athrow, 1) := by decide +kernel
theorem dX9_playBest_36 : decode cX9_playBest 36 = .ok (.aload_n 0, 1) := by decide +kernel
theorem dX9_playBest_37 : decode cX9_playBest 37 = .ok (.iload_n 1, 1) := by decide +kernel
theorem dX9_playBest_38 : decode cX9_playBest 38 = .ok (.iload_n 2, 1) := by decide +kernel
theorem dX9_playBest_39 : decode cX9_playBest 39 = .ok (.invokevirtual 188, 3) := by decide +kernel
theorem dX9_playBest_42 : decode cX9_playBest 42 = .ok (.ireturn, 1) := by decide +kernel
theorem dX9_endgame_0 : decode cX9_endgame 0 = .ok (.iload_n 1, 1) := by decide +kernel
theorem dX9_endgame_1 : decode cX9_endgame 1 = .ok (.invokestatic 130, 3) := by decide +kernel
theorem dX9_endgame_4 : decode cX9_endgame 4 = .ok (.aload_n 0, 1) := by decide +kernel
theorem dX9_endgame_5 : decode cX9_endgame 5 = .ok (.getfield 36, 3) := by decide +kernel
theorem dX9_endgame_8 : decode cX9_endgame 8 = .ok (.invokevirtual 230, 3) := by decide +kernel
theorem dX9_endgame_11 : decode cX9_endgame 11 = .ok (.aload_n 0, 1) := by decide +kernel
theorem dX9_endgame_12 : decode cX9_endgame 12 = .ok (.getfield 36, 3) := by decide +kernel
theorem dX9_endgame_15 : decode cX9_endgame 15 = .ok (.iload_n 1, 1) := by decide +kernel
theorem dX9_endgame_16 : decode cX9_endgame 16 = .ok (.iconst 0, 1) := by decide +kernel
theorem dX9_endgame_17 : decode cX9_endgame 17 = .ok (.iconst 0, 1) := by decide +kernel
theorem dX9_endgame_18 : decode cX9_endgame 18 = .ok (.invokevirtual 233, 3) := by decide +kernel
theorem dX9_endgame_21 : decode cX9_endgame 21 = .ok (.istore_n 2, 1) := by decide +kernel
theorem dX9_endgame_22 : decode cX9_endgame 22 = .ok (.aload_n 0, 1) := by decide +kernel
theorem dX9_endgame_23 : decode cX9_endgame 23 = .ok (.getfield 36, 3) := by decide +kernel
theorem dX9_endgame_26 : decode cX9_endgame 26 = .ok (.invokevirtual 236, 3) := by decide +kernel
theorem dX9_endgame_29 : decode cX9_endgame 29 = .ok (.ifCond .eq 13, 3) := by decide +kernel
theorem dX9_endgame_32 : decode cX9_endgame 32 = .ok (.new 55, 3) := by decide +kernel
theorem dX9_endgame_35 : decode cX9_endgame 35 = .ok (.dup, 1) := by decide +kernel
theorem dX9_endgame_36 : decode cX9_endgame 36 = .ok (.ldc 239, 2) := by decide +kernel
theorem dX9_endgame_38 : decode cX9_endgame 38 = .ok (.invokespecial 59, 3) := by decide +kernel
theorem dX9_endgame_41 : decode cX9_endgame 41 = .ok (.athrow, 1) := by decide +kernel
theorem dX9_endgame_42 : decode cX9_endgame 42 = .ok (.iload_n 2, 1) := by decide +kernel
theorem dX9_endgame_43 : decode cX9_endgame 43 = .ok (.ireturn, 1) := by decide +kernel
theorem dX9_undo_0 : decode cX9_undo 0 = .ok (.aload_n 0, 1) := by decide +kernel
theorem dX9_undo_1 : decode cX9_undo 1 = .ok (.getfield 43, 3) := by decide +kernel
theorem dX9_undo_4 : decode cX9_undo 4 = .ok (.invokevirtual 241, 3) := by decide +kernel
theorem dX9_undo_7 : decode cX9_undo 7 = .ok (.ifCond .ne 13, 3) := by decide +kernel
theorem dX9_undo_10 : decode cX9_undo 10 = .ok (.new 55, 3) := by decide +kernel
theorem dX9_undo_13 : decode cX9_undo 13 = .ok (.dup, 1) := by decide +kernel
theorem dX9_undo_14 : decode cX9_undo 14 = .ok (.ldc 242, 2) := by decide +kernel
theorem dX9_undo_16 : decode cX9_undo 16 = .ok (.invokespecial 59, 3) := by decide +kernel
theorem dX9_undo_19 : decode cX9_undo 19 = .ok (.athrow, 1) := by decide +kernel
theorem dX9_undo_20 : decode cX9_undo 20 = .ok (.aload_n 0, 1) := by decide +kernel
theorem dX9_undo_21 : decode cX9_undo 21 = .ok (.getfield 43, 3) := by decide +kernel
theorem dX9_undo_24 : decode cX9_undo 24 = .ok (.aload_n 0, 1) := by decide +kernel
theorem dX9_undo_25 : decode cX9_undo 25 = .ok (.getfield 18, 3) := by decide +kernel
theorem dX9_undo_28 : decode cX9_undo 28 = .ok (.invokevirtual 244, 3) := by decide +kernel
theorem dX9_undo_31 : decode cX9_undo 31 = .ok (.aload_n 0, 1) := by decide +kernel
theorem dX9_undo_32 : decode cX9_undo 32 = .ok (.getfield 43, 3) := by decide +kernel
theorem dX9_undo_35 : decode cX9_undo 35 = .ok (.invokevirtual 241, 3) := by decide +kernel
theorem dX9_undo_38 : decode cX9_undo 38 = .ok (.ireturn, 1) := by decide +kernel
theorem dX9_digest_0 : decode cX9_digest 0 = .ok (.ldc2_w 247, 3) := by decide +kernel
theorem dX9_digest_3 : decode cX9_digest 3 = .ok (.aload_n 0, 1) := by decide +kernel
theorem dX9_digest_4 : decode cX9_digest 4 = .ok (.getfield 9, 3) := by decide +kernel
theorem dX9_digest_7 : decode cX9_digest 7 = .ok (.invokestatic 249, 3) := by decide +kernel
theorem dX9_digest_10 : decode cX9_digest 10 = .ok (.lstore_n 1, 1) := by decide +kernel
theorem dX9_digest_11 : decode cX9_digest 11 = .ok (.iconst 0, 1) := by decide +kernel
theorem dX9_digest_12 : decode cX9_digest 12 = .ok (.istore_n 3, 1) := by decide +kernel
theorem dX9_digest_13 : decode cX9_digest 13 = .ok (.iload_n 3, 1) := by decide +kernel
theorem dX9_digest_14 : decode cX9_digest 14 = .ok (.bipush 8, 2) := by decide +kernel
theorem dX9_digest_16 : decode cX9_digest 16 = .ok (.if_icmp .ge 41, 3) := by decide +kernel
theorem dX9_digest_19 : decode cX9_digest 19 = .ok (.ldc2_w 253, 3) := by decide +kernel
theorem dX9_digest_22 : decode cX9_digest 22 = .ok (.lload_n 1, 1) := by decide +kernel
theorem dX9_digest_23 : decode cX9_digest 23 = .ok (.lmul, 1) := by decide +kernel
theorem dX9_digest_24 : decode cX9_digest 24 = .ok (.aload_n 0, 1) := by decide +kernel
theorem dX9_digest_25 : decode cX9_digest 25 = .ok (.getfield 18, 3) := by decide +kernel
theorem dX9_digest_28 : decode cX9_digest 28 = .ok (.iload_n 3, 1) := by decide +kernel
theorem dX9_digest_29 : decode cX9_digest 29 = .ok (.invokevirtual 100, 3) := by decide +kernel
theorem dX9_digest_32 : decode cX9_digest 32 = .ok (.i2l, 1) := by decide +kernel
theorem dX9_digest_33 : decode cX9_digest 33 = .ok (.ladd, 1) := by decide +kernel
theorem dX9_digest_34 : decode cX9_digest 34 = .ok (.lstore_n 1, 1) := by decide +kernel
theorem dX9_digest_35 : decode cX9_digest 35 = .ok (.ldc2_w 253, 3) := by decide +kernel
theorem dX9_digest_38 : decode cX9_digest 38 = .ok (.lload_n 1, 1) := by decide +kernel
theorem dX9_digest_39 : decode cX9_digest 39 = .ok (.lmul, 1) := by decide +kernel
theorem dX9_digest_40 : decode cX9_digest 40 = .ok (.aload_n 0, 1) := by decide +kernel
theorem dX9_digest_41 : decode cX9_digest 41 = .ok (.getfield 18, 3) := by decide +kernel
theorem dX9_digest_44 : decode cX9_digest 44 = .ok (.iload_n 3, 1) := by decide +kernel
theorem dX9_digest_45 : decode cX9_digest 45 = .ok (.invokevirtual 255, 3) := by decide +kernel
theorem dX9_digest_48 : decode cX9_digest 48 = .ok (.i2l, 1) := by decide +kernel
theorem dX9_digest_49 : decode cX9_digest 49 = .ok (.ladd, 1) := by decide +kernel
theorem dX9_digest_50 : decode cX9_digest 50 = .ok (.lstore_n 1, 1) := by decide +kernel
theorem dX9_digest_51 : decode cX9_digest 51 = .ok (.iinc 3 1, 3) := by decide +kernel
theorem dX9_digest_54 : decode cX9_digest 54 = .ok (.goto (-41), 3) := by decide +kernel
theorem dX9_digest_57 : decode cX9_digest 57 = .ok (.aload_n 0, 1) := by decide +kernel
theorem dX9_digest_58 : decode cX9_digest 58 = .ok (.lload_n 1, 1) := by decide +kernel
theorem dX9_digest_59 : decode cX9_digest 59 = .ok (.invokevirtual 258, 3) := by decide +kernel
theorem dX9_digest_62 : decode cX9_digest 62 = .ok (.lstore_n 1, 1) := by decide +kernel
theorem dX9_digest_63 : decode cX9_digest 63 = .ok (.iconst 0, 1) := by decide +kernel
theorem dX9_digest_64 : decode cX9_digest 64 = .ok (.istore_n 3, 1) := by decide +kernel
theorem dX9_digest_65 : decode cX9_digest 65 = .ok (.iload_n 3, 1) := by decide +kernel
theorem dX9_digest_66 : decode cX9_digest 66 = .ok (.bipush 7, 2) := by decide +kernel
theorem dX9_digest_68 : decode cX9_digest 68 = .ok (.if_icmp .ge 73, 3) := by decide +kernel
theorem dX9_digest_71 : decode cX9_digest 71 = .ok (.iconst 0, 1) := by decide +kernel
theorem dX9_digest_72 : decode cX9_digest 72 = .ok (.istore 4, 2) := by decide +kernel
theorem dX9_digest_74 : decode cX9_digest 74 = .ok (.iload 4, 2) := by decide +kernel
theorem dX9_digest_76 : decode cX9_digest 76 = .ok (.bipush 7, 2) := by decide +kernel
theorem dX9_digest_78 : decode cX9_digest 78 = .ok (.if_icmp .ge 57, 3) := by decide +kernel
theorem dX9_digest_81 : decode cX9_digest 81 = .ok (.iload_n 3, 1) := by decide +kernel
theorem dX9_digest_82 : decode cX9_digest 82 = .ok (.iload 4, 2) := by decide +kernel
theorem dX9_digest_84 : decode cX9_digest 84 = .ok (.invokestatic 113, 3) := by decide +kernel
theorem dX9_digest_87 : decode cX9_digest 87 = .ok (.istore 5, 2) := by decide +kernel
theorem dX9_digest_89 : decode cX9_digest 89 = .ok (.ldc2_w 253, 3) := by decide +kernel
theorem dX9_digest_92 : decode cX9_digest 92 = .ok (.lload_n 1, 1) := by decide +kernel
theorem dX9_digest_93 : decode cX9_digest 93 = .ok (.lmul, 1) := by decide +kernel
theorem dX9_digest_94 : decode cX9_digest 94 = .ok (.aload_n 0, 1) := by decide +kernel
theorem dX9_digest_95 : decode cX9_digest 95 = .ok (.getfield 18, 3) := by decide +kernel
theorem dX9_digest_98 : decode cX9_digest 98 = .ok (.getfield 118, 3) := by decide +kernel
theorem dX9_digest_101 : decode cX9_digest 101 = .ok (.iload 5, 2) := by decide +kernel
theorem dX9_digest_103 : decode cX9_digest 103 = .ok (.invokevirtual 143, 3) := by decide +kernel
theorem dX9_digest_106 : decode cX9_digest 106 = .ok (.i2l, 1) := by decide +kernel
theorem dX9_digest_107 : decode cX9_digest 107 = .ok (.ladd, 1) := by decide +kernel
theorem dX9_digest_108 : decode cX9_digest 108 = .ok (.lstore_n 1, 1) := by decide +kernel
theorem dX9_digest_109 : decode cX9_digest 109 = .ok (.ldc2_w 253, 3) := by decide +kernel
theorem dX9_digest_112 : decode cX9_digest 112 = .ok (.lload_n 1, 1) := by decide +kernel
theorem dX9_digest_113 : decode cX9_digest 113 = .ok (.lmul, 1) := by decide +kernel
theorem dX9_digest_114 : decode cX9_digest 114 = .ok (.aload_n 0, 1) := by decide +kernel
theorem dX9_digest_115 : decode cX9_digest 115 = .ok (.getfield 18, 3) := by decide +kernel
theorem dX9_digest_118 : decode cX9_digest 118 = .ok (.getfield 118, 3) := by decide +kernel
theorem dX9_digest_121 : decode cX9_digest 121 = .ok (.iload 5, 2) := by decide +kernel
theorem dX9_digest_123 : decode cX9_digest 123 = .ok (.invokevirtual 122, 3) := by decide +kernel
theorem dX9_digest_126 : decode cX9_digest 126 = .ok (.i2l, 1) := by decide +kernel
theorem dX9_digest_127 : decode cX9_digest 127 = .ok (.ladd, 1) := by decide +kernel
theorem dX9_digest_128 : decode cX9_digest 128 = .ok (.lstore_n 1, 1) := by decide +kernel
theorem dX9_digest_129 : decode cX9_digest 129 = .ok (.iinc 4 1, 3) := by decide +kernel
theorem dX9_digest_132 : decode cX9_digest 132 = .ok (.goto (-58), 3) := by decide +kernel
theorem dX9_digest_135 : decode cX9_digest 135 = .ok (.iinc 3 1, 3) := by decide +kernel
theorem dX9_digest_138 : decode cX9_digest 138 = .ok (.goto (-73), 3) := by decide +kernel
theorem dX9_digest_141 : decode cX9_digest 141 = .ok (.iconst 0, 1) := by decide +kernel
theorem dX9_digest_142 : decode cX9_digest 142 = .ok (.istore_n 3, 1) := by decide +kernel
theorem dX9_digest_143 : decode cX9_digest 143 = .ok (.iload_n 3, 1) := by decide +kernel
theorem dX9_digest_144 : decode cX9_digest 144 = .ok (.iconst 2, 1) := by decide +kernel
theorem dX9_digest_145 : decode cX9_digest 145 = .ok (.if_icmp .ge 54, 3) := by decide +kernel
theorem dX9_digest_148 : decode cX9_digest 148 = .ok (.lload_n 1, 1) := by decide +kernel
theorem dX9_digest_149 : decode cX9_digest 149 = .ok (.aload_n 0, 1) := by decide +kernel
theorem dX9_digest_150 : decode cX9_digest 150 = .ok (.getfield 18, 3) := by decide +kernel
theorem dX9_digest_153 : decode cX9_digest 153 = .ok (.iload_n 3, 1) := by decide +kernel
theorem dX9_digest_154 : decode cX9_digest 154 = .ok (.invokevirtual 149, 3) := by decide +kernel
theorem dX9_digest_157 : decode cX9_digest 157 = .ok (.invokestatic 262, 3) := by decide +kernel
theorem dX9_digest_160 : decode cX9_digest 160 = .ok (.lstore_n 1, 1) := by decide +kernel
theorem dX9_digest_161 : decode cX9_digest 161 = .ok (.ldc2_w 253, 3) := by decide +kernel
theorem dX9_digest_164 : decode cX9_digest 164 = .ok (.lload_n 1, 1) := by decide +kernel
theorem dX9_digest_165 : decode cX9_digest 165 = .ok (.lmul, 1) := by decide +kernel
theorem dX9_digest_166 : decode cX9_digest 166 = .ok (.aload_n 0, 1) := by decide +kernel
theorem dX9_digest_167 : decode cX9_digest 167 = .ok (.getfield 18, 3) := by decide +kernel
theorem dX9_digest_170 : decode cX9_digest 170 = .ok (.iload_n 3, 1) := by decide +kernel
theorem dX9_digest_171 : decode cX9_digest 171 = .ok (.invokevirtual 155, 3) := by decide +kernel
theorem dX9_digest_174 : decode cX9_digest 174 = .ok (.i2l, 1) := by decide +kernel
theorem dX9_digest_175 : decode cX9_digest 175 = .ok (.ladd, 1) := by decide +kernel
theorem dX9_digest_176 : decode cX9_digest 176 = .ok (.lstore_n 1, 1) := by decide +kernel
theorem dX9_digest_177 : decode cX9_digest 177 = .ok (.ldc2_w 253, 3) := by decide +kernel
theorem dX9_digest_180 : decode cX9_digest 180 = .ok (.lload_n 1, 1) := by decide +kernel
theorem dX9_digest_181 : decode cX9_digest 181 = .ok (.lmul, 1) := by decide +kernel
theorem dX9_digest_182 : decode cX9_digest 182 = .ok (.aload_n 0, 1) := by decide +kernel
theorem dX9_digest_183 : decode cX9_digest 183 = .ok (.getfield 27, 3) := by decide +kernel
theorem dX9_digest_186 : decode cX9_digest 186 = .ok (.iload_n 3, 1) := by decide +kernel
theorem dX9_digest_187 : decode cX9_digest 187 = .ok (.invokevirtual 191, 3) := by decide +kernel
theorem dX9_digest_190 : decode cX9_digest 190 = .ok (.i2l, 1) := by decide +kernel
theorem dX9_digest_191 : decode cX9_digest 191 = .ok (.ladd, 1) := by decide +kernel
theorem dX9_digest_192 : decode cX9_digest 192 = .ok (.lstore_n 1, 1) := by decide +kernel
theorem dX9_digest_193 : decode cX9_digest 193 = .ok (.iinc 3 1, 3) := by decide +kernel
theorem dX9_digest_196 : decode cX9_digest 196 = .ok (.goto (-53), 3) := by decide +kernel
theorem dX9_digest_199 : decode cX9_digest 199 = .ok (.ldc2_w 253, 3) := by decide +kernel
theorem dX9_digest_202 : decode cX9_digest 202 = .ok (.lload_n 1, 1) := by decide +kernel
theorem dX9_digest_203 : decode cX9_digest 203 = .ok (.lmul, 1) := by decide +kernel
theorem dX9_digest_204 : decode cX9_digest 204 = .ok (.aload_n 0, 1) := by decide +kernel
theorem dX9_digest_205 : decode cX9_digest 205 = .ok (.invokevirtual 265, 3) := by decide +kernel
theorem dX9_digest_208 : decode cX9_digest 208 = .ok (.i2l, 1) := by decide +kernel
theorem dX9_digest_209 : decode cX9_digest 209 = .ok (.ladd, 1) := by decide +kernel
theorem dX9_digest_210 : decode cX9_digest 210 = .ok (.lstore_n 1, 1) := by decide +kernel
theorem dX9_digest_211 : decode cX9_digest 211 = .ok (.ldc2_w 253, 3) := by decide +kernel
theorem dX9_digest_214 : decode cX9_digest 214 = .ok (.lload_n 1, 1) := by decide +kernel
theorem dX9_digest_215 : decode cX9_digest 215 = .ok (.lmul, 1) := by decide +kernel
theorem dX9_digest_216 : decode cX9_digest 216 = .ok (.aload_n 0, 1) := by decide +kernel
theorem dX9_digest_217 : decode cX9_digest 217 = .ok (.getfield 43, 3) := by decide +kernel
theorem dX9_digest_220 : decode cX9_digest 220 = .ok (.invokevirtual 241, 3) := by decide +kernel
theorem dX9_digest_223 : decode cX9_digest 223 = .ok (.i2l, 1) := by decide +kernel
theorem dX9_digest_224 : decode cX9_digest 224 = .ok (.ladd, 1) := by decide +kernel
theorem dX9_digest_225 : decode cX9_digest 225 = .ok (.lreturn, 1) := by decide +kernel
theorem dX9_hashWord_0 : decode cX9_hashWord 0 = .ok (.iload_n 2, 1) := by decide +kernel
theorem dX9_hashWord_1 : decode cX9_hashWord 1 = .ok (.invokestatic 51, 3) := by decide +kernel
theorem dX9_hashWord_4 : decode cX9_hashWord 4 = .ok (.istore_n 3, 1) := by decide +kernel
theorem dX9_hashWord_5 : decode cX9_hashWord 5 = .ok (.ldc2_w 253, 3) := by decide +kernel
theorem dX9_hashWord_8 : decode cX9_hashWord 8 = .ok (.lload_n 0, 1) := by decide +kernel
theorem dX9_hashWord_9 : decode cX9_hashWord 9 = .ok (.lmul, 1) := by decide +kernel
theorem dX9_hashWord_10 : decode cX9_hashWord 10 = .ok (.iload_n 3, 1) := by decide +kernel
theorem dX9_hashWord_11 : decode cX9_hashWord 11 = .ok (.i2l, 1) := by decide +kernel
theorem dX9_hashWord_12 : decode cX9_hashWord 12 = .ok (.ladd, 1) := by decide +kernel
theorem dX9_hashWord_13 : decode cX9_hashWord 13 = .ok (.lstore 4, 2) := by decide +kernel
theorem dX9_hashWord_15 : decode cX9_hashWord 15 = .ok (.iconst 0, 1) := by decide +kernel
theorem dX9_hashWord_16 : decode cX9_hashWord 16 = .ok (.istore 6, 2) := by decide +kernel
theorem dX9_hashWord_18 : decode cX9_hashWord 18 = .ok (.iload 6, 2) := by decide +kernel
theorem dX9_hashWord_20 : decode cX9_hashWord 20 = .ok (.iload_n 3, 1) := by decide +kernel
theorem dX9_hashWord_21 : decode cX9_hashWord 21 = .ok (.if_icmp .ge 25, 3) := by decide +kernel
theorem dX9_hashWord_24 : decode cX9_hashWord 24 = .ok (.ldc2_w 253, 3) := by decide +kernel
theorem dX9_hashWord_27 : decode cX9_hashWord 27 = .ok (.lload 4, 2) := by decide +kernel
theorem dX9_hashWord_29 : decode cX9_hashWord 29 = .ok (.lmul, 1) := by decide +kernel
theorem dX9_hashWord_30 : decode cX9_hashWord 30 = .ok (.iload_n 2, 1) := by decide +kernel
theorem dX9_hashWord_31 : decode cX9_hashWord 31 = .ok (.iload 6, 2) := by decide +kernel
theorem dX9_hashWord_33 : decode cX9_hashWord 33 = .ok (.invokestatic 268, 3) := by decide +kernel
theorem dX9_hashWord_36 : decode cX9_hashWord 36 = .ok (.i2l, 1) := by decide +kernel
theorem dX9_hashWord_37 : decode cX9_hashWord 37 = .ok (.ladd, 1) := by decide +kernel
theorem dX9_hashWord_38 : decode cX9_hashWord 38 = .ok (.lstore 4, 2) := by decide +kernel
theorem dX9_hashWord_40 : decode cX9_hashWord 40 = .ok (.iinc 6 1, 3) := by decide +kernel
theorem dX9_hashWord_43 : decode cX9_hashWord 43 = .ok (.goto (-25), 3) := by decide +kernel
theorem dX9_hashWord_46 : decode cX9_hashWord 46 = .ok (.lload 4, 2) := by decide +kernel
theorem dX9_hashWord_48 : decode cX9_hashWord 48 = .ok (.lreturn, 1) := by decide +kernel
theorem dX9_hashDictionary_0 : decode cX9_hashDictionary 0 = .ok (.aload_n 0, 1) := by decide +kernel
theorem dX9_hashDictionary_1 : decode cX9_hashDictionary 1 = .ok (.getfield 18, 3) := by decide +kernel
theorem dX9_hashDictionary_4 : decode cX9_hashDictionary 4 = .ok (.getfield 68, 3) := by decide +kernel
theorem dX9_hashDictionary_7 : decode cX9_hashDictionary 7 = .ok (.invokevirtual 86, 3) := by decide +kernel
theorem dX9_hashDictionary_10 : decode cX9_hashDictionary 10 = .ok (.istore_n 3, 1) := by decide +kernel
theorem dX9_hashDictionary_11 : decode cX9_hashDictionary 11 = .ok (.ldc2_w 253, 3) := by decide +kernel
theorem dX9_hashDictionary_14 : decode cX9_hashDictionary 14 = .ok (.lload_n 1, 1) := by decide +kernel
theorem dX9_hashDictionary_15 : decode cX9_hashDictionary 15 = .ok (.lmul, 1) := by decide +kernel
theorem dX9_hashDictionary_16 : decode cX9_hashDictionary 16 = .ok (.iload_n 3, 1) := by decide +kernel
theorem dX9_hashDictionary_17 : decode cX9_hashDictionary 17 = .ok (.i2l, 1) := by decide +kernel
theorem dX9_hashDictionary_18 : decode cX9_hashDictionary 18 = .ok (.ladd, 1) := by decide +kernel
theorem dX9_hashDictionary_19 : decode cX9_hashDictionary 19 = .ok (.lstore 4, 2) := by decide +kernel
theorem dX9_hashDictionary_21 : decode cX9_hashDictionary 21 = .ok (.iconst 0, 1) := by decide +kernel
theorem dX9_hashDictionary_22 : decode cX9_hashDictionary 22 = .ok (.istore 6, 2) := by decide +kernel
theorem dX9_hashDictionary_24 : decode cX9_hashDictionary 24 = .ok (.iload 6, 2) := by decide +kernel
theorem dX9_hashDictionary_26 : decode cX9_hashDictionary 26 = .ok (.iload_n 3, 1) := by decide +kernel
theorem dX9_hashDictionary_27 : decode cX9_hashDictionary 27 = .ok (.if_icmp .ge 28, 3) := by decide +kernel
theorem dX9_hashDictionary_30 : decode cX9_hashDictionary 30 = .ok (.lload 4, 2) := by decide +kernel
theorem dX9_hashDictionary_32 : decode cX9_hashDictionary 32 = .ok (.aload_n 0, 1) := by decide +kernel
theorem dX9_hashDictionary_33 : decode cX9_hashDictionary 33 = .ok (.getfield 18, 3) := by decide +kernel
theorem dX9_hashDictionary_36 : decode cX9_hashDictionary 36 = .ok (.getfield 68, 3) := by decide +kernel
theorem dX9_hashDictionary_39 : decode cX9_hashDictionary 39 = .ok (.iload 6, 2) := by decide +kernel
theorem dX9_hashDictionary_41 : decode cX9_hashDictionary 41 = .ok (.invokevirtual 270, 3) := by decide +kernel
theorem dX9_hashDictionary_44 : decode cX9_hashDictionary 44 = .ok (.invokestatic 249, 3) := by decide +kernel
theorem dX9_hashDictionary_47 : decode cX9_hashDictionary 47 = .ok (.lstore 4, 2) := by decide +kernel
theorem dX9_hashDictionary_49 : decode cX9_hashDictionary 49 = .ok (.iinc 6 1, 3) := by decide +kernel
theorem dX9_hashDictionary_52 : decode cX9_hashDictionary 52 = .ok (.goto (-28), 3) := by decide +kernel
theorem dX9_hashDictionary_55 : decode cX9_hashDictionary 55 = .ok (.lload 4, 2) := by decide +kernel
theorem dX9_hashDictionary_57 : decode cX9_hashDictionary 57 = .ok (.lreturn, 1) := by decide +kernel
theorem dX9_hashRack_0 : decode cX9_hashRack 0 = .ok (.lload_n 0, 1) := by decide +kernel
theorem dX9_hashRack_1 : decode cX9_hashRack 1 = .ok (.lstore_n 3, 1) := by decide +kernel
theorem dX9_hashRack_2 : decode cX9_hashRack 2 = .ok (.iconst 0, 1) := by decide +kernel
theorem dX9_hashRack_3 : decode cX9_hashRack 3 = .ok (.istore 5, 2) := by decide +kernel
theorem dX9_hashRack_5 : decode cX9_hashRack 5 = .ok (.iload 5, 2) := by decide +kernel
theorem dX9_hashRack_7 : decode cX9_hashRack 7 = .ok (.bipush 8, 2) := by decide +kernel
theorem dX9_hashRack_9 : decode cX9_hashRack 9 = .ok (.if_icmp .ge 23, 3) := by decide +kernel
theorem dX9_hashRack_12 : decode cX9_hashRack 12 = .ok (.ldc2_w 253, 3) := by decide +kernel
theorem dX9_hashRack_15 : decode cX9_hashRack 15 = .ok (.lload_n 3, 1) := by decide +kernel
theorem dX9_hashRack_16 : decode cX9_hashRack 16 = .ok (.lmul, 1) := by decide +kernel
theorem dX9_hashRack_17 : decode cX9_hashRack 17 = .ok (.iload_n 2, 1) := by decide +kernel
theorem dX9_hashRack_18 : decode cX9_hashRack 18 = .ok (.iload 5, 2) := by decide +kernel
theorem dX9_hashRack_20 : decode cX9_hashRack 20 = .ok (.invokestatic 152, 3) := by decide +kernel
theorem dX9_hashRack_23 : decode cX9_hashRack 23 = .ok (.i2l, 1) := by decide +kernel
theorem dX9_hashRack_24 : decode cX9_hashRack 24 = .ok (.ladd, 1) := by decide +kernel
theorem dX9_hashRack_25 : decode cX9_hashRack 25 = .ok (.lstore_n 3, 1) := by decide +kernel
theorem dX9_hashRack_26 : decode cX9_hashRack 26 = .ok (.iinc 5 1, 3) := by decide +kernel
theorem dX9_hashRack_29 : decode cX9_hashRack 29 = .ok (.goto (-24), 3) := by decide +kernel
theorem dX9_hashRack_32 : decode cX9_hashRack 32 = .ok (.lload_n 3, 1) := by decide +kernel
theorem dX9_hashRack_33 : decode cX9_hashRack 33 = .ok (.lreturn, 1) := by decide +kernel
theorem dX9_makePlay_0 : decode cX9_makePlay 0 = .ok (.aload_n 0, 1) := by decide +kernel
theorem dX9_makePlay_1 : decode cX9_makePlay 1 = .ok (.getfield 43, 3) := by decide +kernel
theorem dX9_makePlay_4 : decode cX9_makePlay 4 = .ok (.aload_n 0, 1) := by decide +kernel
theorem dX9_makePlay_5 : decode cX9_makePlay 5 = .ok (.getfield 18, 3) := by decide +kernel
theorem dX9_makePlay_8 : decode cX9_makePlay 8 = .ok (.invokevirtual 80, 3) := by decide +kernel
theorem dX9_makePlay_11 : decode cX9_makePlay 11 = .ok (.aload_n 0, 1) := by decide +kernel
theorem dX9_makePlay_12 : decode cX9_makePlay 12 = .ok (.getfield 27, 3) := by decide +kernel
theorem dX9_makePlay_15 : decode cX9_makePlay 15 = .ok (.iload_n 2, 1) := by decide +kernel
theorem dX9_makePlay_16 : decode cX9_makePlay 16 = .ok (.invokevirtual 219, 3) := by decide +kernel
theorem dX9_makePlay_19 : decode cX9_makePlay 19 = .ok (.istore_n 3, 1) := by decide +kernel
theorem dX9_makePlay_20 : decode cX9_makePlay 20 = .ok (.aload_n 0, 1) := by decide +kernel
theorem dX9_makePlay_21 : decode cX9_makePlay 21 = .ok (.getfield 27, 3) := by decide +kernel
theorem dX9_makePlay_24 : decode cX9_makePlay 24 = .ok (.iload_n 1, 1) := by decide +kernel
theorem dX9_makePlay_25 : decode cX9_makePlay 25 = .ok (.iload_n 2, 1) := by decide +kernel
theorem dX9_makePlay_26 : decode cX9_makePlay 26 = .ok (.invokevirtual 273, 3) := by decide +kernel
theorem dX9_makePlay_29 : decode cX9_makePlay 29 = .ok (.pop2, 1) := by decide +kernel
theorem dX9_makePlay_30 : decode cX9_makePlay 30 = .ok (.aload_n 0, 1) := by decide +kernel
theorem dX9_makePlay_31 : decode cX9_makePlay 31 = .ok (.getfield 18, 3) := by decide +kernel
theorem dX9_makePlay_34 : decode cX9_makePlay 34 = .ok (.iload_n 1, 1) := by decide +kernel
theorem dX9_makePlay_35 : decode cX9_makePlay 35 = .ok (.iload_n 3, 1) := by decide +kernel
theorem dX9_makePlay_36 : decode cX9_makePlay 36 = .ok (.invokevirtual 277, 3) := by decide +kernel
theorem dX9_makePlay_39 : decode cX9_makePlay 39 = .ok (.iload_n 3, 1) := by decide +kernel
theorem dX9_makePlay_40 : decode cX9_makePlay 40 = .ok (.ireturn, 1) := by decide +kernel
theorem dX9_isLetter_0 : decode cX9_isLetter 0 = .ok (.iload_n 0, 1) := by decide +kernel
theorem dX9_isLetter_1 : decode cX9_isLetter 1 = .ok (.ifCond .lt 13, 3) := by decide +kernel
theorem dX9_isLetter_4 : decode cX9_isLetter 4 = .ok (.iload_n 0, 1) := by decide +kernel
theorem dX9_isLetter_5 : decode cX9_isLetter 5 = .ok (.bipush 8, 2) := by decide +kernel
theorem dX9_isLetter_7 : decode cX9_isLetter 7 = .ok (.if_icmp .ge 7, 3) := by decide +kernel
theorem dX9_isLetter_10 : decode cX9_isLetter 10 = .ok (.iconst 1, 1) := by decide +kernel
theorem dX9_isLetter_11 : decode cX9_isLetter 11 = .ok (.goto 4, 3) := by decide +kernel
theorem dX9_isLetter_14 : decode cX9_isLetter 14 = .ok (.iconst 0, 1) := by decide +kernel
theorem dX9_isLetter_15 : decode cX9_isLetter 15 = .ok (.ireturn, 1) := by decide +kernel
theorem dX9_isPlayer_0 : decode cX9_isPlayer 0 = .ok (.iload_n 0, 1) := by decide +kernel
theorem dX9_isPlayer_1 : decode cX9_isPlayer 1 = .ok (.ifCond .lt 12, 3) := by decide +kernel
theorem dX9_isPlayer_4 : decode cX9_isPlayer 4 = .ok (.iload_n 0, 1) := by decide +kernel
theorem dX9_isPlayer_5 : decode cX9_isPlayer 5 = .ok (.iconst 2, 1) := by decide +kernel
theorem dX9_isPlayer_6 : decode cX9_isPlayer 6 = .ok (.if_icmp .ge 7, 3) := by decide +kernel
theorem dX9_isPlayer_9 : decode cX9_isPlayer 9 = .ok (.iconst 1, 1) := by decide +kernel
theorem dX9_isPlayer_10 : decode cX9_isPlayer 10 = .ok (.goto 4, 3) := by decide +kernel
theorem dX9_isPlayer_13 : decode cX9_isPlayer 13 = .ok (.iconst 0, 1) := by decide +kernel
theorem dX9_isPlayer_14 : decode cX9_isPlayer 14 = .ok (.ireturn, 1) := by decide +kernel
theorem dX9_requireLetter_0 : decode cX9_requireLetter 0 = .ok (.iload_n 0, 1) := by decide +kernel
theorem dX9_requireLetter_1 : decode cX9_requireLetter 1 = .ok (.invokestatic 280, 3) := by decide +kernel
theorem dX9_requireLetter_4 : decode cX9_requireLetter 4 = .ok (.ifCond .ne 14, 3) := by decide +kernel
theorem dX9_requireLetter_7 : decode cX9_requireLetter 7 = .ok (.new 93, 3) := by decide +kernel
theorem dX9_requireLetter_10 : decode cX9_requireLetter 10 = .ok (.dup, 1) := by decide +kernel
theorem dX9_requireLetter_11 : decode cX9_requireLetter 11 = .ok (.ldc_w 284, 3) := by decide +kernel
theorem dX9_requireLetter_14 : decode cX9_requireLetter 14 = .ok (.invokespecial 97, 3) := by decide +kernel
theorem dX9_requireLetter_17 : decode cX9_requireLetter 17 = .ok (.athrow, 1) := by decide +kernel
theorem dX9_requireLetter_18 : decode cX9_requireLetter 18 = .ok (.return_, 1) := by decide +kernel
theorem dX9_requirePlayer_0 : decode cX9_requirePlayer 0 = .ok (.iload_n 0, 1) := by decide +kernel
theorem dX9_requirePlayer_1 : decode cX9_requirePlayer 1 = .ok (.invokestatic 286, 3) := by decide +kernel
theorem dX9_requirePlayer_4 : decode cX9_requirePlayer 4 = .ok (.ifCond .ne 14, 3) := by decide +kernel
theorem dX9_requirePlayer_7 : decode cX9_requirePlayer 7 = .ok (.new 197, 3) := by decide +kernel
theorem dX9_requirePlayer_10 : decode cX9_requirePlayer 10 = .ok (.dup, 1) := by decide +kernel
theorem dX9_requirePlayer_11 : decode cX9_requirePlayer 11 = .ok (.ldc_w 289, 3) := by decide +kernel
theorem dX9_requirePlayer_14 : decode cX9_requirePlayer 14 = .ok (.invokespecial 201, 3) := by decide +kernel
theorem dX9_requirePlayer_17 : decode cX9_requirePlayer 17 = .ok (.athrow, 1) := by decide +kernel
theorem dX9_requirePlayer_18 : decode cX9_requirePlayer 18 = .ok (.return_, 1) := by decide +kernel
theorem dX9_requireSquare_0 : decode cX9_requireSquare 0 = .ok (.iload_n 0, 1) := by decide +kernel
theorem dX9_requireSquare_1 : decode cX9_requireSquare 1 = .ok (.ifCond .lt 19, 3) := by decide +kernel
theorem dX9_requireSquare_4 : decode cX9_requireSquare 4 = .ok (.iload_n 0, 1) := by decide +kernel
theorem dX9_requireSquare_5 : decode cX9_requireSquare 5 = .ok (.bipush 7, 2) := by decide +kernel
theorem dX9_requireSquare_7 : decode cX9_requireSquare 7 = .ok (.if_icmp .ge 13, 3) := by decide +kernel
theorem dX9_requireSquare_10 : decode cX9_requireSquare 10 = .ok (.iload_n 1, 1) := by decide +kernel
theorem dX9_requireSquare_11 : decode cX9_requireSquare 11 = .ok (.ifCond .lt 9, 3) := by decide +kernel
theorem dX9_requireSquare_14 : decode cX9_requireSquare 14 = .ok (.iload_n 1, 1) := by decide +kernel
theorem dX9_requireSquare_15 : decode cX9_requireSquare 15 = .ok (.bipush 7, 2) := by decide +kernel
theorem dX9_requireSquare_17 : decode cX9_requireSquare 17 = .ok (.if_icmp .lt 14, 3) := by decide +kernel
theorem dX9_requireSquare_20 : decode cX9_requireSquare 20 = .ok (.new 197, 3) := by decide +kernel
theorem dX9_requireSquare_23 : decode cX9_requireSquare 23 = .ok (.dup, 1) := by decide +kernel
theorem dX9_requireSquare_24 : decode cX9_requireSquare 24 = .ok (.ldc_w 291, 3) := by decide +kernel
theorem dX9_requireSquare_27 : decode cX9_requireSquare 27 = .ok (.invokespecial 201, 3) := by decide +kernel
theorem dX9_requireSquare_30 : decode cX9_requireSquare 30 = .ok (.athrow, 1) := by decide +kernel
theorem dX9_requireSquare_31 : decode cX9_requireSquare 31 = .ok (.return_, 1) := by decide +kernel
theorem dX9_requireDirection_0 : decode cX9_requireDirection 0 = .ok (.iload_n 0, 1) := by decide +kernel
theorem dX9_requireDirection_1 : decode cX9_requireDirection 1 = .ok (.ifCond .eq 19, 3) := by decide +kernel
theorem dX9_requireDirection_4 : decode cX9_requireDirection 4 = .ok (.iload_n 0, 1) := by decide +kernel
theorem dX9_requireDirection_5 : decode cX9_requireDirection 5 = .ok (.iconst 1, 1) := by decide +kernel
theorem dX9_requireDirection_6 : decode cX9_requireDirection 6 = .ok (.if_icmp .eq 14, 3) := by decide +kernel
theorem dX9_requireDirection_9 : decode cX9_requireDirection 9 = .ok (.new 93, 3) := by decide +kernel
theorem dX9_requireDirection_12 : decode cX9_requireDirection 12 = .ok (.dup, 1) := by decide +kernel
theorem dX9_requireDirection_13 : decode cX9_requireDirection 13 = .ok (.ldc_w 293, 3) := by decide +kernel
theorem dX9_requireDirection_16 : decode cX9_requireDirection 16 = .ok (.invokespecial 97, 3) := by decide +kernel
theorem dX9_requireDirection_19 : decode cX9_requireDirection 19 = .ok (.athrow, 1) := by decide +kernel
theorem dX9_requireDirection_20 : decode cX9_requireDirection 20 = .ok (.return_, 1) := by decide +kernel
theorem dJ13_bitCount_95d88_0 : decode cJ13_bitCount_95d88 0 = .ok (.lload_n 0, 1) := by decide +kernel
theorem dJ13_bitCount_95d88_1 : decode cJ13_bitCount_95d88 1 = .ok (.lload_n 0, 1) := by decide +kernel
theorem dJ13_bitCount_95d88_2 : decode cJ13_bitCount_95d88 2 = .ok (.iconst 1, 1) := by decide +kernel
theorem dJ13_bitCount_95d88_3 : decode cJ13_bitCount_95d88 3 = .ok (.lushr, 1) := by decide +kernel
theorem dJ13_bitCount_95d88_4 : decode cJ13_bitCount_95d88 4 = .ok (.ldc2_w 314, 3) := by decide +kernel
theorem dJ13_bitCount_95d88_7 : decode cJ13_bitCount_95d88 7 = .ok (.land, 1) := by decide +kernel
theorem dJ13_bitCount_95d88_8 : decode cJ13_bitCount_95d88 8 = .ok (.lsub, 1) := by decide +kernel
theorem dJ13_bitCount_95d88_9 : decode cJ13_bitCount_95d88 9 = .ok (.lstore_n 0, 1) := by decide +kernel
theorem dJ13_bitCount_95d88_10 : decode cJ13_bitCount_95d88 10 = .ok (.lload_n 0, 1) := by decide +kernel
theorem dJ13_bitCount_95d88_11 : decode cJ13_bitCount_95d88 11 = .ok (.ldc2_w 316, 3) := by decide +kernel
theorem dJ13_bitCount_95d88_14 : decode cJ13_bitCount_95d88 14 = .ok (.land, 1) := by decide +kernel
theorem dJ13_bitCount_95d88_15 : decode cJ13_bitCount_95d88 15 = .ok (.lload_n 0, 1) := by decide +kernel
theorem dJ13_bitCount_95d88_16 : decode cJ13_bitCount_95d88 16 = .ok (.iconst 2, 1) := by decide +kernel
theorem dJ13_bitCount_95d88_17 : decode cJ13_bitCount_95d88 17 = .ok (.lushr, 1) := by decide +kernel
theorem dJ13_bitCount_95d88_18 : decode cJ13_bitCount_95d88 18 = .ok (.ldc2_w 316, 3) := by decide +kernel
theorem dJ13_bitCount_95d88_21 : decode cJ13_bitCount_95d88 21 = .ok (.land, 1) := by decide +kernel
theorem dJ13_bitCount_95d88_22 : decode cJ13_bitCount_95d88 22 = .ok (.ladd, 1) := by decide +kernel
theorem dJ13_bitCount_95d88_23 : decode cJ13_bitCount_95d88 23 = .ok (.lstore_n 0, 1) := by decide +kernel
theorem dJ13_bitCount_95d88_24 : decode cJ13_bitCount_95d88 24 = .ok (.lload_n 0, 1) := by decide +kernel
theorem dJ13_bitCount_95d88_25 : decode cJ13_bitCount_95d88 25 = .ok (.lload_n 0, 1) := by decide +kernel
theorem dJ13_bitCount_95d88_26 : decode cJ13_bitCount_95d88 26 = .ok (.iconst 4, 1) := by decide +kernel
theorem dJ13_bitCount_95d88_27 : decode cJ13_bitCount_95d88 27 = .ok (.lushr, 1) := by decide +kernel
theorem dJ13_bitCount_95d88_28 : decode cJ13_bitCount_95d88 28 = .ok (.ladd, 1) := by decide +kernel
theorem dJ13_bitCount_95d88_29 : decode cJ13_bitCount_95d88 29 = .ok (.ldc2_w 318, 3) := by decide +kernel
theorem dJ13_bitCount_95d88_32 : decode cJ13_bitCount_95d88 32 = .ok (.land, 1) := by decide +kernel
theorem dJ13_bitCount_95d88_33 : decode cJ13_bitCount_95d88 33 = .ok (.lstore_n 0, 1) := by decide +kernel
theorem dJ13_bitCount_95d88_34 : decode cJ13_bitCount_95d88 34 = .ok (.lload_n 0, 1) := by decide +kernel
theorem dJ13_bitCount_95d88_35 : decode cJ13_bitCount_95d88 35 = .ok (.lload_n 0, 1) := by decide +kernel
theorem dJ13_bitCount_95d88_36 : decode cJ13_bitCount_95d88 36 = .ok (.bipush 8, 2) := by decide +kernel
theorem dJ13_bitCount_95d88_38 : decode cJ13_bitCount_95d88 38 = .ok (.lushr, 1) := by decide +kernel
theorem dJ13_bitCount_95d88_39 : decode cJ13_bitCount_95d88 39 = .ok (.ladd, 1) := by decide +kernel
theorem dJ13_bitCount_95d88_40 : decode cJ13_bitCount_95d88 40 = .ok (.lstore_n 0, 1) := by decide +kernel
theorem dJ13_bitCount_95d88_41 : decode cJ13_bitCount_95d88 41 = .ok (.lload_n 0, 1) := by decide +kernel
theorem dJ13_bitCount_95d88_42 : decode cJ13_bitCount_95d88 42 = .ok (.lload_n 0, 1) := by decide +kernel
theorem dJ13_bitCount_95d88_43 : decode cJ13_bitCount_95d88 43 = .ok (.bipush 16, 2) := by decide +kernel
theorem dJ13_bitCount_95d88_45 : decode cJ13_bitCount_95d88 45 = .ok (.lushr, 1) := by decide +kernel
theorem dJ13_bitCount_95d88_46 : decode cJ13_bitCount_95d88 46 = .ok (.ladd, 1) := by decide +kernel
theorem dJ13_bitCount_95d88_47 : decode cJ13_bitCount_95d88 47 = .ok (.lstore_n 0, 1) := by decide +kernel
theorem dJ13_bitCount_95d88_48 : decode cJ13_bitCount_95d88 48 = .ok (.lload_n 0, 1) := by decide +kernel
theorem dJ13_bitCount_95d88_49 : decode cJ13_bitCount_95d88 49 = .ok (.lload_n 0, 1) := by decide +kernel
theorem dJ13_bitCount_95d88_50 : decode cJ13_bitCount_95d88 50 = .ok (.bipush 32, 2) := by decide +kernel
theorem dJ13_bitCount_95d88_52 : decode cJ13_bitCount_95d88 52 = .ok (.lushr, 1) := by decide +kernel
theorem dJ13_bitCount_95d88_53 : decode cJ13_bitCount_95d88 53 = .ok (.ladd, 1) := by decide +kernel
theorem dJ13_bitCount_95d88_54 : decode cJ13_bitCount_95d88 54 = .ok (.lstore_n 0, 1) := by decide +kernel
theorem dJ13_bitCount_95d88_55 : decode cJ13_bitCount_95d88 55 = .ok (.lload_n 0, 1) := by decide +kernel
theorem dJ13_bitCount_95d88_56 : decode cJ13_bitCount_95d88 56 = .ok (.l2i, 1) := by decide +kernel
theorem dJ13_bitCount_95d88_57 : decode cJ13_bitCount_95d88 57 = .ok (.bipush 127, 2) := by decide +kernel
theorem dJ13_bitCount_95d88_59 : decode cJ13_bitCount_95d88 59 = .ok (.iand, 1) := by decide +kernel
theorem dJ13_bitCount_95d88_60 : decode cJ13_bitCount_95d88 60 = .ok (.ireturn, 1) := by decide +kernel
theorem dJ9_max_7cf53_0 : decode cJ9_max_7cf53 0 = .ok (.iload_n 0, 1) := by decide +kernel
theorem dJ9_max_7cf53_1 : decode cJ9_max_7cf53 1 = .ok (.iload_n 1, 1) := by decide +kernel
theorem dJ9_max_7cf53_2 : decode cJ9_max_7cf53 2 = .ok (.if_icmp .lt 7, 3) := by decide +kernel
theorem dJ9_max_7cf53_5 : decode cJ9_max_7cf53 5 = .ok (.iload_n 0, 1) := by decide +kernel
theorem dJ9_max_7cf53_6 : decode cJ9_max_7cf53 6 = .ok (.goto 4, 3) := by decide +kernel
theorem dJ9_max_7cf53_9 : decode cJ9_max_7cf53 9 = .ok (.iload_n 1, 1) := by decide +kernel
theorem dJ9_max_7cf53_10 : decode cJ9_max_7cf53 10 = .ok (.ireturn, 1) := by decide +kernel
